noncomputable def v_c_m_in : List Cond := .code yX12_in cX12_in 3 (some .boolean) :: ([] ++ ([]))
theorem t_v_c_m_in : ∀ w ∈ v_c_m_in, w ∈ lw_tbl := tb_c (List.mem_of_getElem? (i := 2500) (by decide +kernel)) (tb_a (tb_n) (tb_n))
set_option maxHeartbeats 400000 in
set_option maxRecDepth 100000 in
/-- in(v, a, b) -/
theorem c_m_in (l : Launch) (D : va_G) (v0 a0 b0 : Int32) (sz : Nat) : Met l yX12_in v_c_m_in ({ frames := 1, cells := 0, slots := 0, locals := 12 }) (va_Pc [.int v0, .int a0, .int b0] (st_ D [] [] sz)) (va_Qi (fun (r : Int32) (_ : Unit) => (r = 1 ∧ ¬ v0 < a0 ∧ ¬ b0 < v0) ∨ (r = 0 ∧ (v0 < a0 ∨ b0 < v0))) (fun _ _ => True) (va_A [] sz)) 0 0 (va_A [] sz) := by
  refine Met.ofW (cc := cX12_in) (maxL := 3) (ret := (some .boolean)) (by decide) rfl ?_
  intro p e s m args below meth c s₁ B hml hv
  obtain ⟨rfl, hsz, hP, hK, hD0, hZ, hE⟩ := hv
  have hx := B.exec
  have hb := B.bytes
  have hr := B.returns
  have hts := atoms_spec (ws := v_c_m_in) B.pre
  have hown : s.vm.findClass RX12 = some m.cls := findClass_of_methodNamed B.named
  have hlocks := B.notSynchronized
  subst hsz
  have hD := hD0.self (sz := s.heap.size)
  generalize hAe : va_A [] s.heap.size = A at hD hZ ⊢
  have hA : ∀ q : Nat, s.heap.size ≤ q → A q := fun q h => by rw [← hAe]; exact Or.inr h
  have hS : va_S A s.heap s.heap [] := va_S.rf
  have hAO := hE.2.2.2.1
  have hP : va_P D vwCl [] s.heap := hP
  have hl := lv_entry ([.int v0, .int a0, .int b0]) (n := 3) (Nat.le_of_ble_eq_true rfl)
  rw [lg_entry_eq]
  generalize (lg_sl ([.int v0, .int a0, .int b0]) ++ List.replicate (3 - (lg_sl ([.int v0, .int a0, .int b0])).length) Slot.unset).toArray = ls at hl ⊢
  have hl : lv_has ls 3 [(0, .int v0), (1, .int a0), (2, .int b0)] := hl
  refine lv_iload_n hx hb dX12_in_0 rfl (lv_at hl 0 rfl) ?_
  refine lv_iload_n hx hb dX12_in_1 rfl (lv_at hl 1 rfl) ?_
  refine lv_icmp_lt (tgt := 14) hx hb dX12_in_2 (by decide) (fun c1 => ?_) (fun c1 => ?_)
  · refine lv_iconst (v := 0) hx hb dX12_in_14 (by decide +kernel) ?_
    exact W.zret (v := 0) hx hb hr rfl (fun t ht hW => ⟨⟨0, (), rfl, Or.inr ⟨rfl, Or.inl c1⟩, trivial⟩, hS.F ht⟩) hS.2.2 dX12_in_15
  · refine lv_iload_n hx hb dX12_in_5 rfl (lv_at hl 0 rfl) ?_
    refine lv_iload_n hx hb dX12_in_6 rfl (lv_at hl 2 rfl) ?_
    refine lv_icmp_gt (tgt := 14) hx hb dX12_in_7 (by decide) (fun c2 => ?_) (fun c2 => ?_)
    · refine lv_iconst (v := 0) hx hb dX12_in_14 (by decide +kernel) ?_
      exact W.zret (v := 0) hx hb hr rfl (fun t ht hW => ⟨⟨0, (), rfl, Or.inr ⟨rfl, Or.inr c2⟩, trivial⟩, hS.F ht⟩) hS.2.2 dX12_in_15
    · refine lv_iconst (v := 1) hx hb dX12_in_10 (by decide +kernel) ?_
      refine lv_goto (tgt := 15) hx hb dX12_in_11 (by decide) ?_
      exact W.zret (v := 1) hx hb hr rfl (fun t ht hW => ⟨⟨1, (), rfl, Or.inl ⟨rfl, c1, c2⟩, trivial⟩, hS.F ht⟩) hS.2.2 dX12_in_15
noncomputable def v_c_m_refuses_no : List Cond := .code yX12_refuses cX12_refuses 3 (some .boolean) :: ([.fieldLink RX12 316 "ScheduleHouseModel" "thrown" "I"] ++ (wsX120 ++ ([])))
theorem i_v_c_m_refuses_no_X12 : ∀ w ∈ wsX120, w ∈ v_c_m_refuses_no := fun _ h => List.mem_cons_of_mem _ (List.mem_append_right _ (List.mem_append_left _ h))
theorem t_v_c_m_refuses_no : ∀ w ∈ v_c_m_refuses_no, w ∈ lw_tbl := tb_c (List.mem_of_getElem? (i := 2504) (by decide +kernel)) (tb_a (tb_c (List.mem_of_getElem? (i := 2072) (by decide +kernel)) (tb_n)) (tb_a (tw_wsX120) (tb_n)))
set_option maxHeartbeats 400000 in
set_option maxRecDepth 100000 in
/-- refuses(0, k) -/
theorem c_m_refuses_no (l : Launch) (D : va_G) (h0 : Nat) (fs : List Value) (k0 : Int32) (sz : Nat) (hlen : fs.length = 139) (hf_thrown : fs[0]? = some (.int 0)) : Met l yX12_refuses v_c_m_refuses_no ({ frames := 1, cells := 0, slots := 0, locals := 12 }) (va_Pc [.ref h0, .int 0, .int k0] (st_ D [(h0, .inr (12, fs))] [] sz)) (va_Qi (fun (r : Int32) (u : List Value) => r = 0 ∧ u = fs) (fun u t => va_P D vwCl [(h0, .inr (12, u))] t.heap ∧ va_K D vwCl [] t ∧ va_D (va_A [(h0, .inr (12, fs))] sz) [(h0, .inr (12, u))]) (va_A [(h0, .inr (12, fs))] sz)) 0 0 (va_A [(h0, .inr (12, fs))] sz) := by
  refine Met.ofW (cc := cX12_refuses) (maxL := 3) (ret := (some .boolean)) (by decide) rfl ?_
  intro p e s m args below meth c s₁ B hml hv
  obtain ⟨rfl, hsz, hP, hK, hD0, hZ, hE⟩ := hv
  have hx := B.exec
  have hb := B.bytes
  have hr := B.returns
  have hts := atoms_spec (ws := v_c_m_refuses_no) B.pre
  have hown : s.vm.findClass RX12 = some m.cls := findClass_of_methodNamed B.named
  have hlocks := B.notSynchronized
  subst hsz
  have hD := hD0.self (sz := s.heap.size)
  generalize hAe : va_A [(h0, .inr (12, fs))] s.heap.size = A at hD hZ ⊢
  have hA : ∀ q : Nat, s.heap.size ≤ q → A q := fun q h => by rw [← hAe]; exact Or.inr h
  have hS : va_S A s.heap s.heap [] := va_S.rf
  have hAO := hE.2.2.2.1
  have hP : va_P D vwCl [(h0, .inr (12, fs))] s.heap := hP
  have hl := lv_entry ([.ref h0, .int 0, .int k0]) (n := 3) (Nat.le_of_ble_eq_true rfl)
  rw [lg_entry_eq]
  generalize (lg_sl ([.ref h0, .int 0, .int k0]) ++ List.replicate (3 - (lg_sl ([.ref h0, .int 0, .int k0])).length) Slot.unset).toArray = ls at hl ⊢
  have hl : lv_has ls 3 [(0, .ref h0), (1, .int 0), (2, .int k0)] := hl
  refine lv_aload_n hx hb dX12_refuses_0 rfl (lv_at hl 0 rfl) ?_
  refine va_get (D := D) (ci := 12) (v := .int 0) (C := RX12) (T := TX12) (N := 139) hx hb hts i_v_c_m_refuses_no_X12 hown hK hP 0 rfl rfl 0 (by decide) (hts (.fieldLink RX12 316 "ScheduleHouseModel" "thrown" "I") (by decide +kernel)) (fun _ h9 => h9) hf_thrown dX12_refuses_1 ?_
  refine lv_if_ne (tgt := 16) hx hb dX12_refuses_4 (by decide) (fun c9 => absurd rfl c9) (fun _ => ?_)
  refine lv_iload_n hx hb dX12_refuses_7 rfl (lv_at hl 1 rfl) ?_
  refine lv_if_eq (tgt := 16) hx hb dX12_refuses_8 (by decide) (fun _ => ?_) (fun c9 => absurd rfl c9)
  refine lv_aload_n hx hb dX12_refuses_16 rfl (lv_at hl 0 rfl) ?_
  refine va_get (D := D) (ci := 12) (v := .int 0) (C := RX12) (T := TX12) (N := 139) hx hb hts i_v_c_m_refuses_no_X12 hown hK hP 0 rfl rfl 0 (by decide) (hts (.fieldLink RX12 316 "ScheduleHouseModel" "thrown" "I") (by decide +kernel)) (fun _ h9 => h9) hf_thrown dX12_refuses_17 ?_
  refine lv_if_le (tgt := 27) hx hb dX12_refuses_20 (by decide) (fun _ => ?_) (fun c9 => absurd (by decide) c9)
  refine lv_iconst (v := 0) hx hb dX12_refuses_27 (by decide +kernel) ?_
  exact W.zret (v := 0) hx hb hr rfl (fun t ht hW => ⟨⟨0, fs, rfl, ⟨rfl, rfl⟩, by rw [ht]; exact hP, va_K.moved hW.alike hK, hD⟩, hS.F ht⟩) hS.2.2 dX12_refuses_28
noncomputable def v_c_m_refuses_y1 : List Cond := .code yX12_refuses cX12_refuses 3 (some .boolean) :: ([.fieldLink RX12 316 "ScheduleHouseModel" "thrown" "I"] ++ (wsX120 ++ ([])))
theorem i_v_c_m_refuses_y1_X12 : ∀ w ∈ wsX120, w ∈ v_c_m_refuses_y1 := fun _ h => List.mem_cons_of_mem _ (List.mem_append_right _ (List.mem_append_left _ h))
theorem t_v_c_m_refuses_y1 : ∀ w ∈ v_c_m_refuses_y1, w ∈ lw_tbl := tb_c (List.mem_of_getElem? (i := 2504) (by decide +kernel)) (tb_a (tb_c (List.mem_of_getElem? (i := 2072) (by decide +kernel)) (tb_n)) (tb_a (tw_wsX120) (tb_n)))
set_option maxHeartbeats 400000 in
set_option maxRecDepth 100000 in
/-- refuses(1, 1) -/
theorem c_m_refuses_y1 (l : Launch) (D : va_G) (h0 : Nat) (fs : List Value) (sz : Nat) (hlen : fs.length = 139) (hf_thrown : fs[0]? = some (.int 0)) : Met l yX12_refuses v_c_m_refuses_y1 ({ frames := 1, cells := 0, slots := 0, locals := 12 }) (va_Pc [.ref h0, .int 1, .int 1] (st_ D [(h0, .inr (12, fs))] [] sz)) (va_Qi (fun (r : Int32) (u : List Value) => r = 1 ∧ u = fs.set 0 (.int 1)) (fun u t => va_P D vwCl [(h0, .inr (12, u))] t.heap ∧ va_K D vwCl [] t ∧ va_D (va_A [(h0, .inr (12, fs))] sz) [(h0, .inr (12, u))]) (va_A [(h0, .inr (12, fs))] sz)) 0 0 (va_A [(h0, .inr (12, fs))] sz) := by
  refine Met.ofW (cc := cX12_refuses) (maxL := 3) (ret := (some .boolean)) (by decide) rfl ?_
  intro p e s m args below meth c s₁ B hml hv
  obtain ⟨rfl, hsz, hP, hK, hD0, hZ, hE⟩ := hv
  have hx := B.exec
  have hb := B.bytes
  have hr := B.returns
  have hts := atoms_spec (ws := v_c_m_refuses_y1) B.pre
  have hown : s.vm.findClass RX12 = some m.cls := findClass_of_methodNamed B.named
  have hlocks := B.notSynchronized
  subst hsz
  have hD := hD0.self (sz := s.heap.size)
  generalize hAe : va_A [(h0, .inr (12, fs))] s.heap.size = A at hD hZ ⊢
  have hA : ∀ q : Nat, s.heap.size ≤ q → A q := fun q h => by rw [← hAe]; exact Or.inr h
  have hS : va_S A s.heap s.heap [] := va_S.rf
  have hAO := hE.2.2.2.1
  have hP : va_P D vwCl [(h0, .inr (12, fs))] s.heap := hP
  have hl := lv_entry ([.ref h0, .int 1, .int 1]) (n := 3) (Nat.le_of_ble_eq_true rfl)
  rw [lg_entry_eq]
  generalize (lg_sl ([.ref h0, .int 1, .int 1]) ++ List.replicate (3 - (lg_sl ([.ref h0, .int 1, .int 1])).length) Slot.unset).toArray = ls at hl ⊢
  have hl : lv_has ls 3 [(0, .ref h0), (1, .int 1), (2, .int 1)] := hl
  refine lv_aload_n hx hb dX12_refuses_0 rfl (lv_at hl 0 rfl) ?_
  refine va_get (D := D) (ci := 12) (v := .int 0) (C := RX12) (T := TX12) (N := 139) hx hb hts i_v_c_m_refuses_y1_X12 hown hK hP 0 rfl rfl 0 (by decide) (hts (.fieldLink RX12 316 "ScheduleHouseModel" "thrown" "I") (by decide +kernel)) (fun _ h9 => h9) hf_thrown dX12_refuses_1 ?_
  refine lv_if_ne (tgt := 16) hx hb dX12_refuses_4 (by decide) (fun c9 => absurd rfl c9) (fun _ => ?_)
  refine lv_iload_n hx hb dX12_refuses_7 rfl (lv_at hl 1 rfl) ?_
  refine lv_if_eq (tgt := 16) hx hb dX12_refuses_8 (by decide) (fun c9 => absurd c9 (by decide)) (fun _ => ?_)
  refine lv_aload_n hx hb dX12_refuses_11 rfl (lv_at hl 0 rfl) ?_
  refine lv_iload_n hx hb dX12_refuses_12 rfl (lv_at hl 2 rfl) ?_
  refine va_put (D := D) (ci := 12) (v := .int 1) (ty := .int) (C := RX12) (T := TX12) (N := 139) hx hb hts i_v_c_m_refuses_y1_X12 tyX12 tyX12_ok nmX12 hown hK hP hD hS 0 rfl rfl 0 (by decide) (hts (.fieldLink RX12 316 "ScheduleHouseModel" "thrown" "I") (by decide +kernel)) (fun _ h9 => h9) rfl (by decide +kernel) rfl rfl (by rw [hlen]; decide) dX12_refuses_13 (fun H locs hP hD hS => ?_)
  obtain ⟨fs1, hfs1⟩ : ∃ z, z = fs.set 0 (.int 1) := ⟨_, rfl⟩
  rw [← hfs1] at hP hD
  have lfs1 : fs1.length = 139 := by rw [hfs1, List.length_set]; exact hlen
  have gfs1_0 : fs1[0]? = some (.int 1) := by rw [hfs1]; exact List.getElem?_set_self (by rw [hlen]; decide)
  have hP : va_P D vwCl [(h0, .inr (12, fs1))] H := hP
  have hD : va_D A [(h0, .inr (12, fs1))] := hD
  refine lv_aload_n hx hb dX12_refuses_16 rfl (lv_at hl 0 rfl) ?_
  refine va_get (D := D) (ci := 12) (v := .int 1) (C := RX12) (T := TX12) (N := 139) hx hb hts i_v_c_m_refuses_y1_X12 hown hK hP 0 rfl rfl 0 (by decide) (hts (.fieldLink RX12 316 "ScheduleHouseModel" "thrown" "I") (by decide +kernel)) (fun _ h9 => h9) gfs1_0 dX12_refuses_17 ?_
  refine lv_if_le (tgt := 27) hx hb dX12_refuses_20 (by decide) (fun c9 => absurd c9 (by decide)) (fun _ => ?_)
  refine lv_iconst (v := 1) hx hb dX12_refuses_23 (by decide +kernel) ?_
  refine lv_goto (tgt := 28) hx hb dX12_refuses_24 (by decide) ?_
  exact W.zret (v := 1) hx hb hr rfl (fun t ht hW => ⟨⟨1, fs1, rfl, ⟨rfl, hfs1⟩, by rw [ht]; exact hP, va_K.moved hW.alike hK, hD⟩, hS.F ht⟩) hS.2.2 dX12_refuses_28
noncomputable def v_c_m_refuses_y2 : List Cond := .code yX12_refuses cX12_refuses 3 (some .boolean) :: ([.fieldLink RX12 316 "ScheduleHouseModel" "thrown" "I"] ++ (wsX120 ++ ([])))
theorem i_v_c_m_refuses_y2_X12 : ∀ w ∈ wsX120, w ∈ v_c_m_refuses_y2 := fun _ h => List.mem_cons_of_mem _ (List.mem_append_right _ (List.mem_append_left _ h))
theorem t_v_c_m_refuses_y2 : ∀ w ∈ v_c_m_refuses_y2, w ∈ lw_tbl := tb_c (List.mem_of_getElem? (i := 2504) (by decide +kernel)) (tb_a (tb_c (List.mem_of_getElem? (i := 2072) (by decide +kernel)) (tb_n)) (tb_a (tw_wsX120) (tb_n)))
set_option maxHeartbeats 400000 in
set_option maxRecDepth 100000 in
/-- refuses(1, 2) -/
theorem c_m_refuses_y2 (l : Launch) (D : va_G) (h0 : Nat) (fs : List Value) (sz : Nat) (hlen : fs.length = 139) (hf_thrown : fs[0]? = some (.int 0)) : Met l yX12_refuses v_c_m_refuses_y2 ({ frames := 1, cells := 0, slots := 0, locals := 12 }) (va_Pc [.ref h0, .int 1, .int 2] (st_ D [(h0, .inr (12, fs))] [] sz)) (va_Qi (fun (r : Int32) (u : List Value) => r = 1 ∧ u = fs.set 0 (.int 2)) (fun u t => va_P D vwCl [(h0, .inr (12, u))] t.heap ∧ va_K D vwCl [] t ∧ va_D (va_A [(h0, .inr (12, fs))] sz) [(h0, .inr (12, u))]) (va_A [(h0, .inr (12, fs))] sz)) 0 0 (va_A [(h0, .inr (12, fs))] sz) := by
  refine Met.ofW (cc := cX12_refuses) (maxL := 3) (ret := (some .boolean)) (by decide) rfl ?_
  intro p e s m args below meth c s₁ B hml hv
  obtain ⟨rfl, hsz, hP, hK, hD0, hZ, hE⟩ := hv
  have hx := B.exec
  have hb := B.bytes
  have hr := B.returns
  have hts := atoms_spec (ws := v_c_m_refuses_y2) B.pre
  have hown : s.vm.findClass RX12 = some m.cls := findClass_of_methodNamed B.named
  have hlocks := B.notSynchronized
  subst hsz
  have hD := hD0.self (sz := s.heap.size)
  generalize hAe : va_A [(h0, .inr (12, fs))] s.heap.size = A at hD hZ ⊢
  have hA : ∀ q : Nat, s.heap.size ≤ q → A q := fun q h => by rw [← hAe]; exact Or.inr h
  have hS : va_S A s.heap s.heap [] := va_S.rf
  have hAO := hE.2.2.2.1
  have hP : va_P D vwCl [(h0, .inr (12, fs))] s.heap := hP
  have hl := lv_entry ([.ref h0, .int 1, .int 2]) (n := 3) (Nat.le_of_ble_eq_true rfl)
  rw [lg_entry_eq]
  generalize (lg_sl ([.ref h0, .int 1, .int 2]) ++ List.replicate (3 - (lg_sl ([.ref h0, .int 1, .int 2])).length) Slot.unset).toArray = ls at hl ⊢
  have hl : lv_has ls 3 [(0, .ref h0), (1, .int 1), (2, .int 2)] := hl
  refine lv_aload_n hx hb dX12_refuses_0 rfl (lv_at hl 0 rfl) ?_
  refine va_get (D := D) (ci := 12) (v := .int 0) (C := RX12) (T := TX12) (N := 139) hx hb hts i_v_c_m_refuses_y2_X12 hown hK hP 0 rfl rfl 0 (by decide) (hts (.fieldLink RX12 316 "ScheduleHouseModel" "thrown" "I") (by decide +kernel)) (fun _ h9 => h9) hf_thrown dX12_refuses_1 ?_
  refine lv_if_ne (tgt := 16) hx hb dX12_refuses_4 (by decide) (fun c9 => absurd rfl c9) (fun _ => ?_)
  refine lv_iload_n hx hb dX12_refuses_7 rfl (lv_at hl 1 rfl) ?_
  refine lv_if_eq (tgt := 16) hx hb dX12_refuses_8 (by decide) (fun c9 => absurd c9 (by decide)) (fun _ => ?_)
  refine lv_aload_n hx hb dX12_refuses_11 rfl (lv_at hl 0 rfl) ?_
  refine lv_iload_n hx hb dX12_refuses_12 rfl (lv_at hl 2 rfl) ?_
  refine va_put (D := D) (ci := 12) (v := .int 2) (ty := .int) (C := RX12) (T := TX12) (N := 139) hx hb hts i_v_c_m_refuses_y2_X12 tyX12 tyX12_ok nmX12 hown hK hP hD hS 0 rfl rfl 0 (by decide) (hts (.fieldLink RX12 316 "ScheduleHouseModel" "thrown" "I") (by decide +kernel)) (fun _ h9 => h9) rfl (by decide +kernel) rfl rfl (by rw [hlen]; decide) dX12_refuses_13 (fun H locs hP hD hS => ?_)
  obtain ⟨fs1, hfs1⟩ : ∃ z, z = fs.set 0 (.int 2) := ⟨_, rfl⟩
  rw [← hfs1] at hP hD
  have lfs1 : fs1.length = 139 := by rw [hfs1, List.length_set]; exact hlen
  have gfs1_0 : fs1[0]? = some (.int 2) := by rw [hfs1]; exact List.getElem?_set_self (by rw [hlen]; decide)
  have hP : va_P D vwCl [(h0, .inr (12, fs1))] H := hP
  have hD : va_D A [(h0, .inr (12, fs1))] := hD
  refine lv_aload_n hx hb dX12_refuses_16 rfl (lv_at hl 0 rfl) ?_
  refine va_get (D := D) (ci := 12) (v := .int 2) (C := RX12) (T := TX12) (N := 139) hx hb hts i_v_c_m_refuses_y2_X12 hown hK hP 0 rfl rfl 0 (by decide) (hts (.fieldLink RX12 316 "ScheduleHouseModel" "thrown" "I") (by decide +kernel)) (fun _ h9 => h9) gfs1_0 dX12_refuses_17 ?_
  refine lv_if_le (tgt := 27) hx hb dX12_refuses_20 (by decide) (fun c9 => absurd c9 (by decide)) (fun _ => ?_)
  refine lv_iconst (v := 1) hx hb dX12_refuses_23 (by decide +kernel) ?_
  refine lv_goto (tgt := 28) hx hb dX12_refuses_24 (by decide) ?_
  exact W.zret (v := 1) hx hb hr rfl (fun t ht hW => ⟨⟨1, fs1, rfl, ⟨rfl, hfs1⟩, by rw [ht]; exact hP, va_K.moved hW.alike hK, hD⟩, hS.F ht⟩) hS.2.2 dX12_refuses_28
noncomputable def v_c_m_noRun : List Cond := .code yX12_noRun cX12_noRun 1 (some .boolean) :: ([.fieldLink RX12 569 "ScheduleHouseModel" "hasRun" "Z"] ++ (wsX120 ++ ((wsV RX12 558 RX12 yX12_refuses v_c_m_refuses_y1) ++ ([]))))
theorem i_v_c_m_noRun_X12 : ∀ w ∈ wsX120, w ∈ v_c_m_noRun := fun _ h => List.mem_cons_of_mem _ (List.mem_append_right _ (List.mem_append_left _ h))
theorem g_v_c_m_noRun_1 : GoodIn v_c_m_noRun (wsV RX12 558 RX12 yX12_refuses v_c_m_refuses_y1) := goodIn_sub (fun _ h => List.mem_cons_of_mem _ (List.mem_append_right _ (List.mem_append_right _ (List.mem_append_left _ h)))) (by decide +kernel)
theorem t_v_c_m_noRun : ∀ w ∈ v_c_m_noRun, w ∈ lw_tbl := tb_c (List.mem_of_getElem? (i := 2798) (by decide +kernel)) (tb_a (tb_c (List.mem_of_getElem? (i := 2138) (by decide +kernel)) (tb_n)) (tb_a (tw_wsX120) (tb_a (tb_a (tb_c (List.mem_of_getElem? (i := 2501) (by decide +kernel)) (tb_c (List.mem_of_getElem? (i := 2503) (by decide +kernel)) (tb_c (List.mem_of_getElem? (i := 113) (by decide +kernel)) (tb_c (List.mem_of_getElem? (i := 215) (by decide +kernel)) (tb_n))))) t_v_c_m_refuses_y1) (tb_n))))
set_option maxHeartbeats 400000 in
set_option maxRecDepth 100000 in
/-- noRun(): there is none -/
theorem c_m_noRun (l : Launch) (D : va_G) (h0 : Nat) (fs : List Value) (sz : Nat) (hlen : fs.length = 139) (hf_thrown : fs[0]? = some (.int 0)) (hf_hasRun : fs[67]? = some (.int 0)) : Met l yX12_noRun v_c_m_noRun ({ frames := 3, cells := 0, slots := 0, locals := 40 }) (va_Pc [.ref h0] (st_ D [(h0, .inr (12, fs))] [] sz)) (va_Qi (fun (r : Int32) (u : List Value) => r = 1 ∧ u[0]? = some (.int 1) ∧ u.length = 139) (fun u t => va_P D vwCl [(h0, .inr (12, u))] t.heap ∧ va_K D vwCl [] t ∧ va_D (va_A [(h0, .inr (12, fs))] sz) [(h0, .inr (12, u))]) (va_A [(h0, .inr (12, fs))] sz)) 0 0 (va_A [(h0, .inr (12, fs))] sz) := by
  refine Met.ofW (cc := cX12_noRun) (maxL := 1) (ret := (some .boolean)) (by decide) rfl ?_
  intro p e s m args below meth c s₁ B hml hv
  obtain ⟨rfl, hsz, hP, hK, hD0, hZ, hE⟩ := hv
  have hx := B.exec
  have hb := B.bytes
  have hr := B.returns
  have hts := atoms_spec (ws := v_c_m_noRun) B.pre
  have hown : s.vm.findClass RX12 = some m.cls := findClass_of_methodNamed B.named
  have hlocks := B.notSynchronized
  subst hsz
  have hD := hD0.self (sz := s.heap.size)
  generalize hAe : va_A [(h0, .inr (12, fs))] s.heap.size = A at hD hZ ⊢
  have hA : ∀ q : Nat, s.heap.size ≤ q → A q := fun q h => by rw [← hAe]; exact Or.inr h
  have hS : va_S A s.heap s.heap [] := va_S.rf
  have hAO := hE.2.2.2.1
  have hP : va_P D vwCl [(h0, .inr (12, fs))] s.heap := hP
  have hl := lv_entry ([.ref h0]) (n := 1) (Nat.le_of_ble_eq_true rfl)
  rw [lg_entry_eq]
  generalize (lg_sl ([.ref h0]) ++ List.replicate (1 - (lg_sl ([.ref h0])).length) Slot.unset).toArray = ls at hl ⊢
  have hl : lv_has ls 1 [(0, .ref h0)] := hl
  refine lv_aload_n hx hb dX12_noRun_0 rfl (lv_at hl 0 rfl) ?_
  refine lv_aload_n hx hb dX12_noRun_1 rfl (lv_at hl 0 rfl) ?_
  refine va_get (D := D) (ci := 12) (v := .int 0) (C := RX12) (T := TX12) (N := 139) hx hb hts i_v_c_m_noRun_X12 hown hK hP 0 rfl rfl 67 (by decide) (hts (.fieldLink RX12 569 "ScheduleHouseModel" "hasRun" "Z") (by decide +kernel)) (fun _ h9 => h9) hf_hasRun dX12_noRun_2 ?_
  refine lv_if_ne (tgt := 12) hx hb dX12_noRun_5 (by decide) (fun c9 => False.elim (by revert c9; decide)) (fun _ => ?_)
  refine lv_iconst (v := 1) hx hb dX12_noRun_8 (by decide +kernel) ?_
  refine lv_goto (tgt := 13) hx hb dX12_noRun_9 (by decide) ?_
  refine lv_iconst (v := 1) hx hb dX12_noRun_13 (by decide +kernel) ?_
  have hPc := hP.sub (ws' := [(h0, .inr (12, fs))]) [0] rfl
  have hDc := hD.sub (ws' := [(h0, .inr (12, fs))]) [0] (by decide) rfl
  have hKc := hK.sub (tys' := []) [] rfl
  have hFc := va_free (wc := [(h0, .inr (12, fs))]) hD hS hA [0] rfl
  refine va_calli (va_runV (As := [.int 1, .int 1]) (rest := []) ⟨hx, hb, hml, hown, hts⟩ (c_m_refuses_y1 l D h0 fs s.heap.size hlen hf_thrown) (cwV 2 hts g_v_c_m_noRun_1 rfl rfl rfl (by decide +kernel) ⟨Nat.le_of_ble_eq_true rfl, Nat.le_of_ble_eq_true rfl⟩) ⟨st_blind, va_recv hKc hPc (ci := 12) (q0 := 0) rfl rfl, fun U hU hW => ⟨rfl, st_call hU hW hPc hKc hDc hZ hS hFc hE⟩⟩ rfl rfl hl.1 rfl (lv_room (Nat.le_of_ble_eq_true rfl)) dX12_noRun_14 ⟨Nat.le_of_ble_eq_true rfl, Nat.le_of_ble_eq_true rfl⟩) hS (fun q _ h => hFc q h) hFc (fun r1 u2 t H1 locs ht hvm hw hB hz1 hk1 hS => ?_)
  obtain ⟨er1, eu2⟩ := hw
  have lu2 : u2.length = 139 := by rw [eu2, List.length_set]; exact hlen
  have gu2_67 : u2[67]? = some (.int 0) := by rw [eu2]; exact se_ne hf_hasRun (by decide)
  have gu2_0 : u2[0]? = some (.int 1) := by rw [eu2]; exact se_eq (by rw [hlen]; decide)
  obtain ⟨hP1, hK1, hD1⟩ := hB
  rw [ht] at hP1
  have hK1 := va_K.moved hvm.symm hK1
  obtain ⟨hP, hD⟩ := va_join (wr := []) (w1 := [(h0, .inr (12, u2))]) hP hD [0] [] rfl rfl (by decide) (by decide) hk1 hFc hP1 hD1
  have hK := (hK.sub (tys' := []) [] rfl).app hK1
  generalize H1 = H at hP hS ⊢
  have hP : va_P D vwCl [(h0, .inr (12, u2))] H := hP
  have hD : va_D A [(h0, .inr (12, u2))] := hD
  have hK : va_K D vwCl [] s := hK
  subst er1
  exact W.zret (v := 1) hx hb hr rfl (fun t ht hW => ⟨⟨1, u2, rfl, ⟨rfl, gu2_0, lu2⟩, by rw [ht]; exact hP, va_K.moved hW.alike hK, hD⟩, hS.F ht⟩) hS.2.2 dX12_noRun_17
noncomputable def v_c_m_thrown : List Cond := .code yX12_thrown cX12_thrown 1 (some .int) :: ([.fieldLink RX12 316 "ScheduleHouseModel" "thrown" "I"] ++ (wsX120 ++ ([])))
theorem i_v_c_m_thrown_X12 : ∀ w ∈ wsX120, w ∈ v_c_m_thrown := fun _ h => List.mem_cons_of_mem _ (List.mem_append_right _ (List.mem_append_left _ h))
theorem t_v_c_m_thrown : ∀ w ∈ v_c_m_thrown, w ∈ lw_tbl := tb_c (List.mem_of_getElem? (i := 2493) (by decide +kernel)) (tb_a (tb_c (List.mem_of_getElem? (i := 2072) (by decide +kernel)) (tb_n)) (tb_a (tw_wsX120) (tb_n)))
set_option maxHeartbeats 400000 in
set_option maxRecDepth 100000 in
/-- thrown() -/
theorem c_m_thrown (l : Launch) (D : va_G) (h0 : Nat) (fs : List Value) (k0 : Int32) (sz : Nat) (hk : fs[0]? = some (.int k0)) : Met l yX12_thrown v_c_m_thrown ({ frames := 1, cells := 0, slots := 0, locals := 12 }) (va_Pc [.ref h0] (st_ D [(h0, .inr (12, fs))] [] sz)) (va_Qi (fun (r : Int32) (_ : Unit) => r = k0) (fun _ _ => True) (va_A [(h0, .inr (12, fs))] sz)) 0 0 (va_A [(h0, .inr (12, fs))] sz) := by
  refine Met.ofW (cc := cX12_thrown) (maxL := 1) (ret := (some .int)) (by decide) rfl ?_
  intro p e s m args below meth c s₁ B hml hv
  obtain ⟨rfl, hsz, hP, hK, hD0, hZ, hE⟩ := hv
  have hx := B.exec
  have hb := B.bytes
  have hr := B.returns
  have hts := atoms_spec (ws := v_c_m_thrown) B.pre
  have hown : s.vm.findClass RX12 = some m.cls := findClass_of_methodNamed B.named
  have hlocks := B.notSynchronized
  subst hsz
  have hD := hD0.self (sz := s.heap.size)
  generalize hAe : va_A [(h0, .inr (12, fs))] s.heap.size = A at hD hZ ⊢
  have hA : ∀ q : Nat, s.heap.size ≤ q → A q := fun q h => by rw [← hAe]; exact Or.inr h
  have hS : va_S A s.heap s.heap [] := va_S.rf
  have hAO := hE.2.2.2.1
  have hP : va_P D vwCl [(h0, .inr (12, fs))] s.heap := hP
  have hl := lv_entry ([.ref h0]) (n := 1) (Nat.le_of_ble_eq_true rfl)
  rw [lg_entry_eq]
  generalize (lg_sl ([.ref h0]) ++ List.replicate (1 - (lg_sl ([.ref h0])).length) Slot.unset).toArray = ls at hl ⊢
  have hl : lv_has ls 1 [(0, .ref h0)] := hl
  refine lv_aload_n hx hb dX12_thrown_0 rfl (lv_at hl 0 rfl) ?_
  refine va_get (D := D) (ci := 12) (v := .int k0) (C := RX12) (T := TX12) (N := 139) hx hb hts i_v_c_m_thrown_X12 hown hK hP 0 rfl rfl 0 (by decide) (hts (.fieldLink RX12 316 "ScheduleHouseModel" "thrown" "I") (by decide +kernel)) (fun _ h9 => h9) hk dX12_thrown_1 ?_
  exact W.iret (v := k0) hx hb hr (fun t ht hW => ⟨⟨k0, (), rfl, rfl, trivial⟩, hS.F ht⟩) hS.2.2 dX12_thrown_4
noncomputable def v_c_m_begin : List Cond := .code yX12_begin cX12_begin 2 (some .int) :: ([.fieldLink RX12 316 "ScheduleHouseModel" "thrown" "I", .fieldLink RX12 565 "ScheduleHouseModel" "isCompiled" "Z"] ++ (wsX120 ++ ((wsV RX12 558 RX12 yX12_refuses v_c_m_refuses_y1) ++ ([]))))
theorem i_v_c_m_begin_X12 : ∀ w ∈ wsX120, w ∈ v_c_m_begin := fun _ h => List.mem_cons_of_mem _ (List.mem_append_right _ (List.mem_append_left _ h))
theorem g_v_c_m_begin_1 : GoodIn v_c_m_begin (wsV RX12 558 RX12 yX12_refuses v_c_m_refuses_y1) := goodIn_sub (fun _ h => List.mem_cons_of_mem _ (List.mem_append_right _ (List.mem_append_right _ (List.mem_append_left _ h)))) (by decide +kernel)
theorem t_v_c_m_begin : ∀ w ∈ v_c_m_begin, w ∈ lw_tbl := tb_c (List.mem_of_getElem? (i := 2739) (by decide +kernel)) (tb_a (tb_c (List.mem_of_getElem? (i := 2072) (by decide +kernel)) (tb_c (List.mem_of_getElem? (i := 2137) (by decide +kernel)) (tb_n))) (tb_a (tw_wsX120) (tb_a (tb_a (tb_c (List.mem_of_getElem? (i := 2501) (by decide +kernel)) (tb_c (List.mem_of_getElem? (i := 2503) (by decide +kernel)) (tb_c (List.mem_of_getElem? (i := 113) (by decide +kernel)) (tb_c (List.mem_of_getElem? (i := 215) (by decide +kernel)) (tb_n))))) t_v_c_m_refuses_y1) (tb_n))))
set_option maxHeartbeats 400000 in
set_option maxRecDepth 100000 in
/-- the model's begin: refused -/
theorem c_m_begin (l : Launch) (D : va_G) (h0 : Nat) (fs : List Value) (p0 : Int32) (sz : Nat) (hlen : fs.length = 139) (hf_thrown : fs[0]? = some (.int 0)) (hf_isCompiled : fs[66]? = some (.int 0)) : Met l yX12_begin v_c_m_begin ({ frames := 5, cells := 0, slots := 0, locals := 70 }) (va_Pc [.ref h0, .int p0] (st_ D [(h0, .inr (12, fs))] [] sz)) (va_Qi (fun (_ : Int32) (u : List Value) => u[0]? = some (.int 1)) (fun u t => va_P D vwCl [(h0, .inr (12, u))] t.heap ∧ va_K D vwCl [] t ∧ va_D (va_A [(h0, .inr (12, fs))] sz) [(h0, .inr (12, u))]) (va_A [(h0, .inr (12, fs))] sz)) 0 0 (va_A [(h0, .inr (12, fs))] sz) := by
  refine Met.ofW (cc := cX12_begin) (maxL := 2) (ret := (some .int)) (by decide) rfl ?_
  intro p e s m args below meth c s₁ B hml hv
  obtain ⟨rfl, hsz, hP, hK, hD0, hZ, hE⟩ := hv
  have hx := B.exec
  have hb := B.bytes
  have hr := B.returns
  have hts := atoms_spec (ws := v_c_m_begin) B.pre
  have hown : s.vm.findClass RX12 = some m.cls := findClass_of_methodNamed B.named
  have hlocks := B.notSynchronized
  subst hsz
  have hD := hD0.self (sz := s.heap.size)
  generalize hAe : va_A [(h0, .inr (12, fs))] s.heap.size = A at hD hZ ⊢
  have hA : ∀ q : Nat, s.heap.size ≤ q → A q := fun q h => by rw [← hAe]; exact Or.inr h
  have hS : va_S A s.heap s.heap [] := va_S.rf
  have hAO := hE.2.2.2.1
  have hP : va_P D vwCl [(h0, .inr (12, fs))] s.heap := hP
  have hl := lv_entry ([.ref h0, .int p0]) (n := 2) (Nat.le_of_ble_eq_true rfl)
  rw [lg_entry_eq]
  generalize (lg_sl ([.ref h0, .int p0]) ++ List.replicate (2 - (lg_sl ([.ref h0, .int p0])).length) Slot.unset).toArray = ls at hl ⊢
  have hl : lv_has ls 2 [(0, .ref h0), (1, .int p0)] := hl
  refine lv_aload_n hx hb dX12_begin_0 rfl (lv_at hl 0 rfl) ?_
  refine lv_iconst (v := 0) hx hb dX12_begin_1 (by decide +kernel) ?_
  refine va_put (D := D) (ci := 12) (v := .int 0) (ty := .int) (C := RX12) (T := TX12) (N := 139) hx hb hts i_v_c_m_begin_X12 tyX12 tyX12_ok nmX12 hown hK hP hD hS 0 rfl rfl 0 (by decide) (hts (.fieldLink RX12 316 "ScheduleHouseModel" "thrown" "I") (by decide +kernel)) (fun _ h9 => h9) rfl (by decide +kernel) rfl rfl (by rw [hlen]; decide) dX12_begin_2 (fun H locs hP hD hS => ?_)
  obtain ⟨fs1, hfs1⟩ : ∃ z, z = fs.set 0 (.int 0) := ⟨_, rfl⟩
  rw [← hfs1] at hP hD
  have lfs1 : fs1.length = 139 := by rw [hfs1, List.length_set]; exact hlen
  have gfs1_66 : fs1[66]? = some (.int 0) := by rw [hfs1, List.getElem?_set_ne (by decide)]; exact hf_isCompiled
  have gfs1_0 : fs1[0]? = some (.int 0) := by rw [hfs1]; exact List.getElem?_set_self (by rw [hlen]; decide)
  have hP : va_P D vwCl [(h0, .inr (12, fs1))] H := hP
  have hD : va_D A [(h0, .inr (12, fs1))] := hD
  refine lv_aload_n hx hb dX12_begin_5 rfl (lv_at hl 0 rfl) ?_
  refine lv_aload_n hx hb dX12_begin_6 rfl (lv_at hl 0 rfl) ?_
  refine va_get (D := D) (ci := 12) (v := .int 0) (C := RX12) (T := TX12) (N := 139) hx hb hts i_v_c_m_begin_X12 hown hK hP 0 rfl rfl 66 (by decide) (hts (.fieldLink RX12 565 "ScheduleHouseModel" "isCompiled" "Z") (by decide +kernel)) (fun _ h9 => h9) gfs1_66 dX12_begin_7 ?_
  refine lv_if_ne (tgt := 17) hx hb dX12_begin_10 (by decide) (fun c9 => False.elim (by revert c9; decide)) (fun _ => ?_)
  refine lv_iconst (v := 1) hx hb dX12_begin_13 (by decide +kernel) ?_
  refine lv_goto (tgt := 18) hx hb dX12_begin_14 (by decide) ?_
  refine lv_iconst (v := 1) hx hb dX12_begin_18 (by decide +kernel) ?_
  have hPc := hP.sub (ws' := [(h0, .inr (12, fs1))]) [0] rfl
  have hDc := hD.sub (ws' := [(h0, .inr (12, fs1))]) [0] (by decide) rfl
  have hKc := hK.sub (tys' := []) [] rfl
  have hFc := va_free (wc := [(h0, .inr (12, fs1))]) hD hS hA [0] rfl
  refine va_calli (va_runV (As := [.int 1, .int 1]) (rest := []) ⟨hx, hb, hml, hown, hts⟩ (c_m_refuses_y1 l D h0 fs1 H.size lfs1 gfs1_0) (cwV 2 hts g_v_c_m_begin_1 rfl rfl rfl (by decide +kernel) ⟨Nat.le_of_ble_eq_true rfl, Nat.le_of_ble_eq_true rfl⟩) ⟨st_blind, va_recv hKc hPc (ci := 12) (q0 := 0) rfl rfl, fun U hU hW => ⟨rfl, st_call hU hW hPc hKc hDc hZ hS hFc hE⟩⟩ rfl rfl hl.1 rfl (lv_room (Nat.le_of_ble_eq_true rfl)) dX12_begin_19 ⟨Nat.le_of_ble_eq_true rfl, Nat.le_of_ble_eq_true rfl⟩) hS (fun q _ h => hFc q h) hFc (fun r2 u3 t H1 locs ht hvm hw hB hz1 hk1 hS => ?_)
  obtain ⟨er2, eu3⟩ := hw
  have lu3 : u3.length = 139 := by rw [eu3, List.length_set]; exact lfs1
  have gu3_66 : u3[66]? = some (.int 0) := by rw [eu3]; exact se_ne gfs1_66 (by decide)
  have gu3_0 : u3[0]? = some (.int 1) := by rw [eu3]; exact se_eq (by rw [lfs1]; decide)
  obtain ⟨hP1, hK1, hD1⟩ := hB
  rw [ht] at hP1
  have hK1 := va_K.moved hvm.symm hK1
  obtain ⟨hP, hD⟩ := va_join (wr := []) (w1 := [(h0, .inr (12, u3))]) hP hD [0] [] rfl rfl (by decide) (by decide) hk1 hFc hP1 hD1
  have hK := (hK.sub (tys' := []) [] rfl).app hK1
  generalize H1 = H at hP hS ⊢
  have hP : va_P D vwCl [(h0, .inr (12, u3))] H := hP
  have hD : va_D A [(h0, .inr (12, u3))] := hD
  have hK : va_K D vwCl [] s := hK
  subst er2
  refine lv_if_ne (tgt := 47) hx hb dX12_begin_22 (by decide) (fun _ => ?_) (fun c9 => False.elim (by revert c9; decide))
  refine lv_iconst (v := 0) hx hb dX12_begin_47 (by decide +kernel) ?_
  exact W.iret (v := 0) hx hb hr (fun t ht hW => ⟨⟨0, u3, rfl, gu3_0, by rw [ht]; exact hP, va_K.moved hW.alike hK, hD⟩, hS.F ht⟩) hS.2.2 dX12_begin_48
noncomputable def v_c_m_attempt : List Cond := .code yX12_attempt cX12_attempt 4 (some .int) :: ([.fieldLink RX12 316 "ScheduleHouseModel" "thrown" "I", .fieldLink RX12 565 "ScheduleHouseModel" "isCompiled" "Z"] ++ (wsX120 ++ ((wsV RX12 558 RX12 yX12_refuses v_c_m_refuses_y1) ++ ([]))))
theorem i_v_c_m_attempt_X12 : ∀ w ∈ wsX120, w ∈ v_c_m_attempt := fun _ h => List.mem_cons_of_mem _ (List.mem_append_right _ (List.mem_append_left _ h))
theorem g_v_c_m_attempt_1 : GoodIn v_c_m_attempt (wsV RX12 558 RX12 yX12_refuses v_c_m_refuses_y1) := goodIn_sub (fun _ h => List.mem_cons_of_mem _ (List.mem_append_right _ (List.mem_append_right _ (List.mem_append_left _ h)))) (by decide +kernel)
theorem t_v_c_m_attempt : ∀ w ∈ v_c_m_attempt, w ∈ lw_tbl := tb_c (List.mem_of_getElem? (i := 2934) (by decide +kernel)) (tb_a (tb_c (List.mem_of_getElem? (i := 2072) (by decide +kernel)) (tb_c (List.mem_of_getElem? (i := 2137) (by decide +kernel)) (tb_n))) (tb_a (tw_wsX120) (tb_a (tb_a (tb_c (List.mem_of_getElem? (i := 2501) (by decide +kernel)) (tb_c (List.mem_of_getElem? (i := 2503) (by decide +kernel)) (tb_c (List.mem_of_getElem? (i := 113) (by decide +kernel)) (tb_c (List.mem_of_getElem? (i := 215) (by decide +kernel)) (tb_n))))) t_v_c_m_refuses_y1) (tb_n))))
set_option maxHeartbeats 400000 in
set_option maxRecDepth 100000 in
/-- the model's attempt: refused -/
theorem c_m_attempt (l : Launch) (D : va_G) (h0 : Nat) (fs : List Value) (p0 p1 : Int32) (sz : Nat) (hlen : fs.length = 139) (hf_thrown : fs[0]? = some (.int 0)) (hf_isCompiled : fs[66]? = some (.int 0)) : Met l yX12_attempt v_c_m_attempt ({ frames := 5, cells := 0, slots := 0, locals := 70 }) (va_Pc [.ref h0, .int p0, .int p1] (st_ D [(h0, .inr (12, fs))] [] sz)) (va_Qi (fun (_ : Int32) (u : List Value) => u[0]? = some (.int 1)) (fun u t => va_P D vwCl [(h0, .inr (12, u))] t.heap ∧ va_K D vwCl [] t ∧ va_D (va_A [(h0, .inr (12, fs))] sz) [(h0, .inr (12, u))]) (va_A [(h0, .inr (12, fs))] sz)) 0 0 (va_A [(h0, .inr (12, fs))] sz) := by
  refine Met.ofW (cc := cX12_attempt) (maxL := 4) (ret := (some .int)) (by decide) rfl ?_
  intro p e s m args below meth c s₁ B hml hv
  obtain ⟨rfl, hsz, hP, hK, hD0, hZ, hE⟩ := hv
  have hx := B.exec
  have hb := B.bytes
  have hr := B.returns
  have hts := atoms_spec (ws := v_c_m_attempt) B.pre
  have hown : s.vm.findClass RX12 = some m.cls := findClass_of_methodNamed B.named
  have hlocks := B.notSynchronized
  subst hsz
  have hD := hD0.self (sz := s.heap.size)
  generalize hAe : va_A [(h0, .inr (12, fs))] s.heap.size = A at hD hZ ⊢
  have hA : ∀ q : Nat, s.heap.size ≤ q → A q := fun q h => by rw [← hAe]; exact Or.inr h
  have hS : va_S A s.heap s.heap [] := va_S.rf
  have hAO := hE.2.2.2.1
  have hP : va_P D vwCl [(h0, .inr (12, fs))] s.heap := hP
  have hl := lv_entry ([.ref h0, .int p0, .int p1]) (n := 4) (Nat.le_of_ble_eq_true rfl)
  rw [lg_entry_eq]
  generalize (lg_sl ([.ref h0, .int p0, .int p1]) ++ List.replicate (4 - (lg_sl ([.ref h0, .int p0, .int p1])).length) Slot.unset).toArray = ls at hl ⊢
  have hl : lv_has ls 4 [(0, .ref h0), (1, .int p0), (2, .int p1)] := hl
  refine lv_aload_n hx hb dX12_attempt_0 rfl (lv_at hl 0 rfl) ?_
  refine lv_iconst (v := 0) hx hb dX12_attempt_1 (by decide +kernel) ?_
  refine va_put (D := D) (ci := 12) (v := .int 0) (ty := .int) (C := RX12) (T := TX12) (N := 139) hx hb hts i_v_c_m_attempt_X12 tyX12 tyX12_ok nmX12 hown hK hP hD hS 0 rfl rfl 0 (by decide) (hts (.fieldLink RX12 316 "ScheduleHouseModel" "thrown" "I") (by decide +kernel)) (fun _ h9 => h9) rfl (by decide +kernel) rfl rfl (by rw [hlen]; decide) dX12_attempt_2 (fun H locs hP hD hS => ?_)
  obtain ⟨fs1, hfs1⟩ : ∃ z, z = fs.set 0 (.int 0) := ⟨_, rfl⟩
  rw [← hfs1] at hP hD
  have lfs1 : fs1.length = 139 := by rw [hfs1, List.length_set]; exact hlen
  have gfs1_66 : fs1[66]? = some (.int 0) := by rw [hfs1, List.getElem?_set_ne (by decide)]; exact hf_isCompiled
  have gfs1_0 : fs1[0]? = some (.int 0) := by rw [hfs1]; exact List.getElem?_set_self (by rw [hlen]; decide)
  have hP : va_P D vwCl [(h0, .inr (12, fs1))] H := hP
  have hD : va_D A [(h0, .inr (12, fs1))] := hD
  refine lv_aload_n hx hb dX12_attempt_5 rfl (lv_at hl 0 rfl) ?_
  refine lv_aload_n hx hb dX12_attempt_6 rfl (lv_at hl 0 rfl) ?_
  refine va_get (D := D) (ci := 12) (v := .int 0) (C := RX12) (T := TX12) (N := 139) hx hb hts i_v_c_m_attempt_X12 hown hK hP 0 rfl rfl 66 (by decide) (hts (.fieldLink RX12 565 "ScheduleHouseModel" "isCompiled" "Z") (by decide +kernel)) (fun _ h9 => h9) gfs1_66 dX12_attempt_7 ?_
  refine lv_if_ne (tgt := 17) hx hb dX12_attempt_10 (by decide) (fun c9 => False.elim (by revert c9; decide)) (fun _ => ?_)
  refine lv_iconst (v := 1) hx hb dX12_attempt_13 (by decide +kernel) ?_
  refine lv_goto (tgt := 18) hx hb dX12_attempt_14 (by decide) ?_
  refine lv_iconst (v := 1) hx hb dX12_attempt_18 (by decide +kernel) ?_
  have hPc := hP.sub (ws' := [(h0, .inr (12, fs1))]) [0] rfl
  have hDc := hD.sub (ws' := [(h0, .inr (12, fs1))]) [0] (by decide) rfl
  have hKc := hK.sub (tys' := []) [] rfl
  have hFc := va_free (wc := [(h0, .inr (12, fs1))]) hD hS hA [0] rfl
  refine va_calli (va_runV (As := [.int 1, .int 1]) (rest := []) ⟨hx, hb, hml, hown, hts⟩ (c_m_refuses_y1 l D h0 fs1 H.size lfs1 gfs1_0) (cwV 2 hts g_v_c_m_attempt_1 rfl rfl rfl (by decide +kernel) ⟨Nat.le_of_ble_eq_true rfl, Nat.le_of_ble_eq_true rfl⟩) ⟨st_blind, va_recv hKc hPc (ci := 12) (q0 := 0) rfl rfl, fun U hU hW => ⟨rfl, st_call hU hW hPc hKc hDc hZ hS hFc hE⟩⟩ rfl rfl hl.1 rfl (lv_room (Nat.le_of_ble_eq_true rfl)) dX12_attempt_19 ⟨Nat.le_of_ble_eq_true rfl, Nat.le_of_ble_eq_true rfl⟩) hS (fun q _ h => hFc q h) hFc (fun r2 u3 t H1 locs ht hvm hw hB hz1 hk1 hS => ?_)
  obtain ⟨er2, eu3⟩ := hw
  have lu3 : u3.length = 139 := by rw [eu3, List.length_set]; exact lfs1
  have gu3_66 : u3[66]? = some (.int 0) := by rw [eu3]; exact se_ne gfs1_66 (by decide)
  have gu3_0 : u3[0]? = some (.int 1) := by rw [eu3]; exact se_eq (by rw [lfs1]; decide)
  obtain ⟨hP1, hK1, hD1⟩ := hB
  rw [ht] at hP1
  have hK1 := va_K.moved hvm.symm hK1
  obtain ⟨hP, hD⟩ := va_join (wr := []) (w1 := [(h0, .inr (12, u3))]) hP hD [0] [] rfl rfl (by decide) (by decide) hk1 hFc hP1 hD1
  have hK := (hK.sub (tys' := []) [] rfl).app hK1
  generalize H1 = H at hP hS ⊢
  have hP : va_P D vwCl [(h0, .inr (12, u3))] H := hP
  have hD : va_D A [(h0, .inr (12, u3))] := hD
  have hK : va_K D vwCl [] s := hK
  subst er2
  refine lv_if_ne (tgt := 58) hx hb dX12_attempt_22 (by decide) (fun _ => ?_) (fun c9 => False.elim (by revert c9; decide))
  refine lv_iconst (v := 0) hx hb dX12_attempt_58 (by decide +kernel) ?_
  exact W.iret (v := 0) hx hb hr (fun t ht hW => ⟨⟨0, u3, rfl, gu3_0, by rw [ht]; exact hP, va_K.moved hW.alike hK, hD⟩, hS.F ht⟩) hS.2.2 dX12_attempt_59
noncomputable def v_c_m_choices : List Cond := .code yX12_choices cX12_choices 1 (some .int) :: ([.fieldLink RX12 316 "ScheduleHouseModel" "thrown" "I"] ++ (wsX120 ++ ((wsV RX12 680 RX12 yX12_noRun v_c_m_noRun) ++ ([]))))
theorem i_v_c_m_choices_X12 : ∀ w ∈ wsX120, w ∈ v_c_m_choices := fun _ h => List.mem_cons_of_mem _ (List.mem_append_right _ (List.mem_append_left _ h))
theorem g_v_c_m_choices_1 : GoodIn v_c_m_choices (wsV RX12 680 RX12 yX12_noRun v_c_m_noRun) := goodIn_sub (fun _ h => List.mem_cons_of_mem _ (List.mem_append_right _ (List.mem_append_right _ (List.mem_append_left _ h)))) (by decide +kernel)
theorem t_v_c_m_choices : ∀ w ∈ v_c_m_choices, w ∈ lw_tbl := tb_c (List.mem_of_getElem? (i := 2794) (by decide +kernel)) (tb_a (tb_c (List.mem_of_getElem? (i := 2072) (by decide +kernel)) (tb_n)) (tb_a (tw_wsX120) (tb_a (tb_a (tb_c (List.mem_of_getElem? (i := 2795) (by decide +kernel)) (tb_c (List.mem_of_getElem? (i := 2797) (by decide +kernel)) (tb_c (List.mem_of_getElem? (i := 175) (by decide +kernel)) (tb_c (List.mem_of_getElem? (i := 215) (by decide +kernel)) (tb_n))))) t_v_c_m_noRun) (tb_n))))
set_option maxHeartbeats 400000 in
set_option maxRecDepth 100000 in
/-- the model's choices: refused -/
theorem c_m_choices (l : Launch) (D : va_G) (h0 : Nat) (fs : List Value) (sz : Nat) (hlen : fs.length = 139) (hf_thrown : fs[0]? = some (.int 0)) (hf_hasRun : fs[67]? = some (.int 0)) : Met l yX12_choices v_c_m_choices ({ frames := 5, cells := 0, slots := 0, locals := 70 }) (va_Pc [.ref h0] (st_ D [(h0, .inr (12, fs))] [] sz)) (va_Qi (fun (_ : Int32) (u : List Value) => u[0]? = some (.int 1)) (fun u t => va_P D vwCl [(h0, .inr (12, u))] t.heap ∧ va_K D vwCl [] t ∧ va_D (va_A [(h0, .inr (12, fs))] sz) [(h0, .inr (12, u))]) (va_A [(h0, .inr (12, fs))] sz)) 0 0 (va_A [(h0, .inr (12, fs))] sz) := by
  refine Met.ofW (cc := cX12_choices) (maxL := 1) (ret := (some .int)) (by decide) rfl ?_
  intro p e s m args below meth c s₁ B hml hv
  obtain ⟨rfl, hsz, hP, hK, hD0, hZ, hE⟩ := hv
  have hx := B.exec
  have hb := B.bytes
  have hr := B.returns
  have hts := atoms_spec (ws := v_c_m_choices) B.pre
  have hown : s.vm.findClass RX12 = some m.cls := findClass_of_methodNamed B.named
  have hlocks := B.notSynchronized
  subst hsz
  have hD := hD0.self (sz := s.heap.size)
  generalize hAe : va_A [(h0, .inr (12, fs))] s.heap.size = A at hD hZ ⊢
  have hA : ∀ q : Nat, s.heap.size ≤ q → A q := fun q h => by rw [← hAe]; exact Or.inr h
  have hS : va_S A s.heap s.heap [] := va_S.rf
  have hAO := hE.2.2.2.1
  have hP : va_P D vwCl [(h0, .inr (12, fs))] s.heap := hP
  have hl := lv_entry ([.ref h0]) (n := 1) (Nat.le_of_ble_eq_true rfl)
  rw [lg_entry_eq]
  generalize (lg_sl ([.ref h0]) ++ List.replicate (1 - (lg_sl ([.ref h0])).length) Slot.unset).toArray = ls at hl ⊢
  have hl : lv_has ls 1 [(0, .ref h0)] := hl
  refine lv_aload_n hx hb dX12_choices_0 rfl (lv_at hl 0 rfl) ?_
  refine lv_iconst (v := 0) hx hb dX12_choices_1 (by decide +kernel) ?_
  refine va_put (D := D) (ci := 12) (v := .int 0) (ty := .int) (C := RX12) (T := TX12) (N := 139) hx hb hts i_v_c_m_choices_X12 tyX12 tyX12_ok nmX12 hown hK hP hD hS 0 rfl rfl 0 (by decide) (hts (.fieldLink RX12 316 "ScheduleHouseModel" "thrown" "I") (by decide +kernel)) (fun _ h9 => h9) rfl (by decide +kernel) rfl rfl (by rw [hlen]; decide) dX12_choices_2 (fun H locs hP hD hS => ?_)
  obtain ⟨fs1, hfs1⟩ : ∃ z, z = fs.set 0 (.int 0) := ⟨_, rfl⟩
  rw [← hfs1] at hP hD
  have lfs1 : fs1.length = 139 := by rw [hfs1, List.length_set]; exact hlen
  have gfs1_67 : fs1[67]? = some (.int 0) := by rw [hfs1, List.getElem?_set_ne (by decide)]; exact hf_hasRun
  have gfs1_0 : fs1[0]? = some (.int 0) := by rw [hfs1]; exact List.getElem?_set_self (by rw [hlen]; decide)
  have hP : va_P D vwCl [(h0, .inr (12, fs1))] H := hP
  have hD : va_D A [(h0, .inr (12, fs1))] := hD
  refine lv_aload_n hx hb dX12_choices_5 rfl (lv_at hl 0 rfl) ?_
  have hPc := hP.sub (ws' := [(h0, .inr (12, fs1))]) [0] rfl
  have hDc := hD.sub (ws' := [(h0, .inr (12, fs1))]) [0] (by decide) rfl
  have hKc := hK.sub (tys' := []) [] rfl
  have hFc := va_free (wc := [(h0, .inr (12, fs1))]) hD hS hA [0] rfl
  refine va_calli (va_runV (As := []) (rest := []) ⟨hx, hb, hml, hown, hts⟩ (c_m_noRun l D h0 fs1 H.size lfs1 gfs1_0 gfs1_67) (cwV 0 hts g_v_c_m_choices_1 rfl rfl rfl (by decide +kernel) ⟨Nat.le_of_ble_eq_true rfl, Nat.le_of_ble_eq_true rfl⟩) ⟨st_blind, va_recv hKc hPc (ci := 12) (q0 := 0) rfl rfl, fun U hU hW => ⟨rfl, st_call hU hW hPc hKc hDc hZ hS hFc hE⟩⟩ rfl rfl hl.1 rfl (lv_room (Nat.le_of_ble_eq_true rfl)) dX12_choices_6 ⟨Nat.le_of_ble_eq_true rfl, Nat.le_of_ble_eq_true rfl⟩) hS (fun q _ h => hFc q h) hFc (fun r2 u3 t H1 locs ht hvm hw hB hz1 hk1 hS => ?_)
  obtain ⟨er2, gu3_0, lu3⟩ := hw
  obtain ⟨hP1, hK1, hD1⟩ := hB
  rw [ht] at hP1
  have hK1 := va_K.moved hvm.symm hK1
  obtain ⟨hP, hD⟩ := va_join (wr := []) (w1 := [(h0, .inr (12, u3))]) hP hD [0] [] rfl rfl (by decide) (by decide) hk1 hFc hP1 hD1
  have hK := (hK.sub (tys' := []) [] rfl).app hK1
  generalize H1 = H at hP hS ⊢
  have hP : va_P D vwCl [(h0, .inr (12, u3))] H := hP
  have hD : va_D A [(h0, .inr (12, u3))] := hD
  have hK : va_K D vwCl [] s := hK
  subst er2
  refine lv_if_eq (tgt := 16) hx hb dX12_choices_9 (by decide) (fun c9 => False.elim (by revert c9; decide)) (fun _ => ?_)
  refine lv_iconst (v := 0) hx hb dX12_choices_12 (by decide +kernel) ?_
  refine lv_goto (tgt := 20) hx hb dX12_choices_13 (by decide) ?_
  exact W.iret (v := 0) hx hb hr (fun t ht hW => ⟨⟨0, u3, rfl, gu3_0, by rw [ht]; exact hP, va_K.moved hW.alike hK, hD⟩, hS.F ht⟩) hS.2.2 dX12_choices_20
noncomputable def v_c_m_choice : List Cond := .code yX12_choice cX12_choice 5 (some .int) :: ([.fieldLink RX12 316 "ScheduleHouseModel" "thrown" "I"] ++ (wsX120 ++ ((wsV RX12 680 RX12 yX12_noRun v_c_m_noRun) ++ ([]))))
theorem i_v_c_m_choice_X12 : ∀ w ∈ wsX120, w ∈ v_c_m_choice := fun _ h => List.mem_cons_of_mem _ (List.mem_append_right _ (List.mem_append_left _ h))
theorem g_v_c_m_choice_1 : GoodIn v_c_m_choice (wsV RX12 680 RX12 yX12_noRun v_c_m_noRun) := goodIn_sub (fun _ h => List.mem_cons_of_mem _ (List.mem_append_right _ (List.mem_append_right _ (List.mem_append_left _ h)))) (by decide +kernel)
theorem t_v_c_m_choice : ∀ w ∈ v_c_m_choice, w ∈ lw_tbl := tb_c (List.mem_of_getElem? (i := 2802) (by decide +kernel)) (tb_a (tb_c (List.mem_of_getElem? (i := 2072) (by decide +kernel)) (tb_n)) (tb_a (tw_wsX120) (tb_a (tb_a (tb_c (List.mem_of_getElem? (i := 2795) (by decide +kernel)) (tb_c (List.mem_of_getElem? (i := 2797) (by decide +kernel)) (tb_c (List.mem_of_getElem? (i := 175) (by decide +kernel)) (tb_c (List.mem_of_getElem? (i := 215) (by decide +kernel)) (tb_n))))) t_v_c_m_noRun) (tb_n))))
set_option maxHeartbeats 400000 in
set_option maxRecDepth 100000 in
/-- the model's choice: refused -/
theorem c_m_choice (l : Launch) (D : va_G) (h0 : Nat) (fs : List Value) (p0 p1 : Int32) (sz : Nat) (hlen : fs.length = 139) (hf_thrown : fs[0]? = some (.int 0)) (hf_hasRun : fs[67]? = some (.int 0)) : Met l yX12_choice v_c_m_choice ({ frames := 5, cells := 0, slots := 0, locals := 70 }) (va_Pc [.ref h0, .int p0, .int p1] (st_ D [(h0, .inr (12, fs))] [] sz)) (va_Qi (fun (_ : Int32) (u : List Value) => u[0]? = some (.int 1)) (fun u t => va_P D vwCl [(h0, .inr (12, u))] t.heap ∧ va_K D vwCl [] t ∧ va_D (va_A [(h0, .inr (12, fs))] sz) [(h0, .inr (12, u))]) (va_A [(h0, .inr (12, fs))] sz)) 0 0 (va_A [(h0, .inr (12, fs))] sz) := by
  refine Met.ofW (cc := cX12_choice) (maxL := 5) (ret := (some .int)) (by decide) rfl ?_
  intro p e s m args below meth c s₁ B hml hv
  obtain ⟨rfl, hsz, hP, hK, hD0, hZ, hE⟩ := hv
  have hx := B.exec
  have hb := B.bytes
  have hr := B.returns
  have hts := atoms_spec (ws := v_c_m_choice) B.pre
  have hown : s.vm.findClass RX12 = some m.cls := findClass_of_methodNamed B.named
  have hlocks := B.notSynchronized
  subst hsz
  have hD := hD0.self (sz := s.heap.size)
  generalize hAe : va_A [(h0, .inr (12, fs))] s.heap.size = A at hD hZ ⊢
  have hA : ∀ q : Nat, s.heap.size ≤ q → A q := fun q h => by rw [← hAe]; exact Or.inr h
  have hS : va_S A s.heap s.heap [] := va_S.rf
  have hAO := hE.2.2.2.1
  have hP : va_P D vwCl [(h0, .inr (12, fs))] s.heap := hP
  have hl := lv_entry ([.ref h0, .int p0, .int p1]) (n := 5) (Nat.le_of_ble_eq_true rfl)
  rw [lg_entry_eq]
  generalize (lg_sl ([.ref h0, .int p0, .int p1]) ++ List.replicate (5 - (lg_sl ([.ref h0, .int p0, .int p1])).length) Slot.unset).toArray = ls at hl ⊢
  have hl : lv_has ls 5 [(0, .ref h0), (1, .int p0), (2, .int p1)] := hl
  refine lv_aload_n hx hb dX12_choice_0 rfl (lv_at hl 0 rfl) ?_
  refine lv_iconst (v := 0) hx hb dX12_choice_1 (by decide +kernel) ?_
  refine va_put (D := D) (ci := 12) (v := .int 0) (ty := .int) (C := RX12) (T := TX12) (N := 139) hx hb hts i_v_c_m_choice_X12 tyX12 tyX12_ok nmX12 hown hK hP hD hS 0 rfl rfl 0 (by decide) (hts (.fieldLink RX12 316 "ScheduleHouseModel" "thrown" "I") (by decide +kernel)) (fun _ h9 => h9) rfl (by decide +kernel) rfl rfl (by rw [hlen]; decide) dX12_choice_2 (fun H locs hP hD hS => ?_)
  obtain ⟨fs1, hfs1⟩ : ∃ z, z = fs.set 0 (.int 0) := ⟨_, rfl⟩
  rw [← hfs1] at hP hD
  have lfs1 : fs1.length = 139 := by rw [hfs1, List.length_set]; exact hlen
  have gfs1_67 : fs1[67]? = some (.int 0) := by rw [hfs1, List.getElem?_set_ne (by decide)]; exact hf_hasRun
  have gfs1_0 : fs1[0]? = some (.int 0) := by rw [hfs1]; exact List.getElem?_set_self (by rw [hlen]; decide)
  have hP : va_P D vwCl [(h0, .inr (12, fs1))] H := hP
  have hD : va_D A [(h0, .inr (12, fs1))] := hD
  refine lv_aload_n hx hb dX12_choice_5 rfl (lv_at hl 0 rfl) ?_
  have hPc := hP.sub (ws' := [(h0, .inr (12, fs1))]) [0] rfl
  have hDc := hD.sub (ws' := [(h0, .inr (12, fs1))]) [0] (by decide) rfl
  have hKc := hK.sub (tys' := []) [] rfl
  have hFc := va_free (wc := [(h0, .inr (12, fs1))]) hD hS hA [0] rfl
  refine va_calli (va_runV (As := []) (rest := []) ⟨hx, hb, hml, hown, hts⟩ (c_m_noRun l D h0 fs1 H.size lfs1 gfs1_0 gfs1_67) (cwV 0 hts g_v_c_m_choice_1 rfl rfl rfl (by decide +kernel) ⟨Nat.le_of_ble_eq_true rfl, Nat.le_of_ble_eq_true rfl⟩) ⟨st_blind, va_recv hKc hPc (ci := 12) (q0 := 0) rfl rfl, fun U hU hW => ⟨rfl, st_call hU hW hPc hKc hDc hZ hS hFc hE⟩⟩ rfl rfl hl.1 rfl (lv_room (Nat.le_of_ble_eq_true rfl)) dX12_choice_6 ⟨Nat.le_of_ble_eq_true rfl, Nat.le_of_ble_eq_true rfl⟩) hS (fun q _ h => hFc q h) hFc (fun r2 u3 t H1 locs ht hvm hw hB hz1 hk1 hS => ?_)
  obtain ⟨er2, gu3_0, lu3⟩ := hw
  obtain ⟨hP1, hK1, hD1⟩ := hB
  rw [ht] at hP1
  have hK1 := va_K.moved hvm.symm hK1
  obtain ⟨hP, hD⟩ := va_join (wr := []) (w1 := [(h0, .inr (12, u3))]) hP hD [0] [] rfl rfl (by decide) (by decide) hk1 hFc hP1 hD1
  have hK := (hK.sub (tys' := []) [] rfl).app hK1
  generalize H1 = H at hP hS ⊢
  have hP : va_P D vwCl [(h0, .inr (12, u3))] H := hP
  have hD : va_D A [(h0, .inr (12, u3))] := hD
  have hK : va_K D vwCl [] s := hK
  subst er2
  refine lv_if_ne (tgt := 48) hx hb dX12_choice_9 (by decide) (fun _ => ?_) (fun c9 => False.elim (by revert c9; decide))
  refine lv_iconst (v := 0) hx hb dX12_choice_48 (by decide +kernel) ?_
  exact W.iret (v := 0) hx hb hr (fun t ht hW => ⟨⟨0, u3, rfl, gu3_0, by rw [ht]; exact hP, va_K.moved hW.alike hK, hD⟩, hS.F ht⟩) hS.2.2 dX12_choice_49
noncomputable def v_c_m_go : List Cond := .code yX12_go cX12_go 2 (some .int) :: ([.fieldLink RX12 316 "ScheduleHouseModel" "thrown" "I"] ++ (wsX120 ++ ((wsV RX12 680 RX12 yX12_noRun v_c_m_noRun) ++ ([]))))
theorem i_v_c_m_go_X12 : ∀ w ∈ wsX120, w ∈ v_c_m_go := fun _ h => List.mem_cons_of_mem _ (List.mem_append_right _ (List.mem_append_left _ h))
theorem g_v_c_m_go_1 : GoodIn v_c_m_go (wsV RX12 680 RX12 yX12_noRun v_c_m_noRun) := goodIn_sub (fun _ h => List.mem_cons_of_mem _ (List.mem_append_right _ (List.mem_append_right _ (List.mem_append_left _ h)))) (by decide +kernel)
theorem t_v_c_m_go : ∀ w ∈ v_c_m_go, w ∈ lw_tbl := tb_c (List.mem_of_getElem? (i := 2810) (by decide +kernel)) (tb_a (tb_c (List.mem_of_getElem? (i := 2072) (by decide +kernel)) (tb_n)) (tb_a (tw_wsX120) (tb_a (tb_a (tb_c (List.mem_of_getElem? (i := 2795) (by decide +kernel)) (tb_c (List.mem_of_getElem? (i := 2797) (by decide +kernel)) (tb_c (List.mem_of_getElem? (i := 175) (by decide +kernel)) (tb_c (List.mem_of_getElem? (i := 215) (by decide +kernel)) (tb_n))))) t_v_c_m_noRun) (tb_n))))
set_option maxHeartbeats 400000 in
set_option maxRecDepth 100000 in
/-- the model's go: refused -/
theorem c_m_go (l : Launch) (D : va_G) (h0 : Nat) (fs : List Value) (p0 : Int32) (sz : Nat) (hlen : fs.length = 139) (hf_thrown : fs[0]? = some (.int 0)) (hf_hasRun : fs[67]? = some (.int 0)) : Met l yX12_go v_c_m_go ({ frames := 5, cells := 0, slots := 0, locals := 70 }) (va_Pc [.ref h0, .int p0] (st_ D [(h0, .inr (12, fs))] [] sz)) (va_Qi (fun (_ : Int32) (u : List Value) => u[0]? = some (.int 1)) (fun u t => va_P D vwCl [(h0, .inr (12, u))] t.heap ∧ va_K D vwCl [] t ∧ va_D (va_A [(h0, .inr (12, fs))] sz) [(h0, .inr (12, u))]) (va_A [(h0, .inr (12, fs))] sz)) 0 0 (va_A [(h0, .inr (12, fs))] sz) := by
  refine Met.ofW (cc := cX12_go) (maxL := 2) (ret := (some .int)) (by decide) rfl ?_
  intro p e s m args below meth c s₁ B hml hv
  obtain ⟨rfl, hsz, hP, hK, hD0, hZ, hE⟩ := hv
  have hx := B.exec
  have hb := B.bytes
  have hr := B.returns
  have hts := atoms_spec (ws := v_c_m_go) B.pre
  have hown : s.vm.findClass RX12 = some m.cls := findClass_of_methodNamed B.named
  have hlocks := B.notSynchronized
  subst hsz
  have hD := hD0.self (sz := s.heap.size)
  generalize hAe : va_A [(h0, .inr (12, fs))] s.heap.size = A at hD hZ ⊢
  have hA : ∀ q : Nat, s.heap.size ≤ q → A q := fun q h => by rw [← hAe]; exact Or.inr h
  have hS : va_S A s.heap s.heap [] := va_S.rf
  have hAO := hE.2.2.2.1
  have hP : va_P D vwCl [(h0, .inr (12, fs))] s.heap := hP
  have hl := lv_entry ([.ref h0, .int p0]) (n := 2) (Nat.le_of_ble_eq_true rfl)
  rw [lg_entry_eq]
  generalize (lg_sl ([.ref h0, .int p0]) ++ List.replicate (2 - (lg_sl ([.ref h0, .int p0])).length) Slot.unset).toArray = ls at hl ⊢
  have hl : lv_has ls 2 [(0, .ref h0), (1, .int p0)] := hl
  refine lv_aload_n hx hb dX12_go_0 rfl (lv_at hl 0 rfl) ?_
  refine lv_iconst (v := 0) hx hb dX12_go_1 (by decide +kernel) ?_
  refine va_put (D := D) (ci := 12) (v := .int 0) (ty := .int) (C := RX12) (T := TX12) (N := 139) hx hb hts i_v_c_m_go_X12 tyX12 tyX12_ok nmX12 hown hK hP hD hS 0 rfl rfl 0 (by decide) (hts (.fieldLink RX12 316 "ScheduleHouseModel" "thrown" "I") (by decide +kernel)) (fun _ h9 => h9) rfl (by decide +kernel) rfl rfl (by rw [hlen]; decide) dX12_go_2 (fun H locs hP hD hS => ?_)
  obtain ⟨fs1, hfs1⟩ : ∃ z, z = fs.set 0 (.int 0) := ⟨_, rfl⟩
  rw [← hfs1] at hP hD
  have lfs1 : fs1.length = 139 := by rw [hfs1, List.length_set]; exact hlen
  have gfs1_67 : fs1[67]? = some (.int 0) := by rw [hfs1, List.getElem?_set_ne (by decide)]; exact hf_hasRun
  have gfs1_0 : fs1[0]? = some (.int 0) := by rw [hfs1]; exact List.getElem?_set_self (by rw [hlen]; decide)
  have hP : va_P D vwCl [(h0, .inr (12, fs1))] H := hP
  have hD : va_D A [(h0, .inr (12, fs1))] := hD
  refine lv_aload_n hx hb dX12_go_5 rfl (lv_at hl 0 rfl) ?_
  have hPc := hP.sub (ws' := [(h0, .inr (12, fs1))]) [0] rfl
  have hDc := hD.sub (ws' := [(h0, .inr (12, fs1))]) [0] (by decide) rfl
  have hKc := hK.sub (tys' := []) [] rfl
  have hFc := va_free (wc := [(h0, .inr (12, fs1))]) hD hS hA [0] rfl
  refine va_calli (va_runV (As := []) (rest := []) ⟨hx, hb, hml, hown, hts⟩ (c_m_noRun l D h0 fs1 H.size lfs1 gfs1_0 gfs1_67) (cwV 0 hts g_v_c_m_go_1 rfl rfl rfl (by decide +kernel) ⟨Nat.le_of_ble_eq_true rfl, Nat.le_of_ble_eq_true rfl⟩) ⟨st_blind, va_recv hKc hPc (ci := 12) (q0 := 0) rfl rfl, fun U hU hW => ⟨rfl, st_call hU hW hPc hKc hDc hZ hS hFc hE⟩⟩ rfl rfl hl.1 rfl (lv_room (Nat.le_of_ble_eq_true rfl)) dX12_go_6 ⟨Nat.le_of_ble_eq_true rfl, Nat.le_of_ble_eq_true rfl⟩) hS (fun q _ h => hFc q h) hFc (fun r2 u3 t H1 locs ht hvm hw hB hz1 hk1 hS => ?_)
  obtain ⟨er2, gu3_0, lu3⟩ := hw
  obtain ⟨hP1, hK1, hD1⟩ := hB
  rw [ht] at hP1
  have hK1 := va_K.moved hvm.symm hK1
  obtain ⟨hP, hD⟩ := va_join (wr := []) (w1 := [(h0, .inr (12, u3))]) hP hD [0] [] rfl rfl (by decide) (by decide) hk1 hFc hP1 hD1
  have hK := (hK.sub (tys' := []) [] rfl).app hK1
  generalize H1 = H at hP hS ⊢
  have hP : va_P D vwCl [(h0, .inr (12, u3))] H := hP
  have hD : va_D A [(h0, .inr (12, u3))] := hD
  have hK : va_K D vwCl [] s := hK
  subst er2
  refine lv_if_ne (tgt := 62) hx hb dX12_go_9 (by decide) (fun _ => ?_) (fun c9 => False.elim (by revert c9; decide))
  refine lv_iconst (v := 0) hx hb dX12_go_62 (by decide +kernel) ?_
  exact W.iret (v := 0) hx hb hr (fun t ht hW => ⟨⟨0, u3, rfl, gu3_0, by rw [ht]; exact hP, va_K.moved hW.alike hK, hD⟩, hS.F ht⟩) hS.2.2 dX12_go_63
noncomputable def v_c_m_draw : List Cond := .code yX12_draw cX12_draw 5 (some .int) :: ([.fieldLink RX12 316 "ScheduleHouseModel" "thrown" "I"] ++ (wsX120 ++ ((wsV RX12 680 RX12 yX12_noRun v_c_m_noRun) ++ ([]))))
theorem i_v_c_m_draw_X12 : ∀ w ∈ wsX120, w ∈ v_c_m_draw := fun _ h => List.mem_cons_of_mem _ (List.mem_append_right _ (List.mem_append_left _ h))
theorem g_v_c_m_draw_1 : GoodIn v_c_m_draw (wsV RX12 680 RX12 yX12_noRun v_c_m_noRun) := goodIn_sub (fun _ h => List.mem_cons_of_mem _ (List.mem_append_right _ (List.mem_append_right _ (List.mem_append_left _ h)))) (by decide +kernel)
theorem t_v_c_m_draw : ∀ w ∈ v_c_m_draw, w ∈ lw_tbl := tb_c (List.mem_of_getElem? (i := 2838) (by decide +kernel)) (tb_a (tb_c (List.mem_of_getElem? (i := 2072) (by decide +kernel)) (tb_n)) (tb_a (tw_wsX120) (tb_a (tb_a (tb_c (List.mem_of_getElem? (i := 2795) (by decide +kernel)) (tb_c (List.mem_of_getElem? (i := 2797) (by decide +kernel)) (tb_c (List.mem_of_getElem? (i := 175) (by decide +kernel)) (tb_c (List.mem_of_getElem? (i := 215) (by decide +kernel)) (tb_n))))) t_v_c_m_noRun) (tb_n))))
set_option maxHeartbeats 400000 in
set_option maxRecDepth 100000 in
/-- the model's draw: refused -/
theorem c_m_draw (l : Launch) (D : va_G) (h0 : Nat) (fs : List Value) (p0 p1 : Int32) (sz : Nat) (hlen : fs.length = 139) (hf_thrown : fs[0]? = some (.int 0)) (hf_hasRun : fs[67]? = some (.int 0)) : Met l yX12_draw v_c_m_draw ({ frames := 5, cells := 0, slots := 0, locals := 70 }) (va_Pc [.ref h0, .int p0, .int p1] (st_ D [(h0, .inr (12, fs))] [] sz)) (va_Qi (fun (_ : Int32) (u : List Value) => u[0]? = some (.int 1)) (fun u t => va_P D vwCl [(h0, .inr (12, u))] t.heap ∧ va_K D vwCl [] t ∧ va_D (va_A [(h0, .inr (12, fs))] sz) [(h0, .inr (12, u))]) (va_A [(h0, .inr (12, fs))] sz)) 0 0 (va_A [(h0, .inr (12, fs))] sz) := by
  refine Met.ofW (cc := cX12_draw) (maxL := 5) (ret := (some .int)) (by decide) rfl ?_
  intro p e s m args below meth c s₁ B hml hv
  obtain ⟨rfl, hsz, hP, hK, hD0, hZ, hE⟩ := hv
  have hx := B.exec
  have hb := B.bytes
  have hr := B.returns
  have hts := atoms_spec (ws := v_c_m_draw) B.pre
  have hown : s.vm.findClass RX12 = some m.cls := findClass_of_methodNamed B.named
  have hlocks := B.notSynchronized
  subst hsz
  have hD := hD0.self (sz := s.heap.size)
  generalize hAe : va_A [(h0, .inr (12, fs))] s.heap.size = A at hD hZ ⊢
  have hA : ∀ q : Nat, s.heap.size ≤ q → A q := fun q h => by rw [← hAe]; exact Or.inr h
  have hS : va_S A s.heap s.heap [] := va_S.rf
  have hAO := hE.2.2.2.1
  have hP : va_P D vwCl [(h0, .inr (12, fs))] s.heap := hP
  have hl := lv_entry ([.ref h0, .int p0, .int p1]) (n := 5) (Nat.le_of_ble_eq_true rfl)
  rw [lg_entry_eq]
  generalize (lg_sl ([.ref h0, .int p0, .int p1]) ++ List.replicate (5 - (lg_sl ([.ref h0, .int p0, .int p1])).length) Slot.unset).toArray = ls at hl ⊢
  have hl : lv_has ls 5 [(0, .ref h0), (1, .int p0), (2, .int p1)] := hl
  refine lv_aload_n hx hb dX12_draw_0 rfl (lv_at hl 0 rfl) ?_
  refine lv_iconst (v := 0) hx hb dX12_draw_1 (by decide +kernel) ?_
  refine va_put (D := D) (ci := 12) (v := .int 0) (ty := .int) (C := RX12) (T := TX12) (N := 139) hx hb hts i_v_c_m_draw_X12 tyX12 tyX12_ok nmX12 hown hK hP hD hS 0 rfl rfl 0 (by decide) (hts (.fieldLink RX12 316 "ScheduleHouseModel" "thrown" "I") (by decide +kernel)) (fun _ h9 => h9) rfl (by decide +kernel) rfl rfl (by rw [hlen]; decide) dX12_draw_2 (fun H locs hP hD hS => ?_)
  obtain ⟨fs1, hfs1⟩ : ∃ z, z = fs.set 0 (.int 0) := ⟨_, rfl⟩
  rw [← hfs1] at hP hD
  have lfs1 : fs1.length = 139 := by rw [hfs1, List.length_set]; exact hlen
  have gfs1_67 : fs1[67]? = some (.int 0) := by rw [hfs1, List.getElem?_set_ne (by decide)]; exact hf_hasRun
  have gfs1_0 : fs1[0]? = some (.int 0) := by rw [hfs1]; exact List.getElem?_set_self (by rw [hlen]; decide)
  have hP : va_P D vwCl [(h0, .inr (12, fs1))] H := hP
  have hD : va_D A [(h0, .inr (12, fs1))] := hD
  refine lv_aload_n hx hb dX12_draw_5 rfl (lv_at hl 0 rfl) ?_
  have hPc := hP.sub (ws' := [(h0, .inr (12, fs1))]) [0] rfl
  have hDc := hD.sub (ws' := [(h0, .inr (12, fs1))]) [0] (by decide) rfl
  have hKc := hK.sub (tys' := []) [] rfl
  have hFc := va_free (wc := [(h0, .inr (12, fs1))]) hD hS hA [0] rfl
  refine va_calli (va_runV (As := []) (rest := []) ⟨hx, hb, hml, hown, hts⟩ (c_m_noRun l D h0 fs1 H.size lfs1 gfs1_0 gfs1_67) (cwV 0 hts g_v_c_m_draw_1 rfl rfl rfl (by decide +kernel) ⟨Nat.le_of_ble_eq_true rfl, Nat.le_of_ble_eq_true rfl⟩) ⟨st_blind, va_recv hKc hPc (ci := 12) (q0 := 0) rfl rfl, fun U hU hW => ⟨rfl, st_call hU hW hPc hKc hDc hZ hS hFc hE⟩⟩ rfl rfl hl.1 rfl (lv_room (Nat.le_of_ble_eq_true rfl)) dX12_draw_6 ⟨Nat.le_of_ble_eq_true rfl, Nat.le_of_ble_eq_true rfl⟩) hS (fun q _ h => hFc q h) hFc (fun r2 u3 t H1 locs ht hvm hw hB hz1 hk1 hS => ?_)
  obtain ⟨er2, gu3_0, lu3⟩ := hw
  obtain ⟨hP1, hK1, hD1⟩ := hB
  rw [ht] at hP1
  have hK1 := va_K.moved hvm.symm hK1
  obtain ⟨hP, hD⟩ := va_join (wr := []) (w1 := [(h0, .inr (12, u3))]) hP hD [0] [] rfl rfl (by decide) (by decide) hk1 hFc hP1 hD1
  have hK := (hK.sub (tys' := []) [] rfl).app hK1
  generalize H1 = H at hP hS ⊢
  have hP : va_P D vwCl [(h0, .inr (12, u3))] H := hP
  have hD : va_D A [(h0, .inr (12, u3))] := hD
  have hK : va_K D vwCl [] s := hK
  subst er2
  refine lv_if_ne (tgt := 36) hx hb dX12_draw_9 (by decide) (fun _ => ?_) (fun c9 => False.elim (by revert c9; decide))
  refine lv_iconst (v := 0) hx hb dX12_draw_36 (by decide +kernel) ?_
  exact W.iret (v := 0) hx hb hr (fun t ht hW => ⟨⟨0, u3, rfl, gu3_0, by rw [ht]; exact hP, va_K.moved hW.alike hK, hD⟩, hS.F ht⟩) hS.2.2 dX12_draw_37
noncomputable def v_c_m_again : List Cond := .code yX12_again cX12_again 3 (some .int) :: ([.fieldLink RX12 316 "ScheduleHouseModel" "thrown" "I"] ++ (wsX120 ++ ((wsV RX12 680 RX12 yX12_noRun v_c_m_noRun) ++ ([]))))
theorem i_v_c_m_again_X12 : ∀ w ∈ wsX120, w ∈ v_c_m_again := fun _ h => List.mem_cons_of_mem _ (List.mem_append_right _ (List.mem_append_left _ h))
theorem g_v_c_m_again_1 : GoodIn v_c_m_again (wsV RX12 680 RX12 yX12_noRun v_c_m_noRun) := goodIn_sub (fun _ h => List.mem_cons_of_mem _ (List.mem_append_right _ (List.mem_append_right _ (List.mem_append_left _ h)))) (by decide +kernel)
theorem t_v_c_m_again : ∀ w ∈ v_c_m_again, w ∈ lw_tbl := tb_c (List.mem_of_getElem? (i := 2843) (by decide +kernel)) (tb_a (tb_c (List.mem_of_getElem? (i := 2072) (by decide +kernel)) (tb_n)) (tb_a (tw_wsX120) (tb_a (tb_a (tb_c (List.mem_of_getElem? (i := 2795) (by decide +kernel)) (tb_c (List.mem_of_getElem? (i := 2797) (by decide +kernel)) (tb_c (List.mem_of_getElem? (i := 175) (by decide +kernel)) (tb_c (List.mem_of_getElem? (i := 215) (by decide +kernel)) (tb_n))))) t_v_c_m_noRun) (tb_n))))
set_option maxHeartbeats 400000 in
set_option maxRecDepth 100000 in
/-- the model's again: refused -/
theorem c_m_again (l : Launch) (D : va_G) (h0 : Nat) (fs : List Value) (p0 : Int32) (sz : Nat) (hlen : fs.length = 139) (hf_thrown : fs[0]? = some (.int 0)) (hf_hasRun : fs[67]? = some (.int 0)) : Met l yX12_again v_c_m_again ({ frames := 5, cells := 0, slots := 0, locals := 70 }) (va_Pc [.ref h0, .int p0] (st_ D [(h0, .inr (12, fs))] [] sz)) (va_Qi (fun (_ : Int32) (u : List Value) => u[0]? = some (.int 1)) (fun u t => va_P D vwCl [(h0, .inr (12, u))] t.heap ∧ va_K D vwCl [] t ∧ va_D (va_A [(h0, .inr (12, fs))] sz) [(h0, .inr (12, u))]) (va_A [(h0, .inr (12, fs))] sz)) 0 0 (va_A [(h0, .inr (12, fs))] sz) := by
  refine Met.ofW (cc := cX12_again) (maxL := 3) (ret := (some .int)) (by decide) rfl ?_
  intro p e s m args below meth c s₁ B hml hv
  obtain ⟨rfl, hsz, hP, hK, hD0, hZ, hE⟩ := hv
  have hx := B.exec
  have hb := B.bytes
  have hr := B.returns
  have hts := atoms_spec (ws := v_c_m_again) B.pre
  have hown : s.vm.findClass RX12 = some m.cls := findClass_of_methodNamed B.named
  have hlocks := B.notSynchronized
  subst hsz
  have hD := hD0.self (sz := s.heap.size)
  generalize hAe : va_A [(h0, .inr (12, fs))] s.heap.size = A at hD hZ ⊢
  have hA : ∀ q : Nat, s.heap.size ≤ q → A q := fun q h => by rw [← hAe]; exact Or.inr h
  have hS : va_S A s.heap s.heap [] := va_S.rf
  have hAO := hE.2.2.2.1
  have hP : va_P D vwCl [(h0, .inr (12, fs))] s.heap := hP
  have hl := lv_entry ([.ref h0, .int p0]) (n := 3) (Nat.le_of_ble_eq_true rfl)
  rw [lg_entry_eq]
  generalize (lg_sl ([.ref h0, .int p0]) ++ List.replicate (3 - (lg_sl ([.ref h0, .int p0])).length) Slot.unset).toArray = ls at hl ⊢
  have hl : lv_has ls 3 [(0, .ref h0), (1, .int p0)] := hl
  refine lv_aload_n hx hb dX12_again_0 rfl (lv_at hl 0 rfl) ?_
  refine lv_iconst (v := 0) hx hb dX12_again_1 (by decide +kernel) ?_
  refine va_put (D := D) (ci := 12) (v := .int 0) (ty := .int) (C := RX12) (T := TX12) (N := 139) hx hb hts i_v_c_m_again_X12 tyX12 tyX12_ok nmX12 hown hK hP hD hS 0 rfl rfl 0 (by decide) (hts (.fieldLink RX12 316 "ScheduleHouseModel" "thrown" "I") (by decide +kernel)) (fun _ h9 => h9) rfl (by decide +kernel) rfl rfl (by rw [hlen]; decide) dX12_again_2 (fun H locs hP hD hS => ?_)
  obtain ⟨fs1, hfs1⟩ : ∃ z, z = fs.set 0 (.int 0) := ⟨_, rfl⟩
  rw [← hfs1] at hP hD
  have lfs1 : fs1.length = 139 := by rw [hfs1, List.length_set]; exact hlen
  have gfs1_67 : fs1[67]? = some (.int 0) := by rw [hfs1, List.getElem?_set_ne (by decide)]; exact hf_hasRun
  have gfs1_0 : fs1[0]? = some (.int 0) := by rw [hfs1]; exact List.getElem?_set_self (by rw [hlen]; decide)
  have hP : va_P D vwCl [(h0, .inr (12, fs1))] H := hP
  have hD : va_D A [(h0, .inr (12, fs1))] := hD
  refine lv_aload_n hx hb dX12_again_5 rfl (lv_at hl 0 rfl) ?_
  have hPc := hP.sub (ws' := [(h0, .inr (12, fs1))]) [0] rfl
  have hDc := hD.sub (ws' := [(h0, .inr (12, fs1))]) [0] (by decide) rfl
  have hKc := hK.sub (tys' := []) [] rfl
  have hFc := va_free (wc := [(h0, .inr (12, fs1))]) hD hS hA [0] rfl
  refine va_calli (va_runV (As := []) (rest := []) ⟨hx, hb, hml, hown, hts⟩ (c_m_noRun l D h0 fs1 H.size lfs1 gfs1_0 gfs1_67) (cwV 0 hts g_v_c_m_again_1 rfl rfl rfl (by decide +kernel) ⟨Nat.le_of_ble_eq_true rfl, Nat.le_of_ble_eq_true rfl⟩) ⟨st_blind, va_recv hKc hPc (ci := 12) (q0 := 0) rfl rfl, fun U hU hW => ⟨rfl, st_call hU hW hPc hKc hDc hZ hS hFc hE⟩⟩ rfl rfl hl.1 rfl (lv_room (Nat.le_of_ble_eq_true rfl)) dX12_again_6 ⟨Nat.le_of_ble_eq_true rfl, Nat.le_of_ble_eq_true rfl⟩) hS (fun q _ h => hFc q h) hFc (fun r2 u3 t H1 locs ht hvm hw hB hz1 hk1 hS => ?_)
  obtain ⟨er2, gu3_0, lu3⟩ := hw
  obtain ⟨hP1, hK1, hD1⟩ := hB
  rw [ht] at hP1
  have hK1 := va_K.moved hvm.symm hK1
  obtain ⟨hP, hD⟩ := va_join (wr := []) (w1 := [(h0, .inr (12, u3))]) hP hD [0] [] rfl rfl (by decide) (by decide) hk1 hFc hP1 hD1
  have hK := (hK.sub (tys' := []) [] rfl).app hK1
  generalize H1 = H at hP hS ⊢
  have hP : va_P D vwCl [(h0, .inr (12, u3))] H := hP
  have hD : va_D A [(h0, .inr (12, u3))] := hD
  have hK : va_K D vwCl [] s := hK
  subst er2
  refine lv_if_ne (tgt := 37) hx hb dX12_again_9 (by decide) (fun _ => ?_) (fun c9 => False.elim (by revert c9; decide))
  refine lv_iconst (v := 0) hx hb dX12_again_37 (by decide +kernel) ?_
  exact W.iret (v := 0) hx hb hr (fun t ht hW => ⟨⟨0, u3, rfl, gu3_0, by rw [ht]; exact hP, va_K.moved hW.alike hK, hD⟩, hS.F ht⟩) hS.2.2 dX12_again_38
noncomputable def v_c_m_run : List Cond := .code yX12_run cX12_run 5 (some .int) :: ([.fieldLink RX12 316 "ScheduleHouseModel" "thrown" "I"] ++ (wsX120 ++ ((wsV RX12 680 RX12 yX12_noRun v_c_m_noRun) ++ ([]))))
theorem i_v_c_m_run_X12 : ∀ w ∈ wsX120, w ∈ v_c_m_run := fun _ h => List.mem_cons_of_mem _ (List.mem_append_right _ (List.mem_append_left _ h))
theorem g_v_c_m_run_1 : GoodIn v_c_m_run (wsV RX12 680 RX12 yX12_noRun v_c_m_noRun) := goodIn_sub (fun _ h => List.mem_cons_of_mem _ (List.mem_append_right _ (List.mem_append_right _ (List.mem_append_left _ h)))) (by decide +kernel)
theorem t_v_c_m_run : ∀ w ∈ v_c_m_run, w ∈ lw_tbl := tb_c (List.mem_of_getElem? (i := 2847) (by decide +kernel)) (tb_a (tb_c (List.mem_of_getElem? (i := 2072) (by decide +kernel)) (tb_n)) (tb_a (tw_wsX120) (tb_a (tb_a (tb_c (List.mem_of_getElem? (i := 2795) (by decide +kernel)) (tb_c (List.mem_of_getElem? (i := 2797) (by decide +kernel)) (tb_c (List.mem_of_getElem? (i := 175) (by decide +kernel)) (tb_c (List.mem_of_getElem? (i := 215) (by decide +kernel)) (tb_n))))) t_v_c_m_noRun) (tb_n))))
set_option maxHeartbeats 400000 in
set_option maxRecDepth 100000 in
/-- the model's run: refused -/
theorem c_m_run (l : Launch) (D : va_G) (h0 : Nat) (fs : List Value) (p0 : Int32) (sz : Nat) (hlen : fs.length = 139) (hf_thrown : fs[0]? = some (.int 0)) (hf_hasRun : fs[67]? = some (.int 0)) : Met l yX12_run v_c_m_run ({ frames := 5, cells := 0, slots := 0, locals := 70 }) (va_Pc [.ref h0, .int p0] (st_ D [(h0, .inr (12, fs))] [] sz)) (va_Qi (fun (_ : Int32) (u : List Value) => u[0]? = some (.int 1)) (fun u t => va_P D vwCl [(h0, .inr (12, u))] t.heap ∧ va_K D vwCl [] t ∧ va_D (va_A [(h0, .inr (12, fs))] sz) [(h0, .inr (12, u))]) (va_A [(h0, .inr (12, fs))] sz)) 0 0 (va_A [(h0, .inr (12, fs))] sz) := by
  refine Met.ofW (cc := cX12_run) (maxL := 5) (ret := (some .int)) (by decide) rfl ?_
  intro p e s m args below meth c s₁ B hml hv
  obtain ⟨rfl, hsz, hP, hK, hD0, hZ, hE⟩ := hv
  have hx := B.exec
  have hb := B.bytes
  have hr := B.returns
  have hts := atoms_spec (ws := v_c_m_run) B.pre
  have hown : s.vm.findClass RX12 = some m.cls := findClass_of_methodNamed B.named
  have hlocks := B.notSynchronized
  subst hsz
  have hD := hD0.self (sz := s.heap.size)
  generalize hAe : va_A [(h0, .inr (12, fs))] s.heap.size = A at hD hZ ⊢
  have hA : ∀ q : Nat, s.heap.size ≤ q → A q := fun q h => by rw [← hAe]; exact Or.inr h
  have hS : va_S A s.heap s.heap [] := va_S.rf
  have hAO := hE.2.2.2.1
  have hP : va_P D vwCl [(h0, .inr (12, fs))] s.heap := hP
  have hl := lv_entry ([.ref h0, .int p0]) (n := 5) (Nat.le_of_ble_eq_true rfl)
  rw [lg_entry_eq]
  generalize (lg_sl ([.ref h0, .int p0]) ++ List.replicate (5 - (lg_sl ([.ref h0, .int p0])).length) Slot.unset).toArray = ls at hl ⊢
  have hl : lv_has ls 5 [(0, .ref h0), (1, .int p0)] := hl
  refine lv_aload_n hx hb dX12_run_0 rfl (lv_at hl 0 rfl) ?_
  refine lv_iconst (v := 0) hx hb dX12_run_1 (by decide +kernel) ?_
  refine va_put (D := D) (ci := 12) (v := .int 0) (ty := .int) (C := RX12) (T := TX12) (N := 139) hx hb hts i_v_c_m_run_X12 tyX12 tyX12_ok nmX12 hown hK hP hD hS 0 rfl rfl 0 (by decide) (hts (.fieldLink RX12 316 "ScheduleHouseModel" "thrown" "I") (by decide +kernel)) (fun _ h9 => h9) rfl (by decide +kernel) rfl rfl (by rw [hlen]; decide) dX12_run_2 (fun H locs hP hD hS => ?_)
  obtain ⟨fs1, hfs1⟩ : ∃ z, z = fs.set 0 (.int 0) := ⟨_, rfl⟩
  rw [← hfs1] at hP hD
  have lfs1 : fs1.length = 139 := by rw [hfs1, List.length_set]; exact hlen
  have gfs1_67 : fs1[67]? = some (.int 0) := by rw [hfs1, List.getElem?_set_ne (by decide)]; exact hf_hasRun
  have gfs1_0 : fs1[0]? = some (.int 0) := by rw [hfs1]; exact List.getElem?_set_self (by rw [hlen]; decide)
  have hP : va_P D vwCl [(h0, .inr (12, fs1))] H := hP
  have hD : va_D A [(h0, .inr (12, fs1))] := hD
  refine lv_aload_n hx hb dX12_run_5 rfl (lv_at hl 0 rfl) ?_
  have hPc := hP.sub (ws' := [(h0, .inr (12, fs1))]) [0] rfl
  have hDc := hD.sub (ws' := [(h0, .inr (12, fs1))]) [0] (by decide) rfl
  have hKc := hK.sub (tys' := []) [] rfl
  have hFc := va_free (wc := [(h0, .inr (12, fs1))]) hD hS hA [0] rfl
  refine va_calli (va_runV (As := []) (rest := []) ⟨hx, hb, hml, hown, hts⟩ (c_m_noRun l D h0 fs1 H.size lfs1 gfs1_0 gfs1_67) (cwV 0 hts g_v_c_m_run_1 rfl rfl rfl (by decide +kernel) ⟨Nat.le_of_ble_eq_true rfl, Nat.le_of_ble_eq_true rfl⟩) ⟨st_blind, va_recv hKc hPc (ci := 12) (q0 := 0) rfl rfl, fun U hU hW => ⟨rfl, st_call hU hW hPc hKc hDc hZ hS hFc hE⟩⟩ rfl rfl hl.1 rfl (lv_room (Nat.le_of_ble_eq_true rfl)) dX12_run_6 ⟨Nat.le_of_ble_eq_true rfl, Nat.le_of_ble_eq_true rfl⟩) hS (fun q _ h => hFc q h) hFc (fun r2 u3 t H1 locs ht hvm hw hB hz1 hk1 hS => ?_)
  obtain ⟨er2, gu3_0, lu3⟩ := hw
  obtain ⟨hP1, hK1, hD1⟩ := hB
  rw [ht] at hP1
  have hK1 := va_K.moved hvm.symm hK1
  obtain ⟨hP, hD⟩ := va_join (wr := []) (w1 := [(h0, .inr (12, u3))]) hP hD [0] [] rfl rfl (by decide) (by decide) hk1 hFc hP1 hD1
  have hK := (hK.sub (tys' := []) [] rfl).app hK1
  generalize H1 = H at hP hS ⊢
  have hP : va_P D vwCl [(h0, .inr (12, u3))] H := hP
  have hD : va_D A [(h0, .inr (12, u3))] := hD
  have hK : va_K D vwCl [] s := hK
  subst er2
  refine lv_if_ne (tgt := 35) hx hb dX12_run_9 (by decide) (fun _ => ?_) (fun c9 => False.elim (by revert c9; decide))
  refine lv_iconst (v := 0) hx hb dX12_run_35 (by decide +kernel) ?_
  exact W.iret (v := 0) hx hb hr (fun t ht hW => ⟨⟨0, u3, rfl, gu3_0, by rw [ht]; exact hP, va_K.moved hW.alike hK, hD⟩, hS.F ht⟩) hS.2.2 dX12_run_36
noncomputable def v_c_m_cell : List Cond := .code yX12_cell cX12_cell 2 (some .int) :: ([.fieldLink RX12 316 "ScheduleHouseModel" "thrown" "I"] ++ (wsX120 ++ ((wsV RX12 680 RX12 yX12_noRun v_c_m_noRun) ++ ([]))))
theorem i_v_c_m_cell_X12 : ∀ w ∈ wsX120, w ∈ v_c_m_cell := fun _ h => List.mem_cons_of_mem _ (List.mem_append_right _ (List.mem_append_left _ h))
theorem g_v_c_m_cell_1 : GoodIn v_c_m_cell (wsV RX12 680 RX12 yX12_noRun v_c_m_noRun) := goodIn_sub (fun _ h => List.mem_cons_of_mem _ (List.mem_append_right _ (List.mem_append_right _ (List.mem_append_left _ h)))) (by decide +kernel)
theorem t_v_c_m_cell : ∀ w ∈ v_c_m_cell, w ∈ lw_tbl := tb_c (List.mem_of_getElem? (i := 2871) (by decide +kernel)) (tb_a (tb_c (List.mem_of_getElem? (i := 2072) (by decide +kernel)) (tb_n)) (tb_a (tw_wsX120) (tb_a (tb_a (tb_c (List.mem_of_getElem? (i := 2795) (by decide +kernel)) (tb_c (List.mem_of_getElem? (i := 2797) (by decide +kernel)) (tb_c (List.mem_of_getElem? (i := 175) (by decide +kernel)) (tb_c (List.mem_of_getElem? (i := 215) (by decide +kernel)) (tb_n))))) t_v_c_m_noRun) (tb_n))))
set_option maxHeartbeats 400000 in
set_option maxRecDepth 100000 in
/-- the model's cell: refused -/
theorem c_m_cell (l : Launch) (D : va_G) (h0 : Nat) (fs : List Value) (p0 : Int32) (sz : Nat) (hlen : fs.length = 139) (hf_thrown : fs[0]? = some (.int 0)) (hf_hasRun : fs[67]? = some (.int 0)) : Met l yX12_cell v_c_m_cell ({ frames := 5, cells := 0, slots := 0, locals := 70 }) (va_Pc [.ref h0, .int p0] (st_ D [(h0, .inr (12, fs))] [] sz)) (va_Qi (fun (_ : Int32) (u : List Value) => u[0]? = some (.int 1)) (fun u t => va_P D vwCl [(h0, .inr (12, u))] t.heap ∧ va_K D vwCl [] t ∧ va_D (va_A [(h0, .inr (12, fs))] sz) [(h0, .inr (12, u))]) (va_A [(h0, .inr (12, fs))] sz)) 0 0 (va_A [(h0, .inr (12, fs))] sz) := by
  refine Met.ofW (cc := cX12_cell) (maxL := 2) (ret := (some .int)) (by decide) rfl ?_
  intro p e s m args below meth c s₁ B hml hv
  obtain ⟨rfl, hsz, hP, hK, hD0, hZ, hE⟩ := hv
  have hx := B.exec
  have hb := B.bytes
  have hr := B.returns
  have hts := atoms_spec (ws := v_c_m_cell) B.pre
  have hown : s.vm.findClass RX12 = some m.cls := findClass_of_methodNamed B.named
  have hlocks := B.notSynchronized
  subst hsz
  have hD := hD0.self (sz := s.heap.size)
  generalize hAe : va_A [(h0, .inr (12, fs))] s.heap.size = A at hD hZ ⊢
  have hA : ∀ q : Nat, s.heap.size ≤ q → A q := fun q h => by rw [← hAe]; exact Or.inr h
  have hS : va_S A s.heap s.heap [] := va_S.rf
  have hAO := hE.2.2.2.1
  have hP : va_P D vwCl [(h0, .inr (12, fs))] s.heap := hP
  have hl := lv_entry ([.ref h0, .int p0]) (n := 2) (Nat.le_of_ble_eq_true rfl)
  rw [lg_entry_eq]
  generalize (lg_sl ([.ref h0, .int p0]) ++ List.replicate (2 - (lg_sl ([.ref h0, .int p0])).length) Slot.unset).toArray = ls at hl ⊢
  have hl : lv_has ls 2 [(0, .ref h0), (1, .int p0)] := hl
  refine lv_aload_n hx hb dX12_cell_0 rfl (lv_at hl 0 rfl) ?_
  refine lv_iconst (v := 0) hx hb dX12_cell_1 (by decide +kernel) ?_
  refine va_put (D := D) (ci := 12) (v := .int 0) (ty := .int) (C := RX12) (T := TX12) (N := 139) hx hb hts i_v_c_m_cell_X12 tyX12 tyX12_ok nmX12 hown hK hP hD hS 0 rfl rfl 0 (by decide) (hts (.fieldLink RX12 316 "ScheduleHouseModel" "thrown" "I") (by decide +kernel)) (fun _ h9 => h9) rfl (by decide +kernel) rfl rfl (by rw [hlen]; decide) dX12_cell_2 (fun H locs hP hD hS => ?_)
  obtain ⟨fs1, hfs1⟩ : ∃ z, z = fs.set 0 (.int 0) := ⟨_, rfl⟩
  rw [← hfs1] at hP hD
  have lfs1 : fs1.length = 139 := by rw [hfs1, List.length_set]; exact hlen
  have gfs1_67 : fs1[67]? = some (.int 0) := by rw [hfs1, List.getElem?_set_ne (by decide)]; exact hf_hasRun
  have gfs1_0 : fs1[0]? = some (.int 0) := by rw [hfs1]; exact List.getElem?_set_self (by rw [hlen]; decide)
  have hP : va_P D vwCl [(h0, .inr (12, fs1))] H := hP
  have hD : va_D A [(h0, .inr (12, fs1))] := hD
  refine lv_aload_n hx hb dX12_cell_5 rfl (lv_at hl 0 rfl) ?_
  have hPc := hP.sub (ws' := [(h0, .inr (12, fs1))]) [0] rfl
  have hDc := hD.sub (ws' := [(h0, .inr (12, fs1))]) [0] (by decide) rfl
  have hKc := hK.sub (tys' := []) [] rfl
  have hFc := va_free (wc := [(h0, .inr (12, fs1))]) hD hS hA [0] rfl
  refine va_calli (va_runV (As := []) (rest := []) ⟨hx, hb, hml, hown, hts⟩ (c_m_noRun l D h0 fs1 H.size lfs1 gfs1_0 gfs1_67) (cwV 0 hts g_v_c_m_cell_1 rfl rfl rfl (by decide +kernel) ⟨Nat.le_of_ble_eq_true rfl, Nat.le_of_ble_eq_true rfl⟩) ⟨st_blind, va_recv hKc hPc (ci := 12) (q0 := 0) rfl rfl, fun U hU hW => ⟨rfl, st_call hU hW hPc hKc hDc hZ hS hFc hE⟩⟩ rfl rfl hl.1 rfl (lv_room (Nat.le_of_ble_eq_true rfl)) dX12_cell_6 ⟨Nat.le_of_ble_eq_true rfl, Nat.le_of_ble_eq_true rfl⟩) hS (fun q _ h => hFc q h) hFc (fun r2 u3 t H1 locs ht hvm hw hB hz1 hk1 hS => ?_)
  obtain ⟨er2, gu3_0, lu3⟩ := hw
  obtain ⟨hP1, hK1, hD1⟩ := hB
  rw [ht] at hP1
  have hK1 := va_K.moved hvm.symm hK1
  obtain ⟨hP, hD⟩ := va_join (wr := []) (w1 := [(h0, .inr (12, u3))]) hP hD [0] [] rfl rfl (by decide) (by decide) hk1 hFc hP1 hD1
  have hK := (hK.sub (tys' := []) [] rfl).app hK1
  generalize H1 = H at hP hS ⊢
  have hP : va_P D vwCl [(h0, .inr (12, u3))] H := hP
  have hD : va_D A [(h0, .inr (12, u3))] := hD
  have hK : va_K D vwCl [] s := hK
  subst er2
  refine lv_if_ne (tgt := 39) hx hb dX12_cell_9 (by decide) (fun _ => ?_) (fun c9 => False.elim (by revert c9; decide))
  refine lv_iconst (v := 0) hx hb dX12_cell_39 (by decide +kernel) ?_
  refine lv_goto (tgt := 49) hx hb dX12_cell_40 (by decide) ?_
  exact W.iret (v := 0) hx hb hr (fun t ht hW => ⟨⟨0, u3, rfl, gu3_0, by rw [ht]; exact hP, va_K.moved hW.alike hK, hD⟩, hS.F ht⟩) hS.2.2 dX12_cell_49
noncomputable def v_c_m_seen : List Cond := .code yX12_seen cX12_seen 3 (some .int) :: ([.fieldLink RX12 316 "ScheduleHouseModel" "thrown" "I"] ++ (wsX120 ++ ((wsV RX12 680 RX12 yX12_noRun v_c_m_noRun) ++ ([]))))
theorem i_v_c_m_seen_X12 : ∀ w ∈ wsX120, w ∈ v_c_m_seen := fun _ h => List.mem_cons_of_mem _ (List.mem_append_right _ (List.mem_append_left _ h))
theorem g_v_c_m_seen_1 : GoodIn v_c_m_seen (wsV RX12 680 RX12 yX12_noRun v_c_m_noRun) := goodIn_sub (fun _ h => List.mem_cons_of_mem _ (List.mem_append_right _ (List.mem_append_right _ (List.mem_append_left _ h)))) (by decide +kernel)
theorem t_v_c_m_seen : ∀ w ∈ v_c_m_seen, w ∈ lw_tbl := tb_c (List.mem_of_getElem? (i := 2875) (by decide +kernel)) (tb_a (tb_c (List.mem_of_getElem? (i := 2072) (by decide +kernel)) (tb_n)) (tb_a (tw_wsX120) (tb_a (tb_a (tb_c (List.mem_of_getElem? (i := 2795) (by decide +kernel)) (tb_c (List.mem_of_getElem? (i := 2797) (by decide +kernel)) (tb_c (List.mem_of_getElem? (i := 175) (by decide +kernel)) (tb_c (List.mem_of_getElem? (i := 215) (by decide +kernel)) (tb_n))))) t_v_c_m_noRun) (tb_n))))
set_option maxHeartbeats 400000 in
set_option maxRecDepth 100000 in
/-- the model's seen: refused -/
theorem c_m_seen (l : Launch) (D : va_G) (h0 : Nat) (fs : List Value) (p0 p1 : Int32) (sz : Nat) (hlen : fs.length = 139) (hf_thrown : fs[0]? = some (.int 0)) (hf_hasRun : fs[67]? = some (.int 0)) : Met l yX12_seen v_c_m_seen ({ frames := 5, cells := 0, slots := 0, locals := 70 }) (va_Pc [.ref h0, .int p0, .int p1] (st_ D [(h0, .inr (12, fs))] [] sz)) (va_Qi (fun (_ : Int32) (u : List Value) => u[0]? = some (.int 1)) (fun u t => va_P D vwCl [(h0, .inr (12, u))] t.heap ∧ va_K D vwCl [] t ∧ va_D (va_A [(h0, .inr (12, fs))] sz) [(h0, .inr (12, u))]) (va_A [(h0, .inr (12, fs))] sz)) 0 0 (va_A [(h0, .inr (12, fs))] sz) := by
  refine Met.ofW (cc := cX12_seen) (maxL := 3) (ret := (some .int)) (by decide) rfl ?_
  intro p e s m args below meth c s₁ B hml hv
  obtain ⟨rfl, hsz, hP, hK, hD0, hZ, hE⟩ := hv
  have hx := B.exec
  have hb := B.bytes
  have hr := B.returns
  have hts := atoms_spec (ws := v_c_m_seen) B.pre
  have hown : s.vm.findClass RX12 = some m.cls := findClass_of_methodNamed B.named
  have hlocks := B.notSynchronized
  subst hsz
  have hD := hD0.self (sz := s.heap.size)
  generalize hAe : va_A [(h0, .inr (12, fs))] s.heap.size = A at hD hZ ⊢
  have hA : ∀ q : Nat, s.heap.size ≤ q → A q := fun q h => by rw [← hAe]; exact Or.inr h
  have hS : va_S A s.heap s.heap [] := va_S.rf
  have hAO := hE.2.2.2.1
  have hP : va_P D vwCl [(h0, .inr (12, fs))] s.heap := hP
  have hl := lv_entry ([.ref h0, .int p0, .int p1]) (n := 3) (Nat.le_of_ble_eq_true rfl)
  rw [lg_entry_eq]
  generalize (lg_sl ([.ref h0, .int p0, .int p1]) ++ List.replicate (3 - (lg_sl ([.ref h0, .int p0, .int p1])).length) Slot.unset).toArray = ls at hl ⊢
  have hl : lv_has ls 3 [(0, .ref h0), (1, .int p0), (2, .int p1)] := hl
  refine lv_aload_n hx hb dX12_seen_0 rfl (lv_at hl 0 rfl) ?_
  refine lv_iconst (v := 0) hx hb dX12_seen_1 (by decide +kernel) ?_
  refine va_put (D := D) (ci := 12) (v := .int 0) (ty := .int) (C := RX12) (T := TX12) (N := 139) hx hb hts i_v_c_m_seen_X12 tyX12 tyX12_ok nmX12 hown hK hP hD hS 0 rfl rfl 0 (by decide) (hts (.fieldLink RX12 316 "ScheduleHouseModel" "thrown" "I") (by decide +kernel)) (fun _ h9 => h9) rfl (by decide +kernel) rfl rfl (by rw [hlen]; decide) dX12_seen_2 (fun H locs hP hD hS => ?_)
  obtain ⟨fs1, hfs1⟩ : ∃ z, z = fs.set 0 (.int 0) := ⟨_, rfl⟩
  rw [← hfs1] at hP hD
  have lfs1 : fs1.length = 139 := by rw [hfs1, List.length_set]; exact hlen
  have gfs1_67 : fs1[67]? = some (.int 0) := by rw [hfs1, List.getElem?_set_ne (by decide)]; exact hf_hasRun
  have gfs1_0 : fs1[0]? = some (.int 0) := by rw [hfs1]; exact List.getElem?_set_self (by rw [hlen]; decide)
  have hP : va_P D vwCl [(h0, .inr (12, fs1))] H := hP
  have hD : va_D A [(h0, .inr (12, fs1))] := hD
  refine lv_aload_n hx hb dX12_seen_5 rfl (lv_at hl 0 rfl) ?_
  have hPc := hP.sub (ws' := [(h0, .inr (12, fs1))]) [0] rfl
  have hDc := hD.sub (ws' := [(h0, .inr (12, fs1))]) [0] (by decide) rfl
  have hKc := hK.sub (tys' := []) [] rfl
  have hFc := va_free (wc := [(h0, .inr (12, fs1))]) hD hS hA [0] rfl
  refine va_calli (va_runV (As := []) (rest := []) ⟨hx, hb, hml, hown, hts⟩ (c_m_noRun l D h0 fs1 H.size lfs1 gfs1_0 gfs1_67) (cwV 0 hts g_v_c_m_seen_1 rfl rfl rfl (by decide +kernel) ⟨Nat.le_of_ble_eq_true rfl, Nat.le_of_ble_eq_true rfl⟩) ⟨st_blind, va_recv hKc hPc (ci := 12) (q0 := 0) rfl rfl, fun U hU hW => ⟨rfl, st_call hU hW hPc hKc hDc hZ hS hFc hE⟩⟩ rfl rfl hl.1 rfl (lv_room (Nat.le_of_ble_eq_true rfl)) dX12_seen_6 ⟨Nat.le_of_ble_eq_true rfl, Nat.le_of_ble_eq_true rfl⟩) hS (fun q _ h => hFc q h) hFc (fun r2 u3 t H1 locs ht hvm hw hB hz1 hk1 hS => ?_)
  obtain ⟨er2, gu3_0, lu3⟩ := hw
  obtain ⟨hP1, hK1, hD1⟩ := hB
  rw [ht] at hP1
  have hK1 := va_K.moved hvm.symm hK1
  obtain ⟨hP, hD⟩ := va_join (wr := []) (w1 := [(h0, .inr (12, u3))]) hP hD [0] [] rfl rfl (by decide) (by decide) hk1 hFc hP1 hD1
  have hK := (hK.sub (tys' := []) [] rfl).app hK1
  generalize H1 = H at hP hS ⊢
  have hP : va_P D vwCl [(h0, .inr (12, u3))] H := hP
  have hD : va_D A [(h0, .inr (12, u3))] := hD
  have hK : va_K D vwCl [] s := hK
  subst er2
  refine lv_if_ne (tgt := 53) hx hb dX12_seen_9 (by decide) (fun _ => ?_) (fun c9 => False.elim (by revert c9; decide))
  refine lv_iconst (v := 0) hx hb dX12_seen_53 (by decide +kernel) ?_
  refine lv_goto (tgt := 63) hx hb dX12_seen_54 (by decide) ?_
  exact W.iret (v := 0) hx hb hr (fun t ht hW => ⟨⟨0, u3, rfl, gu3_0, by rw [ht]; exact hP, va_K.moved hW.alike hK, hD⟩, hS.F ht⟩) hS.2.2 dX12_seen_63
noncomputable def v_c_m_lock : List Cond := .code yX12_lock cX12_lock 5 (some .int) :: ([.fieldLink RX12 316 "ScheduleHouseModel" "thrown" "I"] ++ (wsX120 ++ ((wsV RX12 680 RX12 yX12_noRun v_c_m_noRun) ++ ([]))))
theorem i_v_c_m_lock_X12 : ∀ w ∈ wsX120, w ∈ v_c_m_lock := fun _ h => List.mem_cons_of_mem _ (List.mem_append_right _ (List.mem_append_left _ h))
theorem g_v_c_m_lock_1 : GoodIn v_c_m_lock (wsV RX12 680 RX12 yX12_noRun v_c_m_noRun) := goodIn_sub (fun _ h => List.mem_cons_of_mem _ (List.mem_append_right _ (List.mem_append_right _ (List.mem_append_left _ h)))) (by decide +kernel)
theorem t_v_c_m_lock : ∀ w ∈ v_c_m_lock, w ∈ lw_tbl := tb_c (List.mem_of_getElem? (i := 2879) (by decide +kernel)) (tb_a (tb_c (List.mem_of_getElem? (i := 2072) (by decide +kernel)) (tb_n)) (tb_a (tw_wsX120) (tb_a (tb_a (tb_c (List.mem_of_getElem? (i := 2795) (by decide +kernel)) (tb_c (List.mem_of_getElem? (i := 2797) (by decide +kernel)) (tb_c (List.mem_of_getElem? (i := 175) (by decide +kernel)) (tb_c (List.mem_of_getElem? (i := 215) (by decide +kernel)) (tb_n))))) t_v_c_m_noRun) (tb_n))))
set_option maxHeartbeats 400000 in
set_option maxRecDepth 100000 in
/-- the model's lock: refused -/
theorem c_m_lock (l : Launch) (D : va_G) (h0 : Nat) (fs : List Value) (p0 p1 : Int32) (sz : Nat) (hlen : fs.length = 139) (hf_thrown : fs[0]? = some (.int 0)) (hf_hasRun : fs[67]? = some (.int 0)) : Met l yX12_lock v_c_m_lock ({ frames := 5, cells := 0, slots := 0, locals := 70 }) (va_Pc [.ref h0, .int p0, .int p1] (st_ D [(h0, .inr (12, fs))] [] sz)) (va_Qi (fun (_ : Int32) (u : List Value) => u[0]? = some (.int 1)) (fun u t => va_P D vwCl [(h0, .inr (12, u))] t.heap ∧ va_K D vwCl [] t ∧ va_D (va_A [(h0, .inr (12, fs))] sz) [(h0, .inr (12, u))]) (va_A [(h0, .inr (12, fs))] sz)) 0 0 (va_A [(h0, .inr (12, fs))] sz) := by
  refine Met.ofW (cc := cX12_lock) (maxL := 5) (ret := (some .int)) (by decide) rfl ?_
  intro p e s m args below meth c s₁ B hml hv
  obtain ⟨rfl, hsz, hP, hK, hD0, hZ, hE⟩ := hv
  have hx := B.exec
  have hb := B.bytes
  have hr := B.returns
  have hts := atoms_spec (ws := v_c_m_lock) B.pre
  have hown : s.vm.findClass RX12 = some m.cls := findClass_of_methodNamed B.named
  have hlocks := B.notSynchronized
  subst hsz
  have hD := hD0.self (sz := s.heap.size)
  generalize hAe : va_A [(h0, .inr (12, fs))] s.heap.size = A at hD hZ ⊢
  have hA : ∀ q : Nat, s.heap.size ≤ q → A q := fun q h => by rw [← hAe]; exact Or.inr h
  have hS : va_S A s.heap s.heap [] := va_S.rf
  have hAO := hE.2.2.2.1
  have hP : va_P D vwCl [(h0, .inr (12, fs))] s.heap := hP
  have hl := lv_entry ([.ref h0, .int p0, .int p1]) (n := 5) (Nat.le_of_ble_eq_true rfl)
  rw [lg_entry_eq]
  generalize (lg_sl ([.ref h0, .int p0, .int p1]) ++ List.replicate (5 - (lg_sl ([.ref h0, .int p0, .int p1])).length) Slot.unset).toArray = ls at hl ⊢
  have hl : lv_has ls 5 [(0, .ref h0), (1, .int p0), (2, .int p1)] := hl
  refine lv_aload_n hx hb dX12_lock_0 rfl (lv_at hl 0 rfl) ?_
  refine lv_iconst (v := 0) hx hb dX12_lock_1 (by decide +kernel) ?_
  refine va_put (D := D) (ci := 12) (v := .int 0) (ty := .int) (C := RX12) (T := TX12) (N := 139) hx hb hts i_v_c_m_lock_X12 tyX12 tyX12_ok nmX12 hown hK hP hD hS 0 rfl rfl 0 (by decide) (hts (.fieldLink RX12 316 "ScheduleHouseModel" "thrown" "I") (by decide +kernel)) (fun _ h9 => h9) rfl (by decide +kernel) rfl rfl (by rw [hlen]; decide) dX12_lock_2 (fun H locs hP hD hS => ?_)
  obtain ⟨fs1, hfs1⟩ : ∃ z, z = fs.set 0 (.int 0) := ⟨_, rfl⟩
  rw [← hfs1] at hP hD
  have lfs1 : fs1.length = 139 := by rw [hfs1, List.length_set]; exact hlen
  have gfs1_67 : fs1[67]? = some (.int 0) := by rw [hfs1, List.getElem?_set_ne (by decide)]; exact hf_hasRun
  have gfs1_0 : fs1[0]? = some (.int 0) := by rw [hfs1]; exact List.getElem?_set_self (by rw [hlen]; decide)
  have hP : va_P D vwCl [(h0, .inr (12, fs1))] H := hP
  have hD : va_D A [(h0, .inr (12, fs1))] := hD
  refine lv_aload_n hx hb dX12_lock_5 rfl (lv_at hl 0 rfl) ?_
  have hPc := hP.sub (ws' := [(h0, .inr (12, fs1))]) [0] rfl
  have hDc := hD.sub (ws' := [(h0, .inr (12, fs1))]) [0] (by decide) rfl
  have hKc := hK.sub (tys' := []) [] rfl
  have hFc := va_free (wc := [(h0, .inr (12, fs1))]) hD hS hA [0] rfl
  refine va_calli (va_runV (As := []) (rest := []) ⟨hx, hb, hml, hown, hts⟩ (c_m_noRun l D h0 fs1 H.size lfs1 gfs1_0 gfs1_67) (cwV 0 hts g_v_c_m_lock_1 rfl rfl rfl (by decide +kernel) ⟨Nat.le_of_ble_eq_true rfl, Nat.le_of_ble_eq_true rfl⟩) ⟨st_blind, va_recv hKc hPc (ci := 12) (q0 := 0) rfl rfl, fun U hU hW => ⟨rfl, st_call hU hW hPc hKc hDc hZ hS hFc hE⟩⟩ rfl rfl hl.1 rfl (lv_room (Nat.le_of_ble_eq_true rfl)) dX12_lock_6 ⟨Nat.le_of_ble_eq_true rfl, Nat.le_of_ble_eq_true rfl⟩) hS (fun q _ h => hFc q h) hFc (fun r2 u3 t H1 locs ht hvm hw hB hz1 hk1 hS => ?_)
  obtain ⟨er2, gu3_0, lu3⟩ := hw
  obtain ⟨hP1, hK1, hD1⟩ := hB
  rw [ht] at hP1
  have hK1 := va_K.moved hvm.symm hK1
  obtain ⟨hP, hD⟩ := va_join (wr := []) (w1 := [(h0, .inr (12, u3))]) hP hD [0] [] rfl rfl (by decide) (by decide) hk1 hFc hP1 hD1
  have hK := (hK.sub (tys' := []) [] rfl).app hK1
  generalize H1 = H at hP hS ⊢
  have hP : va_P D vwCl [(h0, .inr (12, u3))] H := hP
  have hD : va_D A [(h0, .inr (12, u3))] := hD
  have hK : va_K D vwCl [] s := hK
  subst er2
  refine lv_if_ne (tgt := 48) hx hb dX12_lock_9 (by decide) (fun _ => ?_) (fun c9 => False.elim (by revert c9; decide))
  refine lv_iconst (v := 0) hx hb dX12_lock_48 (by decide +kernel) ?_
  exact W.iret (v := 0) hx hb hr (fun t ht hW => ⟨⟨0, u3, rfl, gu3_0, by rw [ht]; exact hP, va_K.moved hW.alike hK, hD⟩, hS.F ht⟩) hS.2.2 dX12_lock_49
noncomputable def v_c_m_thread : List Cond := .code yX12_thread cX12_thread 3 (some .int) :: ([.fieldLink RX12 316 "ScheduleHouseModel" "thrown" "I"] ++ (wsX120 ++ ((wsV RX12 680 RX12 yX12_noRun v_c_m_noRun) ++ ([]))))
theorem i_v_c_m_thread_X12 : ∀ w ∈ wsX120, w ∈ v_c_m_thread := fun _ h => List.mem_cons_of_mem _ (List.mem_append_right _ (List.mem_append_left _ h))
theorem g_v_c_m_thread_1 : GoodIn v_c_m_thread (wsV RX12 680 RX12 yX12_noRun v_c_m_noRun) := goodIn_sub (fun _ h => List.mem_cons_of_mem _ (List.mem_append_right _ (List.mem_append_right _ (List.mem_append_left _ h)))) (by decide +kernel)
theorem t_v_c_m_thread : ∀ w ∈ v_c_m_thread, w ∈ lw_tbl := tb_c (List.mem_of_getElem? (i := 2883) (by decide +kernel)) (tb_a (tb_c (List.mem_of_getElem? (i := 2072) (by decide +kernel)) (tb_n)) (tb_a (tw_wsX120) (tb_a (tb_a (tb_c (List.mem_of_getElem? (i := 2795) (by decide +kernel)) (tb_c (List.mem_of_getElem? (i := 2797) (by decide +kernel)) (tb_c (List.mem_of_getElem? (i := 175) (by decide +kernel)) (tb_c (List.mem_of_getElem? (i := 215) (by decide +kernel)) (tb_n))))) t_v_c_m_noRun) (tb_n))))
set_option maxHeartbeats 400000 in
set_option maxRecDepth 100000 in
/-- the model's thread: refused -/
theorem c_m_thread (l : Launch) (D : va_G) (h0 : Nat) (fs : List Value) (p0 p1 : Int32) (sz : Nat) (hlen : fs.length = 139) (hf_thrown : fs[0]? = some (.int 0)) (hf_hasRun : fs[67]? = some (.int 0)) : Met l yX12_thread v_c_m_thread ({ frames := 5, cells := 0, slots := 0, locals := 70 }) (va_Pc [.ref h0, .int p0, .int p1] (st_ D [(h0, .inr (12, fs))] [] sz)) (va_Qi (fun (_ : Int32) (u : List Value) => u[0]? = some (.int 1)) (fun u t => va_P D vwCl [(h0, .inr (12, u))] t.heap ∧ va_K D vwCl [] t ∧ va_D (va_A [(h0, .inr (12, fs))] sz) [(h0, .inr (12, u))]) (va_A [(h0, .inr (12, fs))] sz)) 0 0 (va_A [(h0, .inr (12, fs))] sz) := by
  refine Met.ofW (cc := cX12_thread) (maxL := 3) (ret := (some .int)) (by decide) rfl ?_
  intro p e s m args below meth c s₁ B hml hv
  obtain ⟨rfl, hsz, hP, hK, hD0, hZ, hE⟩ := hv
  have hx := B.exec
  have hb := B.bytes
  have hr := B.returns
  have hts := atoms_spec (ws := v_c_m_thread) B.pre
  have hown : s.vm.findClass RX12 = some m.cls := findClass_of_methodNamed B.named
  have hlocks := B.notSynchronized
  subst hsz
  have hD := hD0.self (sz := s.heap.size)
  generalize hAe : va_A [(h0, .inr (12, fs))] s.heap.size = A at hD hZ ⊢
  have hA : ∀ q : Nat, s.heap.size ≤ q → A q := fun q h => by rw [← hAe]; exact Or.inr h
  have hS : va_S A s.heap s.heap [] := va_S.rf
  have hAO := hE.2.2.2.1
  have hP : va_P D vwCl [(h0, .inr (12, fs))] s.heap := hP
  have hl := lv_entry ([.ref h0, .int p0, .int p1]) (n := 3) (Nat.le_of_ble_eq_true rfl)
  rw [lg_entry_eq]
  generalize (lg_sl ([.ref h0, .int p0, .int p1]) ++ List.replicate (3 - (lg_sl ([.ref h0, .int p0, .int p1])).length) Slot.unset).toArray = ls at hl ⊢
  have hl : lv_has ls 3 [(0, .ref h0), (1, .int p0), (2, .int p1)] := hl
  refine lv_aload_n hx hb dX12_thread_0 rfl (lv_at hl 0 rfl) ?_
  refine lv_iconst (v := 0) hx hb dX12_thread_1 (by decide +kernel) ?_
  refine va_put (D := D) (ci := 12) (v := .int 0) (ty := .int) (C := RX12) (T := TX12) (N := 139) hx hb hts i_v_c_m_thread_X12 tyX12 tyX12_ok nmX12 hown hK hP hD hS 0 rfl rfl 0 (by decide) (hts (.fieldLink RX12 316 "ScheduleHouseModel" "thrown" "I") (by decide +kernel)) (fun _ h9 => h9) rfl (by decide +kernel) rfl rfl (by rw [hlen]; decide) dX12_thread_2 (fun H locs hP hD hS => ?_)
  obtain ⟨fs1, hfs1⟩ : ∃ z, z = fs.set 0 (.int 0) := ⟨_, rfl⟩
  rw [← hfs1] at hP hD
  have lfs1 : fs1.length = 139 := by rw [hfs1, List.length_set]; exact hlen
  have gfs1_67 : fs1[67]? = some (.int 0) := by rw [hfs1, List.getElem?_set_ne (by decide)]; exact hf_hasRun
  have gfs1_0 : fs1[0]? = some (.int 0) := by rw [hfs1]; exact List.getElem?_set_self (by rw [hlen]; decide)
  have hP : va_P D vwCl [(h0, .inr (12, fs1))] H := hP
  have hD : va_D A [(h0, .inr (12, fs1))] := hD
  refine lv_aload_n hx hb dX12_thread_5 rfl (lv_at hl 0 rfl) ?_
  have hPc := hP.sub (ws' := [(h0, .inr (12, fs1))]) [0] rfl
  have hDc := hD.sub (ws' := [(h0, .inr (12, fs1))]) [0] (by decide) rfl
  have hKc := hK.sub (tys' := []) [] rfl
  have hFc := va_free (wc := [(h0, .inr (12, fs1))]) hD hS hA [0] rfl
  refine va_calli (va_runV (As := []) (rest := []) ⟨hx, hb, hml, hown, hts⟩ (c_m_noRun l D h0 fs1 H.size lfs1 gfs1_0 gfs1_67) (cwV 0 hts g_v_c_m_thread_1 rfl rfl rfl (by decide +kernel) ⟨Nat.le_of_ble_eq_true rfl, Nat.le_of_ble_eq_true rfl⟩) ⟨st_blind, va_recv hKc hPc (ci := 12) (q0 := 0) rfl rfl, fun U hU hW => ⟨rfl, st_call hU hW hPc hKc hDc hZ hS hFc hE⟩⟩ rfl rfl hl.1 rfl (lv_room (Nat.le_of_ble_eq_true rfl)) dX12_thread_6 ⟨Nat.le_of_ble_eq_true rfl, Nat.le_of_ble_eq_true rfl⟩) hS (fun q _ h => hFc q h) hFc (fun r2 u3 t H1 locs ht hvm hw hB hz1 hk1 hS => ?_)
  obtain ⟨er2, gu3_0, lu3⟩ := hw
  obtain ⟨hP1, hK1, hD1⟩ := hB
  rw [ht] at hP1
  have hK1 := va_K.moved hvm.symm hK1
  obtain ⟨hP, hD⟩ := va_join (wr := []) (w1 := [(h0, .inr (12, u3))]) hP hD [0] [] rfl rfl (by decide) (by decide) hk1 hFc hP1 hD1
  have hK := (hK.sub (tys' := []) [] rfl).app hK1
  generalize H1 = H at hP hS ⊢
  have hP : va_P D vwCl [(h0, .inr (12, u3))] H := hP
  have hD : va_D A [(h0, .inr (12, u3))] := hD
  have hK : va_K D vwCl [] s := hK
  subst er2
  refine lv_if_ne (tgt := 48) hx hb dX12_thread_9 (by decide) (fun _ => ?_) (fun c9 => False.elim (by revert c9; decide))
  refine lv_iconst (v := 0) hx hb dX12_thread_48 (by decide +kernel) ?_
  exact W.iret (v := 0) hx hb hr (fun t ht hW => ⟨⟨0, u3, rfl, gu3_0, by rw [ht]; exact hP, va_K.moved hW.alike hK, hD⟩, hS.F ht⟩) hS.2.2 dX12_thread_49
noncomputable def v_c_m_local : List Cond := .code yX12_local cX12_local 6 (some .int) :: ([.fieldLink RX12 316 "ScheduleHouseModel" "thrown" "I"] ++ (wsX120 ++ ((wsV RX12 680 RX12 yX12_noRun v_c_m_noRun) ++ ([]))))
theorem i_v_c_m_local_X12 : ∀ w ∈ wsX120, w ∈ v_c_m_local := fun _ h => List.mem_cons_of_mem _ (List.mem_append_right _ (List.mem_append_left _ h))
theorem g_v_c_m_local_1 : GoodIn v_c_m_local (wsV RX12 680 RX12 yX12_noRun v_c_m_noRun) := goodIn_sub (fun _ h => List.mem_cons_of_mem _ (List.mem_append_right _ (List.mem_append_right _ (List.mem_append_left _ h)))) (by decide +kernel)
theorem t_v_c_m_local : ∀ w ∈ v_c_m_local, w ∈ lw_tbl := tb_c (List.mem_of_getElem? (i := 2894) (by decide +kernel)) (tb_a (tb_c (List.mem_of_getElem? (i := 2072) (by decide +kernel)) (tb_n)) (tb_a (tw_wsX120) (tb_a (tb_a (tb_c (List.mem_of_getElem? (i := 2795) (by decide +kernel)) (tb_c (List.mem_of_getElem? (i := 2797) (by decide +kernel)) (tb_c (List.mem_of_getElem? (i := 175) (by decide +kernel)) (tb_c (List.mem_of_getElem? (i := 215) (by decide +kernel)) (tb_n))))) t_v_c_m_noRun) (tb_n))))
set_option maxHeartbeats 400000 in
set_option maxRecDepth 100000 in
/-- the model's local: refused -/
theorem c_m_local (l : Launch) (D : va_G) (h0 : Nat) (fs : List Value) (p0 p1 : Int32) (sz : Nat) (hlen : fs.length = 139) (hf_thrown : fs[0]? = some (.int 0)) (hf_hasRun : fs[67]? = some (.int 0)) : Met l yX12_local v_c_m_local ({ frames := 5, cells := 0, slots := 0, locals := 70 }) (va_Pc [.ref h0, .int p0, .int p1] (st_ D [(h0, .inr (12, fs))] [] sz)) (va_Qi (fun (_ : Int32) (u : List Value) => u[0]? = some (.int 1)) (fun u t => va_P D vwCl [(h0, .inr (12, u))] t.heap ∧ va_K D vwCl [] t ∧ va_D (va_A [(h0, .inr (12, fs))] sz) [(h0, .inr (12, u))]) (va_A [(h0, .inr (12, fs))] sz)) 0 0 (va_A [(h0, .inr (12, fs))] sz) := by
  refine Met.ofW (cc := cX12_local) (maxL := 6) (ret := (some .int)) (by decide) rfl ?_
  intro p e s m args below meth c s₁ B hml hv
  obtain ⟨rfl, hsz, hP, hK, hD0, hZ, hE⟩ := hv
  have hx := B.exec
  have hb := B.bytes
  have hr := B.returns
  have hts := atoms_spec (ws := v_c_m_local) B.pre
  have hown : s.vm.findClass RX12 = some m.cls := findClass_of_methodNamed B.named
  have hlocks := B.notSynchronized
  subst hsz
  have hD := hD0.self (sz := s.heap.size)
  generalize hAe : va_A [(h0, .inr (12, fs))] s.heap.size = A at hD hZ ⊢
  have hA : ∀ q : Nat, s.heap.size ≤ q → A q := fun q h => by rw [← hAe]; exact Or.inr h
  have hS : va_S A s.heap s.heap [] := va_S.rf
  have hAO := hE.2.2.2.1
  have hP : va_P D vwCl [(h0, .inr (12, fs))] s.heap := hP
  have hl := lv_entry ([.ref h0, .int p0, .int p1]) (n := 6) (Nat.le_of_ble_eq_true rfl)
  rw [lg_entry_eq]
  generalize (lg_sl ([.ref h0, .int p0, .int p1]) ++ List.replicate (6 - (lg_sl ([.ref h0, .int p0, .int p1])).length) Slot.unset).toArray = ls at hl ⊢
  have hl : lv_has ls 6 [(0, .ref h0), (1, .int p0), (2, .int p1)] := hl
  refine lv_aload_n hx hb dX12_local_0 rfl (lv_at hl 0 rfl) ?_
  refine lv_iconst (v := 0) hx hb dX12_local_1 (by decide +kernel) ?_
  refine va_put (D := D) (ci := 12) (v := .int 0) (ty := .int) (C := RX12) (T := TX12) (N := 139) hx hb hts i_v_c_m_local_X12 tyX12 tyX12_ok nmX12 hown hK hP hD hS 0 rfl rfl 0 (by decide) (hts (.fieldLink RX12 316 "ScheduleHouseModel" "thrown" "I") (by decide +kernel)) (fun _ h9 => h9) rfl (by decide +kernel) rfl rfl (by rw [hlen]; decide) dX12_local_2 (fun H locs hP hD hS => ?_)
  obtain ⟨fs1, hfs1⟩ : ∃ z, z = fs.set 0 (.int 0) := ⟨_, rfl⟩
  rw [← hfs1] at hP hD
  have lfs1 : fs1.length = 139 := by rw [hfs1, List.length_set]; exact hlen
  have gfs1_67 : fs1[67]? = some (.int 0) := by rw [hfs1, List.getElem?_set_ne (by decide)]; exact hf_hasRun
  have gfs1_0 : fs1[0]? = some (.int 0) := by rw [hfs1]; exact List.getElem?_set_self (by rw [hlen]; decide)
  have hP : va_P D vwCl [(h0, .inr (12, fs1))] H := hP
  have hD : va_D A [(h0, .inr (12, fs1))] := hD
  refine lv_aload_n hx hb dX12_local_5 rfl (lv_at hl 0 rfl) ?_
  have hPc := hP.sub (ws' := [(h0, .inr (12, fs1))]) [0] rfl
  have hDc := hD.sub (ws' := [(h0, .inr (12, fs1))]) [0] (by decide) rfl
  have hKc := hK.sub (tys' := []) [] rfl
  have hFc := va_free (wc := [(h0, .inr (12, fs1))]) hD hS hA [0] rfl
  refine va_calli (va_runV (As := []) (rest := []) ⟨hx, hb, hml, hown, hts⟩ (c_m_noRun l D h0 fs1 H.size lfs1 gfs1_0 gfs1_67) (cwV 0 hts g_v_c_m_local_1 rfl rfl rfl (by decide +kernel) ⟨Nat.le_of_ble_eq_true rfl, Nat.le_of_ble_eq_true rfl⟩) ⟨st_blind, va_recv hKc hPc (ci := 12) (q0 := 0) rfl rfl, fun U hU hW => ⟨rfl, st_call hU hW hPc hKc hDc hZ hS hFc hE⟩⟩ rfl rfl hl.1 rfl (lv_room (Nat.le_of_ble_eq_true rfl)) dX12_local_6 ⟨Nat.le_of_ble_eq_true rfl, Nat.le_of_ble_eq_true rfl⟩) hS (fun q _ h => hFc q h) hFc (fun r2 u3 t H1 locs ht hvm hw hB hz1 hk1 hS => ?_)
  obtain ⟨er2, gu3_0, lu3⟩ := hw
  obtain ⟨hP1, hK1, hD1⟩ := hB
  rw [ht] at hP1
  have hK1 := va_K.moved hvm.symm hK1
  obtain ⟨hP, hD⟩ := va_join (wr := []) (w1 := [(h0, .inr (12, u3))]) hP hD [0] [] rfl rfl (by decide) (by decide) hk1 hFc hP1 hD1
  have hK := (hK.sub (tys' := []) [] rfl).app hK1
  generalize H1 = H at hP hS ⊢
  have hP : va_P D vwCl [(h0, .inr (12, u3))] H := hP
  have hD : va_D A [(h0, .inr (12, u3))] := hD
  have hK : va_K D vwCl [] s := hK
  subst er2
  refine lv_if_ne (tgt := 39) hx hb dX12_local_9 (by decide) (fun _ => ?_) (fun c9 => False.elim (by revert c9; decide))
  refine lv_iconst (v := 0) hx hb dX12_local_39 (by decide +kernel) ?_
  exact W.iret (v := 0) hx hb hr (fun t ht hW => ⟨⟨0, u3, rfl, gu3_0, by rw [ht]; exact hP, va_K.moved hW.alike hK, hD⟩, hS.F ht⟩) hS.2.2 dX12_local_40
noncomputable def v_c_m_act : List Cond := .code yX12_act cX12_act 3 (some .int) :: ([.fieldLink RX12 316 "ScheduleHouseModel" "thrown" "I"] ++ (wsX120 ++ ((wsV RX12 680 RX12 yX12_noRun v_c_m_noRun) ++ ([]))))
theorem i_v_c_m_act_X12 : ∀ w ∈ wsX120, w ∈ v_c_m_act := fun _ h => List.mem_cons_of_mem _ (List.mem_append_right _ (List.mem_append_left _ h))
theorem g_v_c_m_act_1 : GoodIn v_c_m_act (wsV RX12 680 RX12 yX12_noRun v_c_m_noRun) := goodIn_sub (fun _ h => List.mem_cons_of_mem _ (List.mem_append_right _ (List.mem_append_right _ (List.mem_append_left _ h)))) (by decide +kernel)
theorem t_v_c_m_act : ∀ w ∈ v_c_m_act, w ∈ lw_tbl := tb_c (List.mem_of_getElem? (i := 2898) (by decide +kernel)) (tb_a (tb_c (List.mem_of_getElem? (i := 2072) (by decide +kernel)) (tb_n)) (tb_a (tw_wsX120) (tb_a (tb_a (tb_c (List.mem_of_getElem? (i := 2795) (by decide +kernel)) (tb_c (List.mem_of_getElem? (i := 2797) (by decide +kernel)) (tb_c (List.mem_of_getElem? (i := 175) (by decide +kernel)) (tb_c (List.mem_of_getElem? (i := 215) (by decide +kernel)) (tb_n))))) t_v_c_m_noRun) (tb_n))))
set_option maxHeartbeats 400000 in
set_option maxRecDepth 100000 in
/-- the model's act: refused -/
theorem c_m_act (l : Launch) (D : va_G) (h0 : Nat) (fs : List Value) (p0 p1 : Int32) (sz : Nat) (hlen : fs.length = 139) (hf_thrown : fs[0]? = some (.int 0)) (hf_hasRun : fs[67]? = some (.int 0)) : Met l yX12_act v_c_m_act ({ frames := 5, cells := 0, slots := 0, locals := 70 }) (va_Pc [.ref h0, .int p0, .int p1] (st_ D [(h0, .inr (12, fs))] [] sz)) (va_Qi (fun (_ : Int32) (u : List Value) => u[0]? = some (.int 1)) (fun u t => va_P D vwCl [(h0, .inr (12, u))] t.heap ∧ va_K D vwCl [] t ∧ va_D (va_A [(h0, .inr (12, fs))] sz) [(h0, .inr (12, u))]) (va_A [(h0, .inr (12, fs))] sz)) 0 0 (va_A [(h0, .inr (12, fs))] sz) := by
  refine Met.ofW (cc := cX12_act) (maxL := 3) (ret := (some .int)) (by decide) rfl ?_
  intro p e s m args below meth c s₁ B hml hv
  obtain ⟨rfl, hsz, hP, hK, hD0, hZ, hE⟩ := hv
  have hx := B.exec
  have hb := B.bytes
  have hr := B.returns
  have hts := atoms_spec (ws := v_c_m_act) B.pre
  have hown : s.vm.findClass RX12 = some m.cls := findClass_of_methodNamed B.named
  have hlocks := B.notSynchronized
  subst hsz
  have hD := hD0.self (sz := s.heap.size)
  generalize hAe : va_A [(h0, .inr (12, fs))] s.heap.size = A at hD hZ ⊢
  have hA : ∀ q : Nat, s.heap.size ≤ q → A q := fun q h => by rw [← hAe]; exact Or.inr h
  have hS : va_S A s.heap s.heap [] := va_S.rf
  have hAO := hE.2.2.2.1
  have hP : va_P D vwCl [(h0, .inr (12, fs))] s.heap := hP
  have hl := lv_entry ([.ref h0, .int p0, .int p1]) (n := 3) (Nat.le_of_ble_eq_true rfl)
  rw [lg_entry_eq]
  generalize (lg_sl ([.ref h0, .int p0, .int p1]) ++ List.replicate (3 - (lg_sl ([.ref h0, .int p0, .int p1])).length) Slot.unset).toArray = ls at hl ⊢
  have hl : lv_has ls 3 [(0, .ref h0), (1, .int p0), (2, .int p1)] := hl
  refine lv_aload_n hx hb dX12_act_0 rfl (lv_at hl 0 rfl) ?_
  refine lv_iconst (v := 0) hx hb dX12_act_1 (by decide +kernel) ?_
  refine va_put (D := D) (ci := 12) (v := .int 0) (ty := .int) (C := RX12) (T := TX12) (N := 139) hx hb hts i_v_c_m_act_X12 tyX12 tyX12_ok nmX12 hown hK hP hD hS 0 rfl rfl 0 (by decide) (hts (.fieldLink RX12 316 "ScheduleHouseModel" "thrown" "I") (by decide +kernel)) (fun _ h9 => h9) rfl (by decide +kernel) rfl rfl (by rw [hlen]; decide) dX12_act_2 (fun H locs hP hD hS => ?_)
  obtain ⟨fs1, hfs1⟩ : ∃ z, z = fs.set 0 (.int 0) := ⟨_, rfl⟩
  rw [← hfs1] at hP hD
  have lfs1 : fs1.length = 139 := by rw [hfs1, List.length_set]; exact hlen
  have gfs1_67 : fs1[67]? = some (.int 0) := by rw [hfs1, List.getElem?_set_ne (by decide)]; exact hf_hasRun
  have gfs1_0 : fs1[0]? = some (.int 0) := by rw [hfs1]; exact List.getElem?_set_self (by rw [hlen]; decide)
  have hP : va_P D vwCl [(h0, .inr (12, fs1))] H := hP
  have hD : va_D A [(h0, .inr (12, fs1))] := hD
  refine lv_aload_n hx hb dX12_act_5 rfl (lv_at hl 0 rfl) ?_
  have hPc := hP.sub (ws' := [(h0, .inr (12, fs1))]) [0] rfl
  have hDc := hD.sub (ws' := [(h0, .inr (12, fs1))]) [0] (by decide) rfl
  have hKc := hK.sub (tys' := []) [] rfl
  have hFc := va_free (wc := [(h0, .inr (12, fs1))]) hD hS hA [0] rfl
  refine va_calli (va_runV (As := []) (rest := []) ⟨hx, hb, hml, hown, hts⟩ (c_m_noRun l D h0 fs1 H.size lfs1 gfs1_0 gfs1_67) (cwV 0 hts g_v_c_m_act_1 rfl rfl rfl (by decide +kernel) ⟨Nat.le_of_ble_eq_true rfl, Nat.le_of_ble_eq_true rfl⟩) ⟨st_blind, va_recv hKc hPc (ci := 12) (q0 := 0) rfl rfl, fun U hU hW => ⟨rfl, st_call hU hW hPc hKc hDc hZ hS hFc hE⟩⟩ rfl rfl hl.1 rfl (lv_room (Nat.le_of_ble_eq_true rfl)) dX12_act_6 ⟨Nat.le_of_ble_eq_true rfl, Nat.le_of_ble_eq_true rfl⟩) hS (fun q _ h => hFc q h) hFc (fun r2 u3 t H1 locs ht hvm hw hB hz1 hk1 hS => ?_)
  obtain ⟨er2, gu3_0, lu3⟩ := hw
  obtain ⟨hP1, hK1, hD1⟩ := hB
  rw [ht] at hP1
  have hK1 := va_K.moved hvm.symm hK1
  obtain ⟨hP, hD⟩ := va_join (wr := []) (w1 := [(h0, .inr (12, u3))]) hP hD [0] [] rfl rfl (by decide) (by decide) hk1 hFc hP1 hD1
  have hK := (hK.sub (tys' := []) [] rfl).app hK1
  generalize H1 = H at hP hS ⊢
  have hP : va_P D vwCl [(h0, .inr (12, u3))] H := hP
  have hD : va_D A [(h0, .inr (12, u3))] := hD
  have hK : va_K D vwCl [] s := hK
  subst er2
  refine lv_if_ne (tgt := 48) hx hb dX12_act_9 (by decide) (fun _ => ?_) (fun c9 => False.elim (by revert c9; decide))
  refine lv_iconst (v := 0) hx hb dX12_act_48 (by decide +kernel) ?_
  exact W.iret (v := 0) hx hb hr (fun t ht hW => ⟨⟨0, u3, rfl, gu3_0, by rw [ht]; exact hP, va_K.moved hW.alike hK, hD⟩, hS.F ht⟩) hS.2.2 dX12_act_49
noncomputable def v_c_m_before : List Cond := .code yX12_before cX12_before 3 (some .boolean) :: ([.fieldLink RX12 316 "ScheduleHouseModel" "thrown" "I"] ++ (wsX120 ++ ((wsV RX12 680 RX12 yX12_noRun v_c_m_noRun) ++ ([]))))
theorem i_v_c_m_before_X12 : ∀ w ∈ wsX120, w ∈ v_c_m_before := fun _ h => List.mem_cons_of_mem _ (List.mem_append_right _ (List.mem_append_left _ h))
theorem g_v_c_m_before_1 : GoodIn v_c_m_before (wsV RX12 680 RX12 yX12_noRun v_c_m_noRun) := goodIn_sub (fun _ h => List.mem_cons_of_mem _ (List.mem_append_right _ (List.mem_append_right _ (List.mem_append_left _ h)))) (by decide +kernel)
theorem t_v_c_m_before : ∀ w ∈ v_c_m_before, w ∈ lw_tbl := tb_c (List.mem_of_getElem? (i := 2902) (by decide +kernel)) (tb_a (tb_c (List.mem_of_getElem? (i := 2072) (by decide +kernel)) (tb_n)) (tb_a (tw_wsX120) (tb_a (tb_a (tb_c (List.mem_of_getElem? (i := 2795) (by decide +kernel)) (tb_c (List.mem_of_getElem? (i := 2797) (by decide +kernel)) (tb_c (List.mem_of_getElem? (i := 175) (by decide +kernel)) (tb_c (List.mem_of_getElem? (i := 215) (by decide +kernel)) (tb_n))))) t_v_c_m_noRun) (tb_n))))
set_option maxHeartbeats 400000 in
set_option maxRecDepth 100000 in
/-- the model's before: refused -/
theorem c_m_before (l : Launch) (D : va_G) (h0 : Nat) (fs : List Value) (p0 p1 : Int32) (sz : Nat) (hlen : fs.length = 139) (hf_thrown : fs[0]? = some (.int 0)) (hf_hasRun : fs[67]? = some (.int 0)) : Met l yX12_before v_c_m_before ({ frames := 5, cells := 0, slots := 0, locals := 70 }) (va_Pc [.ref h0, .int p0, .int p1] (st_ D [(h0, .inr (12, fs))] [] sz)) (va_Qi (fun (_ : Int32) (u : List Value) => u[0]? = some (.int 1)) (fun u t => va_P D vwCl [(h0, .inr (12, u))] t.heap ∧ va_K D vwCl [] t ∧ va_D (va_A [(h0, .inr (12, fs))] sz) [(h0, .inr (12, u))]) (va_A [(h0, .inr (12, fs))] sz)) 0 0 (va_A [(h0, .inr (12, fs))] sz) := by
  refine Met.ofW (cc := cX12_before) (maxL := 3) (ret := (some .boolean)) (by decide) rfl ?_
  intro p e s m args below meth c s₁ B hml hv
  obtain ⟨rfl, hsz, hP, hK, hD0, hZ, hE⟩ := hv
  have hx := B.exec
  have hb := B.bytes
  have hr := B.returns
  have hts := atoms_spec (ws := v_c_m_before) B.pre
  have hown : s.vm.findClass RX12 = some m.cls := findClass_of_methodNamed B.named
  have hlocks := B.notSynchronized
  subst hsz
  have hD := hD0.self (sz := s.heap.size)
  generalize hAe : va_A [(h0, .inr (12, fs))] s.heap.size = A at hD hZ ⊢
  have hA : ∀ q : Nat, s.heap.size ≤ q → A q := fun q h => by rw [← hAe]; exact Or.inr h
  have hS : va_S A s.heap s.heap [] := va_S.rf
  have hAO := hE.2.2.2.1
  have hP : va_P D vwCl [(h0, .inr (12, fs))] s.heap := hP
  have hl := lv_entry ([.ref h0, .int p0, .int p1]) (n := 3) (Nat.le_of_ble_eq_true rfl)
  rw [lg_entry_eq]
  generalize (lg_sl ([.ref h0, .int p0, .int p1]) ++ List.replicate (3 - (lg_sl ([.ref h0, .int p0, .int p1])).length) Slot.unset).toArray = ls at hl ⊢
  have hl : lv_has ls 3 [(0, .ref h0), (1, .int p0), (2, .int p1)] := hl
  refine lv_aload_n hx hb dX12_before_0 rfl (lv_at hl 0 rfl) ?_
  refine lv_iconst (v := 0) hx hb dX12_before_1 (by decide +kernel) ?_
  refine va_put (D := D) (ci := 12) (v := .int 0) (ty := .int) (C := RX12) (T := TX12) (N := 139) hx hb hts i_v_c_m_before_X12 tyX12 tyX12_ok nmX12 hown hK hP hD hS 0 rfl rfl 0 (by decide) (hts (.fieldLink RX12 316 "ScheduleHouseModel" "thrown" "I") (by decide +kernel)) (fun _ h9 => h9) rfl (by decide +kernel) rfl rfl (by rw [hlen]; decide) dX12_before_2 (fun H locs hP hD hS => ?_)
  obtain ⟨fs1, hfs1⟩ : ∃ z, z = fs.set 0 (.int 0) := ⟨_, rfl⟩
  rw [← hfs1] at hP hD
  have lfs1 : fs1.length = 139 := by rw [hfs1, List.length_set]; exact hlen
  have gfs1_67 : fs1[67]? = some (.int 0) := by rw [hfs1, List.getElem?_set_ne (by decide)]; exact hf_hasRun
  have gfs1_0 : fs1[0]? = some (.int 0) := by rw [hfs1]; exact List.getElem?_set_self (by rw [hlen]; decide)
  have hP : va_P D vwCl [(h0, .inr (12, fs1))] H := hP
  have hD : va_D A [(h0, .inr (12, fs1))] := hD
  refine lv_aload_n hx hb dX12_before_5 rfl (lv_at hl 0 rfl) ?_
  have hPc := hP.sub (ws' := [(h0, .inr (12, fs1))]) [0] rfl
  have hDc := hD.sub (ws' := [(h0, .inr (12, fs1))]) [0] (by decide) rfl
  have hKc := hK.sub (tys' := []) [] rfl
  have hFc := va_free (wc := [(h0, .inr (12, fs1))]) hD hS hA [0] rfl
  refine va_calli (va_runV (As := []) (rest := []) ⟨hx, hb, hml, hown, hts⟩ (c_m_noRun l D h0 fs1 H.size lfs1 gfs1_0 gfs1_67) (cwV 0 hts g_v_c_m_before_1 rfl rfl rfl (by decide +kernel) ⟨Nat.le_of_ble_eq_true rfl, Nat.le_of_ble_eq_true rfl⟩) ⟨st_blind, va_recv hKc hPc (ci := 12) (q0 := 0) rfl rfl, fun U hU hW => ⟨rfl, st_call hU hW hPc hKc hDc hZ hS hFc hE⟩⟩ rfl rfl hl.1 rfl (lv_room (Nat.le_of_ble_eq_true rfl)) dX12_before_6 ⟨Nat.le_of_ble_eq_true rfl, Nat.le_of_ble_eq_true rfl⟩) hS (fun q _ h => hFc q h) hFc (fun r2 u3 t H1 locs ht hvm hw hB hz1 hk1 hS => ?_)
  obtain ⟨er2, gu3_0, lu3⟩ := hw
  obtain ⟨hP1, hK1, hD1⟩ := hB
  rw [ht] at hP1
  have hK1 := va_K.moved hvm.symm hK1
  obtain ⟨hP, hD⟩ := va_join (wr := []) (w1 := [(h0, .inr (12, u3))]) hP hD [0] [] rfl rfl (by decide) (by decide) hk1 hFc hP1 hD1
  have hK := (hK.sub (tys' := []) [] rfl).app hK1
  generalize H1 = H at hP hS ⊢
  have hP : va_P D vwCl [(h0, .inr (12, u3))] H := hP
  have hD : va_D A [(h0, .inr (12, u3))] := hD
  have hK : va_K D vwCl [] s := hK
  subst er2
  refine lv_if_ne (tgt := 66) hx hb dX12_before_9 (by decide) (fun _ => ?_) (fun c9 => False.elim (by revert c9; decide))
  refine lv_iconst (v := 0) hx hb dX12_before_66 (by decide +kernel) ?_
  exact W.zret (v := 0) hx hb hr rfl (fun t ht hW => ⟨⟨0, u3, rfl, gu3_0, by rw [ht]; exact hP, va_K.moved hW.alike hK, hD⟩, hS.F ht⟩) hS.2.2 dX12_before_67
noncomputable def v_c_m_race : List Cond := .code yX12_race cX12_race 6 (some .int) :: ([.fieldLink RX12 316 "ScheduleHouseModel" "thrown" "I"] ++ (wsX120 ++ ((wsV RX12 680 RX12 yX12_noRun v_c_m_noRun) ++ ([]))))
theorem i_v_c_m_race_X12 : ∀ w ∈ wsX120, w ∈ v_c_m_race := fun _ h => List.mem_cons_of_mem _ (List.mem_append_right _ (List.mem_append_left _ h))
theorem g_v_c_m_race_1 : GoodIn v_c_m_race (wsV RX12 680 RX12 yX12_noRun v_c_m_noRun) := goodIn_sub (fun _ h => List.mem_cons_of_mem _ (List.mem_append_right _ (List.mem_append_right _ (List.mem_append_left _ h)))) (by decide +kernel)
theorem t_v_c_m_race : ∀ w ∈ v_c_m_race, w ∈ lw_tbl := tb_c (List.mem_of_getElem? (i := 2906) (by decide +kernel)) (tb_a (tb_c (List.mem_of_getElem? (i := 2072) (by decide +kernel)) (tb_n)) (tb_a (tw_wsX120) (tb_a (tb_a (tb_c (List.mem_of_getElem? (i := 2795) (by decide +kernel)) (tb_c (List.mem_of_getElem? (i := 2797) (by decide +kernel)) (tb_c (List.mem_of_getElem? (i := 175) (by decide +kernel)) (tb_c (List.mem_of_getElem? (i := 215) (by decide +kernel)) (tb_n))))) t_v_c_m_noRun) (tb_n))))
set_option maxHeartbeats 400000 in
set_option maxRecDepth 100000 in
/-- the model's race: refused -/
theorem c_m_race (l : Launch) (D : va_G) (h0 : Nat) (fs : List Value) (p0 p1 : Int32) (sz : Nat) (hlen : fs.length = 139) (hf_thrown : fs[0]? = some (.int 0)) (hf_hasRun : fs[67]? = some (.int 0)) : Met l yX12_race v_c_m_race ({ frames := 5, cells := 0, slots := 0, locals := 70 }) (va_Pc [.ref h0, .int p0, .int p1] (st_ D [(h0, .inr (12, fs))] [] sz)) (va_Qi (fun (_ : Int32) (u : List Value) => u[0]? = some (.int 1)) (fun u t => va_P D vwCl [(h0, .inr (12, u))] t.heap ∧ va_K D vwCl [] t ∧ va_D (va_A [(h0, .inr (12, fs))] sz) [(h0, .inr (12, u))]) (va_A [(h0, .inr (12, fs))] sz)) 0 0 (va_A [(h0, .inr (12, fs))] sz) := by
  refine Met.ofW (cc := cX12_race) (maxL := 6) (ret := (some .int)) (by decide) rfl ?_
  intro p e s m args below meth c s₁ B hml hv
  obtain ⟨rfl, hsz, hP, hK, hD0, hZ, hE⟩ := hv
  have hx := B.exec
  have hb := B.bytes
  have hr := B.returns
  have hts := atoms_spec (ws := v_c_m_race) B.pre
  have hown : s.vm.findClass RX12 = some m.cls := findClass_of_methodNamed B.named
  have hlocks := B.notSynchronized
  subst hsz
  have hD := hD0.self (sz := s.heap.size)
  generalize hAe : va_A [(h0, .inr (12, fs))] s.heap.size = A at hD hZ ⊢
  have hA : ∀ q : Nat, s.heap.size ≤ q → A q := fun q h => by rw [← hAe]; exact Or.inr h
  have hS : va_S A s.heap s.heap [] := va_S.rf
  have hAO := hE.2.2.2.1
  have hP : va_P D vwCl [(h0, .inr (12, fs))] s.heap := hP
  have hl := lv_entry ([.ref h0, .int p0, .int p1]) (n := 6) (Nat.le_of_ble_eq_true rfl)
  rw [lg_entry_eq]
  generalize (lg_sl ([.ref h0, .int p0, .int p1]) ++ List.replicate (6 - (lg_sl ([.ref h0, .int p0, .int p1])).length) Slot.unset).toArray = ls at hl ⊢
  have hl : lv_has ls 6 [(0, .ref h0), (1, .int p0), (2, .int p1)] := hl
  refine lv_aload_n hx hb dX12_race_0 rfl (lv_at hl 0 rfl) ?_
  refine lv_iconst (v := 0) hx hb dX12_race_1 (by decide +kernel) ?_
  refine va_put (D := D) (ci := 12) (v := .int 0) (ty := .int) (C := RX12) (T := TX12) (N := 139) hx hb hts i_v_c_m_race_X12 tyX12 tyX12_ok nmX12 hown hK hP hD hS 0 rfl rfl 0 (by decide) (hts (.fieldLink RX12 316 "ScheduleHouseModel" "thrown" "I") (by decide +kernel)) (fun _ h9 => h9) rfl (by decide +kernel) rfl rfl (by rw [hlen]; decide) dX12_race_2 (fun H locs hP hD hS => ?_)
  obtain ⟨fs1, hfs1⟩ : ∃ z, z = fs.set 0 (.int 0) := ⟨_, rfl⟩
  rw [← hfs1] at hP hD
  have lfs1 : fs1.length = 139 := by rw [hfs1, List.length_set]; exact hlen
  have gfs1_67 : fs1[67]? = some (.int 0) := by rw [hfs1, List.getElem?_set_ne (by decide)]; exact hf_hasRun
  have gfs1_0 : fs1[0]? = some (.int 0) := by rw [hfs1]; exact List.getElem?_set_self (by rw [hlen]; decide)
  have hP : va_P D vwCl [(h0, .inr (12, fs1))] H := hP
  have hD : va_D A [(h0, .inr (12, fs1))] := hD
  refine lv_aload_n hx hb dX12_race_5 rfl (lv_at hl 0 rfl) ?_
  have hPc := hP.sub (ws' := [(h0, .inr (12, fs1))]) [0] rfl
  have hDc := hD.sub (ws' := [(h0, .inr (12, fs1))]) [0] (by decide) rfl
  have hKc := hK.sub (tys' := []) [] rfl
  have hFc := va_free (wc := [(h0, .inr (12, fs1))]) hD hS hA [0] rfl
  refine va_calli (va_runV (As := []) (rest := []) ⟨hx, hb, hml, hown, hts⟩ (c_m_noRun l D h0 fs1 H.size lfs1 gfs1_0 gfs1_67) (cwV 0 hts g_v_c_m_race_1 rfl rfl rfl (by decide +kernel) ⟨Nat.le_of_ble_eq_true rfl, Nat.le_of_ble_eq_true rfl⟩) ⟨st_blind, va_recv hKc hPc (ci := 12) (q0 := 0) rfl rfl, fun U hU hW => ⟨rfl, st_call hU hW hPc hKc hDc hZ hS hFc hE⟩⟩ rfl rfl hl.1 rfl (lv_room (Nat.le_of_ble_eq_true rfl)) dX12_race_6 ⟨Nat.le_of_ble_eq_true rfl, Nat.le_of_ble_eq_true rfl⟩) hS (fun q _ h => hFc q h) hFc (fun r2 u3 t H1 locs ht hvm hw hB hz1 hk1 hS => ?_)
  obtain ⟨er2, gu3_0, lu3⟩ := hw
  obtain ⟨hP1, hK1, hD1⟩ := hB
  rw [ht] at hP1
  have hK1 := va_K.moved hvm.symm hK1
  obtain ⟨hP, hD⟩ := va_join (wr := []) (w1 := [(h0, .inr (12, u3))]) hP hD [0] [] rfl rfl (by decide) (by decide) hk1 hFc hP1 hD1
  have hK := (hK.sub (tys' := []) [] rfl).app hK1
  generalize H1 = H at hP hS ⊢
  have hP : va_P D vwCl [(h0, .inr (12, u3))] H := hP
  have hD : va_D A [(h0, .inr (12, u3))] := hD
  have hK : va_K D vwCl [] s := hK
  subst er2
  refine lv_if_eq (tgt := 14) hx hb dX12_race_9 (by decide) (fun c9 => False.elim (by revert c9; decide)) (fun _ => ?_)
  refine lv_iconst (v := 0) hx hb dX12_race_12 (by decide +kernel) ?_
  exact W.iret (v := 0) hx hb hr (fun t ht hW => ⟨⟨0, u3, rfl, gu3_0, by rw [ht]; exact hP, va_K.moved hW.alike hK, hD⟩, hS.F ht⟩) hS.2.2 dX12_race_13
noncomputable def v_c_m_linear : List Cond := .code yX12_linear cX12_linear 5 (some .int) :: ([.fieldLink RX12 316 "ScheduleHouseModel" "thrown" "I"] ++ (wsX120 ++ ((wsV RX12 680 RX12 yX12_noRun v_c_m_noRun) ++ ([]))))
theorem i_v_c_m_linear_X12 : ∀ w ∈ wsX120, w ∈ v_c_m_linear := fun _ h => List.mem_cons_of_mem _ (List.mem_append_right _ (List.mem_append_left _ h))
theorem g_v_c_m_linear_1 : GoodIn v_c_m_linear (wsV RX12 680 RX12 yX12_noRun v_c_m_noRun) := goodIn_sub (fun _ h => List.mem_cons_of_mem _ (List.mem_append_right _ (List.mem_append_right _ (List.mem_append_left _ h)))) (by decide +kernel)
theorem t_v_c_m_linear : ∀ w ∈ v_c_m_linear, w ∈ lw_tbl := tb_c (List.mem_of_getElem? (i := 2910) (by decide +kernel)) (tb_a (tb_c (List.mem_of_getElem? (i := 2072) (by decide +kernel)) (tb_n)) (tb_a (tw_wsX120) (tb_a (tb_a (tb_c (List.mem_of_getElem? (i := 2795) (by decide +kernel)) (tb_c (List.mem_of_getElem? (i := 2797) (by decide +kernel)) (tb_c (List.mem_of_getElem? (i := 175) (by decide +kernel)) (tb_c (List.mem_of_getElem? (i := 215) (by decide +kernel)) (tb_n))))) t_v_c_m_noRun) (tb_n))))
set_option maxHeartbeats 400000 in
set_option maxRecDepth 100000 in
/-- the model's linear: refused -/
theorem c_m_linear (l : Launch) (D : va_G) (h0 : Nat) (fs : List Value) (p0 : Int32) (sz : Nat) (hlen : fs.length = 139) (hf_thrown : fs[0]? = some (.int 0)) (hf_hasRun : fs[67]? = some (.int 0)) : Met l yX12_linear v_c_m_linear ({ frames := 5, cells := 0, slots := 0, locals := 70 }) (va_Pc [.ref h0, .int p0] (st_ D [(h0, .inr (12, fs))] [] sz)) (va_Qi (fun (_ : Int32) (u : List Value) => u[0]? = some (.int 1)) (fun u t => va_P D vwCl [(h0, .inr (12, u))] t.heap ∧ va_K D vwCl [] t ∧ va_D (va_A [(h0, .inr (12, fs))] sz) [(h0, .inr (12, u))]) (va_A [(h0, .inr (12, fs))] sz)) 0 0 (va_A [(h0, .inr (12, fs))] sz) := by
  refine Met.ofW (cc := cX12_linear) (maxL := 5) (ret := (some .int)) (by decide) rfl ?_
  intro p e s m args below meth c s₁ B hml hv
  obtain ⟨rfl, hsz, hP, hK, hD0, hZ, hE⟩ := hv
  have hx := B.exec
  have hb := B.bytes
  have hr := B.returns
  have hts := atoms_spec (ws := v_c_m_linear) B.pre
  have hown : s.vm.findClass RX12 = some m.cls := findClass_of_methodNamed B.named
  have hlocks := B.notSynchronized
  subst hsz
  have hD := hD0.self (sz := s.heap.size)
  generalize hAe : va_A [(h0, .inr (12, fs))] s.heap.size = A at hD hZ ⊢
  have hA : ∀ q : Nat, s.heap.size ≤ q → A q := fun q h => by rw [← hAe]; exact Or.inr h
  have hS : va_S A s.heap s.heap [] := va_S.rf
  have hAO := hE.2.2.2.1
  have hP : va_P D vwCl [(h0, .inr (12, fs))] s.heap := hP
  have hl := lv_entry ([.ref h0, .int p0]) (n := 5) (Nat.le_of_ble_eq_true rfl)
  rw [lg_entry_eq]
  generalize (lg_sl ([.ref h0, .int p0]) ++ List.replicate (5 - (lg_sl ([.ref h0, .int p0])).length) Slot.unset).toArray = ls at hl ⊢
  have hl : lv_has ls 5 [(0, .ref h0), (1, .int p0)] := hl
  refine lv_aload_n hx hb dX12_linear_0 rfl (lv_at hl 0 rfl) ?_
  refine lv_iconst (v := 0) hx hb dX12_linear_1 (by decide +kernel) ?_
  refine va_put (D := D) (ci := 12) (v := .int 0) (ty := .int) (C := RX12) (T := TX12) (N := 139) hx hb hts i_v_c_m_linear_X12 tyX12 tyX12_ok nmX12 hown hK hP hD hS 0 rfl rfl 0 (by decide) (hts (.fieldLink RX12 316 "ScheduleHouseModel" "thrown" "I") (by decide +kernel)) (fun _ h9 => h9) rfl (by decide +kernel) rfl rfl (by rw [hlen]; decide) dX12_linear_2 (fun H locs hP hD hS => ?_)
  obtain ⟨fs1, hfs1⟩ : ∃ z, z = fs.set 0 (.int 0) := ⟨_, rfl⟩
  rw [← hfs1] at hP hD
  have lfs1 : fs1.length = 139 := by rw [hfs1, List.length_set]; exact hlen
  have gfs1_67 : fs1[67]? = some (.int 0) := by rw [hfs1, List.getElem?_set_ne (by decide)]; exact hf_hasRun
  have gfs1_0 : fs1[0]? = some (.int 0) := by rw [hfs1]; exact List.getElem?_set_self (by rw [hlen]; decide)
  have hP : va_P D vwCl [(h0, .inr (12, fs1))] H := hP
  have hD : va_D A [(h0, .inr (12, fs1))] := hD
  refine lv_aload_n hx hb dX12_linear_5 rfl (lv_at hl 0 rfl) ?_
  have hPc := hP.sub (ws' := [(h0, .inr (12, fs1))]) [0] rfl
  have hDc := hD.sub (ws' := [(h0, .inr (12, fs1))]) [0] (by decide) rfl
  have hKc := hK.sub (tys' := []) [] rfl
  have hFc := va_free (wc := [(h0, .inr (12, fs1))]) hD hS hA [0] rfl
  refine va_calli (va_runV (As := []) (rest := []) ⟨hx, hb, hml, hown, hts⟩ (c_m_noRun l D h0 fs1 H.size lfs1 gfs1_0 gfs1_67) (cwV 0 hts g_v_c_m_linear_1 rfl rfl rfl (by decide +kernel) ⟨Nat.le_of_ble_eq_true rfl, Nat.le_of_ble_eq_true rfl⟩) ⟨st_blind, va_recv hKc hPc (ci := 12) (q0 := 0) rfl rfl, fun U hU hW => ⟨rfl, st_call hU hW hPc hKc hDc hZ hS hFc hE⟩⟩ rfl rfl hl.1 rfl (lv_room (Nat.le_of_ble_eq_true rfl)) dX12_linear_6 ⟨Nat.le_of_ble_eq_true rfl, Nat.le_of_ble_eq_true rfl⟩) hS (fun q _ h => hFc q h) hFc (fun r2 u3 t H1 locs ht hvm hw hB hz1 hk1 hS => ?_)
  obtain ⟨er2, gu3_0, lu3⟩ := hw
  obtain ⟨hP1, hK1, hD1⟩ := hB
  rw [ht] at hP1
  have hK1 := va_K.moved hvm.symm hK1
  obtain ⟨hP, hD⟩ := va_join (wr := []) (w1 := [(h0, .inr (12, u3))]) hP hD [0] [] rfl rfl (by decide) (by decide) hk1 hFc hP1 hD1
  have hK := (hK.sub (tys' := []) [] rfl).app hK1
  generalize H1 = H at hP hS ⊢
  have hP : va_P D vwCl [(h0, .inr (12, u3))] H := hP
  have hD : va_D A [(h0, .inr (12, u3))] := hD
  have hK : va_K D vwCl [] s := hK
  subst er2
  refine lv_if_ne (tgt := 34) hx hb dX12_linear_9 (by decide) (fun _ => ?_) (fun c9 => False.elim (by revert c9; decide))
  refine lv_iconst (v := 0) hx hb dX12_linear_34 (by decide +kernel) ?_
  exact W.iret (v := 0) hx hb hr (fun t ht hW => ⟨⟨0, u3, rfl, gu3_0, by rw [ht]; exact hP, va_K.moved hW.alike hK, hD⟩, hS.F ht⟩) hS.2.2 dX12_linear_35
