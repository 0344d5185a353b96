abbrev mz : List Nat := [0, 2, 3, 8, 9, 10, 13, 28, 47, 41, 42, 49, 52, 66, 67, 23, 24, 25, 26, 27]
noncomputable def v_c_L_fault : List Cond := .codeWith yL_fault cL_fault 4 (some .int) [(0, 9, 12, 19)] :: ([.classLink RL 19 iOE] ++ ((wsV RL 15 RX11 yX11_fault v_c_fault) ++ ([])))
theorem g_v_c_L_fault_0 : GoodIn v_c_L_fault (wsV RL 15 RX11 yX11_fault v_c_fault) := goodIn_sub (fun _ h => List.mem_cons_of_mem _ (List.mem_append_right _ (List.mem_append_left _ h))) (by decide +kernel)
theorem t_v_c_L_fault : ∀ w ∈ v_c_L_fault, w ∈ lw_tbl := tb_c (List.mem_of_getElem? (i := 1237) (by decide +kernel)) (tb_a (tb_c (List.mem_of_getElem? (i := 1238) (by decide +kernel)) (tb_n)) (tb_a (tb_a (tb_c (List.mem_of_getElem? (i := 1239) (by decide +kernel)) (tb_c (List.mem_of_getElem? (i := 1240) (by decide +kernel)) (tb_c (List.mem_of_getElem? (i := 1241) (by decide +kernel)) (tb_c (List.mem_of_getElem? (i := 206) (by decide +kernel)) (tb_n))))) t_v_c_fault) (tb_n)))
set_option maxHeartbeats 400000 in
set_option maxRecDepth 100000 in
/-- the law's fault -/
theorem c_L_fault (l : Launch) (D : va_G) (h0 o0 : Nat) (co : ClassId) (xfs : List Value) (fo : Nat → Int64) (p0 : Int32) (sz : Nat) (hlt : l.stackTraces = false) (hq11 : xfs[11]? = some (.int (-1))) (hq12 : xfs[12]? = some (.int (-1))) : Met l yL_fault v_c_L_fault ({ frames := 11, cells := 1, slots := 6, locals := 260 }) (va_Pc [.ref h0, .int p0, .ref o0] (st_ D [(h0, .inr (11, xfs)), (o0, .inl (co, 1, .inr (.inl fo)))] [(co, .long)] sz)) (va_Qi (fun (r : Int32) (u : Nat → Int64) => (r = 0 ∧ u 0 = -1 ∧ (p0 = 0 ∨ p0 = 1)) ∨ (r = 1 ∧ (¬ p0 = 0 ∧ ¬ p0 = 1)) ∨ (r = 2 ∧ False)) (fun u t => va_P D vwCl [(o0, .inl (co, 1, .inr (.inl u)))] t.heap ∧ va_K D vwCl [(co, .long)] t ∧ va_D (va_A [(h0, .inr (11, xfs)), (o0, .inl (co, 1, .inr (.inl fo)))] sz) [(o0, .inl (co, 1, .inr (.inl u)))]) (va_A [(h0, .inr (11, xfs)), (o0, .inl (co, 1, .inr (.inl fo)))] sz)) 1 6 (va_A [(h0, .inr (11, xfs)), (o0, .inl (co, 1, .inr (.inl fo)))] sz) := by
  refine va_MetW (hh := [(0, 9, 12, 19)]) (cc := cL_fault) (maxL := 4) (ret := (some .int)) (by decide) rfl ?_
  intro p e s m args below meth c s₁ B hml hv
  obtain ⟨rfl, hsz, hP, hK, hD0, hZ, hE⟩ := hv
  have hx := B.exec
  have hb := B.bytes
  have hr := B.returns
  have hts := atoms_spec (ws := v_c_L_fault) B.pre
  have hown : s.vm.findClass RL = some m.cls := findClass_of_methodNamed B.named
  have hlocks := B.notSynchronized
  subst hsz
  have hD := hD0.self (sz := s.heap.size)
  generalize hAe : va_A [(h0, .inr (11, xfs)), (o0, .inl (co, 1, .inr (.inl fo)))] s.heap.size = A at hD hZ ⊢
  have hA : ∀ q : Nat, s.heap.size ≤ q → A q := fun q h => by rw [← hAe]; exact Or.inr h
  have hS : va_S A s.heap s.heap [] := va_S.rf
  have hAO := hE.2.2.2.1
  have hP : va_P D vwCl [(h0, .inr (11, xfs)), (o0, .inl (co, 1, .inr (.inl fo)))] s.heap := hP
  have hl := lv_entry ([.ref h0, .int p0, .ref o0]) (n := 4) (Nat.le_of_ble_eq_true rfl)
  rw [lg_entry_eq]
  generalize (lg_sl ([.ref h0, .int p0, .ref o0]) ++ List.replicate (4 - (lg_sl ([.ref h0, .int p0, .ref o0])).length) Slot.unset).toArray = ls at hl ⊢
  have hl : lv_has ls 4 [(0, .ref h0), (1, .int p0), (2, .ref o0)] := hl
  have htab := vx_table (x := yL_fault) B (hts (.codeWith yL_fault cL_fault 4 (some .int) [(0, 9, 12, 19)]) List.mem_cons_self)
  refine lv_aload_n hx hb dL_fault_0 rfl (lv_at hl 2 rfl) ?_
  refine lv_iconst (v := 0) hx hb dL_fault_1 (by decide +kernel) ?_
  refine lv_aload_n hx hb dL_fault_2 rfl (lv_at hl 0 rfl) ?_
  refine lv_iload_n hx hb dL_fault_3 rfl (lv_at hl 1 rfl) ?_
  have hPc := hP.sub (ws' := [(h0, .inr (11, xfs))]) [0] rfl
  have hDc := hD.sub (ws' := [(h0, .inr (11, xfs))]) [0] (by decide) rfl
  have hKc := hK.sub (tys' := []) [] rfl
  have hFc := va_free (wc := [(h0, .inr (11, xfs))]) hD hS hA [0] rfl
  refine vx_calli (vx_runV (As := [.int p0]) (rest := [.int 0, .ref o0]) ⟨hx, hb, hml, hown, hts⟩ (c_fault l hlt D h0 xfs p0 s.heap.size hq11 hq12) (cwV 1 hts g_v_c_L_fault_0 rfl rfl rfl (by decide +kernel) ⟨Nat.le_of_ble_eq_true rfl, Nat.le_of_ble_eq_true rfl⟩) ⟨st_blind, va_recv hKc hPc (ci := 11) (q0 := 0) rfl rfl, fun U hU hW => ⟨rfl, st_call hU hW hPc hKc hDc hZ hS hFc hE⟩⟩ rfl rfl hl.1 rfl (lv_room (Nat.le_of_ble_eq_true rfl)) dL_fault_4 ⟨Nat.le_of_ble_eq_true rfl, Nat.le_of_ble_eq_true rfl⟩) hS (fun q _ h => hFc q h) hFc (fun q _ h => hFc q h) (fun E ce q9 _ t H1 locs ht hvm hw hB hz1 hk1 hS hce hcv hcl => ?_) (fun r9 u9 t H1 locs ht hvm hw hB hz1 hk1 hS => ?_)
  · obtain ⟨hEx, hc9⟩ := hB
    subst hEx
    obtain ⟨hP, hD⟩ := va_join (wr := [(o0, .inl (co, 1, .inr (.inl fo)))]) (w1 := []) hP hD [0] [1] rfl rfl (by decide) (by decide) hk1 hFc p_nil d_nil
    have hK := hK.sub (tys' := [(co, .long)]) [0] rfl
    generalize H1 = H at hP hS hce ⊢
    have hP : va_P D vwCl [(o0, .inl (co, 1, .inr (.inl fo)))] H := hP
    have hD : va_D A [(o0, .inl (co, 1, .inr (.inl fo)))] := hD
    have hK : va_K D vwCl [(co, .long)] s := hK
    refine vx_catch (own := RL) (name := iOE) (E := iOE) hown [] ⟨0, 9, 12, 19⟩ [] (by rw [htab]; rfl) (fun z hz => nomatch hz) (by decide) (by decide) (hts (.classLink RL 19 iOE) (by decide +kernel)) (ev_w hE (.castable iOE iOE) (by decide) rfl) hce hcv hcl ?_
    refine lv_astore_n (lv' := [(3, .ref q9), (0, .ref h0), (1, .int p0), (2, .ref o0)]) hx hb dL_fault_12 rfl hl (by decide) rfl (fun ls hl => ?_)
    refine lv_iconst (v := 1) hx hb dL_fault_13 (by decide +kernel) ?_
    refine W.widen (k := 1) (n := 6) (Nat.le_of_ble_eq_true rfl) (Nat.le_of_ble_eq_true rfl) ?_
    exact W.iret (v := 1) hx hb hr (fun t ht hW => ⟨⟨1, fo, rfl, Or.inr (Or.inl ⟨rfl, hc9⟩), by rw [ht]; exact hP, va_K.moved hW.alike hK, hD⟩, hS.F ht⟩) hS.2.2 dL_fault_14
  · obtain ⟨e9, c0⟩ := hw
    obtain ⟨hP, hD⟩ := va_join (wr := [(o0, .inl (co, 1, .inr (.inl fo)))]) (w1 := []) hP hD [0] [1] rfl rfl (by decide) (by decide) hk1 hFc p_nil d_nil
    have hK := hK.sub (tys' := [(co, .long)]) [0] rfl
    generalize H1 = H at hP hS ⊢
    have hP : va_P D vwCl [(o0, .inl (co, 1, .inr (.inl fo)))] H := hP
    have hD : va_D A [(o0, .inl (co, 1, .inr (.inl fo)))] := hD
    have hK : va_K D vwCl [(co, .long)] s := hK
    subst e9
    refine lv_i2l (v := (-1)) hx hb dL_fault_7 (by decide) ?_
    refine va_last hx hb hK hP hD hS 0 0 rfl rfl (i := 0) (x := (-1)) (by unfold vp_in; decide) dL_fault_8 (fun H locs hP hD hS => ?_)
    obtain ⟨fy1, hfy1⟩ : ∃ z : Nat → Int64, z = vp_updL fo (0 : Int32).toNatClampNeg (-1) := ⟨_, rfl⟩
    have hP : va_P D vwCl [(o0, .inl (co, 1, .inr (.inl fy1)))] H := by rw [hfy1]; exact hP
    have hD : va_D A [(o0, .inl (co, 1, .inr (.inl fy1)))] := by rw [hfy1]; exact hD
    refine lv_goto (tgt := 15) hx hb dL_fault_9 (by decide) ?_
    refine lv_iconst (v := 0) hx hb dL_fault_15 (by decide +kernel) ?_
    have e0 : fy1 0 = -1 := by rw [hfy1]; rfl
    refine W.widen (k := 1) (n := 6) (Nat.le_of_ble_eq_true rfl) (Nat.le_of_ble_eq_true rfl) ?_
    exact W.iret (v := 0) hx hb hr (fun t ht hW => ⟨⟨0, fy1, rfl, Or.inl ⟨rfl, ⟨e0, c0⟩⟩, by rw [ht]; exact hP, va_K.moved hW.alike hK, hD⟩, hS.F ht⟩) hS.2.2 dL_fault_16
noncomputable def v_c_L_count : List Cond := .codeWith yL_count cL_count 4 (some .int) [(0, 9, 12, 19)] :: ([.classLink RL 19 iOE] ++ ((wsV RL 21 RX11 yX11_count v_c_count) ++ ([])))
theorem g_v_c_L_count_0 : GoodIn v_c_L_count (wsV RL 21 RX11 yX11_count v_c_count) := goodIn_sub (fun _ h => List.mem_cons_of_mem _ (List.mem_append_right _ (List.mem_append_left _ h))) (by decide +kernel)
theorem t_v_c_L_count : ∀ w ∈ v_c_L_count, w ∈ lw_tbl := tb_c (List.mem_of_getElem? (i := 1261) (by decide +kernel)) (tb_a (tb_c (List.mem_of_getElem? (i := 1238) (by decide +kernel)) (tb_n)) (tb_a (tb_a (tb_c (List.mem_of_getElem? (i := 1262) (by decide +kernel)) (tb_c (List.mem_of_getElem? (i := 1263) (by decide +kernel)) (tb_c (List.mem_of_getElem? (i := 1264) (by decide +kernel)) (tb_c (List.mem_of_getElem? (i := 206) (by decide +kernel)) (tb_n))))) t_v_c_count) (tb_n)))
set_option maxHeartbeats 400000 in
set_option maxRecDepth 100000 in
/-- the law's count -/
theorem c_L_count (l : Launch) (D : va_G) (h0 o0 : Nat) (co : ClassId) (xfs : List Value) (fo : Nat → Int64) (p0 : Int32) (sz : Nat) (hlt : l.stackTraces = false) (hq9 : xfs[9]? = some (.int 0)) : Met l yL_count v_c_L_count ({ frames := 11, cells := 1, slots := 6, locals := 260 }) (va_Pc [.ref h0, .int p0, .ref o0] (st_ D [(h0, .inr (11, xfs)), (o0, .inl (co, 1, .inr (.inl fo)))] [(co, .long)] sz)) (va_Qi (fun (r : Int32) (u : Nat → Int64) => (r = 0 ∧ u 0 = 0 ∧ (¬ p0 < 0 ∧ p0 < 5)) ∨ (r = 1 ∧ (p0 < 0 ∨ ¬ p0 < 5)) ∨ (r = 2 ∧ False)) (fun u t => va_P D vwCl [(o0, .inl (co, 1, .inr (.inl u)))] t.heap ∧ va_K D vwCl [(co, .long)] t ∧ va_D (va_A [(h0, .inr (11, xfs)), (o0, .inl (co, 1, .inr (.inl fo)))] sz) [(o0, .inl (co, 1, .inr (.inl u)))]) (va_A [(h0, .inr (11, xfs)), (o0, .inl (co, 1, .inr (.inl fo)))] sz)) 1 6 (va_A [(h0, .inr (11, xfs)), (o0, .inl (co, 1, .inr (.inl fo)))] sz) := by
  refine va_MetW (hh := [(0, 9, 12, 19)]) (cc := cL_count) (maxL := 4) (ret := (some .int)) (by decide) rfl ?_
  intro p e s m args below meth c s₁ B hml hv
  obtain ⟨rfl, hsz, hP, hK, hD0, hZ, hE⟩ := hv
  have hx := B.exec
  have hb := B.bytes
  have hr := B.returns
  have hts := atoms_spec (ws := v_c_L_count) B.pre
  have hown : s.vm.findClass RL = some m.cls := findClass_of_methodNamed B.named
  have hlocks := B.notSynchronized
  subst hsz
  have hD := hD0.self (sz := s.heap.size)
  generalize hAe : va_A [(h0, .inr (11, xfs)), (o0, .inl (co, 1, .inr (.inl fo)))] s.heap.size = A at hD hZ ⊢
  have hA : ∀ q : Nat, s.heap.size ≤ q → A q := fun q h => by rw [← hAe]; exact Or.inr h
  have hS : va_S A s.heap s.heap [] := va_S.rf
  have hAO := hE.2.2.2.1
  have hP : va_P D vwCl [(h0, .inr (11, xfs)), (o0, .inl (co, 1, .inr (.inl fo)))] s.heap := hP
  have hl := lv_entry ([.ref h0, .int p0, .ref o0]) (n := 4) (Nat.le_of_ble_eq_true rfl)
  rw [lg_entry_eq]
  generalize (lg_sl ([.ref h0, .int p0, .ref o0]) ++ List.replicate (4 - (lg_sl ([.ref h0, .int p0, .ref o0])).length) Slot.unset).toArray = ls at hl ⊢
  have hl : lv_has ls 4 [(0, .ref h0), (1, .int p0), (2, .ref o0)] := hl
  have htab := vx_table (x := yL_count) B (hts (.codeWith yL_count cL_count 4 (some .int) [(0, 9, 12, 19)]) List.mem_cons_self)
  refine lv_aload_n hx hb dL_count_0 rfl (lv_at hl 2 rfl) ?_
  refine lv_iconst (v := 0) hx hb dL_count_1 (by decide +kernel) ?_
  refine lv_aload_n hx hb dL_count_2 rfl (lv_at hl 0 rfl) ?_
  refine lv_iload_n hx hb dL_count_3 rfl (lv_at hl 1 rfl) ?_
  have hPc := hP.sub (ws' := [(h0, .inr (11, xfs))]) [0] rfl
  have hDc := hD.sub (ws' := [(h0, .inr (11, xfs))]) [0] (by decide) rfl
  have hKc := hK.sub (tys' := []) [] rfl
  have hFc := va_free (wc := [(h0, .inr (11, xfs))]) hD hS hA [0] rfl
  refine vx_calli (vx_runV (As := [.int p0]) (rest := [.int 0, .ref o0]) ⟨hx, hb, hml, hown, hts⟩ (c_count l hlt D h0 xfs p0 s.heap.size hq9) (cwV 1 hts g_v_c_L_count_0 rfl rfl rfl (by decide +kernel) ⟨Nat.le_of_ble_eq_true rfl, Nat.le_of_ble_eq_true rfl⟩) ⟨st_blind, va_recv hKc hPc (ci := 11) (q0 := 0) rfl rfl, fun U hU hW => ⟨rfl, st_call hU hW hPc hKc hDc hZ hS hFc hE⟩⟩ rfl rfl hl.1 rfl (lv_room (Nat.le_of_ble_eq_true rfl)) dL_count_4 ⟨Nat.le_of_ble_eq_true rfl, Nat.le_of_ble_eq_true rfl⟩) hS (fun q _ h => hFc q h) hFc (fun q _ h => hFc q h) (fun E ce q9 _ t H1 locs ht hvm hw hB hz1 hk1 hS hce hcv hcl => ?_) (fun r9 u9 t H1 locs ht hvm hw hB hz1 hk1 hS => ?_)
  · obtain ⟨hEx, hc9⟩ := hB
    subst hEx
    obtain ⟨hP, hD⟩ := va_join (wr := [(o0, .inl (co, 1, .inr (.inl fo)))]) (w1 := []) hP hD [0] [1] rfl rfl (by decide) (by decide) hk1 hFc p_nil d_nil
    have hK := hK.sub (tys' := [(co, .long)]) [0] rfl
    generalize H1 = H at hP hS hce ⊢
    have hP : va_P D vwCl [(o0, .inl (co, 1, .inr (.inl fo)))] H := hP
    have hD : va_D A [(o0, .inl (co, 1, .inr (.inl fo)))] := hD
    have hK : va_K D vwCl [(co, .long)] s := hK
    refine vx_catch (own := RL) (name := iOE) (E := iOE) hown [] ⟨0, 9, 12, 19⟩ [] (by rw [htab]; rfl) (fun z hz => nomatch hz) (by decide) (by decide) (hts (.classLink RL 19 iOE) (by decide +kernel)) (ev_w hE (.castable iOE iOE) (by decide) rfl) hce hcv hcl ?_
    refine lv_astore_n (lv' := [(3, .ref q9), (0, .ref h0), (1, .int p0), (2, .ref o0)]) hx hb dL_count_12 rfl hl (by decide) rfl (fun ls hl => ?_)
    refine lv_iconst (v := 1) hx hb dL_count_13 (by decide +kernel) ?_
    refine W.widen (k := 1) (n := 6) (Nat.le_of_ble_eq_true rfl) (Nat.le_of_ble_eq_true rfl) ?_
    exact W.iret (v := 1) hx hb hr (fun t ht hW => ⟨⟨1, fo, rfl, Or.inr (Or.inl ⟨rfl, hc9⟩), by rw [ht]; exact hP, va_K.moved hW.alike hK, hD⟩, hS.F ht⟩) hS.2.2 dL_count_14
  · obtain ⟨e9, c0⟩ := hw
    obtain ⟨hP, hD⟩ := va_join (wr := [(o0, .inl (co, 1, .inr (.inl fo)))]) (w1 := []) hP hD [0] [1] rfl rfl (by decide) (by decide) hk1 hFc p_nil d_nil
    have hK := hK.sub (tys' := [(co, .long)]) [0] rfl
    generalize H1 = H at hP hS ⊢
    have hP : va_P D vwCl [(o0, .inl (co, 1, .inr (.inl fo)))] H := hP
    have hD : va_D A [(o0, .inl (co, 1, .inr (.inl fo)))] := hD
    have hK : va_K D vwCl [(co, .long)] s := hK
    subst e9
    refine lv_i2l (v := (0)) hx hb dL_count_7 (by decide) ?_
    refine va_last hx hb hK hP hD hS 0 0 rfl rfl (i := 0) (x := (0)) (by unfold vp_in; decide) dL_count_8 (fun H locs hP hD hS => ?_)
    obtain ⟨fy1, hfy1⟩ : ∃ z : Nat → Int64, z = vp_updL fo (0 : Int32).toNatClampNeg (0) := ⟨_, rfl⟩
    have hP : va_P D vwCl [(o0, .inl (co, 1, .inr (.inl fy1)))] H := by rw [hfy1]; exact hP
    have hD : va_D A [(o0, .inl (co, 1, .inr (.inl fy1)))] := by rw [hfy1]; exact hD
    refine lv_goto (tgt := 15) hx hb dL_count_9 (by decide) ?_
    refine lv_iconst (v := 0) hx hb dL_count_15 (by decide +kernel) ?_
    have e0 : fy1 0 = 0 := by rw [hfy1]; rfl
    refine W.widen (k := 1) (n := 6) (Nat.le_of_ble_eq_true rfl) (Nat.le_of_ble_eq_true rfl) ?_
    exact W.iret (v := 0) hx hb hr (fun t ht hW => ⟨⟨0, fy1, rfl, Or.inl ⟨rfl, ⟨e0, c0⟩⟩, by rw [ht]; exact hP, va_K.moved hW.alike hK, hD⟩, hS.F ht⟩) hS.2.2 dL_count_16
noncomputable def v_c_L_tried : List Cond := .codeWith yL_tried cL_tried 5 (some .int) [(0, 10, 13, 13), (0, 10, 17, 19)] :: ([.classLink RL 13 iAE, .classLink RL 19 iOE] ++ ((wsV RL 80 RX11 yX11_tried v_c_tried) ++ ([])))
theorem g_v_c_L_tried_0 : GoodIn v_c_L_tried (wsV RL 80 RX11 yX11_tried v_c_tried) := goodIn_sub (fun _ h => List.mem_cons_of_mem _ (List.mem_append_right _ (List.mem_append_left _ h))) (by decide +kernel)
theorem t_v_c_L_tried : ∀ w ∈ v_c_L_tried, w ∈ lw_tbl := tb_c (List.mem_of_getElem? (i := 1999) (by decide +kernel)) (tb_a (tb_c (List.mem_of_getElem? (i := 1209) (by decide +kernel)) (tb_c (List.mem_of_getElem? (i := 1238) (by decide +kernel)) (tb_n))) (tb_a (tb_a (tb_c (List.mem_of_getElem? (i := 2000) (by decide +kernel)) (tb_c (List.mem_of_getElem? (i := 2001) (by decide +kernel)) (tb_c (List.mem_of_getElem? (i := 2002) (by decide +kernel)) (tb_c (List.mem_of_getElem? (i := 206) (by decide +kernel)) (tb_n))))) t_v_c_tried) (tb_n)))
set_option maxHeartbeats 400000 in
set_option maxRecDepth 100000 in
/-- the law's tried -/
theorem c_L_tried (l : Launch) (D : va_G) (h0 o0 : Nat) (tr : Nat) (ct : ClassId) (co : ClassId) (xfs : List Value) (fo : Nat → Int64) (p0 p1 : Int32) (sz : Nat) (hlt : l.stackTraces = false) (hq6 : xfs[6]? = some (.ref tr)) : Met l yL_tried v_c_L_tried ({ frames := 11, cells := 2, slots := 12, locals := 260 }) (va_Pc [.ref h0, .int p0, .int p1, .ref o0] (st_ D [(h0, .inr (11, xfs)), (tr, .inl (ct, 2, .inr (.inr (.inr (.inr (fun _ => none)))))), (o0, .inl (co, 1, .inr (.inl fo)))] [(ct, .object "ScheduleHouse$Trial"), (co, .long)] sz)) (va_Qi (fun (r : Int32) (u : Nat → Int64) => (r = 0 ∧ u 0 = 0 ∧ ((¬ p0 < 0 ∧ p0 < 2) ∧ (¬ p1 < 0 ∧ p1 < 6))) ∨ (r = 1 ∧ (p0 < 0 ∨ ¬ p0 < 2)) ∨ (r = 2 ∧ ((¬ p0 < 0 ∧ p0 < 2) ∧ (p1 < 0 ∨ ¬ p1 < 6)))) (fun u t => va_P D vwCl [(o0, .inl (co, 1, .inr (.inl u)))] t.heap ∧ va_K D vwCl [(co, .long)] t ∧ va_D (va_A [(h0, .inr (11, xfs)), (tr, .inl (ct, 2, .inr (.inr (.inr (.inr (fun _ => none)))))), (o0, .inl (co, 1, .inr (.inl fo)))] sz) [(o0, .inl (co, 1, .inr (.inl u)))]) (va_A [(h0, .inr (11, xfs)), (tr, .inl (ct, 2, .inr (.inr (.inr (.inr (fun _ => none)))))), (o0, .inl (co, 1, .inr (.inl fo)))] sz)) 2 12 (va_A [(h0, .inr (11, xfs)), (tr, .inl (ct, 2, .inr (.inr (.inr (.inr (fun _ => none)))))), (o0, .inl (co, 1, .inr (.inl fo)))] sz) := by
  refine va_MetW (hh := [(0, 10, 13, 13), (0, 10, 17, 19)]) (cc := cL_tried) (maxL := 5) (ret := (some .int)) (by decide) rfl ?_
  intro p e s m args below meth c s₁ B hml hv
  obtain ⟨rfl, hsz, hP, hK, hD0, hZ, hE⟩ := hv
  have hx := B.exec
  have hb := B.bytes
  have hr := B.returns
  have hts := atoms_spec (ws := v_c_L_tried) B.pre
  have hown : s.vm.findClass RL = some m.cls := findClass_of_methodNamed B.named
  have hlocks := B.notSynchronized
  subst hsz
  have hD := hD0.self (sz := s.heap.size)
  generalize hAe : va_A [(h0, .inr (11, xfs)), (tr, .inl (ct, 2, .inr (.inr (.inr (.inr (fun _ => none)))))), (o0, .inl (co, 1, .inr (.inl fo)))] s.heap.size = A at hD hZ ⊢
  have hA : ∀ q : Nat, s.heap.size ≤ q → A q := fun q h => by rw [← hAe]; exact Or.inr h
  have hS : va_S A s.heap s.heap [] := va_S.rf
  have hAO := hE.2.2.2.1
  have hP : va_P D vwCl [(h0, .inr (11, xfs)), (tr, .inl (ct, 2, .inr (.inr (.inr (.inr (fun _ => none)))))), (o0, .inl (co, 1, .inr (.inl fo)))] s.heap := hP
  have hl := lv_entry ([.ref h0, .int p0, .int p1, .ref o0]) (n := 5) (Nat.le_of_ble_eq_true rfl)
  rw [lg_entry_eq]
  generalize (lg_sl ([.ref h0, .int p0, .int p1, .ref o0]) ++ List.replicate (5 - (lg_sl ([.ref h0, .int p0, .int p1, .ref o0])).length) Slot.unset).toArray = ls at hl ⊢
  have hl : lv_has ls 5 [(0, .ref h0), (1, .int p0), (2, .int p1), (3, .ref o0)] := hl
  have htab := vx_table (x := yL_tried) B (hts (.codeWith yL_tried cL_tried 5 (some .int) [(0, 10, 13, 13), (0, 10, 17, 19)]) List.mem_cons_self)
  refine lv_aload_n hx hb dL_tried_0 rfl (lv_at hl 3 rfl) ?_
  refine lv_iconst (v := 0) hx hb dL_tried_1 (by decide +kernel) ?_
  refine lv_aload_n hx hb dL_tried_2 rfl (lv_at hl 0 rfl) ?_
  refine lv_iload_n hx hb dL_tried_3 rfl (lv_at hl 1 rfl) ?_
  refine lv_iload_n hx hb dL_tried_4 rfl (lv_at hl 2 rfl) ?_
  have hPc := hP.sub (ws' := [(h0, .inr (11, xfs)), (tr, .inl (ct, 2, .inr (.inr (.inr (.inr (fun _ => none))))))]) [0, 1] rfl
  have hDc := hD.sub (ws' := [(h0, .inr (11, xfs)), (tr, .inl (ct, 2, .inr (.inr (.inr (.inr (fun _ => none))))))]) [0, 1] (by decide) rfl
  have hKc := hK.sub (tys' := [(ct, .object "ScheduleHouse$Trial")]) [0] rfl
  have hFc := va_free (wc := [(h0, .inr (11, xfs)), (tr, .inl (ct, 2, .inr (.inr (.inr (.inr (fun _ => none))))))]) hD hS hA [0, 1] rfl
  refine vx_calli (vx_runV (As := [.int p0, .int p1]) (rest := [.int 0, .ref o0]) ⟨hx, hb, hml, hown, hts⟩ (c_tried l hlt D h0 tr ct xfs p0 p1 s.heap.size hq6) (cwV 2 hts g_v_c_L_tried_0 rfl rfl rfl (by decide +kernel) ⟨Nat.le_of_ble_eq_true rfl, Nat.le_of_ble_eq_true rfl⟩) ⟨st_blind, va_recv hKc hPc (ci := 11) (q0 := 0) rfl rfl, fun U hU hW => ⟨rfl, st_call hU hW hPc hKc hDc hZ hS hFc hE⟩⟩ rfl rfl hl.1 rfl (lv_room (Nat.le_of_ble_eq_true rfl)) dL_tried_5 ⟨Nat.le_of_ble_eq_true rfl, Nat.le_of_ble_eq_true rfl⟩) hS (fun q _ h => hFc q h) hFc (fun q _ h => hFc q h) (fun E ce q9 _ t H1 locs ht hvm hw hB hz1 hk1 hS hce hcv hcl => ?_) (fun r9 u9 t H1 locs ht hvm hw hB hz1 hk1 hS => ?_)
  · rcases hB with ⟨hEx, hc9⟩ | ⟨hEx, hc9⟩
    · subst hEx
      obtain ⟨hP, hD⟩ := va_join (wr := [(o0, .inl (co, 1, .inr (.inl fo)))]) (w1 := []) hP hD [0, 1] [2] rfl rfl (by decide) (by decide) hk1 hFc p_nil d_nil
      have hK := hK.sub (tys' := [(co, .long)]) [1] rfl
      generalize H1 = H at hP hS hce ⊢
      have hP : va_P D vwCl [(o0, .inl (co, 1, .inr (.inl fo)))] H := hP
      have hD : va_D A [(o0, .inl (co, 1, .inr (.inl fo)))] := hD
      have hK : va_K D vwCl [(co, .long)] s := hK
      refine vx_catch (own := RL) (name := iAE) (E := iAE) hown [] ⟨0, 10, 13, 13⟩ [⟨0, 10, 17, 19⟩] (by rw [htab]; rfl) (fun z hz => nomatch hz) (by decide) (by decide) (hts (.classLink RL 13 iAE) (by decide +kernel)) (ev_w hE (.castable iAE iAE) (by decide) rfl) hce hcv hcl ?_
      refine lv_astore (lv' := [(4, .ref q9), (0, .ref h0), (1, .int p0), (2, .int p1), (3, .ref o0)]) hx hb dL_tried_13 hl (by decide) rfl (fun ls hl => ?_)
      refine lv_iconst (v := 1) hx hb dL_tried_15 (by decide +kernel) ?_
      refine W.widen (k := 2) (n := 12) (Nat.le_of_ble_eq_true rfl) (Nat.le_of_ble_eq_true rfl) ?_
      exact W.iret (v := 1) hx hb hr (fun t ht hW => ⟨⟨1, fo, rfl, Or.inr (Or.inl ⟨rfl, hc9⟩), by rw [ht]; exact hP, va_K.moved hW.alike hK, hD⟩, hS.F ht⟩) hS.2.2 dL_tried_16
    · subst hEx
      obtain ⟨hP, hD⟩ := va_join (wr := [(o0, .inl (co, 1, .inr (.inl fo)))]) (w1 := []) hP hD [0, 1] [2] rfl rfl (by decide) (by decide) hk1 hFc p_nil d_nil
      have hK := hK.sub (tys' := [(co, .long)]) [1] rfl
      generalize H1 = H at hP hS hce ⊢
      have hP : va_P D vwCl [(o0, .inl (co, 1, .inr (.inl fo)))] H := hP
      have hD : va_D A [(o0, .inl (co, 1, .inr (.inl fo)))] := hD
      have hK : va_K D vwCl [(co, .long)] s := hK
      refine vx_catch (own := RL) (name := iOE) (E := iOE) hown [⟨0, 10, 13, 13⟩] ⟨0, 10, 17, 19⟩ [] (by rw [htab]; rfl) (fun z hz => by rw [List.mem_singleton.mp hz]; exact Or.inr ⟨by decide, iAE, hts (.classLink RL 13 iAE) (by decide +kernel), ev_nc hE iOE iAE (by decide)⟩) (by decide) (by decide) (hts (.classLink RL 19 iOE) (by decide +kernel)) (ev_w hE (.castable iOE iOE) (by decide) rfl) hce hcv hcl ?_
      refine lv_astore (lv' := [(4, .ref q9), (0, .ref h0), (1, .int p0), (2, .int p1), (3, .ref o0)]) hx hb dL_tried_17 hl (by decide) rfl (fun ls hl => ?_)
      refine lv_iconst (v := 2) hx hb dL_tried_19 (by decide +kernel) ?_
      refine W.widen (k := 2) (n := 12) (Nat.le_of_ble_eq_true rfl) (Nat.le_of_ble_eq_true rfl) ?_
      exact W.iret (v := 2) hx hb hr (fun t ht hW => ⟨⟨2, fo, rfl, Or.inr (Or.inr ⟨rfl, hc9⟩), by rw [ht]; exact hP, va_K.moved hW.alike hK, hD⟩, hS.F ht⟩) hS.2.2 dL_tried_20
  · obtain ⟨e9, c0⟩ := hw
    obtain ⟨hP, hD⟩ := va_join (wr := [(o0, .inl (co, 1, .inr (.inl fo)))]) (w1 := []) hP hD [0, 1] [2] rfl rfl (by decide) (by decide) hk1 hFc p_nil d_nil
    have hK := hK.sub (tys' := [(co, .long)]) [1] rfl
    generalize H1 = H at hP hS ⊢
    have hP : va_P D vwCl [(o0, .inl (co, 1, .inr (.inl fo)))] H := hP
    have hD : va_D A [(o0, .inl (co, 1, .inr (.inl fo)))] := hD
    have hK : va_K D vwCl [(co, .long)] s := hK
    subst e9
    refine lv_i2l (v := (0)) hx hb dL_tried_8 (by decide) ?_
    refine va_last hx hb hK hP hD hS 0 0 rfl rfl (i := 0) (x := (0)) (by unfold vp_in; decide) dL_tried_9 (fun H locs hP hD hS => ?_)
    obtain ⟨fy1, hfy1⟩ : ∃ z : Nat → Int64, z = vp_updL fo (0 : Int32).toNatClampNeg (0) := ⟨_, rfl⟩
    have hP : va_P D vwCl [(o0, .inl (co, 1, .inr (.inl fy1)))] H := by rw [hfy1]; exact hP
    have hD : va_D A [(o0, .inl (co, 1, .inr (.inl fy1)))] := by rw [hfy1]; exact hD
    refine lv_goto (tgt := 21) hx hb dL_tried_10 (by decide) ?_
    refine lv_iconst (v := 0) hx hb dL_tried_21 (by decide +kernel) ?_
    have e0 : fy1 0 = 0 := by rw [hfy1]; rfl
    refine W.widen (k := 2) (n := 12) (Nat.le_of_ble_eq_true rfl) (Nat.le_of_ble_eq_true rfl) ?_
    exact W.iret (v := 0) hx hb hr (fun t ht hW => ⟨⟨0, fy1, rfl, Or.inl ⟨rfl, ⟨e0, c0⟩⟩, by rw [ht]; exact hP, va_K.moved hW.alike hK, hD⟩, hS.F ht⟩) hS.2.2 dL_tried_22
noncomputable def v_c_L_outcome : List Cond := .codeWith yL_outcome cL_outcome 6 (some .int) [(0, 12, 15, 13), (0, 12, 19, 19)] :: ([.classLink RL 13 iAE, .classLink RL 19 iOE] ++ ((wsV RL 83 RX11 yX11_outcome v_c_outcome) ++ ([])))
theorem g_v_c_L_outcome_0 : GoodIn v_c_L_outcome (wsV RL 83 RX11 yX11_outcome v_c_outcome) := goodIn_sub (fun _ h => List.mem_cons_of_mem _ (List.mem_append_right _ (List.mem_append_left _ h))) (by decide +kernel)
theorem t_v_c_L_outcome : ∀ w ∈ v_c_L_outcome, w ∈ lw_tbl := tb_c (List.mem_of_getElem? (i := 2006) (by decide +kernel)) (tb_a (tb_c (List.mem_of_getElem? (i := 1209) (by decide +kernel)) (tb_c (List.mem_of_getElem? (i := 1238) (by decide +kernel)) (tb_n))) (tb_a (tb_a (tb_c (List.mem_of_getElem? (i := 2007) (by decide +kernel)) (tb_c (List.mem_of_getElem? (i := 2008) (by decide +kernel)) (tb_c (List.mem_of_getElem? (i := 2009) (by decide +kernel)) (tb_c (List.mem_of_getElem? (i := 206) (by decide +kernel)) (tb_n))))) t_v_c_outcome) (tb_n)))
set_option maxHeartbeats 400000 in
set_option maxRecDepth 100000 in
/-- the law's outcome -/
theorem c_L_outcome (l : Launch) (D : va_G) (h0 o0 : Nat) (tr : Nat) (ct : ClassId) (co : ClassId) (xfs : List Value) (fo : Nat → Int64) (p0 p1 p2 : Int32) (sz : Nat) (hlt : l.stackTraces = false) (hq6 : xfs[6]? = some (.ref tr)) : Met l yL_outcome v_c_L_outcome ({ frames := 11, cells := 2, slots := 12, locals := 260 }) (va_Pc [.ref h0, .int p0, .int p1, .int p2, .ref o0] (st_ D [(h0, .inr (11, xfs)), (tr, .inl (ct, 2, .inr (.inr (.inr (.inr (fun _ => none)))))), (o0, .inl (co, 1, .inr (.inl fo)))] [(ct, .object "ScheduleHouse$Trial"), (co, .long)] sz)) (va_Qi (fun (r : Int32) (u : Nat → Int64) => (r = 0 ∧ u 0 = 0 ∧ False) ∨ (r = 1 ∧ (p0 < 0 ∨ ¬ p0 < 2)) ∨ (r = 2 ∧ (¬ p0 < 0 ∧ p0 < 2))) (fun u t => va_P D vwCl [(o0, .inl (co, 1, .inr (.inl u)))] t.heap ∧ va_K D vwCl [(co, .long)] t ∧ va_D (va_A [(h0, .inr (11, xfs)), (tr, .inl (ct, 2, .inr (.inr (.inr (.inr (fun _ => none)))))), (o0, .inl (co, 1, .inr (.inl fo)))] sz) [(o0, .inl (co, 1, .inr (.inl u)))]) (va_A [(h0, .inr (11, xfs)), (tr, .inl (ct, 2, .inr (.inr (.inr (.inr (fun _ => none)))))), (o0, .inl (co, 1, .inr (.inl fo)))] sz)) 2 12 (va_A [(h0, .inr (11, xfs)), (tr, .inl (ct, 2, .inr (.inr (.inr (.inr (fun _ => none)))))), (o0, .inl (co, 1, .inr (.inl fo)))] sz) := by
  refine va_MetW (hh := [(0, 12, 15, 13), (0, 12, 19, 19)]) (cc := cL_outcome) (maxL := 6) (ret := (some .int)) (by decide) rfl ?_
  intro p e s m args below meth c s₁ B hml hv
  obtain ⟨rfl, hsz, hP, hK, hD0, hZ, hE⟩ := hv
  have hx := B.exec
  have hb := B.bytes
  have hr := B.returns
  have hts := atoms_spec (ws := v_c_L_outcome) B.pre
  have hown : s.vm.findClass RL = some m.cls := findClass_of_methodNamed B.named
  have hlocks := B.notSynchronized
  subst hsz
  have hD := hD0.self (sz := s.heap.size)
  generalize hAe : va_A [(h0, .inr (11, xfs)), (tr, .inl (ct, 2, .inr (.inr (.inr (.inr (fun _ => none)))))), (o0, .inl (co, 1, .inr (.inl fo)))] s.heap.size = A at hD hZ ⊢
  have hA : ∀ q : Nat, s.heap.size ≤ q → A q := fun q h => by rw [← hAe]; exact Or.inr h
  have hS : va_S A s.heap s.heap [] := va_S.rf
  have hAO := hE.2.2.2.1
  have hP : va_P D vwCl [(h0, .inr (11, xfs)), (tr, .inl (ct, 2, .inr (.inr (.inr (.inr (fun _ => none)))))), (o0, .inl (co, 1, .inr (.inl fo)))] s.heap := hP
  have hl := lv_entry ([.ref h0, .int p0, .int p1, .int p2, .ref o0]) (n := 6) (Nat.le_of_ble_eq_true rfl)
  rw [lg_entry_eq]
  generalize (lg_sl ([.ref h0, .int p0, .int p1, .int p2, .ref o0]) ++ List.replicate (6 - (lg_sl ([.ref h0, .int p0, .int p1, .int p2, .ref o0])).length) Slot.unset).toArray = ls at hl ⊢
  have hl : lv_has ls 6 [(0, .ref h0), (1, .int p0), (2, .int p1), (3, .int p2), (4, .ref o0)] := hl
  have htab := vx_table (x := yL_outcome) B (hts (.codeWith yL_outcome cL_outcome 6 (some .int) [(0, 12, 15, 13), (0, 12, 19, 19)]) List.mem_cons_self)
  refine lv_aload hx hb dL_outcome_0 (lv_at hl 4 rfl) ?_
  refine lv_iconst (v := 0) hx hb dL_outcome_2 (by decide +kernel) ?_
  refine lv_aload_n hx hb dL_outcome_3 rfl (lv_at hl 0 rfl) ?_
  refine lv_iload_n hx hb dL_outcome_4 rfl (lv_at hl 1 rfl) ?_
  refine lv_iload_n hx hb dL_outcome_5 rfl (lv_at hl 2 rfl) ?_
  refine lv_iload_n hx hb dL_outcome_6 rfl (lv_at hl 3 rfl) ?_
  have hPc := hP.sub (ws' := [(h0, .inr (11, xfs)), (tr, .inl (ct, 2, .inr (.inr (.inr (.inr (fun _ => none))))))]) [0, 1] rfl
  have hDc := hD.sub (ws' := [(h0, .inr (11, xfs)), (tr, .inl (ct, 2, .inr (.inr (.inr (.inr (fun _ => none))))))]) [0, 1] (by decide) rfl
  have hKc := hK.sub (tys' := [(ct, .object "ScheduleHouse$Trial")]) [0] rfl
  have hFc := va_free (wc := [(h0, .inr (11, xfs)), (tr, .inl (ct, 2, .inr (.inr (.inr (.inr (fun _ => none))))))]) hD hS hA [0, 1] rfl
  refine vx_calli (vx_runV (As := [.int p0, .int p1, .int p2]) (rest := [.int 0, .ref o0]) ⟨hx, hb, hml, hown, hts⟩ (c_outcome l hlt D h0 tr ct xfs p0 p1 p2 s.heap.size hq6) (cwV 3 hts g_v_c_L_outcome_0 rfl rfl rfl (by decide +kernel) ⟨Nat.le_of_ble_eq_true rfl, Nat.le_of_ble_eq_true rfl⟩) ⟨st_blind, va_recv hKc hPc (ci := 11) (q0 := 0) rfl rfl, fun U hU hW => ⟨rfl, st_call hU hW hPc hKc hDc hZ hS hFc hE⟩⟩ rfl rfl hl.1 rfl (lv_room (Nat.le_of_ble_eq_true rfl)) dL_outcome_7 ⟨Nat.le_of_ble_eq_true rfl, Nat.le_of_ble_eq_true rfl⟩) hS (fun q _ h => hFc q h) hFc (fun q _ h => hFc q h) (fun E ce q9 _ t H1 locs ht hvm hw hB hz1 hk1 hS hce hcv hcl => ?_) (fun r9 u9 t H1 locs ht hvm hw hB hz1 hk1 hS => ?_)
  · rcases hB with ⟨hEx, hc9⟩ | ⟨hEx, hc9⟩
    · subst hEx
      obtain ⟨hP, hD⟩ := va_join (wr := [(o0, .inl (co, 1, .inr (.inl fo)))]) (w1 := []) hP hD [0, 1] [2] rfl rfl (by decide) (by decide) hk1 hFc p_nil d_nil
      have hK := hK.sub (tys' := [(co, .long)]) [1] rfl
      generalize H1 = H at hP hS hce ⊢
      have hP : va_P D vwCl [(o0, .inl (co, 1, .inr (.inl fo)))] H := hP
      have hD : va_D A [(o0, .inl (co, 1, .inr (.inl fo)))] := hD
      have hK : va_K D vwCl [(co, .long)] s := hK
      refine vx_catch (own := RL) (name := iAE) (E := iAE) hown [] ⟨0, 12, 15, 13⟩ [⟨0, 12, 19, 19⟩] (by rw [htab]; rfl) (fun z hz => nomatch hz) (by decide) (by decide) (hts (.classLink RL 13 iAE) (by decide +kernel)) (ev_w hE (.castable iAE iAE) (by decide) rfl) hce hcv hcl ?_
      refine lv_astore (lv' := [(5, .ref q9), (0, .ref h0), (1, .int p0), (2, .int p1), (3, .int p2), (4, .ref o0)]) hx hb dL_outcome_15 hl (by decide) rfl (fun ls hl => ?_)
      refine lv_iconst (v := 1) hx hb dL_outcome_17 (by decide +kernel) ?_
      refine W.widen (k := 2) (n := 12) (Nat.le_of_ble_eq_true rfl) (Nat.le_of_ble_eq_true rfl) ?_
      exact W.iret (v := 1) hx hb hr (fun t ht hW => ⟨⟨1, fo, rfl, Or.inr (Or.inl ⟨rfl, hc9⟩), by rw [ht]; exact hP, va_K.moved hW.alike hK, hD⟩, hS.F ht⟩) hS.2.2 dL_outcome_18
    · subst hEx
      obtain ⟨hP, hD⟩ := va_join (wr := [(o0, .inl (co, 1, .inr (.inl fo)))]) (w1 := []) hP hD [0, 1] [2] rfl rfl (by decide) (by decide) hk1 hFc p_nil d_nil
      have hK := hK.sub (tys' := [(co, .long)]) [1] rfl
      generalize H1 = H at hP hS hce ⊢
      have hP : va_P D vwCl [(o0, .inl (co, 1, .inr (.inl fo)))] H := hP
      have hD : va_D A [(o0, .inl (co, 1, .inr (.inl fo)))] := hD
      have hK : va_K D vwCl [(co, .long)] s := hK
      refine vx_catch (own := RL) (name := iOE) (E := iOE) hown [⟨0, 12, 15, 13⟩] ⟨0, 12, 19, 19⟩ [] (by rw [htab]; rfl) (fun z hz => by rw [List.mem_singleton.mp hz]; exact Or.inr ⟨by decide, iAE, hts (.classLink RL 13 iAE) (by decide +kernel), ev_nc hE iOE iAE (by decide)⟩) (by decide) (by decide) (hts (.classLink RL 19 iOE) (by decide +kernel)) (ev_w hE (.castable iOE iOE) (by decide) rfl) hce hcv hcl ?_
      refine lv_astore (lv' := [(5, .ref q9), (0, .ref h0), (1, .int p0), (2, .int p1), (3, .int p2), (4, .ref o0)]) hx hb dL_outcome_19 hl (by decide) rfl (fun ls hl => ?_)
      refine lv_iconst (v := 2) hx hb dL_outcome_21 (by decide +kernel) ?_
      refine W.widen (k := 2) (n := 12) (Nat.le_of_ble_eq_true rfl) (Nat.le_of_ble_eq_true rfl) ?_
      exact W.iret (v := 2) hx hb hr (fun t ht hW => ⟨⟨2, fo, rfl, Or.inr (Or.inr ⟨rfl, hc9⟩), by rw [ht]; exact hP, va_K.moved hW.alike hK, hD⟩, hS.F ht⟩) hS.2.2 dL_outcome_22
  · exact hw.2.elim
noncomputable def v_c_L_finding : List Cond := .codeWith yL_finding cL_finding 5 (some .int) [(0, 10, 13, 13)] :: ([.classLink RL 13 iAE] ++ ((wsV RL 87 RX11 yX11_finding v_c_finding) ++ ([])))
theorem g_v_c_L_finding_0 : GoodIn v_c_L_finding (wsV RL 87 RX11 yX11_finding v_c_finding) := goodIn_sub (fun _ h => List.mem_cons_of_mem _ (List.mem_append_right _ (List.mem_append_left _ h))) (by decide +kernel)
theorem t_v_c_L_finding : ∀ w ∈ v_c_L_finding, w ∈ lw_tbl := tb_c (List.mem_of_getElem? (i := 2017) (by decide +kernel)) (tb_a (tb_c (List.mem_of_getElem? (i := 1209) (by decide +kernel)) (tb_n)) (tb_a (tb_a (tb_c (List.mem_of_getElem? (i := 2018) (by decide +kernel)) (tb_c (List.mem_of_getElem? (i := 2019) (by decide +kernel)) (tb_c (List.mem_of_getElem? (i := 2020) (by decide +kernel)) (tb_c (List.mem_of_getElem? (i := 206) (by decide +kernel)) (tb_n))))) t_v_c_finding) (tb_n)))
set_option maxHeartbeats 400000 in
set_option maxRecDepth 100000 in
/-- the law's finding -/
theorem c_L_finding (l : Launch) (D : va_G) (h0 o0 : Nat) (tr : Nat) (ct : ClassId) (co : ClassId) (xfs : List Value) (fo : Nat → Int64) (p0 p1 : Int32) (sz : Nat) (hlt : l.stackTraces = false) (hq6 : xfs[6]? = some (.ref tr)) : Met l yL_finding v_c_L_finding ({ frames := 11, cells := 2, slots := 12, locals := 260 }) (va_Pc [.ref h0, .int p0, .int p1, .ref o0] (st_ D [(h0, .inr (11, xfs)), (tr, .inl (ct, 2, .inr (.inr (.inr (.inr (fun _ => none)))))), (o0, .inl (co, 1, .inr (.inl fo)))] [(ct, .object "ScheduleHouse$Trial"), (co, .long)] sz)) (va_Qi (fun (r : Int32) (u : Nat → Int64) => (r = 0 ∧ u 0 = -1 ∧ ((¬ p0 < 0 ∧ p0 < 2) ∧ (¬ p1 < 0 ∧ p1 < 11))) ∨ (r = 1 ∧ ((p0 < 0 ∨ ¬ p0 < 2) ∨ (p1 < 0 ∨ ¬ p1 < 11))) ∨ (r = 2 ∧ False)) (fun u t => va_P D vwCl [(o0, .inl (co, 1, .inr (.inl u)))] t.heap ∧ va_K D vwCl [(co, .long)] t ∧ va_D (va_A [(h0, .inr (11, xfs)), (tr, .inl (ct, 2, .inr (.inr (.inr (.inr (fun _ => none)))))), (o0, .inl (co, 1, .inr (.inl fo)))] sz) [(o0, .inl (co, 1, .inr (.inl u)))]) (va_A [(h0, .inr (11, xfs)), (tr, .inl (ct, 2, .inr (.inr (.inr (.inr (fun _ => none)))))), (o0, .inl (co, 1, .inr (.inl fo)))] sz)) 2 12 (va_A [(h0, .inr (11, xfs)), (tr, .inl (ct, 2, .inr (.inr (.inr (.inr (fun _ => none)))))), (o0, .inl (co, 1, .inr (.inl fo)))] sz) := by
  refine va_MetW (hh := [(0, 10, 13, 13)]) (cc := cL_finding) (maxL := 5) (ret := (some .int)) (by decide) rfl ?_
  intro p e s m args below meth c s₁ B hml hv
  obtain ⟨rfl, hsz, hP, hK, hD0, hZ, hE⟩ := hv
  have hx := B.exec
  have hb := B.bytes
  have hr := B.returns
  have hts := atoms_spec (ws := v_c_L_finding) B.pre
  have hown : s.vm.findClass RL = some m.cls := findClass_of_methodNamed B.named
  have hlocks := B.notSynchronized
  subst hsz
  have hD := hD0.self (sz := s.heap.size)
  generalize hAe : va_A [(h0, .inr (11, xfs)), (tr, .inl (ct, 2, .inr (.inr (.inr (.inr (fun _ => none)))))), (o0, .inl (co, 1, .inr (.inl fo)))] s.heap.size = A at hD hZ ⊢
  have hA : ∀ q : Nat, s.heap.size ≤ q → A q := fun q h => by rw [← hAe]; exact Or.inr h
  have hS : va_S A s.heap s.heap [] := va_S.rf
  have hAO := hE.2.2.2.1
  have hP : va_P D vwCl [(h0, .inr (11, xfs)), (tr, .inl (ct, 2, .inr (.inr (.inr (.inr (fun _ => none)))))), (o0, .inl (co, 1, .inr (.inl fo)))] s.heap := hP
  have hl := lv_entry ([.ref h0, .int p0, .int p1, .ref o0]) (n := 5) (Nat.le_of_ble_eq_true rfl)
  rw [lg_entry_eq]
  generalize (lg_sl ([.ref h0, .int p0, .int p1, .ref o0]) ++ List.replicate (5 - (lg_sl ([.ref h0, .int p0, .int p1, .ref o0])).length) Slot.unset).toArray = ls at hl ⊢
  have hl : lv_has ls 5 [(0, .ref h0), (1, .int p0), (2, .int p1), (3, .ref o0)] := hl
  have htab := vx_table (x := yL_finding) B (hts (.codeWith yL_finding cL_finding 5 (some .int) [(0, 10, 13, 13)]) List.mem_cons_self)
  refine lv_aload_n hx hb dL_finding_0 rfl (lv_at hl 3 rfl) ?_
  refine lv_iconst (v := 0) hx hb dL_finding_1 (by decide +kernel) ?_
  refine lv_aload_n hx hb dL_finding_2 rfl (lv_at hl 0 rfl) ?_
  refine lv_iload_n hx hb dL_finding_3 rfl (lv_at hl 1 rfl) ?_
  refine lv_iload_n hx hb dL_finding_4 rfl (lv_at hl 2 rfl) ?_
  have hPc := hP.sub (ws' := [(h0, .inr (11, xfs)), (tr, .inl (ct, 2, .inr (.inr (.inr (.inr (fun _ => none))))))]) [0, 1] rfl
  have hDc := hD.sub (ws' := [(h0, .inr (11, xfs)), (tr, .inl (ct, 2, .inr (.inr (.inr (.inr (fun _ => none))))))]) [0, 1] (by decide) rfl
  have hKc := hK.sub (tys' := [(ct, .object "ScheduleHouse$Trial")]) [0] rfl
  have hFc := va_free (wc := [(h0, .inr (11, xfs)), (tr, .inl (ct, 2, .inr (.inr (.inr (.inr (fun _ => none))))))]) hD hS hA [0, 1] rfl
  refine vx_calli (vx_runV (As := [.int p0, .int p1]) (rest := [.int 0, .ref o0]) ⟨hx, hb, hml, hown, hts⟩ (c_finding l hlt D h0 tr ct xfs p0 p1 s.heap.size hq6) (cwV 2 hts g_v_c_L_finding_0 rfl rfl rfl (by decide +kernel) ⟨Nat.le_of_ble_eq_true rfl, Nat.le_of_ble_eq_true rfl⟩) ⟨st_blind, va_recv hKc hPc (ci := 11) (q0 := 0) rfl rfl, fun U hU hW => ⟨rfl, st_call hU hW hPc hKc hDc hZ hS hFc hE⟩⟩ rfl rfl hl.1 rfl (lv_room (Nat.le_of_ble_eq_true rfl)) dL_finding_5 ⟨Nat.le_of_ble_eq_true rfl, Nat.le_of_ble_eq_true rfl⟩) hS (fun q _ h => hFc q h) hFc (fun q _ h => hFc q h) (fun E ce q9 _ t H1 locs ht hvm hw hB hz1 hk1 hS hce hcv hcl => ?_) (fun r9 u9 t H1 locs ht hvm hw hB hz1 hk1 hS => ?_)
  · obtain ⟨hEx, hc9⟩ := hB
    subst hEx
    obtain ⟨hP, hD⟩ := va_join (wr := [(o0, .inl (co, 1, .inr (.inl fo)))]) (w1 := []) hP hD [0, 1] [2] rfl rfl (by decide) (by decide) hk1 hFc p_nil d_nil
    have hK := hK.sub (tys' := [(co, .long)]) [1] rfl
    generalize H1 = H at hP hS hce ⊢
    have hP : va_P D vwCl [(o0, .inl (co, 1, .inr (.inl fo)))] H := hP
    have hD : va_D A [(o0, .inl (co, 1, .inr (.inl fo)))] := hD
    have hK : va_K D vwCl [(co, .long)] s := hK
    refine vx_catch (own := RL) (name := iAE) (E := iAE) hown [] ⟨0, 10, 13, 13⟩ [] (by rw [htab]; rfl) (fun z hz => nomatch hz) (by decide) (by decide) (hts (.classLink RL 13 iAE) (by decide +kernel)) (ev_w hE (.castable iAE iAE) (by decide) rfl) hce hcv hcl ?_
    refine lv_astore (lv' := [(4, .ref q9), (0, .ref h0), (1, .int p0), (2, .int p1), (3, .ref o0)]) hx hb dL_finding_13 hl (by decide) rfl (fun ls hl => ?_)
    refine lv_iconst (v := 1) hx hb dL_finding_15 (by decide +kernel) ?_
    refine W.widen (k := 2) (n := 12) (Nat.le_of_ble_eq_true rfl) (Nat.le_of_ble_eq_true rfl) ?_
    exact W.iret (v := 1) hx hb hr (fun t ht hW => ⟨⟨1, fo, rfl, Or.inr (Or.inl ⟨rfl, hc9⟩), by rw [ht]; exact hP, va_K.moved hW.alike hK, hD⟩, hS.F ht⟩) hS.2.2 dL_finding_16
  · obtain ⟨e9, c0⟩ := hw
    obtain ⟨hP, hD⟩ := va_join (wr := [(o0, .inl (co, 1, .inr (.inl fo)))]) (w1 := []) hP hD [0, 1] [2] rfl rfl (by decide) (by decide) hk1 hFc p_nil d_nil
    have hK := hK.sub (tys' := [(co, .long)]) [1] rfl
    generalize H1 = H at hP hS ⊢
    have hP : va_P D vwCl [(o0, .inl (co, 1, .inr (.inl fo)))] H := hP
    have hD : va_D A [(o0, .inl (co, 1, .inr (.inl fo)))] := hD
    have hK : va_K D vwCl [(co, .long)] s := hK
    subst e9
    refine lv_i2l (v := (-1)) hx hb dL_finding_8 (by decide) ?_
    refine va_last hx hb hK hP hD hS 0 0 rfl rfl (i := 0) (x := (-1)) (by unfold vp_in; decide) dL_finding_9 (fun H locs hP hD hS => ?_)
    obtain ⟨fy1, hfy1⟩ : ∃ z : Nat → Int64, z = vp_updL fo (0 : Int32).toNatClampNeg (-1) := ⟨_, rfl⟩
    have hP : va_P D vwCl [(o0, .inl (co, 1, .inr (.inl fy1)))] H := by rw [hfy1]; exact hP
    have hD : va_D A [(o0, .inl (co, 1, .inr (.inl fy1)))] := by rw [hfy1]; exact hD
    refine lv_goto (tgt := 17) hx hb dL_finding_10 (by decide) ?_
    refine lv_iconst (v := 0) hx hb dL_finding_17 (by decide +kernel) ?_
    have e0 : fy1 0 = -1 := by rw [hfy1]; rfl
    refine W.widen (k := 2) (n := 12) (Nat.le_of_ble_eq_true rfl) (Nat.le_of_ble_eq_true rfl) ?_
    exact W.iret (v := 0) hx hb hr (fun t ht hW => ⟨⟨0, fy1, rfl, Or.inl ⟨rfl, ⟨e0, c0⟩⟩, by rw [ht]; exact hP, va_K.moved hW.alike hK, hD⟩, hS.F ht⟩) hS.2.2 dL_finding_18
noncomputable def v_c_L_show : List Cond := .codeWith yL_show cL_show 5 (some .int) [(0, 10, 13, 13), (0, 10, 17, 27)] :: ([.classLink RL 13 iAE, .classLink RL 27 iSE] ++ ((wsV RL 90 RX11 yX11_show v_c_show) ++ ([])))
theorem g_v_c_L_show_0 : GoodIn v_c_L_show (wsV RL 90 RX11 yX11_show v_c_show) := goodIn_sub (fun _ h => List.mem_cons_of_mem _ (List.mem_append_right _ (List.mem_append_left _ h))) (by decide +kernel)
theorem t_v_c_L_show : ∀ w ∈ v_c_L_show, w ∈ lw_tbl := tb_c (List.mem_of_getElem? (i := 2032) (by decide +kernel)) (tb_a (tb_c (List.mem_of_getElem? (i := 1209) (by decide +kernel)) (tb_c (List.mem_of_getElem? (i := 1272) (by decide +kernel)) (tb_n))) (tb_a (tb_a (tb_c (List.mem_of_getElem? (i := 2033) (by decide +kernel)) (tb_c (List.mem_of_getElem? (i := 2034) (by decide +kernel)) (tb_c (List.mem_of_getElem? (i := 2035) (by decide +kernel)) (tb_c (List.mem_of_getElem? (i := 206) (by decide +kernel)) (tb_n))))) t_v_c_show) (tb_n)))
set_option maxHeartbeats 400000 in
set_option maxRecDepth 100000 in
/-- the law's show -/
theorem c_L_show (l : Launch) (D : va_G) (h0 o0 : Nat) (tr : Nat) (ct : ClassId) (co : ClassId) (xfs : List Value) (fo : Nat → Int64) (p0 p1 : Int32) (sz : Nat) (hlt : l.stackTraces = false) (hq6 : xfs[6]? = some (.ref tr)) : Met l yL_show v_c_L_show ({ frames := 11, cells := 3, slots := 18, locals := 260 }) (va_Pc [.ref h0, .int p0, .int p1, .ref o0] (st_ D [(h0, .inr (11, xfs)), (tr, .inl (ct, 2, .inr (.inr (.inr (.inr (fun _ => none)))))), (o0, .inl (co, 1, .inr (.inl fo)))] [(ct, .object "ScheduleHouse$Trial"), (co, .long)] sz)) (va_Qi (fun (r : Int32) (u : Nat → Int64) => (r = 0 ∧ u 0 = 0 ∧ False) ∨ (r = 1 ∧ ((p0 < 0 ∨ ¬ p0 < 2) ∨ (p1 < 0 ∨ ¬ p1 < 11))) ∨ (r = 2 ∧ ((¬ p0 < 0 ∧ p0 < 2) ∧ (¬ p1 < 0 ∧ p1 < 11)))) (fun u t => va_P D vwCl [(o0, .inl (co, 1, .inr (.inl u)))] t.heap ∧ va_K D vwCl [(co, .long)] t ∧ va_D (va_A [(h0, .inr (11, xfs)), (tr, .inl (ct, 2, .inr (.inr (.inr (.inr (fun _ => none)))))), (o0, .inl (co, 1, .inr (.inl fo)))] sz) [(o0, .inl (co, 1, .inr (.inl u)))]) (va_A [(h0, .inr (11, xfs)), (tr, .inl (ct, 2, .inr (.inr (.inr (.inr (fun _ => none)))))), (o0, .inl (co, 1, .inr (.inl fo)))] sz)) 3 18 (va_A [(h0, .inr (11, xfs)), (tr, .inl (ct, 2, .inr (.inr (.inr (.inr (fun _ => none)))))), (o0, .inl (co, 1, .inr (.inl fo)))] sz) := by
  refine va_MetW (hh := [(0, 10, 13, 13), (0, 10, 17, 27)]) (cc := cL_show) (maxL := 5) (ret := (some .int)) (by decide) rfl ?_
  intro p e s m args below meth c s₁ B hml hv
  obtain ⟨rfl, hsz, hP, hK, hD0, hZ, hE⟩ := hv
  have hx := B.exec
  have hb := B.bytes
  have hr := B.returns
  have hts := atoms_spec (ws := v_c_L_show) B.pre
  have hown : s.vm.findClass RL = some m.cls := findClass_of_methodNamed B.named
  have hlocks := B.notSynchronized
  subst hsz
  have hD := hD0.self (sz := s.heap.size)
  generalize hAe : va_A [(h0, .inr (11, xfs)), (tr, .inl (ct, 2, .inr (.inr (.inr (.inr (fun _ => none)))))), (o0, .inl (co, 1, .inr (.inl fo)))] s.heap.size = A at hD hZ ⊢
  have hA : ∀ q : Nat, s.heap.size ≤ q → A q := fun q h => by rw [← hAe]; exact Or.inr h
  have hS : va_S A s.heap s.heap [] := va_S.rf
  have hAO := hE.2.2.2.1
  have hP : va_P D vwCl [(h0, .inr (11, xfs)), (tr, .inl (ct, 2, .inr (.inr (.inr (.inr (fun _ => none)))))), (o0, .inl (co, 1, .inr (.inl fo)))] s.heap := hP
  have hl := lv_entry ([.ref h0, .int p0, .int p1, .ref o0]) (n := 5) (Nat.le_of_ble_eq_true rfl)
  rw [lg_entry_eq]
  generalize (lg_sl ([.ref h0, .int p0, .int p1, .ref o0]) ++ List.replicate (5 - (lg_sl ([.ref h0, .int p0, .int p1, .ref o0])).length) Slot.unset).toArray = ls at hl ⊢
  have hl : lv_has ls 5 [(0, .ref h0), (1, .int p0), (2, .int p1), (3, .ref o0)] := hl
  have htab := vx_table (x := yL_show) B (hts (.codeWith yL_show cL_show 5 (some .int) [(0, 10, 13, 13), (0, 10, 17, 27)]) List.mem_cons_self)
  refine lv_aload_n hx hb dL_show_0 rfl (lv_at hl 3 rfl) ?_
  refine lv_iconst (v := 0) hx hb dL_show_1 (by decide +kernel) ?_
  refine lv_aload_n hx hb dL_show_2 rfl (lv_at hl 0 rfl) ?_
  refine lv_iload_n hx hb dL_show_3 rfl (lv_at hl 1 rfl) ?_
  refine lv_iload_n hx hb dL_show_4 rfl (lv_at hl 2 rfl) ?_
  have hPc := hP.sub (ws' := [(h0, .inr (11, xfs)), (tr, .inl (ct, 2, .inr (.inr (.inr (.inr (fun _ => none))))))]) [0, 1] rfl
  have hDc := hD.sub (ws' := [(h0, .inr (11, xfs)), (tr, .inl (ct, 2, .inr (.inr (.inr (.inr (fun _ => none))))))]) [0, 1] (by decide) rfl
  have hKc := hK.sub (tys' := [(ct, .object "ScheduleHouse$Trial")]) [0] rfl
  have hFc := va_free (wc := [(h0, .inr (11, xfs)), (tr, .inl (ct, 2, .inr (.inr (.inr (.inr (fun _ => none))))))]) hD hS hA [0, 1] rfl
  refine vx_calli (vx_runV (As := [.int p0, .int p1]) (rest := [.int 0, .ref o0]) ⟨hx, hb, hml, hown, hts⟩ (c_show l hlt D h0 tr ct xfs p0 p1 s.heap.size hq6) (cwV 2 hts g_v_c_L_show_0 rfl rfl rfl (by decide +kernel) ⟨Nat.le_of_ble_eq_true rfl, Nat.le_of_ble_eq_true rfl⟩) ⟨st_blind, va_recv hKc hPc (ci := 11) (q0 := 0) rfl rfl, fun U hU hW => ⟨rfl, st_call hU hW hPc hKc hDc hZ hS hFc hE⟩⟩ rfl rfl hl.1 rfl (lv_room (Nat.le_of_ble_eq_true rfl)) dL_show_5 ⟨Nat.le_of_ble_eq_true rfl, Nat.le_of_ble_eq_true rfl⟩) hS (fun q _ h => hFc q h) hFc (fun q _ h => hFc q h) (fun E ce q9 _ t H1 locs ht hvm hw hB hz1 hk1 hS hce hcv hcl => ?_) (fun r9 u9 t H1 locs ht hvm hw hB hz1 hk1 hS => ?_)
  · rcases hB with ⟨hEx, hc9⟩ | ⟨hEx, hc9⟩
    · subst hEx
      obtain ⟨hP, hD⟩ := va_join (wr := [(o0, .inl (co, 1, .inr (.inl fo)))]) (w1 := []) hP hD [0, 1] [2] rfl rfl (by decide) (by decide) hk1 hFc p_nil d_nil
      have hK := hK.sub (tys' := [(co, .long)]) [1] rfl
      generalize H1 = H at hP hS hce ⊢
      have hP : va_P D vwCl [(o0, .inl (co, 1, .inr (.inl fo)))] H := hP
      have hD : va_D A [(o0, .inl (co, 1, .inr (.inl fo)))] := hD
      have hK : va_K D vwCl [(co, .long)] s := hK
      refine vx_catch (own := RL) (name := iAE) (E := iAE) hown [] ⟨0, 10, 13, 13⟩ [⟨0, 10, 17, 27⟩] (by rw [htab]; rfl) (fun z hz => nomatch hz) (by decide) (by decide) (hts (.classLink RL 13 iAE) (by decide +kernel)) (ev_w hE (.castable iAE iAE) (by decide) rfl) hce hcv hcl ?_
      refine lv_astore (lv' := [(4, .ref q9), (0, .ref h0), (1, .int p0), (2, .int p1), (3, .ref o0)]) hx hb dL_show_13 hl (by decide) rfl (fun ls hl => ?_)
      refine lv_iconst (v := 1) hx hb dL_show_15 (by decide +kernel) ?_
      refine W.widen (k := 3) (n := 18) (Nat.le_of_ble_eq_true rfl) (Nat.le_of_ble_eq_true rfl) ?_
      exact W.iret (v := 1) hx hb hr (fun t ht hW => ⟨⟨1, fo, rfl, Or.inr (Or.inl ⟨rfl, hc9⟩), by rw [ht]; exact hP, va_K.moved hW.alike hK, hD⟩, hS.F ht⟩) hS.2.2 dL_show_16
    · subst hEx
      obtain ⟨hP, hD⟩ := va_join (wr := [(o0, .inl (co, 1, .inr (.inl fo)))]) (w1 := []) hP hD [0, 1] [2] rfl rfl (by decide) (by decide) hk1 hFc p_nil d_nil
      have hK := hK.sub (tys' := [(co, .long)]) [1] rfl
      generalize H1 = H at hP hS hce ⊢
      have hP : va_P D vwCl [(o0, .inl (co, 1, .inr (.inl fo)))] H := hP
      have hD : va_D A [(o0, .inl (co, 1, .inr (.inl fo)))] := hD
      have hK : va_K D vwCl [(co, .long)] s := hK
      refine vx_catch (own := RL) (name := iSE) (E := iSE) hown [⟨0, 10, 13, 13⟩] ⟨0, 10, 17, 27⟩ [] (by rw [htab]; rfl) (fun z hz => by rw [List.mem_singleton.mp hz]; exact Or.inr ⟨by decide, iAE, hts (.classLink RL 13 iAE) (by decide +kernel), ev_nc hE iSE iAE (by decide)⟩) (by decide) (by decide) (hts (.classLink RL 27 iSE) (by decide +kernel)) (ev_w hE (.castable iSE iSE) (by decide) rfl) hce hcv hcl ?_
      refine lv_astore (lv' := [(4, .ref q9), (0, .ref h0), (1, .int p0), (2, .int p1), (3, .ref o0)]) hx hb dL_show_17 hl (by decide) rfl (fun ls hl => ?_)
      refine lv_iconst (v := 2) hx hb dL_show_19 (by decide +kernel) ?_
      refine W.widen (k := 3) (n := 18) (Nat.le_of_ble_eq_true rfl) (Nat.le_of_ble_eq_true rfl) ?_
      exact W.iret (v := 2) hx hb hr (fun t ht hW => ⟨⟨2, fo, rfl, Or.inr (Or.inr ⟨rfl, hc9⟩), by rw [ht]; exact hP, va_K.moved hW.alike hK, hD⟩, hS.F ht⟩) hS.2.2 dL_show_20
  · exact hw.2.elim
noncomputable def v_c_L_common : List Cond := .codeWith yL_common cL_common 5 (some .int) [(0, 10, 13, 13), (0, 10, 17, 19)] :: ([.classLink RL 13 iAE, .classLink RL 19 iOE] ++ ((wsV RL 93 RX11 yX11_common v_c_common) ++ ([])))
theorem g_v_c_L_common_0 : GoodIn v_c_L_common (wsV RL 93 RX11 yX11_common v_c_common) := goodIn_sub (fun _ h => List.mem_cons_of_mem _ (List.mem_append_right _ (List.mem_append_left _ h))) (by decide +kernel)
theorem t_v_c_L_common : ∀ w ∈ v_c_L_common, w ∈ lw_tbl := tb_c (List.mem_of_getElem? (i := 2044) (by decide +kernel)) (tb_a (tb_c (List.mem_of_getElem? (i := 1209) (by decide +kernel)) (tb_c (List.mem_of_getElem? (i := 1238) (by decide +kernel)) (tb_n))) (tb_a (tb_a (tb_c (List.mem_of_getElem? (i := 2045) (by decide +kernel)) (tb_c (List.mem_of_getElem? (i := 2046) (by decide +kernel)) (tb_c (List.mem_of_getElem? (i := 2047) (by decide +kernel)) (tb_c (List.mem_of_getElem? (i := 206) (by decide +kernel)) (tb_n))))) t_v_c_common) (tb_n)))
set_option maxHeartbeats 400000 in
set_option maxRecDepth 100000 in
/-- the law's common -/
theorem c_L_common (l : Launch) (D : va_G) (h0 o0 : Nat) (co : ClassId) (xfs : List Value) (fo : Nat → Int64) (p0 p1 : Int32) (sz : Nat) (hlt : l.stackTraces = false) (hq9 : xfs[9]? = some (.int 0)) : Met l yL_common v_c_L_common ({ frames := 11, cells := 2, slots := 12, locals := 260 }) (va_Pc [.ref h0, .int p0, .int p1, .ref o0] (st_ D [(h0, .inr (11, xfs)), (o0, .inl (co, 1, .inr (.inl fo)))] [(co, .long)] sz)) (va_Qi (fun (r : Int32) (u : Nat → Int64) => (r = 0 ∧ u 0 = 0 ∧ False) ∨ (r = 1 ∧ (p0 < 0 ∨ ¬ p0 < 2)) ∨ (r = 2 ∧ (¬ p0 < 0 ∧ p0 < 2))) (fun u t => va_P D vwCl [(o0, .inl (co, 1, .inr (.inl u)))] t.heap ∧ va_K D vwCl [(co, .long)] t ∧ va_D (va_A [(h0, .inr (11, xfs)), (o0, .inl (co, 1, .inr (.inl fo)))] sz) [(o0, .inl (co, 1, .inr (.inl u)))]) (va_A [(h0, .inr (11, xfs)), (o0, .inl (co, 1, .inr (.inl fo)))] sz)) 2 12 (va_A [(h0, .inr (11, xfs)), (o0, .inl (co, 1, .inr (.inl fo)))] sz) := by
  refine va_MetW (hh := [(0, 10, 13, 13), (0, 10, 17, 19)]) (cc := cL_common) (maxL := 5) (ret := (some .int)) (by decide) rfl ?_
  intro p e s m args below meth c s₁ B hml hv
  obtain ⟨rfl, hsz, hP, hK, hD0, hZ, hE⟩ := hv
  have hx := B.exec
  have hb := B.bytes
  have hr := B.returns
  have hts := atoms_spec (ws := v_c_L_common) B.pre
  have hown : s.vm.findClass RL = some m.cls := findClass_of_methodNamed B.named
  have hlocks := B.notSynchronized
  subst hsz
  have hD := hD0.self (sz := s.heap.size)
  generalize hAe : va_A [(h0, .inr (11, xfs)), (o0, .inl (co, 1, .inr (.inl fo)))] s.heap.size = A at hD hZ ⊢
  have hA : ∀ q : Nat, s.heap.size ≤ q → A q := fun q h => by rw [← hAe]; exact Or.inr h
  have hS : va_S A s.heap s.heap [] := va_S.rf
  have hAO := hE.2.2.2.1
  have hP : va_P D vwCl [(h0, .inr (11, xfs)), (o0, .inl (co, 1, .inr (.inl fo)))] s.heap := hP
  have hl := lv_entry ([.ref h0, .int p0, .int p1, .ref o0]) (n := 5) (Nat.le_of_ble_eq_true rfl)
  rw [lg_entry_eq]
  generalize (lg_sl ([.ref h0, .int p0, .int p1, .ref o0]) ++ List.replicate (5 - (lg_sl ([.ref h0, .int p0, .int p1, .ref o0])).length) Slot.unset).toArray = ls at hl ⊢
  have hl : lv_has ls 5 [(0, .ref h0), (1, .int p0), (2, .int p1), (3, .ref o0)] := hl
  have htab := vx_table (x := yL_common) B (hts (.codeWith yL_common cL_common 5 (some .int) [(0, 10, 13, 13), (0, 10, 17, 19)]) List.mem_cons_self)
  refine lv_aload_n hx hb dL_common_0 rfl (lv_at hl 3 rfl) ?_
  refine lv_iconst (v := 0) hx hb dL_common_1 (by decide +kernel) ?_
  refine lv_aload_n hx hb dL_common_2 rfl (lv_at hl 0 rfl) ?_
  refine lv_iload_n hx hb dL_common_3 rfl (lv_at hl 1 rfl) ?_
  refine lv_iload_n hx hb dL_common_4 rfl (lv_at hl 2 rfl) ?_
  have hPc := hP.sub (ws' := [(h0, .inr (11, xfs))]) [0] rfl
  have hDc := hD.sub (ws' := [(h0, .inr (11, xfs))]) [0] (by decide) rfl
  have hKc := hK.sub (tys' := []) [] rfl
  have hFc := va_free (wc := [(h0, .inr (11, xfs))]) hD hS hA [0] rfl
  refine vx_calli (vx_runV (As := [.int p0, .int p1]) (rest := [.int 0, .ref o0]) ⟨hx, hb, hml, hown, hts⟩ (c_common l hlt D h0 xfs p0 p1 s.heap.size hq9) (cwV 2 hts g_v_c_L_common_0 rfl rfl rfl (by decide +kernel) ⟨Nat.le_of_ble_eq_true rfl, Nat.le_of_ble_eq_true rfl⟩) ⟨st_blind, va_recv hKc hPc (ci := 11) (q0 := 0) rfl rfl, fun U hU hW => ⟨rfl, st_call hU hW hPc hKc hDc hZ hS hFc hE⟩⟩ rfl rfl hl.1 rfl (lv_room (Nat.le_of_ble_eq_true rfl)) dL_common_5 ⟨Nat.le_of_ble_eq_true rfl, Nat.le_of_ble_eq_true rfl⟩) hS (fun q _ h => hFc q h) hFc (fun q _ h => hFc q h) (fun E ce q9 _ t H1 locs ht hvm hw hB hz1 hk1 hS hce hcv hcl => ?_) (fun r9 u9 t H1 locs ht hvm hw hB hz1 hk1 hS => ?_)
  · rcases hB with ⟨hEx, hc9⟩ | ⟨hEx, hc9⟩
    · subst hEx
      obtain ⟨hP, hD⟩ := va_join (wr := [(o0, .inl (co, 1, .inr (.inl fo)))]) (w1 := []) hP hD [0] [1] rfl rfl (by decide) (by decide) hk1 hFc p_nil d_nil
      have hK := hK.sub (tys' := [(co, .long)]) [0] rfl
      generalize H1 = H at hP hS hce ⊢
      have hP : va_P D vwCl [(o0, .inl (co, 1, .inr (.inl fo)))] H := hP
      have hD : va_D A [(o0, .inl (co, 1, .inr (.inl fo)))] := hD
      have hK : va_K D vwCl [(co, .long)] s := hK
      refine vx_catch (own := RL) (name := iAE) (E := iAE) hown [] ⟨0, 10, 13, 13⟩ [⟨0, 10, 17, 19⟩] (by rw [htab]; rfl) (fun z hz => nomatch hz) (by decide) (by decide) (hts (.classLink RL 13 iAE) (by decide +kernel)) (ev_w hE (.castable iAE iAE) (by decide) rfl) hce hcv hcl ?_
      refine lv_astore (lv' := [(4, .ref q9), (0, .ref h0), (1, .int p0), (2, .int p1), (3, .ref o0)]) hx hb dL_common_13 hl (by decide) rfl (fun ls hl => ?_)
      refine lv_iconst (v := 1) hx hb dL_common_15 (by decide +kernel) ?_
      refine W.widen (k := 2) (n := 12) (Nat.le_of_ble_eq_true rfl) (Nat.le_of_ble_eq_true rfl) ?_
      exact W.iret (v := 1) hx hb hr (fun t ht hW => ⟨⟨1, fo, rfl, Or.inr (Or.inl ⟨rfl, hc9⟩), by rw [ht]; exact hP, va_K.moved hW.alike hK, hD⟩, hS.F ht⟩) hS.2.2 dL_common_16
    · subst hEx
      obtain ⟨hP, hD⟩ := va_join (wr := [(o0, .inl (co, 1, .inr (.inl fo)))]) (w1 := []) hP hD [0] [1] rfl rfl (by decide) (by decide) hk1 hFc p_nil d_nil
      have hK := hK.sub (tys' := [(co, .long)]) [0] rfl
      generalize H1 = H at hP hS hce ⊢
      have hP : va_P D vwCl [(o0, .inl (co, 1, .inr (.inl fo)))] H := hP
      have hD : va_D A [(o0, .inl (co, 1, .inr (.inl fo)))] := hD
      have hK : va_K D vwCl [(co, .long)] s := hK
      refine vx_catch (own := RL) (name := iOE) (E := iOE) hown [⟨0, 10, 13, 13⟩] ⟨0, 10, 17, 19⟩ [] (by rw [htab]; rfl) (fun z hz => by rw [List.mem_singleton.mp hz]; exact Or.inr ⟨by decide, iAE, hts (.classLink RL 13 iAE) (by decide +kernel), ev_nc hE iOE iAE (by decide)⟩) (by decide) (by decide) (hts (.classLink RL 19 iOE) (by decide +kernel)) (ev_w hE (.castable iOE iOE) (by decide) rfl) hce hcv hcl ?_
      refine lv_astore (lv' := [(4, .ref q9), (0, .ref h0), (1, .int p0), (2, .int p1), (3, .ref o0)]) hx hb dL_common_17 hl (by decide) rfl (fun ls hl => ?_)
      refine lv_iconst (v := 2) hx hb dL_common_19 (by decide +kernel) ?_
      refine W.widen (k := 2) (n := 12) (Nat.le_of_ble_eq_true rfl) (Nat.le_of_ble_eq_true rfl) ?_
      exact W.iret (v := 2) hx hb hr (fun t ht hW => ⟨⟨2, fo, rfl, Or.inr (Or.inr ⟨rfl, hc9⟩), by rw [ht]; exact hP, va_K.moved hW.alike hK, hD⟩, hS.F ht⟩) hS.2.2 dL_common_20
  · exact hw.2.elim
noncomputable def v_c_L_ring : List Cond := .codeWith yL_ring cL_ring 4 (some .int) [(0, 9, 12, 13)] :: ([.classLink RL 13 iAE] ++ ((wsV RL 96 RX11 yX11_ring v_c_ring) ++ ([])))
theorem g_v_c_L_ring_0 : GoodIn v_c_L_ring (wsV RL 96 RX11 yX11_ring v_c_ring) := goodIn_sub (fun _ h => List.mem_cons_of_mem _ (List.mem_append_right _ (List.mem_append_left _ h))) (by decide +kernel)
theorem t_v_c_L_ring : ∀ w ∈ v_c_L_ring, w ∈ lw_tbl := tb_c (List.mem_of_getElem? (i := 2051) (by decide +kernel)) (tb_a (tb_c (List.mem_of_getElem? (i := 1209) (by decide +kernel)) (tb_n)) (tb_a (tb_a (tb_c (List.mem_of_getElem? (i := 2052) (by decide +kernel)) (tb_c (List.mem_of_getElem? (i := 2053) (by decide +kernel)) (tb_c (List.mem_of_getElem? (i := 2054) (by decide +kernel)) (tb_c (List.mem_of_getElem? (i := 206) (by decide +kernel)) (tb_n))))) t_v_c_ring) (tb_n)))
set_option maxHeartbeats 400000 in
set_option maxRecDepth 100000 in
/-- the law's ring -/
theorem c_L_ring (l : Launch) (D : va_G) (h0 o0 : Nat) (tr : Nat) (ct : ClassId) (co : ClassId) (xfs : List Value) (fo : Nat → Int64) (p0 : Int32) (sz : Nat) (hlt : l.stackTraces = false) (hq6 : xfs[6]? = some (.ref tr)) : Met l yL_ring v_c_L_ring ({ frames := 11, cells := 1, slots := 6, locals := 260 }) (va_Pc [.ref h0, .int p0, .ref o0] (st_ D [(h0, .inr (11, xfs)), (tr, .inl (ct, 2, .inr (.inr (.inr (.inr (fun _ => none)))))), (o0, .inl (co, 1, .inr (.inl fo)))] [(ct, .object "ScheduleHouse$Trial"), (co, .long)] sz)) (va_Qi (fun (r : Int32) (u : Nat → Int64) => (r = 0 ∧ u 0 = 0 ∧ (¬ p0 < 0 ∧ p0 < 2)) ∨ (r = 1 ∧ (p0 < 0 ∨ ¬ p0 < 2)) ∨ (r = 2 ∧ False)) (fun u t => va_P D vwCl [(o0, .inl (co, 1, .inr (.inl u)))] t.heap ∧ va_K D vwCl [(co, .long)] t ∧ va_D (va_A [(h0, .inr (11, xfs)), (tr, .inl (ct, 2, .inr (.inr (.inr (.inr (fun _ => none)))))), (o0, .inl (co, 1, .inr (.inl fo)))] sz) [(o0, .inl (co, 1, .inr (.inl u)))]) (va_A [(h0, .inr (11, xfs)), (tr, .inl (ct, 2, .inr (.inr (.inr (.inr (fun _ => none)))))), (o0, .inl (co, 1, .inr (.inl fo)))] sz)) 1 6 (va_A [(h0, .inr (11, xfs)), (tr, .inl (ct, 2, .inr (.inr (.inr (.inr (fun _ => none)))))), (o0, .inl (co, 1, .inr (.inl fo)))] sz) := by
  refine va_MetW (hh := [(0, 9, 12, 13)]) (cc := cL_ring) (maxL := 4) (ret := (some .int)) (by decide) rfl ?_
  intro p e s m args below meth c s₁ B hml hv
  obtain ⟨rfl, hsz, hP, hK, hD0, hZ, hE⟩ := hv
  have hx := B.exec
  have hb := B.bytes
  have hr := B.returns
  have hts := atoms_spec (ws := v_c_L_ring) B.pre
  have hown : s.vm.findClass RL = some m.cls := findClass_of_methodNamed B.named
  have hlocks := B.notSynchronized
  subst hsz
  have hD := hD0.self (sz := s.heap.size)
  generalize hAe : va_A [(h0, .inr (11, xfs)), (tr, .inl (ct, 2, .inr (.inr (.inr (.inr (fun _ => none)))))), (o0, .inl (co, 1, .inr (.inl fo)))] s.heap.size = A at hD hZ ⊢
  have hA : ∀ q : Nat, s.heap.size ≤ q → A q := fun q h => by rw [← hAe]; exact Or.inr h
  have hS : va_S A s.heap s.heap [] := va_S.rf
  have hAO := hE.2.2.2.1
  have hP : va_P D vwCl [(h0, .inr (11, xfs)), (tr, .inl (ct, 2, .inr (.inr (.inr (.inr (fun _ => none)))))), (o0, .inl (co, 1, .inr (.inl fo)))] s.heap := hP
  have hl := lv_entry ([.ref h0, .int p0, .ref o0]) (n := 4) (Nat.le_of_ble_eq_true rfl)
  rw [lg_entry_eq]
  generalize (lg_sl ([.ref h0, .int p0, .ref o0]) ++ List.replicate (4 - (lg_sl ([.ref h0, .int p0, .ref o0])).length) Slot.unset).toArray = ls at hl ⊢
  have hl : lv_has ls 4 [(0, .ref h0), (1, .int p0), (2, .ref o0)] := hl
  have htab := vx_table (x := yL_ring) B (hts (.codeWith yL_ring cL_ring 4 (some .int) [(0, 9, 12, 13)]) List.mem_cons_self)
  refine lv_aload_n hx hb dL_ring_0 rfl (lv_at hl 2 rfl) ?_
  refine lv_iconst (v := 0) hx hb dL_ring_1 (by decide +kernel) ?_
  refine lv_aload_n hx hb dL_ring_2 rfl (lv_at hl 0 rfl) ?_
  refine lv_iload_n hx hb dL_ring_3 rfl (lv_at hl 1 rfl) ?_
  have hPc := hP.sub (ws' := [(h0, .inr (11, xfs)), (tr, .inl (ct, 2, .inr (.inr (.inr (.inr (fun _ => none))))))]) [0, 1] rfl
  have hDc := hD.sub (ws' := [(h0, .inr (11, xfs)), (tr, .inl (ct, 2, .inr (.inr (.inr (.inr (fun _ => none))))))]) [0, 1] (by decide) rfl
  have hKc := hK.sub (tys' := [(ct, .object "ScheduleHouse$Trial")]) [0] rfl
  have hFc := va_free (wc := [(h0, .inr (11, xfs)), (tr, .inl (ct, 2, .inr (.inr (.inr (.inr (fun _ => none))))))]) hD hS hA [0, 1] rfl
  refine vx_calli (vx_runV (As := [.int p0]) (rest := [.int 0, .ref o0]) ⟨hx, hb, hml, hown, hts⟩ (c_ring l hlt D h0 tr ct xfs p0 s.heap.size hq6) (cwV 1 hts g_v_c_L_ring_0 rfl rfl rfl (by decide +kernel) ⟨Nat.le_of_ble_eq_true rfl, Nat.le_of_ble_eq_true rfl⟩) ⟨st_blind, va_recv hKc hPc (ci := 11) (q0 := 0) rfl rfl, fun U hU hW => ⟨rfl, st_call hU hW hPc hKc hDc hZ hS hFc hE⟩⟩ rfl rfl hl.1 rfl (lv_room (Nat.le_of_ble_eq_true rfl)) dL_ring_4 ⟨Nat.le_of_ble_eq_true rfl, Nat.le_of_ble_eq_true rfl⟩) hS (fun q _ h => hFc q h) hFc (fun q _ h => hFc q h) (fun E ce q9 _ t H1 locs ht hvm hw hB hz1 hk1 hS hce hcv hcl => ?_) (fun r9 u9 t H1 locs ht hvm hw hB hz1 hk1 hS => ?_)
  · obtain ⟨hEx, hc9⟩ := hB
    subst hEx
    obtain ⟨hP, hD⟩ := va_join (wr := [(o0, .inl (co, 1, .inr (.inl fo)))]) (w1 := []) hP hD [0, 1] [2] rfl rfl (by decide) (by decide) hk1 hFc p_nil d_nil
    have hK := hK.sub (tys' := [(co, .long)]) [1] rfl
    generalize H1 = H at hP hS hce ⊢
    have hP : va_P D vwCl [(o0, .inl (co, 1, .inr (.inl fo)))] H := hP
    have hD : va_D A [(o0, .inl (co, 1, .inr (.inl fo)))] := hD
    have hK : va_K D vwCl [(co, .long)] s := hK
    refine vx_catch (own := RL) (name := iAE) (E := iAE) hown [] ⟨0, 9, 12, 13⟩ [] (by rw [htab]; rfl) (fun z hz => nomatch hz) (by decide) (by decide) (hts (.classLink RL 13 iAE) (by decide +kernel)) (ev_w hE (.castable iAE iAE) (by decide) rfl) hce hcv hcl ?_
    refine lv_astore_n (lv' := [(3, .ref q9), (0, .ref h0), (1, .int p0), (2, .ref o0)]) hx hb dL_ring_12 rfl hl (by decide) rfl (fun ls hl => ?_)
    refine lv_iconst (v := 1) hx hb dL_ring_13 (by decide +kernel) ?_
    refine W.widen (k := 1) (n := 6) (Nat.le_of_ble_eq_true rfl) (Nat.le_of_ble_eq_true rfl) ?_
    exact W.iret (v := 1) hx hb hr (fun t ht hW => ⟨⟨1, fo, rfl, Or.inr (Or.inl ⟨rfl, hc9⟩), by rw [ht]; exact hP, va_K.moved hW.alike hK, hD⟩, hS.F ht⟩) hS.2.2 dL_ring_14
  · obtain ⟨e9, c0⟩ := hw
    obtain ⟨hP, hD⟩ := va_join (wr := [(o0, .inl (co, 1, .inr (.inl fo)))]) (w1 := []) hP hD [0, 1] [2] rfl rfl (by decide) (by decide) hk1 hFc p_nil d_nil
    have hK := hK.sub (tys' := [(co, .long)]) [1] rfl
    generalize H1 = H at hP hS ⊢
    have hP : va_P D vwCl [(o0, .inl (co, 1, .inr (.inl fo)))] H := hP
    have hD : va_D A [(o0, .inl (co, 1, .inr (.inl fo)))] := hD
    have hK : va_K D vwCl [(co, .long)] s := hK
    subst e9
    refine lv_i2l (v := (0)) hx hb dL_ring_7 (by decide) ?_
    refine va_last hx hb hK hP hD hS 0 0 rfl rfl (i := 0) (x := (0)) (by unfold vp_in; decide) dL_ring_8 (fun H locs hP hD hS => ?_)
    obtain ⟨fy1, hfy1⟩ : ∃ z : Nat → Int64, z = vp_updL fo (0 : Int32).toNatClampNeg (0) := ⟨_, rfl⟩
    have hP : va_P D vwCl [(o0, .inl (co, 1, .inr (.inl fy1)))] H := by rw [hfy1]; exact hP
    have hD : va_D A [(o0, .inl (co, 1, .inr (.inl fy1)))] := by rw [hfy1]; exact hD
    refine lv_goto (tgt := 15) hx hb dL_ring_9 (by decide) ?_
    refine lv_iconst (v := 0) hx hb dL_ring_15 (by decide +kernel) ?_
    have e0 : fy1 0 = 0 := by rw [hfy1]; rfl
    refine W.widen (k := 1) (n := 6) (Nat.le_of_ble_eq_true rfl) (Nat.le_of_ble_eq_true rfl) ?_
    exact W.iret (v := 0) hx hb hr (fun t ht hW => ⟨⟨0, fy1, rfl, Or.inl ⟨rfl, ⟨e0, c0⟩⟩, by rw [ht]; exact hP, va_K.moved hW.alike hK, hD⟩, hS.F ht⟩) hS.2.2 dL_ring_16
noncomputable def v_c_L_feed : List Cond := .codeWith yL_feed cL_feed 6 (some .int) [(0, 11, 14, 13)] :: ([.classLink RL 13 iAE] ++ ((wsV RL 7 RX11 yX11_feed v_c_feed) ++ ([])))
theorem g_v_c_L_feed_0 : GoodIn v_c_L_feed (wsV RL 7 RX11 yX11_feed v_c_feed) := goodIn_sub (fun _ h => List.mem_cons_of_mem _ (List.mem_append_right _ (List.mem_append_left _ h))) (by decide +kernel)
theorem t_v_c_L_feed : ∀ w ∈ v_c_L_feed, w ∈ lw_tbl := tb_c (List.mem_of_getElem? (i := 1208) (by decide +kernel)) (tb_a (tb_c (List.mem_of_getElem? (i := 1209) (by decide +kernel)) (tb_n)) (tb_a (tb_a (tb_c (List.mem_of_getElem? (i := 1210) (by decide +kernel)) (tb_c (List.mem_of_getElem? (i := 1211) (by decide +kernel)) (tb_c (List.mem_of_getElem? (i := 1212) (by decide +kernel)) (tb_c (List.mem_of_getElem? (i := 206) (by decide +kernel)) (tb_n))))) t_v_c_feed) (tb_n)))
set_option maxHeartbeats 400000 in
set_option maxRecDepth 100000 in
/-- the law's feed -/
theorem c_L_feed (l : Launch) (D : va_G) (h0 o0 tk tx tr : Nat) (cx ct co : ClassId) (xfs tfs : List Value) (f0 : Nat → Int32) (fo : Nat → Int64) (p0 : Int32) (p1 : Int64) (sz : Nat) (hlt : l.stackTraces = false) (hlen : xfs.length = 13) (hq0 : xfs[0]? = some (.ref tk)) (hq6 : xfs[6]? = some (.ref tr)) (hlk : tfs.length = 10) (hk0 : tfs[0]? = some (.ref tx)) (hk1 : tfs[1]? = some (.int 0)) : Met l yL_feed v_c_L_feed ({ frames := 11, cells := 1, slots := 6, locals := 260 }) (va_Pc [.ref h0, .int p0, .long p1, .ref o0] (st_ D [(h0, .inr (11, xfs)), (tk, .inr (9, tfs)), (tx, .inl (cx, 3000, .inl f0)), (tr, .inl (ct, 2, .inr (.inr (.inr (.inr (fun _ => none)))))), (o0, .inl (co, 1, .inr (.inl fo)))] [(cx, .byte), (ct, .object "ScheduleHouse$Trial"), (co, .long)] sz)) (va_Qi (fun (r : Int32) (u : Nat → Int64) => (r = 0 ∧ u 0 = p0.toInt64 ∧ (¬ p0 < 1 ∧ p0 ≤ 8)) ∨ (r = 1 ∧ (p0 < 1 ∨ ¬ p0 ≤ 8)) ∨ (r = 2 ∧ False)) (fun u t => va_P D vwCl [(o0, .inl (co, 1, .inr (.inl u)))] t.heap ∧ va_K D vwCl [(co, .long)] t ∧ va_D (va_A [(h0, .inr (11, xfs)), (tk, .inr (9, tfs)), (tx, .inl (cx, 3000, .inl f0)), (tr, .inl (ct, 2, .inr (.inr (.inr (.inr (fun _ => none)))))), (o0, .inl (co, 1, .inr (.inl fo)))] sz) [(o0, .inl (co, 1, .inr (.inl u)))]) (va_A [(h0, .inr (11, xfs)), (tk, .inr (9, tfs)), (tx, .inl (cx, 3000, .inl f0)), (tr, .inl (ct, 2, .inr (.inr (.inr (.inr (fun _ => none)))))), (o0, .inl (co, 1, .inr (.inl fo)))] sz)) 1 6 (va_A [(h0, .inr (11, xfs)), (tk, .inr (9, tfs)), (tx, .inl (cx, 3000, .inl f0)), (tr, .inl (ct, 2, .inr (.inr (.inr (.inr (fun _ => none)))))), (o0, .inl (co, 1, .inr (.inl fo)))] sz) := by
  refine va_MetW (hh := [(0, 11, 14, 13)]) (cc := cL_feed) (maxL := 6) (ret := (some .int)) (by decide) rfl ?_
  intro p e s m args below meth c s₁ B hml hv
  obtain ⟨rfl, hsz, hP, hK, hD0, hZ, hE⟩ := hv
  have hx := B.exec
  have hb := B.bytes
  have hr := B.returns
  have hts := atoms_spec (ws := v_c_L_feed) B.pre
  have hown : s.vm.findClass RL = some m.cls := findClass_of_methodNamed B.named
  have hlocks := B.notSynchronized
  subst hsz
  have hD := hD0.self (sz := s.heap.size)
  generalize hAe : va_A [(h0, .inr (11, xfs)), (tk, .inr (9, tfs)), (tx, .inl (cx, 3000, .inl f0)), (tr, .inl (ct, 2, .inr (.inr (.inr (.inr (fun _ => none)))))), (o0, .inl (co, 1, .inr (.inl fo)))] s.heap.size = A at hD hZ ⊢
  have hA : ∀ q : Nat, s.heap.size ≤ q → A q := fun q h => by rw [← hAe]; exact Or.inr h
  have hS : va_S A s.heap s.heap [] := va_S.rf
  have hAO := hE.2.2.2.1
  have hP : va_P D vwCl [(h0, .inr (11, xfs)), (tk, .inr (9, tfs)), (tx, .inl (cx, 3000, .inl f0)), (tr, .inl (ct, 2, .inr (.inr (.inr (.inr (fun _ => none)))))), (o0, .inl (co, 1, .inr (.inl fo)))] s.heap := hP
  have hl := lv_entry ([.ref h0, .int p0, .long p1, .ref o0]) (n := 6) (Nat.le_of_ble_eq_true rfl)
  rw [lg_entry_eq]
  generalize (lg_sl ([.ref h0, .int p0, .long p1, .ref o0]) ++ List.replicate (6 - (lg_sl ([.ref h0, .int p0, .long p1, .ref o0])).length) Slot.unset).toArray = ls at hl ⊢
  have hl : lv_has ls 6 [(0, .ref h0), (1, .int p0), (2, .long p1), (4, .ref o0)] := hl
  have htab := vx_table (x := yL_feed) B (hts (.codeWith yL_feed cL_feed 6 (some .int) [(0, 11, 14, 13)]) List.mem_cons_self)
  refine lv_aload hx hb dL_feed_0 (lv_at hl 3 rfl) ?_
  refine lv_iconst (v := 0) hx hb dL_feed_2 (by decide +kernel) ?_
  refine lv_aload_n hx hb dL_feed_3 rfl (lv_at hl 0 rfl) ?_
  refine lv_iload_n hx hb dL_feed_4 rfl (lv_at hl 1 rfl) ?_
  refine lv_lload_n hx hb dL_feed_5 rfl (lv_at hl 2 rfl) ?_
  have hPc := hP.sub (ws' := [(h0, .inr (11, xfs)), (tk, .inr (9, tfs)), (tx, .inl (cx, 3000, .inl f0)), (tr, .inl (ct, 2, .inr (.inr (.inr (.inr (fun _ => none))))))]) [0, 1, 2, 3] rfl
  have hDc := hD.sub (ws' := [(h0, .inr (11, xfs)), (tk, .inr (9, tfs)), (tx, .inl (cx, 3000, .inl f0)), (tr, .inl (ct, 2, .inr (.inr (.inr (.inr (fun _ => none))))))]) [0, 1, 2, 3] (by decide) rfl
  have hKc := hK.sub (tys' := [(cx, .byte), (ct, .object "ScheduleHouse$Trial")]) [0, 1] rfl
  have hFc := va_free (wc := [(h0, .inr (11, xfs)), (tk, .inr (9, tfs)), (tx, .inl (cx, 3000, .inl f0)), (tr, .inl (ct, 2, .inr (.inr (.inr (.inr (fun _ => none))))))]) hD hS hA [0, 1, 2, 3] rfl
  refine vx_calli (vx_runV (As := [.int p0, .long p1]) (rest := [.int 0, .ref o0]) ⟨hx, hb, hml, hown, hts⟩ (c_feed l hlt D h0 tk tx tr cx ct xfs tfs f0 p0 p1 s.heap.size hlen hq0 hq6 hlk hk0 hk1) (cwV 2 hts g_v_c_L_feed_0 rfl rfl rfl (by decide +kernel) ⟨Nat.le_of_ble_eq_true rfl, Nat.le_of_ble_eq_true rfl⟩) ⟨st_blind, va_recv hKc hPc (ci := 11) (q0 := 0) rfl rfl, fun U hU hW => ⟨rfl, st_call hU hW hPc hKc hDc hZ hS hFc hE⟩⟩ rfl rfl hl.1 rfl (lv_room (Nat.le_of_ble_eq_true rfl)) dL_feed_6 ⟨Nat.le_of_ble_eq_true rfl, Nat.le_of_ble_eq_true rfl⟩) hS (fun q _ h => hFc q h) hFc (fun q _ h => hFc q h) (fun E ce q9 _ t H1 locs ht hvm hw hB hz1 hk1 hS hce hcv hcl => ?_) (fun r9 u9 t H1 locs ht hvm hw hB hz1 hk1 hS => ?_)
  · obtain ⟨hEx, hc9⟩ := hB
    subst hEx
    obtain ⟨hP, hD⟩ := va_join (wr := [(o0, .inl (co, 1, .inr (.inl fo)))]) (w1 := []) hP hD [0, 1, 2, 3] [4] rfl rfl (by decide) (by decide) hk1 hFc p_nil d_nil
    have hK := hK.sub (tys' := [(co, .long)]) [2] rfl
    generalize H1 = H at hP hS hce ⊢
    have hP : va_P D vwCl [(o0, .inl (co, 1, .inr (.inl fo)))] H := hP
    have hD : va_D A [(o0, .inl (co, 1, .inr (.inl fo)))] := hD
    have hK : va_K D vwCl [(co, .long)] s := hK
    refine vx_catch (own := RL) (name := iAE) (E := iAE) hown [] ⟨0, 11, 14, 13⟩ [] (by rw [htab]; rfl) (fun z hz => nomatch hz) (by decide) (by decide) (hts (.classLink RL 13 iAE) (by decide +kernel)) (ev_w hE (.castable iAE iAE) (by decide) rfl) hce hcv hcl ?_
    refine lv_astore (lv' := [(5, .ref q9), (0, .ref h0), (1, .int p0), (2, .long p1), (4, .ref o0)]) hx hb dL_feed_14 hl (by decide) rfl (fun ls hl => ?_)
    refine lv_iconst (v := 1) hx hb dL_feed_16 (by decide +kernel) ?_
    refine W.widen (k := 1) (n := 6) (Nat.le_of_ble_eq_true rfl) (Nat.le_of_ble_eq_true rfl) ?_
    exact W.iret (v := 1) hx hb hr (fun t ht hW => ⟨⟨1, fo, rfl, Or.inr (Or.inl ⟨rfl, hc9⟩), by rw [ht]; exact hP, va_K.moved hW.alike hK, hD⟩, hS.F ht⟩) hS.2.2 dL_feed_17
  · obtain ⟨e9, c0⟩ := hw
    obtain ⟨hP, hD⟩ := va_join (wr := [(o0, .inl (co, 1, .inr (.inl fo)))]) (w1 := []) hP hD [0, 1, 2, 3] [4] rfl rfl (by decide) (by decide) hk1 hFc p_nil d_nil
    have hK := hK.sub (tys' := [(co, .long)]) [2] rfl
    generalize H1 = H at hP hS ⊢
    have hP : va_P D vwCl [(o0, .inl (co, 1, .inr (.inl fo)))] H := hP
    have hD : va_D A [(o0, .inl (co, 1, .inr (.inl fo)))] := hD
    have hK : va_K D vwCl [(co, .long)] s := hK
    rw [e9]
    refine lv_i2l (v := p0.toInt64) hx hb dL_feed_9 rfl ?_
    refine va_last hx hb hK hP hD hS 0 0 rfl rfl (i := 0) (x := p0.toInt64) (by unfold vp_in; decide) dL_feed_10 (fun H locs hP hD hS => ?_)
    obtain ⟨fy1, hfy1⟩ : ∃ z : Nat → Int64, z = vp_updL fo (0 : Int32).toNatClampNeg p0.toInt64 := ⟨_, rfl⟩
    have hP : va_P D vwCl [(o0, .inl (co, 1, .inr (.inl fy1)))] H := by rw [hfy1]; exact hP
    have hD : va_D A [(o0, .inl (co, 1, .inr (.inl fy1)))] := by rw [hfy1]; exact hD
    refine lv_goto (tgt := 18) hx hb dL_feed_11 (by decide) ?_
    refine lv_iconst (v := 0) hx hb dL_feed_18 (by decide +kernel) ?_
    have e0 : fy1 0 = p0.toInt64 := by rw [hfy1]; rfl
    refine W.widen (k := 1) (n := 6) (Nat.le_of_ble_eq_true rfl) (Nat.le_of_ble_eq_true rfl) ?_
    exact W.iret (v := 0) hx hb hr (fun t ht hW => ⟨⟨0, fy1, rfl, Or.inl ⟨rfl, ⟨e0, c0⟩⟩, by rw [ht]; exact hP, va_K.moved hW.alike hK, hD⟩, hS.F ht⟩) hS.2.2 dL_feed_19
theorem i_lt (a b : Int32) : a < b ↔ a.toInt < b.toInt := Int32.lt_iff_toInt_lt
theorem i_le (a b : Int32) : a ≤ b ↔ a.toInt ≤ b.toInt := Int32.le_iff_toInt_le
theorem i_eq (a b : Int32) : a = b ↔ a.toInt = b.toInt := ⟨fun h => by rw [h], fun h => Int32.toInt.inj h⟩
theorem n_0 : (0 : Int32).toInt = 0 := by decide
theorem n_1 : (1 : Int32).toInt = 1 := by decide
theorem n_2 : (2 : Int32).toInt = 2 := by decide
theorem n_4 : (4 : Int32).toInt = 4 := by decide
theorem n_5 : (5 : Int32).toInt = 5 := by decide
theorem n_6 : (6 : Int32).toInt = 6 := by decide
theorem n_8 : (8 : Int32).toInt = 8 := by decide
theorem n_10 : (10 : Int32).toInt = 10 := by decide
theorem n_11 : (11 : Int32).toInt = 11 := by decide
theorem ag_fault (p0 r t b : Int32) (u : Nat → Int64) (hX : (r = 0 ∧ u 0 = -1 ∧ (p0 = 0 ∨ p0 = 1)) ∨ (r = 1 ∧ (¬ p0 = 0 ∧ ¬ p0 = 1)) ∨ (r = 2 ∧ False)) (hM : (t = 0 ∧ b = -1 ∧ (¬ p0 < 0 ∧ ¬ 1 < p0)) ∨ (t = 1 ∧ (p0 < 0 ∨ 1 < p0)) ∨ (t = 2 ∧ False)) : t = r ∧ (r = 0 → u 0 = b.toInt64) := by
  have f0 : p0 = 0 ↔ p0.toInt = 0 := (i_eq p0 0).trans (by rw [n_0])
  have f1 : p0 = 1 ↔ p0.toInt = 1 := (i_eq p0 1).trans (by rw [n_1])
  rw [f0, f1] at hX
  simp only [i_lt, n_0, n_1] at hM
  rcases hX with ⟨hr, hu, hx⟩ | ⟨hr, hx⟩ | ⟨hr, hx⟩ <;> rcases hM with ⟨ht, hb, hm⟩ | ⟨ht, hm⟩ | ⟨ht, hm⟩
  · exact ⟨ht.trans hr.symm, fun _ => by rw [hu, hb]; decide⟩
  · exact absurd hm (by omega)
  · exact hm.elim
  · exact absurd hm (by omega)
  · exact ⟨ht.trans hr.symm, fun h => absurd (hr.symm.trans h) (by decide)⟩
  · exact hm.elim
  · exact hx.elim
  · exact hx.elim
  · exact hx.elim
theorem ag_count (p0 r t b : Int32) (u : Nat → Int64) (hX : (r = 0 ∧ u 0 = 0 ∧ (¬ p0 < 0 ∧ p0 < 5)) ∨ (r = 1 ∧ (p0 < 0 ∨ ¬ p0 < 5)) ∨ (r = 2 ∧ False)) (hM : (t = 0 ∧ b = 0 ∧ (¬ p0 < 0 ∧ ¬ 4 < p0)) ∨ (t = 1 ∧ (p0 < 0 ∨ 4 < p0)) ∨ (t = 2 ∧ False)) : t = r ∧ (r = 0 → u 0 = b.toInt64) := by
  simp only [i_lt, i_le, n_0, n_1, n_2, n_4, n_5, n_6, n_8, n_10, n_11] at hX hM
  rcases hX with ⟨hr, hu, hx⟩ | ⟨hr, hx⟩ | ⟨hr, hx⟩ <;> rcases hM with ⟨ht, hb, hm⟩ | ⟨ht, hm⟩ | ⟨ht, hm⟩
  · exact ⟨ht.trans hr.symm, fun _ => by rw [hu, hb]; decide⟩
  · exact absurd hm (by omega)
  · exact hm.elim
  · exact absurd hm (by omega)
  · exact ⟨ht.trans hr.symm, fun h => absurd (hr.symm.trans h) (by decide)⟩
  · exact hm.elim
  · exact hx.elim
  · exact hx.elim
  · exact hx.elim
theorem ag_tried (p0 p1 r t b : Int32) (u : Nat → Int64) (hX : (r = 0 ∧ u 0 = 0 ∧ ((¬ p0 < 0 ∧ p0 < 2) ∧ (¬ p1 < 0 ∧ p1 < 6))) ∨ (r = 1 ∧ (p0 < 0 ∨ ¬ p0 < 2)) ∨ (r = 2 ∧ ((¬ p0 < 0 ∧ p0 < 2) ∧ (p1 < 0 ∨ ¬ p1 < 6)))) (hM : (t = 0 ∧ b = 0 ∧ ((¬ p0 < 0 ∧ ¬ 1 < p0) ∧ (¬ p1 < 0 ∧ ¬ 5 < p1))) ∨ (t = 1 ∧ (p0 < 0 ∨ 1 < p0)) ∨ (t = 2 ∧ ((¬ p0 < 0 ∧ ¬ 1 < p0) ∧ (p1 < 0 ∨ 5 < p1)))) : t = r ∧ (r = 0 → u 0 = b.toInt64) := by
  simp only [i_lt, i_le, n_0, n_1, n_2, n_4, n_5, n_6, n_8, n_10, n_11] at hX hM
  rcases hX with ⟨hr, hu, hx⟩ | ⟨hr, hx⟩ | ⟨hr, hx⟩ <;> rcases hM with ⟨ht, hb, hm⟩ | ⟨ht, hm⟩ | ⟨ht, hm⟩
  · exact ⟨ht.trans hr.symm, fun _ => by rw [hu, hb]; decide⟩
  · exact absurd hm (by omega)
  · exact absurd hm (by omega)
  · exact absurd hm (by omega)
  · exact ⟨ht.trans hr.symm, fun h => absurd (hr.symm.trans h) (by decide)⟩
  · exact absurd hm (by omega)
  · exact absurd hm (by omega)
  · exact absurd hm (by omega)
  · exact ⟨ht.trans hr.symm, fun h => absurd (hr.symm.trans h) (by decide)⟩
theorem ag_outcome (p0 p1 p2 r t b : Int32) (u : Nat → Int64) (hX : (r = 0 ∧ u 0 = 0 ∧ False) ∨ (r = 1 ∧ (p0 < 0 ∨ ¬ p0 < 2)) ∨ (r = 2 ∧ (¬ p0 < 0 ∧ p0 < 2))) (hM : (t = 0 ∧ b = 0 ∧ False) ∨ (t = 1 ∧ (p0 < 0 ∨ 1 < p0)) ∨ (t = 2 ∧ (¬ p0 < 0 ∧ ¬ 1 < p0))) : t = r ∧ (r = 0 → u 0 = b.toInt64) := by
  simp only [i_lt, i_le, n_0, n_1, n_2, n_4, n_5, n_6, n_8, n_10, n_11] at hX hM
  rcases hX with ⟨hr, hu, hx⟩ | ⟨hr, hx⟩ | ⟨hr, hx⟩ <;> rcases hM with ⟨ht, hb, hm⟩ | ⟨ht, hm⟩ | ⟨ht, hm⟩
  · exact hx.elim
  · exact hx.elim
  · exact hx.elim
  · exact hm.elim
  · exact ⟨ht.trans hr.symm, fun h => absurd (hr.symm.trans h) (by decide)⟩
  · exact absurd hm (by omega)
  · exact hm.elim
  · exact absurd hm (by omega)
  · exact ⟨ht.trans hr.symm, fun h => absurd (hr.symm.trans h) (by decide)⟩
theorem ag_finding (p0 p1 r t b : Int32) (u : Nat → Int64) (hX : (r = 0 ∧ u 0 = -1 ∧ ((¬ p0 < 0 ∧ p0 < 2) ∧ (¬ p1 < 0 ∧ p1 < 11))) ∨ (r = 1 ∧ ((p0 < 0 ∨ ¬ p0 < 2) ∨ (p1 < 0 ∨ ¬ p1 < 11))) ∨ (r = 2 ∧ False)) (hM : (t = 0 ∧ b = -1 ∧ ((¬ p0 < 0 ∧ ¬ 1 < p0) ∧ (¬ p1 < 0 ∧ ¬ 10 < p1))) ∨ (t = 1 ∧ ((p0 < 0 ∨ 1 < p0) ∨ (p1 < 0 ∨ 10 < p1))) ∨ (t = 2 ∧ False)) : t = r ∧ (r = 0 → u 0 = b.toInt64) := by
  simp only [i_lt, i_le, n_0, n_1, n_2, n_4, n_5, n_6, n_8, n_10, n_11] at hX hM
  rcases hX with ⟨hr, hu, hx⟩ | ⟨hr, hx⟩ | ⟨hr, hx⟩ <;> rcases hM with ⟨ht, hb, hm⟩ | ⟨ht, hm⟩ | ⟨ht, hm⟩
  · exact ⟨ht.trans hr.symm, fun _ => by rw [hu, hb]; decide⟩
  · exact absurd hm (by omega)
  · exact hm.elim
  · exact absurd hm (by omega)
  · exact ⟨ht.trans hr.symm, fun h => absurd (hr.symm.trans h) (by decide)⟩
  · exact hm.elim
  · exact hx.elim
  · exact hx.elim
  · exact hx.elim
theorem ag_show (p0 p1 r t b : Int32) (u : Nat → Int64) (hX : (r = 0 ∧ u 0 = 0 ∧ False) ∨ (r = 1 ∧ ((p0 < 0 ∨ ¬ p0 < 2) ∨ (p1 < 0 ∨ ¬ p1 < 11))) ∨ (r = 2 ∧ ((¬ p0 < 0 ∧ p0 < 2) ∧ (¬ p1 < 0 ∧ p1 < 11)))) (hM : (t = 0 ∧ b = 0 ∧ False) ∨ (t = 1 ∧ ((p0 < 0 ∨ 1 < p0) ∨ (p1 < 0 ∨ 10 < p1))) ∨ (t = 2 ∧ ((¬ p0 < 0 ∧ ¬ 1 < p0) ∧ (¬ p1 < 0 ∧ ¬ 10 < p1)))) : t = r ∧ (r = 0 → u 0 = b.toInt64) := by
  simp only [i_lt, i_le, n_0, n_1, n_2, n_4, n_5, n_6, n_8, n_10, n_11] at hX hM
  rcases hX with ⟨hr, hu, hx⟩ | ⟨hr, hx⟩ | ⟨hr, hx⟩ <;> rcases hM with ⟨ht, hb, hm⟩ | ⟨ht, hm⟩ | ⟨ht, hm⟩
  · exact hx.elim
  · exact hx.elim
  · exact hx.elim
  · exact hm.elim
  · exact ⟨ht.trans hr.symm, fun h => absurd (hr.symm.trans h) (by decide)⟩
  · exact absurd hm (by omega)
  · exact hm.elim
  · exact absurd hm (by omega)
  · exact ⟨ht.trans hr.symm, fun h => absurd (hr.symm.trans h) (by decide)⟩
theorem ag_common (p0 p1 r t b : Int32) (u : Nat → Int64) (hX : (r = 0 ∧ u 0 = 0 ∧ False) ∨ (r = 1 ∧ (p0 < 0 ∨ ¬ p0 < 2)) ∨ (r = 2 ∧ (¬ p0 < 0 ∧ p0 < 2))) (hM : (t = 0 ∧ b = 0 ∧ False) ∨ (t = 1 ∧ (p0 < 0 ∨ 1 < p0)) ∨ (t = 2 ∧ (¬ p0 < 0 ∧ ¬ 1 < p0))) : t = r ∧ (r = 0 → u 0 = b.toInt64) := by
  simp only [i_lt, i_le, n_0, n_1, n_2, n_4, n_5, n_6, n_8, n_10, n_11] at hX hM
  rcases hX with ⟨hr, hu, hx⟩ | ⟨hr, hx⟩ | ⟨hr, hx⟩ <;> rcases hM with ⟨ht, hb, hm⟩ | ⟨ht, hm⟩ | ⟨ht, hm⟩
  · exact hx.elim
  · exact hx.elim
  · exact hx.elim
  · exact hm.elim
  · exact ⟨ht.trans hr.symm, fun h => absurd (hr.symm.trans h) (by decide)⟩
  · exact absurd hm (by omega)
  · exact hm.elim
  · exact absurd hm (by omega)
  · exact ⟨ht.trans hr.symm, fun h => absurd (hr.symm.trans h) (by decide)⟩
theorem ag_ring (p0 r t b : Int32) (u : Nat → Int64) (hX : (r = 0 ∧ u 0 = 0 ∧ (¬ p0 < 0 ∧ p0 < 2)) ∨ (r = 1 ∧ (p0 < 0 ∨ ¬ p0 < 2)) ∨ (r = 2 ∧ False)) (hM : (t = 0 ∧ b = 0 ∧ (¬ p0 < 0 ∧ ¬ 1 < p0)) ∨ (t = 1 ∧ (p0 < 0 ∨ 1 < p0)) ∨ (t = 2 ∧ False)) : t = r ∧ (r = 0 → u 0 = b.toInt64) := by
  simp only [i_lt, i_le, n_0, n_1, n_2, n_4, n_5, n_6, n_8, n_10, n_11] at hX hM
  rcases hX with ⟨hr, hu, hx⟩ | ⟨hr, hx⟩ | ⟨hr, hx⟩ <;> rcases hM with ⟨ht, hb, hm⟩ | ⟨ht, hm⟩ | ⟨ht, hm⟩
  · exact ⟨ht.trans hr.symm, fun _ => by rw [hu, hb]; decide⟩
  · exact absurd hm (by omega)
  · exact hm.elim
  · exact absurd hm (by omega)
  · exact ⟨ht.trans hr.symm, fun h => absurd (hr.symm.trans h) (by decide)⟩
  · exact hm.elim
  · exact hx.elim
  · exact hx.elim
  · exact hx.elim
theorem ag_feed (p0 r t b : Int32) (u : Nat → Int64) (hX : (r = 0 ∧ u 0 = p0.toInt64 ∧ (¬ p0 < 1 ∧ p0 ≤ 8)) ∨ (r = 1 ∧ (p0 < 1 ∨ ¬ p0 ≤ 8)) ∨ (r = 2 ∧ False)) (hM : (t = 0 ∧ b = p0 ∧ (¬ p0 < 1 ∧ ¬ 8 < p0)) ∨ (t = 1 ∧ (p0 < 1 ∨ 8 < p0)) ∨ (t = 2 ∧ False)) : t = r ∧ (r = 0 → u 0 = b.toInt64) := by
  simp only [i_lt, i_le, n_0, n_1, n_2, n_4, n_5, n_6, n_8, n_10, n_11] at hX hM
  rcases hX with ⟨hr, hu, hx⟩ | ⟨hr, hx⟩ | ⟨hr, hx⟩ <;> rcases hM with ⟨ht, hb, hm⟩ | ⟨ht, hm⟩ | ⟨ht, hm⟩
  · exact ⟨ht.trans hr.symm, fun _ => by rw [hu, hb]⟩
  · exact absurd hm (by omega)
  · exact hm.elim
  · exact absurd hm (by omega)
  · exact ⟨ht.trans hr.symm, fun h => absurd (hr.symm.trans h) (by decide)⟩
  · exact hm.elim
  · exact hx.elim
  · exact hx.elim
  · exact hx.elim
