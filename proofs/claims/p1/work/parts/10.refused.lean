noncomputable def v_c_begin : List Cond := .code yX11_begin cX11_begin 2 (some .int) :: ([] ++ ((wsV RX11 148 RX11 yX11_needCompiled v_c_needCompiled) ++ ([])))
theorem g_v_c_begin_0 : GoodIn v_c_begin (wsV RX11 148 RX11 yX11_needCompiled v_c_needCompiled) := goodIn_sub (fun _ h => List.mem_cons_of_mem _ (List.mem_append_right _ (List.mem_append_left _ h))) (by decide +kernel)
theorem t_v_c_begin : ∀ w ∈ v_c_begin, w ∈ lw_tbl := tb_c (List.mem_of_getElem? (i := 1276) (by decide +kernel)) (tb_a (tb_n) (tb_a (tb_a (tb_c (List.mem_of_getElem? (i := 1277) (by decide +kernel)) (tb_c (List.mem_of_getElem? (i := 1279) (by decide +kernel)) (tb_c (List.mem_of_getElem? (i := 55) (by decide +kernel)) (tb_c (List.mem_of_getElem? (i := 206) (by decide +kernel)) (tb_n))))) t_v_c_needCompiled) (tb_n)))
set_option maxHeartbeats 400000 in
set_option maxRecDepth 100000 in
/-- begin(..): nothing there: IllegalStateException -/
theorem c_begin (l : Launch) (hlt : l.stackTraces = false) (D : va_G) (h0 : Nat) (xfs : List Value) (p0 : Int32) (sz : Nat) (hq : xfs[9]? = some (.int 0)) : vx_Met l yX11_begin v_c_begin ({ frames := 8, cells := 1, slots := 6, locals := 140 }) (va_Pc [.ref h0, .int p0] (st_ D [(h0, .inr (11, xfs))] [] sz)) (va_Qi (fun (_ : Int32) (_ : Unit) => False) (fun _ _ => True) (va_A [(h0, .inr (11, xfs))] sz)) (vx_X (fun _ : Unit => True) (fun E _ _ => E = iSE) (va_A [(h0, .inr (11, xfs))] sz)) 1 6 (va_A [(h0, .inr (11, xfs))] sz) := by
  refine vx_ofW (cc := cX11_begin) (maxL := 2) (ret := (some .int)) (by decide) rfl ?_
  intro p e s m args below meth c s₁ B hml hno hv
  obtain ⟨rfl, hsz, hP, hK, hD0, hZ, hE⟩ := hv
  have hx := B.exec
  have hb := B.bytes
  have hr := B.returns
  have hts := atoms_spec (ws := v_c_begin) B.pre
  have hown : s.vm.findClass RX11 = some m.cls := findClass_of_methodNamed B.named
  have hlocks := B.notSynchronized
  subst hsz
  have hD := hD0.self (sz := s.heap.size)
  generalize hAe : va_A [(h0, .inr (11, xfs))] s.heap.size = A at hD hZ ⊢
  have hA : ∀ q : Nat, s.heap.size ≤ q → A q := fun q h => by rw [← hAe]; exact Or.inr h
  have hS : va_S A s.heap s.heap [] := va_S.rf
  have hAO := hE.2.2.2.1
  have hP : va_P D vwCl [(h0, .inr (11, xfs))] s.heap := hP
  have hl := lv_entry ([.ref h0, .int p0]) (n := 2) (Nat.le_of_ble_eq_true rfl)
  rw [lg_entry_eq]
  generalize (lg_sl ([.ref h0, .int p0]) ++ List.replicate (2 - (lg_sl ([.ref h0, .int p0])).length) Slot.unset).toArray = ls at hl ⊢
  have hl : lv_has ls 2 [(0, .ref h0), (1, .int p0)] := hl
  refine lv_aload_n hx hb dX11_begin_0 rfl (lv_at hl 0 rfl) ?_
  have hPc := hP.sub (ws' := [(h0, .inr (11, xfs))]) [0] rfl
  have hDc := hD.sub (ws' := [(h0, .inr (11, xfs))]) [0] (by decide) rfl
  have hKc := hK.sub (tys' := []) [] rfl
  have hFc := va_free (wc := [(h0, .inr (11, xfs))]) hD hS hA [0] rfl
  refine vx_callv (vx_runV (As := []) (rest := []) ⟨hx, hb, hml, hown, hts⟩ (c_needCompiled l hlt D h0 xfs s.heap.size hq) (cwV 0 hts g_v_c_begin_0 rfl rfl rfl (by decide +kernel) ⟨Nat.le_of_ble_eq_true rfl, Nat.le_of_ble_eq_true rfl⟩) ⟨st_blind, va_recv hKc hPc (ci := 11) (q0 := 0) rfl rfl, fun U hU hW => ⟨rfl, st_call hU hW hPc hKc hDc hZ hS hFc hE⟩⟩ rfl rfl hl.1 rfl (lv_room (Nat.le_of_ble_eq_true rfl)) dX11_begin_1 ⟨Nat.le_of_ble_eq_true rfl, Nat.le_of_ble_eq_true rfl⟩) hS (fun q _ h => hFc q h) hFc (fun q _ h => hFc q h) (fun E ce q9 _ t H1 locs ht hvm hw hB hz1 hk1 hS hce hcv hcl => ?_) (fun u9 t H1 locs ht hvm hw hB hz1 hk1 hS => ?_)
  · subst hB
    exact vx_out (E := iSE) (fun x hx => (hno x hx).elim) hlocks hce hcv hcl (fun t2 h2 hvm2 => ⟨(), trivial, rfl, hS.F h2⟩) hS.2.2 (Nat.le_of_ble_eq_true rfl) (Nat.le_of_ble_eq_true rfl)
  · exact hw.elim
noncomputable def v_c_attempt : List Cond := .code yX11_attempt cX11_attempt 3 (some .int) :: ([] ++ ((wsV RX11 148 RX11 yX11_needCompiled v_c_needCompiled) ++ ([])))
theorem g_v_c_attempt_0 : GoodIn v_c_attempt (wsV RX11 148 RX11 yX11_needCompiled v_c_needCompiled) := goodIn_sub (fun _ h => List.mem_cons_of_mem _ (List.mem_append_right _ (List.mem_append_left _ h))) (by decide +kernel)
theorem t_v_c_attempt : ∀ w ∈ v_c_attempt, w ∈ lw_tbl := tb_c (List.mem_of_getElem? (i := 1777) (by decide +kernel)) (tb_a (tb_n) (tb_a (tb_a (tb_c (List.mem_of_getElem? (i := 1277) (by decide +kernel)) (tb_c (List.mem_of_getElem? (i := 1279) (by decide +kernel)) (tb_c (List.mem_of_getElem? (i := 55) (by decide +kernel)) (tb_c (List.mem_of_getElem? (i := 206) (by decide +kernel)) (tb_n))))) t_v_c_needCompiled) (tb_n)))
set_option maxHeartbeats 400000 in
set_option maxRecDepth 100000 in
/-- attempt(..): nothing there: IllegalStateException -/
theorem c_attempt (l : Launch) (hlt : l.stackTraces = false) (D : va_G) (h0 : Nat) (xfs : List Value) (p0 p1 : Int32) (sz : Nat) (hq : xfs[9]? = some (.int 0)) : vx_Met l yX11_attempt v_c_attempt ({ frames := 8, cells := 1, slots := 6, locals := 140 }) (va_Pc [.ref h0, .int p0, .int p1] (st_ D [(h0, .inr (11, xfs))] [] sz)) (va_Qi (fun (_ : Int32) (_ : Unit) => False) (fun _ _ => True) (va_A [(h0, .inr (11, xfs))] sz)) (vx_X (fun _ : Unit => True) (fun E _ _ => E = iSE) (va_A [(h0, .inr (11, xfs))] sz)) 1 6 (va_A [(h0, .inr (11, xfs))] sz) := by
  refine vx_ofW (cc := cX11_attempt) (maxL := 3) (ret := (some .int)) (by decide) rfl ?_
  intro p e s m args below meth c s₁ B hml hno hv
  obtain ⟨rfl, hsz, hP, hK, hD0, hZ, hE⟩ := hv
  have hx := B.exec
  have hb := B.bytes
  have hr := B.returns
  have hts := atoms_spec (ws := v_c_attempt) B.pre
  have hown : s.vm.findClass RX11 = some m.cls := findClass_of_methodNamed B.named
  have hlocks := B.notSynchronized
  subst hsz
  have hD := hD0.self (sz := s.heap.size)
  generalize hAe : va_A [(h0, .inr (11, xfs))] s.heap.size = A at hD hZ ⊢
  have hA : ∀ q : Nat, s.heap.size ≤ q → A q := fun q h => by rw [← hAe]; exact Or.inr h
  have hS : va_S A s.heap s.heap [] := va_S.rf
  have hAO := hE.2.2.2.1
  have hP : va_P D vwCl [(h0, .inr (11, xfs))] s.heap := hP
  have hl := lv_entry ([.ref h0, .int p0, .int p1]) (n := 3) (Nat.le_of_ble_eq_true rfl)
  rw [lg_entry_eq]
  generalize (lg_sl ([.ref h0, .int p0, .int p1]) ++ List.replicate (3 - (lg_sl ([.ref h0, .int p0, .int p1])).length) Slot.unset).toArray = ls at hl ⊢
  have hl : lv_has ls 3 [(0, .ref h0), (1, .int p0), (2, .int p1)] := hl
  refine lv_aload_n hx hb dX11_attempt_0 rfl (lv_at hl 0 rfl) ?_
  have hPc := hP.sub (ws' := [(h0, .inr (11, xfs))]) [0] rfl
  have hDc := hD.sub (ws' := [(h0, .inr (11, xfs))]) [0] (by decide) rfl
  have hKc := hK.sub (tys' := []) [] rfl
  have hFc := va_free (wc := [(h0, .inr (11, xfs))]) hD hS hA [0] rfl
  refine vx_callv (vx_runV (As := []) (rest := []) ⟨hx, hb, hml, hown, hts⟩ (c_needCompiled l hlt D h0 xfs s.heap.size hq) (cwV 0 hts g_v_c_attempt_0 rfl rfl rfl (by decide +kernel) ⟨Nat.le_of_ble_eq_true rfl, Nat.le_of_ble_eq_true rfl⟩) ⟨st_blind, va_recv hKc hPc (ci := 11) (q0 := 0) rfl rfl, fun U hU hW => ⟨rfl, st_call hU hW hPc hKc hDc hZ hS hFc hE⟩⟩ rfl rfl hl.1 rfl (lv_room (Nat.le_of_ble_eq_true rfl)) dX11_attempt_1 ⟨Nat.le_of_ble_eq_true rfl, Nat.le_of_ble_eq_true rfl⟩) hS (fun q _ h => hFc q h) hFc (fun q _ h => hFc q h) (fun E ce q9 _ t H1 locs ht hvm hw hB hz1 hk1 hS hce hcv hcl => ?_) (fun u9 t H1 locs ht hvm hw hB hz1 hk1 hS => ?_)
  · subst hB
    exact vx_out (E := iSE) (fun x hx => (hno x hx).elim) hlocks hce hcv hcl (fun t2 h2 hvm2 => ⟨(), trivial, rfl, hS.F h2⟩) hS.2.2 (Nat.le_of_ble_eq_true rfl) (Nat.le_of_ble_eq_true rfl)
  · exact hw.elim
noncomputable def v_c_choices : List Cond := .code yX11_choices cX11_choices 1 (some .int) :: ([] ++ ((wsV RX11 160 RX11 yX11_needRun v_c_needRun) ++ ([])))
theorem g_v_c_choices_0 : GoodIn v_c_choices (wsV RX11 160 RX11 yX11_needRun v_c_needRun) := goodIn_sub (fun _ h => List.mem_cons_of_mem _ (List.mem_append_right _ (List.mem_append_left _ h))) (by decide +kernel)
theorem t_v_c_choices : ∀ w ∈ v_c_choices, w ∈ lw_tbl := tb_c (List.mem_of_getElem? (i := 1396) (by decide +kernel)) (tb_a (tb_n) (tb_a (tb_a (tb_c (List.mem_of_getElem? (i := 1397) (by decide +kernel)) (tb_c (List.mem_of_getElem? (i := 1399) (by decide +kernel)) (tb_c (List.mem_of_getElem? (i := 70) (by decide +kernel)) (tb_c (List.mem_of_getElem? (i := 206) (by decide +kernel)) (tb_n))))) t_v_c_needRun) (tb_n)))
set_option maxHeartbeats 400000 in
set_option maxRecDepth 100000 in
/-- choices(..): nothing there: IllegalStateException -/
theorem c_choices (l : Launch) (hlt : l.stackTraces = false) (D : va_G) (h0 : Nat) (xfs : List Value) (sz : Nat) (hq : xfs[10]? = some (.int 0)) : vx_Met l yX11_choices v_c_choices ({ frames := 8, cells := 1, slots := 6, locals := 140 }) (va_Pc [.ref h0] (st_ D [(h0, .inr (11, xfs))] [] sz)) (va_Qi (fun (_ : Int32) (_ : Unit) => False) (fun _ _ => True) (va_A [(h0, .inr (11, xfs))] sz)) (vx_X (fun _ : Unit => True) (fun E _ _ => E = iSE) (va_A [(h0, .inr (11, xfs))] sz)) 1 6 (va_A [(h0, .inr (11, xfs))] sz) := by
  refine vx_ofW (cc := cX11_choices) (maxL := 1) (ret := (some .int)) (by decide) rfl ?_
  intro p e s m args below meth c s₁ B hml hno hv
  obtain ⟨rfl, hsz, hP, hK, hD0, hZ, hE⟩ := hv
  have hx := B.exec
  have hb := B.bytes
  have hr := B.returns
  have hts := atoms_spec (ws := v_c_choices) B.pre
  have hown : s.vm.findClass RX11 = some m.cls := findClass_of_methodNamed B.named
  have hlocks := B.notSynchronized
  subst hsz
  have hD := hD0.self (sz := s.heap.size)
  generalize hAe : va_A [(h0, .inr (11, xfs))] s.heap.size = A at hD hZ ⊢
  have hA : ∀ q : Nat, s.heap.size ≤ q → A q := fun q h => by rw [← hAe]; exact Or.inr h
  have hS : va_S A s.heap s.heap [] := va_S.rf
  have hAO := hE.2.2.2.1
  have hP : va_P D vwCl [(h0, .inr (11, xfs))] s.heap := hP
  have hl := lv_entry ([.ref h0]) (n := 1) (Nat.le_of_ble_eq_true rfl)
  rw [lg_entry_eq]
  generalize (lg_sl ([.ref h0]) ++ List.replicate (1 - (lg_sl ([.ref h0])).length) Slot.unset).toArray = ls at hl ⊢
  have hl : lv_has ls 1 [(0, .ref h0)] := hl
  refine lv_aload_n hx hb dX11_choices_0 rfl (lv_at hl 0 rfl) ?_
  have hPc := hP.sub (ws' := [(h0, .inr (11, xfs))]) [0] rfl
  have hDc := hD.sub (ws' := [(h0, .inr (11, xfs))]) [0] (by decide) rfl
  have hKc := hK.sub (tys' := []) [] rfl
  have hFc := va_free (wc := [(h0, .inr (11, xfs))]) hD hS hA [0] rfl
  refine vx_callv (vx_runV (As := []) (rest := []) ⟨hx, hb, hml, hown, hts⟩ (c_needRun l hlt D h0 xfs s.heap.size hq) (cwV 0 hts g_v_c_choices_0 rfl rfl rfl (by decide +kernel) ⟨Nat.le_of_ble_eq_true rfl, Nat.le_of_ble_eq_true rfl⟩) ⟨st_blind, va_recv hKc hPc (ci := 11) (q0 := 0) rfl rfl, fun U hU hW => ⟨rfl, st_call hU hW hPc hKc hDc hZ hS hFc hE⟩⟩ rfl rfl hl.1 rfl (lv_room (Nat.le_of_ble_eq_true rfl)) dX11_choices_1 ⟨Nat.le_of_ble_eq_true rfl, Nat.le_of_ble_eq_true rfl⟩) hS (fun q _ h => hFc q h) hFc (fun q _ h => hFc q h) (fun E ce q9 _ t H1 locs ht hvm hw hB hz1 hk1 hS hce hcv hcl => ?_) (fun u9 t H1 locs ht hvm hw hB hz1 hk1 hS => ?_)
  · subst hB
    exact vx_out (E := iSE) (fun x hx => (hno x hx).elim) hlocks hce hcv hcl (fun t2 h2 hvm2 => ⟨(), trivial, rfl, hS.F h2⟩) hS.2.2 (Nat.le_of_ble_eq_true rfl) (Nat.le_of_ble_eq_true rfl)
  · exact hw.elim
noncomputable def v_c_choice : List Cond := .code yX11_choice cX11_choice 5 (some .int) :: ([] ++ ((wsV RX11 160 RX11 yX11_needRun v_c_needRun) ++ ([])))
theorem g_v_c_choice_0 : GoodIn v_c_choice (wsV RX11 160 RX11 yX11_needRun v_c_needRun) := goodIn_sub (fun _ h => List.mem_cons_of_mem _ (List.mem_append_right _ (List.mem_append_left _ h))) (by decide +kernel)
theorem t_v_c_choice : ∀ w ∈ v_c_choice, w ∈ lw_tbl := tb_c (List.mem_of_getElem? (i := 1408) (by decide +kernel)) (tb_a (tb_n) (tb_a (tb_a (tb_c (List.mem_of_getElem? (i := 1397) (by decide +kernel)) (tb_c (List.mem_of_getElem? (i := 1399) (by decide +kernel)) (tb_c (List.mem_of_getElem? (i := 70) (by decide +kernel)) (tb_c (List.mem_of_getElem? (i := 206) (by decide +kernel)) (tb_n))))) t_v_c_needRun) (tb_n)))
set_option maxHeartbeats 400000 in
set_option maxRecDepth 100000 in
/-- choice(..): nothing there: IllegalStateException -/
theorem c_choice (l : Launch) (hlt : l.stackTraces = false) (D : va_G) (h0 : Nat) (xfs : List Value) (p0 p1 : Int32) (sz : Nat) (hq : xfs[10]? = some (.int 0)) : vx_Met l yX11_choice v_c_choice ({ frames := 8, cells := 1, slots := 6, locals := 140 }) (va_Pc [.ref h0, .int p0, .int p1] (st_ D [(h0, .inr (11, xfs))] [] sz)) (va_Qi (fun (_ : Int32) (_ : Unit) => False) (fun _ _ => True) (va_A [(h0, .inr (11, xfs))] sz)) (vx_X (fun _ : Unit => True) (fun E _ _ => E = iSE) (va_A [(h0, .inr (11, xfs))] sz)) 1 6 (va_A [(h0, .inr (11, xfs))] sz) := by
  refine vx_ofW (cc := cX11_choice) (maxL := 5) (ret := (some .int)) (by decide) rfl ?_
  intro p e s m args below meth c s₁ B hml hno hv
  obtain ⟨rfl, hsz, hP, hK, hD0, hZ, hE⟩ := hv
  have hx := B.exec
  have hb := B.bytes
  have hr := B.returns
  have hts := atoms_spec (ws := v_c_choice) B.pre
  have hown : s.vm.findClass RX11 = some m.cls := findClass_of_methodNamed B.named
  have hlocks := B.notSynchronized
  subst hsz
  have hD := hD0.self (sz := s.heap.size)
  generalize hAe : va_A [(h0, .inr (11, xfs))] s.heap.size = A at hD hZ ⊢
  have hA : ∀ q : Nat, s.heap.size ≤ q → A q := fun q h => by rw [← hAe]; exact Or.inr h
  have hS : va_S A s.heap s.heap [] := va_S.rf
  have hAO := hE.2.2.2.1
  have hP : va_P D vwCl [(h0, .inr (11, xfs))] s.heap := hP
  have hl := lv_entry ([.ref h0, .int p0, .int p1]) (n := 5) (Nat.le_of_ble_eq_true rfl)
  rw [lg_entry_eq]
  generalize (lg_sl ([.ref h0, .int p0, .int p1]) ++ List.replicate (5 - (lg_sl ([.ref h0, .int p0, .int p1])).length) Slot.unset).toArray = ls at hl ⊢
  have hl : lv_has ls 5 [(0, .ref h0), (1, .int p0), (2, .int p1)] := hl
  refine lv_aload_n hx hb dX11_choice_0 rfl (lv_at hl 0 rfl) ?_
  have hPc := hP.sub (ws' := [(h0, .inr (11, xfs))]) [0] rfl
  have hDc := hD.sub (ws' := [(h0, .inr (11, xfs))]) [0] (by decide) rfl
  have hKc := hK.sub (tys' := []) [] rfl
  have hFc := va_free (wc := [(h0, .inr (11, xfs))]) hD hS hA [0] rfl
  refine vx_callv (vx_runV (As := []) (rest := []) ⟨hx, hb, hml, hown, hts⟩ (c_needRun l hlt D h0 xfs s.heap.size hq) (cwV 0 hts g_v_c_choice_0 rfl rfl rfl (by decide +kernel) ⟨Nat.le_of_ble_eq_true rfl, Nat.le_of_ble_eq_true rfl⟩) ⟨st_blind, va_recv hKc hPc (ci := 11) (q0 := 0) rfl rfl, fun U hU hW => ⟨rfl, st_call hU hW hPc hKc hDc hZ hS hFc hE⟩⟩ rfl rfl hl.1 rfl (lv_room (Nat.le_of_ble_eq_true rfl)) dX11_choice_1 ⟨Nat.le_of_ble_eq_true rfl, Nat.le_of_ble_eq_true rfl⟩) hS (fun q _ h => hFc q h) hFc (fun q _ h => hFc q h) (fun E ce q9 _ t H1 locs ht hvm hw hB hz1 hk1 hS hce hcv hcl => ?_) (fun u9 t H1 locs ht hvm hw hB hz1 hk1 hS => ?_)
  · subst hB
    exact vx_out (E := iSE) (fun x hx => (hno x hx).elim) hlocks hce hcv hcl (fun t2 h2 hvm2 => ⟨(), trivial, rfl, hS.F h2⟩) hS.2.2 (Nat.le_of_ble_eq_true rfl) (Nat.le_of_ble_eq_true rfl)
  · exact hw.elim
noncomputable def v_c_go : List Cond := .code yX11_go cX11_go 2 (some .int) :: ([] ++ ((wsV RX11 160 RX11 yX11_needRun v_c_needRun) ++ ([])))
theorem g_v_c_go_0 : GoodIn v_c_go (wsV RX11 160 RX11 yX11_needRun v_c_needRun) := goodIn_sub (fun _ h => List.mem_cons_of_mem _ (List.mem_append_right _ (List.mem_append_left _ h))) (by decide +kernel)
theorem t_v_c_go : ∀ w ∈ v_c_go, w ∈ lw_tbl := tb_c (List.mem_of_getElem? (i := 1429) (by decide +kernel)) (tb_a (tb_n) (tb_a (tb_a (tb_c (List.mem_of_getElem? (i := 1397) (by decide +kernel)) (tb_c (List.mem_of_getElem? (i := 1399) (by decide +kernel)) (tb_c (List.mem_of_getElem? (i := 70) (by decide +kernel)) (tb_c (List.mem_of_getElem? (i := 206) (by decide +kernel)) (tb_n))))) t_v_c_needRun) (tb_n)))
set_option maxHeartbeats 400000 in
set_option maxRecDepth 100000 in
/-- go(..): nothing there: IllegalStateException -/
theorem c_go (l : Launch) (hlt : l.stackTraces = false) (D : va_G) (h0 : Nat) (xfs : List Value) (p0 : Int32) (sz : Nat) (hq : xfs[10]? = some (.int 0)) : vx_Met l yX11_go v_c_go ({ frames := 8, cells := 1, slots := 6, locals := 140 }) (va_Pc [.ref h0, .int p0] (st_ D [(h0, .inr (11, xfs))] [] sz)) (va_Qi (fun (_ : Int32) (_ : Unit) => False) (fun _ _ => True) (va_A [(h0, .inr (11, xfs))] sz)) (vx_X (fun _ : Unit => True) (fun E _ _ => E = iSE) (va_A [(h0, .inr (11, xfs))] sz)) 1 6 (va_A [(h0, .inr (11, xfs))] sz) := by
  refine vx_ofW (cc := cX11_go) (maxL := 2) (ret := (some .int)) (by decide) rfl ?_
  intro p e s m args below meth c s₁ B hml hno hv
  obtain ⟨rfl, hsz, hP, hK, hD0, hZ, hE⟩ := hv
  have hx := B.exec
  have hb := B.bytes
  have hr := B.returns
  have hts := atoms_spec (ws := v_c_go) B.pre
  have hown : s.vm.findClass RX11 = some m.cls := findClass_of_methodNamed B.named
  have hlocks := B.notSynchronized
  subst hsz
  have hD := hD0.self (sz := s.heap.size)
  generalize hAe : va_A [(h0, .inr (11, xfs))] s.heap.size = A at hD hZ ⊢
  have hA : ∀ q : Nat, s.heap.size ≤ q → A q := fun q h => by rw [← hAe]; exact Or.inr h
  have hS : va_S A s.heap s.heap [] := va_S.rf
  have hAO := hE.2.2.2.1
  have hP : va_P D vwCl [(h0, .inr (11, xfs))] s.heap := hP
  have hl := lv_entry ([.ref h0, .int p0]) (n := 2) (Nat.le_of_ble_eq_true rfl)
  rw [lg_entry_eq]
  generalize (lg_sl ([.ref h0, .int p0]) ++ List.replicate (2 - (lg_sl ([.ref h0, .int p0])).length) Slot.unset).toArray = ls at hl ⊢
  have hl : lv_has ls 2 [(0, .ref h0), (1, .int p0)] := hl
  refine lv_aload_n hx hb dX11_go_0 rfl (lv_at hl 0 rfl) ?_
  have hPc := hP.sub (ws' := [(h0, .inr (11, xfs))]) [0] rfl
  have hDc := hD.sub (ws' := [(h0, .inr (11, xfs))]) [0] (by decide) rfl
  have hKc := hK.sub (tys' := []) [] rfl
  have hFc := va_free (wc := [(h0, .inr (11, xfs))]) hD hS hA [0] rfl
  refine vx_callv (vx_runV (As := []) (rest := []) ⟨hx, hb, hml, hown, hts⟩ (c_needRun l hlt D h0 xfs s.heap.size hq) (cwV 0 hts g_v_c_go_0 rfl rfl rfl (by decide +kernel) ⟨Nat.le_of_ble_eq_true rfl, Nat.le_of_ble_eq_true rfl⟩) ⟨st_blind, va_recv hKc hPc (ci := 11) (q0 := 0) rfl rfl, fun U hU hW => ⟨rfl, st_call hU hW hPc hKc hDc hZ hS hFc hE⟩⟩ rfl rfl hl.1 rfl (lv_room (Nat.le_of_ble_eq_true rfl)) dX11_go_1 ⟨Nat.le_of_ble_eq_true rfl, Nat.le_of_ble_eq_true rfl⟩) hS (fun q _ h => hFc q h) hFc (fun q _ h => hFc q h) (fun E ce q9 _ t H1 locs ht hvm hw hB hz1 hk1 hS hce hcv hcl => ?_) (fun u9 t H1 locs ht hvm hw hB hz1 hk1 hS => ?_)
  · subst hB
    exact vx_out (E := iSE) (fun x hx => (hno x hx).elim) hlocks hce hcv hcl (fun t2 h2 hvm2 => ⟨(), trivial, rfl, hS.F h2⟩) hS.2.2 (Nat.le_of_ble_eq_true rfl) (Nat.le_of_ble_eq_true rfl)
  · exact hw.elim
noncomputable def v_c_draw : List Cond := .code yX11_draw cX11_draw 6 (some .int) :: ([] ++ ((wsV RX11 160 RX11 yX11_needRun v_c_needRun) ++ ([])))
theorem g_v_c_draw_0 : GoodIn v_c_draw (wsV RX11 160 RX11 yX11_needRun v_c_needRun) := goodIn_sub (fun _ h => List.mem_cons_of_mem _ (List.mem_append_right _ (List.mem_append_left _ h))) (by decide +kernel)
theorem t_v_c_draw : ∀ w ∈ v_c_draw, w ∈ lw_tbl := tb_c (List.mem_of_getElem? (i := 1548) (by decide +kernel)) (tb_a (tb_n) (tb_a (tb_a (tb_c (List.mem_of_getElem? (i := 1397) (by decide +kernel)) (tb_c (List.mem_of_getElem? (i := 1399) (by decide +kernel)) (tb_c (List.mem_of_getElem? (i := 70) (by decide +kernel)) (tb_c (List.mem_of_getElem? (i := 206) (by decide +kernel)) (tb_n))))) t_v_c_needRun) (tb_n)))
set_option maxHeartbeats 400000 in
set_option maxRecDepth 100000 in
/-- draw(..): nothing there: IllegalStateException -/
theorem c_draw (l : Launch) (hlt : l.stackTraces = false) (D : va_G) (h0 : Nat) (xfs : List Value) (p0 p1 : Int32) (sz : Nat) (hq : xfs[10]? = some (.int 0)) : vx_Met l yX11_draw v_c_draw ({ frames := 8, cells := 1, slots := 6, locals := 140 }) (va_Pc [.ref h0, .int p0, .int p1] (st_ D [(h0, .inr (11, xfs))] [] sz)) (va_Qi (fun (_ : Int32) (_ : Unit) => False) (fun _ _ => True) (va_A [(h0, .inr (11, xfs))] sz)) (vx_X (fun _ : Unit => True) (fun E _ _ => E = iSE) (va_A [(h0, .inr (11, xfs))] sz)) 1 6 (va_A [(h0, .inr (11, xfs))] sz) := by
  refine vx_ofW (cc := cX11_draw) (maxL := 6) (ret := (some .int)) (by decide) rfl ?_
  intro p e s m args below meth c s₁ B hml hno hv
  obtain ⟨rfl, hsz, hP, hK, hD0, hZ, hE⟩ := hv
  have hx := B.exec
  have hb := B.bytes
  have hr := B.returns
  have hts := atoms_spec (ws := v_c_draw) B.pre
  have hown : s.vm.findClass RX11 = some m.cls := findClass_of_methodNamed B.named
  have hlocks := B.notSynchronized
  subst hsz
  have hD := hD0.self (sz := s.heap.size)
  generalize hAe : va_A [(h0, .inr (11, xfs))] s.heap.size = A at hD hZ ⊢
  have hA : ∀ q : Nat, s.heap.size ≤ q → A q := fun q h => by rw [← hAe]; exact Or.inr h
  have hS : va_S A s.heap s.heap [] := va_S.rf
  have hAO := hE.2.2.2.1
  have hP : va_P D vwCl [(h0, .inr (11, xfs))] s.heap := hP
  have hl := lv_entry ([.ref h0, .int p0, .int p1]) (n := 6) (Nat.le_of_ble_eq_true rfl)
  rw [lg_entry_eq]
  generalize (lg_sl ([.ref h0, .int p0, .int p1]) ++ List.replicate (6 - (lg_sl ([.ref h0, .int p0, .int p1])).length) Slot.unset).toArray = ls at hl ⊢
  have hl : lv_has ls 6 [(0, .ref h0), (1, .int p0), (2, .int p1)] := hl
  refine lv_aload_n hx hb dX11_draw_0 rfl (lv_at hl 0 rfl) ?_
  have hPc := hP.sub (ws' := [(h0, .inr (11, xfs))]) [0] rfl
  have hDc := hD.sub (ws' := [(h0, .inr (11, xfs))]) [0] (by decide) rfl
  have hKc := hK.sub (tys' := []) [] rfl
  have hFc := va_free (wc := [(h0, .inr (11, xfs))]) hD hS hA [0] rfl
  refine vx_callv (vx_runV (As := []) (rest := []) ⟨hx, hb, hml, hown, hts⟩ (c_needRun l hlt D h0 xfs s.heap.size hq) (cwV 0 hts g_v_c_draw_0 rfl rfl rfl (by decide +kernel) ⟨Nat.le_of_ble_eq_true rfl, Nat.le_of_ble_eq_true rfl⟩) ⟨st_blind, va_recv hKc hPc (ci := 11) (q0 := 0) rfl rfl, fun U hU hW => ⟨rfl, st_call hU hW hPc hKc hDc hZ hS hFc hE⟩⟩ rfl rfl hl.1 rfl (lv_room (Nat.le_of_ble_eq_true rfl)) dX11_draw_1 ⟨Nat.le_of_ble_eq_true rfl, Nat.le_of_ble_eq_true rfl⟩) hS (fun q _ h => hFc q h) hFc (fun q _ h => hFc q h) (fun E ce q9 _ t H1 locs ht hvm hw hB hz1 hk1 hS hce hcv hcl => ?_) (fun u9 t H1 locs ht hvm hw hB hz1 hk1 hS => ?_)
  · subst hB
    exact vx_out (E := iSE) (fun x hx => (hno x hx).elim) hlocks hce hcv hcl (fun t2 h2 hvm2 => ⟨(), trivial, rfl, hS.F h2⟩) hS.2.2 (Nat.le_of_ble_eq_true rfl) (Nat.le_of_ble_eq_true rfl)
  · exact hw.elim
noncomputable def v_c_again : List Cond := .code yX11_again cX11_again 3 (some .int) :: ([] ++ ((wsV RX11 160 RX11 yX11_needRun v_c_needRun) ++ ([])))
theorem g_v_c_again_0 : GoodIn v_c_again (wsV RX11 160 RX11 yX11_needRun v_c_needRun) := goodIn_sub (fun _ h => List.mem_cons_of_mem _ (List.mem_append_right _ (List.mem_append_left _ h))) (by decide +kernel)
theorem t_v_c_again : ∀ w ∈ v_c_again, w ∈ lw_tbl := tb_c (List.mem_of_getElem? (i := 1557) (by decide +kernel)) (tb_a (tb_n) (tb_a (tb_a (tb_c (List.mem_of_getElem? (i := 1397) (by decide +kernel)) (tb_c (List.mem_of_getElem? (i := 1399) (by decide +kernel)) (tb_c (List.mem_of_getElem? (i := 70) (by decide +kernel)) (tb_c (List.mem_of_getElem? (i := 206) (by decide +kernel)) (tb_n))))) t_v_c_needRun) (tb_n)))
set_option maxHeartbeats 400000 in
set_option maxRecDepth 100000 in
/-- again(..): nothing there: IllegalStateException -/
theorem c_again (l : Launch) (hlt : l.stackTraces = false) (D : va_G) (h0 : Nat) (xfs : List Value) (p0 : Int32) (sz : Nat) (hq : xfs[10]? = some (.int 0)) : vx_Met l yX11_again v_c_again ({ frames := 8, cells := 1, slots := 6, locals := 140 }) (va_Pc [.ref h0, .int p0] (st_ D [(h0, .inr (11, xfs))] [] sz)) (va_Qi (fun (_ : Int32) (_ : Unit) => False) (fun _ _ => True) (va_A [(h0, .inr (11, xfs))] sz)) (vx_X (fun _ : Unit => True) (fun E _ _ => E = iSE) (va_A [(h0, .inr (11, xfs))] sz)) 1 6 (va_A [(h0, .inr (11, xfs))] sz) := by
  refine vx_ofW (cc := cX11_again) (maxL := 3) (ret := (some .int)) (by decide) rfl ?_
  intro p e s m args below meth c s₁ B hml hno hv
  obtain ⟨rfl, hsz, hP, hK, hD0, hZ, hE⟩ := hv
  have hx := B.exec
  have hb := B.bytes
  have hr := B.returns
  have hts := atoms_spec (ws := v_c_again) B.pre
  have hown : s.vm.findClass RX11 = some m.cls := findClass_of_methodNamed B.named
  have hlocks := B.notSynchronized
  subst hsz
  have hD := hD0.self (sz := s.heap.size)
  generalize hAe : va_A [(h0, .inr (11, xfs))] s.heap.size = A at hD hZ ⊢
  have hA : ∀ q : Nat, s.heap.size ≤ q → A q := fun q h => by rw [← hAe]; exact Or.inr h
  have hS : va_S A s.heap s.heap [] := va_S.rf
  have hAO := hE.2.2.2.1
  have hP : va_P D vwCl [(h0, .inr (11, xfs))] s.heap := hP
  have hl := lv_entry ([.ref h0, .int p0]) (n := 3) (Nat.le_of_ble_eq_true rfl)
  rw [lg_entry_eq]
  generalize (lg_sl ([.ref h0, .int p0]) ++ List.replicate (3 - (lg_sl ([.ref h0, .int p0])).length) Slot.unset).toArray = ls at hl ⊢
  have hl : lv_has ls 3 [(0, .ref h0), (1, .int p0)] := hl
  refine lv_aload_n hx hb dX11_again_0 rfl (lv_at hl 0 rfl) ?_
  have hPc := hP.sub (ws' := [(h0, .inr (11, xfs))]) [0] rfl
  have hDc := hD.sub (ws' := [(h0, .inr (11, xfs))]) [0] (by decide) rfl
  have hKc := hK.sub (tys' := []) [] rfl
  have hFc := va_free (wc := [(h0, .inr (11, xfs))]) hD hS hA [0] rfl
  refine vx_callv (vx_runV (As := []) (rest := []) ⟨hx, hb, hml, hown, hts⟩ (c_needRun l hlt D h0 xfs s.heap.size hq) (cwV 0 hts g_v_c_again_0 rfl rfl rfl (by decide +kernel) ⟨Nat.le_of_ble_eq_true rfl, Nat.le_of_ble_eq_true rfl⟩) ⟨st_blind, va_recv hKc hPc (ci := 11) (q0 := 0) rfl rfl, fun U hU hW => ⟨rfl, st_call hU hW hPc hKc hDc hZ hS hFc hE⟩⟩ rfl rfl hl.1 rfl (lv_room (Nat.le_of_ble_eq_true rfl)) dX11_again_1 ⟨Nat.le_of_ble_eq_true rfl, Nat.le_of_ble_eq_true rfl⟩) hS (fun q _ h => hFc q h) hFc (fun q _ h => hFc q h) (fun E ce q9 _ t H1 locs ht hvm hw hB hz1 hk1 hS hce hcv hcl => ?_) (fun u9 t H1 locs ht hvm hw hB hz1 hk1 hS => ?_)
  · subst hB
    exact vx_out (E := iSE) (fun x hx => (hno x hx).elim) hlocks hce hcv hcl (fun t2 h2 hvm2 => ⟨(), trivial, rfl, hS.F h2⟩) hS.2.2 (Nat.le_of_ble_eq_true rfl) (Nat.le_of_ble_eq_true rfl)
  · exact hw.elim
noncomputable def v_c_run : List Cond := .code yX11_run cX11_run 2 (some .int) :: ([] ++ ((wsV RX11 160 RX11 yX11_needRun v_c_needRun) ++ ([])))
theorem g_v_c_run_0 : GoodIn v_c_run (wsV RX11 160 RX11 yX11_needRun v_c_needRun) := goodIn_sub (fun _ h => List.mem_cons_of_mem _ (List.mem_append_right _ (List.mem_append_left _ h))) (by decide +kernel)
theorem t_v_c_run : ∀ w ∈ v_c_run, w ∈ lw_tbl := tb_c (List.mem_of_getElem? (i := 1565) (by decide +kernel)) (tb_a (tb_n) (tb_a (tb_a (tb_c (List.mem_of_getElem? (i := 1397) (by decide +kernel)) (tb_c (List.mem_of_getElem? (i := 1399) (by decide +kernel)) (tb_c (List.mem_of_getElem? (i := 70) (by decide +kernel)) (tb_c (List.mem_of_getElem? (i := 206) (by decide +kernel)) (tb_n))))) t_v_c_needRun) (tb_n)))
set_option maxHeartbeats 400000 in
set_option maxRecDepth 100000 in
/-- run(..): nothing there: IllegalStateException -/
theorem c_run (l : Launch) (hlt : l.stackTraces = false) (D : va_G) (h0 : Nat) (xfs : List Value) (p0 : Int32) (sz : Nat) (hq : xfs[10]? = some (.int 0)) : vx_Met l yX11_run v_c_run ({ frames := 8, cells := 1, slots := 6, locals := 140 }) (va_Pc [.ref h0, .int p0] (st_ D [(h0, .inr (11, xfs))] [] sz)) (va_Qi (fun (_ : Int32) (_ : Unit) => False) (fun _ _ => True) (va_A [(h0, .inr (11, xfs))] sz)) (vx_X (fun _ : Unit => True) (fun E _ _ => E = iSE) (va_A [(h0, .inr (11, xfs))] sz)) 1 6 (va_A [(h0, .inr (11, xfs))] sz) := by
  refine vx_ofW (cc := cX11_run) (maxL := 2) (ret := (some .int)) (by decide) rfl ?_
  intro p e s m args below meth c s₁ B hml hno hv
  obtain ⟨rfl, hsz, hP, hK, hD0, hZ, hE⟩ := hv
  have hx := B.exec
  have hb := B.bytes
  have hr := B.returns
  have hts := atoms_spec (ws := v_c_run) B.pre
  have hown : s.vm.findClass RX11 = some m.cls := findClass_of_methodNamed B.named
  have hlocks := B.notSynchronized
  subst hsz
  have hD := hD0.self (sz := s.heap.size)
  generalize hAe : va_A [(h0, .inr (11, xfs))] s.heap.size = A at hD hZ ⊢
  have hA : ∀ q : Nat, s.heap.size ≤ q → A q := fun q h => by rw [← hAe]; exact Or.inr h
  have hS : va_S A s.heap s.heap [] := va_S.rf
  have hAO := hE.2.2.2.1
  have hP : va_P D vwCl [(h0, .inr (11, xfs))] s.heap := hP
  have hl := lv_entry ([.ref h0, .int p0]) (n := 2) (Nat.le_of_ble_eq_true rfl)
  rw [lg_entry_eq]
  generalize (lg_sl ([.ref h0, .int p0]) ++ List.replicate (2 - (lg_sl ([.ref h0, .int p0])).length) Slot.unset).toArray = ls at hl ⊢
  have hl : lv_has ls 2 [(0, .ref h0), (1, .int p0)] := hl
  refine lv_aload_n hx hb dX11_run_0 rfl (lv_at hl 0 rfl) ?_
  have hPc := hP.sub (ws' := [(h0, .inr (11, xfs))]) [0] rfl
  have hDc := hD.sub (ws' := [(h0, .inr (11, xfs))]) [0] (by decide) rfl
  have hKc := hK.sub (tys' := []) [] rfl
  have hFc := va_free (wc := [(h0, .inr (11, xfs))]) hD hS hA [0] rfl
  refine vx_callv (vx_runV (As := []) (rest := []) ⟨hx, hb, hml, hown, hts⟩ (c_needRun l hlt D h0 xfs s.heap.size hq) (cwV 0 hts g_v_c_run_0 rfl rfl rfl (by decide +kernel) ⟨Nat.le_of_ble_eq_true rfl, Nat.le_of_ble_eq_true rfl⟩) ⟨st_blind, va_recv hKc hPc (ci := 11) (q0 := 0) rfl rfl, fun U hU hW => ⟨rfl, st_call hU hW hPc hKc hDc hZ hS hFc hE⟩⟩ rfl rfl hl.1 rfl (lv_room (Nat.le_of_ble_eq_true rfl)) dX11_run_1 ⟨Nat.le_of_ble_eq_true rfl, Nat.le_of_ble_eq_true rfl⟩) hS (fun q _ h => hFc q h) hFc (fun q _ h => hFc q h) (fun E ce q9 _ t H1 locs ht hvm hw hB hz1 hk1 hS hce hcv hcl => ?_) (fun u9 t H1 locs ht hvm hw hB hz1 hk1 hS => ?_)
  · subst hB
    exact vx_out (E := iSE) (fun x hx => (hno x hx).elim) hlocks hce hcv hcl (fun t2 h2 hvm2 => ⟨(), trivial, rfl, hS.F h2⟩) hS.2.2 (Nat.le_of_ble_eq_true rfl) (Nat.le_of_ble_eq_true rfl)
  · exact hw.elim
noncomputable def v_c_cell : List Cond := .code yX11_cell cX11_cell 2 (some .int) :: ([] ++ ((wsV RX11 160 RX11 yX11_needRun v_c_needRun) ++ ([])))
theorem g_v_c_cell_0 : GoodIn v_c_cell (wsV RX11 160 RX11 yX11_needRun v_c_needRun) := goodIn_sub (fun _ h => List.mem_cons_of_mem _ (List.mem_append_right _ (List.mem_append_left _ h))) (by decide +kernel)
theorem t_v_c_cell : ∀ w ∈ v_c_cell, w ∈ lw_tbl := tb_c (List.mem_of_getElem? (i := 1588) (by decide +kernel)) (tb_a (tb_n) (tb_a (tb_a (tb_c (List.mem_of_getElem? (i := 1397) (by decide +kernel)) (tb_c (List.mem_of_getElem? (i := 1399) (by decide +kernel)) (tb_c (List.mem_of_getElem? (i := 70) (by decide +kernel)) (tb_c (List.mem_of_getElem? (i := 206) (by decide +kernel)) (tb_n))))) t_v_c_needRun) (tb_n)))
set_option maxHeartbeats 400000 in
set_option maxRecDepth 100000 in
/-- cell(..): nothing there: IllegalStateException -/
theorem c_cell (l : Launch) (hlt : l.stackTraces = false) (D : va_G) (h0 : Nat) (xfs : List Value) (p0 : Int32) (sz : Nat) (hq : xfs[10]? = some (.int 0)) : vx_Met l yX11_cell v_c_cell ({ frames := 8, cells := 1, slots := 6, locals := 140 }) (va_Pc [.ref h0, .int p0] (st_ D [(h0, .inr (11, xfs))] [] sz)) (va_Qi (fun (_ : Int32) (_ : Unit) => False) (fun _ _ => True) (va_A [(h0, .inr (11, xfs))] sz)) (vx_X (fun _ : Unit => True) (fun E _ _ => E = iSE) (va_A [(h0, .inr (11, xfs))] sz)) 1 6 (va_A [(h0, .inr (11, xfs))] sz) := by
  refine vx_ofW (cc := cX11_cell) (maxL := 2) (ret := (some .int)) (by decide) rfl ?_
  intro p e s m args below meth c s₁ B hml hno hv
  obtain ⟨rfl, hsz, hP, hK, hD0, hZ, hE⟩ := hv
  have hx := B.exec
  have hb := B.bytes
  have hr := B.returns
  have hts := atoms_spec (ws := v_c_cell) B.pre
  have hown : s.vm.findClass RX11 = some m.cls := findClass_of_methodNamed B.named
  have hlocks := B.notSynchronized
  subst hsz
  have hD := hD0.self (sz := s.heap.size)
  generalize hAe : va_A [(h0, .inr (11, xfs))] s.heap.size = A at hD hZ ⊢
  have hA : ∀ q : Nat, s.heap.size ≤ q → A q := fun q h => by rw [← hAe]; exact Or.inr h
  have hS : va_S A s.heap s.heap [] := va_S.rf
  have hAO := hE.2.2.2.1
  have hP : va_P D vwCl [(h0, .inr (11, xfs))] s.heap := hP
  have hl := lv_entry ([.ref h0, .int p0]) (n := 2) (Nat.le_of_ble_eq_true rfl)
  rw [lg_entry_eq]
  generalize (lg_sl ([.ref h0, .int p0]) ++ List.replicate (2 - (lg_sl ([.ref h0, .int p0])).length) Slot.unset).toArray = ls at hl ⊢
  have hl : lv_has ls 2 [(0, .ref h0), (1, .int p0)] := hl
  refine lv_aload_n hx hb dX11_cell_0 rfl (lv_at hl 0 rfl) ?_
  have hPc := hP.sub (ws' := [(h0, .inr (11, xfs))]) [0] rfl
  have hDc := hD.sub (ws' := [(h0, .inr (11, xfs))]) [0] (by decide) rfl
  have hKc := hK.sub (tys' := []) [] rfl
  have hFc := va_free (wc := [(h0, .inr (11, xfs))]) hD hS hA [0] rfl
  refine vx_callv (vx_runV (As := []) (rest := []) ⟨hx, hb, hml, hown, hts⟩ (c_needRun l hlt D h0 xfs s.heap.size hq) (cwV 0 hts g_v_c_cell_0 rfl rfl rfl (by decide +kernel) ⟨Nat.le_of_ble_eq_true rfl, Nat.le_of_ble_eq_true rfl⟩) ⟨st_blind, va_recv hKc hPc (ci := 11) (q0 := 0) rfl rfl, fun U hU hW => ⟨rfl, st_call hU hW hPc hKc hDc hZ hS hFc hE⟩⟩ rfl rfl hl.1 rfl (lv_room (Nat.le_of_ble_eq_true rfl)) dX11_cell_1 ⟨Nat.le_of_ble_eq_true rfl, Nat.le_of_ble_eq_true rfl⟩) hS (fun q _ h => hFc q h) hFc (fun q _ h => hFc q h) (fun E ce q9 _ t H1 locs ht hvm hw hB hz1 hk1 hS hce hcv hcl => ?_) (fun u9 t H1 locs ht hvm hw hB hz1 hk1 hS => ?_)
  · subst hB
    exact vx_out (E := iSE) (fun x hx => (hno x hx).elim) hlocks hce hcv hcl (fun t2 h2 hvm2 => ⟨(), trivial, rfl, hS.F h2⟩) hS.2.2 (Nat.le_of_ble_eq_true rfl) (Nat.le_of_ble_eq_true rfl)
  · exact hw.elim
noncomputable def v_c_seen : List Cond := .code yX11_seen cX11_seen 3 (some .int) :: ([] ++ ((wsV RX11 160 RX11 yX11_needRun v_c_needRun) ++ ([])))
theorem g_v_c_seen_0 : GoodIn v_c_seen (wsV RX11 160 RX11 yX11_needRun v_c_needRun) := goodIn_sub (fun _ h => List.mem_cons_of_mem _ (List.mem_append_right _ (List.mem_append_left _ h))) (by decide +kernel)
theorem t_v_c_seen : ∀ w ∈ v_c_seen, w ∈ lw_tbl := tb_c (List.mem_of_getElem? (i := 1595) (by decide +kernel)) (tb_a (tb_n) (tb_a (tb_a (tb_c (List.mem_of_getElem? (i := 1397) (by decide +kernel)) (tb_c (List.mem_of_getElem? (i := 1399) (by decide +kernel)) (tb_c (List.mem_of_getElem? (i := 70) (by decide +kernel)) (tb_c (List.mem_of_getElem? (i := 206) (by decide +kernel)) (tb_n))))) t_v_c_needRun) (tb_n)))
set_option maxHeartbeats 400000 in
set_option maxRecDepth 100000 in
/-- seen(..): nothing there: IllegalStateException -/
theorem c_seen (l : Launch) (hlt : l.stackTraces = false) (D : va_G) (h0 : Nat) (xfs : List Value) (p0 p1 : Int32) (sz : Nat) (hq : xfs[10]? = some (.int 0)) : vx_Met l yX11_seen v_c_seen ({ frames := 8, cells := 1, slots := 6, locals := 140 }) (va_Pc [.ref h0, .int p0, .int p1] (st_ D [(h0, .inr (11, xfs))] [] sz)) (va_Qi (fun (_ : Int32) (_ : Unit) => False) (fun _ _ => True) (va_A [(h0, .inr (11, xfs))] sz)) (vx_X (fun _ : Unit => True) (fun E _ _ => E = iSE) (va_A [(h0, .inr (11, xfs))] sz)) 1 6 (va_A [(h0, .inr (11, xfs))] sz) := by
  refine vx_ofW (cc := cX11_seen) (maxL := 3) (ret := (some .int)) (by decide) rfl ?_
  intro p e s m args below meth c s₁ B hml hno hv
  obtain ⟨rfl, hsz, hP, hK, hD0, hZ, hE⟩ := hv
  have hx := B.exec
  have hb := B.bytes
  have hr := B.returns
  have hts := atoms_spec (ws := v_c_seen) B.pre
  have hown : s.vm.findClass RX11 = some m.cls := findClass_of_methodNamed B.named
  have hlocks := B.notSynchronized
  subst hsz
  have hD := hD0.self (sz := s.heap.size)
  generalize hAe : va_A [(h0, .inr (11, xfs))] s.heap.size = A at hD hZ ⊢
  have hA : ∀ q : Nat, s.heap.size ≤ q → A q := fun q h => by rw [← hAe]; exact Or.inr h
  have hS : va_S A s.heap s.heap [] := va_S.rf
  have hAO := hE.2.2.2.1
  have hP : va_P D vwCl [(h0, .inr (11, xfs))] s.heap := hP
  have hl := lv_entry ([.ref h0, .int p0, .int p1]) (n := 3) (Nat.le_of_ble_eq_true rfl)
  rw [lg_entry_eq]
  generalize (lg_sl ([.ref h0, .int p0, .int p1]) ++ List.replicate (3 - (lg_sl ([.ref h0, .int p0, .int p1])).length) Slot.unset).toArray = ls at hl ⊢
  have hl : lv_has ls 3 [(0, .ref h0), (1, .int p0), (2, .int p1)] := hl
  refine lv_aload_n hx hb dX11_seen_0 rfl (lv_at hl 0 rfl) ?_
  have hPc := hP.sub (ws' := [(h0, .inr (11, xfs))]) [0] rfl
  have hDc := hD.sub (ws' := [(h0, .inr (11, xfs))]) [0] (by decide) rfl
  have hKc := hK.sub (tys' := []) [] rfl
  have hFc := va_free (wc := [(h0, .inr (11, xfs))]) hD hS hA [0] rfl
  refine vx_callv (vx_runV (As := []) (rest := []) ⟨hx, hb, hml, hown, hts⟩ (c_needRun l hlt D h0 xfs s.heap.size hq) (cwV 0 hts g_v_c_seen_0 rfl rfl rfl (by decide +kernel) ⟨Nat.le_of_ble_eq_true rfl, Nat.le_of_ble_eq_true rfl⟩) ⟨st_blind, va_recv hKc hPc (ci := 11) (q0 := 0) rfl rfl, fun U hU hW => ⟨rfl, st_call hU hW hPc hKc hDc hZ hS hFc hE⟩⟩ rfl rfl hl.1 rfl (lv_room (Nat.le_of_ble_eq_true rfl)) dX11_seen_1 ⟨Nat.le_of_ble_eq_true rfl, Nat.le_of_ble_eq_true rfl⟩) hS (fun q _ h => hFc q h) hFc (fun q _ h => hFc q h) (fun E ce q9 _ t H1 locs ht hvm hw hB hz1 hk1 hS hce hcv hcl => ?_) (fun u9 t H1 locs ht hvm hw hB hz1 hk1 hS => ?_)
  · subst hB
    exact vx_out (E := iSE) (fun x hx => (hno x hx).elim) hlocks hce hcv hcl (fun t2 h2 hvm2 => ⟨(), trivial, rfl, hS.F h2⟩) hS.2.2 (Nat.le_of_ble_eq_true rfl) (Nat.le_of_ble_eq_true rfl)
  · exact hw.elim
noncomputable def v_c_lock : List Cond := .code yX11_lock cX11_lock 3 (some .int) :: ([] ++ ((wsV RX11 160 RX11 yX11_needRun v_c_needRun) ++ ([])))
theorem g_v_c_lock_0 : GoodIn v_c_lock (wsV RX11 160 RX11 yX11_needRun v_c_needRun) := goodIn_sub (fun _ h => List.mem_cons_of_mem _ (List.mem_append_right _ (List.mem_append_left _ h))) (by decide +kernel)
theorem t_v_c_lock : ∀ w ∈ v_c_lock, w ∈ lw_tbl := tb_c (List.mem_of_getElem? (i := 1603) (by decide +kernel)) (tb_a (tb_n) (tb_a (tb_a (tb_c (List.mem_of_getElem? (i := 1397) (by decide +kernel)) (tb_c (List.mem_of_getElem? (i := 1399) (by decide +kernel)) (tb_c (List.mem_of_getElem? (i := 70) (by decide +kernel)) (tb_c (List.mem_of_getElem? (i := 206) (by decide +kernel)) (tb_n))))) t_v_c_needRun) (tb_n)))
set_option maxHeartbeats 400000 in
set_option maxRecDepth 100000 in
/-- lock(..): nothing there: IllegalStateException -/
theorem c_lock (l : Launch) (hlt : l.stackTraces = false) (D : va_G) (h0 : Nat) (xfs : List Value) (p0 p1 : Int32) (sz : Nat) (hq : xfs[10]? = some (.int 0)) : vx_Met l yX11_lock v_c_lock ({ frames := 8, cells := 1, slots := 6, locals := 140 }) (va_Pc [.ref h0, .int p0, .int p1] (st_ D [(h0, .inr (11, xfs))] [] sz)) (va_Qi (fun (_ : Int32) (_ : Unit) => False) (fun _ _ => True) (va_A [(h0, .inr (11, xfs))] sz)) (vx_X (fun _ : Unit => True) (fun E _ _ => E = iSE) (va_A [(h0, .inr (11, xfs))] sz)) 1 6 (va_A [(h0, .inr (11, xfs))] sz) := by
  refine vx_ofW (cc := cX11_lock) (maxL := 3) (ret := (some .int)) (by decide) rfl ?_
  intro p e s m args below meth c s₁ B hml hno hv
  obtain ⟨rfl, hsz, hP, hK, hD0, hZ, hE⟩ := hv
  have hx := B.exec
  have hb := B.bytes
  have hr := B.returns
  have hts := atoms_spec (ws := v_c_lock) B.pre
  have hown : s.vm.findClass RX11 = some m.cls := findClass_of_methodNamed B.named
  have hlocks := B.notSynchronized
  subst hsz
  have hD := hD0.self (sz := s.heap.size)
  generalize hAe : va_A [(h0, .inr (11, xfs))] s.heap.size = A at hD hZ ⊢
  have hA : ∀ q : Nat, s.heap.size ≤ q → A q := fun q h => by rw [← hAe]; exact Or.inr h
  have hS : va_S A s.heap s.heap [] := va_S.rf
  have hAO := hE.2.2.2.1
  have hP : va_P D vwCl [(h0, .inr (11, xfs))] s.heap := hP
  have hl := lv_entry ([.ref h0, .int p0, .int p1]) (n := 3) (Nat.le_of_ble_eq_true rfl)
  rw [lg_entry_eq]
  generalize (lg_sl ([.ref h0, .int p0, .int p1]) ++ List.replicate (3 - (lg_sl ([.ref h0, .int p0, .int p1])).length) Slot.unset).toArray = ls at hl ⊢
  have hl : lv_has ls 3 [(0, .ref h0), (1, .int p0), (2, .int p1)] := hl
  refine lv_aload_n hx hb dX11_lock_0 rfl (lv_at hl 0 rfl) ?_
  have hPc := hP.sub (ws' := [(h0, .inr (11, xfs))]) [0] rfl
  have hDc := hD.sub (ws' := [(h0, .inr (11, xfs))]) [0] (by decide) rfl
  have hKc := hK.sub (tys' := []) [] rfl
  have hFc := va_free (wc := [(h0, .inr (11, xfs))]) hD hS hA [0] rfl
  refine vx_callv (vx_runV (As := []) (rest := []) ⟨hx, hb, hml, hown, hts⟩ (c_needRun l hlt D h0 xfs s.heap.size hq) (cwV 0 hts g_v_c_lock_0 rfl rfl rfl (by decide +kernel) ⟨Nat.le_of_ble_eq_true rfl, Nat.le_of_ble_eq_true rfl⟩) ⟨st_blind, va_recv hKc hPc (ci := 11) (q0 := 0) rfl rfl, fun U hU hW => ⟨rfl, st_call hU hW hPc hKc hDc hZ hS hFc hE⟩⟩ rfl rfl hl.1 rfl (lv_room (Nat.le_of_ble_eq_true rfl)) dX11_lock_1 ⟨Nat.le_of_ble_eq_true rfl, Nat.le_of_ble_eq_true rfl⟩) hS (fun q _ h => hFc q h) hFc (fun q _ h => hFc q h) (fun E ce q9 _ t H1 locs ht hvm hw hB hz1 hk1 hS hce hcv hcl => ?_) (fun u9 t H1 locs ht hvm hw hB hz1 hk1 hS => ?_)
  · subst hB
    exact vx_out (E := iSE) (fun x hx => (hno x hx).elim) hlocks hce hcv hcl (fun t2 h2 hvm2 => ⟨(), trivial, rfl, hS.F h2⟩) hS.2.2 (Nat.le_of_ble_eq_true rfl) (Nat.le_of_ble_eq_true rfl)
  · exact hw.elim
noncomputable def v_c_thread : List Cond := .code yX11_thread cX11_thread 3 (some .int) :: ([] ++ ((wsV RX11 160 RX11 yX11_needRun v_c_needRun) ++ ([])))
theorem g_v_c_thread_0 : GoodIn v_c_thread (wsV RX11 160 RX11 yX11_needRun v_c_needRun) := goodIn_sub (fun _ h => List.mem_cons_of_mem _ (List.mem_append_right _ (List.mem_append_left _ h))) (by decide +kernel)
theorem t_v_c_thread : ∀ w ∈ v_c_thread, w ∈ lw_tbl := tb_c (List.mem_of_getElem? (i := 1619) (by decide +kernel)) (tb_a (tb_n) (tb_a (tb_a (tb_c (List.mem_of_getElem? (i := 1397) (by decide +kernel)) (tb_c (List.mem_of_getElem? (i := 1399) (by decide +kernel)) (tb_c (List.mem_of_getElem? (i := 70) (by decide +kernel)) (tb_c (List.mem_of_getElem? (i := 206) (by decide +kernel)) (tb_n))))) t_v_c_needRun) (tb_n)))
set_option maxHeartbeats 400000 in
set_option maxRecDepth 100000 in
/-- thread(..): nothing there: IllegalStateException -/
theorem c_thread (l : Launch) (hlt : l.stackTraces = false) (D : va_G) (h0 : Nat) (xfs : List Value) (p0 p1 : Int32) (sz : Nat) (hq : xfs[10]? = some (.int 0)) : vx_Met l yX11_thread v_c_thread ({ frames := 8, cells := 1, slots := 6, locals := 140 }) (va_Pc [.ref h0, .int p0, .int p1] (st_ D [(h0, .inr (11, xfs))] [] sz)) (va_Qi (fun (_ : Int32) (_ : Unit) => False) (fun _ _ => True) (va_A [(h0, .inr (11, xfs))] sz)) (vx_X (fun _ : Unit => True) (fun E _ _ => E = iSE) (va_A [(h0, .inr (11, xfs))] sz)) 1 6 (va_A [(h0, .inr (11, xfs))] sz) := by
  refine vx_ofW (cc := cX11_thread) (maxL := 3) (ret := (some .int)) (by decide) rfl ?_
  intro p e s m args below meth c s₁ B hml hno hv
  obtain ⟨rfl, hsz, hP, hK, hD0, hZ, hE⟩ := hv
  have hx := B.exec
  have hb := B.bytes
  have hr := B.returns
  have hts := atoms_spec (ws := v_c_thread) B.pre
  have hown : s.vm.findClass RX11 = some m.cls := findClass_of_methodNamed B.named
  have hlocks := B.notSynchronized
  subst hsz
  have hD := hD0.self (sz := s.heap.size)
  generalize hAe : va_A [(h0, .inr (11, xfs))] s.heap.size = A at hD hZ ⊢
  have hA : ∀ q : Nat, s.heap.size ≤ q → A q := fun q h => by rw [← hAe]; exact Or.inr h
  have hS : va_S A s.heap s.heap [] := va_S.rf
  have hAO := hE.2.2.2.1
  have hP : va_P D vwCl [(h0, .inr (11, xfs))] s.heap := hP
  have hl := lv_entry ([.ref h0, .int p0, .int p1]) (n := 3) (Nat.le_of_ble_eq_true rfl)
  rw [lg_entry_eq]
  generalize (lg_sl ([.ref h0, .int p0, .int p1]) ++ List.replicate (3 - (lg_sl ([.ref h0, .int p0, .int p1])).length) Slot.unset).toArray = ls at hl ⊢
  have hl : lv_has ls 3 [(0, .ref h0), (1, .int p0), (2, .int p1)] := hl
  refine lv_aload_n hx hb dX11_thread_0 rfl (lv_at hl 0 rfl) ?_
  have hPc := hP.sub (ws' := [(h0, .inr (11, xfs))]) [0] rfl
  have hDc := hD.sub (ws' := [(h0, .inr (11, xfs))]) [0] (by decide) rfl
  have hKc := hK.sub (tys' := []) [] rfl
  have hFc := va_free (wc := [(h0, .inr (11, xfs))]) hD hS hA [0] rfl
  refine vx_callv (vx_runV (As := []) (rest := []) ⟨hx, hb, hml, hown, hts⟩ (c_needRun l hlt D h0 xfs s.heap.size hq) (cwV 0 hts g_v_c_thread_0 rfl rfl rfl (by decide +kernel) ⟨Nat.le_of_ble_eq_true rfl, Nat.le_of_ble_eq_true rfl⟩) ⟨st_blind, va_recv hKc hPc (ci := 11) (q0 := 0) rfl rfl, fun U hU hW => ⟨rfl, st_call hU hW hPc hKc hDc hZ hS hFc hE⟩⟩ rfl rfl hl.1 rfl (lv_room (Nat.le_of_ble_eq_true rfl)) dX11_thread_1 ⟨Nat.le_of_ble_eq_true rfl, Nat.le_of_ble_eq_true rfl⟩) hS (fun q _ h => hFc q h) hFc (fun q _ h => hFc q h) (fun E ce q9 _ t H1 locs ht hvm hw hB hz1 hk1 hS hce hcv hcl => ?_) (fun u9 t H1 locs ht hvm hw hB hz1 hk1 hS => ?_)
  · subst hB
    exact vx_out (E := iSE) (fun x hx => (hno x hx).elim) hlocks hce hcv hcl (fun t2 h2 hvm2 => ⟨(), trivial, rfl, hS.F h2⟩) hS.2.2 (Nat.le_of_ble_eq_true rfl) (Nat.le_of_ble_eq_true rfl)
  · exact hw.elim
noncomputable def v_c_local : List Cond := .code yX11_local cX11_local 3 (some .int) :: ([] ++ ((wsV RX11 160 RX11 yX11_needRun v_c_needRun) ++ ([])))
theorem g_v_c_local_0 : GoodIn v_c_local (wsV RX11 160 RX11 yX11_needRun v_c_needRun) := goodIn_sub (fun _ h => List.mem_cons_of_mem _ (List.mem_append_right _ (List.mem_append_left _ h))) (by decide +kernel)
theorem t_v_c_local : ∀ w ∈ v_c_local, w ∈ lw_tbl := tb_c (List.mem_of_getElem? (i := 1632) (by decide +kernel)) (tb_a (tb_n) (tb_a (tb_a (tb_c (List.mem_of_getElem? (i := 1397) (by decide +kernel)) (tb_c (List.mem_of_getElem? (i := 1399) (by decide +kernel)) (tb_c (List.mem_of_getElem? (i := 70) (by decide +kernel)) (tb_c (List.mem_of_getElem? (i := 206) (by decide +kernel)) (tb_n))))) t_v_c_needRun) (tb_n)))
set_option maxHeartbeats 400000 in
set_option maxRecDepth 100000 in
/-- local(..): nothing there: IllegalStateException -/
theorem c_local (l : Launch) (hlt : l.stackTraces = false) (D : va_G) (h0 : Nat) (xfs : List Value) (p0 p1 : Int32) (sz : Nat) (hq : xfs[10]? = some (.int 0)) : vx_Met l yX11_local v_c_local ({ frames := 8, cells := 1, slots := 6, locals := 140 }) (va_Pc [.ref h0, .int p0, .int p1] (st_ D [(h0, .inr (11, xfs))] [] sz)) (va_Qi (fun (_ : Int32) (_ : Unit) => False) (fun _ _ => True) (va_A [(h0, .inr (11, xfs))] sz)) (vx_X (fun _ : Unit => True) (fun E _ _ => E = iSE) (va_A [(h0, .inr (11, xfs))] sz)) 1 6 (va_A [(h0, .inr (11, xfs))] sz) := by
  refine vx_ofW (cc := cX11_local) (maxL := 3) (ret := (some .int)) (by decide) rfl ?_
  intro p e s m args below meth c s₁ B hml hno hv
  obtain ⟨rfl, hsz, hP, hK, hD0, hZ, hE⟩ := hv
  have hx := B.exec
  have hb := B.bytes
  have hr := B.returns
  have hts := atoms_spec (ws := v_c_local) B.pre
  have hown : s.vm.findClass RX11 = some m.cls := findClass_of_methodNamed B.named
  have hlocks := B.notSynchronized
  subst hsz
  have hD := hD0.self (sz := s.heap.size)
  generalize hAe : va_A [(h0, .inr (11, xfs))] s.heap.size = A at hD hZ ⊢
  have hA : ∀ q : Nat, s.heap.size ≤ q → A q := fun q h => by rw [← hAe]; exact Or.inr h
  have hS : va_S A s.heap s.heap [] := va_S.rf
  have hAO := hE.2.2.2.1
  have hP : va_P D vwCl [(h0, .inr (11, xfs))] s.heap := hP
  have hl := lv_entry ([.ref h0, .int p0, .int p1]) (n := 3) (Nat.le_of_ble_eq_true rfl)
  rw [lg_entry_eq]
  generalize (lg_sl ([.ref h0, .int p0, .int p1]) ++ List.replicate (3 - (lg_sl ([.ref h0, .int p0, .int p1])).length) Slot.unset).toArray = ls at hl ⊢
  have hl : lv_has ls 3 [(0, .ref h0), (1, .int p0), (2, .int p1)] := hl
  refine lv_aload_n hx hb dX11_local_0 rfl (lv_at hl 0 rfl) ?_
  have hPc := hP.sub (ws' := [(h0, .inr (11, xfs))]) [0] rfl
  have hDc := hD.sub (ws' := [(h0, .inr (11, xfs))]) [0] (by decide) rfl
  have hKc := hK.sub (tys' := []) [] rfl
  have hFc := va_free (wc := [(h0, .inr (11, xfs))]) hD hS hA [0] rfl
  refine vx_callv (vx_runV (As := []) (rest := []) ⟨hx, hb, hml, hown, hts⟩ (c_needRun l hlt D h0 xfs s.heap.size hq) (cwV 0 hts g_v_c_local_0 rfl rfl rfl (by decide +kernel) ⟨Nat.le_of_ble_eq_true rfl, Nat.le_of_ble_eq_true rfl⟩) ⟨st_blind, va_recv hKc hPc (ci := 11) (q0 := 0) rfl rfl, fun U hU hW => ⟨rfl, st_call hU hW hPc hKc hDc hZ hS hFc hE⟩⟩ rfl rfl hl.1 rfl (lv_room (Nat.le_of_ble_eq_true rfl)) dX11_local_1 ⟨Nat.le_of_ble_eq_true rfl, Nat.le_of_ble_eq_true rfl⟩) hS (fun q _ h => hFc q h) hFc (fun q _ h => hFc q h) (fun E ce q9 _ t H1 locs ht hvm hw hB hz1 hk1 hS hce hcv hcl => ?_) (fun u9 t H1 locs ht hvm hw hB hz1 hk1 hS => ?_)
  · subst hB
    exact vx_out (E := iSE) (fun x hx => (hno x hx).elim) hlocks hce hcv hcl (fun t2 h2 hvm2 => ⟨(), trivial, rfl, hS.F h2⟩) hS.2.2 (Nat.le_of_ble_eq_true rfl) (Nat.le_of_ble_eq_true rfl)
  · exact hw.elim
noncomputable def v_c_act : List Cond := .code yX11_act cX11_act 3 (some .int) :: ([] ++ ((wsV RX11 160 RX11 yX11_needRun v_c_needRun) ++ ([])))
theorem g_v_c_act_0 : GoodIn v_c_act (wsV RX11 160 RX11 yX11_needRun v_c_needRun) := goodIn_sub (fun _ h => List.mem_cons_of_mem _ (List.mem_append_right _ (List.mem_append_left _ h))) (by decide +kernel)
theorem t_v_c_act : ∀ w ∈ v_c_act, w ∈ lw_tbl := tb_c (List.mem_of_getElem? (i := 1639) (by decide +kernel)) (tb_a (tb_n) (tb_a (tb_a (tb_c (List.mem_of_getElem? (i := 1397) (by decide +kernel)) (tb_c (List.mem_of_getElem? (i := 1399) (by decide +kernel)) (tb_c (List.mem_of_getElem? (i := 70) (by decide +kernel)) (tb_c (List.mem_of_getElem? (i := 206) (by decide +kernel)) (tb_n))))) t_v_c_needRun) (tb_n)))
set_option maxHeartbeats 400000 in
set_option maxRecDepth 100000 in
/-- act(..): nothing there: IllegalStateException -/
theorem c_act (l : Launch) (hlt : l.stackTraces = false) (D : va_G) (h0 : Nat) (xfs : List Value) (p0 p1 : Int32) (sz : Nat) (hq : xfs[10]? = some (.int 0)) : vx_Met l yX11_act v_c_act ({ frames := 8, cells := 1, slots := 6, locals := 140 }) (va_Pc [.ref h0, .int p0, .int p1] (st_ D [(h0, .inr (11, xfs))] [] sz)) (va_Qi (fun (_ : Int32) (_ : Unit) => False) (fun _ _ => True) (va_A [(h0, .inr (11, xfs))] sz)) (vx_X (fun _ : Unit => True) (fun E _ _ => E = iSE) (va_A [(h0, .inr (11, xfs))] sz)) 1 6 (va_A [(h0, .inr (11, xfs))] sz) := by
  refine vx_ofW (cc := cX11_act) (maxL := 3) (ret := (some .int)) (by decide) rfl ?_
  intro p e s m args below meth c s₁ B hml hno hv
  obtain ⟨rfl, hsz, hP, hK, hD0, hZ, hE⟩ := hv
  have hx := B.exec
  have hb := B.bytes
  have hr := B.returns
  have hts := atoms_spec (ws := v_c_act) B.pre
  have hown : s.vm.findClass RX11 = some m.cls := findClass_of_methodNamed B.named
  have hlocks := B.notSynchronized
  subst hsz
  have hD := hD0.self (sz := s.heap.size)
  generalize hAe : va_A [(h0, .inr (11, xfs))] s.heap.size = A at hD hZ ⊢
  have hA : ∀ q : Nat, s.heap.size ≤ q → A q := fun q h => by rw [← hAe]; exact Or.inr h
  have hS : va_S A s.heap s.heap [] := va_S.rf
  have hAO := hE.2.2.2.1
  have hP : va_P D vwCl [(h0, .inr (11, xfs))] s.heap := hP
  have hl := lv_entry ([.ref h0, .int p0, .int p1]) (n := 3) (Nat.le_of_ble_eq_true rfl)
  rw [lg_entry_eq]
  generalize (lg_sl ([.ref h0, .int p0, .int p1]) ++ List.replicate (3 - (lg_sl ([.ref h0, .int p0, .int p1])).length) Slot.unset).toArray = ls at hl ⊢
  have hl : lv_has ls 3 [(0, .ref h0), (1, .int p0), (2, .int p1)] := hl
  refine lv_aload_n hx hb dX11_act_0 rfl (lv_at hl 0 rfl) ?_
  have hPc := hP.sub (ws' := [(h0, .inr (11, xfs))]) [0] rfl
  have hDc := hD.sub (ws' := [(h0, .inr (11, xfs))]) [0] (by decide) rfl
  have hKc := hK.sub (tys' := []) [] rfl
  have hFc := va_free (wc := [(h0, .inr (11, xfs))]) hD hS hA [0] rfl
  refine vx_callv (vx_runV (As := []) (rest := []) ⟨hx, hb, hml, hown, hts⟩ (c_needRun l hlt D h0 xfs s.heap.size hq) (cwV 0 hts g_v_c_act_0 rfl rfl rfl (by decide +kernel) ⟨Nat.le_of_ble_eq_true rfl, Nat.le_of_ble_eq_true rfl⟩) ⟨st_blind, va_recv hKc hPc (ci := 11) (q0 := 0) rfl rfl, fun U hU hW => ⟨rfl, st_call hU hW hPc hKc hDc hZ hS hFc hE⟩⟩ rfl rfl hl.1 rfl (lv_room (Nat.le_of_ble_eq_true rfl)) dX11_act_1 ⟨Nat.le_of_ble_eq_true rfl, Nat.le_of_ble_eq_true rfl⟩) hS (fun q _ h => hFc q h) hFc (fun q _ h => hFc q h) (fun E ce q9 _ t H1 locs ht hvm hw hB hz1 hk1 hS hce hcv hcl => ?_) (fun u9 t H1 locs ht hvm hw hB hz1 hk1 hS => ?_)
  · subst hB
    exact vx_out (E := iSE) (fun x hx => (hno x hx).elim) hlocks hce hcv hcl (fun t2 h2 hvm2 => ⟨(), trivial, rfl, hS.F h2⟩) hS.2.2 (Nat.le_of_ble_eq_true rfl) (Nat.le_of_ble_eq_true rfl)
  · exact hw.elim
noncomputable def v_c_before : List Cond := .code yX11_before cX11_before 3 (some .boolean) :: ([] ++ ((wsV RX11 160 RX11 yX11_needRun v_c_needRun) ++ ([])))
theorem g_v_c_before_0 : GoodIn v_c_before (wsV RX11 160 RX11 yX11_needRun v_c_needRun) := goodIn_sub (fun _ h => List.mem_cons_of_mem _ (List.mem_append_right _ (List.mem_append_left _ h))) (by decide +kernel)
theorem t_v_c_before : ∀ w ∈ v_c_before, w ∈ lw_tbl := tb_c (List.mem_of_getElem? (i := 1646) (by decide +kernel)) (tb_a (tb_n) (tb_a (tb_a (tb_c (List.mem_of_getElem? (i := 1397) (by decide +kernel)) (tb_c (List.mem_of_getElem? (i := 1399) (by decide +kernel)) (tb_c (List.mem_of_getElem? (i := 70) (by decide +kernel)) (tb_c (List.mem_of_getElem? (i := 206) (by decide +kernel)) (tb_n))))) t_v_c_needRun) (tb_n)))
set_option maxHeartbeats 400000 in
set_option maxRecDepth 100000 in
/-- before(..): nothing there: IllegalStateException -/
theorem c_before (l : Launch) (hlt : l.stackTraces = false) (D : va_G) (h0 : Nat) (xfs : List Value) (p0 p1 : Int32) (sz : Nat) (hq : xfs[10]? = some (.int 0)) : vx_Met l yX11_before v_c_before ({ frames := 8, cells := 1, slots := 6, locals := 140 }) (va_Pc [.ref h0, .int p0, .int p1] (st_ D [(h0, .inr (11, xfs))] [] sz)) (va_Qi (fun (_ : Int32) (_ : Unit) => False) (fun _ _ => True) (va_A [(h0, .inr (11, xfs))] sz)) (vx_X (fun _ : Unit => True) (fun E _ _ => E = iSE) (va_A [(h0, .inr (11, xfs))] sz)) 1 6 (va_A [(h0, .inr (11, xfs))] sz) := by
  refine vx_ofW (cc := cX11_before) (maxL := 3) (ret := (some .boolean)) (by decide) rfl ?_
  intro p e s m args below meth c s₁ B hml hno hv
  obtain ⟨rfl, hsz, hP, hK, hD0, hZ, hE⟩ := hv
  have hx := B.exec
  have hb := B.bytes
  have hr := B.returns
  have hts := atoms_spec (ws := v_c_before) B.pre
  have hown : s.vm.findClass RX11 = some m.cls := findClass_of_methodNamed B.named
  have hlocks := B.notSynchronized
  subst hsz
  have hD := hD0.self (sz := s.heap.size)
  generalize hAe : va_A [(h0, .inr (11, xfs))] s.heap.size = A at hD hZ ⊢
  have hA : ∀ q : Nat, s.heap.size ≤ q → A q := fun q h => by rw [← hAe]; exact Or.inr h
  have hS : va_S A s.heap s.heap [] := va_S.rf
  have hAO := hE.2.2.2.1
  have hP : va_P D vwCl [(h0, .inr (11, xfs))] s.heap := hP
  have hl := lv_entry ([.ref h0, .int p0, .int p1]) (n := 3) (Nat.le_of_ble_eq_true rfl)
  rw [lg_entry_eq]
  generalize (lg_sl ([.ref h0, .int p0, .int p1]) ++ List.replicate (3 - (lg_sl ([.ref h0, .int p0, .int p1])).length) Slot.unset).toArray = ls at hl ⊢
  have hl : lv_has ls 3 [(0, .ref h0), (1, .int p0), (2, .int p1)] := hl
  refine lv_aload_n hx hb dX11_before_0 rfl (lv_at hl 0 rfl) ?_
  have hPc := hP.sub (ws' := [(h0, .inr (11, xfs))]) [0] rfl
  have hDc := hD.sub (ws' := [(h0, .inr (11, xfs))]) [0] (by decide) rfl
  have hKc := hK.sub (tys' := []) [] rfl
  have hFc := va_free (wc := [(h0, .inr (11, xfs))]) hD hS hA [0] rfl
  refine vx_callv (vx_runV (As := []) (rest := []) ⟨hx, hb, hml, hown, hts⟩ (c_needRun l hlt D h0 xfs s.heap.size hq) (cwV 0 hts g_v_c_before_0 rfl rfl rfl (by decide +kernel) ⟨Nat.le_of_ble_eq_true rfl, Nat.le_of_ble_eq_true rfl⟩) ⟨st_blind, va_recv hKc hPc (ci := 11) (q0 := 0) rfl rfl, fun U hU hW => ⟨rfl, st_call hU hW hPc hKc hDc hZ hS hFc hE⟩⟩ rfl rfl hl.1 rfl (lv_room (Nat.le_of_ble_eq_true rfl)) dX11_before_1 ⟨Nat.le_of_ble_eq_true rfl, Nat.le_of_ble_eq_true rfl⟩) hS (fun q _ h => hFc q h) hFc (fun q _ h => hFc q h) (fun E ce q9 _ t H1 locs ht hvm hw hB hz1 hk1 hS hce hcv hcl => ?_) (fun u9 t H1 locs ht hvm hw hB hz1 hk1 hS => ?_)
  · subst hB
    exact vx_out (E := iSE) (fun x hx => (hno x hx).elim) hlocks hce hcv hcl (fun t2 h2 hvm2 => ⟨(), trivial, rfl, hS.F h2⟩) hS.2.2 (Nat.le_of_ble_eq_true rfl) (Nat.le_of_ble_eq_true rfl)
  · exact hw.elim
noncomputable def v_c_race : List Cond := .code yX11_race cX11_race 4 (some .int) :: ([] ++ ((wsV RX11 160 RX11 yX11_needRun v_c_needRun) ++ ([])))
theorem g_v_c_race_0 : GoodIn v_c_race (wsV RX11 160 RX11 yX11_needRun v_c_needRun) := goodIn_sub (fun _ h => List.mem_cons_of_mem _ (List.mem_append_right _ (List.mem_append_left _ h))) (by decide +kernel)
theorem t_v_c_race : ∀ w ∈ v_c_race, w ∈ lw_tbl := tb_c (List.mem_of_getElem? (i := 1654) (by decide +kernel)) (tb_a (tb_n) (tb_a (tb_a (tb_c (List.mem_of_getElem? (i := 1397) (by decide +kernel)) (tb_c (List.mem_of_getElem? (i := 1399) (by decide +kernel)) (tb_c (List.mem_of_getElem? (i := 70) (by decide +kernel)) (tb_c (List.mem_of_getElem? (i := 206) (by decide +kernel)) (tb_n))))) t_v_c_needRun) (tb_n)))
set_option maxHeartbeats 400000 in
set_option maxRecDepth 100000 in
/-- race(..): nothing there: IllegalStateException -/
theorem c_race (l : Launch) (hlt : l.stackTraces = false) (D : va_G) (h0 : Nat) (xfs : List Value) (p0 p1 : Int32) (sz : Nat) (hq : xfs[10]? = some (.int 0)) : vx_Met l yX11_race v_c_race ({ frames := 8, cells := 1, slots := 6, locals := 140 }) (va_Pc [.ref h0, .int p0, .int p1] (st_ D [(h0, .inr (11, xfs))] [] sz)) (va_Qi (fun (_ : Int32) (_ : Unit) => False) (fun _ _ => True) (va_A [(h0, .inr (11, xfs))] sz)) (vx_X (fun _ : Unit => True) (fun E _ _ => E = iSE) (va_A [(h0, .inr (11, xfs))] sz)) 1 6 (va_A [(h0, .inr (11, xfs))] sz) := by
  refine vx_ofW (cc := cX11_race) (maxL := 4) (ret := (some .int)) (by decide) rfl ?_
  intro p e s m args below meth c s₁ B hml hno hv
  obtain ⟨rfl, hsz, hP, hK, hD0, hZ, hE⟩ := hv
  have hx := B.exec
  have hb := B.bytes
  have hr := B.returns
  have hts := atoms_spec (ws := v_c_race) B.pre
  have hown : s.vm.findClass RX11 = some m.cls := findClass_of_methodNamed B.named
  have hlocks := B.notSynchronized
  subst hsz
  have hD := hD0.self (sz := s.heap.size)
  generalize hAe : va_A [(h0, .inr (11, xfs))] s.heap.size = A at hD hZ ⊢
  have hA : ∀ q : Nat, s.heap.size ≤ q → A q := fun q h => by rw [← hAe]; exact Or.inr h
  have hS : va_S A s.heap s.heap [] := va_S.rf
  have hAO := hE.2.2.2.1
  have hP : va_P D vwCl [(h0, .inr (11, xfs))] s.heap := hP
  have hl := lv_entry ([.ref h0, .int p0, .int p1]) (n := 4) (Nat.le_of_ble_eq_true rfl)
  rw [lg_entry_eq]
  generalize (lg_sl ([.ref h0, .int p0, .int p1]) ++ List.replicate (4 - (lg_sl ([.ref h0, .int p0, .int p1])).length) Slot.unset).toArray = ls at hl ⊢
  have hl : lv_has ls 4 [(0, .ref h0), (1, .int p0), (2, .int p1)] := hl
  refine lv_aload_n hx hb dX11_race_0 rfl (lv_at hl 0 rfl) ?_
  have hPc := hP.sub (ws' := [(h0, .inr (11, xfs))]) [0] rfl
  have hDc := hD.sub (ws' := [(h0, .inr (11, xfs))]) [0] (by decide) rfl
  have hKc := hK.sub (tys' := []) [] rfl
  have hFc := va_free (wc := [(h0, .inr (11, xfs))]) hD hS hA [0] rfl
  refine vx_callv (vx_runV (As := []) (rest := []) ⟨hx, hb, hml, hown, hts⟩ (c_needRun l hlt D h0 xfs s.heap.size hq) (cwV 0 hts g_v_c_race_0 rfl rfl rfl (by decide +kernel) ⟨Nat.le_of_ble_eq_true rfl, Nat.le_of_ble_eq_true rfl⟩) ⟨st_blind, va_recv hKc hPc (ci := 11) (q0 := 0) rfl rfl, fun U hU hW => ⟨rfl, st_call hU hW hPc hKc hDc hZ hS hFc hE⟩⟩ rfl rfl hl.1 rfl (lv_room (Nat.le_of_ble_eq_true rfl)) dX11_race_1 ⟨Nat.le_of_ble_eq_true rfl, Nat.le_of_ble_eq_true rfl⟩) hS (fun q _ h => hFc q h) hFc (fun q _ h => hFc q h) (fun E ce q9 _ t H1 locs ht hvm hw hB hz1 hk1 hS hce hcv hcl => ?_) (fun u9 t H1 locs ht hvm hw hB hz1 hk1 hS => ?_)
  · subst hB
    exact vx_out (E := iSE) (fun x hx => (hno x hx).elim) hlocks hce hcv hcl (fun t2 h2 hvm2 => ⟨(), trivial, rfl, hS.F h2⟩) hS.2.2 (Nat.le_of_ble_eq_true rfl) (Nat.le_of_ble_eq_true rfl)
  · exact hw.elim
noncomputable def v_c_linear : List Cond := .code yX11_linear cX11_linear 3 (some .int) :: ([] ++ ((wsV RX11 160 RX11 yX11_needRun v_c_needRun) ++ ([])))
theorem g_v_c_linear_0 : GoodIn v_c_linear (wsV RX11 160 RX11 yX11_needRun v_c_needRun) := goodIn_sub (fun _ h => List.mem_cons_of_mem _ (List.mem_append_right _ (List.mem_append_left _ h))) (by decide +kernel)
theorem t_v_c_linear : ∀ w ∈ v_c_linear, w ∈ lw_tbl := tb_c (List.mem_of_getElem? (i := 1669) (by decide +kernel)) (tb_a (tb_n) (tb_a (tb_a (tb_c (List.mem_of_getElem? (i := 1397) (by decide +kernel)) (tb_c (List.mem_of_getElem? (i := 1399) (by decide +kernel)) (tb_c (List.mem_of_getElem? (i := 70) (by decide +kernel)) (tb_c (List.mem_of_getElem? (i := 206) (by decide +kernel)) (tb_n))))) t_v_c_needRun) (tb_n)))
set_option maxHeartbeats 400000 in
set_option maxRecDepth 100000 in
/-- linear(..): nothing there: IllegalStateException -/
theorem c_linear (l : Launch) (hlt : l.stackTraces = false) (D : va_G) (h0 : Nat) (xfs : List Value) (p0 : Int32) (sz : Nat) (hq : xfs[10]? = some (.int 0)) : vx_Met l yX11_linear v_c_linear ({ frames := 8, cells := 1, slots := 6, locals := 140 }) (va_Pc [.ref h0, .int p0] (st_ D [(h0, .inr (11, xfs))] [] sz)) (va_Qi (fun (_ : Int32) (_ : Unit) => False) (fun _ _ => True) (va_A [(h0, .inr (11, xfs))] sz)) (vx_X (fun _ : Unit => True) (fun E _ _ => E = iSE) (va_A [(h0, .inr (11, xfs))] sz)) 1 6 (va_A [(h0, .inr (11, xfs))] sz) := by
  refine vx_ofW (cc := cX11_linear) (maxL := 3) (ret := (some .int)) (by decide) rfl ?_
  intro p e s m args below meth c s₁ B hml hno hv
  obtain ⟨rfl, hsz, hP, hK, hD0, hZ, hE⟩ := hv
  have hx := B.exec
  have hb := B.bytes
  have hr := B.returns
  have hts := atoms_spec (ws := v_c_linear) B.pre
  have hown : s.vm.findClass RX11 = some m.cls := findClass_of_methodNamed B.named
  have hlocks := B.notSynchronized
  subst hsz
  have hD := hD0.self (sz := s.heap.size)
  generalize hAe : va_A [(h0, .inr (11, xfs))] s.heap.size = A at hD hZ ⊢
  have hA : ∀ q : Nat, s.heap.size ≤ q → A q := fun q h => by rw [← hAe]; exact Or.inr h
  have hS : va_S A s.heap s.heap [] := va_S.rf
  have hAO := hE.2.2.2.1
  have hP : va_P D vwCl [(h0, .inr (11, xfs))] s.heap := hP
  have hl := lv_entry ([.ref h0, .int p0]) (n := 3) (Nat.le_of_ble_eq_true rfl)
  rw [lg_entry_eq]
  generalize (lg_sl ([.ref h0, .int p0]) ++ List.replicate (3 - (lg_sl ([.ref h0, .int p0])).length) Slot.unset).toArray = ls at hl ⊢
  have hl : lv_has ls 3 [(0, .ref h0), (1, .int p0)] := hl
  refine lv_aload_n hx hb dX11_linear_0 rfl (lv_at hl 0 rfl) ?_
  have hPc := hP.sub (ws' := [(h0, .inr (11, xfs))]) [0] rfl
  have hDc := hD.sub (ws' := [(h0, .inr (11, xfs))]) [0] (by decide) rfl
  have hKc := hK.sub (tys' := []) [] rfl
  have hFc := va_free (wc := [(h0, .inr (11, xfs))]) hD hS hA [0] rfl
  refine vx_callv (vx_runV (As := []) (rest := []) ⟨hx, hb, hml, hown, hts⟩ (c_needRun l hlt D h0 xfs s.heap.size hq) (cwV 0 hts g_v_c_linear_0 rfl rfl rfl (by decide +kernel) ⟨Nat.le_of_ble_eq_true rfl, Nat.le_of_ble_eq_true rfl⟩) ⟨st_blind, va_recv hKc hPc (ci := 11) (q0 := 0) rfl rfl, fun U hU hW => ⟨rfl, st_call hU hW hPc hKc hDc hZ hS hFc hE⟩⟩ rfl rfl hl.1 rfl (lv_room (Nat.le_of_ble_eq_true rfl)) dX11_linear_1 ⟨Nat.le_of_ble_eq_true rfl, Nat.le_of_ble_eq_true rfl⟩) hS (fun q _ h => hFc q h) hFc (fun q _ h => hFc q h) (fun E ce q9 _ t H1 locs ht hvm hw hB hz1 hk1 hS hce hcv hcl => ?_) (fun u9 t H1 locs ht hvm hw hB hz1 hk1 hS => ?_)
  · subst hB
    exact vx_out (E := iSE) (fun x hx => (hno x hx).elim) hlocks hce hcv hcl (fun t2 h2 hvm2 => ⟨(), trivial, rfl, hS.F h2⟩) hS.2.2 (Nat.le_of_ble_eq_true rfl) (Nat.le_of_ble_eq_true rfl)
  · exact hw.elim
noncomputable def v_c_L_begin : List Cond := .codeWith yL_begin cL_begin 4 (some .int) [(0, 9, 12, 27), (0, 9, 15, 13)] :: ([.classLink RL 27 iSE] ++ ((wsV RL 24 RX11 yX11_begin v_c_begin) ++ ([])))
theorem g_v_c_L_begin_0 : GoodIn v_c_L_begin (wsV RL 24 RX11 yX11_begin v_c_begin) := goodIn_sub (fun _ h => List.mem_cons_of_mem _ (List.mem_append_right _ (List.mem_append_left _ h))) (by decide +kernel)
theorem t_v_c_L_begin : ∀ w ∈ v_c_L_begin, w ∈ lw_tbl := tb_c (List.mem_of_getElem? (i := 1271) (by decide +kernel)) (tb_a (tb_c (List.mem_of_getElem? (i := 1272) (by decide +kernel)) (tb_n)) (tb_a (tb_a (tb_c (List.mem_of_getElem? (i := 1273) (by decide +kernel)) (tb_c (List.mem_of_getElem? (i := 1274) (by decide +kernel)) (tb_c (List.mem_of_getElem? (i := 1275) (by decide +kernel)) (tb_c (List.mem_of_getElem? (i := 206) (by decide +kernel)) (tb_n))))) t_v_c_begin) (tb_n)))
set_option maxHeartbeats 400000 in
set_option maxRecDepth 100000 in
/-- the law's begin: 1 -/
theorem c_L_begin (l : Launch) (D : va_G) (h0 o0 : Nat) (xfs : List Value) (p0 : Int32) (sz : Nat) (hlt : l.stackTraces = false) (hq : xfs[9]? = some (.int 0)) : Met l yL_begin v_c_L_begin ({ frames := 10, cells := 1, slots := 6, locals := 190 }) (va_Pc [.ref h0, .int p0, .ref o0] (st_ D [(h0, .inr (11, xfs))] [] sz)) (va_Qi (fun (r : Int32) (_ : Unit) => r = 1) (fun _ _ => True) (va_A [(h0, .inr (11, xfs))] sz)) 1 6 (va_A [(h0, .inr (11, xfs))] sz) := by
  refine va_MetW (hh := [(0, 9, 12, 27), (0, 9, 15, 13)]) (cc := cL_begin) (maxL := 4) (ret := (some .int)) (by decide) rfl ?_
  intro p e s m args below meth c s₁ B hml hv
  obtain ⟨rfl, hsz, hP, hK, hD0, hZ, hE⟩ := hv
  have hx := B.exec
  have hb := B.bytes
  have hr := B.returns
  have hts := atoms_spec (ws := v_c_L_begin) B.pre
  have hown : s.vm.findClass RL = some m.cls := findClass_of_methodNamed B.named
  have hlocks := B.notSynchronized
  subst hsz
  have hD := hD0.self (sz := s.heap.size)
  generalize hAe : va_A [(h0, .inr (11, xfs))] s.heap.size = A at hD hZ ⊢
  have hA : ∀ q : Nat, s.heap.size ≤ q → A q := fun q h => by rw [← hAe]; exact Or.inr h
  have hS : va_S A s.heap s.heap [] := va_S.rf
  have hAO := hE.2.2.2.1
  have hP : va_P D vwCl [(h0, .inr (11, xfs))] s.heap := hP
  have hl := lv_entry ([.ref h0, .int p0, .ref o0]) (n := 4) (Nat.le_of_ble_eq_true rfl)
  rw [lg_entry_eq]
  generalize (lg_sl ([.ref h0, .int p0, .ref o0]) ++ List.replicate (4 - (lg_sl ([.ref h0, .int p0, .ref o0])).length) Slot.unset).toArray = ls at hl ⊢
  have hl : lv_has ls 4 [(0, .ref h0), (1, .int p0), (2, .ref o0)] := hl
  have htab := vx_table (x := yL_begin) B (hts (.codeWith yL_begin cL_begin 4 (some .int) [(0, 9, 12, 27), (0, 9, 15, 13)]) List.mem_cons_self)
  refine lv_aload_n hx hb dL_begin_0 rfl (lv_at hl 2 rfl) ?_
  refine lv_iconst (v := 0) hx hb dL_begin_1 (by decide +kernel) ?_
  refine lv_aload_n hx hb dL_begin_2 rfl (lv_at hl 0 rfl) ?_
  refine lv_iload_n hx hb dL_begin_3 rfl (lv_at hl 1 rfl) ?_
  have hPc := hP.sub (ws' := [(h0, .inr (11, xfs))]) [0] rfl
  have hDc := hD.sub (ws' := [(h0, .inr (11, xfs))]) [0] (by decide) rfl
  have hKc := hK.sub (tys' := []) [] rfl
  have hFc := va_free (wc := [(h0, .inr (11, xfs))]) hD hS hA [0] rfl
  refine vx_calli (vx_runV (As := [.int p0]) (rest := [.int 0, .ref o0]) ⟨hx, hb, hml, hown, hts⟩ (c_begin l hlt D h0 xfs p0 s.heap.size hq) (cwV 1 hts g_v_c_L_begin_0 rfl rfl rfl (by decide +kernel) ⟨Nat.le_of_ble_eq_true rfl, Nat.le_of_ble_eq_true rfl⟩) ⟨st_blind, va_recv hKc hPc (ci := 11) (q0 := 0) rfl rfl, fun U hU hW => ⟨rfl, st_call hU hW hPc hKc hDc hZ hS hFc hE⟩⟩ rfl rfl hl.1 rfl (lv_room (Nat.le_of_ble_eq_true rfl)) dL_begin_4 ⟨Nat.le_of_ble_eq_true rfl, Nat.le_of_ble_eq_true rfl⟩) hS (fun q _ h => hFc q h) hFc (fun q _ h => hFc q h) (fun E ce q9 _ t H1 locs ht hvm hw hB hz1 hk1 hS hce hcv hcl => ?_) (fun r9 u9 t H1 locs ht hvm hw hB hz1 hk1 hS => ?_)
  · subst hB
    refine vx_catch (own := RL) (name := iSE) (E := iSE) hown [] ⟨0, 9, 12, 27⟩ [⟨0, 9, 15, 13⟩] (by rw [htab]; rfl) (fun z hz => nomatch hz) (by decide) (by decide) (hts (.classLink RL 27 iSE) (by decide +kernel)) (ev_w hE (.castable iSE iSE) (by decide) rfl) hce hcv hcl ?_
    refine lv_astore_n (lv' := [(3, .ref q9), (0, .ref h0), (1, .int p0), (2, .ref o0)]) hx hb dL_begin_12 rfl hl (by decide) rfl (fun ls hl => ?_)
    refine lv_iconst (v := 1) hx hb dL_begin_13 (by decide +kernel) ?_
    exact W.iret (v := 1) hx hb hr (fun t ht hW => ⟨⟨1, (), rfl, rfl, trivial⟩, hS.F ht⟩) hS.2.2 dL_begin_14
  · exact hw.elim
noncomputable def v_c_L_attempt : List Cond := .codeWith yL_attempt cL_attempt 5 (some .int) [(0, 10, 13, 27), (0, 10, 17, 13)] :: ([.classLink RL 27 iSE] ++ ((wsV RL 77 RX11 yX11_attempt v_c_attempt) ++ ([])))
theorem g_v_c_L_attempt_0 : GoodIn v_c_L_attempt (wsV RL 77 RX11 yX11_attempt v_c_attempt) := goodIn_sub (fun _ h => List.mem_cons_of_mem _ (List.mem_append_right _ (List.mem_append_left _ h))) (by decide +kernel)
theorem t_v_c_L_attempt : ∀ w ∈ v_c_L_attempt, w ∈ lw_tbl := tb_c (List.mem_of_getElem? (i := 1773) (by decide +kernel)) (tb_a (tb_c (List.mem_of_getElem? (i := 1272) (by decide +kernel)) (tb_n)) (tb_a (tb_a (tb_c (List.mem_of_getElem? (i := 1774) (by decide +kernel)) (tb_c (List.mem_of_getElem? (i := 1775) (by decide +kernel)) (tb_c (List.mem_of_getElem? (i := 1776) (by decide +kernel)) (tb_c (List.mem_of_getElem? (i := 206) (by decide +kernel)) (tb_n))))) t_v_c_attempt) (tb_n)))
set_option maxHeartbeats 400000 in
set_option maxRecDepth 100000 in
/-- the law's attempt: 1 -/
theorem c_L_attempt (l : Launch) (D : va_G) (h0 o0 : Nat) (xfs : List Value) (p0 p1 : Int32) (sz : Nat) (hlt : l.stackTraces = false) (hq : xfs[9]? = some (.int 0)) : Met l yL_attempt v_c_L_attempt ({ frames := 10, cells := 1, slots := 6, locals := 190 }) (va_Pc [.ref h0, .int p0, .int p1, .ref o0] (st_ D [(h0, .inr (11, xfs))] [] sz)) (va_Qi (fun (r : Int32) (_ : Unit) => r = 1) (fun _ _ => True) (va_A [(h0, .inr (11, xfs))] sz)) 1 6 (va_A [(h0, .inr (11, xfs))] sz) := by
  refine va_MetW (hh := [(0, 10, 13, 27), (0, 10, 17, 13)]) (cc := cL_attempt) (maxL := 5) (ret := (some .int)) (by decide) rfl ?_
  intro p e s m args below meth c s₁ B hml hv
  obtain ⟨rfl, hsz, hP, hK, hD0, hZ, hE⟩ := hv
  have hx := B.exec
  have hb := B.bytes
  have hr := B.returns
  have hts := atoms_spec (ws := v_c_L_attempt) B.pre
  have hown : s.vm.findClass RL = some m.cls := findClass_of_methodNamed B.named
  have hlocks := B.notSynchronized
  subst hsz
  have hD := hD0.self (sz := s.heap.size)
  generalize hAe : va_A [(h0, .inr (11, xfs))] s.heap.size = A at hD hZ ⊢
  have hA : ∀ q : Nat, s.heap.size ≤ q → A q := fun q h => by rw [← hAe]; exact Or.inr h
  have hS : va_S A s.heap s.heap [] := va_S.rf
  have hAO := hE.2.2.2.1
  have hP : va_P D vwCl [(h0, .inr (11, xfs))] s.heap := hP
  have hl := lv_entry ([.ref h0, .int p0, .int p1, .ref o0]) (n := 5) (Nat.le_of_ble_eq_true rfl)
  rw [lg_entry_eq]
  generalize (lg_sl ([.ref h0, .int p0, .int p1, .ref o0]) ++ List.replicate (5 - (lg_sl ([.ref h0, .int p0, .int p1, .ref o0])).length) Slot.unset).toArray = ls at hl ⊢
  have hl : lv_has ls 5 [(0, .ref h0), (1, .int p0), (2, .int p1), (3, .ref o0)] := hl
  have htab := vx_table (x := yL_attempt) B (hts (.codeWith yL_attempt cL_attempt 5 (some .int) [(0, 10, 13, 27), (0, 10, 17, 13)]) List.mem_cons_self)
  refine lv_aload_n hx hb dL_attempt_0 rfl (lv_at hl 3 rfl) ?_
  refine lv_iconst (v := 0) hx hb dL_attempt_1 (by decide +kernel) ?_
  refine lv_aload_n hx hb dL_attempt_2 rfl (lv_at hl 0 rfl) ?_
  refine lv_iload_n hx hb dL_attempt_3 rfl (lv_at hl 1 rfl) ?_
  refine lv_iload_n hx hb dL_attempt_4 rfl (lv_at hl 2 rfl) ?_
  have hPc := hP.sub (ws' := [(h0, .inr (11, xfs))]) [0] rfl
  have hDc := hD.sub (ws' := [(h0, .inr (11, xfs))]) [0] (by decide) rfl
  have hKc := hK.sub (tys' := []) [] rfl
  have hFc := va_free (wc := [(h0, .inr (11, xfs))]) hD hS hA [0] rfl
  refine vx_calli (vx_runV (As := [.int p0, .int p1]) (rest := [.int 0, .ref o0]) ⟨hx, hb, hml, hown, hts⟩ (c_attempt l hlt D h0 xfs p0 p1 s.heap.size hq) (cwV 2 hts g_v_c_L_attempt_0 rfl rfl rfl (by decide +kernel) ⟨Nat.le_of_ble_eq_true rfl, Nat.le_of_ble_eq_true rfl⟩) ⟨st_blind, va_recv hKc hPc (ci := 11) (q0 := 0) rfl rfl, fun U hU hW => ⟨rfl, st_call hU hW hPc hKc hDc hZ hS hFc hE⟩⟩ rfl rfl hl.1 rfl (lv_room (Nat.le_of_ble_eq_true rfl)) dL_attempt_5 ⟨Nat.le_of_ble_eq_true rfl, Nat.le_of_ble_eq_true rfl⟩) hS (fun q _ h => hFc q h) hFc (fun q _ h => hFc q h) (fun E ce q9 _ t H1 locs ht hvm hw hB hz1 hk1 hS hce hcv hcl => ?_) (fun r9 u9 t H1 locs ht hvm hw hB hz1 hk1 hS => ?_)
  · subst hB
    refine vx_catch (own := RL) (name := iSE) (E := iSE) hown [] ⟨0, 10, 13, 27⟩ [⟨0, 10, 17, 13⟩] (by rw [htab]; rfl) (fun z hz => nomatch hz) (by decide) (by decide) (hts (.classLink RL 27 iSE) (by decide +kernel)) (ev_w hE (.castable iSE iSE) (by decide) rfl) hce hcv hcl ?_
    refine lv_astore (lv' := [(4, .ref q9), (0, .ref h0), (1, .int p0), (2, .int p1), (3, .ref o0)]) hx hb dL_attempt_13 hl (by decide) rfl (fun ls hl => ?_)
    refine lv_iconst (v := 1) hx hb dL_attempt_15 (by decide +kernel) ?_
    exact W.iret (v := 1) hx hb hr (fun t ht hW => ⟨⟨1, (), rfl, rfl, trivial⟩, hS.F ht⟩) hS.2.2 dL_attempt_16
  · exact hw.elim
noncomputable def v_c_L_choices : List Cond := .codeWith yL_choices cL_choices 3 (some .int) [(0, 8, 11, 27)] :: ([.classLink RL 27 iSE] ++ ((wsV RL 29 RX11 yX11_choices v_c_choices) ++ ([])))
theorem g_v_c_L_choices_0 : GoodIn v_c_L_choices (wsV RL 29 RX11 yX11_choices v_c_choices) := goodIn_sub (fun _ h => List.mem_cons_of_mem _ (List.mem_append_right _ (List.mem_append_left _ h))) (by decide +kernel)
theorem t_v_c_L_choices : ∀ w ∈ v_c_L_choices, w ∈ lw_tbl := tb_c (List.mem_of_getElem? (i := 1392) (by decide +kernel)) (tb_a (tb_c (List.mem_of_getElem? (i := 1272) (by decide +kernel)) (tb_n)) (tb_a (tb_a (tb_c (List.mem_of_getElem? (i := 1393) (by decide +kernel)) (tb_c (List.mem_of_getElem? (i := 1394) (by decide +kernel)) (tb_c (List.mem_of_getElem? (i := 1395) (by decide +kernel)) (tb_c (List.mem_of_getElem? (i := 206) (by decide +kernel)) (tb_n))))) t_v_c_choices) (tb_n)))
set_option maxHeartbeats 400000 in
set_option maxRecDepth 100000 in
/-- the law's choices: 1 -/
theorem c_L_choices (l : Launch) (D : va_G) (h0 o0 : Nat) (xfs : List Value) (sz : Nat) (hlt : l.stackTraces = false) (hq : xfs[10]? = some (.int 0)) : Met l yL_choices v_c_L_choices ({ frames := 10, cells := 1, slots := 6, locals := 190 }) (va_Pc [.ref h0, .ref o0] (st_ D [(h0, .inr (11, xfs))] [] sz)) (va_Qi (fun (r : Int32) (_ : Unit) => r = 1) (fun _ _ => True) (va_A [(h0, .inr (11, xfs))] sz)) 1 6 (va_A [(h0, .inr (11, xfs))] sz) := by
  refine va_MetW (hh := [(0, 8, 11, 27)]) (cc := cL_choices) (maxL := 3) (ret := (some .int)) (by decide) rfl ?_
  intro p e s m args below meth c s₁ B hml hv
  obtain ⟨rfl, hsz, hP, hK, hD0, hZ, hE⟩ := hv
  have hx := B.exec
  have hb := B.bytes
  have hr := B.returns
  have hts := atoms_spec (ws := v_c_L_choices) B.pre
  have hown : s.vm.findClass RL = some m.cls := findClass_of_methodNamed B.named
  have hlocks := B.notSynchronized
  subst hsz
  have hD := hD0.self (sz := s.heap.size)
  generalize hAe : va_A [(h0, .inr (11, xfs))] s.heap.size = A at hD hZ ⊢
  have hA : ∀ q : Nat, s.heap.size ≤ q → A q := fun q h => by rw [← hAe]; exact Or.inr h
  have hS : va_S A s.heap s.heap [] := va_S.rf
  have hAO := hE.2.2.2.1
  have hP : va_P D vwCl [(h0, .inr (11, xfs))] s.heap := hP
  have hl := lv_entry ([.ref h0, .ref o0]) (n := 3) (Nat.le_of_ble_eq_true rfl)
  rw [lg_entry_eq]
  generalize (lg_sl ([.ref h0, .ref o0]) ++ List.replicate (3 - (lg_sl ([.ref h0, .ref o0])).length) Slot.unset).toArray = ls at hl ⊢
  have hl : lv_has ls 3 [(0, .ref h0), (1, .ref o0)] := hl
  have htab := vx_table (x := yL_choices) B (hts (.codeWith yL_choices cL_choices 3 (some .int) [(0, 8, 11, 27)]) List.mem_cons_self)
  refine lv_aload_n hx hb dL_choices_0 rfl (lv_at hl 1 rfl) ?_
  refine lv_iconst (v := 0) hx hb dL_choices_1 (by decide +kernel) ?_
  refine lv_aload_n hx hb dL_choices_2 rfl (lv_at hl 0 rfl) ?_
  have hPc := hP.sub (ws' := [(h0, .inr (11, xfs))]) [0] rfl
  have hDc := hD.sub (ws' := [(h0, .inr (11, xfs))]) [0] (by decide) rfl
  have hKc := hK.sub (tys' := []) [] rfl
  have hFc := va_free (wc := [(h0, .inr (11, xfs))]) hD hS hA [0] rfl
  refine vx_calli (vx_runV (As := []) (rest := [.int 0, .ref o0]) ⟨hx, hb, hml, hown, hts⟩ (c_choices l hlt D h0 xfs s.heap.size hq) (cwV 0 hts g_v_c_L_choices_0 rfl rfl rfl (by decide +kernel) ⟨Nat.le_of_ble_eq_true rfl, Nat.le_of_ble_eq_true rfl⟩) ⟨st_blind, va_recv hKc hPc (ci := 11) (q0 := 0) rfl rfl, fun U hU hW => ⟨rfl, st_call hU hW hPc hKc hDc hZ hS hFc hE⟩⟩ rfl rfl hl.1 rfl (lv_room (Nat.le_of_ble_eq_true rfl)) dL_choices_3 ⟨Nat.le_of_ble_eq_true rfl, Nat.le_of_ble_eq_true rfl⟩) hS (fun q _ h => hFc q h) hFc (fun q _ h => hFc q h) (fun E ce q9 _ t H1 locs ht hvm hw hB hz1 hk1 hS hce hcv hcl => ?_) (fun r9 u9 t H1 locs ht hvm hw hB hz1 hk1 hS => ?_)
  · subst hB
    refine vx_catch (own := RL) (name := iSE) (E := iSE) hown [] ⟨0, 8, 11, 27⟩ [] (by rw [htab]; rfl) (fun z hz => nomatch hz) (by decide) (by decide) (hts (.classLink RL 27 iSE) (by decide +kernel)) (ev_w hE (.castable iSE iSE) (by decide) rfl) hce hcv hcl ?_
    refine lv_astore_n (lv' := [(2, .ref q9), (0, .ref h0), (1, .ref o0)]) hx hb dL_choices_11 rfl hl (by decide) rfl (fun ls hl => ?_)
    refine lv_iconst (v := 1) hx hb dL_choices_12 (by decide +kernel) ?_
    exact W.iret (v := 1) hx hb hr (fun t ht hW => ⟨⟨1, (), rfl, rfl, trivial⟩, hS.F ht⟩) hS.2.2 dL_choices_13
  · exact hw.elim
noncomputable def v_c_L_choice : List Cond := .codeWith yL_choice cL_choice 5 (some .int) [(0, 10, 13, 27), (0, 10, 17, 19)] :: ([.classLink RL 27 iSE] ++ ((wsV RL 33 RX11 yX11_choice v_c_choice) ++ ([])))
theorem g_v_c_L_choice_0 : GoodIn v_c_L_choice (wsV RL 33 RX11 yX11_choice v_c_choice) := goodIn_sub (fun _ h => List.mem_cons_of_mem _ (List.mem_append_right _ (List.mem_append_left _ h))) (by decide +kernel)
theorem t_v_c_L_choice : ∀ w ∈ v_c_L_choice, w ∈ lw_tbl := tb_c (List.mem_of_getElem? (i := 1404) (by decide +kernel)) (tb_a (tb_c (List.mem_of_getElem? (i := 1272) (by decide +kernel)) (tb_n)) (tb_a (tb_a (tb_c (List.mem_of_getElem? (i := 1405) (by decide +kernel)) (tb_c (List.mem_of_getElem? (i := 1406) (by decide +kernel)) (tb_c (List.mem_of_getElem? (i := 1407) (by decide +kernel)) (tb_c (List.mem_of_getElem? (i := 206) (by decide +kernel)) (tb_n))))) t_v_c_choice) (tb_n)))
set_option maxHeartbeats 400000 in
set_option maxRecDepth 100000 in
/-- the law's choice: 1 -/
theorem c_L_choice (l : Launch) (D : va_G) (h0 o0 : Nat) (xfs : List Value) (p0 p1 : Int32) (sz : Nat) (hlt : l.stackTraces = false) (hq : xfs[10]? = some (.int 0)) : Met l yL_choice v_c_L_choice ({ frames := 10, cells := 1, slots := 6, locals := 190 }) (va_Pc [.ref h0, .int p0, .int p1, .ref o0] (st_ D [(h0, .inr (11, xfs))] [] sz)) (va_Qi (fun (r : Int32) (_ : Unit) => r = 1) (fun _ _ => True) (va_A [(h0, .inr (11, xfs))] sz)) 1 6 (va_A [(h0, .inr (11, xfs))] sz) := by
  refine va_MetW (hh := [(0, 10, 13, 27), (0, 10, 17, 19)]) (cc := cL_choice) (maxL := 5) (ret := (some .int)) (by decide) rfl ?_
  intro p e s m args below meth c s₁ B hml hv
  obtain ⟨rfl, hsz, hP, hK, hD0, hZ, hE⟩ := hv
  have hx := B.exec
  have hb := B.bytes
  have hr := B.returns
  have hts := atoms_spec (ws := v_c_L_choice) B.pre
  have hown : s.vm.findClass RL = some m.cls := findClass_of_methodNamed B.named
  have hlocks := B.notSynchronized
  subst hsz
  have hD := hD0.self (sz := s.heap.size)
  generalize hAe : va_A [(h0, .inr (11, xfs))] s.heap.size = A at hD hZ ⊢
  have hA : ∀ q : Nat, s.heap.size ≤ q → A q := fun q h => by rw [← hAe]; exact Or.inr h
  have hS : va_S A s.heap s.heap [] := va_S.rf
  have hAO := hE.2.2.2.1
  have hP : va_P D vwCl [(h0, .inr (11, xfs))] s.heap := hP
  have hl := lv_entry ([.ref h0, .int p0, .int p1, .ref o0]) (n := 5) (Nat.le_of_ble_eq_true rfl)
  rw [lg_entry_eq]
  generalize (lg_sl ([.ref h0, .int p0, .int p1, .ref o0]) ++ List.replicate (5 - (lg_sl ([.ref h0, .int p0, .int p1, .ref o0])).length) Slot.unset).toArray = ls at hl ⊢
  have hl : lv_has ls 5 [(0, .ref h0), (1, .int p0), (2, .int p1), (3, .ref o0)] := hl
  have htab := vx_table (x := yL_choice) B (hts (.codeWith yL_choice cL_choice 5 (some .int) [(0, 10, 13, 27), (0, 10, 17, 19)]) List.mem_cons_self)
  refine lv_aload_n hx hb dL_choice_0 rfl (lv_at hl 3 rfl) ?_
  refine lv_iconst (v := 0) hx hb dL_choice_1 (by decide +kernel) ?_
  refine lv_aload_n hx hb dL_choice_2 rfl (lv_at hl 0 rfl) ?_
  refine lv_iload_n hx hb dL_choice_3 rfl (lv_at hl 1 rfl) ?_
  refine lv_iload_n hx hb dL_choice_4 rfl (lv_at hl 2 rfl) ?_
  have hPc := hP.sub (ws' := [(h0, .inr (11, xfs))]) [0] rfl
  have hDc := hD.sub (ws' := [(h0, .inr (11, xfs))]) [0] (by decide) rfl
  have hKc := hK.sub (tys' := []) [] rfl
  have hFc := va_free (wc := [(h0, .inr (11, xfs))]) hD hS hA [0] rfl
  refine vx_calli (vx_runV (As := [.int p0, .int p1]) (rest := [.int 0, .ref o0]) ⟨hx, hb, hml, hown, hts⟩ (c_choice l hlt D h0 xfs p0 p1 s.heap.size hq) (cwV 2 hts g_v_c_L_choice_0 rfl rfl rfl (by decide +kernel) ⟨Nat.le_of_ble_eq_true rfl, Nat.le_of_ble_eq_true rfl⟩) ⟨st_blind, va_recv hKc hPc (ci := 11) (q0 := 0) rfl rfl, fun U hU hW => ⟨rfl, st_call hU hW hPc hKc hDc hZ hS hFc hE⟩⟩ rfl rfl hl.1 rfl (lv_room (Nat.le_of_ble_eq_true rfl)) dL_choice_5 ⟨Nat.le_of_ble_eq_true rfl, Nat.le_of_ble_eq_true rfl⟩) hS (fun q _ h => hFc q h) hFc (fun q _ h => hFc q h) (fun E ce q9 _ t H1 locs ht hvm hw hB hz1 hk1 hS hce hcv hcl => ?_) (fun r9 u9 t H1 locs ht hvm hw hB hz1 hk1 hS => ?_)
  · subst hB
    refine vx_catch (own := RL) (name := iSE) (E := iSE) hown [] ⟨0, 10, 13, 27⟩ [⟨0, 10, 17, 19⟩] (by rw [htab]; rfl) (fun z hz => nomatch hz) (by decide) (by decide) (hts (.classLink RL 27 iSE) (by decide +kernel)) (ev_w hE (.castable iSE iSE) (by decide) rfl) hce hcv hcl ?_
    refine lv_astore (lv' := [(4, .ref q9), (0, .ref h0), (1, .int p0), (2, .int p1), (3, .ref o0)]) hx hb dL_choice_13 hl (by decide) rfl (fun ls hl => ?_)
    refine lv_iconst (v := 1) hx hb dL_choice_15 (by decide +kernel) ?_
    exact W.iret (v := 1) hx hb hr (fun t ht hW => ⟨⟨1, (), rfl, rfl, trivial⟩, hS.F ht⟩) hS.2.2 dL_choice_16
  · exact hw.elim
noncomputable def v_c_L_go : List Cond := .codeWith yL_go cL_go 4 (some .int) [(0, 9, 12, 27), (0, 9, 15, 19)] :: ([.classLink RL 27 iSE] ++ ((wsV RL 37 RX11 yX11_go v_c_go) ++ ([])))
theorem g_v_c_L_go_0 : GoodIn v_c_L_go (wsV RL 37 RX11 yX11_go v_c_go) := goodIn_sub (fun _ h => List.mem_cons_of_mem _ (List.mem_append_right _ (List.mem_append_left _ h))) (by decide +kernel)
theorem t_v_c_L_go : ∀ w ∈ v_c_L_go, w ∈ lw_tbl := tb_c (List.mem_of_getElem? (i := 1425) (by decide +kernel)) (tb_a (tb_c (List.mem_of_getElem? (i := 1272) (by decide +kernel)) (tb_n)) (tb_a (tb_a (tb_c (List.mem_of_getElem? (i := 1426) (by decide +kernel)) (tb_c (List.mem_of_getElem? (i := 1427) (by decide +kernel)) (tb_c (List.mem_of_getElem? (i := 1428) (by decide +kernel)) (tb_c (List.mem_of_getElem? (i := 206) (by decide +kernel)) (tb_n))))) t_v_c_go) (tb_n)))
set_option maxHeartbeats 400000 in
set_option maxRecDepth 100000 in
/-- the law's go: 1 -/
theorem c_L_go (l : Launch) (D : va_G) (h0 o0 : Nat) (xfs : List Value) (p0 : Int32) (sz : Nat) (hlt : l.stackTraces = false) (hq : xfs[10]? = some (.int 0)) : Met l yL_go v_c_L_go ({ frames := 10, cells := 1, slots := 6, locals := 190 }) (va_Pc [.ref h0, .int p0, .ref o0] (st_ D [(h0, .inr (11, xfs))] [] sz)) (va_Qi (fun (r : Int32) (_ : Unit) => r = 1) (fun _ _ => True) (va_A [(h0, .inr (11, xfs))] sz)) 1 6 (va_A [(h0, .inr (11, xfs))] sz) := by
  refine va_MetW (hh := [(0, 9, 12, 27), (0, 9, 15, 19)]) (cc := cL_go) (maxL := 4) (ret := (some .int)) (by decide) rfl ?_
  intro p e s m args below meth c s₁ B hml hv
  obtain ⟨rfl, hsz, hP, hK, hD0, hZ, hE⟩ := hv
  have hx := B.exec
  have hb := B.bytes
  have hr := B.returns
  have hts := atoms_spec (ws := v_c_L_go) B.pre
  have hown : s.vm.findClass RL = some m.cls := findClass_of_methodNamed B.named
  have hlocks := B.notSynchronized
  subst hsz
  have hD := hD0.self (sz := s.heap.size)
  generalize hAe : va_A [(h0, .inr (11, xfs))] s.heap.size = A at hD hZ ⊢
  have hA : ∀ q : Nat, s.heap.size ≤ q → A q := fun q h => by rw [← hAe]; exact Or.inr h
  have hS : va_S A s.heap s.heap [] := va_S.rf
  have hAO := hE.2.2.2.1
  have hP : va_P D vwCl [(h0, .inr (11, xfs))] s.heap := hP
  have hl := lv_entry ([.ref h0, .int p0, .ref o0]) (n := 4) (Nat.le_of_ble_eq_true rfl)
  rw [lg_entry_eq]
  generalize (lg_sl ([.ref h0, .int p0, .ref o0]) ++ List.replicate (4 - (lg_sl ([.ref h0, .int p0, .ref o0])).length) Slot.unset).toArray = ls at hl ⊢
  have hl : lv_has ls 4 [(0, .ref h0), (1, .int p0), (2, .ref o0)] := hl
  have htab := vx_table (x := yL_go) B (hts (.codeWith yL_go cL_go 4 (some .int) [(0, 9, 12, 27), (0, 9, 15, 19)]) List.mem_cons_self)
  refine lv_aload_n hx hb dL_go_0 rfl (lv_at hl 2 rfl) ?_
  refine lv_iconst (v := 0) hx hb dL_go_1 (by decide +kernel) ?_
  refine lv_aload_n hx hb dL_go_2 rfl (lv_at hl 0 rfl) ?_
  refine lv_iload_n hx hb dL_go_3 rfl (lv_at hl 1 rfl) ?_
  have hPc := hP.sub (ws' := [(h0, .inr (11, xfs))]) [0] rfl
  have hDc := hD.sub (ws' := [(h0, .inr (11, xfs))]) [0] (by decide) rfl
  have hKc := hK.sub (tys' := []) [] rfl
  have hFc := va_free (wc := [(h0, .inr (11, xfs))]) hD hS hA [0] rfl
  refine vx_calli (vx_runV (As := [.int p0]) (rest := [.int 0, .ref o0]) ⟨hx, hb, hml, hown, hts⟩ (c_go l hlt D h0 xfs p0 s.heap.size hq) (cwV 1 hts g_v_c_L_go_0 rfl rfl rfl (by decide +kernel) ⟨Nat.le_of_ble_eq_true rfl, Nat.le_of_ble_eq_true rfl⟩) ⟨st_blind, va_recv hKc hPc (ci := 11) (q0 := 0) rfl rfl, fun U hU hW => ⟨rfl, st_call hU hW hPc hKc hDc hZ hS hFc hE⟩⟩ rfl rfl hl.1 rfl (lv_room (Nat.le_of_ble_eq_true rfl)) dL_go_4 ⟨Nat.le_of_ble_eq_true rfl, Nat.le_of_ble_eq_true rfl⟩) hS (fun q _ h => hFc q h) hFc (fun q _ h => hFc q h) (fun E ce q9 _ t H1 locs ht hvm hw hB hz1 hk1 hS hce hcv hcl => ?_) (fun r9 u9 t H1 locs ht hvm hw hB hz1 hk1 hS => ?_)
  · subst hB
    refine vx_catch (own := RL) (name := iSE) (E := iSE) hown [] ⟨0, 9, 12, 27⟩ [⟨0, 9, 15, 19⟩] (by rw [htab]; rfl) (fun z hz => nomatch hz) (by decide) (by decide) (hts (.classLink RL 27 iSE) (by decide +kernel)) (ev_w hE (.castable iSE iSE) (by decide) rfl) hce hcv hcl ?_
    refine lv_astore_n (lv' := [(3, .ref q9), (0, .ref h0), (1, .int p0), (2, .ref o0)]) hx hb dL_go_12 rfl hl (by decide) rfl (fun ls hl => ?_)
    refine lv_iconst (v := 1) hx hb dL_go_13 (by decide +kernel) ?_
    exact W.iret (v := 1) hx hb hr (fun t ht hW => ⟨⟨1, (), rfl, rfl, trivial⟩, hS.F ht⟩) hS.2.2 dL_go_14
  · exact hw.elim
noncomputable def v_c_L_draw : List Cond := .codeWith yL_draw cL_draw 5 (some .int) [(0, 10, 13, 27), (0, 10, 17, 13)] :: ([.classLink RL 27 iSE] ++ ((wsV RL 40 RX11 yX11_draw v_c_draw) ++ ([])))
theorem g_v_c_L_draw_0 : GoodIn v_c_L_draw (wsV RL 40 RX11 yX11_draw v_c_draw) := goodIn_sub (fun _ h => List.mem_cons_of_mem _ (List.mem_append_right _ (List.mem_append_left _ h))) (by decide +kernel)
theorem t_v_c_L_draw : ∀ w ∈ v_c_L_draw, w ∈ lw_tbl := tb_c (List.mem_of_getElem? (i := 1544) (by decide +kernel)) (tb_a (tb_c (List.mem_of_getElem? (i := 1272) (by decide +kernel)) (tb_n)) (tb_a (tb_a (tb_c (List.mem_of_getElem? (i := 1545) (by decide +kernel)) (tb_c (List.mem_of_getElem? (i := 1546) (by decide +kernel)) (tb_c (List.mem_of_getElem? (i := 1547) (by decide +kernel)) (tb_c (List.mem_of_getElem? (i := 206) (by decide +kernel)) (tb_n))))) t_v_c_draw) (tb_n)))
set_option maxHeartbeats 400000 in
set_option maxRecDepth 100000 in
/-- the law's draw: 1 -/
theorem c_L_draw (l : Launch) (D : va_G) (h0 o0 : Nat) (xfs : List Value) (p0 p1 : Int32) (sz : Nat) (hlt : l.stackTraces = false) (hq : xfs[10]? = some (.int 0)) : Met l yL_draw v_c_L_draw ({ frames := 10, cells := 1, slots := 6, locals := 190 }) (va_Pc [.ref h0, .int p0, .int p1, .ref o0] (st_ D [(h0, .inr (11, xfs))] [] sz)) (va_Qi (fun (r : Int32) (_ : Unit) => r = 1) (fun _ _ => True) (va_A [(h0, .inr (11, xfs))] sz)) 1 6 (va_A [(h0, .inr (11, xfs))] sz) := by
  refine va_MetW (hh := [(0, 10, 13, 27), (0, 10, 17, 13)]) (cc := cL_draw) (maxL := 5) (ret := (some .int)) (by decide) rfl ?_
  intro p e s m args below meth c s₁ B hml hv
  obtain ⟨rfl, hsz, hP, hK, hD0, hZ, hE⟩ := hv
  have hx := B.exec
  have hb := B.bytes
  have hr := B.returns
  have hts := atoms_spec (ws := v_c_L_draw) B.pre
  have hown : s.vm.findClass RL = some m.cls := findClass_of_methodNamed B.named
  have hlocks := B.notSynchronized
  subst hsz
  have hD := hD0.self (sz := s.heap.size)
  generalize hAe : va_A [(h0, .inr (11, xfs))] s.heap.size = A at hD hZ ⊢
  have hA : ∀ q : Nat, s.heap.size ≤ q → A q := fun q h => by rw [← hAe]; exact Or.inr h
  have hS : va_S A s.heap s.heap [] := va_S.rf
  have hAO := hE.2.2.2.1
  have hP : va_P D vwCl [(h0, .inr (11, xfs))] s.heap := hP
  have hl := lv_entry ([.ref h0, .int p0, .int p1, .ref o0]) (n := 5) (Nat.le_of_ble_eq_true rfl)
  rw [lg_entry_eq]
  generalize (lg_sl ([.ref h0, .int p0, .int p1, .ref o0]) ++ List.replicate (5 - (lg_sl ([.ref h0, .int p0, .int p1, .ref o0])).length) Slot.unset).toArray = ls at hl ⊢
  have hl : lv_has ls 5 [(0, .ref h0), (1, .int p0), (2, .int p1), (3, .ref o0)] := hl
  have htab := vx_table (x := yL_draw) B (hts (.codeWith yL_draw cL_draw 5 (some .int) [(0, 10, 13, 27), (0, 10, 17, 13)]) List.mem_cons_self)
  refine lv_aload_n hx hb dL_draw_0 rfl (lv_at hl 3 rfl) ?_
  refine lv_iconst (v := 0) hx hb dL_draw_1 (by decide +kernel) ?_
  refine lv_aload_n hx hb dL_draw_2 rfl (lv_at hl 0 rfl) ?_
  refine lv_iload_n hx hb dL_draw_3 rfl (lv_at hl 1 rfl) ?_
  refine lv_iload_n hx hb dL_draw_4 rfl (lv_at hl 2 rfl) ?_
  have hPc := hP.sub (ws' := [(h0, .inr (11, xfs))]) [0] rfl
  have hDc := hD.sub (ws' := [(h0, .inr (11, xfs))]) [0] (by decide) rfl
  have hKc := hK.sub (tys' := []) [] rfl
  have hFc := va_free (wc := [(h0, .inr (11, xfs))]) hD hS hA [0] rfl
  refine vx_calli (vx_runV (As := [.int p0, .int p1]) (rest := [.int 0, .ref o0]) ⟨hx, hb, hml, hown, hts⟩ (c_draw l hlt D h0 xfs p0 p1 s.heap.size hq) (cwV 2 hts g_v_c_L_draw_0 rfl rfl rfl (by decide +kernel) ⟨Nat.le_of_ble_eq_true rfl, Nat.le_of_ble_eq_true rfl⟩) ⟨st_blind, va_recv hKc hPc (ci := 11) (q0 := 0) rfl rfl, fun U hU hW => ⟨rfl, st_call hU hW hPc hKc hDc hZ hS hFc hE⟩⟩ rfl rfl hl.1 rfl (lv_room (Nat.le_of_ble_eq_true rfl)) dL_draw_5 ⟨Nat.le_of_ble_eq_true rfl, Nat.le_of_ble_eq_true rfl⟩) hS (fun q _ h => hFc q h) hFc (fun q _ h => hFc q h) (fun E ce q9 _ t H1 locs ht hvm hw hB hz1 hk1 hS hce hcv hcl => ?_) (fun r9 u9 t H1 locs ht hvm hw hB hz1 hk1 hS => ?_)
  · subst hB
    refine vx_catch (own := RL) (name := iSE) (E := iSE) hown [] ⟨0, 10, 13, 27⟩ [⟨0, 10, 17, 13⟩] (by rw [htab]; rfl) (fun z hz => nomatch hz) (by decide) (by decide) (hts (.classLink RL 27 iSE) (by decide +kernel)) (ev_w hE (.castable iSE iSE) (by decide) rfl) hce hcv hcl ?_
    refine lv_astore (lv' := [(4, .ref q9), (0, .ref h0), (1, .int p0), (2, .int p1), (3, .ref o0)]) hx hb dL_draw_13 hl (by decide) rfl (fun ls hl => ?_)
    refine lv_iconst (v := 1) hx hb dL_draw_15 (by decide +kernel) ?_
    exact W.iret (v := 1) hx hb hr (fun t ht hW => ⟨⟨1, (), rfl, rfl, trivial⟩, hS.F ht⟩) hS.2.2 dL_draw_16
  · exact hw.elim
noncomputable def v_c_L_again : List Cond := .codeWith yL_again cL_again 4 (some .int) [(0, 9, 12, 27), (0, 9, 15, 13)] :: ([.classLink RL 27 iSE] ++ ((wsV RL 43 RX11 yX11_again v_c_again) ++ ([])))
theorem g_v_c_L_again_0 : GoodIn v_c_L_again (wsV RL 43 RX11 yX11_again v_c_again) := goodIn_sub (fun _ h => List.mem_cons_of_mem _ (List.mem_append_right _ (List.mem_append_left _ h))) (by decide +kernel)
theorem t_v_c_L_again : ∀ w ∈ v_c_L_again, w ∈ lw_tbl := tb_c (List.mem_of_getElem? (i := 1553) (by decide +kernel)) (tb_a (tb_c (List.mem_of_getElem? (i := 1272) (by decide +kernel)) (tb_n)) (tb_a (tb_a (tb_c (List.mem_of_getElem? (i := 1554) (by decide +kernel)) (tb_c (List.mem_of_getElem? (i := 1555) (by decide +kernel)) (tb_c (List.mem_of_getElem? (i := 1556) (by decide +kernel)) (tb_c (List.mem_of_getElem? (i := 206) (by decide +kernel)) (tb_n))))) t_v_c_again) (tb_n)))
set_option maxHeartbeats 400000 in
set_option maxRecDepth 100000 in
/-- the law's again: 1 -/
theorem c_L_again (l : Launch) (D : va_G) (h0 o0 : Nat) (xfs : List Value) (p0 : Int32) (sz : Nat) (hlt : l.stackTraces = false) (hq : xfs[10]? = some (.int 0)) : Met l yL_again v_c_L_again ({ frames := 10, cells := 1, slots := 6, locals := 190 }) (va_Pc [.ref h0, .int p0, .ref o0] (st_ D [(h0, .inr (11, xfs))] [] sz)) (va_Qi (fun (r : Int32) (_ : Unit) => r = 1) (fun _ _ => True) (va_A [(h0, .inr (11, xfs))] sz)) 1 6 (va_A [(h0, .inr (11, xfs))] sz) := by
  refine va_MetW (hh := [(0, 9, 12, 27), (0, 9, 15, 13)]) (cc := cL_again) (maxL := 4) (ret := (some .int)) (by decide) rfl ?_
  intro p e s m args below meth c s₁ B hml hv
  obtain ⟨rfl, hsz, hP, hK, hD0, hZ, hE⟩ := hv
  have hx := B.exec
  have hb := B.bytes
  have hr := B.returns
  have hts := atoms_spec (ws := v_c_L_again) B.pre
  have hown : s.vm.findClass RL = some m.cls := findClass_of_methodNamed B.named
  have hlocks := B.notSynchronized
  subst hsz
  have hD := hD0.self (sz := s.heap.size)
  generalize hAe : va_A [(h0, .inr (11, xfs))] s.heap.size = A at hD hZ ⊢
  have hA : ∀ q : Nat, s.heap.size ≤ q → A q := fun q h => by rw [← hAe]; exact Or.inr h
  have hS : va_S A s.heap s.heap [] := va_S.rf
  have hAO := hE.2.2.2.1
  have hP : va_P D vwCl [(h0, .inr (11, xfs))] s.heap := hP
  have hl := lv_entry ([.ref h0, .int p0, .ref o0]) (n := 4) (Nat.le_of_ble_eq_true rfl)
  rw [lg_entry_eq]
  generalize (lg_sl ([.ref h0, .int p0, .ref o0]) ++ List.replicate (4 - (lg_sl ([.ref h0, .int p0, .ref o0])).length) Slot.unset).toArray = ls at hl ⊢
  have hl : lv_has ls 4 [(0, .ref h0), (1, .int p0), (2, .ref o0)] := hl
  have htab := vx_table (x := yL_again) B (hts (.codeWith yL_again cL_again 4 (some .int) [(0, 9, 12, 27), (0, 9, 15, 13)]) List.mem_cons_self)
  refine lv_aload_n hx hb dL_again_0 rfl (lv_at hl 2 rfl) ?_
  refine lv_iconst (v := 0) hx hb dL_again_1 (by decide +kernel) ?_
  refine lv_aload_n hx hb dL_again_2 rfl (lv_at hl 0 rfl) ?_
  refine lv_iload_n hx hb dL_again_3 rfl (lv_at hl 1 rfl) ?_
  have hPc := hP.sub (ws' := [(h0, .inr (11, xfs))]) [0] rfl
  have hDc := hD.sub (ws' := [(h0, .inr (11, xfs))]) [0] (by decide) rfl
  have hKc := hK.sub (tys' := []) [] rfl
  have hFc := va_free (wc := [(h0, .inr (11, xfs))]) hD hS hA [0] rfl
  refine vx_calli (vx_runV (As := [.int p0]) (rest := [.int 0, .ref o0]) ⟨hx, hb, hml, hown, hts⟩ (c_again l hlt D h0 xfs p0 s.heap.size hq) (cwV 1 hts g_v_c_L_again_0 rfl rfl rfl (by decide +kernel) ⟨Nat.le_of_ble_eq_true rfl, Nat.le_of_ble_eq_true rfl⟩) ⟨st_blind, va_recv hKc hPc (ci := 11) (q0 := 0) rfl rfl, fun U hU hW => ⟨rfl, st_call hU hW hPc hKc hDc hZ hS hFc hE⟩⟩ rfl rfl hl.1 rfl (lv_room (Nat.le_of_ble_eq_true rfl)) dL_again_4 ⟨Nat.le_of_ble_eq_true rfl, Nat.le_of_ble_eq_true rfl⟩) hS (fun q _ h => hFc q h) hFc (fun q _ h => hFc q h) (fun E ce q9 _ t H1 locs ht hvm hw hB hz1 hk1 hS hce hcv hcl => ?_) (fun r9 u9 t H1 locs ht hvm hw hB hz1 hk1 hS => ?_)
  · subst hB
    refine vx_catch (own := RL) (name := iSE) (E := iSE) hown [] ⟨0, 9, 12, 27⟩ [⟨0, 9, 15, 13⟩] (by rw [htab]; rfl) (fun z hz => nomatch hz) (by decide) (by decide) (hts (.classLink RL 27 iSE) (by decide +kernel)) (ev_w hE (.castable iSE iSE) (by decide) rfl) hce hcv hcl ?_
    refine lv_astore_n (lv' := [(3, .ref q9), (0, .ref h0), (1, .int p0), (2, .ref o0)]) hx hb dL_again_12 rfl hl (by decide) rfl (fun ls hl => ?_)
    refine lv_iconst (v := 1) hx hb dL_again_13 (by decide +kernel) ?_
    exact W.iret (v := 1) hx hb hr (fun t ht hW => ⟨⟨1, (), rfl, rfl, trivial⟩, hS.F ht⟩) hS.2.2 dL_again_14
  · exact hw.elim
noncomputable def v_c_L_run : List Cond := .codeWith yL_run cL_run 4 (some .int) [(0, 9, 12, 27), (0, 9, 15, 19)] :: ([.classLink RL 27 iSE] ++ ((wsV RL 46 RX11 yX11_run v_c_run) ++ ([])))
theorem g_v_c_L_run_0 : GoodIn v_c_L_run (wsV RL 46 RX11 yX11_run v_c_run) := goodIn_sub (fun _ h => List.mem_cons_of_mem _ (List.mem_append_right _ (List.mem_append_left _ h))) (by decide +kernel)
theorem t_v_c_L_run : ∀ w ∈ v_c_L_run, w ∈ lw_tbl := tb_c (List.mem_of_getElem? (i := 1561) (by decide +kernel)) (tb_a (tb_c (List.mem_of_getElem? (i := 1272) (by decide +kernel)) (tb_n)) (tb_a (tb_a (tb_c (List.mem_of_getElem? (i := 1562) (by decide +kernel)) (tb_c (List.mem_of_getElem? (i := 1563) (by decide +kernel)) (tb_c (List.mem_of_getElem? (i := 1564) (by decide +kernel)) (tb_c (List.mem_of_getElem? (i := 206) (by decide +kernel)) (tb_n))))) t_v_c_run) (tb_n)))
set_option maxHeartbeats 400000 in
set_option maxRecDepth 100000 in
/-- the law's run: 1 -/
theorem c_L_run (l : Launch) (D : va_G) (h0 o0 : Nat) (xfs : List Value) (p0 : Int32) (sz : Nat) (hlt : l.stackTraces = false) (hq : xfs[10]? = some (.int 0)) : Met l yL_run v_c_L_run ({ frames := 10, cells := 1, slots := 6, locals := 190 }) (va_Pc [.ref h0, .int p0, .ref o0] (st_ D [(h0, .inr (11, xfs))] [] sz)) (va_Qi (fun (r : Int32) (_ : Unit) => r = 1) (fun _ _ => True) (va_A [(h0, .inr (11, xfs))] sz)) 1 6 (va_A [(h0, .inr (11, xfs))] sz) := by
  refine va_MetW (hh := [(0, 9, 12, 27), (0, 9, 15, 19)]) (cc := cL_run) (maxL := 4) (ret := (some .int)) (by decide) rfl ?_
  intro p e s m args below meth c s₁ B hml hv
  obtain ⟨rfl, hsz, hP, hK, hD0, hZ, hE⟩ := hv
  have hx := B.exec
  have hb := B.bytes
  have hr := B.returns
  have hts := atoms_spec (ws := v_c_L_run) B.pre
  have hown : s.vm.findClass RL = some m.cls := findClass_of_methodNamed B.named
  have hlocks := B.notSynchronized
  subst hsz
  have hD := hD0.self (sz := s.heap.size)
  generalize hAe : va_A [(h0, .inr (11, xfs))] s.heap.size = A at hD hZ ⊢
  have hA : ∀ q : Nat, s.heap.size ≤ q → A q := fun q h => by rw [← hAe]; exact Or.inr h
  have hS : va_S A s.heap s.heap [] := va_S.rf
  have hAO := hE.2.2.2.1
  have hP : va_P D vwCl [(h0, .inr (11, xfs))] s.heap := hP
  have hl := lv_entry ([.ref h0, .int p0, .ref o0]) (n := 4) (Nat.le_of_ble_eq_true rfl)
  rw [lg_entry_eq]
  generalize (lg_sl ([.ref h0, .int p0, .ref o0]) ++ List.replicate (4 - (lg_sl ([.ref h0, .int p0, .ref o0])).length) Slot.unset).toArray = ls at hl ⊢
  have hl : lv_has ls 4 [(0, .ref h0), (1, .int p0), (2, .ref o0)] := hl
  have htab := vx_table (x := yL_run) B (hts (.codeWith yL_run cL_run 4 (some .int) [(0, 9, 12, 27), (0, 9, 15, 19)]) List.mem_cons_self)
  refine lv_aload_n hx hb dL_run_0 rfl (lv_at hl 2 rfl) ?_
  refine lv_iconst (v := 0) hx hb dL_run_1 (by decide +kernel) ?_
  refine lv_aload_n hx hb dL_run_2 rfl (lv_at hl 0 rfl) ?_
  refine lv_iload_n hx hb dL_run_3 rfl (lv_at hl 1 rfl) ?_
  have hPc := hP.sub (ws' := [(h0, .inr (11, xfs))]) [0] rfl
  have hDc := hD.sub (ws' := [(h0, .inr (11, xfs))]) [0] (by decide) rfl
  have hKc := hK.sub (tys' := []) [] rfl
  have hFc := va_free (wc := [(h0, .inr (11, xfs))]) hD hS hA [0] rfl
  refine vx_calli (vx_runV (As := [.int p0]) (rest := [.int 0, .ref o0]) ⟨hx, hb, hml, hown, hts⟩ (c_run l hlt D h0 xfs p0 s.heap.size hq) (cwV 1 hts g_v_c_L_run_0 rfl rfl rfl (by decide +kernel) ⟨Nat.le_of_ble_eq_true rfl, Nat.le_of_ble_eq_true rfl⟩) ⟨st_blind, va_recv hKc hPc (ci := 11) (q0 := 0) rfl rfl, fun U hU hW => ⟨rfl, st_call hU hW hPc hKc hDc hZ hS hFc hE⟩⟩ rfl rfl hl.1 rfl (lv_room (Nat.le_of_ble_eq_true rfl)) dL_run_4 ⟨Nat.le_of_ble_eq_true rfl, Nat.le_of_ble_eq_true rfl⟩) hS (fun q _ h => hFc q h) hFc (fun q _ h => hFc q h) (fun E ce q9 _ t H1 locs ht hvm hw hB hz1 hk1 hS hce hcv hcl => ?_) (fun r9 u9 t H1 locs ht hvm hw hB hz1 hk1 hS => ?_)
  · subst hB
    refine vx_catch (own := RL) (name := iSE) (E := iSE) hown [] ⟨0, 9, 12, 27⟩ [⟨0, 9, 15, 19⟩] (by rw [htab]; rfl) (fun z hz => nomatch hz) (by decide) (by decide) (hts (.classLink RL 27 iSE) (by decide +kernel)) (ev_w hE (.castable iSE iSE) (by decide) rfl) hce hcv hcl ?_
    refine lv_astore_n (lv' := [(3, .ref q9), (0, .ref h0), (1, .int p0), (2, .ref o0)]) hx hb dL_run_12 rfl hl (by decide) rfl (fun ls hl => ?_)
    refine lv_iconst (v := 1) hx hb dL_run_13 (by decide +kernel) ?_
    exact W.iret (v := 1) hx hb hr (fun t ht hW => ⟨⟨1, (), rfl, rfl, trivial⟩, hS.F ht⟩) hS.2.2 dL_run_14
  · exact hw.elim
noncomputable def v_c_L_cell : List Cond := .codeWith yL_cell cL_cell 4 (some .int) [(0, 9, 12, 27), (0, 9, 15, 19)] :: ([.classLink RL 27 iSE] ++ ((wsV RL 49 RX11 yX11_cell v_c_cell) ++ ([])))
theorem g_v_c_L_cell_0 : GoodIn v_c_L_cell (wsV RL 49 RX11 yX11_cell v_c_cell) := goodIn_sub (fun _ h => List.mem_cons_of_mem _ (List.mem_append_right _ (List.mem_append_left _ h))) (by decide +kernel)
theorem t_v_c_L_cell : ∀ w ∈ v_c_L_cell, w ∈ lw_tbl := tb_c (List.mem_of_getElem? (i := 1584) (by decide +kernel)) (tb_a (tb_c (List.mem_of_getElem? (i := 1272) (by decide +kernel)) (tb_n)) (tb_a (tb_a (tb_c (List.mem_of_getElem? (i := 1585) (by decide +kernel)) (tb_c (List.mem_of_getElem? (i := 1586) (by decide +kernel)) (tb_c (List.mem_of_getElem? (i := 1587) (by decide +kernel)) (tb_c (List.mem_of_getElem? (i := 206) (by decide +kernel)) (tb_n))))) t_v_c_cell) (tb_n)))
set_option maxHeartbeats 400000 in
set_option maxRecDepth 100000 in
/-- the law's cell: 1 -/
theorem c_L_cell (l : Launch) (D : va_G) (h0 o0 : Nat) (xfs : List Value) (p0 : Int32) (sz : Nat) (hlt : l.stackTraces = false) (hq : xfs[10]? = some (.int 0)) : Met l yL_cell v_c_L_cell ({ frames := 10, cells := 1, slots := 6, locals := 190 }) (va_Pc [.ref h0, .int p0, .ref o0] (st_ D [(h0, .inr (11, xfs))] [] sz)) (va_Qi (fun (r : Int32) (_ : Unit) => r = 1) (fun _ _ => True) (va_A [(h0, .inr (11, xfs))] sz)) 1 6 (va_A [(h0, .inr (11, xfs))] sz) := by
  refine va_MetW (hh := [(0, 9, 12, 27), (0, 9, 15, 19)]) (cc := cL_cell) (maxL := 4) (ret := (some .int)) (by decide) rfl ?_
  intro p e s m args below meth c s₁ B hml hv
  obtain ⟨rfl, hsz, hP, hK, hD0, hZ, hE⟩ := hv
  have hx := B.exec
  have hb := B.bytes
  have hr := B.returns
  have hts := atoms_spec (ws := v_c_L_cell) B.pre
  have hown : s.vm.findClass RL = some m.cls := findClass_of_methodNamed B.named
  have hlocks := B.notSynchronized
  subst hsz
  have hD := hD0.self (sz := s.heap.size)
  generalize hAe : va_A [(h0, .inr (11, xfs))] s.heap.size = A at hD hZ ⊢
  have hA : ∀ q : Nat, s.heap.size ≤ q → A q := fun q h => by rw [← hAe]; exact Or.inr h
  have hS : va_S A s.heap s.heap [] := va_S.rf
  have hAO := hE.2.2.2.1
  have hP : va_P D vwCl [(h0, .inr (11, xfs))] s.heap := hP
  have hl := lv_entry ([.ref h0, .int p0, .ref o0]) (n := 4) (Nat.le_of_ble_eq_true rfl)
  rw [lg_entry_eq]
  generalize (lg_sl ([.ref h0, .int p0, .ref o0]) ++ List.replicate (4 - (lg_sl ([.ref h0, .int p0, .ref o0])).length) Slot.unset).toArray = ls at hl ⊢
  have hl : lv_has ls 4 [(0, .ref h0), (1, .int p0), (2, .ref o0)] := hl
  have htab := vx_table (x := yL_cell) B (hts (.codeWith yL_cell cL_cell 4 (some .int) [(0, 9, 12, 27), (0, 9, 15, 19)]) List.mem_cons_self)
  refine lv_aload_n hx hb dL_cell_0 rfl (lv_at hl 2 rfl) ?_
  refine lv_iconst (v := 0) hx hb dL_cell_1 (by decide +kernel) ?_
  refine lv_aload_n hx hb dL_cell_2 rfl (lv_at hl 0 rfl) ?_
  refine lv_iload_n hx hb dL_cell_3 rfl (lv_at hl 1 rfl) ?_
  have hPc := hP.sub (ws' := [(h0, .inr (11, xfs))]) [0] rfl
  have hDc := hD.sub (ws' := [(h0, .inr (11, xfs))]) [0] (by decide) rfl
  have hKc := hK.sub (tys' := []) [] rfl
  have hFc := va_free (wc := [(h0, .inr (11, xfs))]) hD hS hA [0] rfl
  refine vx_calli (vx_runV (As := [.int p0]) (rest := [.int 0, .ref o0]) ⟨hx, hb, hml, hown, hts⟩ (c_cell l hlt D h0 xfs p0 s.heap.size hq) (cwV 1 hts g_v_c_L_cell_0 rfl rfl rfl (by decide +kernel) ⟨Nat.le_of_ble_eq_true rfl, Nat.le_of_ble_eq_true rfl⟩) ⟨st_blind, va_recv hKc hPc (ci := 11) (q0 := 0) rfl rfl, fun U hU hW => ⟨rfl, st_call hU hW hPc hKc hDc hZ hS hFc hE⟩⟩ rfl rfl hl.1 rfl (lv_room (Nat.le_of_ble_eq_true rfl)) dL_cell_4 ⟨Nat.le_of_ble_eq_true rfl, Nat.le_of_ble_eq_true rfl⟩) hS (fun q _ h => hFc q h) hFc (fun q _ h => hFc q h) (fun E ce q9 _ t H1 locs ht hvm hw hB hz1 hk1 hS hce hcv hcl => ?_) (fun r9 u9 t H1 locs ht hvm hw hB hz1 hk1 hS => ?_)
  · subst hB
    refine vx_catch (own := RL) (name := iSE) (E := iSE) hown [] ⟨0, 9, 12, 27⟩ [⟨0, 9, 15, 19⟩] (by rw [htab]; rfl) (fun z hz => nomatch hz) (by decide) (by decide) (hts (.classLink RL 27 iSE) (by decide +kernel)) (ev_w hE (.castable iSE iSE) (by decide) rfl) hce hcv hcl ?_
    refine lv_astore_n (lv' := [(3, .ref q9), (0, .ref h0), (1, .int p0), (2, .ref o0)]) hx hb dL_cell_12 rfl hl (by decide) rfl (fun ls hl => ?_)
    refine lv_iconst (v := 1) hx hb dL_cell_13 (by decide +kernel) ?_
    exact W.iret (v := 1) hx hb hr (fun t ht hW => ⟨⟨1, (), rfl, rfl, trivial⟩, hS.F ht⟩) hS.2.2 dL_cell_14
  · exact hw.elim
noncomputable def v_c_L_seen : List Cond := .codeWith yL_seen cL_seen 5 (some .int) [(0, 10, 13, 27), (0, 10, 17, 19)] :: ([.classLink RL 27 iSE] ++ ((wsV RL 52 RX11 yX11_seen v_c_seen) ++ ([])))
theorem g_v_c_L_seen_0 : GoodIn v_c_L_seen (wsV RL 52 RX11 yX11_seen v_c_seen) := goodIn_sub (fun _ h => List.mem_cons_of_mem _ (List.mem_append_right _ (List.mem_append_left _ h))) (by decide +kernel)
theorem t_v_c_L_seen : ∀ w ∈ v_c_L_seen, w ∈ lw_tbl := tb_c (List.mem_of_getElem? (i := 1591) (by decide +kernel)) (tb_a (tb_c (List.mem_of_getElem? (i := 1272) (by decide +kernel)) (tb_n)) (tb_a (tb_a (tb_c (List.mem_of_getElem? (i := 1592) (by decide +kernel)) (tb_c (List.mem_of_getElem? (i := 1593) (by decide +kernel)) (tb_c (List.mem_of_getElem? (i := 1594) (by decide +kernel)) (tb_c (List.mem_of_getElem? (i := 206) (by decide +kernel)) (tb_n))))) t_v_c_seen) (tb_n)))
set_option maxHeartbeats 400000 in
set_option maxRecDepth 100000 in
/-- the law's seen: 1 -/
theorem c_L_seen (l : Launch) (D : va_G) (h0 o0 : Nat) (xfs : List Value) (p0 p1 : Int32) (sz : Nat) (hlt : l.stackTraces = false) (hq : xfs[10]? = some (.int 0)) : Met l yL_seen v_c_L_seen ({ frames := 10, cells := 1, slots := 6, locals := 190 }) (va_Pc [.ref h0, .int p0, .int p1, .ref o0] (st_ D [(h0, .inr (11, xfs))] [] sz)) (va_Qi (fun (r : Int32) (_ : Unit) => r = 1) (fun _ _ => True) (va_A [(h0, .inr (11, xfs))] sz)) 1 6 (va_A [(h0, .inr (11, xfs))] sz) := by
  refine va_MetW (hh := [(0, 10, 13, 27), (0, 10, 17, 19)]) (cc := cL_seen) (maxL := 5) (ret := (some .int)) (by decide) rfl ?_
  intro p e s m args below meth c s₁ B hml hv
  obtain ⟨rfl, hsz, hP, hK, hD0, hZ, hE⟩ := hv
  have hx := B.exec
  have hb := B.bytes
  have hr := B.returns
  have hts := atoms_spec (ws := v_c_L_seen) B.pre
  have hown : s.vm.findClass RL = some m.cls := findClass_of_methodNamed B.named
  have hlocks := B.notSynchronized
  subst hsz
  have hD := hD0.self (sz := s.heap.size)
  generalize hAe : va_A [(h0, .inr (11, xfs))] s.heap.size = A at hD hZ ⊢
  have hA : ∀ q : Nat, s.heap.size ≤ q → A q := fun q h => by rw [← hAe]; exact Or.inr h
  have hS : va_S A s.heap s.heap [] := va_S.rf
  have hAO := hE.2.2.2.1
  have hP : va_P D vwCl [(h0, .inr (11, xfs))] s.heap := hP
  have hl := lv_entry ([.ref h0, .int p0, .int p1, .ref o0]) (n := 5) (Nat.le_of_ble_eq_true rfl)
  rw [lg_entry_eq]
  generalize (lg_sl ([.ref h0, .int p0, .int p1, .ref o0]) ++ List.replicate (5 - (lg_sl ([.ref h0, .int p0, .int p1, .ref o0])).length) Slot.unset).toArray = ls at hl ⊢
  have hl : lv_has ls 5 [(0, .ref h0), (1, .int p0), (2, .int p1), (3, .ref o0)] := hl
  have htab := vx_table (x := yL_seen) B (hts (.codeWith yL_seen cL_seen 5 (some .int) [(0, 10, 13, 27), (0, 10, 17, 19)]) List.mem_cons_self)
  refine lv_aload_n hx hb dL_seen_0 rfl (lv_at hl 3 rfl) ?_
  refine lv_iconst (v := 0) hx hb dL_seen_1 (by decide +kernel) ?_
  refine lv_aload_n hx hb dL_seen_2 rfl (lv_at hl 0 rfl) ?_
  refine lv_iload_n hx hb dL_seen_3 rfl (lv_at hl 1 rfl) ?_
  refine lv_iload_n hx hb dL_seen_4 rfl (lv_at hl 2 rfl) ?_
  have hPc := hP.sub (ws' := [(h0, .inr (11, xfs))]) [0] rfl
  have hDc := hD.sub (ws' := [(h0, .inr (11, xfs))]) [0] (by decide) rfl
  have hKc := hK.sub (tys' := []) [] rfl
  have hFc := va_free (wc := [(h0, .inr (11, xfs))]) hD hS hA [0] rfl
  refine vx_calli (vx_runV (As := [.int p0, .int p1]) (rest := [.int 0, .ref o0]) ⟨hx, hb, hml, hown, hts⟩ (c_seen l hlt D h0 xfs p0 p1 s.heap.size hq) (cwV 2 hts g_v_c_L_seen_0 rfl rfl rfl (by decide +kernel) ⟨Nat.le_of_ble_eq_true rfl, Nat.le_of_ble_eq_true rfl⟩) ⟨st_blind, va_recv hKc hPc (ci := 11) (q0 := 0) rfl rfl, fun U hU hW => ⟨rfl, st_call hU hW hPc hKc hDc hZ hS hFc hE⟩⟩ rfl rfl hl.1 rfl (lv_room (Nat.le_of_ble_eq_true rfl)) dL_seen_5 ⟨Nat.le_of_ble_eq_true rfl, Nat.le_of_ble_eq_true rfl⟩) hS (fun q _ h => hFc q h) hFc (fun q _ h => hFc q h) (fun E ce q9 _ t H1 locs ht hvm hw hB hz1 hk1 hS hce hcv hcl => ?_) (fun r9 u9 t H1 locs ht hvm hw hB hz1 hk1 hS => ?_)
  · subst hB
    refine vx_catch (own := RL) (name := iSE) (E := iSE) hown [] ⟨0, 10, 13, 27⟩ [⟨0, 10, 17, 19⟩] (by rw [htab]; rfl) (fun z hz => nomatch hz) (by decide) (by decide) (hts (.classLink RL 27 iSE) (by decide +kernel)) (ev_w hE (.castable iSE iSE) (by decide) rfl) hce hcv hcl ?_
    refine lv_astore (lv' := [(4, .ref q9), (0, .ref h0), (1, .int p0), (2, .int p1), (3, .ref o0)]) hx hb dL_seen_13 hl (by decide) rfl (fun ls hl => ?_)
    refine lv_iconst (v := 1) hx hb dL_seen_15 (by decide +kernel) ?_
    exact W.iret (v := 1) hx hb hr (fun t ht hW => ⟨⟨1, (), rfl, rfl, trivial⟩, hS.F ht⟩) hS.2.2 dL_seen_16
  · exact hw.elim
noncomputable def v_c_L_lock : List Cond := .codeWith yL_lock cL_lock 5 (some .int) [(0, 10, 13, 27), (0, 10, 17, 19)] :: ([.classLink RL 27 iSE] ++ ((wsV RL 55 RX11 yX11_lock v_c_lock) ++ ([])))
theorem g_v_c_L_lock_0 : GoodIn v_c_L_lock (wsV RL 55 RX11 yX11_lock v_c_lock) := goodIn_sub (fun _ h => List.mem_cons_of_mem _ (List.mem_append_right _ (List.mem_append_left _ h))) (by decide +kernel)
theorem t_v_c_L_lock : ∀ w ∈ v_c_L_lock, w ∈ lw_tbl := tb_c (List.mem_of_getElem? (i := 1599) (by decide +kernel)) (tb_a (tb_c (List.mem_of_getElem? (i := 1272) (by decide +kernel)) (tb_n)) (tb_a (tb_a (tb_c (List.mem_of_getElem? (i := 1600) (by decide +kernel)) (tb_c (List.mem_of_getElem? (i := 1601) (by decide +kernel)) (tb_c (List.mem_of_getElem? (i := 1602) (by decide +kernel)) (tb_c (List.mem_of_getElem? (i := 206) (by decide +kernel)) (tb_n))))) t_v_c_lock) (tb_n)))
set_option maxHeartbeats 400000 in
set_option maxRecDepth 100000 in
/-- the law's lock: 1 -/
theorem c_L_lock (l : Launch) (D : va_G) (h0 o0 : Nat) (xfs : List Value) (p0 p1 : Int32) (sz : Nat) (hlt : l.stackTraces = false) (hq : xfs[10]? = some (.int 0)) : Met l yL_lock v_c_L_lock ({ frames := 10, cells := 1, slots := 6, locals := 190 }) (va_Pc [.ref h0, .int p0, .int p1, .ref o0] (st_ D [(h0, .inr (11, xfs))] [] sz)) (va_Qi (fun (r : Int32) (_ : Unit) => r = 1) (fun _ _ => True) (va_A [(h0, .inr (11, xfs))] sz)) 1 6 (va_A [(h0, .inr (11, xfs))] sz) := by
  refine va_MetW (hh := [(0, 10, 13, 27), (0, 10, 17, 19)]) (cc := cL_lock) (maxL := 5) (ret := (some .int)) (by decide) rfl ?_
  intro p e s m args below meth c s₁ B hml hv
  obtain ⟨rfl, hsz, hP, hK, hD0, hZ, hE⟩ := hv
  have hx := B.exec
  have hb := B.bytes
  have hr := B.returns
  have hts := atoms_spec (ws := v_c_L_lock) B.pre
  have hown : s.vm.findClass RL = some m.cls := findClass_of_methodNamed B.named
  have hlocks := B.notSynchronized
  subst hsz
  have hD := hD0.self (sz := s.heap.size)
  generalize hAe : va_A [(h0, .inr (11, xfs))] s.heap.size = A at hD hZ ⊢
  have hA : ∀ q : Nat, s.heap.size ≤ q → A q := fun q h => by rw [← hAe]; exact Or.inr h
  have hS : va_S A s.heap s.heap [] := va_S.rf
  have hAO := hE.2.2.2.1
  have hP : va_P D vwCl [(h0, .inr (11, xfs))] s.heap := hP
  have hl := lv_entry ([.ref h0, .int p0, .int p1, .ref o0]) (n := 5) (Nat.le_of_ble_eq_true rfl)
  rw [lg_entry_eq]
  generalize (lg_sl ([.ref h0, .int p0, .int p1, .ref o0]) ++ List.replicate (5 - (lg_sl ([.ref h0, .int p0, .int p1, .ref o0])).length) Slot.unset).toArray = ls at hl ⊢
  have hl : lv_has ls 5 [(0, .ref h0), (1, .int p0), (2, .int p1), (3, .ref o0)] := hl
  have htab := vx_table (x := yL_lock) B (hts (.codeWith yL_lock cL_lock 5 (some .int) [(0, 10, 13, 27), (0, 10, 17, 19)]) List.mem_cons_self)
  refine lv_aload_n hx hb dL_lock_0 rfl (lv_at hl 3 rfl) ?_
  refine lv_iconst (v := 0) hx hb dL_lock_1 (by decide +kernel) ?_
  refine lv_aload_n hx hb dL_lock_2 rfl (lv_at hl 0 rfl) ?_
  refine lv_iload_n hx hb dL_lock_3 rfl (lv_at hl 1 rfl) ?_
  refine lv_iload_n hx hb dL_lock_4 rfl (lv_at hl 2 rfl) ?_
  have hPc := hP.sub (ws' := [(h0, .inr (11, xfs))]) [0] rfl
  have hDc := hD.sub (ws' := [(h0, .inr (11, xfs))]) [0] (by decide) rfl
  have hKc := hK.sub (tys' := []) [] rfl
  have hFc := va_free (wc := [(h0, .inr (11, xfs))]) hD hS hA [0] rfl
  refine vx_calli (vx_runV (As := [.int p0, .int p1]) (rest := [.int 0, .ref o0]) ⟨hx, hb, hml, hown, hts⟩ (c_lock l hlt D h0 xfs p0 p1 s.heap.size hq) (cwV 2 hts g_v_c_L_lock_0 rfl rfl rfl (by decide +kernel) ⟨Nat.le_of_ble_eq_true rfl, Nat.le_of_ble_eq_true rfl⟩) ⟨st_blind, va_recv hKc hPc (ci := 11) (q0 := 0) rfl rfl, fun U hU hW => ⟨rfl, st_call hU hW hPc hKc hDc hZ hS hFc hE⟩⟩ rfl rfl hl.1 rfl (lv_room (Nat.le_of_ble_eq_true rfl)) dL_lock_5 ⟨Nat.le_of_ble_eq_true rfl, Nat.le_of_ble_eq_true rfl⟩) hS (fun q _ h => hFc q h) hFc (fun q _ h => hFc q h) (fun E ce q9 _ t H1 locs ht hvm hw hB hz1 hk1 hS hce hcv hcl => ?_) (fun r9 u9 t H1 locs ht hvm hw hB hz1 hk1 hS => ?_)
  · subst hB
    refine vx_catch (own := RL) (name := iSE) (E := iSE) hown [] ⟨0, 10, 13, 27⟩ [⟨0, 10, 17, 19⟩] (by rw [htab]; rfl) (fun z hz => nomatch hz) (by decide) (by decide) (hts (.classLink RL 27 iSE) (by decide +kernel)) (ev_w hE (.castable iSE iSE) (by decide) rfl) hce hcv hcl ?_
    refine lv_astore (lv' := [(4, .ref q9), (0, .ref h0), (1, .int p0), (2, .int p1), (3, .ref o0)]) hx hb dL_lock_13 hl (by decide) rfl (fun ls hl => ?_)
    refine lv_iconst (v := 1) hx hb dL_lock_15 (by decide +kernel) ?_
    exact W.iret (v := 1) hx hb hr (fun t ht hW => ⟨⟨1, (), rfl, rfl, trivial⟩, hS.F ht⟩) hS.2.2 dL_lock_16
  · exact hw.elim
noncomputable def v_c_L_thread : List Cond := .codeWith yL_thread cL_thread 5 (some .int) [(0, 10, 13, 27), (0, 10, 17, 19)] :: ([.classLink RL 27 iSE] ++ ((wsV RL 58 RX11 yX11_thread v_c_thread) ++ ([])))
theorem g_v_c_L_thread_0 : GoodIn v_c_L_thread (wsV RL 58 RX11 yX11_thread v_c_thread) := goodIn_sub (fun _ h => List.mem_cons_of_mem _ (List.mem_append_right _ (List.mem_append_left _ h))) (by decide +kernel)
theorem t_v_c_L_thread : ∀ w ∈ v_c_L_thread, w ∈ lw_tbl := tb_c (List.mem_of_getElem? (i := 1615) (by decide +kernel)) (tb_a (tb_c (List.mem_of_getElem? (i := 1272) (by decide +kernel)) (tb_n)) (tb_a (tb_a (tb_c (List.mem_of_getElem? (i := 1616) (by decide +kernel)) (tb_c (List.mem_of_getElem? (i := 1617) (by decide +kernel)) (tb_c (List.mem_of_getElem? (i := 1618) (by decide +kernel)) (tb_c (List.mem_of_getElem? (i := 206) (by decide +kernel)) (tb_n))))) t_v_c_thread) (tb_n)))
set_option maxHeartbeats 400000 in
set_option maxRecDepth 100000 in
/-- the law's thread: 1 -/
theorem c_L_thread (l : Launch) (D : va_G) (h0 o0 : Nat) (xfs : List Value) (p0 p1 : Int32) (sz : Nat) (hlt : l.stackTraces = false) (hq : xfs[10]? = some (.int 0)) : Met l yL_thread v_c_L_thread ({ frames := 10, cells := 1, slots := 6, locals := 190 }) (va_Pc [.ref h0, .int p0, .int p1, .ref o0] (st_ D [(h0, .inr (11, xfs))] [] sz)) (va_Qi (fun (r : Int32) (_ : Unit) => r = 1) (fun _ _ => True) (va_A [(h0, .inr (11, xfs))] sz)) 1 6 (va_A [(h0, .inr (11, xfs))] sz) := by
  refine va_MetW (hh := [(0, 10, 13, 27), (0, 10, 17, 19)]) (cc := cL_thread) (maxL := 5) (ret := (some .int)) (by decide) rfl ?_
  intro p e s m args below meth c s₁ B hml hv
  obtain ⟨rfl, hsz, hP, hK, hD0, hZ, hE⟩ := hv
  have hx := B.exec
  have hb := B.bytes
  have hr := B.returns
  have hts := atoms_spec (ws := v_c_L_thread) B.pre
  have hown : s.vm.findClass RL = some m.cls := findClass_of_methodNamed B.named
  have hlocks := B.notSynchronized
  subst hsz
  have hD := hD0.self (sz := s.heap.size)
  generalize hAe : va_A [(h0, .inr (11, xfs))] s.heap.size = A at hD hZ ⊢
  have hA : ∀ q : Nat, s.heap.size ≤ q → A q := fun q h => by rw [← hAe]; exact Or.inr h
  have hS : va_S A s.heap s.heap [] := va_S.rf
  have hAO := hE.2.2.2.1
  have hP : va_P D vwCl [(h0, .inr (11, xfs))] s.heap := hP
  have hl := lv_entry ([.ref h0, .int p0, .int p1, .ref o0]) (n := 5) (Nat.le_of_ble_eq_true rfl)
  rw [lg_entry_eq]
  generalize (lg_sl ([.ref h0, .int p0, .int p1, .ref o0]) ++ List.replicate (5 - (lg_sl ([.ref h0, .int p0, .int p1, .ref o0])).length) Slot.unset).toArray = ls at hl ⊢
  have hl : lv_has ls 5 [(0, .ref h0), (1, .int p0), (2, .int p1), (3, .ref o0)] := hl
  have htab := vx_table (x := yL_thread) B (hts (.codeWith yL_thread cL_thread 5 (some .int) [(0, 10, 13, 27), (0, 10, 17, 19)]) List.mem_cons_self)
  refine lv_aload_n hx hb dL_thread_0 rfl (lv_at hl 3 rfl) ?_
  refine lv_iconst (v := 0) hx hb dL_thread_1 (by decide +kernel) ?_
  refine lv_aload_n hx hb dL_thread_2 rfl (lv_at hl 0 rfl) ?_
  refine lv_iload_n hx hb dL_thread_3 rfl (lv_at hl 1 rfl) ?_
  refine lv_iload_n hx hb dL_thread_4 rfl (lv_at hl 2 rfl) ?_
  have hPc := hP.sub (ws' := [(h0, .inr (11, xfs))]) [0] rfl
  have hDc := hD.sub (ws' := [(h0, .inr (11, xfs))]) [0] (by decide) rfl
  have hKc := hK.sub (tys' := []) [] rfl
  have hFc := va_free (wc := [(h0, .inr (11, xfs))]) hD hS hA [0] rfl
  refine vx_calli (vx_runV (As := [.int p0, .int p1]) (rest := [.int 0, .ref o0]) ⟨hx, hb, hml, hown, hts⟩ (c_thread l hlt D h0 xfs p0 p1 s.heap.size hq) (cwV 2 hts g_v_c_L_thread_0 rfl rfl rfl (by decide +kernel) ⟨Nat.le_of_ble_eq_true rfl, Nat.le_of_ble_eq_true rfl⟩) ⟨st_blind, va_recv hKc hPc (ci := 11) (q0 := 0) rfl rfl, fun U hU hW => ⟨rfl, st_call hU hW hPc hKc hDc hZ hS hFc hE⟩⟩ rfl rfl hl.1 rfl (lv_room (Nat.le_of_ble_eq_true rfl)) dL_thread_5 ⟨Nat.le_of_ble_eq_true rfl, Nat.le_of_ble_eq_true rfl⟩) hS (fun q _ h => hFc q h) hFc (fun q _ h => hFc q h) (fun E ce q9 _ t H1 locs ht hvm hw hB hz1 hk1 hS hce hcv hcl => ?_) (fun r9 u9 t H1 locs ht hvm hw hB hz1 hk1 hS => ?_)
  · subst hB
    refine vx_catch (own := RL) (name := iSE) (E := iSE) hown [] ⟨0, 10, 13, 27⟩ [⟨0, 10, 17, 19⟩] (by rw [htab]; rfl) (fun z hz => nomatch hz) (by decide) (by decide) (hts (.classLink RL 27 iSE) (by decide +kernel)) (ev_w hE (.castable iSE iSE) (by decide) rfl) hce hcv hcl ?_
    refine lv_astore (lv' := [(4, .ref q9), (0, .ref h0), (1, .int p0), (2, .int p1), (3, .ref o0)]) hx hb dL_thread_13 hl (by decide) rfl (fun ls hl => ?_)
    refine lv_iconst (v := 1) hx hb dL_thread_15 (by decide +kernel) ?_
    exact W.iret (v := 1) hx hb hr (fun t ht hW => ⟨⟨1, (), rfl, rfl, trivial⟩, hS.F ht⟩) hS.2.2 dL_thread_16
  · exact hw.elim
noncomputable def v_c_L_local : List Cond := .codeWith yL_local cL_local 5 (some .int) [(0, 10, 13, 27), (0, 10, 17, 19)] :: ([.classLink RL 27 iSE] ++ ((wsV RL 61 RX11 yX11_local v_c_local) ++ ([])))
theorem g_v_c_L_local_0 : GoodIn v_c_L_local (wsV RL 61 RX11 yX11_local v_c_local) := goodIn_sub (fun _ h => List.mem_cons_of_mem _ (List.mem_append_right _ (List.mem_append_left _ h))) (by decide +kernel)
theorem t_v_c_L_local : ∀ w ∈ v_c_L_local, w ∈ lw_tbl := tb_c (List.mem_of_getElem? (i := 1628) (by decide +kernel)) (tb_a (tb_c (List.mem_of_getElem? (i := 1272) (by decide +kernel)) (tb_n)) (tb_a (tb_a (tb_c (List.mem_of_getElem? (i := 1629) (by decide +kernel)) (tb_c (List.mem_of_getElem? (i := 1630) (by decide +kernel)) (tb_c (List.mem_of_getElem? (i := 1631) (by decide +kernel)) (tb_c (List.mem_of_getElem? (i := 206) (by decide +kernel)) (tb_n))))) t_v_c_local) (tb_n)))
set_option maxHeartbeats 400000 in
set_option maxRecDepth 100000 in
/-- the law's local: 1 -/
theorem c_L_local (l : Launch) (D : va_G) (h0 o0 : Nat) (xfs : List Value) (p0 p1 : Int32) (sz : Nat) (hlt : l.stackTraces = false) (hq : xfs[10]? = some (.int 0)) : Met l yL_local v_c_L_local ({ frames := 10, cells := 1, slots := 6, locals := 190 }) (va_Pc [.ref h0, .int p0, .int p1, .ref o0] (st_ D [(h0, .inr (11, xfs))] [] sz)) (va_Qi (fun (r : Int32) (_ : Unit) => r = 1) (fun _ _ => True) (va_A [(h0, .inr (11, xfs))] sz)) 1 6 (va_A [(h0, .inr (11, xfs))] sz) := by
  refine va_MetW (hh := [(0, 10, 13, 27), (0, 10, 17, 19)]) (cc := cL_local) (maxL := 5) (ret := (some .int)) (by decide) rfl ?_
  intro p e s m args below meth c s₁ B hml hv
  obtain ⟨rfl, hsz, hP, hK, hD0, hZ, hE⟩ := hv
  have hx := B.exec
  have hb := B.bytes
  have hr := B.returns
  have hts := atoms_spec (ws := v_c_L_local) B.pre
  have hown : s.vm.findClass RL = some m.cls := findClass_of_methodNamed B.named
  have hlocks := B.notSynchronized
  subst hsz
  have hD := hD0.self (sz := s.heap.size)
  generalize hAe : va_A [(h0, .inr (11, xfs))] s.heap.size = A at hD hZ ⊢
  have hA : ∀ q : Nat, s.heap.size ≤ q → A q := fun q h => by rw [← hAe]; exact Or.inr h
  have hS : va_S A s.heap s.heap [] := va_S.rf
  have hAO := hE.2.2.2.1
  have hP : va_P D vwCl [(h0, .inr (11, xfs))] s.heap := hP
  have hl := lv_entry ([.ref h0, .int p0, .int p1, .ref o0]) (n := 5) (Nat.le_of_ble_eq_true rfl)
  rw [lg_entry_eq]
  generalize (lg_sl ([.ref h0, .int p0, .int p1, .ref o0]) ++ List.replicate (5 - (lg_sl ([.ref h0, .int p0, .int p1, .ref o0])).length) Slot.unset).toArray = ls at hl ⊢
  have hl : lv_has ls 5 [(0, .ref h0), (1, .int p0), (2, .int p1), (3, .ref o0)] := hl
  have htab := vx_table (x := yL_local) B (hts (.codeWith yL_local cL_local 5 (some .int) [(0, 10, 13, 27), (0, 10, 17, 19)]) List.mem_cons_self)
  refine lv_aload_n hx hb dL_local_0 rfl (lv_at hl 3 rfl) ?_
  refine lv_iconst (v := 0) hx hb dL_local_1 (by decide +kernel) ?_
  refine lv_aload_n hx hb dL_local_2 rfl (lv_at hl 0 rfl) ?_
  refine lv_iload_n hx hb dL_local_3 rfl (lv_at hl 1 rfl) ?_
  refine lv_iload_n hx hb dL_local_4 rfl (lv_at hl 2 rfl) ?_
  have hPc := hP.sub (ws' := [(h0, .inr (11, xfs))]) [0] rfl
  have hDc := hD.sub (ws' := [(h0, .inr (11, xfs))]) [0] (by decide) rfl
  have hKc := hK.sub (tys' := []) [] rfl
  have hFc := va_free (wc := [(h0, .inr (11, xfs))]) hD hS hA [0] rfl
  refine vx_calli (vx_runV (As := [.int p0, .int p1]) (rest := [.int 0, .ref o0]) ⟨hx, hb, hml, hown, hts⟩ (c_local l hlt D h0 xfs p0 p1 s.heap.size hq) (cwV 2 hts g_v_c_L_local_0 rfl rfl rfl (by decide +kernel) ⟨Nat.le_of_ble_eq_true rfl, Nat.le_of_ble_eq_true rfl⟩) ⟨st_blind, va_recv hKc hPc (ci := 11) (q0 := 0) rfl rfl, fun U hU hW => ⟨rfl, st_call hU hW hPc hKc hDc hZ hS hFc hE⟩⟩ rfl rfl hl.1 rfl (lv_room (Nat.le_of_ble_eq_true rfl)) dL_local_5 ⟨Nat.le_of_ble_eq_true rfl, Nat.le_of_ble_eq_true rfl⟩) hS (fun q _ h => hFc q h) hFc (fun q _ h => hFc q h) (fun E ce q9 _ t H1 locs ht hvm hw hB hz1 hk1 hS hce hcv hcl => ?_) (fun r9 u9 t H1 locs ht hvm hw hB hz1 hk1 hS => ?_)
  · subst hB
    refine vx_catch (own := RL) (name := iSE) (E := iSE) hown [] ⟨0, 10, 13, 27⟩ [⟨0, 10, 17, 19⟩] (by rw [htab]; rfl) (fun z hz => nomatch hz) (by decide) (by decide) (hts (.classLink RL 27 iSE) (by decide +kernel)) (ev_w hE (.castable iSE iSE) (by decide) rfl) hce hcv hcl ?_
    refine lv_astore (lv' := [(4, .ref q9), (0, .ref h0), (1, .int p0), (2, .int p1), (3, .ref o0)]) hx hb dL_local_13 hl (by decide) rfl (fun ls hl => ?_)
    refine lv_iconst (v := 1) hx hb dL_local_15 (by decide +kernel) ?_
    exact W.iret (v := 1) hx hb hr (fun t ht hW => ⟨⟨1, (), rfl, rfl, trivial⟩, hS.F ht⟩) hS.2.2 dL_local_16
  · exact hw.elim
noncomputable def v_c_L_act : List Cond := .codeWith yL_act cL_act 5 (some .int) [(0, 10, 13, 27), (0, 10, 17, 19)] :: ([.classLink RL 27 iSE] ++ ((wsV RL 64 RX11 yX11_act v_c_act) ++ ([])))
theorem g_v_c_L_act_0 : GoodIn v_c_L_act (wsV RL 64 RX11 yX11_act v_c_act) := goodIn_sub (fun _ h => List.mem_cons_of_mem _ (List.mem_append_right _ (List.mem_append_left _ h))) (by decide +kernel)
theorem t_v_c_L_act : ∀ w ∈ v_c_L_act, w ∈ lw_tbl := tb_c (List.mem_of_getElem? (i := 1635) (by decide +kernel)) (tb_a (tb_c (List.mem_of_getElem? (i := 1272) (by decide +kernel)) (tb_n)) (tb_a (tb_a (tb_c (List.mem_of_getElem? (i := 1636) (by decide +kernel)) (tb_c (List.mem_of_getElem? (i := 1637) (by decide +kernel)) (tb_c (List.mem_of_getElem? (i := 1638) (by decide +kernel)) (tb_c (List.mem_of_getElem? (i := 206) (by decide +kernel)) (tb_n))))) t_v_c_act) (tb_n)))
set_option maxHeartbeats 400000 in
set_option maxRecDepth 100000 in
/-- the law's act: 1 -/
theorem c_L_act (l : Launch) (D : va_G) (h0 o0 : Nat) (xfs : List Value) (p0 p1 : Int32) (sz : Nat) (hlt : l.stackTraces = false) (hq : xfs[10]? = some (.int 0)) : Met l yL_act v_c_L_act ({ frames := 10, cells := 1, slots := 6, locals := 190 }) (va_Pc [.ref h0, .int p0, .int p1, .ref o0] (st_ D [(h0, .inr (11, xfs))] [] sz)) (va_Qi (fun (r : Int32) (_ : Unit) => r = 1) (fun _ _ => True) (va_A [(h0, .inr (11, xfs))] sz)) 1 6 (va_A [(h0, .inr (11, xfs))] sz) := by
  refine va_MetW (hh := [(0, 10, 13, 27), (0, 10, 17, 19)]) (cc := cL_act) (maxL := 5) (ret := (some .int)) (by decide) rfl ?_
  intro p e s m args below meth c s₁ B hml hv
  obtain ⟨rfl, hsz, hP, hK, hD0, hZ, hE⟩ := hv
  have hx := B.exec
  have hb := B.bytes
  have hr := B.returns
  have hts := atoms_spec (ws := v_c_L_act) B.pre
  have hown : s.vm.findClass RL = some m.cls := findClass_of_methodNamed B.named
  have hlocks := B.notSynchronized
  subst hsz
  have hD := hD0.self (sz := s.heap.size)
  generalize hAe : va_A [(h0, .inr (11, xfs))] s.heap.size = A at hD hZ ⊢
  have hA : ∀ q : Nat, s.heap.size ≤ q → A q := fun q h => by rw [← hAe]; exact Or.inr h
  have hS : va_S A s.heap s.heap [] := va_S.rf
  have hAO := hE.2.2.2.1
  have hP : va_P D vwCl [(h0, .inr (11, xfs))] s.heap := hP
  have hl := lv_entry ([.ref h0, .int p0, .int p1, .ref o0]) (n := 5) (Nat.le_of_ble_eq_true rfl)
  rw [lg_entry_eq]
  generalize (lg_sl ([.ref h0, .int p0, .int p1, .ref o0]) ++ List.replicate (5 - (lg_sl ([.ref h0, .int p0, .int p1, .ref o0])).length) Slot.unset).toArray = ls at hl ⊢
  have hl : lv_has ls 5 [(0, .ref h0), (1, .int p0), (2, .int p1), (3, .ref o0)] := hl
  have htab := vx_table (x := yL_act) B (hts (.codeWith yL_act cL_act 5 (some .int) [(0, 10, 13, 27), (0, 10, 17, 19)]) List.mem_cons_self)
  refine lv_aload_n hx hb dL_act_0 rfl (lv_at hl 3 rfl) ?_
  refine lv_iconst (v := 0) hx hb dL_act_1 (by decide +kernel) ?_
  refine lv_aload_n hx hb dL_act_2 rfl (lv_at hl 0 rfl) ?_
  refine lv_iload_n hx hb dL_act_3 rfl (lv_at hl 1 rfl) ?_
  refine lv_iload_n hx hb dL_act_4 rfl (lv_at hl 2 rfl) ?_
  have hPc := hP.sub (ws' := [(h0, .inr (11, xfs))]) [0] rfl
  have hDc := hD.sub (ws' := [(h0, .inr (11, xfs))]) [0] (by decide) rfl
  have hKc := hK.sub (tys' := []) [] rfl
  have hFc := va_free (wc := [(h0, .inr (11, xfs))]) hD hS hA [0] rfl
  refine vx_calli (vx_runV (As := [.int p0, .int p1]) (rest := [.int 0, .ref o0]) ⟨hx, hb, hml, hown, hts⟩ (c_act l hlt D h0 xfs p0 p1 s.heap.size hq) (cwV 2 hts g_v_c_L_act_0 rfl rfl rfl (by decide +kernel) ⟨Nat.le_of_ble_eq_true rfl, Nat.le_of_ble_eq_true rfl⟩) ⟨st_blind, va_recv hKc hPc (ci := 11) (q0 := 0) rfl rfl, fun U hU hW => ⟨rfl, st_call hU hW hPc hKc hDc hZ hS hFc hE⟩⟩ rfl rfl hl.1 rfl (lv_room (Nat.le_of_ble_eq_true rfl)) dL_act_5 ⟨Nat.le_of_ble_eq_true rfl, Nat.le_of_ble_eq_true rfl⟩) hS (fun q _ h => hFc q h) hFc (fun q _ h => hFc q h) (fun E ce q9 _ t H1 locs ht hvm hw hB hz1 hk1 hS hce hcv hcl => ?_) (fun r9 u9 t H1 locs ht hvm hw hB hz1 hk1 hS => ?_)
  · subst hB
    refine vx_catch (own := RL) (name := iSE) (E := iSE) hown [] ⟨0, 10, 13, 27⟩ [⟨0, 10, 17, 19⟩] (by rw [htab]; rfl) (fun z hz => nomatch hz) (by decide) (by decide) (hts (.classLink RL 27 iSE) (by decide +kernel)) (ev_w hE (.castable iSE iSE) (by decide) rfl) hce hcv hcl ?_
    refine lv_astore (lv' := [(4, .ref q9), (0, .ref h0), (1, .int p0), (2, .int p1), (3, .ref o0)]) hx hb dL_act_13 hl (by decide) rfl (fun ls hl => ?_)
    refine lv_iconst (v := 1) hx hb dL_act_15 (by decide +kernel) ?_
    exact W.iret (v := 1) hx hb hr (fun t ht hW => ⟨⟨1, (), rfl, rfl, trivial⟩, hS.F ht⟩) hS.2.2 dL_act_16
  · exact hw.elim
noncomputable def v_c_L_before : List Cond := .codeWith yL_before cL_before 5 (some .int) [(0, 17, 20, 27), (0, 17, 24, 19)] :: ([.classLink RL 27 iSE] ++ ((wsV RL 67 RX11 yX11_before v_c_before) ++ ([])))
theorem g_v_c_L_before_0 : GoodIn v_c_L_before (wsV RL 67 RX11 yX11_before v_c_before) := goodIn_sub (fun _ h => List.mem_cons_of_mem _ (List.mem_append_right _ (List.mem_append_left _ h))) (by decide +kernel)
theorem t_v_c_L_before : ∀ w ∈ v_c_L_before, w ∈ lw_tbl := tb_c (List.mem_of_getElem? (i := 1642) (by decide +kernel)) (tb_a (tb_c (List.mem_of_getElem? (i := 1272) (by decide +kernel)) (tb_n)) (tb_a (tb_a (tb_c (List.mem_of_getElem? (i := 1643) (by decide +kernel)) (tb_c (List.mem_of_getElem? (i := 1644) (by decide +kernel)) (tb_c (List.mem_of_getElem? (i := 1645) (by decide +kernel)) (tb_c (List.mem_of_getElem? (i := 206) (by decide +kernel)) (tb_n))))) t_v_c_before) (tb_n)))
set_option maxHeartbeats 400000 in
set_option maxRecDepth 100000 in
/-- the law's before: 1 -/
theorem c_L_before (l : Launch) (D : va_G) (h0 o0 : Nat) (xfs : List Value) (p0 p1 : Int32) (sz : Nat) (hlt : l.stackTraces = false) (hq : xfs[10]? = some (.int 0)) : Met l yL_before v_c_L_before ({ frames := 10, cells := 1, slots := 6, locals := 190 }) (va_Pc [.ref h0, .int p0, .int p1, .ref o0] (st_ D [(h0, .inr (11, xfs))] [] sz)) (va_Qi (fun (r : Int32) (_ : Unit) => r = 1) (fun _ _ => True) (va_A [(h0, .inr (11, xfs))] sz)) 1 6 (va_A [(h0, .inr (11, xfs))] sz) := by
  refine va_MetW (hh := [(0, 17, 20, 27), (0, 17, 24, 19)]) (cc := cL_before) (maxL := 5) (ret := (some .int)) (by decide) rfl ?_
  intro p e s m args below meth c s₁ B hml hv
  obtain ⟨rfl, hsz, hP, hK, hD0, hZ, hE⟩ := hv
  have hx := B.exec
  have hb := B.bytes
  have hr := B.returns
  have hts := atoms_spec (ws := v_c_L_before) B.pre
  have hown : s.vm.findClass RL = some m.cls := findClass_of_methodNamed B.named
  have hlocks := B.notSynchronized
  subst hsz
  have hD := hD0.self (sz := s.heap.size)
  generalize hAe : va_A [(h0, .inr (11, xfs))] s.heap.size = A at hD hZ ⊢
  have hA : ∀ q : Nat, s.heap.size ≤ q → A q := fun q h => by rw [← hAe]; exact Or.inr h
  have hS : va_S A s.heap s.heap [] := va_S.rf
  have hAO := hE.2.2.2.1
  have hP : va_P D vwCl [(h0, .inr (11, xfs))] s.heap := hP
  have hl := lv_entry ([.ref h0, .int p0, .int p1, .ref o0]) (n := 5) (Nat.le_of_ble_eq_true rfl)
  rw [lg_entry_eq]
  generalize (lg_sl ([.ref h0, .int p0, .int p1, .ref o0]) ++ List.replicate (5 - (lg_sl ([.ref h0, .int p0, .int p1, .ref o0])).length) Slot.unset).toArray = ls at hl ⊢
  have hl : lv_has ls 5 [(0, .ref h0), (1, .int p0), (2, .int p1), (3, .ref o0)] := hl
  have htab := vx_table (x := yL_before) B (hts (.codeWith yL_before cL_before 5 (some .int) [(0, 17, 20, 27), (0, 17, 24, 19)]) List.mem_cons_self)
  refine lv_aload_n hx hb dL_before_0 rfl (lv_at hl 3 rfl) ?_
  refine lv_iconst (v := 0) hx hb dL_before_1 (by decide +kernel) ?_
  refine lv_aload_n hx hb dL_before_2 rfl (lv_at hl 0 rfl) ?_
  refine lv_iload_n hx hb dL_before_3 rfl (lv_at hl 1 rfl) ?_
  refine lv_iload_n hx hb dL_before_4 rfl (lv_at hl 2 rfl) ?_
  have hPc := hP.sub (ws' := [(h0, .inr (11, xfs))]) [0] rfl
  have hDc := hD.sub (ws' := [(h0, .inr (11, xfs))]) [0] (by decide) rfl
  have hKc := hK.sub (tys' := []) [] rfl
  have hFc := va_free (wc := [(h0, .inr (11, xfs))]) hD hS hA [0] rfl
  refine vx_calli (vx_runV (As := [.int p0, .int p1]) (rest := [.int 0, .ref o0]) ⟨hx, hb, hml, hown, hts⟩ (c_before l hlt D h0 xfs p0 p1 s.heap.size hq) (cwV 2 hts g_v_c_L_before_0 rfl rfl rfl (by decide +kernel) ⟨Nat.le_of_ble_eq_true rfl, Nat.le_of_ble_eq_true rfl⟩) ⟨st_blind, va_recv hKc hPc (ci := 11) (q0 := 0) rfl rfl, fun U hU hW => ⟨rfl, st_call hU hW hPc hKc hDc hZ hS hFc hE⟩⟩ rfl rfl hl.1 rfl (lv_room (Nat.le_of_ble_eq_true rfl)) dL_before_5 ⟨Nat.le_of_ble_eq_true rfl, Nat.le_of_ble_eq_true rfl⟩) hS (fun q _ h => hFc q h) hFc (fun q _ h => hFc q h) (fun E ce q9 _ t H1 locs ht hvm hw hB hz1 hk1 hS hce hcv hcl => ?_) (fun r9 u9 t H1 locs ht hvm hw hB hz1 hk1 hS => ?_)
  · subst hB
    refine vx_catch (own := RL) (name := iSE) (E := iSE) hown [] ⟨0, 17, 20, 27⟩ [⟨0, 17, 24, 19⟩] (by rw [htab]; rfl) (fun z hz => nomatch hz) (by decide) (by decide) (hts (.classLink RL 27 iSE) (by decide +kernel)) (ev_w hE (.castable iSE iSE) (by decide) rfl) hce hcv hcl ?_
    refine lv_astore (lv' := [(4, .ref q9), (0, .ref h0), (1, .int p0), (2, .int p1), (3, .ref o0)]) hx hb dL_before_20 hl (by decide) rfl (fun ls hl => ?_)
    refine lv_iconst (v := 1) hx hb dL_before_22 (by decide +kernel) ?_
    exact W.iret (v := 1) hx hb hr (fun t ht hW => ⟨⟨1, (), rfl, rfl, trivial⟩, hS.F ht⟩) hS.2.2 dL_before_23
  · exact hw.elim
noncomputable def v_c_L_race : List Cond := .codeWith yL_race cL_race 5 (some .int) [(0, 10, 13, 27), (0, 10, 17, 19)] :: ([.classLink RL 27 iSE] ++ ((wsV RL 71 RX11 yX11_race v_c_race) ++ ([])))
theorem g_v_c_L_race_0 : GoodIn v_c_L_race (wsV RL 71 RX11 yX11_race v_c_race) := goodIn_sub (fun _ h => List.mem_cons_of_mem _ (List.mem_append_right _ (List.mem_append_left _ h))) (by decide +kernel)
theorem t_v_c_L_race : ∀ w ∈ v_c_L_race, w ∈ lw_tbl := tb_c (List.mem_of_getElem? (i := 1650) (by decide +kernel)) (tb_a (tb_c (List.mem_of_getElem? (i := 1272) (by decide +kernel)) (tb_n)) (tb_a (tb_a (tb_c (List.mem_of_getElem? (i := 1651) (by decide +kernel)) (tb_c (List.mem_of_getElem? (i := 1652) (by decide +kernel)) (tb_c (List.mem_of_getElem? (i := 1653) (by decide +kernel)) (tb_c (List.mem_of_getElem? (i := 206) (by decide +kernel)) (tb_n))))) t_v_c_race) (tb_n)))
set_option maxHeartbeats 400000 in
set_option maxRecDepth 100000 in
/-- the law's race: 1 -/
theorem c_L_race (l : Launch) (D : va_G) (h0 o0 : Nat) (xfs : List Value) (p0 p1 : Int32) (sz : Nat) (hlt : l.stackTraces = false) (hq : xfs[10]? = some (.int 0)) : Met l yL_race v_c_L_race ({ frames := 10, cells := 1, slots := 6, locals := 190 }) (va_Pc [.ref h0, .int p0, .int p1, .ref o0] (st_ D [(h0, .inr (11, xfs))] [] sz)) (va_Qi (fun (r : Int32) (_ : Unit) => r = 1) (fun _ _ => True) (va_A [(h0, .inr (11, xfs))] sz)) 1 6 (va_A [(h0, .inr (11, xfs))] sz) := by
  refine va_MetW (hh := [(0, 10, 13, 27), (0, 10, 17, 19)]) (cc := cL_race) (maxL := 5) (ret := (some .int)) (by decide) rfl ?_
  intro p e s m args below meth c s₁ B hml hv
  obtain ⟨rfl, hsz, hP, hK, hD0, hZ, hE⟩ := hv
  have hx := B.exec
  have hb := B.bytes
  have hr := B.returns
  have hts := atoms_spec (ws := v_c_L_race) B.pre
  have hown : s.vm.findClass RL = some m.cls := findClass_of_methodNamed B.named
  have hlocks := B.notSynchronized
  subst hsz
  have hD := hD0.self (sz := s.heap.size)
  generalize hAe : va_A [(h0, .inr (11, xfs))] s.heap.size = A at hD hZ ⊢
  have hA : ∀ q : Nat, s.heap.size ≤ q → A q := fun q h => by rw [← hAe]; exact Or.inr h
  have hS : va_S A s.heap s.heap [] := va_S.rf
  have hAO := hE.2.2.2.1
  have hP : va_P D vwCl [(h0, .inr (11, xfs))] s.heap := hP
  have hl := lv_entry ([.ref h0, .int p0, .int p1, .ref o0]) (n := 5) (Nat.le_of_ble_eq_true rfl)
  rw [lg_entry_eq]
  generalize (lg_sl ([.ref h0, .int p0, .int p1, .ref o0]) ++ List.replicate (5 - (lg_sl ([.ref h0, .int p0, .int p1, .ref o0])).length) Slot.unset).toArray = ls at hl ⊢
  have hl : lv_has ls 5 [(0, .ref h0), (1, .int p0), (2, .int p1), (3, .ref o0)] := hl
  have htab := vx_table (x := yL_race) B (hts (.codeWith yL_race cL_race 5 (some .int) [(0, 10, 13, 27), (0, 10, 17, 19)]) List.mem_cons_self)
  refine lv_aload_n hx hb dL_race_0 rfl (lv_at hl 3 rfl) ?_
  refine lv_iconst (v := 0) hx hb dL_race_1 (by decide +kernel) ?_
  refine lv_aload_n hx hb dL_race_2 rfl (lv_at hl 0 rfl) ?_
  refine lv_iload_n hx hb dL_race_3 rfl (lv_at hl 1 rfl) ?_
  refine lv_iload_n hx hb dL_race_4 rfl (lv_at hl 2 rfl) ?_
  have hPc := hP.sub (ws' := [(h0, .inr (11, xfs))]) [0] rfl
  have hDc := hD.sub (ws' := [(h0, .inr (11, xfs))]) [0] (by decide) rfl
  have hKc := hK.sub (tys' := []) [] rfl
  have hFc := va_free (wc := [(h0, .inr (11, xfs))]) hD hS hA [0] rfl
  refine vx_calli (vx_runV (As := [.int p0, .int p1]) (rest := [.int 0, .ref o0]) ⟨hx, hb, hml, hown, hts⟩ (c_race l hlt D h0 xfs p0 p1 s.heap.size hq) (cwV 2 hts g_v_c_L_race_0 rfl rfl rfl (by decide +kernel) ⟨Nat.le_of_ble_eq_true rfl, Nat.le_of_ble_eq_true rfl⟩) ⟨st_blind, va_recv hKc hPc (ci := 11) (q0 := 0) rfl rfl, fun U hU hW => ⟨rfl, st_call hU hW hPc hKc hDc hZ hS hFc hE⟩⟩ rfl rfl hl.1 rfl (lv_room (Nat.le_of_ble_eq_true rfl)) dL_race_5 ⟨Nat.le_of_ble_eq_true rfl, Nat.le_of_ble_eq_true rfl⟩) hS (fun q _ h => hFc q h) hFc (fun q _ h => hFc q h) (fun E ce q9 _ t H1 locs ht hvm hw hB hz1 hk1 hS hce hcv hcl => ?_) (fun r9 u9 t H1 locs ht hvm hw hB hz1 hk1 hS => ?_)
  · subst hB
    refine vx_catch (own := RL) (name := iSE) (E := iSE) hown [] ⟨0, 10, 13, 27⟩ [⟨0, 10, 17, 19⟩] (by rw [htab]; rfl) (fun z hz => nomatch hz) (by decide) (by decide) (hts (.classLink RL 27 iSE) (by decide +kernel)) (ev_w hE (.castable iSE iSE) (by decide) rfl) hce hcv hcl ?_
    refine lv_astore (lv' := [(4, .ref q9), (0, .ref h0), (1, .int p0), (2, .int p1), (3, .ref o0)]) hx hb dL_race_13 hl (by decide) rfl (fun ls hl => ?_)
    refine lv_iconst (v := 1) hx hb dL_race_15 (by decide +kernel) ?_
    exact W.iret (v := 1) hx hb hr (fun t ht hW => ⟨⟨1, (), rfl, rfl, trivial⟩, hS.F ht⟩) hS.2.2 dL_race_16
  · exact hw.elim
noncomputable def v_c_L_linear : List Cond := .codeWith yL_linear cL_linear 4 (some .int) [(0, 9, 12, 27), (0, 9, 15, 13)] :: ([.classLink RL 27 iSE] ++ ((wsV RL 74 RX11 yX11_linear v_c_linear) ++ ([])))
theorem g_v_c_L_linear_0 : GoodIn v_c_L_linear (wsV RL 74 RX11 yX11_linear v_c_linear) := goodIn_sub (fun _ h => List.mem_cons_of_mem _ (List.mem_append_right _ (List.mem_append_left _ h))) (by decide +kernel)
theorem t_v_c_L_linear : ∀ w ∈ v_c_L_linear, w ∈ lw_tbl := tb_c (List.mem_of_getElem? (i := 1665) (by decide +kernel)) (tb_a (tb_c (List.mem_of_getElem? (i := 1272) (by decide +kernel)) (tb_n)) (tb_a (tb_a (tb_c (List.mem_of_getElem? (i := 1666) (by decide +kernel)) (tb_c (List.mem_of_getElem? (i := 1667) (by decide +kernel)) (tb_c (List.mem_of_getElem? (i := 1668) (by decide +kernel)) (tb_c (List.mem_of_getElem? (i := 206) (by decide +kernel)) (tb_n))))) t_v_c_linear) (tb_n)))
set_option maxHeartbeats 400000 in
set_option maxRecDepth 100000 in
/-- the law's linear: 1 -/
theorem c_L_linear (l : Launch) (D : va_G) (h0 o0 : Nat) (xfs : List Value) (p0 : Int32) (sz : Nat) (hlt : l.stackTraces = false) (hq : xfs[10]? = some (.int 0)) : Met l yL_linear v_c_L_linear ({ frames := 10, cells := 1, slots := 6, locals := 190 }) (va_Pc [.ref h0, .int p0, .ref o0] (st_ D [(h0, .inr (11, xfs))] [] sz)) (va_Qi (fun (r : Int32) (_ : Unit) => r = 1) (fun _ _ => True) (va_A [(h0, .inr (11, xfs))] sz)) 1 6 (va_A [(h0, .inr (11, xfs))] sz) := by
  refine va_MetW (hh := [(0, 9, 12, 27), (0, 9, 15, 13)]) (cc := cL_linear) (maxL := 4) (ret := (some .int)) (by decide) rfl ?_
  intro p e s m args below meth c s₁ B hml hv
  obtain ⟨rfl, hsz, hP, hK, hD0, hZ, hE⟩ := hv
  have hx := B.exec
  have hb := B.bytes
  have hr := B.returns
  have hts := atoms_spec (ws := v_c_L_linear) B.pre
  have hown : s.vm.findClass RL = some m.cls := findClass_of_methodNamed B.named
  have hlocks := B.notSynchronized
  subst hsz
  have hD := hD0.self (sz := s.heap.size)
  generalize hAe : va_A [(h0, .inr (11, xfs))] s.heap.size = A at hD hZ ⊢
  have hA : ∀ q : Nat, s.heap.size ≤ q → A q := fun q h => by rw [← hAe]; exact Or.inr h
  have hS : va_S A s.heap s.heap [] := va_S.rf
  have hAO := hE.2.2.2.1
  have hP : va_P D vwCl [(h0, .inr (11, xfs))] s.heap := hP
  have hl := lv_entry ([.ref h0, .int p0, .ref o0]) (n := 4) (Nat.le_of_ble_eq_true rfl)
  rw [lg_entry_eq]
  generalize (lg_sl ([.ref h0, .int p0, .ref o0]) ++ List.replicate (4 - (lg_sl ([.ref h0, .int p0, .ref o0])).length) Slot.unset).toArray = ls at hl ⊢
  have hl : lv_has ls 4 [(0, .ref h0), (1, .int p0), (2, .ref o0)] := hl
  have htab := vx_table (x := yL_linear) B (hts (.codeWith yL_linear cL_linear 4 (some .int) [(0, 9, 12, 27), (0, 9, 15, 13)]) List.mem_cons_self)
  refine lv_aload_n hx hb dL_linear_0 rfl (lv_at hl 2 rfl) ?_
  refine lv_iconst (v := 0) hx hb dL_linear_1 (by decide +kernel) ?_
  refine lv_aload_n hx hb dL_linear_2 rfl (lv_at hl 0 rfl) ?_
  refine lv_iload_n hx hb dL_linear_3 rfl (lv_at hl 1 rfl) ?_
  have hPc := hP.sub (ws' := [(h0, .inr (11, xfs))]) [0] rfl
  have hDc := hD.sub (ws' := [(h0, .inr (11, xfs))]) [0] (by decide) rfl
  have hKc := hK.sub (tys' := []) [] rfl
  have hFc := va_free (wc := [(h0, .inr (11, xfs))]) hD hS hA [0] rfl
  refine vx_calli (vx_runV (As := [.int p0]) (rest := [.int 0, .ref o0]) ⟨hx, hb, hml, hown, hts⟩ (c_linear l hlt D h0 xfs p0 s.heap.size hq) (cwV 1 hts g_v_c_L_linear_0 rfl rfl rfl (by decide +kernel) ⟨Nat.le_of_ble_eq_true rfl, Nat.le_of_ble_eq_true rfl⟩) ⟨st_blind, va_recv hKc hPc (ci := 11) (q0 := 0) rfl rfl, fun U hU hW => ⟨rfl, st_call hU hW hPc hKc hDc hZ hS hFc hE⟩⟩ rfl rfl hl.1 rfl (lv_room (Nat.le_of_ble_eq_true rfl)) dL_linear_4 ⟨Nat.le_of_ble_eq_true rfl, Nat.le_of_ble_eq_true rfl⟩) hS (fun q _ h => hFc q h) hFc (fun q _ h => hFc q h) (fun E ce q9 _ t H1 locs ht hvm hw hB hz1 hk1 hS hce hcv hcl => ?_) (fun r9 u9 t H1 locs ht hvm hw hB hz1 hk1 hS => ?_)
  · subst hB
    refine vx_catch (own := RL) (name := iSE) (E := iSE) hown [] ⟨0, 9, 12, 27⟩ [⟨0, 9, 15, 13⟩] (by rw [htab]; rfl) (fun z hz => nomatch hz) (by decide) (by decide) (hts (.classLink RL 27 iSE) (by decide +kernel)) (ev_w hE (.castable iSE iSE) (by decide) rfl) hce hcv hcl ?_
    refine lv_astore_n (lv' := [(3, .ref q9), (0, .ref h0), (1, .int p0), (2, .ref o0)]) hx hb dL_linear_12 rfl hl (by decide) rfl (fun ls hl => ?_)
    refine lv_iconst (v := 1) hx hb dL_linear_13 (by decide +kernel) ?_
    exact W.iret (v := 1) hx hb hr (fun t ht hW => ⟨⟨1, (), rfl, rfl, trivial⟩, hS.F ht⟩) hS.2.2 dL_linear_14
  · exact hw.elim
