noncomputable def v_c_fill : List Cond := .code yJ7_fill_53178 cJ7_fill_53178 4 none :: ([] ++ ([]))
theorem t_v_c_fill : ∀ w ∈ v_c_fill, w ∈ lw_tbl := tb_c (List.mem_of_getElem? (i := 886) (by decide +kernel)) (tb_a (tb_n) (tb_n))
set_option maxHeartbeats 400000 in
set_option maxRecDepth 100000 in
/-- Arrays.fill(a, v) -/
theorem c_fill (l : Launch) (D : va_G) (a0 n : Nat) (cA : ClassId) (f0 : Nat → Int32) (v0 : Int32) (sz : Nat) (hn : n < 2 ^ 31) : Met l yJ7_fill_53178 v_c_fill ({ frames := 1, cells := 0, slots := 0, locals := 12 }) (va_Pc [.ref a0, .int v0] (st_ D [(a0, .inl (cA, n, .inl f0))] [(cA, .int)] sz)) (va_Qv (fun _ : Unit => True) (fun _ t => ∃ f1 : Nat → Int32, va_P D vwCl [(a0, .inl (cA, n, .inl f1))] t.heap ∧ va_K D vwCl [(cA, .int)] t ∧ va_D (va_A [(a0, .inl (cA, n, .inl f0))] sz) [(a0, .inl (cA, n, .inl f1))]) (va_A [(a0, .inl (cA, n, .inl f0))] sz)) 0 0 (va_A [(a0, .inl (cA, n, .inl f0))] sz) := by
  refine Met.ofW (cc := cJ7_fill_53178) (maxL := 4) (ret := none) (by decide) rfl ?_
  intro p e s m args below meth c s₁ B hml hv
  obtain ⟨rfl, hsz, hP, hK, hD0, hZ, hE⟩ := hv
  have hx := B.exec
  have hb := B.bytes
  have hr := B.returns
  have hts := atoms_spec (ws := v_c_fill) B.pre
  have hown : s.vm.findClass RJ7 = some m.cls := findClass_of_methodNamed B.named
  have hlocks := B.notSynchronized
  subst hsz
  have hD := hD0.self (sz := s.heap.size)
  generalize hAe : va_A [(a0, .inl (cA, n, .inl f0))] s.heap.size = A at hD hZ ⊢
  have hA : ∀ q : Nat, s.heap.size ≤ q → A q := fun q h => by rw [← hAe]; exact Or.inr h
  have hS : va_S A s.heap s.heap [] := va_S.rf
  have hAO := hE.2.2.2.1
  have hP : va_P D vwCl [(a0, .inl (cA, n, .inl f0))] s.heap := hP
  have hl := lv_entry ([.ref a0, .int v0]) (n := 4) (Nat.le_of_ble_eq_true rfl)
  rw [lg_entry_eq]
  generalize (lg_sl ([.ref a0, .int v0]) ++ List.replicate (4 - (lg_sl ([.ref a0, .int v0])).length) Slot.unset).toArray = ls at hl ⊢
  have hl : lv_has ls 4 [(0, .ref a0), (1, .int v0)] := hl
  refine lv_iconst (v := 0) hx hb dJ7_fill_53178_0 (by decide +kernel) ?_
  refine lv_istore_n (lv' := [(2, .int 0), (0, .ref a0), (1, .int v0)]) hx hb dJ7_fill_53178_1 rfl hl (by decide) rfl (fun ls hl => ?_)
  refine lv_aload_n hx hb dJ7_fill_53178_2 rfl (lv_at hl 1 rfl) ?_
  refine va_alen hx hb hK hP 0 0 rfl rfl (v := nI n) rfl dJ7_fill_53178_3 ?_
  refine lv_istore_n (lv' := [(3, .int (nI n)), (2, .int 0), (0, .ref a0), (1, .int v0)]) hx hb dJ7_fill_53178_4 rfl hl (by decide) rfl (fun ls hl => ?_)
  have loop : ∀ (d i : Nat), i + d = n → ∀ (f : Nat → Int32) (H : Heap) (locs : List Loc) (ls : Array Slot), va_P D vwCl [(a0, .inl (cA, n, .inl f))] H → va_D A [(a0, .inl (cA, n, .inl f))] → va_S A s.heap H locs → lv_has ls 4 [(2, .int (nI i)), (3, .int (nI n)), (0, .ref a0), (1, .int v0)] → W p l e (headSpec wsJ7_fill_53178 ({ frames := 1, cells := 0, slots := 0, locals := 12 })).room s m ([.ref a0, .int v0] : List Value).toArray below meth c H locs 0 0 (MQ below (va_Qv (fun _ : Unit => True) (fun _ t => ∃ f1 : Nat → Int32, va_P D vwCl [(a0, .inl (cA, n, .inl f1))] t.heap ∧ va_K D vwCl [(cA, .int)] t ∧ va_D A [(a0, .inl (cA, n, .inl f1))]) A) ([.ref a0, .int v0] : List Value).toArray s 0 0 A) (F0 m 5 ls []) := by
    intro d
    induction d with
    | zero =>
      intro i hi f H locs ls hP hD hS hl
      have hin : i = n := by omega
      subst hin
      refine lv_iload_n hx hb dJ7_fill_53178_5 rfl (lv_at hl 0 rfl) ?_
      refine lv_iload_n hx hb dJ7_fill_53178_6 rfl (lv_at hl 1 rfl) ?_
      refine lv_icmp_ge (tgt := 20) hx hb dJ7_fill_53178_7 (by decide) (fun _ => ?_) (fun c9 => absurd (nI_le (Nat.le_refl i) hn) c9)
      exact W.vret hx hb hr (fun t ht hW => ⟨⟨(), rfl, trivial, f, by rw [ht]; exact hP, va_K.moved hW.alike hK, hD⟩, hS.F ht⟩) hS.2.2 dJ7_fill_53178_20
    | succ d ih =>
      intro i hi f H locs ls hP hD hS hl
      have hlt : i < n := by omega
      refine lv_iload_n hx hb dJ7_fill_53178_5 rfl (lv_at hl 0 rfl) ?_
      refine lv_iload_n hx hb dJ7_fill_53178_6 rfl (lv_at hl 1 rfl) ?_
      refine lv_icmp_ge (tgt := 20) hx hb dJ7_fill_53178_7 (by decide) (fun c9 => absurd c9 (nI_ge hlt hn)) (fun _ => ?_)
      refine lv_aload_n hx hb dJ7_fill_53178_10 rfl (lv_at hl 2 rfl) ?_
      refine lv_iload_n hx hb dJ7_fill_53178_11 rfl (lv_at hl 0 rfl) ?_
      refine lv_iload_n hx hb dJ7_fill_53178_12 rfl (lv_at hl 3 rfl) ?_
      refine va_iast hx hb hK hP hD hS 0 0 rfl rfl (i := nI i) (x := v0) (vp_in_nI hlt hn) dJ7_fill_53178_13 (fun H locs hP hD hS => ?_)
      refine lv_iinc (v := nI (i + 1)) (lv' := [(2, .int (nI (i + 1))), (3, .int (nI n)), (0, .ref a0), (1, .int v0)]) hx hb dJ7_fill_53178_14 hl (k := 0) rfl (nI_1 i) (by decide) rfl (fun ls hl => ?_)
      refine lv_goto (tgt := 5) hx hb dJ7_fill_53178_17 (by decide) ?_
      exact ih (i + 1) (by omega) _ H locs ls hP hD hS hl
  exact loop n 0 (by omega) f0 s.heap [] ls hP hD hS (lv_sub hl [1, 0, 2, 3] rfl)
noncomputable def v_c_skipBlanks : List Cond := .code yX9_skipBlanks cX9_skipBlanks 3 none :: ([.fieldLink RX9 35 "ScheduleHouse$Tokens" "at" "I", .fieldLink RX9 31 "ScheduleHouse$Tokens" "length" "I"] ++ (wsX90 ++ ([])))
theorem i_v_c_skipBlanks_X9 : ∀ w ∈ wsX90, w ∈ v_c_skipBlanks := fun _ h => List.mem_cons_of_mem _ (List.mem_append_right _ (List.mem_append_left _ h))
theorem t_v_c_skipBlanks : ∀ w ∈ v_c_skipBlanks, w ∈ lw_tbl := tb_c (List.mem_of_getElem? (i := 797) (by decide +kernel)) (tb_a (tb_c (List.mem_of_getElem? (i := 263) (by decide +kernel)) (tb_c (List.mem_of_getElem? (i := 248) (by decide +kernel)) (tb_n))) (tb_a (tw_wsX90) (tb_n)))
set_option maxHeartbeats 400000 in
set_option maxRecDepth 100000 in
/-- skipBlanks() at the end -/
theorem c_skipBlanks (l : Launch) (D : va_G) (h0 : Nat) (tfs : List Value) (sz : Nat) (ht_l : tfs.length = 10) (ht_1 : tfs[1]? = some (.int 0)) (ht_8 : tfs[8]? = some (.int 0)) : Met l yX9_skipBlanks v_c_skipBlanks ({ frames := 1, cells := 0, slots := 0, locals := 12 }) (va_Pc [.ref h0] (st_ D [(h0, .inr (9, tfs))] [] sz)) (va_Qv (fun _ : Unit => True) (fun _ t => va_P D vwCl [(h0, .inr (9, tfs))] t.heap ∧ va_K D vwCl [] t ∧ va_D (va_A [(h0, .inr (9, tfs))] sz) [(h0, .inr (9, tfs))]) (va_A [(h0, .inr (9, tfs))] sz)) 0 0 (va_A [(h0, .inr (9, tfs))] sz) := by
  refine Met.ofW (cc := cX9_skipBlanks) (maxL := 3) (ret := none) (by decide) rfl ?_
  intro p e s m args below meth c s₁ B hml hv
  obtain ⟨rfl, hsz, hP, hK, hD0, hZ, hE⟩ := hv
  have hx := B.exec
  have hb := B.bytes
  have hr := B.returns
  have hts := atoms_spec (ws := v_c_skipBlanks) B.pre
  have hown : s.vm.findClass RX9 = some m.cls := findClass_of_methodNamed B.named
  have hlocks := B.notSynchronized
  subst hsz
  have hD := hD0.self (sz := s.heap.size)
  generalize hAe : va_A [(h0, .inr (9, tfs))] s.heap.size = A at hD hZ ⊢
  have hA : ∀ q : Nat, s.heap.size ≤ q → A q := fun q h => by rw [← hAe]; exact Or.inr h
  have hS : va_S A s.heap s.heap [] := va_S.rf
  have hAO := hE.2.2.2.1
  have hP : va_P D vwCl [(h0, .inr (9, tfs))] s.heap := hP
  have hl := lv_entry ([.ref h0]) (n := 3) (Nat.le_of_ble_eq_true rfl)
  rw [lg_entry_eq]
  generalize (lg_sl ([.ref h0]) ++ List.replicate (3 - (lg_sl ([.ref h0])).length) Slot.unset).toArray = ls at hl ⊢
  have hl : lv_has ls 3 [(0, .ref h0)] := hl
  refine lv_iconst (v := 0) hx hb dX9_skipBlanks_0 (by decide +kernel) ?_
  refine lv_istore_n (lv' := [(1, .int 0), (0, .ref h0)]) hx hb dX9_skipBlanks_1 rfl hl (by decide) rfl (fun ls hl => ?_)
  refine lv_aload_n hx hb dX9_skipBlanks_2 rfl (lv_at hl 1 rfl) ?_
  refine va_get (D := D) (ci := 9) (v := .int 0) (C := RX9) (T := TX9) (N := 10) hx hb hts i_v_c_skipBlanks_X9 hown hK hP 0 rfl rfl 8 (by decide) (hts (.fieldLink RX9 35 "ScheduleHouse$Tokens" "at" "I") (by decide +kernel)) (fun _ h9 => h9) ht_8 dX9_skipBlanks_3 ?_
  refine lv_aload_n hx hb dX9_skipBlanks_6 rfl (lv_at hl 1 rfl) ?_
  refine va_get (D := D) (ci := 9) (v := .int 0) (C := RX9) (T := TX9) (N := 10) hx hb hts i_v_c_skipBlanks_X9 hown hK hP 0 rfl rfl 1 (by decide) (hts (.fieldLink RX9 31 "ScheduleHouse$Tokens" "length" "I") (by decide +kernel)) (fun _ h9 => h9) ht_1 dX9_skipBlanks_7 ?_
  refine lv_icmp_ge (tgt := 105) hx hb dX9_skipBlanks_10 (by decide) (fun _ => ?_) (fun c9 => False.elim (by revert c9; decide))
  exact W.vret hx hb hr (fun t ht hW => ⟨⟨(), rfl, trivial, by rw [ht]; exact hP, va_K.moved hW.alike hK, hD⟩, hS.F ht⟩) hS.2.2 dX9_skipBlanks_105
noncomputable def v_c_cut : List Cond := .code yX9_cut cX9_cut 3 none :: ([.fieldLink RX9 35 "ScheduleHouse$Tokens" "at" "I", .fieldLink RX9 38 "ScheduleHouse$Tokens" "lineHere" "I", .fieldLink RX9 41 "ScheduleHouse$Tokens" "many" "I", .fieldLink RX9 31 "ScheduleHouse$Tokens" "length" "I", .fieldLink RX9 15 "ScheduleHouse$Tokens" "sort" "[I", .fieldLink RX9 19 "ScheduleHouse$Tokens" "place" "[I", .fieldLink RX9 22 "ScheduleHouse$Tokens" "line" "[I"] ++ (wsX90 ++ ((wsV RX9 44 RX9 yX9_skipBlanks v_c_skipBlanks) ++ ([]))))
theorem i_v_c_cut_X9 : ∀ w ∈ wsX90, w ∈ v_c_cut := fun _ h => List.mem_cons_of_mem _ (List.mem_append_right _ (List.mem_append_left _ h))
theorem g_v_c_cut_1 : GoodIn v_c_cut (wsV RX9 44 RX9 yX9_skipBlanks v_c_skipBlanks) := goodIn_sub (fun _ h => List.mem_cons_of_mem _ (List.mem_append_right _ (List.mem_append_right _ (List.mem_append_left _ h)))) (by decide +kernel)
theorem t_v_c_cut : ∀ w ∈ v_c_cut, w ∈ lw_tbl := tb_c (List.mem_of_getElem? (i := 793) (by decide +kernel)) (tb_a (tb_c (List.mem_of_getElem? (i := 263) (by decide +kernel)) (tb_c (List.mem_of_getElem? (i := 264) (by decide +kernel)) (tb_c (List.mem_of_getElem? (i := 261) (by decide +kernel)) (tb_c (List.mem_of_getElem? (i := 248) (by decide +kernel)) (tb_c (List.mem_of_getElem? (i := 250) (by decide +kernel)) (tb_c (List.mem_of_getElem? (i := 252) (by decide +kernel)) (tb_c (List.mem_of_getElem? (i := 254) (by decide +kernel)) (tb_n)))))))) (tb_a (tw_wsX90) (tb_a (tb_a (tb_c (List.mem_of_getElem? (i := 794) (by decide +kernel)) (tb_c (List.mem_of_getElem? (i := 796) (by decide +kernel)) (tb_c (List.mem_of_getElem? (i := 1) (by decide +kernel)) (tb_c (List.mem_of_getElem? (i := 207) (by decide +kernel)) (tb_n))))) t_v_c_skipBlanks) (tb_n))))
set_option maxHeartbeats 400000 in
set_option maxRecDepth 100000 in
/-- cut() of the empty text -/
theorem c_cut (l : Launch) (D : va_G) (h0 so pl li : Nat) (cs cp ci : ClassId) (tfs : List Value) (f0 f1 f2 : Nat → Int32) (sz : Nat) (ht_l : tfs.length = 10) (ht_1 : tfs[1]? = some (.int 0)) (ht_2 : tfs[2]? = some (.ref so)) (ht_3 : tfs[3]? = some (.ref pl)) (ht_4 : tfs[4]? = some (.ref li)) : Met l yX9_cut v_c_cut ({ frames := 3, cells := 0, slots := 0, locals := 40 }) (va_Pc [.ref h0] (st_ D [(h0, .inr (9, tfs)), (so, .inl (cs, 702, .inl f0)), (pl, .inl (cp, 702, .inl f1)), (li, .inl (ci, 702, .inl f2))] [(cs, .int), (cp, .int), (ci, .int)] sz)) (va_Qv (fun u : List Value => u.length = 10 ∧ u[2]? = some (.ref so) ∧ u[7]? = some (.int 0)) (fun u t => ∃ y0 y1 y2 : Nat → Int32, y0 0 = 0 ∧ va_P D vwCl [(h0, .inr (9, u)), (so, .inl (cs, 702, .inl y0)), (pl, .inl (cp, 702, .inl y1)), (li, .inl (ci, 702, .inl y2))] t.heap ∧ va_K D vwCl [(cs, .int), (cp, .int), (ci, .int)] t ∧ va_D (va_A [(h0, .inr (9, tfs)), (so, .inl (cs, 702, .inl f0)), (pl, .inl (cp, 702, .inl f1)), (li, .inl (ci, 702, .inl f2))] sz) [(h0, .inr (9, u)), (so, .inl (cs, 702, .inl y0)), (pl, .inl (cp, 702, .inl y1)), (li, .inl (ci, 702, .inl y2))]) (va_A [(h0, .inr (9, tfs)), (so, .inl (cs, 702, .inl f0)), (pl, .inl (cp, 702, .inl f1)), (li, .inl (ci, 702, .inl f2))] sz)) 0 0 (va_A [(h0, .inr (9, tfs)), (so, .inl (cs, 702, .inl f0)), (pl, .inl (cp, 702, .inl f1)), (li, .inl (ci, 702, .inl f2))] sz) := by
  refine Met.ofW (cc := cX9_cut) (maxL := 3) (ret := none) (by decide) rfl ?_
  intro p e s m args below meth c s₁ B hml hv
  obtain ⟨rfl, hsz, hP, hK, hD0, hZ, hE⟩ := hv
  have hx := B.exec
  have hb := B.bytes
  have hr := B.returns
  have hts := atoms_spec (ws := v_c_cut) B.pre
  have hown : s.vm.findClass RX9 = some m.cls := findClass_of_methodNamed B.named
  have hlocks := B.notSynchronized
  subst hsz
  have hD := hD0.self (sz := s.heap.size)
  generalize hAe : va_A [(h0, .inr (9, tfs)), (so, .inl (cs, 702, .inl f0)), (pl, .inl (cp, 702, .inl f1)), (li, .inl (ci, 702, .inl f2))] s.heap.size = A at hD hZ ⊢
  have hA : ∀ q : Nat, s.heap.size ≤ q → A q := fun q h => by rw [← hAe]; exact Or.inr h
  have hS : va_S A s.heap s.heap [] := va_S.rf
  have hAO := hE.2.2.2.1
  have hP : va_P D vwCl [(h0, .inr (9, tfs)), (so, .inl (cs, 702, .inl f0)), (pl, .inl (cp, 702, .inl f1)), (li, .inl (ci, 702, .inl f2))] s.heap := hP
  have hl := lv_entry ([.ref h0]) (n := 3) (Nat.le_of_ble_eq_true rfl)
  rw [lg_entry_eq]
  generalize (lg_sl ([.ref h0]) ++ List.replicate (3 - (lg_sl ([.ref h0])).length) Slot.unset).toArray = ls at hl ⊢
  have hl : lv_has ls 3 [(0, .ref h0)] := hl
  refine lv_aload_n hx hb dX9_cut_0 rfl (lv_at hl 0 rfl) ?_
  refine lv_iconst (v := 0) hx hb dX9_cut_1 (by decide +kernel) ?_
  refine va_put (D := D) (ci := 9) (v := .int 0) (ty := .int) (C := RX9) (T := TX9) (N := 10) hx hb hts i_v_c_cut_X9 tyX9 tyX9_ok nmX9 hown hK hP hD hS 0 rfl rfl 8 (by decide) (hts (.fieldLink RX9 35 "ScheduleHouse$Tokens" "at" "I") (by decide +kernel)) (fun _ h9 => h9) rfl (by decide +kernel) rfl rfl (by rw [ht_l]; decide) dX9_cut_2 (fun H locs hP hD hS => ?_)
  obtain ⟨fs1, hfs1⟩ : ∃ z, z = tfs.set 8 (.int 0) := ⟨_, rfl⟩
  rw [← hfs1] at hP hD
  have lfs1 : fs1.length = 10 := by rw [hfs1, List.length_set]; exact ht_l
  have gfs1_1 : fs1[1]? = some (.int 0) := by rw [hfs1, List.getElem?_set_ne (by decide)]; exact ht_1
  have gfs1_2 : fs1[2]? = some (.ref so) := by rw [hfs1, List.getElem?_set_ne (by decide)]; exact ht_2
  have gfs1_3 : fs1[3]? = some (.ref pl) := by rw [hfs1, List.getElem?_set_ne (by decide)]; exact ht_3
  have gfs1_4 : fs1[4]? = some (.ref li) := by rw [hfs1, List.getElem?_set_ne (by decide)]; exact ht_4
  have gfs1_8 : fs1[8]? = some (.int 0) := by rw [hfs1]; exact List.getElem?_set_self (by rw [ht_l]; decide)
  have hP : va_P D vwCl [(h0, .inr (9, fs1)), (so, .inl (cs, 702, .inl f0)), (pl, .inl (cp, 702, .inl f1)), (li, .inl (ci, 702, .inl f2))] H := hP
  have hD : va_D A [(h0, .inr (9, fs1)), (so, .inl (cs, 702, .inl f0)), (pl, .inl (cp, 702, .inl f1)), (li, .inl (ci, 702, .inl f2))] := hD
  refine lv_aload_n hx hb dX9_cut_5 rfl (lv_at hl 0 rfl) ?_
  refine lv_iconst (v := 1) hx hb dX9_cut_6 (by decide +kernel) ?_
  refine va_put (D := D) (ci := 9) (v := .int 1) (ty := .int) (C := RX9) (T := TX9) (N := 10) hx hb hts i_v_c_cut_X9 tyX9 tyX9_ok nmX9 hown hK hP hD hS 0 rfl rfl 9 (by decide) (hts (.fieldLink RX9 38 "ScheduleHouse$Tokens" "lineHere" "I") (by decide +kernel)) (fun _ h9 => h9) rfl (by decide +kernel) rfl rfl (by rw [lfs1]; decide) dX9_cut_7 (fun H locs hP hD hS => ?_)
  obtain ⟨fs2, hfs2⟩ : ∃ z, z = fs1.set 9 (.int 1) := ⟨_, rfl⟩
  rw [← hfs2] at hP hD
  have lfs2 : fs2.length = 10 := by rw [hfs2, List.length_set]; exact lfs1
  have gfs2_1 : fs2[1]? = some (.int 0) := by rw [hfs2, List.getElem?_set_ne (by decide)]; exact gfs1_1
  have gfs2_2 : fs2[2]? = some (.ref so) := by rw [hfs2, List.getElem?_set_ne (by decide)]; exact gfs1_2
  have gfs2_3 : fs2[3]? = some (.ref pl) := by rw [hfs2, List.getElem?_set_ne (by decide)]; exact gfs1_3
  have gfs2_4 : fs2[4]? = some (.ref li) := by rw [hfs2, List.getElem?_set_ne (by decide)]; exact gfs1_4
  have gfs2_8 : fs2[8]? = some (.int 0) := by rw [hfs2, List.getElem?_set_ne (by decide)]; exact gfs1_8
  have gfs2_9 : fs2[9]? = some (.int 1) := by rw [hfs2]; exact List.getElem?_set_self (by rw [lfs1]; decide)
  have hP : va_P D vwCl [(h0, .inr (9, fs2)), (so, .inl (cs, 702, .inl f0)), (pl, .inl (cp, 702, .inl f1)), (li, .inl (ci, 702, .inl f2))] H := hP
  have hD : va_D A [(h0, .inr (9, fs2)), (so, .inl (cs, 702, .inl f0)), (pl, .inl (cp, 702, .inl f1)), (li, .inl (ci, 702, .inl f2))] := hD
  refine lv_aload_n hx hb dX9_cut_10 rfl (lv_at hl 0 rfl) ?_
  refine lv_iconst (v := 0) hx hb dX9_cut_11 (by decide +kernel) ?_
  refine va_put (D := D) (ci := 9) (v := .int 0) (ty := .int) (C := RX9) (T := TX9) (N := 10) hx hb hts i_v_c_cut_X9 tyX9 tyX9_ok nmX9 hown hK hP hD hS 0 rfl rfl 7 (by decide) (hts (.fieldLink RX9 41 "ScheduleHouse$Tokens" "many" "I") (by decide +kernel)) (fun _ h9 => h9) rfl (by decide +kernel) rfl rfl (by rw [lfs2]; decide) dX9_cut_12 (fun H locs hP hD hS => ?_)
  obtain ⟨fs3, hfs3⟩ : ∃ z, z = fs2.set 7 (.int 0) := ⟨_, rfl⟩
  rw [← hfs3] at hP hD
  have lfs3 : fs3.length = 10 := by rw [hfs3, List.length_set]; exact lfs2
  have gfs3_1 : fs3[1]? = some (.int 0) := by rw [hfs3, List.getElem?_set_ne (by decide)]; exact gfs2_1
  have gfs3_2 : fs3[2]? = some (.ref so) := by rw [hfs3, List.getElem?_set_ne (by decide)]; exact gfs2_2
  have gfs3_3 : fs3[3]? = some (.ref pl) := by rw [hfs3, List.getElem?_set_ne (by decide)]; exact gfs2_3
  have gfs3_4 : fs3[4]? = some (.ref li) := by rw [hfs3, List.getElem?_set_ne (by decide)]; exact gfs2_4
  have gfs3_8 : fs3[8]? = some (.int 0) := by rw [hfs3, List.getElem?_set_ne (by decide)]; exact gfs2_8
  have gfs3_9 : fs3[9]? = some (.int 1) := by rw [hfs3, List.getElem?_set_ne (by decide)]; exact gfs2_9
  have gfs3_7 : fs3[7]? = some (.int 0) := by rw [hfs3]; exact List.getElem?_set_self (by rw [lfs2]; decide)
  have hP : va_P D vwCl [(h0, .inr (9, fs3)), (so, .inl (cs, 702, .inl f0)), (pl, .inl (cp, 702, .inl f1)), (li, .inl (ci, 702, .inl f2))] H := hP
  have hD : va_D A [(h0, .inr (9, fs3)), (so, .inl (cs, 702, .inl f0)), (pl, .inl (cp, 702, .inl f1)), (li, .inl (ci, 702, .inl f2))] := hD
  refine lv_iconst (v := 1) hx hb dX9_cut_15 (by decide +kernel) ?_
  refine lv_istore_n (lv' := [(1, .int 1), (0, .ref h0)]) hx hb dX9_cut_16 rfl hl (by decide) rfl (fun ls hl => ?_)
  refine lv_iconst (v := 0) hx hb dX9_cut_17 (by decide +kernel) ?_
  refine lv_istore_n (lv' := [(2, .int 0), (1, .int 1), (0, .ref h0)]) hx hb dX9_cut_18 rfl hl (by decide) rfl (fun ls hl => ?_)
  refine lv_iload_n hx hb dX9_cut_19 rfl (lv_at hl 0 rfl) ?_
  refine lv_sipush (v := 700) hx hb dX9_cut_20 (by decide +kernel) ?_
  refine lv_icmp_gt (tgt := 122) hx hb dX9_cut_23 (by decide) (fun c9 => False.elim (by revert c9; decide)) (fun _ => ?_)
  refine lv_iload_n hx hb dX9_cut_26 rfl (lv_at hl 1 rfl) ?_
  refine lv_if_eq (tgt := 122) hx hb dX9_cut_27 (by decide) (fun c9 => False.elim (by revert c9; decide)) (fun _ => ?_)
  refine lv_aload_n hx hb dX9_cut_30 rfl (lv_at hl 2 rfl) ?_
  have hPc := hP.sub (ws' := [(h0, .inr (9, fs3))]) [0] rfl
  have hDc := hD.sub (ws' := [(h0, .inr (9, fs3))]) [0] (by decide) rfl
  have hKc := hK.sub (tys' := []) [] rfl
  have hFc := va_free (wc := [(h0, .inr (9, fs3))]) hD hS hA [0] rfl
  refine va_callv (va_runV (As := []) (rest := []) ⟨hx, hb, hml, hown, hts⟩ (c_skipBlanks l D h0 fs3 H.size lfs3 gfs3_1 gfs3_8) (cwV 0 hts g_v_c_cut_1 rfl rfl rfl (by decide +kernel) ⟨Nat.le_of_ble_eq_true rfl, Nat.le_of_ble_eq_true rfl⟩) ⟨st_blind, va_recv hKc hPc (ci := 9) (q0 := 0) rfl rfl, fun U hU hW => ⟨rfl, st_call hU hW hPc hKc hDc hZ hS hFc hE⟩⟩ rfl rfl hl.1 rfl (lv_room (Nat.le_of_ble_eq_true rfl)) dX9_cut_31 ⟨Nat.le_of_ble_eq_true rfl, Nat.le_of_ble_eq_true rfl⟩) hS (fun q _ h => hFc q h) hFc (fun  u4 t H1 locs ht hvm hw hB hz1 hk1 hS => ?_)
  obtain ⟨hP1, hK1, hD1⟩ := hB
  rw [ht] at hP1
  have hK1 := va_K.moved hvm.symm hK1
  obtain ⟨hP, hD⟩ := va_join (wr := [(so, .inl (cs, 702, .inl f0)), (pl, .inl (cp, 702, .inl f1)), (li, .inl (ci, 702, .inl f2))]) (w1 := [(h0, .inr (9, fs3))]) hP hD [0] [1, 2, 3] rfl rfl (by decide) (by decide) hk1 hFc hP1 hD1
  have hK := (hK.sub (tys' := [(cs, .int), (cp, .int), (ci, .int)]) [0, 1, 2] rfl).app hK1
  generalize H1 = H at hP hS ⊢
  have hP : va_P D vwCl [(so, .inl (cs, 702, .inl f0)), (pl, .inl (cp, 702, .inl f1)), (li, .inl (ci, 702, .inl f2)), (h0, .inr (9, fs3))] H := hP
  have hD : va_D A [(so, .inl (cs, 702, .inl f0)), (pl, .inl (cp, 702, .inl f1)), (li, .inl (ci, 702, .inl f2)), (h0, .inr (9, fs3))] := hD
  have hK : va_K D vwCl [(cs, .int), (cp, .int), (ci, .int)] s := hK
  refine lv_aload_n hx hb dX9_cut_34 rfl (lv_at hl 2 rfl) ?_
  refine va_get (D := D) (ci := 9) (v := .int 0) (C := RX9) (T := TX9) (N := 10) hx hb hts i_v_c_cut_X9 hown hK hP 3 rfl rfl 8 (by decide) (hts (.fieldLink RX9 35 "ScheduleHouse$Tokens" "at" "I") (by decide +kernel)) (fun _ h9 => h9) gfs3_8 dX9_cut_35 ?_
  refine lv_aload_n hx hb dX9_cut_38 rfl (lv_at hl 2 rfl) ?_
  refine va_get (D := D) (ci := 9) (v := .int 0) (C := RX9) (T := TX9) (N := 10) hx hb hts i_v_c_cut_X9 hown hK hP 3 rfl rfl 1 (by decide) (hts (.fieldLink RX9 31 "ScheduleHouse$Tokens" "length" "I") (by decide +kernel)) (fun _ h9 => h9) gfs3_1 dX9_cut_39 ?_
  refine lv_icmp_lt (tgt := 48) hx hb dX9_cut_42 (by decide) (fun c9 => False.elim (by revert c9; decide)) (fun _ => ?_)
  refine lv_goto (tgt := 122) hx hb dX9_cut_45 (by decide) ?_
  refine lv_aload_n hx hb dX9_cut_122 rfl (lv_at hl 2 rfl) ?_
  refine va_get (D := D) (ci := 9) (v := .ref so) (C := RX9) (T := TX9) (N := 10) hx hb hts i_v_c_cut_X9 hown hK hP 3 rfl rfl 2 (by decide) (hts (.fieldLink RX9 15 "ScheduleHouse$Tokens" "sort" "[I") (by decide +kernel)) (fun _ h9 => h9) gfs3_2 dX9_cut_123 ?_
  refine lv_aload_n hx hb dX9_cut_126 rfl (lv_at hl 2 rfl) ?_
  refine va_get (D := D) (ci := 9) (v := .int 0) (C := RX9) (T := TX9) (N := 10) hx hb hts i_v_c_cut_X9 hown hK hP 3 rfl rfl 7 (by decide) (hts (.fieldLink RX9 41 "ScheduleHouse$Tokens" "many" "I") (by decide +kernel)) (fun _ h9 => h9) gfs3_7 dX9_cut_127 ?_
  refine lv_iconst (v := 0) hx hb dX9_cut_130 (by decide +kernel) ?_
  refine va_iast hx hb hK hP hD hS 0 0 rfl rfl (i := 0) (x := 0) (by unfold vp_in; decide) dX9_cut_131 (fun H locs hP hD hS => ?_)
  obtain ⟨fy5, hfy5⟩ : ∃ z : Nat → Int32, z = upd f0 (0 : Int32).toNatClampNeg 0 := ⟨_, rfl⟩
  have hP : va_P D vwCl [(so, .inl (cs, 702, .inl fy5)), (pl, .inl (cp, 702, .inl f1)), (li, .inl (ci, 702, .inl f2)), (h0, .inr (9, fs3))] H := by rw [hfy5]; exact hP
  have hD : va_D A [(so, .inl (cs, 702, .inl fy5)), (pl, .inl (cp, 702, .inl f1)), (li, .inl (ci, 702, .inl f2)), (h0, .inr (9, fs3))] := by rw [hfy5]; exact hD
  refine lv_aload_n hx hb dX9_cut_132 rfl (lv_at hl 2 rfl) ?_
  refine va_get (D := D) (ci := 9) (v := .ref pl) (C := RX9) (T := TX9) (N := 10) hx hb hts i_v_c_cut_X9 hown hK hP 3 rfl rfl 3 (by decide) (hts (.fieldLink RX9 19 "ScheduleHouse$Tokens" "place" "[I") (by decide +kernel)) (fun _ h9 => h9) gfs3_3 dX9_cut_133 ?_
  refine lv_aload_n hx hb dX9_cut_136 rfl (lv_at hl 2 rfl) ?_
  refine va_get (D := D) (ci := 9) (v := .int 0) (C := RX9) (T := TX9) (N := 10) hx hb hts i_v_c_cut_X9 hown hK hP 3 rfl rfl 7 (by decide) (hts (.fieldLink RX9 41 "ScheduleHouse$Tokens" "many" "I") (by decide +kernel)) (fun _ h9 => h9) gfs3_7 dX9_cut_137 ?_
  refine lv_aload_n hx hb dX9_cut_140 rfl (lv_at hl 2 rfl) ?_
  refine va_get (D := D) (ci := 9) (v := .int 0) (C := RX9) (T := TX9) (N := 10) hx hb hts i_v_c_cut_X9 hown hK hP 3 rfl rfl 1 (by decide) (hts (.fieldLink RX9 31 "ScheduleHouse$Tokens" "length" "I") (by decide +kernel)) (fun _ h9 => h9) gfs3_1 dX9_cut_141 ?_
  refine va_iast hx hb hK hP hD hS 1 1 rfl rfl (i := 0) (x := 0) (by unfold vp_in; decide) dX9_cut_144 (fun H locs hP hD hS => ?_)
  obtain ⟨fy6, hfy6⟩ : ∃ z : Nat → Int32, z = upd f1 (0 : Int32).toNatClampNeg 0 := ⟨_, rfl⟩
  have hP : va_P D vwCl [(so, .inl (cs, 702, .inl fy5)), (pl, .inl (cp, 702, .inl fy6)), (li, .inl (ci, 702, .inl f2)), (h0, .inr (9, fs3))] H := by rw [hfy6]; exact hP
  have hD : va_D A [(so, .inl (cs, 702, .inl fy5)), (pl, .inl (cp, 702, .inl fy6)), (li, .inl (ci, 702, .inl f2)), (h0, .inr (9, fs3))] := by rw [hfy6]; exact hD
  refine lv_aload_n hx hb dX9_cut_145 rfl (lv_at hl 2 rfl) ?_
  refine va_get (D := D) (ci := 9) (v := .ref li) (C := RX9) (T := TX9) (N := 10) hx hb hts i_v_c_cut_X9 hown hK hP 3 rfl rfl 4 (by decide) (hts (.fieldLink RX9 22 "ScheduleHouse$Tokens" "line" "[I") (by decide +kernel)) (fun _ h9 => h9) gfs3_4 dX9_cut_146 ?_
  refine lv_aload_n hx hb dX9_cut_149 rfl (lv_at hl 2 rfl) ?_
  refine va_get (D := D) (ci := 9) (v := .int 0) (C := RX9) (T := TX9) (N := 10) hx hb hts i_v_c_cut_X9 hown hK hP 3 rfl rfl 7 (by decide) (hts (.fieldLink RX9 41 "ScheduleHouse$Tokens" "many" "I") (by decide +kernel)) (fun _ h9 => h9) gfs3_7 dX9_cut_150 ?_
  refine lv_aload_n hx hb dX9_cut_153 rfl (lv_at hl 2 rfl) ?_
  refine va_get (D := D) (ci := 9) (v := .int 1) (C := RX9) (T := TX9) (N := 10) hx hb hts i_v_c_cut_X9 hown hK hP 3 rfl rfl 9 (by decide) (hts (.fieldLink RX9 38 "ScheduleHouse$Tokens" "lineHere" "I") (by decide +kernel)) (fun _ h9 => h9) gfs3_9 dX9_cut_154 ?_
  refine va_iast hx hb hK hP hD hS 2 2 rfl rfl (i := 0) (x := 1) (by unfold vp_in; decide) dX9_cut_157 (fun H locs hP hD hS => ?_)
  obtain ⟨fy7, hfy7⟩ : ∃ z : Nat → Int32, z = upd f2 (0 : Int32).toNatClampNeg 1 := ⟨_, rfl⟩
  have hP : va_P D vwCl [(so, .inl (cs, 702, .inl fy5)), (pl, .inl (cp, 702, .inl fy6)), (li, .inl (ci, 702, .inl fy7)), (h0, .inr (9, fs3))] H := by rw [hfy7]; exact hP
  have hD : va_D A [(so, .inl (cs, 702, .inl fy5)), (pl, .inl (cp, 702, .inl fy6)), (li, .inl (ci, 702, .inl fy7)), (h0, .inr (9, fs3))] := by rw [hfy7]; exact hD
  have e0 : fy5 0 = 0 := by rw [hfy5]; rfl
  have hP : va_P D vwCl [(h0, .inr (9, fs3)), (so, .inl (cs, 702, .inl fy5)), (pl, .inl (cp, 702, .inl fy6)), (li, .inl (ci, 702, .inl fy7))] H := hP.sub [3, 0, 1, 2] rfl
  have hD : va_D A [(h0, .inr (9, fs3)), (so, .inl (cs, 702, .inl fy5)), (pl, .inl (cp, 702, .inl fy6)), (li, .inl (ci, 702, .inl fy7))] := hD.sub [3, 0, 1, 2] (by decide) rfl
  have hK : va_K D vwCl [(cs, .int), (cp, .int), (ci, .int)] s := hK.sub [0, 1, 2] rfl
  exact W.vret hx hb hr (fun t ht hW => ⟨⟨fs3, rfl, ⟨lfs3, gfs3_2, gfs3_7⟩, fy5, fy6, fy7, e0, by rw [ht]; exact hP, va_K.moved hW.alike hK, hD⟩, hS.F ht⟩) hS.2.2 dX9_cut_158
noncomputable def v_c_Names_clear : List Cond := .code yX6_clear cX6_clear 1 none :: ([.fieldLink RX6 39 "ScheduleHouse$Names" "cellDefs" "I", .fieldLink RX6 43 "ScheduleHouse$Names" "locks" "I", .fieldLink RX6 46 "ScheduleHouse$Names" "threads" "I", .fieldLink RX6 17 "ScheduleHouse$Names" "use" "[I", .fieldLink RX6 21 "ScheduleHouse$Names" "meaning" "[I"] ++ (wsX60 ++ ((va_wsS RX6 49 yJ7_fill_53178 v_c_fill) ++ ([]))))
theorem i_v_c_Names_clear_X6 : ∀ w ∈ wsX60, w ∈ v_c_Names_clear := fun _ h => List.mem_cons_of_mem _ (List.mem_append_right _ (List.mem_append_left _ h))
theorem g_v_c_Names_clear_1 : GoodIn v_c_Names_clear (va_wsS RX6 49 yJ7_fill_53178 v_c_fill) := goodIn_sub (fun _ h => List.mem_cons_of_mem _ (List.mem_append_right _ (List.mem_append_right _ (List.mem_append_left _ h)))) (by decide +kernel)
theorem t_v_c_Names_clear : ∀ w ∈ v_c_Names_clear, w ∈ lw_tbl := tb_c (List.mem_of_getElem? (i := 883) (by decide +kernel)) (tb_a (tb_c (List.mem_of_getElem? (i := 304) (by decide +kernel)) (tb_c (List.mem_of_getElem? (i := 306) (by decide +kernel)) (tb_c (List.mem_of_getElem? (i := 308) (by decide +kernel)) (tb_c (List.mem_of_getElem? (i := 295) (by decide +kernel)) (tb_c (List.mem_of_getElem? (i := 297) (by decide +kernel)) (tb_n)))))) (tb_a (tw_wsX60) (tb_a (tb_a (tb_c (List.mem_of_getElem? (i := 884) (by decide +kernel)) (tb_c (List.mem_of_getElem? (i := 885) (by decide +kernel)) (tb_c (List.mem_of_getElem? (i := 224) (by decide +kernel)) (tb_n)))) t_v_c_fill) (tb_n))))
set_option maxHeartbeats 400000 in
set_option maxRecDepth 100000 in
/-- Names.clear() -/
theorem c_Names_clear (l : Launch) (D : va_G) (h0 tk us me : Nat) (cu cm : ClassId) (nfs : List Value) (f0 f1 : Nat → Int32) (sz : Nat) (hn_l : nfs.length = 12) (hn_0 : nfs[0]? = some (.ref tk)) (hn_1 : nfs[1]? = some (.ref us)) (hn_2 : nfs[2]? = some (.ref me)) (hn_11 : nfs[11]? = some (.int 0)) : Met l yX6_clear v_c_Names_clear ({ frames := 3, cells := 0, slots := 0, locals := 50 }) (va_Pc [.ref h0] (st_ D [(h0, .inr (6, nfs)), (us, .inl (cu, 702, .inl f0)), (me, .inl (cm, 702, .inl f1))] [(cu, .int), (cm, .int)] sz)) (va_Qv (fun u : List Value => u.length = 12 ∧ u[0]? = some (.ref tk) ∧ u[1]? = some (.ref us) ∧ u[2]? = some (.ref me) ∧ u[11]? = some (.int 0)) (fun u t => ∃ y0 y1 : Nat → Int32, va_P D vwCl [(h0, .inr (6, u)), (us, .inl (cu, 702, .inl y0)), (me, .inl (cm, 702, .inl y1))] t.heap ∧ va_K D vwCl [(cu, .int), (cm, .int)] t ∧ va_D (va_A [(h0, .inr (6, nfs)), (us, .inl (cu, 702, .inl f0)), (me, .inl (cm, 702, .inl f1))] sz) [(h0, .inr (6, u)), (us, .inl (cu, 702, .inl y0)), (me, .inl (cm, 702, .inl y1))]) (va_A [(h0, .inr (6, nfs)), (us, .inl (cu, 702, .inl f0)), (me, .inl (cm, 702, .inl f1))] sz)) 0 0 (va_A [(h0, .inr (6, nfs)), (us, .inl (cu, 702, .inl f0)), (me, .inl (cm, 702, .inl f1))] sz) := by
  refine Met.ofW (cc := cX6_clear) (maxL := 1) (ret := none) (by decide) rfl ?_
  intro p e s m args below meth c s₁ B hml hv
  obtain ⟨rfl, hsz, hP, hK, hD0, hZ, hE⟩ := hv
  have hx := B.exec
  have hb := B.bytes
  have hr := B.returns
  have hts := atoms_spec (ws := v_c_Names_clear) B.pre
  have hown : s.vm.findClass RX6 = some m.cls := findClass_of_methodNamed B.named
  have hlocks := B.notSynchronized
  subst hsz
  have hD := hD0.self (sz := s.heap.size)
  generalize hAe : va_A [(h0, .inr (6, nfs)), (us, .inl (cu, 702, .inl f0)), (me, .inl (cm, 702, .inl f1))] s.heap.size = A at hD hZ ⊢
  have hA : ∀ q : Nat, s.heap.size ≤ q → A q := fun q h => by rw [← hAe]; exact Or.inr h
  have hS : va_S A s.heap s.heap [] := va_S.rf
  have hAO := hE.2.2.2.1
  have hP : va_P D vwCl [(h0, .inr (6, nfs)), (us, .inl (cu, 702, .inl f0)), (me, .inl (cm, 702, .inl f1))] s.heap := hP
  have hl := lv_entry ([.ref h0]) (n := 1) (Nat.le_of_ble_eq_true rfl)
  rw [lg_entry_eq]
  generalize (lg_sl ([.ref h0]) ++ List.replicate (1 - (lg_sl ([.ref h0])).length) Slot.unset).toArray = ls at hl ⊢
  have hl : lv_has ls 1 [(0, .ref h0)] := hl
  refine lv_aload_n hx hb dX6_clear_0 rfl (lv_at hl 0 rfl) ?_
  refine lv_iconst (v := 0) hx hb dX6_clear_1 (by decide +kernel) ?_
  refine va_put (D := D) (ci := 6) (v := .int 0) (ty := .int) (C := RX6) (T := TX6) (N := 12) hx hb hts i_v_c_Names_clear_X6 tyX6 tyX6_ok nmX6 hown hK hP hD hS 0 rfl rfl 6 (by decide) (hts (.fieldLink RX6 39 "ScheduleHouse$Names" "cellDefs" "I") (by decide +kernel)) (fun _ h9 => h9) rfl (by decide +kernel) rfl rfl (by rw [hn_l]; decide) dX6_clear_2 (fun H locs hP hD hS => ?_)
  obtain ⟨fs1, hfs1⟩ : ∃ z, z = nfs.set 6 (.int 0) := ⟨_, rfl⟩
  rw [← hfs1] at hP hD
  have lfs1 : fs1.length = 12 := by rw [hfs1, List.length_set]; exact hn_l
  have gfs1_0 : fs1[0]? = some (.ref tk) := by rw [hfs1, List.getElem?_set_ne (by decide)]; exact hn_0
  have gfs1_1 : fs1[1]? = some (.ref us) := by rw [hfs1, List.getElem?_set_ne (by decide)]; exact hn_1
  have gfs1_2 : fs1[2]? = some (.ref me) := by rw [hfs1, List.getElem?_set_ne (by decide)]; exact hn_2
  have gfs1_11 : fs1[11]? = some (.int 0) := by rw [hfs1, List.getElem?_set_ne (by decide)]; exact hn_11
  have gfs1_6 : fs1[6]? = some (.int 0) := by rw [hfs1]; exact List.getElem?_set_self (by rw [hn_l]; decide)
  have hP : va_P D vwCl [(h0, .inr (6, fs1)), (us, .inl (cu, 702, .inl f0)), (me, .inl (cm, 702, .inl f1))] H := hP
  have hD : va_D A [(h0, .inr (6, fs1)), (us, .inl (cu, 702, .inl f0)), (me, .inl (cm, 702, .inl f1))] := hD
  refine lv_aload_n hx hb dX6_clear_5 rfl (lv_at hl 0 rfl) ?_
  refine lv_iconst (v := 0) hx hb dX6_clear_6 (by decide +kernel) ?_
  refine va_put (D := D) (ci := 6) (v := .int 0) (ty := .int) (C := RX6) (T := TX6) (N := 12) hx hb hts i_v_c_Names_clear_X6 tyX6 tyX6_ok nmX6 hown hK hP hD hS 0 rfl rfl 8 (by decide) (hts (.fieldLink RX6 43 "ScheduleHouse$Names" "locks" "I") (by decide +kernel)) (fun _ h9 => h9) rfl (by decide +kernel) rfl rfl (by rw [lfs1]; decide) dX6_clear_7 (fun H locs hP hD hS => ?_)
  obtain ⟨fs2, hfs2⟩ : ∃ z, z = fs1.set 8 (.int 0) := ⟨_, rfl⟩
  rw [← hfs2] at hP hD
  have lfs2 : fs2.length = 12 := by rw [hfs2, List.length_set]; exact lfs1
  have gfs2_0 : fs2[0]? = some (.ref tk) := by rw [hfs2, List.getElem?_set_ne (by decide)]; exact gfs1_0
  have gfs2_1 : fs2[1]? = some (.ref us) := by rw [hfs2, List.getElem?_set_ne (by decide)]; exact gfs1_1
  have gfs2_2 : fs2[2]? = some (.ref me) := by rw [hfs2, List.getElem?_set_ne (by decide)]; exact gfs1_2
  have gfs2_11 : fs2[11]? = some (.int 0) := by rw [hfs2, List.getElem?_set_ne (by decide)]; exact gfs1_11
  have gfs2_6 : fs2[6]? = some (.int 0) := by rw [hfs2, List.getElem?_set_ne (by decide)]; exact gfs1_6
  have gfs2_8 : fs2[8]? = some (.int 0) := by rw [hfs2]; exact List.getElem?_set_self (by rw [lfs1]; decide)
  have hP : va_P D vwCl [(h0, .inr (6, fs2)), (us, .inl (cu, 702, .inl f0)), (me, .inl (cm, 702, .inl f1))] H := hP
  have hD : va_D A [(h0, .inr (6, fs2)), (us, .inl (cu, 702, .inl f0)), (me, .inl (cm, 702, .inl f1))] := hD
  refine lv_aload_n hx hb dX6_clear_10 rfl (lv_at hl 0 rfl) ?_
  refine lv_iconst (v := 0) hx hb dX6_clear_11 (by decide +kernel) ?_
  refine va_put (D := D) (ci := 6) (v := .int 0) (ty := .int) (C := RX6) (T := TX6) (N := 12) hx hb hts i_v_c_Names_clear_X6 tyX6 tyX6_ok nmX6 hown hK hP hD hS 0 rfl rfl 10 (by decide) (hts (.fieldLink RX6 46 "ScheduleHouse$Names" "threads" "I") (by decide +kernel)) (fun _ h9 => h9) rfl (by decide +kernel) rfl rfl (by rw [lfs2]; decide) dX6_clear_12 (fun H locs hP hD hS => ?_)
  obtain ⟨fs3, hfs3⟩ : ∃ z, z = fs2.set 10 (.int 0) := ⟨_, rfl⟩
  rw [← hfs3] at hP hD
  have lfs3 : fs3.length = 12 := by rw [hfs3, List.length_set]; exact lfs2
  have gfs3_0 : fs3[0]? = some (.ref tk) := by rw [hfs3, List.getElem?_set_ne (by decide)]; exact gfs2_0
  have gfs3_1 : fs3[1]? = some (.ref us) := by rw [hfs3, List.getElem?_set_ne (by decide)]; exact gfs2_1
  have gfs3_2 : fs3[2]? = some (.ref me) := by rw [hfs3, List.getElem?_set_ne (by decide)]; exact gfs2_2
  have gfs3_11 : fs3[11]? = some (.int 0) := by rw [hfs3, List.getElem?_set_ne (by decide)]; exact gfs2_11
  have gfs3_6 : fs3[6]? = some (.int 0) := by rw [hfs3, List.getElem?_set_ne (by decide)]; exact gfs2_6
  have gfs3_8 : fs3[8]? = some (.int 0) := by rw [hfs3, List.getElem?_set_ne (by decide)]; exact gfs2_8
  have gfs3_10 : fs3[10]? = some (.int 0) := by rw [hfs3]; exact List.getElem?_set_self (by rw [lfs2]; decide)
  have hP : va_P D vwCl [(h0, .inr (6, fs3)), (us, .inl (cu, 702, .inl f0)), (me, .inl (cm, 702, .inl f1))] H := hP
  have hD : va_D A [(h0, .inr (6, fs3)), (us, .inl (cu, 702, .inl f0)), (me, .inl (cm, 702, .inl f1))] := hD
  refine lv_aload_n hx hb dX6_clear_15 rfl (lv_at hl 0 rfl) ?_
  refine va_get (D := D) (ci := 6) (v := .ref us) (C := RX6) (T := TX6) (N := 12) hx hb hts i_v_c_Names_clear_X6 hown hK hP 0 rfl rfl 1 (by decide) (hts (.fieldLink RX6 17 "ScheduleHouse$Names" "use" "[I") (by decide +kernel)) (fun _ h9 => h9) gfs3_1 dX6_clear_16 ?_
  refine lv_iconst (v := 0) hx hb dX6_clear_19 (by decide +kernel) ?_
  have hPc := hP.sub (ws' := [(us, .inl (cu, 702, .inl f0))]) [1] rfl
  have hDc := hD.sub (ws' := [(us, .inl (cu, 702, .inl f0))]) [1] (by decide) rfl
  have hKc := hK.sub (tys' := [(cu, .int)]) [0] rfl
  have hFc := va_free (wc := [(us, .inl (cu, 702, .inl f0))]) hD hS hA [1] rfl
  refine va_callv (va_runS (As := [.ref us, .int 0]) (rest := []) ⟨hx, hb, hml, hown, hts⟩ (c_fill l D us 702 cu f0 0 H.size (by decide)) (va_cwS 2 hts g_v_c_Names_clear_1 rfl rfl rfl (by decide +kernel) ⟨Nat.le_of_ble_eq_true rfl, Nat.le_of_ble_eq_true rfl⟩) ⟨st_blind, fun U hU hW => ⟨rfl, st_call hU hW hPc hKc hDc hZ hS hFc hE⟩⟩ rfl rfl hl.1 rfl (lv_room (Nat.le_of_ble_eq_true rfl)) dX6_clear_20 ⟨Nat.le_of_ble_eq_true rfl, Nat.le_of_ble_eq_true rfl⟩) hS (fun q _ h => hFc q h) hFc (fun  u4 t H1 locs ht hvm hw hB hz1 hk1 hS => ?_)
  obtain ⟨fy5, hP1, hK1, hD1⟩ := hB
  rw [ht] at hP1
  have hK1 := va_K.moved hvm.symm hK1
  obtain ⟨hP, hD⟩ := va_join (wr := [(h0, .inr (6, fs3)), (me, .inl (cm, 702, .inl f1))]) (w1 := [(us, .inl (cu, 702, .inl fy5))]) hP hD [1] [0, 2] rfl rfl (by decide) (by decide) hk1 hFc hP1 hD1
  have hK := (hK.sub (tys' := [(cm, .int)]) [1] rfl).app hK1
  generalize H1 = H at hP hS ⊢
  have hP : va_P D vwCl [(h0, .inr (6, fs3)), (me, .inl (cm, 702, .inl f1)), (us, .inl (cu, 702, .inl fy5))] H := hP
  have hD : va_D A [(h0, .inr (6, fs3)), (me, .inl (cm, 702, .inl f1)), (us, .inl (cu, 702, .inl fy5))] := hD
  have hK : va_K D vwCl [(cm, .int), (cu, .int)] s := hK
  refine lv_aload_n hx hb dX6_clear_23 rfl (lv_at hl 0 rfl) ?_
  refine va_get (D := D) (ci := 6) (v := .ref me) (C := RX6) (T := TX6) (N := 12) hx hb hts i_v_c_Names_clear_X6 hown hK hP 0 rfl rfl 2 (by decide) (hts (.fieldLink RX6 21 "ScheduleHouse$Names" "meaning" "[I") (by decide +kernel)) (fun _ h9 => h9) gfs3_2 dX6_clear_24 ?_
  refine lv_iconst (v := (-1)) hx hb dX6_clear_27 (by decide +kernel) ?_
  have hPc := hP.sub (ws' := [(me, .inl (cm, 702, .inl f1))]) [1] rfl
  have hDc := hD.sub (ws' := [(me, .inl (cm, 702, .inl f1))]) [1] (by decide) rfl
  have hKc := hK.sub (tys' := [(cm, .int)]) [0] rfl
  have hFc := va_free (wc := [(me, .inl (cm, 702, .inl f1))]) hD hS hA [1] rfl
  refine va_callv (va_runS (As := [.ref me, .int (-1)]) (rest := []) ⟨hx, hb, hml, hown, hts⟩ (c_fill l D me 702 cm f1 (-1) H.size (by decide)) (va_cwS 2 hts g_v_c_Names_clear_1 rfl rfl rfl (by decide +kernel) ⟨Nat.le_of_ble_eq_true rfl, Nat.le_of_ble_eq_true rfl⟩) ⟨st_blind, fun U hU hW => ⟨rfl, st_call hU hW hPc hKc hDc hZ hS hFc hE⟩⟩ rfl rfl hl.1 rfl (lv_room (Nat.le_of_ble_eq_true rfl)) dX6_clear_28 ⟨Nat.le_of_ble_eq_true rfl, Nat.le_of_ble_eq_true rfl⟩) hS (fun q _ h => hFc q h) hFc (fun  u6 t H1 locs ht hvm hw hB hz1 hk1 hS => ?_)
  obtain ⟨fy7, hP1, hK1, hD1⟩ := hB
  rw [ht] at hP1
  have hK1 := va_K.moved hvm.symm hK1
  obtain ⟨hP, hD⟩ := va_join (wr := [(h0, .inr (6, fs3)), (us, .inl (cu, 702, .inl fy5))]) (w1 := [(me, .inl (cm, 702, .inl fy7))]) hP hD [1] [0, 2] rfl rfl (by decide) (by decide) hk1 hFc hP1 hD1
  have hK := (hK.sub (tys' := [(cu, .int)]) [1] rfl).app hK1
  generalize H1 = H at hP hS ⊢
  have hP : va_P D vwCl [(h0, .inr (6, fs3)), (us, .inl (cu, 702, .inl fy5)), (me, .inl (cm, 702, .inl fy7))] H := hP
  have hD : va_D A [(h0, .inr (6, fs3)), (us, .inl (cu, 702, .inl fy5)), (me, .inl (cm, 702, .inl fy7))] := hD
  have hK : va_K D vwCl [(cu, .int), (cm, .int)] s := hK
  have hP : va_P D vwCl [(h0, .inr (6, fs3)), (us, .inl (cu, 702, .inl fy5)), (me, .inl (cm, 702, .inl fy7))] H := hP.sub [0, 1, 2] rfl
  have hD : va_D A [(h0, .inr (6, fs3)), (us, .inl (cu, 702, .inl fy5)), (me, .inl (cm, 702, .inl fy7))] := hD.sub [0, 1, 2] (by decide) rfl
  have hK : va_K D vwCl [(cu, .int), (cm, .int)] s := hK.sub [0, 1] rfl
  exact W.vret hx hb hr (fun t ht hW => ⟨⟨fs3, rfl, ⟨lfs3, gfs3_0, gfs3_1, gfs3_2, gfs3_11⟩, fy5, fy7, by rw [ht]; exact hP, va_K.moved hW.alike hK, hD⟩, hS.F ht⟩) hS.2.2 dX6_clear_31
noncomputable def v_c_Code_clear : List Cond := .code yX0_clear cX0_clear 1 none :: ([.fieldLink RX0 14 "ScheduleHouse$Code" "steps" "LScheduleHouse$Steps;", .fieldLink RX0 49 "ScheduleHouse$Steps" "many" "I", .fieldLink RX0 53 "ScheduleHouse$Code" "sumParts" "I", .fieldLink RX0 56 "ScheduleHouse$Code" "cells" "I", .fieldLink RX0 59 "ScheduleHouse$Code" "locks" "I", .fieldLink RX0 62 "ScheduleHouse$Code" "threads" "I", .fieldLink RX0 65 "ScheduleHouse$Code" "mostLocals" "I", .fieldLink RX0 68 "ScheduleHouse$Code" "always" "I", .fieldLink RX0 71 "ScheduleHouse$Code" "finals" "I"] ++ (wsX00 ++ (wsX80 ++ ([]))))
theorem i_v_c_Code_clear_X0 : ∀ w ∈ wsX00, w ∈ v_c_Code_clear := fun _ h => List.mem_cons_of_mem _ (List.mem_append_right _ (List.mem_append_left _ h))
theorem i_v_c_Code_clear_X8 : ∀ w ∈ wsX80, w ∈ v_c_Code_clear := fun _ h => List.mem_cons_of_mem _ (List.mem_append_right _ (List.mem_append_right _ (List.mem_append_left _ h)))
theorem t_v_c_Code_clear : ∀ w ∈ v_c_Code_clear, w ∈ lw_tbl := tb_c (List.mem_of_getElem? (i := 890) (by decide +kernel)) (tb_a (tb_l (ps := [399, 375, 405, 412, 423, 427, 438, 441, 448]) (by decide +kernel)) (tb_a (tw_wsX00) (tb_a (tw_wsX80) (tb_n))))
set_option maxHeartbeats 400000 in
set_option maxRecDepth 100000 in
/-- Code.clear() -/
theorem c_Code_clear (l : Launch) (D : va_G) (h0 sp : Nat) (cfs sfs : List Value) (sz : Nat) (hc_l : cfs.length = 18) (hc_0 : cfs[0]? = some (.ref sp)) (hs_l : sfs.length = 10) : Met l yX0_clear v_c_Code_clear ({ frames := 1, cells := 0, slots := 0, locals := 12 }) (va_Pc [.ref h0] (st_ D [(h0, .inr (0, cfs)), (sp, .inr (8, sfs))] [] sz)) (va_Qv (fun u : List Value × List Value => (u.1.length = 18 ∧ u.1[0]? = some (.ref sp) ∧ u.1[3]? = some (.int 0) ∧ u.1[10]? = some (.int 0)) ∧ (u.2.length = 10 ∧ u.2[9]? = some (.int 0))) (fun u t => va_P D vwCl [(h0, .inr (0, u.1)), (sp, .inr (8, u.2))] t.heap ∧ va_K D vwCl [] t ∧ va_D (va_A [(h0, .inr (0, cfs)), (sp, .inr (8, sfs))] sz) [(h0, .inr (0, u.1)), (sp, .inr (8, u.2))]) (va_A [(h0, .inr (0, cfs)), (sp, .inr (8, sfs))] sz)) 0 0 (va_A [(h0, .inr (0, cfs)), (sp, .inr (8, sfs))] sz) := by
  refine Met.ofW (cc := cX0_clear) (maxL := 1) (ret := none) (by decide) rfl ?_
  intro p e s m args below meth c s₁ B hml hv
  obtain ⟨rfl, hsz, hP, hK, hD0, hZ, hE⟩ := hv
  have hx := B.exec
  have hb := B.bytes
  have hr := B.returns
  have hts := atoms_spec (ws := v_c_Code_clear) B.pre
  have hown : s.vm.findClass RX0 = some m.cls := findClass_of_methodNamed B.named
  have hlocks := B.notSynchronized
  subst hsz
  have hD := hD0.self (sz := s.heap.size)
  generalize hAe : va_A [(h0, .inr (0, cfs)), (sp, .inr (8, sfs))] s.heap.size = A at hD hZ ⊢
  have hA : ∀ q : Nat, s.heap.size ≤ q → A q := fun q h => by rw [← hAe]; exact Or.inr h
  have hS : va_S A s.heap s.heap [] := va_S.rf
  have hAO := hE.2.2.2.1
  have hP : va_P D vwCl [(h0, .inr (0, cfs)), (sp, .inr (8, sfs))] s.heap := hP
  have hl := lv_entry ([.ref h0]) (n := 1) (Nat.le_of_ble_eq_true rfl)
  rw [lg_entry_eq]
  generalize (lg_sl ([.ref h0]) ++ List.replicate (1 - (lg_sl ([.ref h0])).length) Slot.unset).toArray = ls at hl ⊢
  have hl : lv_has ls 1 [(0, .ref h0)] := hl
  refine lv_aload_n hx hb dX0_clear_0 rfl (lv_at hl 0 rfl) ?_
  refine va_get (D := D) (ci := 0) (v := .ref sp) (C := RX0) (T := TX0) (N := 18) hx hb hts i_v_c_Code_clear_X0 hown hK hP 0 rfl rfl 0 (by decide) (hts (.fieldLink RX0 14 "ScheduleHouse$Code" "steps" "LScheduleHouse$Steps;") (by decide +kernel)) (fun _ h9 => h9) hc_0 dX0_clear_1 ?_
  refine lv_iconst (v := 0) hx hb dX0_clear_4 (by decide +kernel) ?_
  refine va_put (D := D) (ci := 8) (v := .int 0) (ty := .int) (C := RX8) (T := TX8) (N := 10) hx hb hts i_v_c_Code_clear_X8 tyX8 tyX8_ok nmX8 hown hK hP hD hS 1 rfl rfl 9 (by decide) (hts (.fieldLink RX0 49 "ScheduleHouse$Steps" "many" "I") (by decide +kernel)) (fun _ h9 => h9) rfl (by decide +kernel) rfl rfl (by rw [hs_l]; decide) dX0_clear_5 (fun H locs hP hD hS => ?_)
  obtain ⟨fs1, hfs1⟩ : ∃ z, z = sfs.set 9 (.int 0) := ⟨_, rfl⟩
  rw [← hfs1] at hP hD
  have lfs1 : fs1.length = 10 := by rw [hfs1, List.length_set]; exact hs_l
  have gfs1_9 : fs1[9]? = some (.int 0) := by rw [hfs1]; exact List.getElem?_set_self (by rw [hs_l]; decide)
  have hP : va_P D vwCl [(h0, .inr (0, cfs)), (sp, .inr (8, fs1))] H := hP
  have hD : va_D A [(h0, .inr (0, cfs)), (sp, .inr (8, fs1))] := hD
  refine lv_aload_n hx hb dX0_clear_8 rfl (lv_at hl 0 rfl) ?_
  refine lv_iconst (v := 0) hx hb dX0_clear_9 (by decide +kernel) ?_
  refine va_put (D := D) (ci := 0) (v := .int 0) (ty := .int) (C := RX0) (T := TX0) (N := 18) hx hb hts i_v_c_Code_clear_X0 tyX0 tyX0_ok nmX0 hown hK hP hD hS 0 rfl rfl 3 (by decide) (hts (.fieldLink RX0 53 "ScheduleHouse$Code" "sumParts" "I") (by decide +kernel)) (fun _ h9 => h9) rfl (by decide +kernel) rfl rfl (by rw [hc_l]; decide) dX0_clear_10 (fun H locs hP hD hS => ?_)
  obtain ⟨fs2, hfs2⟩ : ∃ z, z = cfs.set 3 (.int 0) := ⟨_, rfl⟩
  rw [← hfs2] at hP hD
  have lfs2 : fs2.length = 18 := by rw [hfs2, List.length_set]; exact hc_l
  have gfs2_0 : fs2[0]? = some (.ref sp) := by rw [hfs2, List.getElem?_set_ne (by decide)]; exact hc_0
  have gfs2_3 : fs2[3]? = some (.int 0) := by rw [hfs2]; exact List.getElem?_set_self (by rw [hc_l]; decide)
  have hP : va_P D vwCl [(h0, .inr (0, fs2)), (sp, .inr (8, fs1))] H := hP
  have hD : va_D A [(h0, .inr (0, fs2)), (sp, .inr (8, fs1))] := hD
  refine lv_aload_n hx hb dX0_clear_13 rfl (lv_at hl 0 rfl) ?_
  refine lv_iconst (v := 0) hx hb dX0_clear_14 (by decide +kernel) ?_
  refine va_put (D := D) (ci := 0) (v := .int 0) (ty := .int) (C := RX0) (T := TX0) (N := 18) hx hb hts i_v_c_Code_clear_X0 tyX0 tyX0_ok nmX0 hown hK hP hD hS 0 rfl rfl 6 (by decide) (hts (.fieldLink RX0 56 "ScheduleHouse$Code" "cells" "I") (by decide +kernel)) (fun _ h9 => h9) rfl (by decide +kernel) rfl rfl (by rw [lfs2]; decide) dX0_clear_15 (fun H locs hP hD hS => ?_)
  obtain ⟨fs3, hfs3⟩ : ∃ z, z = fs2.set 6 (.int 0) := ⟨_, rfl⟩
  rw [← hfs3] at hP hD
  have lfs3 : fs3.length = 18 := by rw [hfs3, List.length_set]; exact lfs2
  have gfs3_0 : fs3[0]? = some (.ref sp) := by rw [hfs3, List.getElem?_set_ne (by decide)]; exact gfs2_0
  have gfs3_3 : fs3[3]? = some (.int 0) := by rw [hfs3, List.getElem?_set_ne (by decide)]; exact gfs2_3
  have gfs3_6 : fs3[6]? = some (.int 0) := by rw [hfs3]; exact List.getElem?_set_self (by rw [lfs2]; decide)
  have hP : va_P D vwCl [(h0, .inr (0, fs3)), (sp, .inr (8, fs1))] H := hP
  have hD : va_D A [(h0, .inr (0, fs3)), (sp, .inr (8, fs1))] := hD
  refine lv_aload_n hx hb dX0_clear_18 rfl (lv_at hl 0 rfl) ?_
  refine lv_iconst (v := 0) hx hb dX0_clear_19 (by decide +kernel) ?_
  refine va_put (D := D) (ci := 0) (v := .int 0) (ty := .int) (C := RX0) (T := TX0) (N := 18) hx hb hts i_v_c_Code_clear_X0 tyX0 tyX0_ok nmX0 hown hK hP hD hS 0 rfl rfl 9 (by decide) (hts (.fieldLink RX0 59 "ScheduleHouse$Code" "locks" "I") (by decide +kernel)) (fun _ h9 => h9) rfl (by decide +kernel) rfl rfl (by rw [lfs3]; decide) dX0_clear_20 (fun H locs hP hD hS => ?_)
  obtain ⟨fs4, hfs4⟩ : ∃ z, z = fs3.set 9 (.int 0) := ⟨_, rfl⟩
  rw [← hfs4] at hP hD
  have lfs4 : fs4.length = 18 := by rw [hfs4, List.length_set]; exact lfs3
  have gfs4_0 : fs4[0]? = some (.ref sp) := by rw [hfs4, List.getElem?_set_ne (by decide)]; exact gfs3_0
  have gfs4_3 : fs4[3]? = some (.int 0) := by rw [hfs4, List.getElem?_set_ne (by decide)]; exact gfs3_3
  have gfs4_6 : fs4[6]? = some (.int 0) := by rw [hfs4, List.getElem?_set_ne (by decide)]; exact gfs3_6
  have gfs4_9 : fs4[9]? = some (.int 0) := by rw [hfs4]; exact List.getElem?_set_self (by rw [lfs3]; decide)
  have hP : va_P D vwCl [(h0, .inr (0, fs4)), (sp, .inr (8, fs1))] H := hP
  have hD : va_D A [(h0, .inr (0, fs4)), (sp, .inr (8, fs1))] := hD
  refine lv_aload_n hx hb dX0_clear_23 rfl (lv_at hl 0 rfl) ?_
  refine lv_iconst (v := 0) hx hb dX0_clear_24 (by decide +kernel) ?_
  refine va_put (D := D) (ci := 0) (v := .int 0) (ty := .int) (C := RX0) (T := TX0) (N := 18) hx hb hts i_v_c_Code_clear_X0 tyX0 tyX0_ok nmX0 hown hK hP hD hS 0 rfl rfl 10 (by decide) (hts (.fieldLink RX0 62 "ScheduleHouse$Code" "threads" "I") (by decide +kernel)) (fun _ h9 => h9) rfl (by decide +kernel) rfl rfl (by rw [lfs4]; decide) dX0_clear_25 (fun H locs hP hD hS => ?_)
  obtain ⟨fs5, hfs5⟩ : ∃ z, z = fs4.set 10 (.int 0) := ⟨_, rfl⟩
  rw [← hfs5] at hP hD
  have lfs5 : fs5.length = 18 := by rw [hfs5, List.length_set]; exact lfs4
  have gfs5_0 : fs5[0]? = some (.ref sp) := by rw [hfs5, List.getElem?_set_ne (by decide)]; exact gfs4_0
  have gfs5_3 : fs5[3]? = some (.int 0) := by rw [hfs5, List.getElem?_set_ne (by decide)]; exact gfs4_3
  have gfs5_6 : fs5[6]? = some (.int 0) := by rw [hfs5, List.getElem?_set_ne (by decide)]; exact gfs4_6
  have gfs5_9 : fs5[9]? = some (.int 0) := by rw [hfs5, List.getElem?_set_ne (by decide)]; exact gfs4_9
  have gfs5_10 : fs5[10]? = some (.int 0) := by rw [hfs5]; exact List.getElem?_set_self (by rw [lfs4]; decide)
  have hP : va_P D vwCl [(h0, .inr (0, fs5)), (sp, .inr (8, fs1))] H := hP
  have hD : va_D A [(h0, .inr (0, fs5)), (sp, .inr (8, fs1))] := hD
  refine lv_aload_n hx hb dX0_clear_28 rfl (lv_at hl 0 rfl) ?_
  refine lv_iconst (v := 0) hx hb dX0_clear_29 (by decide +kernel) ?_
  refine va_put (D := D) (ci := 0) (v := .int 0) (ty := .int) (C := RX0) (T := TX0) (N := 18) hx hb hts i_v_c_Code_clear_X0 tyX0 tyX0_ok nmX0 hown hK hP hD hS 0 rfl rfl 13 (by decide) (hts (.fieldLink RX0 65 "ScheduleHouse$Code" "mostLocals" "I") (by decide +kernel)) (fun _ h9 => h9) rfl (by decide +kernel) rfl rfl (by rw [lfs5]; decide) dX0_clear_30 (fun H locs hP hD hS => ?_)
  obtain ⟨fs6, hfs6⟩ : ∃ z, z = fs5.set 13 (.int 0) := ⟨_, rfl⟩
  rw [← hfs6] at hP hD
  have lfs6 : fs6.length = 18 := by rw [hfs6, List.length_set]; exact lfs5
  have gfs6_0 : fs6[0]? = some (.ref sp) := by rw [hfs6, List.getElem?_set_ne (by decide)]; exact gfs5_0
  have gfs6_3 : fs6[3]? = some (.int 0) := by rw [hfs6, List.getElem?_set_ne (by decide)]; exact gfs5_3
  have gfs6_6 : fs6[6]? = some (.int 0) := by rw [hfs6, List.getElem?_set_ne (by decide)]; exact gfs5_6
  have gfs6_9 : fs6[9]? = some (.int 0) := by rw [hfs6, List.getElem?_set_ne (by decide)]; exact gfs5_9
  have gfs6_10 : fs6[10]? = some (.int 0) := by rw [hfs6, List.getElem?_set_ne (by decide)]; exact gfs5_10
  have gfs6_13 : fs6[13]? = some (.int 0) := by rw [hfs6]; exact List.getElem?_set_self (by rw [lfs5]; decide)
  have hP : va_P D vwCl [(h0, .inr (0, fs6)), (sp, .inr (8, fs1))] H := hP
  have hD : va_D A [(h0, .inr (0, fs6)), (sp, .inr (8, fs1))] := hD
  refine lv_aload_n hx hb dX0_clear_33 rfl (lv_at hl 0 rfl) ?_
  refine lv_iconst (v := 0) hx hb dX0_clear_34 (by decide +kernel) ?_
  refine va_put (D := D) (ci := 0) (v := .int 0) (ty := .int) (C := RX0) (T := TX0) (N := 18) hx hb hts i_v_c_Code_clear_X0 tyX0 tyX0_ok nmX0 hown hK hP hD hS 0 rfl rfl 14 (by decide) (hts (.fieldLink RX0 68 "ScheduleHouse$Code" "always" "I") (by decide +kernel)) (fun _ h9 => h9) rfl (by decide +kernel) rfl rfl (by rw [lfs6]; decide) dX0_clear_35 (fun H locs hP hD hS => ?_)
  obtain ⟨fs7, hfs7⟩ : ∃ z, z = fs6.set 14 (.int 0) := ⟨_, rfl⟩
  rw [← hfs7] at hP hD
  have lfs7 : fs7.length = 18 := by rw [hfs7, List.length_set]; exact lfs6
  have gfs7_0 : fs7[0]? = some (.ref sp) := by rw [hfs7, List.getElem?_set_ne (by decide)]; exact gfs6_0
  have gfs7_3 : fs7[3]? = some (.int 0) := by rw [hfs7, List.getElem?_set_ne (by decide)]; exact gfs6_3
  have gfs7_6 : fs7[6]? = some (.int 0) := by rw [hfs7, List.getElem?_set_ne (by decide)]; exact gfs6_6
  have gfs7_9 : fs7[9]? = some (.int 0) := by rw [hfs7, List.getElem?_set_ne (by decide)]; exact gfs6_9
  have gfs7_10 : fs7[10]? = some (.int 0) := by rw [hfs7, List.getElem?_set_ne (by decide)]; exact gfs6_10
  have gfs7_13 : fs7[13]? = some (.int 0) := by rw [hfs7, List.getElem?_set_ne (by decide)]; exact gfs6_13
  have gfs7_14 : fs7[14]? = some (.int 0) := by rw [hfs7]; exact List.getElem?_set_self (by rw [lfs6]; decide)
  have hP : va_P D vwCl [(h0, .inr (0, fs7)), (sp, .inr (8, fs1))] H := hP
  have hD : va_D A [(h0, .inr (0, fs7)), (sp, .inr (8, fs1))] := hD
  refine lv_aload_n hx hb dX0_clear_38 rfl (lv_at hl 0 rfl) ?_
  refine lv_iconst (v := 0) hx hb dX0_clear_39 (by decide +kernel) ?_
  refine va_put (D := D) (ci := 0) (v := .int 0) (ty := .int) (C := RX0) (T := TX0) (N := 18) hx hb hts i_v_c_Code_clear_X0 tyX0 tyX0_ok nmX0 hown hK hP hD hS 0 rfl rfl 16 (by decide) (hts (.fieldLink RX0 71 "ScheduleHouse$Code" "finals" "I") (by decide +kernel)) (fun _ h9 => h9) rfl (by decide +kernel) rfl rfl (by rw [lfs7]; decide) dX0_clear_40 (fun H locs hP hD hS => ?_)
  obtain ⟨fs8, hfs8⟩ : ∃ z, z = fs7.set 16 (.int 0) := ⟨_, rfl⟩
  rw [← hfs8] at hP hD
  have lfs8 : fs8.length = 18 := by rw [hfs8, List.length_set]; exact lfs7
  have gfs8_0 : fs8[0]? = some (.ref sp) := by rw [hfs8, List.getElem?_set_ne (by decide)]; exact gfs7_0
  have gfs8_3 : fs8[3]? = some (.int 0) := by rw [hfs8, List.getElem?_set_ne (by decide)]; exact gfs7_3
  have gfs8_6 : fs8[6]? = some (.int 0) := by rw [hfs8, List.getElem?_set_ne (by decide)]; exact gfs7_6
  have gfs8_9 : fs8[9]? = some (.int 0) := by rw [hfs8, List.getElem?_set_ne (by decide)]; exact gfs7_9
  have gfs8_10 : fs8[10]? = some (.int 0) := by rw [hfs8, List.getElem?_set_ne (by decide)]; exact gfs7_10
  have gfs8_13 : fs8[13]? = some (.int 0) := by rw [hfs8, List.getElem?_set_ne (by decide)]; exact gfs7_13
  have gfs8_14 : fs8[14]? = some (.int 0) := by rw [hfs8, List.getElem?_set_ne (by decide)]; exact gfs7_14
  have gfs8_16 : fs8[16]? = some (.int 0) := by rw [hfs8]; exact List.getElem?_set_self (by rw [lfs7]; decide)
  have hP : va_P D vwCl [(h0, .inr (0, fs8)), (sp, .inr (8, fs1))] H := hP
  have hD : va_D A [(h0, .inr (0, fs8)), (sp, .inr (8, fs1))] := hD
  exact W.vret hx hb hr (fun t ht hW => ⟨⟨(fs8, fs1), rfl, ⟨⟨lfs8, gfs8_0, gfs8_3, gfs8_10⟩, ⟨lfs1, gfs1_9⟩⟩, by rw [ht]; exact hP, va_K.moved hW.alike hK, hD⟩, hS.F ht⟩) hS.2.2 dX0_clear_43
noncomputable def v_c_Reader_sort : List Cond := .code yX7_sort cX7_sort 1 (some .int) :: ([.fieldLink RX7 11 "ScheduleHouse$Reader" "tokens" "LScheduleHouse$Tokens;", .fieldLink RX7 100 "ScheduleHouse$Tokens" "sort" "[I", .fieldLink RX7 52 "ScheduleHouse$Reader" "next" "I"] ++ (wsX70 ++ (wsX90 ++ ([]))))
theorem i_v_c_Reader_sort_X7 : ∀ w ∈ wsX70, w ∈ v_c_Reader_sort := fun _ h => List.mem_cons_of_mem _ (List.mem_append_right _ (List.mem_append_left _ h))
theorem i_v_c_Reader_sort_X9 : ∀ w ∈ wsX90, w ∈ v_c_Reader_sort := fun _ h => List.mem_cons_of_mem _ (List.mem_append_right _ (List.mem_append_right _ (List.mem_append_left _ h)))
theorem t_v_c_Reader_sort : ∀ w ∈ v_c_Reader_sort, w ∈ lw_tbl := tb_c (List.mem_of_getElem? (i := 894) (by decide +kernel)) (tb_a (tb_c (List.mem_of_getElem? (i := 499) (by decide +kernel)) (tb_c (List.mem_of_getElem? (i := 251) (by decide +kernel)) (tb_c (List.mem_of_getElem? (i := 503) (by decide +kernel)) (tb_n)))) (tb_a (tw_wsX70) (tb_a (tw_wsX90) (tb_n))))
set_option maxHeartbeats 400000 in
set_option maxRecDepth 100000 in
/-- Reader.sort(): the end -/
theorem c_Reader_sort (l : Launch) (D : va_G) (h0 tk so : Nat) (cs : ClassId) (rfs tfs : List Value) (f0 : Nat → Int32) (sz : Nat) (hr__l : rfs.length = 18) (hr__0 : rfs[0]? = some (.ref tk)) (hr__4 : rfs[4]? = some (.int 0)) (ht_l : tfs.length = 10) (ht_2 : tfs[2]? = some (.ref so)) (he0 : f0 0 = 0) : Met l yX7_sort v_c_Reader_sort ({ frames := 1, cells := 0, slots := 0, locals := 12 }) (va_Pc [.ref h0] (st_ D [(h0, .inr (7, rfs)), (tk, .inr (9, tfs)), (so, .inl (cs, 702, .inl f0))] [(cs, .int)] sz)) (va_Qi (fun (r : Int32) (_ : Unit) => r = 0) (fun _ t => va_P D vwCl [(h0, .inr (7, rfs)), (tk, .inr (9, tfs)), (so, .inl (cs, 702, .inl f0))] t.heap ∧ va_K D vwCl [(cs, .int)] t ∧ va_D (va_A [(h0, .inr (7, rfs)), (tk, .inr (9, tfs)), (so, .inl (cs, 702, .inl f0))] sz) [(h0, .inr (7, rfs)), (tk, .inr (9, tfs)), (so, .inl (cs, 702, .inl f0))]) (va_A [(h0, .inr (7, rfs)), (tk, .inr (9, tfs)), (so, .inl (cs, 702, .inl f0))] sz)) 0 0 (va_A [(h0, .inr (7, rfs)), (tk, .inr (9, tfs)), (so, .inl (cs, 702, .inl f0))] sz) := by
  refine Met.ofW (cc := cX7_sort) (maxL := 1) (ret := (some .int)) (by decide) rfl ?_
  intro p e s m args below meth c s₁ B hml hv
  obtain ⟨rfl, hsz, hP, hK, hD0, hZ, hE⟩ := hv
  have hx := B.exec
  have hb := B.bytes
  have hr := B.returns
  have hts := atoms_spec (ws := v_c_Reader_sort) B.pre
  have hown : s.vm.findClass RX7 = some m.cls := findClass_of_methodNamed B.named
  have hlocks := B.notSynchronized
  subst hsz
  have hD := hD0.self (sz := s.heap.size)
  generalize hAe : va_A [(h0, .inr (7, rfs)), (tk, .inr (9, tfs)), (so, .inl (cs, 702, .inl f0))] s.heap.size = A at hD hZ ⊢
  have hA : ∀ q : Nat, s.heap.size ≤ q → A q := fun q h => by rw [← hAe]; exact Or.inr h
  have hS : va_S A s.heap s.heap [] := va_S.rf
  have hAO := hE.2.2.2.1
  have hP : va_P D vwCl [(h0, .inr (7, rfs)), (tk, .inr (9, tfs)), (so, .inl (cs, 702, .inl f0))] s.heap := hP
  have hl := lv_entry ([.ref h0]) (n := 1) (Nat.le_of_ble_eq_true rfl)
  rw [lg_entry_eq]
  generalize (lg_sl ([.ref h0]) ++ List.replicate (1 - (lg_sl ([.ref h0])).length) Slot.unset).toArray = ls at hl ⊢
  have hl : lv_has ls 1 [(0, .ref h0)] := hl
  refine lv_aload_n hx hb dX7_sort_0 rfl (lv_at hl 0 rfl) ?_
  refine va_get (D := D) (ci := 7) (v := .ref tk) (C := RX7) (T := TX7) (N := 18) hx hb hts i_v_c_Reader_sort_X7 hown hK hP 0 rfl rfl 0 (by decide) (hts (.fieldLink RX7 11 "ScheduleHouse$Reader" "tokens" "LScheduleHouse$Tokens;") (by decide +kernel)) (fun _ h9 => h9) hr__0 dX7_sort_1 ?_
  refine va_get (D := D) (ci := 9) (v := .ref so) (C := RX9) (T := TX9) (N := 10) hx hb hts i_v_c_Reader_sort_X9 hown hK hP 1 rfl rfl 2 (by decide) (hts (.fieldLink RX7 100 "ScheduleHouse$Tokens" "sort" "[I") (by decide +kernel)) (fun _ h9 => h9) ht_2 dX7_sort_4 ?_
  refine lv_aload_n hx hb dX7_sort_7 rfl (lv_at hl 0 rfl) ?_
  refine va_get (D := D) (ci := 7) (v := .int 0) (C := RX7) (T := TX7) (N := 18) hx hb hts i_v_c_Reader_sort_X7 hown hK hP 0 rfl rfl 4 (by decide) (hts (.fieldLink RX7 52 "ScheduleHouse$Reader" "next" "I") (by decide +kernel)) (fun _ h9 => h9) hr__4 dX7_sort_8 ?_
  refine va_iald hx hb hK hP 2 0 rfl rfl (i := 0) (by unfold vp_in; decide) dX7_sort_11 ?_
  rw [show f0 (0 : Int32).toNatClampNeg = 0 from he0]
  exact W.iret (v := 0) hx hb hr (fun t ht hW => ⟨⟨0, (), rfl, rfl, by rw [ht]; exact hP, va_K.moved hW.alike hK, hD⟩, hS.F ht⟩) hS.2.2 dX7_sort_12
noncomputable def v_c_readAll : List Cond := .code yX7_readAll cX7_readAll 2 none :: ([.fieldLink RX7 15 "ScheduleHouse$Reader" "names" "LScheduleHouse$Names;", .fieldLink RX7 19 "ScheduleHouse$Reader" "code" "LScheduleHouse$Code;", .fieldLink RX7 52 "ScheduleHouse$Reader" "next" "I", .fieldLink RX7 62 "ScheduleHouse$Reader" "faultNumber" "I", .fieldLink RX7 65 "ScheduleHouse$Reader" "inThread" "Z"] ++ (wsX70 ++ ((wsV RX7 56 RX6 yX6_clear v_c_Names_clear) ++ ((wsV RX7 61 RX0 yX0_clear v_c_Code_clear) ++ ((wsV RX7 71 RX7 yX7_sort v_c_Reader_sort) ++ ([]))))))
theorem i_v_c_readAll_X7 : ∀ w ∈ wsX70, w ∈ v_c_readAll := fun _ h => List.mem_cons_of_mem _ (List.mem_append_right _ (List.mem_append_left _ h))
theorem g_v_c_readAll_1 : GoodIn v_c_readAll (wsV RX7 56 RX6 yX6_clear v_c_Names_clear) := goodIn_sub (fun _ h => List.mem_cons_of_mem _ (List.mem_append_right _ (List.mem_append_right _ (List.mem_append_left _ h)))) (by decide +kernel)
theorem g_v_c_readAll_2 : GoodIn v_c_readAll (wsV RX7 61 RX0 yX0_clear v_c_Code_clear) := goodIn_sub (fun _ h => List.mem_cons_of_mem _ (List.mem_append_right _ (List.mem_append_right _ (List.mem_append_right _ (List.mem_append_left _ h))))) (by decide +kernel)
theorem g_v_c_readAll_3 : GoodIn v_c_readAll (wsV RX7 71 RX7 yX7_sort v_c_Reader_sort) := goodIn_sub (fun _ h => List.mem_cons_of_mem _ (List.mem_append_right _ (List.mem_append_right _ (List.mem_append_right _ (List.mem_append_right _ (List.mem_append_left _ h)))))) (by decide +kernel)
theorem t_v_c_readAll : ∀ w ∈ v_c_readAll, w ∈ lw_tbl := tb_c (List.mem_of_getElem? (i := 879) (by decide +kernel)) (tb_a (tb_c (List.mem_of_getElem? (i := 500) (by decide +kernel)) (tb_c (List.mem_of_getElem? (i := 501) (by decide +kernel)) (tb_c (List.mem_of_getElem? (i := 503) (by decide +kernel)) (tb_c (List.mem_of_getElem? (i := 505) (by decide +kernel)) (tb_c (List.mem_of_getElem? (i := 504) (by decide +kernel)) (tb_n)))))) (tb_a (tw_wsX70) (tb_a (tb_a (tb_c (List.mem_of_getElem? (i := 880) (by decide +kernel)) (tb_c (List.mem_of_getElem? (i := 881) (by decide +kernel)) (tb_c (List.mem_of_getElem? (i := 882) (by decide +kernel)) (tb_c (List.mem_of_getElem? (i := 208) (by decide +kernel)) (tb_n))))) t_v_c_Names_clear) (tb_a (tb_a (tb_c (List.mem_of_getElem? (i := 887) (by decide +kernel)) (tb_c (List.mem_of_getElem? (i := 888) (by decide +kernel)) (tb_c (List.mem_of_getElem? (i := 889) (by decide +kernel)) (tb_c (List.mem_of_getElem? (i := 209) (by decide +kernel)) (tb_n))))) t_v_c_Code_clear) (tb_a (tb_a (tb_c (List.mem_of_getElem? (i := 891) (by decide +kernel)) (tb_c (List.mem_of_getElem? (i := 893) (by decide +kernel)) (tb_c (List.mem_of_getElem? (i := 9) (by decide +kernel)) (tb_c (List.mem_of_getElem? (i := 211) (by decide +kernel)) (tb_n))))) t_v_c_Reader_sort) (tb_n))))))
set_option maxHeartbeats 400000 in
set_option maxRecDepth 100000 in
/-- readAll() of the empty text -/
theorem c_readAll (l : Launch) (D : va_G) (h0 nm us me cd sp tk so : Nat) (cu cm cs : ClassId) (rfs nfs cfs sfs tfs : List Value) (f0 f1 f2 : Nat → Int32) (sz : Nat) (hr__l : rfs.length = 18) (hr__0 : rfs[0]? = some (.ref tk)) (hr__1 : rfs[1]? = some (.ref nm)) (hr__2 : rfs[2]? = some (.ref cd)) (hr__3 : rfs[3]? = some (.ref sp)) (hn_l : nfs.length = 12) (hn_0 : nfs[0]? = some (.ref tk)) (hn_1 : nfs[1]? = some (.ref us)) (hn_2 : nfs[2]? = some (.ref me)) (hn_11 : nfs[11]? = some (.int 0)) (hc_l : cfs.length = 18) (hc_0 : cfs[0]? = some (.ref sp)) (hs_l : sfs.length = 10) (ht_l : tfs.length = 10) (ht_2 : tfs[2]? = some (.ref so)) (ht_7 : tfs[7]? = some (.int 0)) (he0 : f0 0 = 0) : Met l yX7_readAll v_c_readAll ({ frames := 6, cells := 0, slots := 0, locals := 120 }) (va_Pc [.ref h0] (st_ D [(h0, .inr (7, rfs)), (nm, .inr (6, nfs)), (us, .inl (cu, 702, .inl f1)), (me, .inl (cm, 702, .inl f2)), (cd, .inr (0, cfs)), (sp, .inr (8, sfs)), (tk, .inr (9, tfs)), (so, .inl (cs, 702, .inl f0))] [(cu, .int), (cm, .int), (cs, .int)] sz)) (va_Qv (fun u : List Value × List Value × List Value × List Value × List Value => (u.1.length = 18 ∧ u.1[2]? = some (.ref cd) ∧ u.1[3]? = some (.ref sp)) ∧ (u.2.1.length = 12 ∧ u.2.1[0]? = some (.ref tk) ∧ u.2.1[11]? = some (.int 0)) ∧ (u.2.2.1.length = 18 ∧ u.2.2.1[0]? = some (.ref sp) ∧ u.2.2.1[3]? = some (.int 0) ∧ u.2.2.1[10]? = some (.int 0)) ∧ (u.2.2.2.1.length = 10 ∧ u.2.2.2.1[9]? = some (.int 0)) ∧ (u.2.2.2.2.length = 10 ∧ u.2.2.2.2[7]? = some (.int 0))) (fun u t => va_P D vwCl [(h0, .inr (7, u.1)), (nm, .inr (6, u.2.1)), (cd, .inr (0, u.2.2.1)), (sp, .inr (8, u.2.2.2.1)), (tk, .inr (9, u.2.2.2.2))] t.heap ∧ va_K D vwCl [] t ∧ va_D (va_A [(h0, .inr (7, rfs)), (nm, .inr (6, nfs)), (us, .inl (cu, 702, .inl f1)), (me, .inl (cm, 702, .inl f2)), (cd, .inr (0, cfs)), (sp, .inr (8, sfs)), (tk, .inr (9, tfs)), (so, .inl (cs, 702, .inl f0))] sz) [(h0, .inr (7, u.1)), (nm, .inr (6, u.2.1)), (cd, .inr (0, u.2.2.1)), (sp, .inr (8, u.2.2.2.1)), (tk, .inr (9, u.2.2.2.2))]) (va_A [(h0, .inr (7, rfs)), (nm, .inr (6, nfs)), (us, .inl (cu, 702, .inl f1)), (me, .inl (cm, 702, .inl f2)), (cd, .inr (0, cfs)), (sp, .inr (8, sfs)), (tk, .inr (9, tfs)), (so, .inl (cs, 702, .inl f0))] sz)) 0 0 (va_A [(h0, .inr (7, rfs)), (nm, .inr (6, nfs)), (us, .inl (cu, 702, .inl f1)), (me, .inl (cm, 702, .inl f2)), (cd, .inr (0, cfs)), (sp, .inr (8, sfs)), (tk, .inr (9, tfs)), (so, .inl (cs, 702, .inl f0))] sz) := by
  refine Met.ofW (cc := cX7_readAll) (maxL := 2) (ret := none) (by decide) rfl ?_
  intro p e s m args below meth c s₁ B hml hv
  obtain ⟨rfl, hsz, hP, hK, hD0, hZ, hE⟩ := hv
  have hx := B.exec
  have hb := B.bytes
  have hr := B.returns
  have hts := atoms_spec (ws := v_c_readAll) B.pre
  have hown : s.vm.findClass RX7 = some m.cls := findClass_of_methodNamed B.named
  have hlocks := B.notSynchronized
  subst hsz
  have hD := hD0.self (sz := s.heap.size)
  generalize hAe : va_A [(h0, .inr (7, rfs)), (nm, .inr (6, nfs)), (us, .inl (cu, 702, .inl f1)), (me, .inl (cm, 702, .inl f2)), (cd, .inr (0, cfs)), (sp, .inr (8, sfs)), (tk, .inr (9, tfs)), (so, .inl (cs, 702, .inl f0))] s.heap.size = A at hD hZ ⊢
  have hA : ∀ q : Nat, s.heap.size ≤ q → A q := fun q h => by rw [← hAe]; exact Or.inr h
  have hS : va_S A s.heap s.heap [] := va_S.rf
  have hAO := hE.2.2.2.1
  have hP : va_P D vwCl [(h0, .inr (7, rfs)), (nm, .inr (6, nfs)), (us, .inl (cu, 702, .inl f1)), (me, .inl (cm, 702, .inl f2)), (cd, .inr (0, cfs)), (sp, .inr (8, sfs)), (tk, .inr (9, tfs)), (so, .inl (cs, 702, .inl f0))] s.heap := hP
  have hl := lv_entry ([.ref h0]) (n := 2) (Nat.le_of_ble_eq_true rfl)
  rw [lg_entry_eq]
  generalize (lg_sl ([.ref h0]) ++ List.replicate (2 - (lg_sl ([.ref h0])).length) Slot.unset).toArray = ls at hl ⊢
  have hl : lv_has ls 2 [(0, .ref h0)] := hl
  refine lv_aload_n hx hb dX7_readAll_0 rfl (lv_at hl 0 rfl) ?_
  refine va_get (D := D) (ci := 7) (v := .ref nm) (C := RX7) (T := TX7) (N := 18) hx hb hts i_v_c_readAll_X7 hown hK hP 0 rfl rfl 1 (by decide) (hts (.fieldLink RX7 15 "ScheduleHouse$Reader" "names" "LScheduleHouse$Names;") (by decide +kernel)) (fun _ h9 => h9) hr__1 dX7_readAll_1 ?_
  have hPc := hP.sub (ws' := [(nm, .inr (6, nfs)), (us, .inl (cu, 702, .inl f1)), (me, .inl (cm, 702, .inl f2))]) [1, 2, 3] rfl
  have hDc := hD.sub (ws' := [(nm, .inr (6, nfs)), (us, .inl (cu, 702, .inl f1)), (me, .inl (cm, 702, .inl f2))]) [1, 2, 3] (by decide) rfl
  have hKc := hK.sub (tys' := [(cu, .int), (cm, .int)]) [0, 1] rfl
  have hFc := va_free (wc := [(nm, .inr (6, nfs)), (us, .inl (cu, 702, .inl f1)), (me, .inl (cm, 702, .inl f2))]) hD hS hA [1, 2, 3] rfl
  refine va_callv (va_runV (As := []) (rest := []) ⟨hx, hb, hml, hown, hts⟩ (c_Names_clear l D nm tk us me cu cm nfs f1 f2 s.heap.size hn_l hn_0 hn_1 hn_2 hn_11) (cwV 0 hts g_v_c_readAll_1 rfl rfl rfl (by decide +kernel) ⟨Nat.le_of_ble_eq_true rfl, Nat.le_of_ble_eq_true rfl⟩) ⟨st_blind, va_recv hKc hPc (ci := 6) (q0 := 0) rfl rfl, fun U hU hW => ⟨rfl, st_call hU hW hPc hKc hDc hZ hS hFc hE⟩⟩ rfl rfl hl.1 rfl (lv_room (Nat.le_of_ble_eq_true rfl)) dX7_readAll_4 ⟨Nat.le_of_ble_eq_true rfl, Nat.le_of_ble_eq_true rfl⟩) hS (fun q _ h => hFc q h) hFc (fun  u1 t H1 locs ht hvm hw hB hz1 hk1 hS => ?_)
  obtain ⟨u1_l, u1_0, u1_1, u1_2, u1_11⟩ := hw
  obtain ⟨fy2, fy3, hP1, hK1, hD1⟩ := hB
  rw [ht] at hP1
  have hK1 := va_K.moved hvm.symm hK1
  obtain ⟨hP, hD⟩ := va_join (wr := [(h0, .inr (7, rfs)), (cd, .inr (0, cfs)), (sp, .inr (8, sfs)), (tk, .inr (9, tfs)), (so, .inl (cs, 702, .inl f0))]) (w1 := [(nm, .inr (6, u1)), (us, .inl (cu, 702, .inl fy2)), (me, .inl (cm, 702, .inl fy3))]) hP hD [1, 2, 3] [0, 4, 5, 6, 7] rfl rfl (by decide) (by decide) hk1 hFc hP1 hD1
  have hK := (hK.sub (tys' := [(cs, .int)]) [2] rfl).app hK1
  generalize H1 = H at hP hS ⊢
  have hP : va_P D vwCl [(h0, .inr (7, rfs)), (cd, .inr (0, cfs)), (sp, .inr (8, sfs)), (tk, .inr (9, tfs)), (so, .inl (cs, 702, .inl f0)), (nm, .inr (6, u1)), (us, .inl (cu, 702, .inl fy2)), (me, .inl (cm, 702, .inl fy3))] H := hP
  have hD : va_D A [(h0, .inr (7, rfs)), (cd, .inr (0, cfs)), (sp, .inr (8, sfs)), (tk, .inr (9, tfs)), (so, .inl (cs, 702, .inl f0)), (nm, .inr (6, u1)), (us, .inl (cu, 702, .inl fy2)), (me, .inl (cm, 702, .inl fy3))] := hD
  have hK : va_K D vwCl [(cs, .int), (cu, .int), (cm, .int)] s := hK
  refine lv_aload_n hx hb dX7_readAll_7 rfl (lv_at hl 0 rfl) ?_
  refine va_get (D := D) (ci := 7) (v := .ref cd) (C := RX7) (T := TX7) (N := 18) hx hb hts i_v_c_readAll_X7 hown hK hP 0 rfl rfl 2 (by decide) (hts (.fieldLink RX7 19 "ScheduleHouse$Reader" "code" "LScheduleHouse$Code;") (by decide +kernel)) (fun _ h9 => h9) hr__2 dX7_readAll_8 ?_
  have hPc := hP.sub (ws' := [(cd, .inr (0, cfs)), (sp, .inr (8, sfs))]) [1, 2] rfl
  have hDc := hD.sub (ws' := [(cd, .inr (0, cfs)), (sp, .inr (8, sfs))]) [1, 2] (by decide) rfl
  have hKc := hK.sub (tys' := []) [] rfl
  have hFc := va_free (wc := [(cd, .inr (0, cfs)), (sp, .inr (8, sfs))]) hD hS hA [1, 2] rfl
  refine va_callv (va_runV (As := []) (rest := []) ⟨hx, hb, hml, hown, hts⟩ (c_Code_clear l D cd sp cfs sfs H.size hc_l hc_0 hs_l) (cwV 0 hts g_v_c_readAll_2 rfl rfl rfl (by decide +kernel) ⟨Nat.le_of_ble_eq_true rfl, Nat.le_of_ble_eq_true rfl⟩) ⟨st_blind, va_recv hKc hPc (ci := 0) (q0 := 0) rfl rfl, fun U hU hW => ⟨rfl, st_call hU hW hPc hKc hDc hZ hS hFc hE⟩⟩ rfl rfl hl.1 rfl (lv_room (Nat.le_of_ble_eq_true rfl)) dX7_readAll_11 ⟨Nat.le_of_ble_eq_true rfl, Nat.le_of_ble_eq_true rfl⟩) hS (fun q _ h => hFc q h) hFc (fun  u4 t H1 locs ht hvm hw hB hz1 hk1 hS => ?_)
  obtain ⟨v5, v6⟩ := u4
  obtain ⟨⟨v5_l, v5_0, v5_3, v5_10⟩, ⟨v6_l, v6_9⟩⟩ := hw
  dsimp only at hB
  obtain ⟨hP1, hK1, hD1⟩ := hB
  rw [ht] at hP1
  have hK1 := va_K.moved hvm.symm hK1
  obtain ⟨hP, hD⟩ := va_join (wr := [(h0, .inr (7, rfs)), (tk, .inr (9, tfs)), (so, .inl (cs, 702, .inl f0)), (nm, .inr (6, u1)), (us, .inl (cu, 702, .inl fy2)), (me, .inl (cm, 702, .inl fy3))]) (w1 := [(cd, .inr (0, v5)), (sp, .inr (8, v6))]) hP hD [1, 2] [0, 3, 4, 5, 6, 7] rfl rfl (by decide) (by decide) hk1 hFc hP1 hD1
  have hK := (hK.sub (tys' := [(cs, .int), (cu, .int), (cm, .int)]) [0, 1, 2] rfl).app hK1
  generalize H1 = H at hP hS ⊢
  have hP : va_P D vwCl [(h0, .inr (7, rfs)), (tk, .inr (9, tfs)), (so, .inl (cs, 702, .inl f0)), (nm, .inr (6, u1)), (us, .inl (cu, 702, .inl fy2)), (me, .inl (cm, 702, .inl fy3)), (cd, .inr (0, v5)), (sp, .inr (8, v6))] H := hP
  have hD : va_D A [(h0, .inr (7, rfs)), (tk, .inr (9, tfs)), (so, .inl (cs, 702, .inl f0)), (nm, .inr (6, u1)), (us, .inl (cu, 702, .inl fy2)), (me, .inl (cm, 702, .inl fy3)), (cd, .inr (0, v5)), (sp, .inr (8, v6))] := hD
  have hK : va_K D vwCl [(cs, .int), (cu, .int), (cm, .int)] s := hK
  refine lv_aload_n hx hb dX7_readAll_14 rfl (lv_at hl 0 rfl) ?_
  refine lv_iconst (v := 0) hx hb dX7_readAll_15 (by decide +kernel) ?_
  refine va_put (D := D) (ci := 7) (v := .int 0) (ty := .int) (C := RX7) (T := TX7) (N := 18) hx hb hts i_v_c_readAll_X7 tyX7 tyX7_ok nmX7 hown hK hP hD hS 0 rfl rfl 4 (by decide) (hts (.fieldLink RX7 52 "ScheduleHouse$Reader" "next" "I") (by decide +kernel)) (fun _ h9 => h9) rfl (by decide +kernel) rfl rfl (by rw [hr__l]; decide) dX7_readAll_16 (fun H locs hP hD hS => ?_)
  obtain ⟨fs7, hfs7⟩ : ∃ z, z = rfs.set 4 (.int 0) := ⟨_, rfl⟩
  rw [← hfs7] at hP hD
  have lfs7 : fs7.length = 18 := by rw [hfs7, List.length_set]; exact hr__l
  have gfs7_0 : fs7[0]? = some (.ref tk) := by rw [hfs7, List.getElem?_set_ne (by decide)]; exact hr__0
  have gfs7_1 : fs7[1]? = some (.ref nm) := by rw [hfs7, List.getElem?_set_ne (by decide)]; exact hr__1
  have gfs7_2 : fs7[2]? = some (.ref cd) := by rw [hfs7, List.getElem?_set_ne (by decide)]; exact hr__2
  have gfs7_3 : fs7[3]? = some (.ref sp) := by rw [hfs7, List.getElem?_set_ne (by decide)]; exact hr__3
  have gfs7_4 : fs7[4]? = some (.int 0) := by rw [hfs7]; exact List.getElem?_set_self (by rw [hr__l]; decide)
  have hP : va_P D vwCl [(h0, .inr (7, fs7)), (tk, .inr (9, tfs)), (so, .inl (cs, 702, .inl f0)), (nm, .inr (6, u1)), (us, .inl (cu, 702, .inl fy2)), (me, .inl (cm, 702, .inl fy3)), (cd, .inr (0, v5)), (sp, .inr (8, v6))] H := hP
  have hD : va_D A [(h0, .inr (7, fs7)), (tk, .inr (9, tfs)), (so, .inl (cs, 702, .inl f0)), (nm, .inr (6, u1)), (us, .inl (cu, 702, .inl fy2)), (me, .inl (cm, 702, .inl fy3)), (cd, .inr (0, v5)), (sp, .inr (8, v6))] := hD
  refine lv_aload_n hx hb dX7_readAll_19 rfl (lv_at hl 0 rfl) ?_
  refine lv_iconst (v := 0) hx hb dX7_readAll_20 (by decide +kernel) ?_
  refine va_put (D := D) (ci := 7) (v := .int 0) (ty := .int) (C := RX7) (T := TX7) (N := 18) hx hb hts i_v_c_readAll_X7 tyX7 tyX7_ok nmX7 hown hK hP hD hS 0 rfl rfl 6 (by decide) (hts (.fieldLink RX7 62 "ScheduleHouse$Reader" "faultNumber" "I") (by decide +kernel)) (fun _ h9 => h9) rfl (by decide +kernel) rfl rfl (by rw [lfs7]; decide) dX7_readAll_21 (fun H locs hP hD hS => ?_)
  obtain ⟨fs8, hfs8⟩ : ∃ z, z = fs7.set 6 (.int 0) := ⟨_, rfl⟩
  rw [← hfs8] at hP hD
  have lfs8 : fs8.length = 18 := by rw [hfs8, List.length_set]; exact lfs7
  have gfs8_0 : fs8[0]? = some (.ref tk) := by rw [hfs8, List.getElem?_set_ne (by decide)]; exact gfs7_0
  have gfs8_1 : fs8[1]? = some (.ref nm) := by rw [hfs8, List.getElem?_set_ne (by decide)]; exact gfs7_1
  have gfs8_2 : fs8[2]? = some (.ref cd) := by rw [hfs8, List.getElem?_set_ne (by decide)]; exact gfs7_2
  have gfs8_3 : fs8[3]? = some (.ref sp) := by rw [hfs8, List.getElem?_set_ne (by decide)]; exact gfs7_3
  have gfs8_4 : fs8[4]? = some (.int 0) := by rw [hfs8, List.getElem?_set_ne (by decide)]; exact gfs7_4
  have gfs8_6 : fs8[6]? = some (.int 0) := by rw [hfs8]; exact List.getElem?_set_self (by rw [lfs7]; decide)
  have hP : va_P D vwCl [(h0, .inr (7, fs8)), (tk, .inr (9, tfs)), (so, .inl (cs, 702, .inl f0)), (nm, .inr (6, u1)), (us, .inl (cu, 702, .inl fy2)), (me, .inl (cm, 702, .inl fy3)), (cd, .inr (0, v5)), (sp, .inr (8, v6))] H := hP
  have hD : va_D A [(h0, .inr (7, fs8)), (tk, .inr (9, tfs)), (so, .inl (cs, 702, .inl f0)), (nm, .inr (6, u1)), (us, .inl (cu, 702, .inl fy2)), (me, .inl (cm, 702, .inl fy3)), (cd, .inr (0, v5)), (sp, .inr (8, v6))] := hD
  refine lv_aload_n hx hb dX7_readAll_24 rfl (lv_at hl 0 rfl) ?_
  refine lv_iconst (v := 0) hx hb dX7_readAll_25 (by decide +kernel) ?_
  refine va_put (D := D) (ci := 7) (v := .int 0) (ty := .boolean) (C := RX7) (T := TX7) (N := 18) hx hb hts i_v_c_readAll_X7 tyX7 tyX7_ok nmX7 hown hK hP hD hS 0 rfl rfl 5 (by decide) (hts (.fieldLink RX7 65 "ScheduleHouse$Reader" "inThread" "Z") (by decide +kernel)) (fun _ h9 => h9) rfl (by decide +kernel) rfl rfl (by rw [lfs8]; decide) dX7_readAll_26 (fun H locs hP hD hS => ?_)
  obtain ⟨fs9, hfs9⟩ : ∃ z, z = fs8.set 5 (.int 0) := ⟨_, rfl⟩
  rw [← hfs9] at hP hD
  have lfs9 : fs9.length = 18 := by rw [hfs9, List.length_set]; exact lfs8
  have gfs9_0 : fs9[0]? = some (.ref tk) := by rw [hfs9, List.getElem?_set_ne (by decide)]; exact gfs8_0
  have gfs9_1 : fs9[1]? = some (.ref nm) := by rw [hfs9, List.getElem?_set_ne (by decide)]; exact gfs8_1
  have gfs9_2 : fs9[2]? = some (.ref cd) := by rw [hfs9, List.getElem?_set_ne (by decide)]; exact gfs8_2
  have gfs9_3 : fs9[3]? = some (.ref sp) := by rw [hfs9, List.getElem?_set_ne (by decide)]; exact gfs8_3
  have gfs9_4 : fs9[4]? = some (.int 0) := by rw [hfs9, List.getElem?_set_ne (by decide)]; exact gfs8_4
  have gfs9_6 : fs9[6]? = some (.int 0) := by rw [hfs9, List.getElem?_set_ne (by decide)]; exact gfs8_6
  have gfs9_5 : fs9[5]? = some (.int 0) := by rw [hfs9]; exact List.getElem?_set_self (by rw [lfs8]; decide)
  have hP : va_P D vwCl [(h0, .inr (7, fs9)), (tk, .inr (9, tfs)), (so, .inl (cs, 702, .inl f0)), (nm, .inr (6, u1)), (us, .inl (cu, 702, .inl fy2)), (me, .inl (cm, 702, .inl fy3)), (cd, .inr (0, v5)), (sp, .inr (8, v6))] H := hP
  have hD : va_D A [(h0, .inr (7, fs9)), (tk, .inr (9, tfs)), (so, .inl (cs, 702, .inl f0)), (nm, .inr (6, u1)), (us, .inl (cu, 702, .inl fy2)), (me, .inl (cm, 702, .inl fy3)), (cd, .inr (0, v5)), (sp, .inr (8, v6))] := hD
  refine lv_iconst (v := 0) hx hb dX7_readAll_29 (by decide +kernel) ?_
  refine lv_istore_n (lv' := [(1, .int 0), (0, .ref h0)]) hx hb dX7_readAll_30 rfl hl (by decide) rfl (fun ls hl => ?_)
  refine lv_iload_n hx hb dX7_readAll_31 rfl (lv_at hl 0 rfl) ?_
  refine lv_sipush (v := 700) hx hb dX7_readAll_32 (by decide +kernel) ?_
  refine lv_icmp_gt (tgt := 92) hx hb dX7_readAll_35 (by decide) (fun c9 => False.elim (by revert c9; decide)) (fun _ => ?_)
  refine lv_aload_n hx hb dX7_readAll_38 rfl (lv_at hl 1 rfl) ?_
  refine va_get (D := D) (ci := 7) (v := .int 0) (C := RX7) (T := TX7) (N := 18) hx hb hts i_v_c_readAll_X7 hown hK hP 0 rfl rfl 5 (by decide) (hts (.fieldLink RX7 65 "ScheduleHouse$Reader" "inThread" "Z") (by decide +kernel)) (fun _ h9 => h9) gfs9_5 dX7_readAll_39 ?_
  refine lv_if_ne (tgt := 52) hx hb dX7_readAll_42 (by decide) (fun c9 => False.elim (by revert c9; decide)) (fun _ => ?_)
  refine lv_aload_n hx hb dX7_readAll_45 rfl (lv_at hl 1 rfl) ?_
  have hPc := hP.sub (ws' := [(h0, .inr (7, fs9)), (tk, .inr (9, tfs)), (so, .inl (cs, 702, .inl f0))]) [0, 1, 2] rfl
  have hDc := hD.sub (ws' := [(h0, .inr (7, fs9)), (tk, .inr (9, tfs)), (so, .inl (cs, 702, .inl f0))]) [0, 1, 2] (by decide) rfl
  have hKc := hK.sub (tys' := [(cs, .int)]) [0] rfl
  have hFc := va_free (wc := [(h0, .inr (7, fs9)), (tk, .inr (9, tfs)), (so, .inl (cs, 702, .inl f0))]) hD hS hA [0, 1, 2] rfl
  refine va_calli (va_runV (As := []) (rest := []) ⟨hx, hb, hml, hown, hts⟩ (c_Reader_sort l D h0 tk so cs fs9 tfs f0 H.size lfs9 gfs9_0 gfs9_4 ht_l ht_2 he0) (cwV 0 hts g_v_c_readAll_3 rfl rfl rfl (by decide +kernel) ⟨Nat.le_of_ble_eq_true rfl, Nat.le_of_ble_eq_true rfl⟩) ⟨st_blind, va_recv hKc hPc (ci := 7) (q0 := 0) rfl rfl, fun U hU hW => ⟨rfl, st_call hU hW hPc hKc hDc hZ hS hFc hE⟩⟩ rfl rfl hl.1 rfl (lv_room (Nat.le_of_ble_eq_true rfl)) dX7_readAll_46 ⟨Nat.le_of_ble_eq_true rfl, Nat.le_of_ble_eq_true rfl⟩) hS (fun q _ h => hFc q h) hFc (fun r10 u11 t H1 locs ht hvm hw hB hz1 hk1 hS => ?_)
  obtain ⟨hP1, hK1, hD1⟩ := hB
  rw [ht] at hP1
  have hK1 := va_K.moved hvm.symm hK1
  obtain ⟨hP, hD⟩ := va_join (wr := [(nm, .inr (6, u1)), (us, .inl (cu, 702, .inl fy2)), (me, .inl (cm, 702, .inl fy3)), (cd, .inr (0, v5)), (sp, .inr (8, v6))]) (w1 := [(h0, .inr (7, fs9)), (tk, .inr (9, tfs)), (so, .inl (cs, 702, .inl f0))]) hP hD [0, 1, 2] [3, 4, 5, 6, 7] rfl rfl (by decide) (by decide) hk1 hFc hP1 hD1
  have hK := (hK.sub (tys' := [(cu, .int), (cm, .int)]) [1, 2] rfl).app hK1
  generalize H1 = H at hP hS ⊢
  have hP : va_P D vwCl [(nm, .inr (6, u1)), (us, .inl (cu, 702, .inl fy2)), (me, .inl (cm, 702, .inl fy3)), (cd, .inr (0, v5)), (sp, .inr (8, v6)), (h0, .inr (7, fs9)), (tk, .inr (9, tfs)), (so, .inl (cs, 702, .inl f0))] H := hP
  have hD : va_D A [(nm, .inr (6, u1)), (us, .inl (cu, 702, .inl fy2)), (me, .inl (cm, 702, .inl fy3)), (cd, .inr (0, v5)), (sp, .inr (8, v6)), (h0, .inr (7, fs9)), (tk, .inr (9, tfs)), (so, .inl (cs, 702, .inl f0))] := hD
  have hK : va_K D vwCl [(cu, .int), (cm, .int), (cs, .int)] s := hK
  subst hw
  refine lv_if_eq (tgt := 92) hx hb dX7_readAll_49 (by decide) (fun _ => ?_) (fun c9 => False.elim (by revert c9; decide))
  have hP : va_P D vwCl [(h0, .inr (7, fs9)), (nm, .inr (6, u1)), (cd, .inr (0, v5)), (sp, .inr (8, v6)), (tk, .inr (9, tfs))] H := hP.sub [5, 0, 3, 4, 6] rfl
  have hD : va_D A [(h0, .inr (7, fs9)), (nm, .inr (6, u1)), (cd, .inr (0, v5)), (sp, .inr (8, v6)), (tk, .inr (9, tfs))] := hD.sub [5, 0, 3, 4, 6] (by decide) rfl
  have hK : va_K D vwCl [] s := hK.sub [] rfl
  exact W.vret hx hb hr (fun t ht hW => ⟨⟨(fs9, u1, v5, v6, tfs), rfl, ⟨⟨lfs9, gfs9_2, gfs9_3⟩, ⟨u1_l, u1_0, u1_11⟩, ⟨v5_l, v5_0, v5_3, v5_10⟩, ⟨v6_l, v6_9⟩, ⟨ht_l, ht_7⟩⟩, by rw [ht]; exact hP, va_K.moved hW.alike hK, hD⟩, hS.F ht⟩) hS.2.2 dX7_readAll_92
noncomputable def v_c_judge : List Cond := .code yX6_judge cX6_judge 3 (some .int) :: ([.fieldLink RX6 9 "ScheduleHouse$Names" "tokens" "LScheduleHouse$Tokens;", .fieldLink RX6 55 "ScheduleHouse$Tokens" "many" "I"] ++ (wsX60 ++ (wsX90 ++ ([]))))
theorem i_v_c_judge_X6 : ∀ w ∈ wsX60, w ∈ v_c_judge := fun _ h => List.mem_cons_of_mem _ (List.mem_append_right _ (List.mem_append_left _ h))
theorem i_v_c_judge_X9 : ∀ w ∈ wsX90, w ∈ v_c_judge := fun _ h => List.mem_cons_of_mem _ (List.mem_append_right _ (List.mem_append_right _ (List.mem_append_left _ h)))
theorem t_v_c_judge : ∀ w ∈ v_c_judge, w ∈ lw_tbl := tb_c (List.mem_of_getElem? (i := 1156) (by decide +kernel)) (tb_a (tb_c (List.mem_of_getElem? (i := 294) (by decide +kernel)) (tb_c (List.mem_of_getElem? (i := 262) (by decide +kernel)) (tb_n))) (tb_a (tw_wsX60) (tb_a (tw_wsX90) (tb_n))))
set_option maxHeartbeats 400000 in
set_option maxRecDepth 100000 in
/-- judge() of the empty text -/
theorem c_judge (l : Launch) (D : va_G) (h0 tk : Nat) (nfs tfs : List Value) (sz : Nat) (hn_l : nfs.length = 12) (hn_0 : nfs[0]? = some (.ref tk)) (ht_l : tfs.length = 10) (ht_7 : tfs[7]? = some (.int 0)) : Met l yX6_judge v_c_judge ({ frames := 1, cells := 0, slots := 0, locals := 12 }) (va_Pc [.ref h0] (st_ D [(h0, .inr (6, nfs)), (tk, .inr (9, tfs))] [] sz)) (va_Qi (fun (r : Int32) (_ : Unit) => r = 0) (fun _ t => va_P D vwCl [(h0, .inr (6, nfs)), (tk, .inr (9, tfs))] t.heap ∧ va_K D vwCl [] t ∧ va_D (va_A [(h0, .inr (6, nfs)), (tk, .inr (9, tfs))] sz) [(h0, .inr (6, nfs)), (tk, .inr (9, tfs))]) (va_A [(h0, .inr (6, nfs)), (tk, .inr (9, tfs))] sz)) 0 0 (va_A [(h0, .inr (6, nfs)), (tk, .inr (9, tfs))] sz) := by
  refine Met.ofW (cc := cX6_judge) (maxL := 3) (ret := (some .int)) (by decide) rfl ?_
  intro p e s m args below meth c s₁ B hml hv
  obtain ⟨rfl, hsz, hP, hK, hD0, hZ, hE⟩ := hv
  have hx := B.exec
  have hb := B.bytes
  have hr := B.returns
  have hts := atoms_spec (ws := v_c_judge) B.pre
  have hown : s.vm.findClass RX6 = some m.cls := findClass_of_methodNamed B.named
  have hlocks := B.notSynchronized
  subst hsz
  have hD := hD0.self (sz := s.heap.size)
  generalize hAe : va_A [(h0, .inr (6, nfs)), (tk, .inr (9, tfs))] s.heap.size = A at hD hZ ⊢
  have hA : ∀ q : Nat, s.heap.size ≤ q → A q := fun q h => by rw [← hAe]; exact Or.inr h
  have hS : va_S A s.heap s.heap [] := va_S.rf
  have hAO := hE.2.2.2.1
  have hP : va_P D vwCl [(h0, .inr (6, nfs)), (tk, .inr (9, tfs))] s.heap := hP
  have hl := lv_entry ([.ref h0]) (n := 3) (Nat.le_of_ble_eq_true rfl)
  rw [lg_entry_eq]
  generalize (lg_sl ([.ref h0]) ++ List.replicate (3 - (lg_sl ([.ref h0])).length) Slot.unset).toArray = ls at hl ⊢
  have hl : lv_has ls 3 [(0, .ref h0)] := hl
  refine lv_iconst (v := 0) hx hb dX6_judge_0 (by decide +kernel) ?_
  refine lv_istore_n (lv' := [(1, .int 0), (0, .ref h0)]) hx hb dX6_judge_1 rfl hl (by decide) rfl (fun ls hl => ?_)
  refine lv_iload_n hx hb dX6_judge_2 rfl (lv_at hl 0 rfl) ?_
  refine lv_aload_n hx hb dX6_judge_3 rfl (lv_at hl 1 rfl) ?_
  refine va_get (D := D) (ci := 6) (v := .ref tk) (C := RX6) (T := TX6) (N := 12) hx hb hts i_v_c_judge_X6 hown hK hP 0 rfl rfl 0 (by decide) (hts (.fieldLink RX6 9 "ScheduleHouse$Names" "tokens" "LScheduleHouse$Tokens;") (by decide +kernel)) (fun _ h9 => h9) hn_0 dX6_judge_4 ?_
  refine va_get (D := D) (ci := 9) (v := .int 0) (C := RX9) (T := TX9) (N := 10) hx hb hts i_v_c_judge_X9 hown hK hP 1 rfl rfl 7 (by decide) (hts (.fieldLink RX6 55 "ScheduleHouse$Tokens" "many" "I") (by decide +kernel)) (fun _ h9 => h9) ht_7 dX6_judge_7 ?_
  refine lv_icmp_ge (tgt := 49) hx hb dX6_judge_10 (by decide) (fun _ => ?_) (fun c9 => False.elim (by revert c9; decide))
  refine lv_iconst (v := 0) hx hb dX6_judge_49 (by decide +kernel) ?_
  exact W.iret (v := 0) hx hb hr (fun t ht hW => ⟨⟨0, (), rfl, rfl, by rw [ht]; exact hP, va_K.moved hW.alike hK, hD⟩, hS.F ht⟩) hS.2.2 dX6_judge_50
noncomputable def v_c_link : List Cond := .code yX7_link cX7_link 5 none :: ([.fieldLink RX7 29 "ScheduleHouse$Reader" "steps" "LScheduleHouse$Steps;", .fieldLink RX7 173 "ScheduleHouse$Steps" "many" "I", .fieldLink RX7 19 "ScheduleHouse$Reader" "code" "LScheduleHouse$Code;", .fieldLink RX7 289 "ScheduleHouse$Code" "sumParts" "I"] ++ (wsX70 ++ (wsX80 ++ (wsX00 ++ ([])))))
theorem i_v_c_link_X7 : ∀ w ∈ wsX70, w ∈ v_c_link := fun _ h => List.mem_cons_of_mem _ (List.mem_append_right _ (List.mem_append_left _ h))
theorem i_v_c_link_X8 : ∀ w ∈ wsX80, w ∈ v_c_link := fun _ h => List.mem_cons_of_mem _ (List.mem_append_right _ (List.mem_append_right _ (List.mem_append_left _ h)))
theorem i_v_c_link_X0 : ∀ w ∈ wsX00, w ∈ v_c_link := fun _ h => List.mem_cons_of_mem _ (List.mem_append_right _ (List.mem_append_right _ (List.mem_append_right _ (List.mem_append_left _ h))))
theorem t_v_c_link : ∀ w ∈ v_c_link, w ∈ lw_tbl := tb_c (List.mem_of_getElem? (i := 1190) (by decide +kernel)) (tb_a (tb_c (List.mem_of_getElem? (i := 502) (by decide +kernel)) (tb_c (List.mem_of_getElem? (i := 376) (by decide +kernel)) (tb_c (List.mem_of_getElem? (i := 501) (by decide +kernel)) (tb_c (List.mem_of_getElem? (i := 406) (by decide +kernel)) (tb_n))))) (tb_a (tw_wsX70) (tb_a (tw_wsX80) (tb_a (tw_wsX00) (tb_n)))))
set_option maxHeartbeats 400000 in
set_option maxRecDepth 100000 in
/-- link() of the empty text -/
theorem c_link (l : Launch) (D : va_G) (h0 cd sp : Nat) (rfs cfs sfs : List Value) (sz : Nat) (hr__l : rfs.length = 18) (hr__2 : rfs[2]? = some (.ref cd)) (hr__3 : rfs[3]? = some (.ref sp)) (hc_l : cfs.length = 18) (hc_0 : cfs[0]? = some (.ref sp)) (hc_3 : cfs[3]? = some (.int 0)) (hc_10 : cfs[10]? = some (.int 0)) (hs_l : sfs.length = 10) (hs_9 : sfs[9]? = some (.int 0)) : Met l yX7_link v_c_link ({ frames := 1, cells := 0, slots := 0, locals := 12 }) (va_Pc [.ref h0] (st_ D [(h0, .inr (7, rfs)), (cd, .inr (0, cfs)), (sp, .inr (8, sfs))] [] sz)) (va_Qv (fun _ : Unit => True) (fun _ t => va_P D vwCl [(h0, .inr (7, rfs)), (cd, .inr (0, cfs)), (sp, .inr (8, sfs))] t.heap ∧ va_K D vwCl [] t ∧ va_D (va_A [(h0, .inr (7, rfs)), (cd, .inr (0, cfs)), (sp, .inr (8, sfs))] sz) [(h0, .inr (7, rfs)), (cd, .inr (0, cfs)), (sp, .inr (8, sfs))]) (va_A [(h0, .inr (7, rfs)), (cd, .inr (0, cfs)), (sp, .inr (8, sfs))] sz)) 0 0 (va_A [(h0, .inr (7, rfs)), (cd, .inr (0, cfs)), (sp, .inr (8, sfs))] sz) := by
  refine Met.ofW (cc := cX7_link) (maxL := 5) (ret := none) (by decide) rfl ?_
  intro p e s m args below meth c s₁ B hml hv
  obtain ⟨rfl, hsz, hP, hK, hD0, hZ, hE⟩ := hv
  have hx := B.exec
  have hb := B.bytes
  have hr := B.returns
  have hts := atoms_spec (ws := v_c_link) B.pre
  have hown : s.vm.findClass RX7 = some m.cls := findClass_of_methodNamed B.named
  have hlocks := B.notSynchronized
  subst hsz
  have hD := hD0.self (sz := s.heap.size)
  generalize hAe : va_A [(h0, .inr (7, rfs)), (cd, .inr (0, cfs)), (sp, .inr (8, sfs))] s.heap.size = A at hD hZ ⊢
  have hA : ∀ q : Nat, s.heap.size ≤ q → A q := fun q h => by rw [← hAe]; exact Or.inr h
  have hS : va_S A s.heap s.heap [] := va_S.rf
  have hAO := hE.2.2.2.1
  have hP : va_P D vwCl [(h0, .inr (7, rfs)), (cd, .inr (0, cfs)), (sp, .inr (8, sfs))] s.heap := hP
  have hl := lv_entry ([.ref h0]) (n := 5) (Nat.le_of_ble_eq_true rfl)
  rw [lg_entry_eq]
  generalize (lg_sl ([.ref h0]) ++ List.replicate (5 - (lg_sl ([.ref h0])).length) Slot.unset).toArray = ls at hl ⊢
  have hl : lv_has ls 5 [(0, .ref h0)] := hl
  refine lv_iconst (v := 0) hx hb dX7_link_0 (by decide +kernel) ?_
  refine lv_istore_n (lv' := [(1, .int 0), (0, .ref h0)]) hx hb dX7_link_1 rfl hl (by decide) rfl (fun ls hl => ?_)
  refine lv_iload_n hx hb dX7_link_2 rfl (lv_at hl 0 rfl) ?_
  refine lv_aload_n hx hb dX7_link_3 rfl (lv_at hl 1 rfl) ?_
  refine va_get (D := D) (ci := 7) (v := .ref sp) (C := RX7) (T := TX7) (N := 18) hx hb hts i_v_c_link_X7 hown hK hP 0 rfl rfl 3 (by decide) (hts (.fieldLink RX7 29 "ScheduleHouse$Reader" "steps" "LScheduleHouse$Steps;") (by decide +kernel)) (fun _ h9 => h9) hr__3 dX7_link_4 ?_
  refine va_get (D := D) (ci := 8) (v := .int 0) (C := RX8) (T := TX8) (N := 10) hx hb hts i_v_c_link_X8 hown hK hP 2 rfl rfl 9 (by decide) (hts (.fieldLink RX7 173 "ScheduleHouse$Steps" "many" "I") (by decide +kernel)) (fun _ h9 => h9) hs_9 dX7_link_7 ?_
  refine lv_icmp_ge (tgt := 132) hx hb dX7_link_10 (by decide) (fun _ => ?_) (fun c9 => False.elim (by revert c9; decide))
  refine lv_iconst (v := 0) hx hb dX7_link_132 (by decide +kernel) ?_
  refine lv_istore_n (lv' := [(1, .int 0), (0, .ref h0)]) hx hb dX7_link_133 rfl hl (by decide) rfl (fun ls hl => ?_)
  refine lv_iload_n hx hb dX7_link_134 rfl (lv_at hl 0 rfl) ?_
  refine lv_aload_n hx hb dX7_link_135 rfl (lv_at hl 1 rfl) ?_
  refine va_get (D := D) (ci := 7) (v := .ref cd) (C := RX7) (T := TX7) (N := 18) hx hb hts i_v_c_link_X7 hown hK hP 0 rfl rfl 2 (by decide) (hts (.fieldLink RX7 19 "ScheduleHouse$Reader" "code" "LScheduleHouse$Code;") (by decide +kernel)) (fun _ h9 => h9) hr__2 dX7_link_136 ?_
  refine va_get (D := D) (ci := 0) (v := .int 0) (C := RX0) (T := TX0) (N := 18) hx hb hts i_v_c_link_X0 hown hK hP 1 rfl rfl 3 (by decide) (hts (.fieldLink RX7 289 "ScheduleHouse$Code" "sumParts" "I") (by decide +kernel)) (fun _ h9 => h9) hc_3 dX7_link_139 ?_
  refine lv_icmp_ge (tgt := 243) hx hb dX7_link_142 (by decide) (fun _ => ?_) (fun c9 => False.elim (by revert c9; decide))
  exact W.vret hx hb hr (fun t ht hW => ⟨⟨(), rfl, trivial, by rw [ht]; exact hP, va_K.moved hW.alike hK, hD⟩, hS.F ht⟩) hS.2.2 dX7_link_243
noncomputable def v_c_compile : List Cond := .codeWith yX11_compile cX11_compile 4 (some .int) [(15, 38, 41, 102)] :: ([.fieldLink RX11 10 "ScheduleHouse" "tokens" "LScheduleHouse$Tokens;", .fieldLink RX11 37 "ScheduleHouse" "reader" "LScheduleHouse$Reader;", .fieldLink RX11 21 "ScheduleHouse" "names" "LScheduleHouse$Names;", .fieldLink RX11 99 "ScheduleHouse$Names" "faultToken" "I", .fieldLink RX11 110 "ScheduleHouse" "compiled" "Z", .fieldLink RX11 63 "ScheduleHouse" "faultPlace" "I", .fieldLink RX11 67 "ScheduleHouse" "faultLine" "I", .fieldLink RX11 28 "ScheduleHouse" "code" "LScheduleHouse$Code;", .fieldLink RX11 124 "ScheduleHouse$Code" "threads" "I"] ++ ((wsV RX11 86 RX11 yX11_forgetAll v_c_forgetAll) ++ (wsX110 ++ ((wsV RX11 89 RX9 yX9_cut v_c_cut) ++ ((wsV RX11 92 RX7 yX7_readAll v_c_readAll) ++ ((wsV RX11 95 RX6 yX6_judge v_c_judge) ++ (wsX60 ++ ((wsV RX11 121 RX7 yX7_link v_c_link) ++ (wsX00 ++ ([]))))))))))
theorem g_v_c_compile_0 : GoodIn v_c_compile (wsV RX11 86 RX11 yX11_forgetAll v_c_forgetAll) := goodIn_sub (fun _ h => List.mem_cons_of_mem _ (List.mem_append_right _ (List.mem_append_left _ h))) (by decide +kernel)
theorem i_v_c_compile_X11 : ∀ w ∈ wsX110, w ∈ v_c_compile := fun _ h => List.mem_cons_of_mem _ (List.mem_append_right _ (List.mem_append_right _ (List.mem_append_left _ h)))
theorem g_v_c_compile_2 : GoodIn v_c_compile (wsV RX11 89 RX9 yX9_cut v_c_cut) := goodIn_sub (fun _ h => List.mem_cons_of_mem _ (List.mem_append_right _ (List.mem_append_right _ (List.mem_append_right _ (List.mem_append_left _ h))))) (by decide +kernel)
theorem g_v_c_compile_3 : GoodIn v_c_compile (wsV RX11 92 RX7 yX7_readAll v_c_readAll) := goodIn_sub (fun _ h => List.mem_cons_of_mem _ (List.mem_append_right _ (List.mem_append_right _ (List.mem_append_right _ (List.mem_append_right _ (List.mem_append_left _ h)))))) (by decide +kernel)
theorem g_v_c_compile_4 : GoodIn v_c_compile (wsV RX11 95 RX6 yX6_judge v_c_judge) := goodIn_sub (fun _ h => List.mem_cons_of_mem _ (List.mem_append_right _ (List.mem_append_right _ (List.mem_append_right _ (List.mem_append_right _ (List.mem_append_right _ (List.mem_append_left _ h))))))) (by decide +kernel)
theorem i_v_c_compile_X6 : ∀ w ∈ wsX60, w ∈ v_c_compile := fun _ h => List.mem_cons_of_mem _ (List.mem_append_right _ (List.mem_append_right _ (List.mem_append_right _ (List.mem_append_right _ (List.mem_append_right _ (List.mem_append_right _ (List.mem_append_left _ h)))))))
theorem g_v_c_compile_6 : GoodIn v_c_compile (wsV RX11 121 RX7 yX7_link v_c_link) := goodIn_sub (fun _ h => List.mem_cons_of_mem _ (List.mem_append_right _ (List.mem_append_right _ (List.mem_append_right _ (List.mem_append_right _ (List.mem_append_right _ (List.mem_append_right _ (List.mem_append_right _ (List.mem_append_left _ h))))))))) (by decide +kernel)
theorem i_v_c_compile_X0 : ∀ w ∈ wsX00, w ∈ v_c_compile := fun _ h => List.mem_cons_of_mem _ (List.mem_append_right _ (List.mem_append_right _ (List.mem_append_right _ (List.mem_append_right _ (List.mem_append_right _ (List.mem_append_right _ (List.mem_append_right _ (List.mem_append_right _ (List.mem_append_left _ h)))))))))
theorem t_v_c_compile : ∀ w ∈ v_c_compile, w ∈ lw_tbl := tb_c (List.mem_of_getElem? (i := 788) (by decide +kernel)) (tb_a (tb_l (ps := [737, 740, 738, 309, 746, 748, 749, 739, 429]) (by decide +kernel)) (tb_a (tb_a (tb_c (List.mem_of_getElem? (i := 781) (by decide +kernel)) (tb_c (List.mem_of_getElem? (i := 783) (by decide +kernel)) (tb_c (List.mem_of_getElem? (i := 0) (by decide +kernel)) (tb_c (List.mem_of_getElem? (i := 206) (by decide +kernel)) (tb_n))))) t_v_c_forgetAll) (tb_a (tw_wsX110) (tb_a (tb_a (tb_c (List.mem_of_getElem? (i := 790) (by decide +kernel)) (tb_c (List.mem_of_getElem? (i := 791) (by decide +kernel)) (tb_c (List.mem_of_getElem? (i := 792) (by decide +kernel)) (tb_c (List.mem_of_getElem? (i := 207) (by decide +kernel)) (tb_n))))) t_v_c_cut) (tb_a (tb_a (tb_c (List.mem_of_getElem? (i := 876) (by decide +kernel)) (tb_c (List.mem_of_getElem? (i := 877) (by decide +kernel)) (tb_c (List.mem_of_getElem? (i := 878) (by decide +kernel)) (tb_c (List.mem_of_getElem? (i := 211) (by decide +kernel)) (tb_n))))) t_v_c_readAll) (tb_a (tb_a (tb_c (List.mem_of_getElem? (i := 1153) (by decide +kernel)) (tb_c (List.mem_of_getElem? (i := 1154) (by decide +kernel)) (tb_c (List.mem_of_getElem? (i := 1155) (by decide +kernel)) (tb_c (List.mem_of_getElem? (i := 208) (by decide +kernel)) (tb_n))))) t_v_c_judge) (tb_a (tw_wsX60) (tb_a (tb_a (tb_c (List.mem_of_getElem? (i := 1187) (by decide +kernel)) (tb_c (List.mem_of_getElem? (i := 1188) (by decide +kernel)) (tb_c (List.mem_of_getElem? (i := 1189) (by decide +kernel)) (tb_c (List.mem_of_getElem? (i := 211) (by decide +kernel)) (tb_n))))) t_v_c_link) (tb_a (tw_wsX00) (tb_n))))))))))
set_option maxHeartbeats 400000 in
set_option maxRecDepth 100000 in
/-- compile() of the empty text -/
theorem c_compile (l : Launch) (D : va_G) (h0 tk so pl li nm us me cd sp rd tr : Nat) (cs cp ci cu cm ct : ClassId) (xfs tfs nfs cfs sfs rfs : List Value) (f0 f1 f2 f3 f4 : Nat → Int32) (sz : Nat) (hq_l : xfs.length = 13) (hq_0 : xfs[0]? = some (.ref tk)) (hq_1 : xfs[1]? = some (.ref nm)) (hq_2 : xfs[2]? = some (.ref cd)) (hq_3 : xfs[3]? = some (.ref rd)) (hq_6 : xfs[6]? = some (.ref tr)) (ht_l : tfs.length = 10) (ht_1 : tfs[1]? = some (.int 0)) (ht_2 : tfs[2]? = some (.ref so)) (ht_3 : tfs[3]? = some (.ref pl)) (ht_4 : tfs[4]? = some (.ref li)) (hn_l : nfs.length = 12) (hn_0 : nfs[0]? = some (.ref tk)) (hn_1 : nfs[1]? = some (.ref us)) (hn_2 : nfs[2]? = some (.ref me)) (hn_11 : nfs[11]? = some (.int 0)) (hc_l : cfs.length = 18) (hc_0 : cfs[0]? = some (.ref sp)) (hs_l : sfs.length = 10) (hr__l : rfs.length = 18) (hr__0 : rfs[0]? = some (.ref tk)) (hr__1 : rfs[1]? = some (.ref nm)) (hr__2 : rfs[2]? = some (.ref cd)) (hr__3 : rfs[3]? = some (.ref sp)) : Met l yX11_compile v_c_compile ({ frames := 8, cells := 0, slots := 0, locals := 160 }) (va_Pc [.ref h0] (st_ D [(h0, .inr (11, xfs)), (tk, .inr (9, tfs)), (so, .inl (cs, 702, .inl f0)), (pl, .inl (cp, 702, .inl f1)), (li, .inl (ci, 702, .inl f2)), (nm, .inr (6, nfs)), (us, .inl (cu, 702, .inl f3)), (me, .inl (cm, 702, .inl f4)), (cd, .inr (0, cfs)), (sp, .inr (8, sfs)), (rd, .inr (7, rfs)), (tr, .inl (ct, 2, .inr (.inr (.inr (.inr (fun _ => none))))))] [(cs, .int), (cp, .int), (ci, .int), (cu, .int), (cm, .int), (ct, .object "ScheduleHouse$Trial")] sz)) (va_Qi (fun (r : Int32) (_ : Unit) => r = 0) (fun _ _ => True) (va_A [(h0, .inr (11, xfs)), (tk, .inr (9, tfs)), (so, .inl (cs, 702, .inl f0)), (pl, .inl (cp, 702, .inl f1)), (li, .inl (ci, 702, .inl f2)), (nm, .inr (6, nfs)), (us, .inl (cu, 702, .inl f3)), (me, .inl (cm, 702, .inl f4)), (cd, .inr (0, cfs)), (sp, .inr (8, sfs)), (rd, .inr (7, rfs)), (tr, .inl (ct, 2, .inr (.inr (.inr (.inr (fun _ => none))))))] sz)) 0 0 (va_A [(h0, .inr (11, xfs)), (tk, .inr (9, tfs)), (so, .inl (cs, 702, .inl f0)), (pl, .inl (cp, 702, .inl f1)), (li, .inl (ci, 702, .inl f2)), (nm, .inr (6, nfs)), (us, .inl (cu, 702, .inl f3)), (me, .inl (cm, 702, .inl f4)), (cd, .inr (0, cfs)), (sp, .inr (8, sfs)), (rd, .inr (7, rfs)), (tr, .inl (ct, 2, .inr (.inr (.inr (.inr (fun _ => none))))))] sz) := by
  refine va_MetW (hh := [(15, 38, 41, 102)]) (cc := cX11_compile) (maxL := 4) (ret := (some .int)) (by decide) rfl ?_
  intro p e s m args below meth c s₁ B hml hv
  obtain ⟨rfl, hsz, hP, hK, hD0, hZ, hE⟩ := hv
  have hx := B.exec
  have hb := B.bytes
  have hr := B.returns
  have hts := atoms_spec (ws := v_c_compile) B.pre
  have hown : s.vm.findClass RX11 = some m.cls := findClass_of_methodNamed B.named
  have hlocks := B.notSynchronized
  subst hsz
  have hD := hD0.self (sz := s.heap.size)
  generalize hAe : va_A [(h0, .inr (11, xfs)), (tk, .inr (9, tfs)), (so, .inl (cs, 702, .inl f0)), (pl, .inl (cp, 702, .inl f1)), (li, .inl (ci, 702, .inl f2)), (nm, .inr (6, nfs)), (us, .inl (cu, 702, .inl f3)), (me, .inl (cm, 702, .inl f4)), (cd, .inr (0, cfs)), (sp, .inr (8, sfs)), (rd, .inr (7, rfs)), (tr, .inl (ct, 2, .inr (.inr (.inr (.inr (fun _ => none))))))] s.heap.size = A at hD hZ ⊢
  have hA : ∀ q : Nat, s.heap.size ≤ q → A q := fun q h => by rw [← hAe]; exact Or.inr h
  have hS : va_S A s.heap s.heap [] := va_S.rf
  have hAO := hE.2.2.2.1
  have hP : va_P D vwCl [(h0, .inr (11, xfs)), (tk, .inr (9, tfs)), (so, .inl (cs, 702, .inl f0)), (pl, .inl (cp, 702, .inl f1)), (li, .inl (ci, 702, .inl f2)), (nm, .inr (6, nfs)), (us, .inl (cu, 702, .inl f3)), (me, .inl (cm, 702, .inl f4)), (cd, .inr (0, cfs)), (sp, .inr (8, sfs)), (rd, .inr (7, rfs)), (tr, .inl (ct, 2, .inr (.inr (.inr (.inr (fun _ => none))))))] s.heap := hP
  have hl := lv_entry ([.ref h0]) (n := 4) (Nat.le_of_ble_eq_true rfl)
  rw [lg_entry_eq]
  generalize (lg_sl ([.ref h0]) ++ List.replicate (4 - (lg_sl ([.ref h0])).length) Slot.unset).toArray = ls at hl ⊢
  have hl : lv_has ls 4 [(0, .ref h0)] := hl
  refine lv_aload_n hx hb dX11_compile_0 rfl (lv_at hl 0 rfl) ?_
  have hPc := hP.sub (ws' := [(h0, .inr (11, xfs)), (tr, .inl (ct, 2, .inr (.inr (.inr (.inr (fun _ => none))))))]) [0, 11] rfl
  have hDc := hD.sub (ws' := [(h0, .inr (11, xfs)), (tr, .inl (ct, 2, .inr (.inr (.inr (.inr (fun _ => none))))))]) [0, 11] (by decide) rfl
  have hKc := hK.sub (tys' := [(ct, .object "ScheduleHouse$Trial")]) [5] rfl
  have hFc := va_free (wc := [(h0, .inr (11, xfs)), (tr, .inl (ct, 2, .inr (.inr (.inr (.inr (fun _ => none))))))]) hD hS hA [0, 11] rfl
  refine va_callv (va_runV (As := []) (rest := []) ⟨hx, hb, hml, hown, hts⟩ (c_forgetAll l D h0 tr ct xfs s.heap.size hq_l hq_6) (cwV 0 hts g_v_c_compile_0 rfl rfl rfl (by decide +kernel) ⟨Nat.le_of_ble_eq_true rfl, Nat.le_of_ble_eq_true rfl⟩) ⟨st_blind, va_recv hKc hPc (ci := 11) (q0 := 0) rfl rfl, fun U hU hW => ⟨rfl, st_call hU hW hPc hKc hDc hZ hS hFc hE⟩⟩ rfl rfl hl.1 rfl (lv_room (Nat.le_of_ble_eq_true rfl)) dX11_compile_1 ⟨Nat.le_of_ble_eq_true rfl, Nat.le_of_ble_eq_true rfl⟩) hS (fun q _ h => hFc q h) hFc (fun  u1 t H1 locs ht hvm hw hB hz1 hk1 hS => ?_)
  have lu1 : u1.length = 13 := by rw [hw, List.length_set, List.length_set]; exact hq_l
  have gu1_0 : u1[0]? = some (.ref tk) := by rw [hw]; exact se_ne (se_ne hq_0 (by decide)) (by decide)
  have gu1_1 : u1[1]? = some (.ref nm) := by rw [hw]; exact se_ne (se_ne hq_1 (by decide)) (by decide)
  have gu1_2 : u1[2]? = some (.ref cd) := by rw [hw]; exact se_ne (se_ne hq_2 (by decide)) (by decide)
  have gu1_3 : u1[3]? = some (.ref rd) := by rw [hw]; exact se_ne (se_ne hq_3 (by decide)) (by decide)
  have gu1_6 : u1[6]? = some (.ref tr) := by rw [hw]; exact se_ne (se_ne hq_6 (by decide)) (by decide)
  obtain ⟨hP1, hK1, hD1⟩ := hB
  rw [ht] at hP1
  have hK1 := va_K.moved hvm.symm hK1
  obtain ⟨hP, hD⟩ := va_join (wr := [(tk, .inr (9, tfs)), (so, .inl (cs, 702, .inl f0)), (pl, .inl (cp, 702, .inl f1)), (li, .inl (ci, 702, .inl f2)), (nm, .inr (6, nfs)), (us, .inl (cu, 702, .inl f3)), (me, .inl (cm, 702, .inl f4)), (cd, .inr (0, cfs)), (sp, .inr (8, sfs)), (rd, .inr (7, rfs))]) (w1 := [(h0, .inr (11, u1)), (tr, .inl (ct, 2, .inr (.inr (.inr (.inr (fun _ => none))))))]) hP hD [0, 11] [1, 2, 3, 4, 5, 6, 7, 8, 9, 10] rfl rfl (by decide) (by decide) hk1 hFc hP1 hD1
  have hK := (hK.sub (tys' := [(cs, .int), (cp, .int), (ci, .int), (cu, .int), (cm, .int)]) [0, 1, 2, 3, 4] rfl).app hK1
  generalize H1 = H at hP hS ⊢
  have hP : va_P D vwCl [(tk, .inr (9, tfs)), (so, .inl (cs, 702, .inl f0)), (pl, .inl (cp, 702, .inl f1)), (li, .inl (ci, 702, .inl f2)), (nm, .inr (6, nfs)), (us, .inl (cu, 702, .inl f3)), (me, .inl (cm, 702, .inl f4)), (cd, .inr (0, cfs)), (sp, .inr (8, sfs)), (rd, .inr (7, rfs)), (h0, .inr (11, u1)), (tr, .inl (ct, 2, .inr (.inr (.inr (.inr (fun _ => none))))))] H := hP
  have hD : va_D A [(tk, .inr (9, tfs)), (so, .inl (cs, 702, .inl f0)), (pl, .inl (cp, 702, .inl f1)), (li, .inl (ci, 702, .inl f2)), (nm, .inr (6, nfs)), (us, .inl (cu, 702, .inl f3)), (me, .inl (cm, 702, .inl f4)), (cd, .inr (0, cfs)), (sp, .inr (8, sfs)), (rd, .inr (7, rfs)), (h0, .inr (11, u1)), (tr, .inl (ct, 2, .inr (.inr (.inr (.inr (fun _ => none))))))] := hD
  have hK : va_K D vwCl [(cs, .int), (cp, .int), (ci, .int), (cu, .int), (cm, .int), (ct, .object "ScheduleHouse$Trial")] s := hK
  refine lv_aload_n hx hb dX11_compile_4 rfl (lv_at hl 0 rfl) ?_
  refine va_get (D := D) (ci := 11) (v := .ref tk) (C := RX11) (T := TX11) (N := 13) hx hb hts i_v_c_compile_X11 hown hK hP 10 rfl rfl 0 (by decide) (hts (.fieldLink RX11 10 "ScheduleHouse" "tokens" "LScheduleHouse$Tokens;") (by decide +kernel)) (fun _ h9 => h9) gu1_0 dX11_compile_5 ?_
  have hPc := hP.sub (ws' := [(tk, .inr (9, tfs)), (so, .inl (cs, 702, .inl f0)), (pl, .inl (cp, 702, .inl f1)), (li, .inl (ci, 702, .inl f2))]) [0, 1, 2, 3] rfl
  have hDc := hD.sub (ws' := [(tk, .inr (9, tfs)), (so, .inl (cs, 702, .inl f0)), (pl, .inl (cp, 702, .inl f1)), (li, .inl (ci, 702, .inl f2))]) [0, 1, 2, 3] (by decide) rfl
  have hKc := hK.sub (tys' := [(cs, .int), (cp, .int), (ci, .int)]) [0, 1, 2] rfl
  have hFc := va_free (wc := [(tk, .inr (9, tfs)), (so, .inl (cs, 702, .inl f0)), (pl, .inl (cp, 702, .inl f1)), (li, .inl (ci, 702, .inl f2))]) hD hS hA [0, 1, 2, 3] rfl
  refine va_callv (va_runV (As := []) (rest := []) ⟨hx, hb, hml, hown, hts⟩ (c_cut l D tk so pl li cs cp ci tfs f0 f1 f2 H.size ht_l ht_1 ht_2 ht_3 ht_4) (cwV 0 hts g_v_c_compile_2 rfl rfl rfl (by decide +kernel) ⟨Nat.le_of_ble_eq_true rfl, Nat.le_of_ble_eq_true rfl⟩) ⟨st_blind, va_recv hKc hPc (ci := 9) (q0 := 0) rfl rfl, fun U hU hW => ⟨rfl, st_call hU hW hPc hKc hDc hZ hS hFc hE⟩⟩ rfl rfl hl.1 rfl (lv_room (Nat.le_of_ble_eq_true rfl)) dX11_compile_8 ⟨Nat.le_of_ble_eq_true rfl, Nat.le_of_ble_eq_true rfl⟩) hS (fun q _ h => hFc q h) hFc (fun  u2 t H1 locs ht hvm hw hB hz1 hk1 hS => ?_)
  obtain ⟨u2_l, u2_2, u2_7⟩ := hw
  obtain ⟨fy3, fy4, fy5, he0, hB⟩ := hB
  obtain ⟨hP1, hK1, hD1⟩ := hB
  rw [ht] at hP1
  have hK1 := va_K.moved hvm.symm hK1
  obtain ⟨hP, hD⟩ := va_join (wr := [(nm, .inr (6, nfs)), (us, .inl (cu, 702, .inl f3)), (me, .inl (cm, 702, .inl f4)), (cd, .inr (0, cfs)), (sp, .inr (8, sfs)), (rd, .inr (7, rfs)), (h0, .inr (11, u1)), (tr, .inl (ct, 2, .inr (.inr (.inr (.inr (fun _ => none))))))]) (w1 := [(tk, .inr (9, u2)), (so, .inl (cs, 702, .inl fy3)), (pl, .inl (cp, 702, .inl fy4)), (li, .inl (ci, 702, .inl fy5))]) hP hD [0, 1, 2, 3] [4, 5, 6, 7, 8, 9, 10, 11] rfl rfl (by decide) (by decide) hk1 hFc hP1 hD1
  have hK := (hK.sub (tys' := [(cu, .int), (cm, .int), (ct, .object "ScheduleHouse$Trial")]) [3, 4, 5] rfl).app hK1
  generalize H1 = H at hP hS ⊢
  have hP : va_P D vwCl [(nm, .inr (6, nfs)), (us, .inl (cu, 702, .inl f3)), (me, .inl (cm, 702, .inl f4)), (cd, .inr (0, cfs)), (sp, .inr (8, sfs)), (rd, .inr (7, rfs)), (h0, .inr (11, u1)), (tr, .inl (ct, 2, .inr (.inr (.inr (.inr (fun _ => none)))))), (tk, .inr (9, u2)), (so, .inl (cs, 702, .inl fy3)), (pl, .inl (cp, 702, .inl fy4)), (li, .inl (ci, 702, .inl fy5))] H := hP
  have hD : va_D A [(nm, .inr (6, nfs)), (us, .inl (cu, 702, .inl f3)), (me, .inl (cm, 702, .inl f4)), (cd, .inr (0, cfs)), (sp, .inr (8, sfs)), (rd, .inr (7, rfs)), (h0, .inr (11, u1)), (tr, .inl (ct, 2, .inr (.inr (.inr (.inr (fun _ => none)))))), (tk, .inr (9, u2)), (so, .inl (cs, 702, .inl fy3)), (pl, .inl (cp, 702, .inl fy4)), (li, .inl (ci, 702, .inl fy5))] := hD
  have hK : va_K D vwCl [(cu, .int), (cm, .int), (ct, .object "ScheduleHouse$Trial"), (cs, .int), (cp, .int), (ci, .int)] s := hK
  refine lv_iconst (v := 0) hx hb dX11_compile_11 (by decide +kernel) ?_
  refine lv_istore_n (lv' := [(1, .int 0), (0, .ref h0)]) hx hb dX11_compile_12 rfl hl (by decide) rfl (fun ls hl => ?_)
  refine lv_iconst (v := (-1)) hx hb dX11_compile_13 (by decide +kernel) ?_
  refine lv_istore_n (lv' := [(2, .int (-1)), (1, .int 0), (0, .ref h0)]) hx hb dX11_compile_14 rfl hl (by decide) rfl (fun ls hl => ?_)
  refine lv_aload_n hx hb dX11_compile_15 rfl (lv_at hl 2 rfl) ?_
  refine va_get (D := D) (ci := 11) (v := .ref rd) (C := RX11) (T := TX11) (N := 13) hx hb hts i_v_c_compile_X11 hown hK hP 6 rfl rfl 3 (by decide) (hts (.fieldLink RX11 37 "ScheduleHouse" "reader" "LScheduleHouse$Reader;") (by decide +kernel)) (fun _ h9 => h9) gu1_3 dX11_compile_16 ?_
  have hPc := hP.sub (ws' := [(rd, .inr (7, rfs)), (nm, .inr (6, nfs)), (us, .inl (cu, 702, .inl f3)), (me, .inl (cm, 702, .inl f4)), (cd, .inr (0, cfs)), (sp, .inr (8, sfs)), (tk, .inr (9, u2)), (so, .inl (cs, 702, .inl fy3))]) [5, 0, 1, 2, 3, 4, 8, 9] rfl
  have hDc := hD.sub (ws' := [(rd, .inr (7, rfs)), (nm, .inr (6, nfs)), (us, .inl (cu, 702, .inl f3)), (me, .inl (cm, 702, .inl f4)), (cd, .inr (0, cfs)), (sp, .inr (8, sfs)), (tk, .inr (9, u2)), (so, .inl (cs, 702, .inl fy3))]) [5, 0, 1, 2, 3, 4, 8, 9] (by decide) rfl
  have hKc := hK.sub (tys' := [(cu, .int), (cm, .int), (cs, .int)]) [0, 1, 3] rfl
  have hFc := va_free (wc := [(rd, .inr (7, rfs)), (nm, .inr (6, nfs)), (us, .inl (cu, 702, .inl f3)), (me, .inl (cm, 702, .inl f4)), (cd, .inr (0, cfs)), (sp, .inr (8, sfs)), (tk, .inr (9, u2)), (so, .inl (cs, 702, .inl fy3))]) hD hS hA [5, 0, 1, 2, 3, 4, 8, 9] rfl
  refine va_callv (va_runV (As := []) (rest := []) ⟨hx, hb, hml, hown, hts⟩ (c_readAll l D rd nm us me cd sp tk so cu cm cs rfs nfs cfs sfs u2 fy3 f3 f4 H.size hr__l hr__0 hr__1 hr__2 hr__3 hn_l hn_0 hn_1 hn_2 hn_11 hc_l hc_0 hs_l u2_l u2_2 u2_7 he0) (cwV 0 hts g_v_c_compile_3 rfl rfl rfl (by decide +kernel) ⟨Nat.le_of_ble_eq_true rfl, Nat.le_of_ble_eq_true rfl⟩) ⟨st_blind, va_recv hKc hPc (ci := 7) (q0 := 0) rfl rfl, fun U hU hW => ⟨rfl, st_call hU hW hPc hKc hDc hZ hS hFc hE⟩⟩ rfl rfl hl.1 rfl (lv_room (Nat.le_of_ble_eq_true rfl)) dX11_compile_19 ⟨Nat.le_of_ble_eq_true rfl, Nat.le_of_ble_eq_true rfl⟩) hS (fun q _ h => hFc q h) hFc (fun  u6 t H1 locs ht hvm hw hB hz1 hk1 hS => ?_)
  obtain ⟨v7, v8, v9, v10, v11⟩ := u6
  obtain ⟨⟨v7_l, v7_2, v7_3⟩, ⟨v8_l, v8_0, v8_11⟩, ⟨v9_l, v9_0, v9_3, v9_10⟩, ⟨v10_l, v10_9⟩, ⟨v11_l, v11_7⟩⟩ := hw
  dsimp only at hB
  obtain ⟨hP1, hK1, hD1⟩ := hB
  rw [ht] at hP1
  have hK1 := va_K.moved hvm.symm hK1
  obtain ⟨hP, hD⟩ := va_join (wr := [(h0, .inr (11, u1)), (tr, .inl (ct, 2, .inr (.inr (.inr (.inr (fun _ => none)))))), (pl, .inl (cp, 702, .inl fy4)), (li, .inl (ci, 702, .inl fy5))]) (w1 := [(rd, .inr (7, v7)), (nm, .inr (6, v8)), (cd, .inr (0, v9)), (sp, .inr (8, v10)), (tk, .inr (9, v11))]) hP hD [5, 0, 1, 2, 3, 4, 8, 9] [6, 7, 10, 11] rfl rfl (by decide) (by decide) hk1 hFc hP1 hD1
  have hK := (hK.sub (tys' := [(ct, .object "ScheduleHouse$Trial"), (cp, .int), (ci, .int)]) [2, 4, 5] rfl).app hK1
  generalize H1 = H at hP hS ⊢
  have hP : va_P D vwCl [(h0, .inr (11, u1)), (tr, .inl (ct, 2, .inr (.inr (.inr (.inr (fun _ => none)))))), (pl, .inl (cp, 702, .inl fy4)), (li, .inl (ci, 702, .inl fy5)), (rd, .inr (7, v7)), (nm, .inr (6, v8)), (cd, .inr (0, v9)), (sp, .inr (8, v10)), (tk, .inr (9, v11))] H := hP
  have hD : va_D A [(h0, .inr (11, u1)), (tr, .inl (ct, 2, .inr (.inr (.inr (.inr (fun _ => none)))))), (pl, .inl (cp, 702, .inl fy4)), (li, .inl (ci, 702, .inl fy5)), (rd, .inr (7, v7)), (nm, .inr (6, v8)), (cd, .inr (0, v9)), (sp, .inr (8, v10)), (tk, .inr (9, v11))] := hD
  have hK : va_K D vwCl [(ct, .object "ScheduleHouse$Trial"), (cp, .int), (ci, .int)] s := hK
  refine lv_aload_n hx hb dX11_compile_22 rfl (lv_at hl 2 rfl) ?_
  refine va_get (D := D) (ci := 11) (v := .ref nm) (C := RX11) (T := TX11) (N := 13) hx hb hts i_v_c_compile_X11 hown hK hP 0 rfl rfl 1 (by decide) (hts (.fieldLink RX11 21 "ScheduleHouse" "names" "LScheduleHouse$Names;") (by decide +kernel)) (fun _ h9 => h9) gu1_1 dX11_compile_23 ?_
  have hPc := hP.sub (ws' := [(nm, .inr (6, v8)), (tk, .inr (9, v11))]) [5, 8] rfl
  have hDc := hD.sub (ws' := [(nm, .inr (6, v8)), (tk, .inr (9, v11))]) [5, 8] (by decide) rfl
  have hKc := hK.sub (tys' := []) [] rfl
  have hFc := va_free (wc := [(nm, .inr (6, v8)), (tk, .inr (9, v11))]) hD hS hA [5, 8] rfl
  refine va_calli (va_runV (As := []) (rest := []) ⟨hx, hb, hml, hown, hts⟩ (c_judge l D nm tk v8 v11 H.size v8_l v8_0 v11_l v11_7) (cwV 0 hts g_v_c_compile_4 rfl rfl rfl (by decide +kernel) ⟨Nat.le_of_ble_eq_true rfl, Nat.le_of_ble_eq_true rfl⟩) ⟨st_blind, va_recv hKc hPc (ci := 6) (q0 := 0) rfl rfl, fun U hU hW => ⟨rfl, st_call hU hW hPc hKc hDc hZ hS hFc hE⟩⟩ rfl rfl hl.1 rfl (lv_room (Nat.le_of_ble_eq_true rfl)) dX11_compile_26 ⟨Nat.le_of_ble_eq_true rfl, Nat.le_of_ble_eq_true rfl⟩) hS (fun q _ h => hFc q h) hFc (fun r12 u13 t H1 locs ht hvm hw hB hz1 hk1 hS => ?_)
  obtain ⟨hP1, hK1, hD1⟩ := hB
  rw [ht] at hP1
  have hK1 := va_K.moved hvm.symm hK1
  obtain ⟨hP, hD⟩ := va_join (wr := [(h0, .inr (11, u1)), (tr, .inl (ct, 2, .inr (.inr (.inr (.inr (fun _ => none)))))), (pl, .inl (cp, 702, .inl fy4)), (li, .inl (ci, 702, .inl fy5)), (rd, .inr (7, v7)), (cd, .inr (0, v9)), (sp, .inr (8, v10))]) (w1 := [(nm, .inr (6, v8)), (tk, .inr (9, v11))]) hP hD [5, 8] [0, 1, 2, 3, 4, 6, 7] rfl rfl (by decide) (by decide) hk1 hFc hP1 hD1
  have hK := (hK.sub (tys' := [(ct, .object "ScheduleHouse$Trial"), (cp, .int), (ci, .int)]) [0, 1, 2] rfl).app hK1
  generalize H1 = H at hP hS ⊢
  have hP : va_P D vwCl [(h0, .inr (11, u1)), (tr, .inl (ct, 2, .inr (.inr (.inr (.inr (fun _ => none)))))), (pl, .inl (cp, 702, .inl fy4)), (li, .inl (ci, 702, .inl fy5)), (rd, .inr (7, v7)), (cd, .inr (0, v9)), (sp, .inr (8, v10)), (nm, .inr (6, v8)), (tk, .inr (9, v11))] H := hP
  have hD : va_D A [(h0, .inr (11, u1)), (tr, .inl (ct, 2, .inr (.inr (.inr (.inr (fun _ => none)))))), (pl, .inl (cp, 702, .inl fy4)), (li, .inl (ci, 702, .inl fy5)), (rd, .inr (7, v7)), (cd, .inr (0, v9)), (sp, .inr (8, v10)), (nm, .inr (6, v8)), (tk, .inr (9, v11))] := hD
  have hK : va_K D vwCl [(ct, .object "ScheduleHouse$Trial"), (cp, .int), (ci, .int)] s := hK
  subst hw
  refine lv_istore_n (lv' := [(1, .int 0), (2, .int (-1)), (0, .ref h0)]) hx hb dX11_compile_29 rfl hl (by decide) rfl (fun ls hl => ?_)
  refine lv_aload_n hx hb dX11_compile_30 rfl (lv_at hl 2 rfl) ?_
  refine va_get (D := D) (ci := 11) (v := .ref nm) (C := RX11) (T := TX11) (N := 13) hx hb hts i_v_c_compile_X11 hown hK hP 0 rfl rfl 1 (by decide) (hts (.fieldLink RX11 21 "ScheduleHouse" "names" "LScheduleHouse$Names;") (by decide +kernel)) (fun _ h9 => h9) gu1_1 dX11_compile_31 ?_
  refine va_get (D := D) (ci := 6) (v := .int 0) (C := RX6) (T := TX6) (N := 12) hx hb hts i_v_c_compile_X6 hown hK hP 7 rfl rfl 11 (by decide) (hts (.fieldLink RX11 99 "ScheduleHouse$Names" "faultToken" "I") (by decide +kernel)) (fun _ h9 => h9) v8_11 dX11_compile_34 ?_
  refine lv_istore_n (lv' := [(2, .int 0), (1, .int 0), (0, .ref h0)]) hx hb dX11_compile_37 rfl hl (by decide) rfl (fun ls hl => ?_)
  refine lv_goto (tgt := 58) hx hb dX11_compile_38 (by decide) ?_
  refine lv_aload_n hx hb dX11_compile_58 rfl (lv_at hl 2 rfl) ?_
  refine lv_iload_n hx hb dX11_compile_59 rfl (lv_at hl 1 rfl) ?_
  refine lv_if_ne (tgt := 67) hx hb dX11_compile_60 (by decide) (fun c9 => False.elim (by revert c9; decide)) (fun _ => ?_)
  refine lv_iconst (v := 1) hx hb dX11_compile_63 (by decide +kernel) ?_
  refine lv_goto (tgt := 68) hx hb dX11_compile_64 (by decide) ?_
  refine va_put (D := D) (ci := 11) (v := .int 1) (ty := .boolean) (C := RX11) (T := TX11) (N := 13) hx hb hts i_v_c_compile_X11 tyX11 tyX11_ok nmX11 hown hK hP hD hS 0 rfl rfl 9 (by decide) (hts (.fieldLink RX11 110 "ScheduleHouse" "compiled" "Z") (by decide +kernel)) (fun _ h9 => h9) rfl (by decide +kernel) rfl rfl (by rw [lu1]; decide) dX11_compile_68 (fun H locs hP hD hS => ?_)
  obtain ⟨fs14, hfs14⟩ : ∃ z, z = u1.set 9 (.int 1) := ⟨_, rfl⟩
  rw [← hfs14] at hP hD
  have lfs14 : fs14.length = 13 := by rw [hfs14, List.length_set]; exact lu1
  have gfs14_0 : fs14[0]? = some (.ref tk) := by rw [hfs14, List.getElem?_set_ne (by decide)]; exact gu1_0
  have gfs14_1 : fs14[1]? = some (.ref nm) := by rw [hfs14, List.getElem?_set_ne (by decide)]; exact gu1_1
  have gfs14_2 : fs14[2]? = some (.ref cd) := by rw [hfs14, List.getElem?_set_ne (by decide)]; exact gu1_2
  have gfs14_3 : fs14[3]? = some (.ref rd) := by rw [hfs14, List.getElem?_set_ne (by decide)]; exact gu1_3
  have gfs14_6 : fs14[6]? = some (.ref tr) := by rw [hfs14, List.getElem?_set_ne (by decide)]; exact gu1_6
  have gfs14_9 : fs14[9]? = some (.int 1) := by rw [hfs14]; exact List.getElem?_set_self (by rw [lu1]; decide)
  have hP : va_P D vwCl [(h0, .inr (11, fs14)), (tr, .inl (ct, 2, .inr (.inr (.inr (.inr (fun _ => none)))))), (pl, .inl (cp, 702, .inl fy4)), (li, .inl (ci, 702, .inl fy5)), (rd, .inr (7, v7)), (cd, .inr (0, v9)), (sp, .inr (8, v10)), (nm, .inr (6, v8)), (tk, .inr (9, v11))] H := hP
  have hD : va_D A [(h0, .inr (11, fs14)), (tr, .inl (ct, 2, .inr (.inr (.inr (.inr (fun _ => none)))))), (pl, .inl (cp, 702, .inl fy4)), (li, .inl (ci, 702, .inl fy5)), (rd, .inr (7, v7)), (cd, .inr (0, v9)), (sp, .inr (8, v10)), (nm, .inr (6, v8)), (tk, .inr (9, v11))] := hD
  refine lv_aload_n hx hb dX11_compile_71 rfl (lv_at hl 2 rfl) ?_
  refine lv_aload_n hx hb dX11_compile_72 rfl (lv_at hl 2 rfl) ?_
  refine va_get (D := D) (ci := 11) (v := .int 1) (C := RX11) (T := TX11) (N := 13) hx hb hts i_v_c_compile_X11 hown hK hP 0 rfl rfl 9 (by decide) (hts (.fieldLink RX11 110 "ScheduleHouse" "compiled" "Z") (by decide +kernel)) (fun _ h9 => h9) gfs14_9 dX11_compile_73 ?_
  refine lv_if_eq (tgt := 83) hx hb dX11_compile_76 (by decide) (fun c9 => False.elim (by revert c9; decide)) (fun _ => ?_)
  refine lv_iconst (v := (-1)) hx hb dX11_compile_79 (by decide +kernel) ?_
  refine lv_goto (tgt := 92) hx hb dX11_compile_80 (by decide) ?_
  refine va_put (D := D) (ci := 11) (v := .int (-1)) (ty := .int) (C := RX11) (T := TX11) (N := 13) hx hb hts i_v_c_compile_X11 tyX11 tyX11_ok nmX11 hown hK hP hD hS 0 rfl rfl 11 (by decide) (hts (.fieldLink RX11 63 "ScheduleHouse" "faultPlace" "I") (by decide +kernel)) (fun _ h9 => h9) rfl (by decide +kernel) rfl rfl (by rw [lfs14]; decide) dX11_compile_92 (fun H locs hP hD hS => ?_)
  obtain ⟨fs15, hfs15⟩ : ∃ z, z = fs14.set 11 (.int (-1)) := ⟨_, rfl⟩
  rw [← hfs15] at hP hD
  have lfs15 : fs15.length = 13 := by rw [hfs15, List.length_set]; exact lfs14
  have gfs15_0 : fs15[0]? = some (.ref tk) := by rw [hfs15, List.getElem?_set_ne (by decide)]; exact gfs14_0
  have gfs15_1 : fs15[1]? = some (.ref nm) := by rw [hfs15, List.getElem?_set_ne (by decide)]; exact gfs14_1
  have gfs15_2 : fs15[2]? = some (.ref cd) := by rw [hfs15, List.getElem?_set_ne (by decide)]; exact gfs14_2
  have gfs15_3 : fs15[3]? = some (.ref rd) := by rw [hfs15, List.getElem?_set_ne (by decide)]; exact gfs14_3
  have gfs15_6 : fs15[6]? = some (.ref tr) := by rw [hfs15, List.getElem?_set_ne (by decide)]; exact gfs14_6
  have gfs15_9 : fs15[9]? = some (.int 1) := by rw [hfs15, List.getElem?_set_ne (by decide)]; exact gfs14_9
  have gfs15_11 : fs15[11]? = some (.int (-1)) := by rw [hfs15]; exact List.getElem?_set_self (by rw [lfs14]; decide)
  have hP : va_P D vwCl [(h0, .inr (11, fs15)), (tr, .inl (ct, 2, .inr (.inr (.inr (.inr (fun _ => none)))))), (pl, .inl (cp, 702, .inl fy4)), (li, .inl (ci, 702, .inl fy5)), (rd, .inr (7, v7)), (cd, .inr (0, v9)), (sp, .inr (8, v10)), (nm, .inr (6, v8)), (tk, .inr (9, v11))] H := hP
  have hD : va_D A [(h0, .inr (11, fs15)), (tr, .inl (ct, 2, .inr (.inr (.inr (.inr (fun _ => none)))))), (pl, .inl (cp, 702, .inl fy4)), (li, .inl (ci, 702, .inl fy5)), (rd, .inr (7, v7)), (cd, .inr (0, v9)), (sp, .inr (8, v10)), (nm, .inr (6, v8)), (tk, .inr (9, v11))] := hD
  refine lv_aload_n hx hb dX11_compile_95 rfl (lv_at hl 2 rfl) ?_
  refine lv_aload_n hx hb dX11_compile_96 rfl (lv_at hl 2 rfl) ?_
  refine va_get (D := D) (ci := 11) (v := .int 1) (C := RX11) (T := TX11) (N := 13) hx hb hts i_v_c_compile_X11 hown hK hP 0 rfl rfl 9 (by decide) (hts (.fieldLink RX11 110 "ScheduleHouse" "compiled" "Z") (by decide +kernel)) (fun _ h9 => h9) gfs15_9 dX11_compile_97 ?_
  refine lv_if_eq (tgt := 107) hx hb dX11_compile_100 (by decide) (fun c9 => False.elim (by revert c9; decide)) (fun _ => ?_)
  refine lv_iconst (v := (-1)) hx hb dX11_compile_103 (by decide +kernel) ?_
  refine lv_goto (tgt := 116) hx hb dX11_compile_104 (by decide) ?_
  refine va_put (D := D) (ci := 11) (v := .int (-1)) (ty := .int) (C := RX11) (T := TX11) (N := 13) hx hb hts i_v_c_compile_X11 tyX11 tyX11_ok nmX11 hown hK hP hD hS 0 rfl rfl 12 (by decide) (hts (.fieldLink RX11 67 "ScheduleHouse" "faultLine" "I") (by decide +kernel)) (fun _ h9 => h9) rfl (by decide +kernel) rfl rfl (by rw [lfs15]; decide) dX11_compile_116 (fun H locs hP hD hS => ?_)
  obtain ⟨fs16, hfs16⟩ : ∃ z, z = fs15.set 12 (.int (-1)) := ⟨_, rfl⟩
  rw [← hfs16] at hP hD
  have lfs16 : fs16.length = 13 := by rw [hfs16, List.length_set]; exact lfs15
  have gfs16_0 : fs16[0]? = some (.ref tk) := by rw [hfs16, List.getElem?_set_ne (by decide)]; exact gfs15_0
  have gfs16_1 : fs16[1]? = some (.ref nm) := by rw [hfs16, List.getElem?_set_ne (by decide)]; exact gfs15_1
  have gfs16_2 : fs16[2]? = some (.ref cd) := by rw [hfs16, List.getElem?_set_ne (by decide)]; exact gfs15_2
  have gfs16_3 : fs16[3]? = some (.ref rd) := by rw [hfs16, List.getElem?_set_ne (by decide)]; exact gfs15_3
  have gfs16_6 : fs16[6]? = some (.ref tr) := by rw [hfs16, List.getElem?_set_ne (by decide)]; exact gfs15_6
  have gfs16_9 : fs16[9]? = some (.int 1) := by rw [hfs16, List.getElem?_set_ne (by decide)]; exact gfs15_9
  have gfs16_11 : fs16[11]? = some (.int (-1)) := by rw [hfs16, List.getElem?_set_ne (by decide)]; exact gfs15_11
  have gfs16_12 : fs16[12]? = some (.int (-1)) := by rw [hfs16]; exact List.getElem?_set_self (by rw [lfs15]; decide)
  have hP : va_P D vwCl [(h0, .inr (11, fs16)), (tr, .inl (ct, 2, .inr (.inr (.inr (.inr (fun _ => none)))))), (pl, .inl (cp, 702, .inl fy4)), (li, .inl (ci, 702, .inl fy5)), (rd, .inr (7, v7)), (cd, .inr (0, v9)), (sp, .inr (8, v10)), (nm, .inr (6, v8)), (tk, .inr (9, v11))] H := hP
  have hD : va_D A [(h0, .inr (11, fs16)), (tr, .inl (ct, 2, .inr (.inr (.inr (.inr (fun _ => none)))))), (pl, .inl (cp, 702, .inl fy4)), (li, .inl (ci, 702, .inl fy5)), (rd, .inr (7, v7)), (cd, .inr (0, v9)), (sp, .inr (8, v10)), (nm, .inr (6, v8)), (tk, .inr (9, v11))] := hD
  refine lv_aload_n hx hb dX11_compile_119 rfl (lv_at hl 2 rfl) ?_
  refine va_get (D := D) (ci := 11) (v := .int 1) (C := RX11) (T := TX11) (N := 13) hx hb hts i_v_c_compile_X11 hown hK hP 0 rfl rfl 9 (by decide) (hts (.fieldLink RX11 110 "ScheduleHouse" "compiled" "Z") (by decide +kernel)) (fun _ h9 => h9) gfs16_9 dX11_compile_120 ?_
  refine lv_if_ne (tgt := 129) hx hb dX11_compile_123 (by decide) (fun _ => ?_) (fun c9 => False.elim (by revert c9; decide))
  refine lv_aload_n hx hb dX11_compile_129 rfl (lv_at hl 2 rfl) ?_
  refine va_get (D := D) (ci := 11) (v := .ref rd) (C := RX11) (T := TX11) (N := 13) hx hb hts i_v_c_compile_X11 hown hK hP 0 rfl rfl 3 (by decide) (hts (.fieldLink RX11 37 "ScheduleHouse" "reader" "LScheduleHouse$Reader;") (by decide +kernel)) (fun _ h9 => h9) gfs16_3 dX11_compile_130 ?_
  have hPc := hP.sub (ws' := [(rd, .inr (7, v7)), (cd, .inr (0, v9)), (sp, .inr (8, v10))]) [4, 5, 6] rfl
  have hDc := hD.sub (ws' := [(rd, .inr (7, v7)), (cd, .inr (0, v9)), (sp, .inr (8, v10))]) [4, 5, 6] (by decide) rfl
  have hKc := hK.sub (tys' := []) [] rfl
  have hFc := va_free (wc := [(rd, .inr (7, v7)), (cd, .inr (0, v9)), (sp, .inr (8, v10))]) hD hS hA [4, 5, 6] rfl
  refine va_callv (va_runV (As := []) (rest := []) ⟨hx, hb, hml, hown, hts⟩ (c_link l D rd cd sp v7 v9 v10 H.size v7_l v7_2 v7_3 v9_l v9_0 v9_3 v9_10 v10_l v10_9) (cwV 0 hts g_v_c_compile_6 rfl rfl rfl (by decide +kernel) ⟨Nat.le_of_ble_eq_true rfl, Nat.le_of_ble_eq_true rfl⟩) ⟨st_blind, va_recv hKc hPc (ci := 7) (q0 := 0) rfl rfl, fun U hU hW => ⟨rfl, st_call hU hW hPc hKc hDc hZ hS hFc hE⟩⟩ rfl rfl hl.1 rfl (lv_room (Nat.le_of_ble_eq_true rfl)) dX11_compile_133 ⟨Nat.le_of_ble_eq_true rfl, Nat.le_of_ble_eq_true rfl⟩) hS (fun q _ h => hFc q h) hFc (fun  u17 t H1 locs ht hvm hw hB hz1 hk1 hS => ?_)
  obtain ⟨hP1, hK1, hD1⟩ := hB
  rw [ht] at hP1
  have hK1 := va_K.moved hvm.symm hK1
  obtain ⟨hP, hD⟩ := va_join (wr := [(h0, .inr (11, fs16)), (tr, .inl (ct, 2, .inr (.inr (.inr (.inr (fun _ => none)))))), (pl, .inl (cp, 702, .inl fy4)), (li, .inl (ci, 702, .inl fy5)), (nm, .inr (6, v8)), (tk, .inr (9, v11))]) (w1 := [(rd, .inr (7, v7)), (cd, .inr (0, v9)), (sp, .inr (8, v10))]) hP hD [4, 5, 6] [0, 1, 2, 3, 7, 8] rfl rfl (by decide) (by decide) hk1 hFc hP1 hD1
  have hK := (hK.sub (tys' := [(ct, .object "ScheduleHouse$Trial"), (cp, .int), (ci, .int)]) [0, 1, 2] rfl).app hK1
  generalize H1 = H at hP hS ⊢
  have hP : va_P D vwCl [(h0, .inr (11, fs16)), (tr, .inl (ct, 2, .inr (.inr (.inr (.inr (fun _ => none)))))), (pl, .inl (cp, 702, .inl fy4)), (li, .inl (ci, 702, .inl fy5)), (nm, .inr (6, v8)), (tk, .inr (9, v11)), (rd, .inr (7, v7)), (cd, .inr (0, v9)), (sp, .inr (8, v10))] H := hP
  have hD : va_D A [(h0, .inr (11, fs16)), (tr, .inl (ct, 2, .inr (.inr (.inr (.inr (fun _ => none)))))), (pl, .inl (cp, 702, .inl fy4)), (li, .inl (ci, 702, .inl fy5)), (nm, .inr (6, v8)), (tk, .inr (9, v11)), (rd, .inr (7, v7)), (cd, .inr (0, v9)), (sp, .inr (8, v10))] := hD
  have hK : va_K D vwCl [(ct, .object "ScheduleHouse$Trial"), (cp, .int), (ci, .int)] s := hK
  refine lv_aload_n hx hb dX11_compile_136 rfl (lv_at hl 2 rfl) ?_
  refine va_get (D := D) (ci := 11) (v := .ref cd) (C := RX11) (T := TX11) (N := 13) hx hb hts i_v_c_compile_X11 hown hK hP 0 rfl rfl 2 (by decide) (hts (.fieldLink RX11 28 "ScheduleHouse" "code" "LScheduleHouse$Code;") (by decide +kernel)) (fun _ h9 => h9) gfs16_2 dX11_compile_137 ?_
  refine va_get (D := D) (ci := 0) (v := .int 0) (C := RX0) (T := TX0) (N := 18) hx hb hts i_v_c_compile_X0 hown hK hP 7 rfl rfl 10 (by decide) (hts (.fieldLink RX11 124 "ScheduleHouse$Code" "threads" "I") (by decide +kernel)) (fun _ h9 => h9) v9_10 dX11_compile_140 ?_
  exact W.iret (v := 0) hx hb hr (fun t ht hW => ⟨⟨0, (), rfl, rfl, trivial⟩, hS.F ht⟩) hS.2.2 dX11_compile_143
