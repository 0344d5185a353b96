set_option maxHeartbeats 4000000 in
set_option maxRecDepth 100000 in
/-- needRun(): there is no run: IllegalStateException -/
theorem c_needRun (l : Launch) (hlt : l.stackTraces = false) (D : va_G) (h0 : Nat) (sz : Nat) (xfs : List Value) (hrun : xfs[10]? = some (.int 0)) : vx_Met l yX11_needRun wsX11_needRun ({ frames := 6, cells := 1, slots := 6, locals := 100 }) (va_Pc [.ref h0] (st_ D [(h0, .inr (11, xfs))] [] sz)) (va_Qv (fun _ : Unit => False) (fun _ _ => True) (va_A [(h0, .inr (11, xfs))] sz)) (vx_X (fun _ : Unit => True) (fun E _ _ => E = iSE) (va_A [(h0, .inr (11, xfs))] sz)) 1 6 (va_A [(h0, .inr (11, xfs))] sz) := by
  refine vx_ofW (cc := cX11_needRun) (maxL := 1) (ret := none) (by decide) rfl ?_
  intro p e s m args below meth c s₁ B hml hno hv
  obtain ⟨rfl, hsz, hP, hK, hD0, hZ, hE⟩ := hv
  have hx := B.exec
  have hb := B.bytes
  have hts := atoms_spec (ws := wsX11_needRun) B.pre
  have hown : s.vm.findClass RX11 = some m.cls := findClass_of_methodNamed B.named
  have hlocks := B.notSynchronized
  subst hsz
  have hD := hD0.self (sz := s.heap.size)
  generalize hAe : va_A [(h0, .inr (11, xfs))] s.heap.size = A at hD hZ ⊢
  have hS : va_S A s.heap s.heap [] := va_S.rf
  have hl := lv_entry ([.ref h0]) (n := 1) (Nat.le_of_ble_eq_true rfl)
  rw [lg_entry_eq]
  generalize (lg_sl ([.ref h0]) ++ List.replicate (1 - (lg_sl ([.ref h0])).length) Slot.unset).toArray = ls at hl ⊢
  have hl : lv_has ls 1 [(0, .ref h0)] := hl
  refine lv_aload_n hx hb dX11_needRun_0 rfl (lv_at hl 0 rfl) ?_
  refine va_get (D := D) (ci := 11) (v := .int 0) (C := RX11) (T := TX11) (N := 13) hx hb hts (by decide +kernel) hown hK hP 0 rfl rfl 10 (by decide) (hts (.fieldLink RX11 358 "ScheduleHouse" "running" "Z") (by decide +kernel)) (fun _ h9 => h9) hrun dX11_needRun_1 ?_
  refine lv_if_ne (tgt := 18) hx hb dX11_needRun_4 (by decide) (fun c9 => absurd rfl c9) (fun _ => ?_)
  obtain ⟨sa, hsa⟩ := ev_text hE 386 "there is no run" (by decide)
  exact vx_throwSW hx hb hlt (own := RX11) (cls := iSE) (text := "there is no run") (names := up2) (ik := 102) (is := 386) (ic := 191) (sa := sa) (A := A) hown (by decide +kernel) (by decide +kernel) (hts (.classLink RX11 102 iSE) (by decide +kernel)) (hts (.initialized iSE) (by decide +kernel)) hsa (vx_hat (B := ev_B iSE) (fun w hw => hts w (List.mem_cons_of_mem _ (List.mem_append_right _ hw))) (by decide +kernel) (ev_b hE iSE (by decide))) (by decide +kernel) hZ.1 hZ.2 hS (by rw [hml]; exact hl.1) dX11_needRun_7 dX11_needRun_10 dX11_needRun_11 dX11_needRun_14 dX11_needRun_17 (fun x hx => (hno x hx).elim) (by decide) (by decide) (by decide) (by decide) hlocks (fun t _ hz hk => ⟨(), trivial, rfl, hz, fun q h1 _ => hk q h1⟩) (fun z hz => by cases hz) (by decide) (by decide)
