set_option maxRecDepth 100000 in
set_option maxHeartbeats 4000000 in
theorem lc_10 {p : Program} {e : Env} {s : State} {m : MethodId} {args : Array Value} {below : List Frame} {meth : Method} {c : Code} {H : Heap} {locs : List Loc} {Q : State → Prop} {ls : Array Slot} {A : Nat → Prop} {G : kG} {x w : gd} {q : kP} {x0 m0 o0 b L k : Nat} {xs : Nat → Int32} {i : Int32} (C : gC (wE (kE G)) 1000 yLaw p room_1 s m args meth c A) (hX : va_X b L xs s s.heap) (hbl : b < s.heap.size) (hbA : ¬ A b) (hI : LI G A H x q w x0 m0 o0) (hJ : LJ k x q w) (hk : k < 64) (hS : va_S A s.heap H locs) (v1 : vp_in (i + 1) L) (v2 : vp_in (i + 2) L) (v3 : vp_in (i + 3) L) (hl : lv_has ls 7 [(4, .int i), (3, .ref o0), (2, .ref m0), (1, .ref x0), (0, .ref b)]) (kk : ∀ (x1 : gd) (q1 : kP) (w1 : gd) (H1 : Heap) (locs1 : List Loc) (ls1 : Array Slot), LI G A H1 x1 q1 w1 x0 m0 o0 → LJ (k + 1) x1 q1 w1 → va_S A s.heap H1 locs1 → lv_has ls1 7 [(4, .int i), (3, .ref o0), (2, .ref m0), (1, .ref x0), (0, .ref b)] → W p G.1 e room_1 s m args below meth c H1 locs1 (q1.ce + 200) (q1.sl + 960000) Q (F0 m 1187 ls1 [])) : W p G.1 e room_1 s m args below meth c H locs (q.ce + 200) (q.sl + 960000) Q (F0 m 474 ls []) := by
  have hx := C.1.1
  have hb : c.code = cL_law := C.1.2.1
  obtain ⟨hu, hH, hm, el, b1, b2⟩ := id hJ
  obtain ⟨C9, wr, n9, lm, hj⟩ := el
  have el := JH_J hj
  refine lv_aload_n hx hb dlw_474 rfl (lv_at hl 3 rfl) ?_
  refine lv_aload_n hx hb dlw_475 rfl (lv_at hl 4 rfl) ?_
  refine lv_iload hx hb dlw_476 (lv_at hl 0 rfl) ?_
  refine lv_iconst (v := 1) hx hb dlw_478 (by decide +kernel) ?_
  refine lv_iadd hx hb dlw_479 ?_
  refine va_sld hx hb hX hbl hbA hS (i := i + 1) v1 dlw_480 ?_
  refine lv_aload_n hx hb dlw_481 rfl (lv_at hl 1 rfl) ?_
  refine LI_S C hI hu hS hl.1 [vi (xs (i + 1).toNatClampNeg)] [.int (xs (i + 1).toNatClampNeg)] (fun _ => rfl) dlw_482 wcs_143 rfl (by intro h; cases h) (Nat.le_of_ble_eq_true rfl) (kw_again (d := 870) hj hu hH (xs (i + 1).toNatClampNeg)) (LJ_room hJ hk) (fun r1 x1 q1 H1 locs1 hI hu1 hk1 hH1 hp1 hS => ?_)
  refine lv_istore (lv' := (5, .int r1) :: [(4, .int i), (3, .ref o0), (2, .ref m0), (1, .ref x0), (0, .ref b)]) hx hb dlw_485 hl (by decide) rfl (fun ls hl => ?_)
  refine lv_aload_n hx hb dlw_487 rfl (lv_at hl 3 rfl) ?_
  refine lv_aload_n hx hb dlw_488 rfl (lv_at hl 5 rfl) ?_
  refine lv_iload hx hb dlw_489 (lv_at hl 1 rfl) ?_
  refine lv_iconst (v := 1) hx hb dlw_491 (by decide +kernel) ?_
  refine lv_iadd hx hb dlw_492 ?_
  refine va_sld hx hb hX hbl hbA hS (i := i + 1) v1 dlw_493 ?_
  refine LI_M C hI hS hl.1 (restv := []) (d1 := 900) (F := fun r9 w1 => ansM C9 wr (f1Ch w) (f2Ag w (xs (i + 1).toNatClampNeg)) (tAg C9 wr w (xs (i + 1).toNatClampNeg)) w r9 w1) [vi (xs (i + 1).toNatClampNeg)] [.int (xs (i + 1).toNatClampNeg)] (fun _ => rfl) dlw_494 wcm_145 rfl rfl (Nat.le_of_ble_eq_true rfl) (by decide) (by omega) (ma_again hj hm (xs (i + 1).toNatClampNeg) (by omega) (fun _ _ h1 => h1)) ⟨(LJ_room hJ hk q1 hu1 hk1).1, (LJ_room hJ hk q1 hu1 hk1).2⟩ (fun r2 w1 H1 locs1 hI hpm hS => ?_)
  have hj2 := ja_again hj hH1 hp1 hpm
  refine lv_istore (lv' := (6, .int r2) :: (5, .int r1) :: [(4, .int i), (3, .ref o0), (2, .ref m0), (1, .ref x0), (0, .ref b)]) hx hb dlw_497 hl (by decide) rfl (fun ls hl => ?_)
  refine lv_goto (tgt := 1187) hx hb dlw_499 (by decide) ?_
  exact kk x1 q1 w1 H1 locs1 ls hI (LJ_next hJ hu1 hk1 hH1 hpm.1 hj2.1) hS (lv_tl (lv_tl hl))
set_option maxRecDepth 100000 in
set_option maxHeartbeats 4000000 in
theorem lc_11 {p : Program} {e : Env} {s : State} {m : MethodId} {args : Array Value} {below : List Frame} {meth : Method} {c : Code} {H : Heap} {locs : List Loc} {Q : State → Prop} {ls : Array Slot} {A : Nat → Prop} {G : kG} {x w : gd} {q : kP} {x0 m0 o0 b L k : Nat} {xs : Nat → Int32} {i : Int32} (C : gC (wE (kE G)) 1000 yLaw p room_1 s m args meth c A) (hX : va_X b L xs s s.heap) (hbl : b < s.heap.size) (hbA : ¬ A b) (hI : LI G A H x q w x0 m0 o0) (hJ : LJ k x q w) (hk : k < 64) (hS : va_S A s.heap H locs) (v1 : vp_in (i + 1) L) (v2 : vp_in (i + 2) L) (v3 : vp_in (i + 3) L) (hl : lv_has ls 7 [(4, .int i), (3, .ref o0), (2, .ref m0), (1, .ref x0), (0, .ref b)]) (kk : ∀ (x1 : gd) (q1 : kP) (w1 : gd) (H1 : Heap) (locs1 : List Loc) (ls1 : Array Slot), LI G A H1 x1 q1 w1 x0 m0 o0 → LJ (k + 1) x1 q1 w1 → va_S A s.heap H1 locs1 → lv_has ls1 7 [(4, .int i), (3, .ref o0), (2, .ref m0), (1, .ref x0), (0, .ref b)] → W p G.1 e room_1 s m args below meth c H1 locs1 (q1.ce + 200) (q1.sl + 960000) Q (F0 m 1187 ls1 [])) : W p G.1 e room_1 s m args below meth c H locs (q.ce + 200) (q.sl + 960000) Q (F0 m 502 ls []) := by
  have hx := C.1.1
  have hb : c.code = cL_law := C.1.2.1
  obtain ⟨hu, hH, hm, el, b1, b2⟩ := id hJ
  obtain ⟨C9, wr, n9, lm, hj⟩ := el
  have el := JH_J hj
  refine lv_aload_n hx hb dlw_502 rfl (lv_at hl 3 rfl) ?_
  refine lv_aload_n hx hb dlw_503 rfl (lv_at hl 4 rfl) ?_
  refine lv_iload hx hb dlw_504 (lv_at hl 0 rfl) ?_
  refine lv_iconst (v := 1) hx hb dlw_506 (by decide +kernel) ?_
  refine lv_iadd hx hb dlw_507 ?_
  refine va_sld hx hb hX hbl hbA hS (i := i + 1) v1 dlw_508 ?_
  refine lv_aload_n hx hb dlw_509 rfl (lv_at hl 1 rfl) ?_
  refine LI_S C hI hu hS hl.1 [vi (xs (i + 1).toNatClampNeg)] [.int (xs (i + 1).toNatClampNeg)] (fun _ => rfl) dlw_510 wcs_146 rfl (by intro h; cases h) (Nat.le_of_ble_eq_true rfl) (kw_run (d := 870) hu hH (xs (i + 1).toNatClampNeg)) (LJ_room hJ hk) (fun r1 x1 q1 H1 locs1 hI hu1 hk1 hH1 hp1 hS => ?_)
  refine lv_istore (lv' := (5, .int r1) :: [(4, .int i), (3, .ref o0), (2, .ref m0), (1, .ref x0), (0, .ref b)]) hx hb dlw_513 hl (by decide) rfl (fun ls hl => ?_)
  refine lv_aload_n hx hb dlw_515 rfl (lv_at hl 3 rfl) ?_
  refine lv_aload_n hx hb dlw_516 rfl (lv_at hl 5 rfl) ?_
  refine lv_iload hx hb dlw_517 (lv_at hl 1 rfl) ?_
  refine lv_iconst (v := 1) hx hb dlw_519 (by decide +kernel) ?_
  refine lv_iadd hx hb dlw_520 ?_
  refine va_sld hx hb hX hbl hbA hS (i := i + 1) v1 dlw_521 ?_
  refine LI_M C hI hS hl.1 (restv := []) (d1 := 900) (F := fun _ w1 => rdM C9 wr w w1) [vi (xs (i + 1).toNatClampNeg)] [.int (xs (i + 1).toNatClampNeg)] (fun _ => rfl) dlw_522 wcm_148 rfl rfl (Nat.le_of_ble_eq_true rfl) (by decide) (by omega) (sr_run hm (xs (i + 1).toNatClampNeg) (by omega) (fun _ _ h => h)) ⟨(LJ_room hJ hk q1 hu1 hk1).1, (LJ_room hJ hk q1 hu1 hk1).2⟩ (fun r2 w1 H1 locs1 hI hpm hS => ?_)
  refine lv_istore (lv' := (6, .int r2) :: (5, .int r1) :: [(4, .int i), (3, .ref o0), (2, .ref m0), (1, .ref x0), (0, .ref b)]) hx hb dlw_525 hl (by decide) rfl (fun ls hl => ?_)
  refine lv_goto (tgt := 1187) hx hb dlw_527 (by decide) ?_
  exact kk x1 q1 w1 H1 locs1 ls hI (LJ_next hJ hu1 hk1 hH1 hpm.1.1 (JQ_rd hj hH1 hp1 hpm)) hS (lv_tl (lv_tl hl))
set_option maxRecDepth 100000 in
set_option maxHeartbeats 4000000 in
theorem lc_12 {p : Program} {e : Env} {s : State} {m : MethodId} {args : Array Value} {below : List Frame} {meth : Method} {c : Code} {H : Heap} {locs : List Loc} {Q : State → Prop} {ls : Array Slot} {A : Nat → Prop} {G : kG} {x w : gd} {q : kP} {x0 m0 o0 b L k : Nat} {xs : Nat → Int32} {i : Int32} (C : gC (wE (kE G)) 1000 yLaw p room_1 s m args meth c A) (hX : va_X b L xs s s.heap) (hbl : b < s.heap.size) (hbA : ¬ A b) (hI : LI G A H x q w x0 m0 o0) (hJ : LJ k x q w) (hk : k < 64) (hS : va_S A s.heap H locs) (v1 : vp_in (i + 1) L) (v2 : vp_in (i + 2) L) (v3 : vp_in (i + 3) L) (hl : lv_has ls 7 [(4, .int i), (3, .ref o0), (2, .ref m0), (1, .ref x0), (0, .ref b)]) (kk : ∀ (x1 : gd) (q1 : kP) (w1 : gd) (H1 : Heap) (locs1 : List Loc) (ls1 : Array Slot), LI G A H1 x1 q1 w1 x0 m0 o0 → LJ (k + 1) x1 q1 w1 → va_S A s.heap H1 locs1 → lv_has ls1 7 [(4, .int i), (3, .ref o0), (2, .ref m0), (1, .ref x0), (0, .ref b)] → W p G.1 e room_1 s m args below meth c H1 locs1 (q1.ce + 200) (q1.sl + 960000) Q (F0 m 1187 ls1 [])) : W p G.1 e room_1 s m args below meth c H locs (q.ce + 200) (q.sl + 960000) Q (F0 m 530 ls []) := by
  have hx := C.1.1
  have hb : c.code = cL_law := C.1.2.1
  obtain ⟨hu, hH, hm, el, b1, b2⟩ := id hJ
  obtain ⟨C9, wr, n9, lm, hj⟩ := el
  have el := JH_J hj
  refine lv_aload_n hx hb dlw_530 rfl (lv_at hl 3 rfl) ?_
  refine lv_aload_n hx hb dlw_531 rfl (lv_at hl 4 rfl) ?_
  refine lv_iload hx hb dlw_532 (lv_at hl 0 rfl) ?_
  refine lv_iconst (v := 1) hx hb dlw_534 (by decide +kernel) ?_
  refine lv_iadd hx hb dlw_535 ?_
  refine va_sld hx hb hX hbl hbA hS (i := i + 1) v1 dlw_536 ?_
  refine lv_aload_n hx hb dlw_537 rfl (lv_at hl 1 rfl) ?_
  refine LI_S C hI hu hS hl.1 [vi (xs (i + 1).toNatClampNeg)] [.int (xs (i + 1).toNatClampNeg)] (fun _ => rfl) dlw_538 wcs_149 rfl (by intro h; cases h) (Nat.le_of_ble_eq_true rfl) (kw_cell (d := 870) hj hu hH (xs (i + 1).toNatClampNeg)) (LJ_room hJ hk) (fun r1 x1 q1 H1 locs1 hI hu1 hk1 hH1 hp1 hS => ?_)
  refine lv_istore (lv' := (5, .int r1) :: [(4, .int i), (3, .ref o0), (2, .ref m0), (1, .ref x0), (0, .ref b)]) hx hb dlw_541 hl (by decide) rfl (fun ls hl => ?_)
  refine lv_aload_n hx hb dlw_543 rfl (lv_at hl 3 rfl) ?_
  refine lv_aload_n hx hb dlw_544 rfl (lv_at hl 5 rfl) ?_
  refine lv_iload hx hb dlw_545 (lv_at hl 1 rfl) ?_
  refine lv_iconst (v := 1) hx hb dlw_547 (by decide +kernel) ?_
  refine lv_iadd hx hb dlw_548 ?_
  refine va_sld hx hb hX hbl hbA hS (i := i + 1) v1 dlw_549 ?_
  refine LI_M C hI hS hl.1 (restv := []) (d1 := 900) (F := fun r9 w1 => ansM C9 wr (f1Ch w) (f2Ce w (xs (i + 1).toNatClampNeg)) (tCe C9 wr n9 w (xs (i + 1).toNatClampNeg)) w r9 w1) [vi (xs (i + 1).toNatClampNeg)] [.int (xs (i + 1).toNatClampNeg)] (fun _ => rfl) dlw_550 wcm_151 rfl rfl (Nat.le_of_ble_eq_true rfl) (by decide) (by omega) (ma_cell hj hH hm (xs (i + 1).toNatClampNeg) (by omega) (fun _ _ h1 => h1)) ⟨(LJ_room hJ hk q1 hu1 hk1).1, (LJ_room hJ hk q1 hu1 hk1).2⟩ (fun r2 w1 H1 locs1 hI hpm hS => ?_)
  have hj2 := ja_cell hj hH1 hp1 hpm
  refine lv_istore (lv' := (6, .int r2) :: (5, .int r1) :: [(4, .int i), (3, .ref o0), (2, .ref m0), (1, .ref x0), (0, .ref b)]) hx hb dlw_553 hl (by decide) rfl (fun ls hl => ?_)
  refine lv_goto (tgt := 1187) hx hb dlw_555 (by decide) ?_
  exact kk x1 q1 w1 H1 locs1 ls hI (LJ_next hJ hu1 hk1 hH1 hpm.1 hj2.1) hS (lv_tl (lv_tl hl))
set_option maxRecDepth 100000 in
set_option maxHeartbeats 4000000 in
theorem lc_13 {p : Program} {e : Env} {s : State} {m : MethodId} {args : Array Value} {below : List Frame} {meth : Method} {c : Code} {H : Heap} {locs : List Loc} {Q : State → Prop} {ls : Array Slot} {A : Nat → Prop} {G : kG} {x w : gd} {q : kP} {x0 m0 o0 b L k : Nat} {xs : Nat → Int32} {i : Int32} (C : gC (wE (kE G)) 1000 yLaw p room_1 s m args meth c A) (hX : va_X b L xs s s.heap) (hbl : b < s.heap.size) (hbA : ¬ A b) (hI : LI G A H x q w x0 m0 o0) (hJ : LJ k x q w) (hk : k < 64) (hS : va_S A s.heap H locs) (v1 : vp_in (i + 1) L) (v2 : vp_in (i + 2) L) (v3 : vp_in (i + 3) L) (hl : lv_has ls 7 [(4, .int i), (3, .ref o0), (2, .ref m0), (1, .ref x0), (0, .ref b)]) (kk : ∀ (x1 : gd) (q1 : kP) (w1 : gd) (H1 : Heap) (locs1 : List Loc) (ls1 : Array Slot), LI G A H1 x1 q1 w1 x0 m0 o0 → LJ (k + 1) x1 q1 w1 → va_S A s.heap H1 locs1 → lv_has ls1 7 [(4, .int i), (3, .ref o0), (2, .ref m0), (1, .ref x0), (0, .ref b)] → W p G.1 e room_1 s m args below meth c H1 locs1 (q1.ce + 200) (q1.sl + 960000) Q (F0 m 1187 ls1 [])) : W p G.1 e room_1 s m args below meth c H locs (q.ce + 200) (q.sl + 960000) Q (F0 m 558 ls []) := by
  have hx := C.1.1
  have hb : c.code = cL_law := C.1.2.1
  obtain ⟨hu, hH, hm, el, b1, b2⟩ := id hJ
  obtain ⟨C9, wr, n9, lm, hj⟩ := el
  have el := JH_J hj
  refine lv_aload_n hx hb dlw_558 rfl (lv_at hl 3 rfl) ?_
  refine lv_aload_n hx hb dlw_559 rfl (lv_at hl 4 rfl) ?_
  refine lv_iload hx hb dlw_560 (lv_at hl 0 rfl) ?_
  refine lv_iconst (v := 1) hx hb dlw_562 (by decide +kernel) ?_
  refine lv_iadd hx hb dlw_563 ?_
  refine va_sld hx hb hX hbl hbA hS (i := i + 1) v1 dlw_564 ?_
  refine lv_aload_n hx hb dlw_565 rfl (lv_at hl 4 rfl) ?_
  refine lv_iload hx hb dlw_566 (lv_at hl 0 rfl) ?_
  refine lv_iconst (v := 2) hx hb dlw_568 (by decide +kernel) ?_
  refine lv_iadd hx hb dlw_569 ?_
  refine va_sld hx hb hX hbl hbA hS (i := i + 2) v2 dlw_570 ?_
  refine lv_aload_n hx hb dlw_571 rfl (lv_at hl 1 rfl) ?_
  refine LI_S C hI hu hS hl.1 [vi (xs (i + 1).toNatClampNeg), vi (xs (i + 2).toNatClampNeg)] [.int (xs (i + 1).toNatClampNeg), .int (xs (i + 2).toNatClampNeg)] (fun _ => rfl) dlw_572 wcs_152 rfl (by intro h; cases h) (Nat.le_of_ble_eq_true rfl) (kw_seen (d := 870) hj hu hH (xs (i + 1).toNatClampNeg) (xs (i + 2).toNatClampNeg)) (LJ_room hJ hk) (fun r1 x1 q1 H1 locs1 hI hu1 hk1 hH1 hp1 hS => ?_)
  refine lv_istore (lv' := (5, .int r1) :: [(4, .int i), (3, .ref o0), (2, .ref m0), (1, .ref x0), (0, .ref b)]) hx hb dlw_575 hl (by decide) rfl (fun ls hl => ?_)
  refine lv_aload_n hx hb dlw_577 rfl (lv_at hl 3 rfl) ?_
  refine lv_aload_n hx hb dlw_578 rfl (lv_at hl 5 rfl) ?_
  refine lv_iload hx hb dlw_579 (lv_at hl 1 rfl) ?_
  refine lv_iconst (v := 1) hx hb dlw_581 (by decide +kernel) ?_
  refine lv_iadd hx hb dlw_582 ?_
  refine va_sld hx hb hX hbl hbA hS (i := i + 1) v1 dlw_583 ?_
  refine lv_aload_n hx hb dlw_584 rfl (lv_at hl 5 rfl) ?_
  refine lv_iload hx hb dlw_585 (lv_at hl 1 rfl) ?_
  refine lv_iconst (v := 2) hx hb dlw_587 (by decide +kernel) ?_
  refine lv_iadd hx hb dlw_588 ?_
  refine va_sld hx hb hX hbl hbA hS (i := i + 2) v2 dlw_589 ?_
  refine LI_M C hI hS hl.1 (restv := []) (d1 := 900) (F := fun r9 w1 => ansM C9 wr (f1Ch w) (f2Se w (xs (i + 1).toNatClampNeg) (xs (i + 2).toNatClampNeg)) (tSe C9 wr n9 w (xs (i + 1).toNatClampNeg) (xs (i + 2).toNatClampNeg)) w r9 w1) [vi (xs (i + 1).toNatClampNeg), vi (xs (i + 2).toNatClampNeg)] [.int (xs (i + 1).toNatClampNeg), .int (xs (i + 2).toNatClampNeg)] (fun _ => rfl) dlw_590 wcm_154 rfl rfl (Nat.le_of_ble_eq_true rfl) (by decide) (by omega) (ma_seen hj hH hm (xs (i + 1).toNatClampNeg) (xs (i + 2).toNatClampNeg) (by omega) (fun _ _ h1 => h1)) ⟨(LJ_room hJ hk q1 hu1 hk1).1, (LJ_room hJ hk q1 hu1 hk1).2⟩ (fun r2 w1 H1 locs1 hI hpm hS => ?_)
  have hj2 := ja_seen hj hH1 hp1 hpm
  refine lv_istore (lv' := (6, .int r2) :: (5, .int r1) :: [(4, .int i), (3, .ref o0), (2, .ref m0), (1, .ref x0), (0, .ref b)]) hx hb dlw_593 hl (by decide) rfl (fun ls hl => ?_)
  refine lv_goto (tgt := 1187) hx hb dlw_595 (by decide) ?_
  exact kk x1 q1 w1 H1 locs1 ls hI (LJ_next hJ hu1 hk1 hH1 hpm.1 hj2.1) hS (lv_tl (lv_tl hl))
set_option maxRecDepth 100000 in
set_option maxHeartbeats 4000000 in
theorem lc_14 {p : Program} {e : Env} {s : State} {m : MethodId} {args : Array Value} {below : List Frame} {meth : Method} {c : Code} {H : Heap} {locs : List Loc} {Q : State → Prop} {ls : Array Slot} {A : Nat → Prop} {G : kG} {x w : gd} {q : kP} {x0 m0 o0 b L k : Nat} {xs : Nat → Int32} {i : Int32} (C : gC (wE (kE G)) 1000 yLaw p room_1 s m args meth c A) (hX : va_X b L xs s s.heap) (hbl : b < s.heap.size) (hbA : ¬ A b) (hI : LI G A H x q w x0 m0 o0) (hJ : LJ k x q w) (hk : k < 64) (hS : va_S A s.heap H locs) (v1 : vp_in (i + 1) L) (v2 : vp_in (i + 2) L) (v3 : vp_in (i + 3) L) (hl : lv_has ls 7 [(4, .int i), (3, .ref o0), (2, .ref m0), (1, .ref x0), (0, .ref b)]) (kk : ∀ (x1 : gd) (q1 : kP) (w1 : gd) (H1 : Heap) (locs1 : List Loc) (ls1 : Array Slot), LI G A H1 x1 q1 w1 x0 m0 o0 → LJ (k + 1) x1 q1 w1 → va_S A s.heap H1 locs1 → lv_has ls1 7 [(4, .int i), (3, .ref o0), (2, .ref m0), (1, .ref x0), (0, .ref b)] → W p G.1 e room_1 s m args below meth c H1 locs1 (q1.ce + 200) (q1.sl + 960000) Q (F0 m 1187 ls1 [])) : W p G.1 e room_1 s m args below meth c H locs (q.ce + 200) (q.sl + 960000) Q (F0 m 598 ls []) := by
  have hx := C.1.1
  have hb : c.code = cL_law := C.1.2.1
  obtain ⟨hu, hH, hm, el, b1, b2⟩ := id hJ
  obtain ⟨C9, wr, n9, lm, hj⟩ := el
  have el := JH_J hj
  refine lv_aload_n hx hb dlw_598 rfl (lv_at hl 3 rfl) ?_
  refine lv_aload_n hx hb dlw_599 rfl (lv_at hl 4 rfl) ?_
  refine lv_iload hx hb dlw_600 (lv_at hl 0 rfl) ?_
  refine lv_iconst (v := 1) hx hb dlw_602 (by decide +kernel) ?_
  refine lv_iadd hx hb dlw_603 ?_
  refine va_sld hx hb hX hbl hbA hS (i := i + 1) v1 dlw_604 ?_
  refine lv_aload_n hx hb dlw_605 rfl (lv_at hl 4 rfl) ?_
  refine lv_iload hx hb dlw_606 (lv_at hl 0 rfl) ?_
  refine lv_iconst (v := 2) hx hb dlw_608 (by decide +kernel) ?_
  refine lv_iadd hx hb dlw_609 ?_
  refine va_sld hx hb hX hbl hbA hS (i := i + 2) v2 dlw_610 ?_
  refine lv_aload_n hx hb dlw_611 rfl (lv_at hl 1 rfl) ?_
  refine LI_S C hI hu hS hl.1 [vi (xs (i + 1).toNatClampNeg), vi (xs (i + 2).toNatClampNeg)] [.int (xs (i + 1).toNatClampNeg), .int (xs (i + 2).toNatClampNeg)] (fun _ => rfl) dlw_612 wcs_155 rfl (by intro h; cases h) (Nat.le_of_ble_eq_true rfl) (kw_lock (d := 870) hu hH (xs (i + 1).toNatClampNeg) (xs (i + 2).toNatClampNeg)) (LJ_room hJ hk) (fun r1 x1 q1 H1 locs1 hI hu1 hk1 hH1 hp1 hS => ?_)
  refine lv_istore (lv' := (5, .int r1) :: [(4, .int i), (3, .ref o0), (2, .ref m0), (1, .ref x0), (0, .ref b)]) hx hb dlw_615 hl (by decide) rfl (fun ls hl => ?_)
  refine lv_aload_n hx hb dlw_617 rfl (lv_at hl 3 rfl) ?_
  refine lv_aload_n hx hb dlw_618 rfl (lv_at hl 5 rfl) ?_
  refine lv_iload hx hb dlw_619 (lv_at hl 1 rfl) ?_
  refine lv_iconst (v := 1) hx hb dlw_621 (by decide +kernel) ?_
  refine lv_iadd hx hb dlw_622 ?_
  refine va_sld hx hb hX hbl hbA hS (i := i + 1) v1 dlw_623 ?_
  refine lv_aload_n hx hb dlw_624 rfl (lv_at hl 5 rfl) ?_
  refine lv_iload hx hb dlw_625 (lv_at hl 1 rfl) ?_
  refine lv_iconst (v := 2) hx hb dlw_627 (by decide +kernel) ?_
  refine lv_iadd hx hb dlw_628 ?_
  refine va_sld hx hb hX hbl hbA hS (i := i + 2) v2 dlw_629 ?_
  refine LI_M C hI hS hl.1 (restv := []) (d1 := 900) (F := fun _ w1 => rdM C9 wr w w1) [vi (xs (i + 1).toNatClampNeg), vi (xs (i + 2).toNatClampNeg)] [.int (xs (i + 1).toNatClampNeg), .int (xs (i + 2).toNatClampNeg)] (fun _ => rfl) dlw_630 wcm_157 rfl rfl (Nat.le_of_ble_eq_true rfl) (by decide) (by omega) (sr_lock hm (xs (i + 1).toNatClampNeg) (xs (i + 2).toNatClampNeg) (by omega) (fun _ _ h => h)) ⟨(LJ_room hJ hk q1 hu1 hk1).1, (LJ_room hJ hk q1 hu1 hk1).2⟩ (fun r2 w1 H1 locs1 hI hpm hS => ?_)
  refine lv_istore (lv' := (6, .int r2) :: (5, .int r1) :: [(4, .int i), (3, .ref o0), (2, .ref m0), (1, .ref x0), (0, .ref b)]) hx hb dlw_633 hl (by decide) rfl (fun ls hl => ?_)
  refine lv_goto (tgt := 1187) hx hb dlw_635 (by decide) ?_
  exact kk x1 q1 w1 H1 locs1 ls hI (LJ_next hJ hu1 hk1 hH1 hpm.1.1 (JQ_rd hj hH1 hp1 hpm)) hS (lv_tl (lv_tl hl))
set_option maxRecDepth 100000 in
set_option maxHeartbeats 4000000 in
theorem lc_15 {p : Program} {e : Env} {s : State} {m : MethodId} {args : Array Value} {below : List Frame} {meth : Method} {c : Code} {H : Heap} {locs : List Loc} {Q : State → Prop} {ls : Array Slot} {A : Nat → Prop} {G : kG} {x w : gd} {q : kP} {x0 m0 o0 b L k : Nat} {xs : Nat → Int32} {i : Int32} (C : gC (wE (kE G)) 1000 yLaw p room_1 s m args meth c A) (hX : va_X b L xs s s.heap) (hbl : b < s.heap.size) (hbA : ¬ A b) (hI : LI G A H x q w x0 m0 o0) (hJ : LJ k x q w) (hk : k < 64) (hS : va_S A s.heap H locs) (v1 : vp_in (i + 1) L) (v2 : vp_in (i + 2) L) (v3 : vp_in (i + 3) L) (hl : lv_has ls 7 [(4, .int i), (3, .ref o0), (2, .ref m0), (1, .ref x0), (0, .ref b)]) (kk : ∀ (x1 : gd) (q1 : kP) (w1 : gd) (H1 : Heap) (locs1 : List Loc) (ls1 : Array Slot), LI G A H1 x1 q1 w1 x0 m0 o0 → LJ (k + 1) x1 q1 w1 → va_S A s.heap H1 locs1 → lv_has ls1 7 [(4, .int i), (3, .ref o0), (2, .ref m0), (1, .ref x0), (0, .ref b)] → W p G.1 e room_1 s m args below meth c H1 locs1 (q1.ce + 200) (q1.sl + 960000) Q (F0 m 1187 ls1 [])) : W p G.1 e room_1 s m args below meth c H locs (q.ce + 200) (q.sl + 960000) Q (F0 m 638 ls []) := by
  have hx := C.1.1
  have hb : c.code = cL_law := C.1.2.1
  obtain ⟨hu, hH, hm, el, b1, b2⟩ := id hJ
  obtain ⟨C9, wr, n9, lm, hj⟩ := el
  have el := JH_J hj
  refine lv_aload_n hx hb dlw_638 rfl (lv_at hl 3 rfl) ?_
  refine lv_aload_n hx hb dlw_639 rfl (lv_at hl 4 rfl) ?_
  refine lv_iload hx hb dlw_640 (lv_at hl 0 rfl) ?_
  refine lv_iconst (v := 1) hx hb dlw_642 (by decide +kernel) ?_
  refine lv_iadd hx hb dlw_643 ?_
  refine va_sld hx hb hX hbl hbA hS (i := i + 1) v1 dlw_644 ?_
  refine lv_aload_n hx hb dlw_645 rfl (lv_at hl 4 rfl) ?_
  refine lv_iload hx hb dlw_646 (lv_at hl 0 rfl) ?_
  refine lv_iconst (v := 2) hx hb dlw_648 (by decide +kernel) ?_
  refine lv_iadd hx hb dlw_649 ?_
  refine va_sld hx hb hX hbl hbA hS (i := i + 2) v2 dlw_650 ?_
  refine lv_aload_n hx hb dlw_651 rfl (lv_at hl 1 rfl) ?_
  refine LI_S C hI hu hS hl.1 [vi (xs (i + 1).toNatClampNeg), vi (xs (i + 2).toNatClampNeg)] [.int (xs (i + 1).toNatClampNeg), .int (xs (i + 2).toNatClampNeg)] (fun _ => rfl) dlw_652 wcs_158 rfl (by intro h; cases h) (Nat.le_of_ble_eq_true rfl) (kw_thread (d := 870) hu hH (xs (i + 1).toNatClampNeg) (xs (i + 2).toNatClampNeg)) (LJ_room hJ hk) (fun r1 x1 q1 H1 locs1 hI hu1 hk1 hH1 hp1 hS => ?_)
  refine lv_istore (lv' := (5, .int r1) :: [(4, .int i), (3, .ref o0), (2, .ref m0), (1, .ref x0), (0, .ref b)]) hx hb dlw_655 hl (by decide) rfl (fun ls hl => ?_)
  refine lv_aload_n hx hb dlw_657 rfl (lv_at hl 3 rfl) ?_
  refine lv_aload_n hx hb dlw_658 rfl (lv_at hl 5 rfl) ?_
  refine lv_iload hx hb dlw_659 (lv_at hl 1 rfl) ?_
  refine lv_iconst (v := 1) hx hb dlw_661 (by decide +kernel) ?_
  refine lv_iadd hx hb dlw_662 ?_
  refine va_sld hx hb hX hbl hbA hS (i := i + 1) v1 dlw_663 ?_
  refine lv_aload_n hx hb dlw_664 rfl (lv_at hl 5 rfl) ?_
  refine lv_iload hx hb dlw_665 (lv_at hl 1 rfl) ?_
  refine lv_iconst (v := 2) hx hb dlw_667 (by decide +kernel) ?_
  refine lv_iadd hx hb dlw_668 ?_
  refine va_sld hx hb hX hbl hbA hS (i := i + 2) v2 dlw_669 ?_
  refine LI_M C hI hS hl.1 (restv := []) (d1 := 900) (F := fun _ w1 => rdM C9 wr w w1) [vi (xs (i + 1).toNatClampNeg), vi (xs (i + 2).toNatClampNeg)] [.int (xs (i + 1).toNatClampNeg), .int (xs (i + 2).toNatClampNeg)] (fun _ => rfl) dlw_670 wcm_160 rfl rfl (Nat.le_of_ble_eq_true rfl) (by decide) (by omega) (sr_thread hm (xs (i + 1).toNatClampNeg) (xs (i + 2).toNatClampNeg) (by omega) (fun _ _ h => h)) ⟨(LJ_room hJ hk q1 hu1 hk1).1, (LJ_room hJ hk q1 hu1 hk1).2⟩ (fun r2 w1 H1 locs1 hI hpm hS => ?_)
  refine lv_istore (lv' := (6, .int r2) :: (5, .int r1) :: [(4, .int i), (3, .ref o0), (2, .ref m0), (1, .ref x0), (0, .ref b)]) hx hb dlw_673 hl (by decide) rfl (fun ls hl => ?_)
  refine lv_goto (tgt := 1187) hx hb dlw_675 (by decide) ?_
  exact kk x1 q1 w1 H1 locs1 ls hI (LJ_next hJ hu1 hk1 hH1 hpm.1.1 (JQ_rd hj hH1 hp1 hpm)) hS (lv_tl (lv_tl hl))
set_option maxRecDepth 100000 in
set_option maxHeartbeats 4000000 in
theorem lc_16 {p : Program} {e : Env} {s : State} {m : MethodId} {args : Array Value} {below : List Frame} {meth : Method} {c : Code} {H : Heap} {locs : List Loc} {Q : State → Prop} {ls : Array Slot} {A : Nat → Prop} {G : kG} {x w : gd} {q : kP} {x0 m0 o0 b L k : Nat} {xs : Nat → Int32} {i : Int32} (C : gC (wE (kE G)) 1000 yLaw p room_1 s m args meth c A) (hX : va_X b L xs s s.heap) (hbl : b < s.heap.size) (hbA : ¬ A b) (hI : LI G A H x q w x0 m0 o0) (hJ : LJ k x q w) (hk : k < 64) (hS : va_S A s.heap H locs) (v1 : vp_in (i + 1) L) (v2 : vp_in (i + 2) L) (v3 : vp_in (i + 3) L) (hl : lv_has ls 7 [(4, .int i), (3, .ref o0), (2, .ref m0), (1, .ref x0), (0, .ref b)]) (kk : ∀ (x1 : gd) (q1 : kP) (w1 : gd) (H1 : Heap) (locs1 : List Loc) (ls1 : Array Slot), LI G A H1 x1 q1 w1 x0 m0 o0 → LJ (k + 1) x1 q1 w1 → va_S A s.heap H1 locs1 → lv_has ls1 7 [(4, .int i), (3, .ref o0), (2, .ref m0), (1, .ref x0), (0, .ref b)] → W p G.1 e room_1 s m args below meth c H1 locs1 (q1.ce + 200) (q1.sl + 960000) Q (F0 m 1187 ls1 [])) : W p G.1 e room_1 s m args below meth c H locs (q.ce + 200) (q.sl + 960000) Q (F0 m 678 ls []) := by
  have hx := C.1.1
  have hb : c.code = cL_law := C.1.2.1
  obtain ⟨hu, hH, hm, el, b1, b2⟩ := id hJ
  obtain ⟨C9, wr, n9, lm, hj⟩ := el
  have el := JH_J hj
  refine lv_aload_n hx hb dlw_678 rfl (lv_at hl 3 rfl) ?_
  refine lv_aload_n hx hb dlw_679 rfl (lv_at hl 4 rfl) ?_
  refine lv_iload hx hb dlw_680 (lv_at hl 0 rfl) ?_
  refine lv_iconst (v := 1) hx hb dlw_682 (by decide +kernel) ?_
  refine lv_iadd hx hb dlw_683 ?_
  refine va_sld hx hb hX hbl hbA hS (i := i + 1) v1 dlw_684 ?_
  refine lv_aload_n hx hb dlw_685 rfl (lv_at hl 4 rfl) ?_
  refine lv_iload hx hb dlw_686 (lv_at hl 0 rfl) ?_
  refine lv_iconst (v := 2) hx hb dlw_688 (by decide +kernel) ?_
  refine lv_iadd hx hb dlw_689 ?_
  refine va_sld hx hb hX hbl hbA hS (i := i + 2) v2 dlw_690 ?_
  refine lv_aload_n hx hb dlw_691 rfl (lv_at hl 1 rfl) ?_
  refine LI_S C hI hu hS hl.1 [vi (xs (i + 1).toNatClampNeg), vi (xs (i + 2).toNatClampNeg)] [.int (xs (i + 1).toNatClampNeg), .int (xs (i + 2).toNatClampNeg)] (fun _ => rfl) dlw_692 wcs_161 rfl (by intro h; cases h) (Nat.le_of_ble_eq_true rfl) (kw_local (d := 870) hj hu hH (xs (i + 1).toNatClampNeg) (xs (i + 2).toNatClampNeg)) (LJ_room hJ hk) (fun r1 x1 q1 H1 locs1 hI hu1 hk1 hH1 hp1 hS => ?_)
  refine lv_istore (lv' := (5, .int r1) :: [(4, .int i), (3, .ref o0), (2, .ref m0), (1, .ref x0), (0, .ref b)]) hx hb dlw_695 hl (by decide) rfl (fun ls hl => ?_)
  refine lv_aload_n hx hb dlw_697 rfl (lv_at hl 3 rfl) ?_
  refine lv_aload_n hx hb dlw_698 rfl (lv_at hl 5 rfl) ?_
  refine lv_iload hx hb dlw_699 (lv_at hl 1 rfl) ?_
  refine lv_iconst (v := 1) hx hb dlw_701 (by decide +kernel) ?_
  refine lv_iadd hx hb dlw_702 ?_
  refine va_sld hx hb hX hbl hbA hS (i := i + 1) v1 dlw_703 ?_
  refine lv_aload_n hx hb dlw_704 rfl (lv_at hl 5 rfl) ?_
  refine lv_iload hx hb dlw_705 (lv_at hl 1 rfl) ?_
  refine lv_iconst (v := 2) hx hb dlw_707 (by decide +kernel) ?_
  refine lv_iadd hx hb dlw_708 ?_
  refine va_sld hx hb hX hbl hbA hS (i := i + 2) v2 dlw_709 ?_
  refine LI_M C hI hS hl.1 (restv := []) (d1 := 900) (F := fun r9 w1 => ansM C9 wr (f1Ch w) (f2Lo C9 wr n9 w (xs (i + 1).toNatClampNeg) (xs (i + 2).toNatClampNeg)) (tLo C9 wr n9 w (xs (i + 1).toNatClampNeg) (xs (i + 2).toNatClampNeg)) w r9 w1) [vi (xs (i + 1).toNatClampNeg), vi (xs (i + 2).toNatClampNeg)] [.int (xs (i + 1).toNatClampNeg), .int (xs (i + 2).toNatClampNeg)] (fun _ => rfl) dlw_710 wcm_163 rfl rfl (Nat.le_of_ble_eq_true rfl) (by decide) (by omega) (ma_local hj hH hm (xs (i + 1).toNatClampNeg) (xs (i + 2).toNatClampNeg) (by omega) (fun _ _ h1 => h1)) ⟨(LJ_room hJ hk q1 hu1 hk1).1, (LJ_room hJ hk q1 hu1 hk1).2⟩ (fun r2 w1 H1 locs1 hI hpm hS => ?_)
  have hj2 := ja_local hj hH1 hp1 hpm
  refine lv_istore (lv' := (6, .int r2) :: (5, .int r1) :: [(4, .int i), (3, .ref o0), (2, .ref m0), (1, .ref x0), (0, .ref b)]) hx hb dlw_713 hl (by decide) rfl (fun ls hl => ?_)
  refine lv_goto (tgt := 1187) hx hb dlw_715 (by decide) ?_
  exact kk x1 q1 w1 H1 locs1 ls hI (LJ_next hJ hu1 hk1 hH1 hpm.1 hj2.1) hS (lv_tl (lv_tl hl))
set_option maxRecDepth 100000 in
set_option maxHeartbeats 4000000 in
theorem lc_17 {p : Program} {e : Env} {s : State} {m : MethodId} {args : Array Value} {below : List Frame} {meth : Method} {c : Code} {H : Heap} {locs : List Loc} {Q : State → Prop} {ls : Array Slot} {A : Nat → Prop} {G : kG} {x w : gd} {q : kP} {x0 m0 o0 b L k : Nat} {xs : Nat → Int32} {i : Int32} (C : gC (wE (kE G)) 1000 yLaw p room_1 s m args meth c A) (hX : va_X b L xs s s.heap) (hbl : b < s.heap.size) (hbA : ¬ A b) (hI : LI G A H x q w x0 m0 o0) (hJ : LJ k x q w) (hk : k < 64) (hS : va_S A s.heap H locs) (v1 : vp_in (i + 1) L) (v2 : vp_in (i + 2) L) (v3 : vp_in (i + 3) L) (hl : lv_has ls 7 [(4, .int i), (3, .ref o0), (2, .ref m0), (1, .ref x0), (0, .ref b)]) (kk : ∀ (x1 : gd) (q1 : kP) (w1 : gd) (H1 : Heap) (locs1 : List Loc) (ls1 : Array Slot), LI G A H1 x1 q1 w1 x0 m0 o0 → LJ (k + 1) x1 q1 w1 → va_S A s.heap H1 locs1 → lv_has ls1 7 [(4, .int i), (3, .ref o0), (2, .ref m0), (1, .ref x0), (0, .ref b)] → W p G.1 e room_1 s m args below meth c H1 locs1 (q1.ce + 200) (q1.sl + 960000) Q (F0 m 1187 ls1 [])) : W p G.1 e room_1 s m args below meth c H locs (q.ce + 200) (q.sl + 960000) Q (F0 m 718 ls []) := by
  have hx := C.1.1
  have hb : c.code = cL_law := C.1.2.1
  obtain ⟨hu, hH, hm, el, b1, b2⟩ := id hJ
  obtain ⟨C9, wr, n9, lm, hj⟩ := el
  have el := JH_J hj
  refine lv_aload_n hx hb dlw_718 rfl (lv_at hl 3 rfl) ?_
  refine lv_aload_n hx hb dlw_719 rfl (lv_at hl 4 rfl) ?_
  refine lv_iload hx hb dlw_720 (lv_at hl 0 rfl) ?_
  refine lv_iconst (v := 1) hx hb dlw_722 (by decide +kernel) ?_
  refine lv_iadd hx hb dlw_723 ?_
  refine va_sld hx hb hX hbl hbA hS (i := i + 1) v1 dlw_724 ?_
  refine lv_aload_n hx hb dlw_725 rfl (lv_at hl 4 rfl) ?_
  refine lv_iload hx hb dlw_726 (lv_at hl 0 rfl) ?_
  refine lv_iconst (v := 2) hx hb dlw_728 (by decide +kernel) ?_
  refine lv_iadd hx hb dlw_729 ?_
  refine va_sld hx hb hX hbl hbA hS (i := i + 2) v2 dlw_730 ?_
  refine lv_aload_n hx hb dlw_731 rfl (lv_at hl 1 rfl) ?_
  refine LI_S C hI hu hS hl.1 [vi (xs (i + 1).toNatClampNeg), vi (xs (i + 2).toNatClampNeg)] [.int (xs (i + 1).toNatClampNeg), .int (xs (i + 2).toNatClampNeg)] (fun _ => rfl) dlw_732 wcs_164 rfl (by intro h; cases h) (Nat.le_of_ble_eq_true rfl) (kw_act (d := 870) hu hH (xs (i + 1).toNatClampNeg) (xs (i + 2).toNatClampNeg)) (LJ_room hJ hk) (fun r1 x1 q1 H1 locs1 hI hu1 hk1 hH1 hp1 hS => ?_)
  refine lv_istore (lv' := (5, .int r1) :: [(4, .int i), (3, .ref o0), (2, .ref m0), (1, .ref x0), (0, .ref b)]) hx hb dlw_735 hl (by decide) rfl (fun ls hl => ?_)
  refine lv_aload_n hx hb dlw_737 rfl (lv_at hl 3 rfl) ?_
  refine lv_aload_n hx hb dlw_738 rfl (lv_at hl 5 rfl) ?_
  refine lv_iload hx hb dlw_739 (lv_at hl 1 rfl) ?_
  refine lv_iconst (v := 1) hx hb dlw_741 (by decide +kernel) ?_
  refine lv_iadd hx hb dlw_742 ?_
  refine va_sld hx hb hX hbl hbA hS (i := i + 1) v1 dlw_743 ?_
  refine lv_aload_n hx hb dlw_744 rfl (lv_at hl 5 rfl) ?_
  refine lv_iload hx hb dlw_745 (lv_at hl 1 rfl) ?_
  refine lv_iconst (v := 2) hx hb dlw_747 (by decide +kernel) ?_
  refine lv_iadd hx hb dlw_748 ?_
  refine va_sld hx hb hX hbl hbA hS (i := i + 2) v2 dlw_749 ?_
  refine LI_M C hI hS hl.1 (restv := []) (d1 := 900) (F := fun _ w1 => rdM C9 wr w w1) [vi (xs (i + 1).toNatClampNeg), vi (xs (i + 2).toNatClampNeg)] [.int (xs (i + 1).toNatClampNeg), .int (xs (i + 2).toNatClampNeg)] (fun _ => rfl) dlw_750 wcm_166 rfl rfl (Nat.le_of_ble_eq_true rfl) (by decide) (by omega) (sr_act hm (xs (i + 1).toNatClampNeg) (xs (i + 2).toNatClampNeg) (by omega) (fun _ _ h => h)) ⟨(LJ_room hJ hk q1 hu1 hk1).1, (LJ_room hJ hk q1 hu1 hk1).2⟩ (fun r2 w1 H1 locs1 hI hpm hS => ?_)
  refine lv_istore (lv' := (6, .int r2) :: (5, .int r1) :: [(4, .int i), (3, .ref o0), (2, .ref m0), (1, .ref x0), (0, .ref b)]) hx hb dlw_753 hl (by decide) rfl (fun ls hl => ?_)
  refine lv_goto (tgt := 1187) hx hb dlw_755 (by decide) ?_
  exact kk x1 q1 w1 H1 locs1 ls hI (LJ_next hJ hu1 hk1 hH1 hpm.1.1 (JQ_rd hj hH1 hp1 hpm)) hS (lv_tl (lv_tl hl))
set_option maxRecDepth 100000 in
set_option maxHeartbeats 4000000 in
theorem lc_18 {p : Program} {e : Env} {s : State} {m : MethodId} {args : Array Value} {below : List Frame} {meth : Method} {c : Code} {H : Heap} {locs : List Loc} {Q : State → Prop} {ls : Array Slot} {A : Nat → Prop} {G : kG} {x w : gd} {q : kP} {x0 m0 o0 b L k : Nat} {xs : Nat → Int32} {i : Int32} (C : gC (wE (kE G)) 1000 yLaw p room_1 s m args meth c A) (hX : va_X b L xs s s.heap) (hbl : b < s.heap.size) (hbA : ¬ A b) (hI : LI G A H x q w x0 m0 o0) (hJ : LJ k x q w) (hk : k < 64) (hS : va_S A s.heap H locs) (v1 : vp_in (i + 1) L) (v2 : vp_in (i + 2) L) (v3 : vp_in (i + 3) L) (hl : lv_has ls 7 [(4, .int i), (3, .ref o0), (2, .ref m0), (1, .ref x0), (0, .ref b)]) (kk : ∀ (x1 : gd) (q1 : kP) (w1 : gd) (H1 : Heap) (locs1 : List Loc) (ls1 : Array Slot), LI G A H1 x1 q1 w1 x0 m0 o0 → LJ (k + 1) x1 q1 w1 → va_S A s.heap H1 locs1 → lv_has ls1 7 [(4, .int i), (3, .ref o0), (2, .ref m0), (1, .ref x0), (0, .ref b)] → W p G.1 e room_1 s m args below meth c H1 locs1 (q1.ce + 200) (q1.sl + 960000) Q (F0 m 1187 ls1 [])) : W p G.1 e room_1 s m args below meth c H locs (q.ce + 200) (q.sl + 960000) Q (F0 m 758 ls []) := by
  have hx := C.1.1
  have hb : c.code = cL_law := C.1.2.1
  obtain ⟨hu, hH, hm, el, b1, b2⟩ := id hJ
  obtain ⟨C9, wr, n9, lm, hj⟩ := el
  have el := JH_J hj
  refine lv_aload_n hx hb dlw_758 rfl (lv_at hl 3 rfl) ?_
  refine lv_aload_n hx hb dlw_759 rfl (lv_at hl 4 rfl) ?_
  refine lv_iload hx hb dlw_760 (lv_at hl 0 rfl) ?_
  refine lv_iconst (v := 1) hx hb dlw_762 (by decide +kernel) ?_
  refine lv_iadd hx hb dlw_763 ?_
  refine va_sld hx hb hX hbl hbA hS (i := i + 1) v1 dlw_764 ?_
  refine lv_aload_n hx hb dlw_765 rfl (lv_at hl 4 rfl) ?_
  refine lv_iload hx hb dlw_766 (lv_at hl 0 rfl) ?_
  refine lv_iconst (v := 2) hx hb dlw_768 (by decide +kernel) ?_
  refine lv_iadd hx hb dlw_769 ?_
  refine va_sld hx hb hX hbl hbA hS (i := i + 2) v2 dlw_770 ?_
  refine lv_aload_n hx hb dlw_771 rfl (lv_at hl 1 rfl) ?_
  refine LI_S C hI hu hS hl.1 [vi (xs (i + 1).toNatClampNeg), vi (xs (i + 2).toNatClampNeg)] [.int (xs (i + 1).toNatClampNeg), .int (xs (i + 2).toNatClampNeg)] (fun _ => rfl) dlw_772 wcs_167 rfl (by intro h; cases h) (Nat.le_of_ble_eq_true rfl) (kw_before (d := 870) hu hH (xs (i + 1).toNatClampNeg) (xs (i + 2).toNatClampNeg)) (LJ_room hJ hk) (fun r1 x1 q1 H1 locs1 hI hu1 hk1 hH1 hp1 hS => ?_)
  refine lv_istore (lv' := (5, .int r1) :: [(4, .int i), (3, .ref o0), (2, .ref m0), (1, .ref x0), (0, .ref b)]) hx hb dlw_775 hl (by decide) rfl (fun ls hl => ?_)
  refine lv_aload_n hx hb dlw_777 rfl (lv_at hl 3 rfl) ?_
  refine lv_aload_n hx hb dlw_778 rfl (lv_at hl 5 rfl) ?_
  refine lv_iload hx hb dlw_779 (lv_at hl 1 rfl) ?_
  refine lv_iconst (v := 1) hx hb dlw_781 (by decide +kernel) ?_
  refine lv_iadd hx hb dlw_782 ?_
  refine va_sld hx hb hX hbl hbA hS (i := i + 1) v1 dlw_783 ?_
  refine lv_aload_n hx hb dlw_784 rfl (lv_at hl 5 rfl) ?_
  refine lv_iload hx hb dlw_785 (lv_at hl 1 rfl) ?_
  refine lv_iconst (v := 2) hx hb dlw_787 (by decide +kernel) ?_
  refine lv_iadd hx hb dlw_788 ?_
  refine va_sld hx hb hX hbl hbA hS (i := i + 2) v2 dlw_789 ?_
  refine LI_M C hI hS hl.1 (restv := []) (d1 := 900) (F := fun _ w1 => rdM C9 wr w w1) [vi (xs (i + 1).toNatClampNeg), vi (xs (i + 2).toNatClampNeg)] [.int (xs (i + 1).toNatClampNeg), .int (xs (i + 2).toNatClampNeg)] (fun _ => rfl) dlw_790 wcm_169 rfl rfl (Nat.le_of_ble_eq_true rfl) (by decide) (by omega) (sr_before hm (xs (i + 1).toNatClampNeg) (xs (i + 2).toNatClampNeg) (by omega) (fun _ _ h => h)) ⟨(LJ_room hJ hk q1 hu1 hk1).1, (LJ_room hJ hk q1 hu1 hk1).2⟩ (fun r2 w1 H1 locs1 hI hpm hS => ?_)
  refine lv_istore (lv' := (6, .int r2) :: (5, .int r1) :: [(4, .int i), (3, .ref o0), (2, .ref m0), (1, .ref x0), (0, .ref b)]) hx hb dlw_793 hl (by decide) rfl (fun ls hl => ?_)
  refine lv_goto (tgt := 1187) hx hb dlw_795 (by decide) ?_
  exact kk x1 q1 w1 H1 locs1 ls hI (LJ_next hJ hu1 hk1 hH1 hpm.1.1 (JQ_rd hj hH1 hp1 hpm)) hS (lv_tl (lv_tl hl))
set_option maxRecDepth 100000 in
set_option maxHeartbeats 4000000 in
theorem lc_19 {p : Program} {e : Env} {s : State} {m : MethodId} {args : Array Value} {below : List Frame} {meth : Method} {c : Code} {H : Heap} {locs : List Loc} {Q : State → Prop} {ls : Array Slot} {A : Nat → Prop} {G : kG} {x w : gd} {q : kP} {x0 m0 o0 b L k : Nat} {xs : Nat → Int32} {i : Int32} (C : gC (wE (kE G)) 1000 yLaw p room_1 s m args meth c A) (hX : va_X b L xs s s.heap) (hbl : b < s.heap.size) (hbA : ¬ A b) (hI : LI G A H x q w x0 m0 o0) (hJ : LJ k x q w) (hk : k < 64) (hS : va_S A s.heap H locs) (v1 : vp_in (i + 1) L) (v2 : vp_in (i + 2) L) (v3 : vp_in (i + 3) L) (hl : lv_has ls 7 [(4, .int i), (3, .ref o0), (2, .ref m0), (1, .ref x0), (0, .ref b)]) (kk : ∀ (x1 : gd) (q1 : kP) (w1 : gd) (H1 : Heap) (locs1 : List Loc) (ls1 : Array Slot), LI G A H1 x1 q1 w1 x0 m0 o0 → LJ (k + 1) x1 q1 w1 → va_S A s.heap H1 locs1 → lv_has ls1 7 [(4, .int i), (3, .ref o0), (2, .ref m0), (1, .ref x0), (0, .ref b)] → W p G.1 e room_1 s m args below meth c H1 locs1 (q1.ce + 200) (q1.sl + 960000) Q (F0 m 1187 ls1 [])) : W p G.1 e room_1 s m args below meth c H locs (q.ce + 200) (q.sl + 960000) Q (F0 m 798 ls []) := by
  have hx := C.1.1
  have hb : c.code = cL_law := C.1.2.1
  obtain ⟨hu, hH, hm, el, b1, b2⟩ := id hJ
  obtain ⟨C9, wr, n9, lm, hj⟩ := el
  have el := JH_J hj
  refine lv_aload_n hx hb dlw_798 rfl (lv_at hl 3 rfl) ?_
  refine lv_aload_n hx hb dlw_799 rfl (lv_at hl 4 rfl) ?_
  refine lv_iload hx hb dlw_800 (lv_at hl 0 rfl) ?_
  refine lv_iconst (v := 1) hx hb dlw_802 (by decide +kernel) ?_
  refine lv_iadd hx hb dlw_803 ?_
  refine va_sld hx hb hX hbl hbA hS (i := i + 1) v1 dlw_804 ?_
  refine lv_aload_n hx hb dlw_805 rfl (lv_at hl 4 rfl) ?_
  refine lv_iload hx hb dlw_806 (lv_at hl 0 rfl) ?_
  refine lv_iconst (v := 2) hx hb dlw_808 (by decide +kernel) ?_
  refine lv_iadd hx hb dlw_809 ?_
  refine va_sld hx hb hX hbl hbA hS (i := i + 2) v2 dlw_810 ?_
  refine lv_aload_n hx hb dlw_811 rfl (lv_at hl 1 rfl) ?_
  refine LI_S C hI hu hS hl.1 [vi (xs (i + 1).toNatClampNeg), vi (xs (i + 2).toNatClampNeg)] [.int (xs (i + 1).toNatClampNeg), .int (xs (i + 2).toNatClampNeg)] (fun _ => rfl) dlw_812 wcs_170 rfl (by intro h; cases h) (Nat.le_of_ble_eq_true rfl) (kw_race (d := 870) hu hH (xs (i + 1).toNatClampNeg) (xs (i + 2).toNatClampNeg)) (LJ_room hJ hk) (fun r1 x1 q1 H1 locs1 hI hu1 hk1 hH1 hp1 hS => ?_)
  refine lv_istore (lv' := (5, .int r1) :: [(4, .int i), (3, .ref o0), (2, .ref m0), (1, .ref x0), (0, .ref b)]) hx hb dlw_815 hl (by decide) rfl (fun ls hl => ?_)
  refine lv_aload_n hx hb dlw_817 rfl (lv_at hl 3 rfl) ?_
  refine lv_aload_n hx hb dlw_818 rfl (lv_at hl 5 rfl) ?_
  refine lv_iload hx hb dlw_819 (lv_at hl 1 rfl) ?_
  refine lv_iconst (v := 1) hx hb dlw_821 (by decide +kernel) ?_
  refine lv_iadd hx hb dlw_822 ?_
  refine va_sld hx hb hX hbl hbA hS (i := i + 1) v1 dlw_823 ?_
  refine lv_aload_n hx hb dlw_824 rfl (lv_at hl 5 rfl) ?_
  refine lv_iload hx hb dlw_825 (lv_at hl 1 rfl) ?_
  refine lv_iconst (v := 2) hx hb dlw_827 (by decide +kernel) ?_
  refine lv_iadd hx hb dlw_828 ?_
  refine va_sld hx hb hX hbl hbA hS (i := i + 2) v2 dlw_829 ?_
  refine LI_M C hI hS hl.1 (restv := []) (d1 := 900) (F := fun _ w1 => rdM C9 wr w w1) [vi (xs (i + 1).toNatClampNeg), vi (xs (i + 2).toNatClampNeg)] [.int (xs (i + 1).toNatClampNeg), .int (xs (i + 2).toNatClampNeg)] (fun _ => rfl) dlw_830 wcm_172 rfl rfl (Nat.le_of_ble_eq_true rfl) (by decide) (by omega) (sr_race hm (xs (i + 1).toNatClampNeg) (xs (i + 2).toNatClampNeg) (by omega) (fun _ _ h => h)) ⟨(LJ_room hJ hk q1 hu1 hk1).1, (LJ_room hJ hk q1 hu1 hk1).2⟩ (fun r2 w1 H1 locs1 hI hpm hS => ?_)
  refine lv_istore (lv' := (6, .int r2) :: (5, .int r1) :: [(4, .int i), (3, .ref o0), (2, .ref m0), (1, .ref x0), (0, .ref b)]) hx hb dlw_833 hl (by decide) rfl (fun ls hl => ?_)
  refine lv_goto (tgt := 1187) hx hb dlw_835 (by decide) ?_
  exact kk x1 q1 w1 H1 locs1 ls hI (LJ_next hJ hu1 hk1 hH1 hpm.1.1 (JQ_rd hj hH1 hp1 hpm)) hS (lv_tl (lv_tl hl))
