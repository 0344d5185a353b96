abbrev zw_feed : gy := (yL_feed, cL_feed, 6, (some .int), [(0, 11, 14, 13)])
set_option maxRecDepth 100000 in
theorem dtk_L_feed : dck cL_feed [(0, .aload 4, 2), (2, .iconst 0, 1), (3, .aload_n 0, 1), (4, .iload_n 1, 1), (5, .lload_n 2, 1), (6, .invokevirtual 7, 3), (9, .i2l, 1), (10, .lastore, 1), (11, .goto 7, 3), (14, .astore 5, 2), (16, .iconst 1, 1), (17, .ireturn, 1), (18, .iconst 0, 1), (19, .ireturn, 1)] = true := by decide +kernel
set_option maxRecDepth 100000 in
theorem wca_feed : tables_1_5[43]? = some (Cond.codeWith yL_feed cL_feed 6 (some .int) [(0, 11, 14, 13)]) := rfl
theorem wcw_feed : Cond.codeWith yL_feed cL_feed 6 (some .int) [(0, 11, 14, 13)] ∈ W0 := W0_in (tp_5 (List.mem_of_getElem? wca_feed)) rfl
theorem kcv_L_7 : gMv RL 7 zk_X11_feed 2 := ⟨⟨W0_in (tp_5 (List.mem_of_getElem? (i := 45) (by decide +kernel))) rfl, W0_in (tp_5 (List.mem_of_getElem? (i := 46) (by decide +kernel))) rfl, W0_in (tp_5 (List.mem_of_getElem? (i := 47) (by decide +kernel))) rfl, W0_in (tp_1 (List.mem_of_getElem? (i := 1) (by decide +kernel))) rfl, kcw_X11_feed⟩, ⟨by decide, by decide, by decide +kernel⟩, by decide, by decide⟩
theorem wct_feed_iAE : gCat zw_feed 6 iAE ⟨0, 11, 14, 13⟩ := ⟨⟨[], [], rfl, fun z hz => nomatch hz⟩, rfl, by decide, (W0_in (tp_5 (List.mem_of_getElem? (i := 44) (by decide +kernel))) rfl), by decide⟩
set_option maxRecDepth 100000 in
set_option maxHeartbeats 4000000 in
theorem kw_feed {G : kG} {q : kP} {d : Nat} {x : gd} (hu : kU q) (hH : HOI x q) (l1 : Int32) (l2 : Int64) : T (wE (kE G)) (d + 30) zw_feed 0 [(0, vr 0), (1, vi l1), (2, vl l2), (4, vr 299)] [] x (fo (kf q)) (wq q (fun _ y q1 => (okk x l1 → ((y.1 20 1).toInt = (x.1 20 1).toInt + l1.toInt ∧ y.1 0 9 = 0 ∧ FBc x l2 l1.toInt.toNat y) ∧ ZR y) ∧ (¬ okk x l1 → KRd x y))) := by
  have m0 : 0 ∈ (fo (kf q)).2.1 := List.mem_append_left _ (kl_0 hu.1)
  have m9 : 299 ∈ (fo (kf q)).2.1 := List.mem_append_right _ (List.mem_singleton.mpr rfl)
  have n9 := n299 hu
  have r9 : NR (kf q) 299 := kU_NR hu n9
  refine T_aload 3 (dk dtk_L_feed 0 rfl) rfl ?_
  refine T_iconst (v := 0) (dk dtk_L_feed 1 rfl) (by decide +kernel) ?_
  refine T_aload_n 0 (dk dtk_L_feed 2 rfl) rfl rfl ?_
  refine T_iload_n 1 (dk dtk_L_feed 3 rfl) rfl rfl ?_
  refine T_lload_n 2 (dk dtk_L_feed 4 rfl) rfl rfl ?_
  have hend : ∀ (r : Int32) (y : gd) (q1 : kP), kU q1 → kst q q1 → HOI y q1 → (fun _ y q1 => (okk x l1 → ((y.1 20 1).toInt = (x.1 20 1).toInt + l1.toInt ∧ y.1 0 9 = 0 ∧ FBc x l2 l1.toInt.toNat y) ∧ ZR y) ∧ (¬ okk x l1 → KRd x y)) 0 y q1 → T (wE (kE G)) (d + 30) zw_feed 9 [(0, vr 0), (1, vi l1), (2, vl l2), (4, vr 299)] [vi r, vi 0, vr 299] y (fo (kf q1)) (wq q (fun _ y q1 => (okk x l1 → ((y.1 20 1).toInt = (x.1 20 1).toInt + l1.toInt ∧ y.1 0 9 = 0 ∧ FBc x l2 l1.toInt.toNat y) ∧ ZR y) ∧ (¬ okk x l1 → KRd x y))) := by
    intro r y q1 hu1 hk1 hH1 hp1
    have n91 : 299 ∈ (fo (kf q1)).2.1 := List.mem_append_right _ (List.mem_singleton.mpr rfl)
    refine T_i2l (dk dtk_L_feed 6 rfl) ?_
    refine T_last 299 1 (dk dtk_L_feed 7 rfl) wE_9 n91 (vin0 (by omega)) ?_
    refine T_goto 18 (dk dtk_L_feed 8 rfl) (by decide) ?_
    refine T_iconst (v := 0) (dk dtk_L_feed 12 rfl) (by decide +kernel) ?_
    exact T_iret (dk dtk_L_feed 13 rfl) rfl rfl ⟨0, q1, rfl, rfl, hu1, hk1, HOI_1 rfl hu1 hH1, hp1⟩
  have hxiAE : ¬ okk x l1 → gtry (kE G) (d + 30) zw_feed 6 [(0, vr 0), (1, vi l1), (2, vl l2), (4, vr 299)] [vi 0, vr 299] (wq q (fun _ y q1 => (okk x l1 → ((y.1 20 1).toInt = (x.1 20 1).toInt + l1.toInt ∧ y.1 0 9 = 0 ∧ FBc x l2 l1.toInt.toNat y) ∧ ZR y) ∧ (¬ okk x l1 → KRd x y))) x (.inr iAE) x (gth (kf q)) := by
    intro hno
    refine ⟨⟨n9, r9⟩, ⟨0, 11, 14, 13⟩, 5, 2, wct_feed_iAE, Or.inr ⟨rfl, (dk dtk_L_feed 9 rfl)⟩, by decide, rfl, ?_⟩
    refine T_iconst (v := 1) (dk dtk_L_feed 10 rfl) (by decide +kernel) ?_
    exact T_iret (dk dtk_L_feed 11 rfl) rfl rfl ⟨1, kTh q, rfl, rfl, kTh_U hu, kst_th q, HOI_1 rfl (kTh_U hu) (HOI_th hH), ⟨fun e => absurd e hno, fun _ => KR_rf⟩⟩
  refine T_tryF (E := kE G) [vi l1, vl l2] [vi 0, vr 299] (d + 7) rfl (dk dtk_L_feed 5 rfl) kcv_L_7 rfl kk_0 rfl (kl_0 hu.1) (by omega) (Nat.le_of_ble_eq_true rfl) (Nat.le_of_ble_eq_true rfl) (gok_i (av_c (gkr m0) (av_c rfl (av_c rfl (av_c (gkr m9) av_n)))) (as_c rfl (as_c (gkr m9) as_n))) rfl n9 ?_
  refine T_mono (kr_feed (d := d) hu.1 hH l1 l2 (P := fun v9 y9 => okk x l1 ∧ ∃ r, v9 = some (vi r) ∧ HOI y9 q ∧ (((y9.1 20 1).toInt = (x.1 20 1).toInt + l1.toInt ∧ y9.1 0 9 = 0 ∧ FBc x l2 l1.toInt.toNat y9) ∧ ZR y9)) (X := fun c9 y9 => c9 = iAE ∧ y9 = x ∧ ¬ okk x l1) (fun hn => ⟨rfl, rfl, hn⟩) (fun hy y h1 h2 => ⟨hy, _, rfl, h1, h2⟩)) (fun o9 x9 f9 w9 => ?_)
  rcases w9 with ⟨rfl, v, rfl, hy, r, rfl, h1, h2⟩ | ⟨rfl, c9, rfl, rfl, rfl, hno⟩
  · exact ⟨⟨n9, r9⟩, ⟨r, rfl⟩, hend r (xo x x9) q hu (kst_rf q) (HOI_1 rfl hu h1) ⟨fun _ => h2, fun e => absurd hy e⟩⟩
  · exact hxiAE hno
abbrev zw_fault : gy := (yL_fault, cL_fault, 4, (some .int), [(0, 9, 12, 19)])
set_option maxRecDepth 100000 in
theorem dtk_L_fault : dck cL_fault [(0, .aload_n 2, 1), (1, .iconst 0, 1), (2, .aload_n 0, 1), (3, .iload_n 1, 1), (4, .invokevirtual 15, 3), (7, .i2l, 1), (8, .lastore, 1), (9, .goto 6, 3), (12, .astore_n 3, 1), (13, .iconst 1, 1), (14, .ireturn, 1), (15, .iconst 0, 1), (16, .ireturn, 1)] = true := by decide +kernel
set_option maxRecDepth 100000 in
theorem wca_fault : tables_1_5[72]? = some (Cond.codeWith yL_fault cL_fault 4 (some .int) [(0, 9, 12, 19)]) := rfl
theorem wcw_fault : Cond.codeWith yL_fault cL_fault 4 (some .int) [(0, 9, 12, 19)] ∈ W0 := W0_in (tp_5 (List.mem_of_getElem? wca_fault)) rfl
theorem kcv_L_15 : gMv RL 15 zk_X11_fault 1 := ⟨⟨W0_in (tp_5 (List.mem_of_getElem? (i := 74) (by decide +kernel))) rfl, W0_in (tp_5 (List.mem_of_getElem? (i := 75) (by decide +kernel))) rfl, W0_in (tp_5 (List.mem_of_getElem? (i := 76) (by decide +kernel))) rfl, W0_in (tp_1 (List.mem_of_getElem? (i := 1) (by decide +kernel))) rfl, kcw_X11_fault⟩, ⟨by decide, by decide, by decide +kernel⟩, by decide, by decide⟩
theorem wct_fault_iOE : gCat zw_fault 4 iOE ⟨0, 9, 12, 19⟩ := ⟨⟨[], [], rfl, fun z hz => nomatch hz⟩, rfl, by decide, (W0_in (tp_5 (List.mem_of_getElem? (i := 73) (by decide +kernel))) rfl), by decide⟩
set_option maxRecDepth 100000 in
set_option maxHeartbeats 4000000 in
theorem kw_fault {G : kG} {q : kP} {d : Nat} {x : gd} (hu : kU q) (hH : HOI x q) (l1 : Int32) : T (wE (kE G)) (d + 30) zw_fault 0 [(0, vr 0), (1, vi l1), (2, vr 299)] [] x (fo (kf q)) (wq q (fun _ y q1 => KRd x y)) := by
  have m0 : 0 ∈ (fo (kf q)).2.1 := List.mem_append_left _ (kl_0 hu.1)
  have m9 : 299 ∈ (fo (kf q)).2.1 := List.mem_append_right _ (List.mem_singleton.mpr rfl)
  have n9 := n299 hu
  have r9 : NR (kf q) 299 := kU_NR hu n9
  refine T_aload_n 2 (dk dtk_L_fault 0 rfl) rfl rfl ?_
  refine T_iconst (v := 0) (dk dtk_L_fault 1 rfl) (by decide +kernel) ?_
  refine T_aload_n 0 (dk dtk_L_fault 2 rfl) rfl rfl ?_
  refine T_iload_n 1 (dk dtk_L_fault 3 rfl) rfl rfl ?_
  have hend : ∀ (r : Int32) (y : gd) (q1 : kP), kU q1 → kst q q1 → HOI y q1 → (fun _ y q1 => KRd x y) 0 y q1 → T (wE (kE G)) (d + 30) zw_fault 7 [(0, vr 0), (1, vi l1), (2, vr 299)] [vi r, vi 0, vr 299] y (fo (kf q1)) (wq q (fun _ y q1 => KRd x y)) := by
    intro r y q1 hu1 hk1 hH1 hp1
    have n91 : 299 ∈ (fo (kf q1)).2.1 := List.mem_append_right _ (List.mem_singleton.mpr rfl)
    refine T_i2l (dk dtk_L_fault 5 rfl) ?_
    refine T_last 299 1 (dk dtk_L_fault 6 rfl) wE_9 n91 (vin0 (by omega)) ?_
    refine T_goto 15 (dk dtk_L_fault 7 rfl) (by decide) ?_
    refine T_iconst (v := 0) (dk dtk_L_fault 11 rfl) (by decide +kernel) ?_
    exact T_iret (dk dtk_L_fault 12 rfl) rfl rfl ⟨0, q1, rfl, rfl, hu1, hk1, HOI_1 rfl hu1 hH1, hp1⟩
  have hxiOE : gtry (kE G) (d + 30) zw_fault 4 [(0, vr 0), (1, vi l1), (2, vr 299)] [vi 0, vr 299] (wq q (fun _ y q1 => KRd x y)) x (.inr iOE) x (gth (kf q)) := by
    refine ⟨⟨n9, r9⟩, ⟨0, 9, 12, 19⟩, 3, 1, wct_fault_iOE, Or.inl ⟨3, rfl, rfl, (dk dtk_L_fault 8 rfl)⟩, by decide, rfl, ?_⟩
    refine T_iconst (v := 1) (dk dtk_L_fault 9 rfl) (by decide +kernel) ?_
    exact T_iret (dk dtk_L_fault 10 rfl) rfl rfl ⟨1, kTh q, rfl, rfl, kTh_U hu, kst_th q, HOI_1 rfl (kTh_U hu) (HOI_th hH), KR_rf⟩
  refine T_tryF (E := kE G) [vi l1] [vi 0, vr 299] (d + 6) rfl (dk dtk_L_fault 4 rfl) kcv_L_15 rfl kk_0 rfl (kl_0 hu.1) (by omega) (Nat.le_of_ble_eq_true rfl) (Nat.le_of_ble_eq_true rfl) (gok_i (av_c (gkr m0) (av_c rfl (av_c (gkr m9) av_n))) (as_c rfl (as_c (gkr m9) as_n))) rfl n9 ?_
  refine T_mono (kr_fault (d := d) hu.1 hH l1 (P := fun v9 y9 => ∃ r, v9 = some (vi r) ∧ HOI y9 q ∧ KRd x y9) (X := fun c9 y9 => (c9 = iOE) ∧ y9 = x) ⟨rfl, rfl⟩ (fun r y h1 h2 => ⟨r, rfl, h1, h2⟩)) (fun o9 x9 f9 w9 => ?_)
  rcases w9 with ⟨rfl, v, rfl, r, rfl, h1, h2⟩ | ⟨rfl, c9, rfl, hc, rfl⟩
  · exact ⟨⟨n9, r9⟩, ⟨r, rfl⟩, hend r (xo x x9) q hu (kst_rf q) (HOI_1 rfl hu h1) h2⟩
  · rw [hc]; exact hxiOE
abbrev zw_count : gy := (yL_count, cL_count, 4, (some .int), [(0, 9, 12, 19)])
set_option maxRecDepth 100000 in
theorem dtk_L_count : dck cL_count [(0, .aload_n 2, 1), (1, .iconst 0, 1), (2, .aload_n 0, 1), (3, .iload_n 1, 1), (4, .invokevirtual 21, 3), (7, .i2l, 1), (8, .lastore, 1), (9, .goto 6, 3), (12, .astore_n 3, 1), (13, .iconst 1, 1), (14, .ireturn, 1), (15, .iconst 0, 1), (16, .ireturn, 1)] = true := by decide +kernel
set_option maxRecDepth 100000 in
theorem wca_count : tables_1_5[96]? = some (Cond.codeWith yL_count cL_count 4 (some .int) [(0, 9, 12, 19)]) := rfl
theorem wcw_count : Cond.codeWith yL_count cL_count 4 (some .int) [(0, 9, 12, 19)] ∈ W0 := W0_in (tp_5 (List.mem_of_getElem? wca_count)) rfl
theorem kcv_L_21 : gMv RL 21 zk_X11_count 1 := ⟨⟨W0_in (tp_5 (List.mem_of_getElem? (i := 97) (by decide +kernel))) rfl, W0_in (tp_5 (List.mem_of_getElem? (i := 98) (by decide +kernel))) rfl, W0_in (tp_5 (List.mem_of_getElem? (i := 99) (by decide +kernel))) rfl, W0_in (tp_1 (List.mem_of_getElem? (i := 1) (by decide +kernel))) rfl, kcw_X11_count⟩, ⟨by decide, by decide, by decide +kernel⟩, by decide, by decide⟩
theorem wct_count_iOE : gCat zw_count 4 iOE ⟨0, 9, 12, 19⟩ := ⟨⟨[], [], rfl, fun z hz => nomatch hz⟩, rfl, by decide, (W0_in (tp_5 (List.mem_of_getElem? (i := 73) (by decide +kernel))) rfl), by decide⟩
set_option maxRecDepth 100000 in
set_option maxHeartbeats 4000000 in
theorem kw_count {G : kG} {q : kP} {d : Nat} {x : gd} (hu : kU q) (hH : HOI x q) (l1 : Int32) : T (wE (kE G)) (d + 30) zw_count 0 [(0, vr 0), (1, vi l1), (2, vr 299)] [] x (fo (kf q)) (wq q (fun _ y q1 => KRd x y)) := by
  have m0 : 0 ∈ (fo (kf q)).2.1 := List.mem_append_left _ (kl_0 hu.1)
  have m9 : 299 ∈ (fo (kf q)).2.1 := List.mem_append_right _ (List.mem_singleton.mpr rfl)
  have n9 := n299 hu
  have r9 : NR (kf q) 299 := kU_NR hu n9
  refine T_aload_n 2 (dk dtk_L_count 0 rfl) rfl rfl ?_
  refine T_iconst (v := 0) (dk dtk_L_count 1 rfl) (by decide +kernel) ?_
  refine T_aload_n 0 (dk dtk_L_count 2 rfl) rfl rfl ?_
  refine T_iload_n 1 (dk dtk_L_count 3 rfl) rfl rfl ?_
  have hend : ∀ (r : Int32) (y : gd) (q1 : kP), kU q1 → kst q q1 → HOI y q1 → (fun _ y q1 => KRd x y) 0 y q1 → T (wE (kE G)) (d + 30) zw_count 7 [(0, vr 0), (1, vi l1), (2, vr 299)] [vi r, vi 0, vr 299] y (fo (kf q1)) (wq q (fun _ y q1 => KRd x y)) := by
    intro r y q1 hu1 hk1 hH1 hp1
    have n91 : 299 ∈ (fo (kf q1)).2.1 := List.mem_append_right _ (List.mem_singleton.mpr rfl)
    refine T_i2l (dk dtk_L_count 5 rfl) ?_
    refine T_last 299 1 (dk dtk_L_count 6 rfl) wE_9 n91 (vin0 (by omega)) ?_
    refine T_goto 15 (dk dtk_L_count 7 rfl) (by decide) ?_
    refine T_iconst (v := 0) (dk dtk_L_count 11 rfl) (by decide +kernel) ?_
    exact T_iret (dk dtk_L_count 12 rfl) rfl rfl ⟨0, q1, rfl, rfl, hu1, hk1, HOI_1 rfl hu1 hH1, hp1⟩
  have hxiOE : gtry (kE G) (d + 30) zw_count 4 [(0, vr 0), (1, vi l1), (2, vr 299)] [vi 0, vr 299] (wq q (fun _ y q1 => KRd x y)) x (.inr iOE) x (gth (kf q)) := by
    refine ⟨⟨n9, r9⟩, ⟨0, 9, 12, 19⟩, 3, 1, wct_count_iOE, Or.inl ⟨3, rfl, rfl, (dk dtk_L_count 8 rfl)⟩, by decide, rfl, ?_⟩
    refine T_iconst (v := 1) (dk dtk_L_count 9 rfl) (by decide +kernel) ?_
    exact T_iret (dk dtk_L_count 10 rfl) rfl rfl ⟨1, kTh q, rfl, rfl, kTh_U hu, kst_th q, HOI_1 rfl (kTh_U hu) (HOI_th hH), KR_rf⟩
  refine T_tryF (E := kE G) [vi l1] [vi 0, vr 299] (d + 7) rfl (dk dtk_L_count 4 rfl) kcv_L_21 rfl kk_0 rfl (kl_0 hu.1) (by omega) (Nat.le_of_ble_eq_true rfl) (Nat.le_of_ble_eq_true rfl) (gok_i (av_c (gkr m0) (av_c rfl (av_c (gkr m9) av_n))) (as_c rfl (as_c (gkr m9) as_n))) rfl n9 ?_
  refine T_mono (kz_count (d := d) hu.1 hH l1 (P := fun v9 y9 => ∃ r, v9 = some (vi r) ∧ HOI y9 q ∧ KRd x y9) (X := fun c9 y9 => c9 = iOE ∧ y9 = x) (fun hn => ⟨rfl, rfl⟩) (fun hy r y h1 h2 h3 => ⟨r, rfl, h1, by rw [h2]; exact KR_rf⟩)) (fun o9 x9 f9 w9 => ?_)
  rcases w9 with ⟨rfl, v, rfl, r, rfl, h1, h2⟩ | ⟨rfl, c9, rfl, rfl, rfl⟩
  · exact ⟨⟨n9, r9⟩, ⟨r, rfl⟩, hend r (xo x x9) q hu (kst_rf q) (HOI_1 rfl hu h1) h2⟩
  · exact hxiOE
abbrev zw_begin : gy := (yL_begin, cL_begin, 4, (some .int), [(0, 9, 12, 27), (0, 9, 15, 13)])
set_option maxRecDepth 100000 in
theorem dtk_L_begin : dck cL_begin [(0, .aload_n 2, 1), (1, .iconst 0, 1), (2, .aload_n 0, 1), (3, .iload_n 1, 1), (4, .invokevirtual 24, 3), (7, .i2l, 1), (8, .lastore, 1), (9, .goto 9, 3), (12, .astore_n 3, 1), (13, .iconst 1, 1), (14, .ireturn, 1), (15, .astore_n 3, 1), (16, .iconst 2, 1), (17, .ireturn, 1), (18, .iconst 0, 1), (19, .ireturn, 1)] = true := by decide +kernel
set_option maxRecDepth 100000 in
theorem wca_begin : tables_1_5[106]? = some (Cond.codeWith yL_begin cL_begin 4 (some .int) [(0, 9, 12, 27), (0, 9, 15, 13)]) := rfl
theorem wcw_begin : Cond.codeWith yL_begin cL_begin 4 (some .int) [(0, 9, 12, 27), (0, 9, 15, 13)] ∈ W0 := W0_in (tp_5 (List.mem_of_getElem? wca_begin)) rfl
theorem kcv_L_24 : gMv RL 24 zk_X11_begin 1 := ⟨⟨W0_in (tp_5 (List.mem_of_getElem? (i := 108) (by decide +kernel))) rfl, W0_in (tp_5 (List.mem_of_getElem? (i := 109) (by decide +kernel))) rfl, W0_in (tp_5 (List.mem_of_getElem? (i := 110) (by decide +kernel))) rfl, W0_in (tp_1 (List.mem_of_getElem? (i := 1) (by decide +kernel))) rfl, kcw_X11_begin⟩, ⟨by decide, by decide, by decide +kernel⟩, by decide, by decide⟩
theorem wct_begin_iSE : gCat zw_begin 4 iSE ⟨0, 9, 12, 27⟩ := ⟨⟨[], [⟨0, 9, 15, 13⟩], rfl, fun z hz => nomatch hz⟩, rfl, by decide, (W0_in (tp_5 (List.mem_of_getElem? (i := 107) (by decide +kernel))) rfl), by decide⟩
theorem wct_begin_iAE : gCat zw_begin 4 iAE ⟨0, 9, 15, 13⟩ := ⟨⟨[⟨0, 9, 12, 27⟩], [], rfl, fun z hz => by
  cases hz with
  | head => exact ⟨by decide, iSE, (W0_in (tp_5 (List.mem_of_getElem? (i := 107) (by decide +kernel))) rfl), by decide⟩
  | tail _ hz => cases hz⟩, rfl, by decide, (W0_in (tp_5 (List.mem_of_getElem? (i := 44) (by decide +kernel))) rfl), by decide⟩
set_option maxRecDepth 100000 in
set_option maxHeartbeats 4000000 in
theorem kw_begin {G : kG} {q : kP} {d : Nat} {x : gd} {C : gCo} {wr n : Nat} {lm : Nat → Nat} {w : gd} (hj : JH C wr n lm x w) (hu : kU q) (hH : HOI x q) (l1 : Int32) : T (wE (kE G)) (d + 30) zw_begin 0 [(0, vr 0), (1, vi l1), (2, vr 299)] [] x (fo (kf q)) (wq q (fun r9 y q1 => ansK (e1Bg x) (e2Bg x l1) (sBg C x l1) x r9 y)) := by
  have m0 : 0 ∈ (fo (kf q)).2.1 := List.mem_append_left _ (kl_0 hu.1)
  have m9 : 299 ∈ (fo (kf q)).2.1 := List.mem_append_right _ (List.mem_singleton.mpr rfl)
  have n9 := n299 hu
  have r9 : NR (kf q) 299 := kU_NR hu n9
  refine T_aload_n 2 (dk dtk_L_begin 0 rfl) rfl rfl ?_
  refine T_iconst (v := 0) (dk dtk_L_begin 1 rfl) (by decide +kernel) ?_
  refine T_aload_n 0 (dk dtk_L_begin 2 rfl) rfl rfl ?_
  refine T_iload_n 1 (dk dtk_L_begin 3 rfl) rfl rfl ?_
  have hend : ∀ (r : Int32) (y : gd) (q1 : kP), kU q1 → kst q q1 → HOI y q1 → ¬ (e1Bg x) ∧ ¬ (e2Bg x l1) ∧ sBg C x l1 r y → T (wE (kE G)) (d + 30) zw_begin 7 [(0, vr 0), (1, vi l1), (2, vr 299)] [vi r, vi 0, vr 299] y (fo (kf q1)) (wq q (fun r9 y q1 => ansK (e1Bg x) (e2Bg x l1) (sBg C x l1) x r9 y)) := by
    intro r y q1 hu1 hk1 hH1 hp1
    have n91 : 299 ∈ (fo (kf q1)).2.1 := List.mem_append_right _ (List.mem_singleton.mpr rfl)
    refine T_i2l (dk dtk_L_begin 5 rfl) ?_
    refine T_last 299 1 (dk dtk_L_begin 6 rfl) wE_9 n91 (vin0 (by omega)) ?_
    refine T_goto 18 (dk dtk_L_begin 7 rfl) (by decide) ?_
    refine T_iconst (v := 0) (dk dtk_L_begin 14 rfl) (by decide +kernel) ?_
    exact T_iret (dk dtk_L_begin 15 rfl) rfl rfl ⟨0, q1, rfl, rfl, hu1, hk1, HOI_1 rfl hu1 hH1, Or.inr (Or.inr ⟨hp1.1, hp1.2.1, rfl, r, by rw [sL_c]; exact if_pos rfl, hp1.2.2⟩)⟩
  have hxiSE : e1Bg x → gtry (kE G) (d + 30) zw_begin 4 [(0, vr 0), (1, vi l1), (2, vr 299)] [vi 0, vr 299] (wq q (fun r9 y q1 => ansK (e1Bg x) (e2Bg x l1) (sBg C x l1) x r9 y)) x (.inr iSE) x (gth (kf q)) := by
    intro hno
    refine ⟨⟨n9, r9⟩, ⟨0, 9, 12, 27⟩, 3, 1, wct_begin_iSE, Or.inl ⟨3, rfl, rfl, (dk dtk_L_begin 8 rfl)⟩, by decide, rfl, ?_⟩
    refine T_iconst (v := 1) (dk dtk_L_begin 9 rfl) (by decide +kernel) ?_
    exact T_iret (dk dtk_L_begin 10 rfl) rfl rfl ⟨1, kTh q, rfl, rfl, kTh_U hu, kst_th q, HOI_1 rfl (kTh_U hu) (HOI_th hH), Or.inl ⟨hno, rfl, KR_rf⟩⟩
  have hxiAE : e2Bg x l1 → gtry (kE G) (d + 30) zw_begin 4 [(0, vr 0), (1, vi l1), (2, vr 299)] [vi 0, vr 299] (wq q (fun r9 y q1 => ansK (e1Bg x) (e2Bg x l1) (sBg C x l1) x r9 y)) x (.inr iAE) x (gth (kf q)) := by
    intro hno
    refine ⟨⟨n9, r9⟩, ⟨0, 9, 15, 13⟩, 3, 1, wct_begin_iAE, Or.inl ⟨3, rfl, rfl, (dk dtk_L_begin 11 rfl)⟩, by decide, rfl, ?_⟩
    refine T_iconst (v := 2) (dk dtk_L_begin 12 rfl) (by decide +kernel) ?_
    exact T_iret (dk dtk_L_begin 13 rfl) rfl rfl ⟨2, kTh q, rfl, rfl, kTh_U hu, kst_th q, HOI_1 rfl (kTh_U hu) (HOI_th hH), Or.inr (Or.inl ⟨hno, rfl, KR_rf⟩)⟩
  refine T_tryF (E := kE G) [vi l1] [vi 0, vr 299] (d + 7) rfl (dk dtk_L_begin 4 rfl) kcv_L_24 rfl kk_0 rfl (kl_0 hu.1) (by omega) (Nat.le_of_ble_eq_true rfl) (Nat.le_of_ble_eq_true rfl) (gok_i (av_c (gkr m0) (av_c rfl (av_c (gkr m9) av_n))) (as_c rfl (as_c (gkr m9) as_n))) rfl n9 ?_
  refine T_mono (ka_begin (d := d) hj hu.1 hH l1 (P := fun v9 y9 => ∃ r, v9 = some (vi r) ∧ HOI y9 q ∧ ¬ (e1Bg x) ∧ ¬ (e2Bg x l1) ∧ sBg C x l1 r y9) (X := fun c9 y9 => ((c9 = iSE ∧ e1Bg x) ∨ (c9 = iAE ∧ e2Bg x l1)) ∧ y9 = x) (fun h9 => ⟨Or.inl ⟨rfl, h9⟩, rfl⟩) (fun h9 => ⟨Or.inr ⟨rfl, h9⟩, rfl⟩) (fun h8 h9 r y h1 h2 => ⟨r, rfl, h1, h8, h9, h2⟩)) (fun o9 x9 f9 w9 => ?_)
  rcases w9 with ⟨rfl, v, rfl, r, rfl, h1, h2⟩ | ⟨rfl, c9, rfl, hc, rfl⟩
  · exact ⟨⟨n9, r9⟩, ⟨r, rfl⟩, hend r (xo x x9) q hu (kst_rf q) (HOI_1 rfl hu h1) h2⟩
  · rcases hc with ⟨rfl, hno⟩ | ⟨rfl, hno⟩
    · exact hxiSE hno
    · exact hxiAE hno
abbrev zw_choices : gy := (yL_choices, cL_choices, 3, (some .int), [(0, 8, 11, 27)])
set_option maxRecDepth 100000 in
theorem dtk_L_choices : dck cL_choices [(0, .aload_n 1, 1), (1, .iconst 0, 1), (2, .aload_n 0, 1), (3, .invokevirtual 29, 3), (6, .i2l, 1), (7, .lastore, 1), (8, .goto 6, 3), (11, .astore_n 2, 1), (12, .iconst 1, 1), (13, .ireturn, 1), (14, .iconst 0, 1), (15, .ireturn, 1)] = true := by decide +kernel
set_option maxRecDepth 100000 in
theorem wca_choices : tables_1_5[227]? = some (Cond.codeWith yL_choices cL_choices 3 (some .int) [(0, 8, 11, 27)]) := rfl
theorem wcw_choices : Cond.codeWith yL_choices cL_choices 3 (some .int) [(0, 8, 11, 27)] ∈ W0 := W0_in (tp_5 (List.mem_of_getElem? wca_choices)) rfl
theorem kcv_L_29 : gMv RL 29 zk_X11_choices 0 := ⟨⟨W0_in (tp_5 (List.mem_of_getElem? (i := 228) (by decide +kernel))) rfl, W0_in (tp_5 (List.mem_of_getElem? (i := 229) (by decide +kernel))) rfl, W0_in (tp_5 (List.mem_of_getElem? (i := 230) (by decide +kernel))) rfl, W0_in (tp_1 (List.mem_of_getElem? (i := 1) (by decide +kernel))) rfl, kcw_X11_choices⟩, ⟨by decide, by decide, by decide +kernel⟩, by decide, by decide⟩
theorem wct_choices_iSE : gCat zw_choices 3 iSE ⟨0, 8, 11, 27⟩ := ⟨⟨[], [], rfl, fun z hz => nomatch hz⟩, rfl, by decide, (W0_in (tp_5 (List.mem_of_getElem? (i := 107) (by decide +kernel))) rfl), by decide⟩
set_option maxRecDepth 100000 in
set_option maxHeartbeats 4000000 in
theorem kw_choices {G : kG} {q : kP} {d : Nat} {x : gd} (hu : kU q) (hH : HOI x q)  : T (wE (kE G)) (d + 30) zw_choices 0 [(0, vr 0), (1, vr 299)] [] x (fo (kf q)) (wq q (fun r9 y q1 => ansK (e1Ch x) (False) (sCh x) x r9 y)) := by
  have m0 : 0 ∈ (fo (kf q)).2.1 := List.mem_append_left _ (kl_0 hu.1)
  have m9 : 299 ∈ (fo (kf q)).2.1 := List.mem_append_right _ (List.mem_singleton.mpr rfl)
  have n9 := n299 hu
  have r9 : NR (kf q) 299 := kU_NR hu n9
  refine T_aload_n 1 (dk dtk_L_choices 0 rfl) rfl rfl ?_
  refine T_iconst (v := 0) (dk dtk_L_choices 1 rfl) (by decide +kernel) ?_
  refine T_aload_n 0 (dk dtk_L_choices 2 rfl) rfl rfl ?_
  have hend : ∀ (r : Int32) (y : gd) (q1 : kP), kU q1 → kst q q1 → HOI y q1 → ¬ (e1Ch x) ∧ ¬ (False) ∧ sCh x r y → T (wE (kE G)) (d + 30) zw_choices 6 [(0, vr 0), (1, vr 299)] [vi r, vi 0, vr 299] y (fo (kf q1)) (wq q (fun r9 y q1 => ansK (e1Ch x) (False) (sCh x) x r9 y)) := by
    intro r y q1 hu1 hk1 hH1 hp1
    have n91 : 299 ∈ (fo (kf q1)).2.1 := List.mem_append_right _ (List.mem_singleton.mpr rfl)
    refine T_i2l (dk dtk_L_choices 4 rfl) ?_
    refine T_last 299 1 (dk dtk_L_choices 5 rfl) wE_9 n91 (vin0 (by omega)) ?_
    refine T_goto 14 (dk dtk_L_choices 6 rfl) (by decide) ?_
    refine T_iconst (v := 0) (dk dtk_L_choices 10 rfl) (by decide +kernel) ?_
    exact T_iret (dk dtk_L_choices 11 rfl) rfl rfl ⟨0, q1, rfl, rfl, hu1, hk1, HOI_1 rfl hu1 hH1, Or.inr (Or.inr ⟨hp1.1, hp1.2.1, rfl, r, by rw [sL_c]; exact if_pos rfl, hp1.2.2⟩)⟩
  have hxiSE : e1Ch x → gtry (kE G) (d + 30) zw_choices 3 [(0, vr 0), (1, vr 299)] [vi 0, vr 299] (wq q (fun r9 y q1 => ansK (e1Ch x) (False) (sCh x) x r9 y)) x (.inr iSE) x (gth (kf q)) := by
    intro hno
    refine ⟨⟨n9, r9⟩, ⟨0, 8, 11, 27⟩, 2, 1, wct_choices_iSE, Or.inl ⟨2, rfl, rfl, (dk dtk_L_choices 7 rfl)⟩, by decide, rfl, ?_⟩
    refine T_iconst (v := 1) (dk dtk_L_choices 8 rfl) (by decide +kernel) ?_
    exact T_iret (dk dtk_L_choices 9 rfl) rfl rfl ⟨1, kTh q, rfl, rfl, kTh_U hu, kst_th q, HOI_1 rfl (kTh_U hu) (HOI_th hH), Or.inl ⟨hno, rfl, KR_rf⟩⟩
  refine T_tryF (E := kE G) [] [vi 0, vr 299] (d + 7) rfl (dk dtk_L_choices 3 rfl) kcv_L_29 rfl kk_0 rfl (kl_0 hu.1) (by omega) (Nat.le_of_ble_eq_true rfl) (Nat.le_of_ble_eq_true rfl) (gok_i (av_c (gkr m0) (av_c (gkr m9) av_n)) (as_c rfl (as_c (gkr m9) as_n))) rfl n9 ?_
  refine T_mono (ka_choices (d := d) hu.1 hH  (P := fun v9 y9 => ∃ r, v9 = some (vi r) ∧ HOI y9 q ∧ ¬ (e1Ch x) ∧ ¬ (False) ∧ sCh x r y9) (X := fun c9 y9 => ((c9 = iSE ∧ e1Ch x)) ∧ y9 = x) (fun h9 => ⟨⟨rfl, h9⟩, rfl⟩) (fun h8 h9 r y h1 h2 => ⟨r, rfl, h1, h8, h9, h2⟩)) (fun o9 x9 f9 w9 => ?_)
  rcases w9 with ⟨rfl, v, rfl, r, rfl, h1, h2⟩ | ⟨rfl, c9, rfl, hc, rfl⟩
  · exact ⟨⟨n9, r9⟩, ⟨r, rfl⟩, hend r (xo x x9) q hu (kst_rf q) (HOI_1 rfl hu h1) h2⟩
  · obtain ⟨rfl, hno⟩ := hc
    exact hxiSE hno
abbrev zw_choice : gy := (yL_choice, cL_choice, 5, (some .int), [(0, 10, 13, 27), (0, 10, 17, 19)])
set_option maxRecDepth 100000 in
theorem dtk_L_choice : dck cL_choice [(0, .aload_n 3, 1), (1, .iconst 0, 1), (2, .aload_n 0, 1), (3, .iload_n 1, 1), (4, .iload_n 2, 1), (5, .invokevirtual 33, 3), (8, .i2l, 1), (9, .lastore, 1), (10, .goto 11, 3), (13, .astore 4, 2), (15, .iconst 1, 1), (16, .ireturn, 1), (17, .astore 4, 2), (19, .iconst 2, 1), (20, .ireturn, 1), (21, .iconst 0, 1), (22, .ireturn, 1)] = true := by decide +kernel
set_option maxRecDepth 100000 in
theorem wca_choice : tables_1_5[239]? = some (Cond.codeWith yL_choice cL_choice 5 (some .int) [(0, 10, 13, 27), (0, 10, 17, 19)]) := rfl
theorem wcw_choice : Cond.codeWith yL_choice cL_choice 5 (some .int) [(0, 10, 13, 27), (0, 10, 17, 19)] ∈ W0 := W0_in (tp_5 (List.mem_of_getElem? wca_choice)) rfl
theorem kcv_L_33 : gMv RL 33 zk_X11_choice 2 := ⟨⟨W0_in (tp_6 (List.mem_of_getElem? (i := 0) (by decide +kernel))) rfl, W0_in (tp_6 (List.mem_of_getElem? (i := 1) (by decide +kernel))) rfl, W0_in (tp_6 (List.mem_of_getElem? (i := 2) (by decide +kernel))) rfl, W0_in (tp_1 (List.mem_of_getElem? (i := 1) (by decide +kernel))) rfl, kcw_X11_choice⟩, ⟨by decide, by decide, by decide +kernel⟩, by decide, by decide⟩
theorem wct_choice_iSE : gCat zw_choice 5 iSE ⟨0, 10, 13, 27⟩ := ⟨⟨[], [⟨0, 10, 17, 19⟩], rfl, fun z hz => nomatch hz⟩, rfl, by decide, (W0_in (tp_5 (List.mem_of_getElem? (i := 107) (by decide +kernel))) rfl), by decide⟩
theorem wct_choice_iOE : gCat zw_choice 5 iOE ⟨0, 10, 17, 19⟩ := ⟨⟨[⟨0, 10, 13, 27⟩], [], rfl, fun z hz => by
  cases hz with
  | head => exact ⟨by decide, iSE, (W0_in (tp_5 (List.mem_of_getElem? (i := 107) (by decide +kernel))) rfl), by decide⟩
  | tail _ hz => cases hz⟩, rfl, by decide, (W0_in (tp_5 (List.mem_of_getElem? (i := 73) (by decide +kernel))) rfl), by decide⟩
set_option maxRecDepth 100000 in
set_option maxHeartbeats 4000000 in
theorem kw_choice {G : kG} {q : kP} {d : Nat} {x : gd} {C : gCo} {wr n : Nat} {lm : Nat → Nat} {w : gd} (hj : JH C wr n lm x w) (hu : kU q) (hH : HOI x q) (l1 : Int32) (l2 : Int32) : T (wE (kE G)) (d + 30) zw_choice 0 [(0, vr 0), (1, vi l1), (2, vi l2), (3, vr 299)] [] x (fo (kf q)) (wq q (fun r9 y q1 => ansK (e1Ch x) (e2Ci x l1 l2) (sCi C wr n (c96 w) x l1 l2) x r9 y)) := by
  have m0 : 0 ∈ (fo (kf q)).2.1 := List.mem_append_left _ (kl_0 hu.1)
  have m9 : 299 ∈ (fo (kf q)).2.1 := List.mem_append_right _ (List.mem_singleton.mpr rfl)
  have n9 := n299 hu
  have r9 : NR (kf q) 299 := kU_NR hu n9
  refine T_aload_n 3 (dk dtk_L_choice 0 rfl) rfl rfl ?_
  refine T_iconst (v := 0) (dk dtk_L_choice 1 rfl) (by decide +kernel) ?_
  refine T_aload_n 0 (dk dtk_L_choice 2 rfl) rfl rfl ?_
  refine T_iload_n 1 (dk dtk_L_choice 3 rfl) rfl rfl ?_
  refine T_iload_n 2 (dk dtk_L_choice 4 rfl) rfl rfl ?_
  have hend : ∀ (r : Int32) (y : gd) (q1 : kP), kU q1 → kst q q1 → HOI y q1 → ¬ (e1Ch x) ∧ ¬ (e2Ci x l1 l2) ∧ sCi C wr n (c96 w) x l1 l2 r y → T (wE (kE G)) (d + 30) zw_choice 8 [(0, vr 0), (1, vi l1), (2, vi l2), (3, vr 299)] [vi r, vi 0, vr 299] y (fo (kf q1)) (wq q (fun r9 y q1 => ansK (e1Ch x) (e2Ci x l1 l2) (sCi C wr n (c96 w) x l1 l2) x r9 y)) := by
    intro r y q1 hu1 hk1 hH1 hp1
    have n91 : 299 ∈ (fo (kf q1)).2.1 := List.mem_append_right _ (List.mem_singleton.mpr rfl)
    refine T_i2l (dk dtk_L_choice 6 rfl) ?_
    refine T_last 299 1 (dk dtk_L_choice 7 rfl) wE_9 n91 (vin0 (by omega)) ?_
    refine T_goto 21 (dk dtk_L_choice 8 rfl) (by decide) ?_
    refine T_iconst (v := 0) (dk dtk_L_choice 15 rfl) (by decide +kernel) ?_
    exact T_iret (dk dtk_L_choice 16 rfl) rfl rfl ⟨0, q1, rfl, rfl, hu1, hk1, HOI_1 rfl hu1 hH1, Or.inr (Or.inr ⟨hp1.1, hp1.2.1, rfl, r, by rw [sL_c]; exact if_pos rfl, hp1.2.2⟩)⟩
  have hxiSE : e1Ch x → gtry (kE G) (d + 30) zw_choice 5 [(0, vr 0), (1, vi l1), (2, vi l2), (3, vr 299)] [vi 0, vr 299] (wq q (fun r9 y q1 => ansK (e1Ch x) (e2Ci x l1 l2) (sCi C wr n (c96 w) x l1 l2) x r9 y)) x (.inr iSE) x (gth (kf q)) := by
    intro hno
    refine ⟨⟨n9, r9⟩, ⟨0, 10, 13, 27⟩, 4, 2, wct_choice_iSE, Or.inr ⟨rfl, (dk dtk_L_choice 9 rfl)⟩, by decide, rfl, ?_⟩
    refine T_iconst (v := 1) (dk dtk_L_choice 10 rfl) (by decide +kernel) ?_
    exact T_iret (dk dtk_L_choice 11 rfl) rfl rfl ⟨1, kTh q, rfl, rfl, kTh_U hu, kst_th q, HOI_1 rfl (kTh_U hu) (HOI_th hH), Or.inl ⟨hno, rfl, KR_rf⟩⟩
  have hxiOE : e2Ci x l1 l2 → gtry (kE G) (d + 30) zw_choice 5 [(0, vr 0), (1, vi l1), (2, vi l2), (3, vr 299)] [vi 0, vr 299] (wq q (fun r9 y q1 => ansK (e1Ch x) (e2Ci x l1 l2) (sCi C wr n (c96 w) x l1 l2) x r9 y)) x (.inr iOE) x (gth (kf q)) := by
    intro hno
    refine ⟨⟨n9, r9⟩, ⟨0, 10, 17, 19⟩, 4, 2, wct_choice_iOE, Or.inr ⟨rfl, (dk dtk_L_choice 12 rfl)⟩, by decide, rfl, ?_⟩
    refine T_iconst (v := 2) (dk dtk_L_choice 13 rfl) (by decide +kernel) ?_
    exact T_iret (dk dtk_L_choice 14 rfl) rfl rfl ⟨2, kTh q, rfl, rfl, kTh_U hu, kst_th q, HOI_1 rfl (kTh_U hu) (HOI_th hH), Or.inr (Or.inl ⟨hno, rfl, KR_rf⟩)⟩
  refine T_tryF (E := kE G) [vi l1, vi l2] [vi 0, vr 299] (d + 7) rfl (dk dtk_L_choice 5 rfl) kcv_L_33 rfl kk_0 rfl (kl_0 hu.1) (by omega) (Nat.le_of_ble_eq_true rfl) (Nat.le_of_ble_eq_true rfl) (gok_i (av_c (gkr m0) (av_c rfl (av_c rfl (av_c (gkr m9) av_n)))) (as_c rfl (as_c (gkr m9) as_n))) rfl n9 ?_
  refine T_mono (ka_choice (d := d) hj hu.1 hH l1 l2 (P := fun v9 y9 => ∃ r, v9 = some (vi r) ∧ HOI y9 q ∧ ¬ (e1Ch x) ∧ ¬ (e2Ci x l1 l2) ∧ sCi C wr n (c96 w) x l1 l2 r y9) (X := fun c9 y9 => ((c9 = iSE ∧ e1Ch x) ∨ (c9 = iOE ∧ e2Ci x l1 l2)) ∧ y9 = x) (fun h9 => ⟨Or.inl ⟨rfl, h9⟩, rfl⟩) (fun h9 => ⟨Or.inr ⟨rfl, h9⟩, rfl⟩) (fun h8 h9 r y h1 h2 => ⟨r, rfl, h1, h8, h9, h2⟩)) (fun o9 x9 f9 w9 => ?_)
  rcases w9 with ⟨rfl, v, rfl, r, rfl, h1, h2⟩ | ⟨rfl, c9, rfl, hc, rfl⟩
  · exact ⟨⟨n9, r9⟩, ⟨r, rfl⟩, hend r (xo x x9) q hu (kst_rf q) (HOI_1 rfl hu h1) h2⟩
  · rcases hc with ⟨rfl, hno⟩ | ⟨rfl, hno⟩
    · exact hxiSE hno
    · exact hxiOE hno
abbrev zw_go : gy := (yL_go, cL_go, 4, (some .int), [(0, 9, 12, 27), (0, 9, 15, 19)])
set_option maxRecDepth 100000 in
theorem dtk_L_go : dck cL_go [(0, .aload_n 2, 1), (1, .iconst 0, 1), (2, .aload_n 0, 1), (3, .iload_n 1, 1), (4, .invokevirtual 37, 3), (7, .i2l, 1), (8, .lastore, 1), (9, .goto 9, 3), (12, .astore_n 3, 1), (13, .iconst 1, 1), (14, .ireturn, 1), (15, .astore_n 3, 1), (16, .iconst 2, 1), (17, .ireturn, 1), (18, .iconst 0, 1), (19, .ireturn, 1)] = true := by decide +kernel
set_option maxRecDepth 100000 in
theorem wca_go : tables_1_6[20]? = some (Cond.codeWith yL_go cL_go 4 (some .int) [(0, 9, 12, 27), (0, 9, 15, 19)]) := rfl
theorem wcw_go : Cond.codeWith yL_go cL_go 4 (some .int) [(0, 9, 12, 27), (0, 9, 15, 19)] ∈ W0 := W0_in (tp_6 (List.mem_of_getElem? wca_go)) rfl
theorem kcv_L_37 : gMv RL 37 zk_X11_go 1 := ⟨⟨W0_in (tp_6 (List.mem_of_getElem? (i := 21) (by decide +kernel))) rfl, W0_in (tp_6 (List.mem_of_getElem? (i := 22) (by decide +kernel))) rfl, W0_in (tp_6 (List.mem_of_getElem? (i := 23) (by decide +kernel))) rfl, W0_in (tp_1 (List.mem_of_getElem? (i := 1) (by decide +kernel))) rfl, kcw_X11_go⟩, ⟨by decide, by decide, by decide +kernel⟩, by decide, by decide⟩
theorem wct_go_iSE : gCat zw_go 4 iSE ⟨0, 9, 12, 27⟩ := ⟨⟨[], [⟨0, 9, 15, 19⟩], rfl, fun z hz => nomatch hz⟩, rfl, by decide, (W0_in (tp_5 (List.mem_of_getElem? (i := 107) (by decide +kernel))) rfl), by decide⟩
theorem wct_go_iOE : gCat zw_go 4 iOE ⟨0, 9, 15, 19⟩ := ⟨⟨[⟨0, 9, 12, 27⟩], [], rfl, fun z hz => by
  cases hz with
  | head => exact ⟨by decide, iSE, (W0_in (tp_5 (List.mem_of_getElem? (i := 107) (by decide +kernel))) rfl), by decide⟩
  | tail _ hz => cases hz⟩, rfl, by decide, (W0_in (tp_5 (List.mem_of_getElem? (i := 73) (by decide +kernel))) rfl), by decide⟩
set_option maxRecDepth 100000 in
set_option maxHeartbeats 4000000 in
theorem kw_go {G : kG} {q : kP} {d : Nat} {x : gd} {C : gCo} {wr n : Nat} {lm : Nat → Nat} {w : gd} (hj : JH C wr n lm x w) (hu : kU q) (hH : HOI x q) (l1 : Int32) : T (wE (kE G)) (d + 30) zw_go 0 [(0, vr 0), (1, vi l1), (2, vr 299)] [] x (fo (kf q)) (wq q (fun r9 y q1 => ansK (e1Go n x) (e2Go n x l1) (sGo C wr n (c96 w) x l1) x r9 y)) := by
  have m0 : 0 ∈ (fo (kf q)).2.1 := List.mem_append_left _ (kl_0 hu.1)
  have m9 : 299 ∈ (fo (kf q)).2.1 := List.mem_append_right _ (List.mem_singleton.mpr rfl)
  have n9 := n299 hu
  have r9 : NR (kf q) 299 := kU_NR hu n9
  refine T_aload_n 2 (dk dtk_L_go 0 rfl) rfl rfl ?_
  refine T_iconst (v := 0) (dk dtk_L_go 1 rfl) (by decide +kernel) ?_
  refine T_aload_n 0 (dk dtk_L_go 2 rfl) rfl rfl ?_
  refine T_iload_n 1 (dk dtk_L_go 3 rfl) rfl rfl ?_
  have hend : ∀ (r : Int32) (y : gd) (q1 : kP), kU q1 → kst q q1 → HOI y q1 → ¬ (e1Go n x) ∧ ¬ (e2Go n x l1) ∧ sGo C wr n (c96 w) x l1 r y → T (wE (kE G)) (d + 30) zw_go 7 [(0, vr 0), (1, vi l1), (2, vr 299)] [vi r, vi 0, vr 299] y (fo (kf q1)) (wq q (fun r9 y q1 => ansK (e1Go n x) (e2Go n x l1) (sGo C wr n (c96 w) x l1) x r9 y)) := by
    intro r y q1 hu1 hk1 hH1 hp1
    have n91 : 299 ∈ (fo (kf q1)).2.1 := List.mem_append_right _ (List.mem_singleton.mpr rfl)
    refine T_i2l (dk dtk_L_go 5 rfl) ?_
    refine T_last 299 1 (dk dtk_L_go 6 rfl) wE_9 n91 (vin0 (by omega)) ?_
    refine T_goto 18 (dk dtk_L_go 7 rfl) (by decide) ?_
    refine T_iconst (v := 0) (dk dtk_L_go 14 rfl) (by decide +kernel) ?_
    exact T_iret (dk dtk_L_go 15 rfl) rfl rfl ⟨0, q1, rfl, rfl, hu1, hk1, HOI_1 rfl hu1 hH1, Or.inr (Or.inr ⟨hp1.1, hp1.2.1, rfl, r, by rw [sL_c]; exact if_pos rfl, hp1.2.2⟩)⟩
  have hxiSE : e1Go n x → gtry (kE G) (d + 30) zw_go 4 [(0, vr 0), (1, vi l1), (2, vr 299)] [vi 0, vr 299] (wq q (fun r9 y q1 => ansK (e1Go n x) (e2Go n x l1) (sGo C wr n (c96 w) x l1) x r9 y)) x (.inr iSE) x (gth (kf q)) := by
    intro hno
    refine ⟨⟨n9, r9⟩, ⟨0, 9, 12, 27⟩, 3, 1, wct_go_iSE, Or.inl ⟨3, rfl, rfl, (dk dtk_L_go 8 rfl)⟩, by decide, rfl, ?_⟩
    refine T_iconst (v := 1) (dk dtk_L_go 9 rfl) (by decide +kernel) ?_
    exact T_iret (dk dtk_L_go 10 rfl) rfl rfl ⟨1, kTh q, rfl, rfl, kTh_U hu, kst_th q, HOI_1 rfl (kTh_U hu) (HOI_th hH), Or.inl ⟨hno, rfl, KR_rf⟩⟩
  have hxiOE : e2Go n x l1 → gtry (kE G) (d + 30) zw_go 4 [(0, vr 0), (1, vi l1), (2, vr 299)] [vi 0, vr 299] (wq q (fun r9 y q1 => ansK (e1Go n x) (e2Go n x l1) (sGo C wr n (c96 w) x l1) x r9 y)) x (.inr iOE) x (gth (kf q)) := by
    intro hno
    refine ⟨⟨n9, r9⟩, ⟨0, 9, 15, 19⟩, 3, 1, wct_go_iOE, Or.inl ⟨3, rfl, rfl, (dk dtk_L_go 11 rfl)⟩, by decide, rfl, ?_⟩
    refine T_iconst (v := 2) (dk dtk_L_go 12 rfl) (by decide +kernel) ?_
    exact T_iret (dk dtk_L_go 13 rfl) rfl rfl ⟨2, kTh q, rfl, rfl, kTh_U hu, kst_th q, HOI_1 rfl (kTh_U hu) (HOI_th hH), Or.inr (Or.inl ⟨hno, rfl, KR_rf⟩)⟩
  refine T_tryF (E := kE G) [vi l1] [vi 0, vr 299] (d + 7) rfl (dk dtk_L_go 4 rfl) kcv_L_37 rfl kk_0 rfl (kl_0 hu.1) (by omega) (Nat.le_of_ble_eq_true rfl) (Nat.le_of_ble_eq_true rfl) (gok_i (av_c (gkr m0) (av_c rfl (av_c (gkr m9) av_n))) (as_c rfl (as_c (gkr m9) as_n))) rfl n9 ?_
  refine T_mono (ka_go (d := d) hj hu.1 hH l1 (P := fun v9 y9 => ∃ r, v9 = some (vi r) ∧ HOI y9 q ∧ ¬ (e1Go n x) ∧ ¬ (e2Go n x l1) ∧ sGo C wr n (c96 w) x l1 r y9) (X := fun c9 y9 => ((c9 = iSE ∧ e1Go n x) ∨ (c9 = iOE ∧ e2Go n x l1)) ∧ y9 = x) (fun h9 => ⟨Or.inl ⟨rfl, h9⟩, rfl⟩) (fun h9 => ⟨Or.inr ⟨rfl, h9⟩, rfl⟩) (fun h8 h9 r y h1 h2 => ⟨r, rfl, h1, h8, h9, h2⟩)) (fun o9 x9 f9 w9 => ?_)
  rcases w9 with ⟨rfl, v, rfl, r, rfl, h1, h2⟩ | ⟨rfl, c9, rfl, hc, rfl⟩
  · exact ⟨⟨n9, r9⟩, ⟨r, rfl⟩, hend r (xo x x9) q hu (kst_rf q) (HOI_1 rfl hu h1) h2⟩
  · rcases hc with ⟨rfl, hno⟩ | ⟨rfl, hno⟩
    · exact hxiSE hno
    · exact hxiOE hno
abbrev zw_draw : gy := (yL_draw, cL_draw, 5, (some .int), [(0, 10, 13, 27), (0, 10, 17, 13)])
set_option maxRecDepth 100000 in
theorem dtk_L_draw : dck cL_draw [(0, .aload_n 3, 1), (1, .iconst 0, 1), (2, .aload_n 0, 1), (3, .iload_n 1, 1), (4, .iload_n 2, 1), (5, .invokevirtual 40, 3), (8, .i2l, 1), (9, .lastore, 1), (10, .goto 11, 3), (13, .astore 4, 2), (15, .iconst 1, 1), (16, .ireturn, 1), (17, .astore 4, 2), (19, .iconst 2, 1), (20, .ireturn, 1), (21, .iconst 0, 1), (22, .ireturn, 1)] = true := by decide +kernel
set_option maxRecDepth 100000 in
theorem wca_draw : tables_1_6[139]? = some (Cond.codeWith yL_draw cL_draw 5 (some .int) [(0, 10, 13, 27), (0, 10, 17, 13)]) := rfl
theorem wcw_draw : Cond.codeWith yL_draw cL_draw 5 (some .int) [(0, 10, 13, 27), (0, 10, 17, 13)] ∈ W0 := W0_in (tp_6 (List.mem_of_getElem? wca_draw)) rfl
theorem kcv_L_40 : gMv RL 40 zk_X11_draw 2 := ⟨⟨W0_in (tp_6 (List.mem_of_getElem? (i := 140) (by decide +kernel))) rfl, W0_in (tp_6 (List.mem_of_getElem? (i := 141) (by decide +kernel))) rfl, W0_in (tp_6 (List.mem_of_getElem? (i := 142) (by decide +kernel))) rfl, W0_in (tp_1 (List.mem_of_getElem? (i := 1) (by decide +kernel))) rfl, kcw_X11_draw⟩, ⟨by decide, by decide, by decide +kernel⟩, by decide, by decide⟩
theorem wct_draw_iSE : gCat zw_draw 5 iSE ⟨0, 10, 13, 27⟩ := ⟨⟨[], [⟨0, 10, 17, 13⟩], rfl, fun z hz => nomatch hz⟩, rfl, by decide, (W0_in (tp_5 (List.mem_of_getElem? (i := 107) (by decide +kernel))) rfl), by decide⟩
theorem wct_draw_iAE : gCat zw_draw 5 iAE ⟨0, 10, 17, 13⟩ := ⟨⟨[⟨0, 10, 13, 27⟩], [], rfl, fun z hz => by
  cases hz with
  | head => exact ⟨by decide, iSE, (W0_in (tp_5 (List.mem_of_getElem? (i := 107) (by decide +kernel))) rfl), by decide⟩
  | tail _ hz => cases hz⟩, rfl, by decide, (W0_in (tp_5 (List.mem_of_getElem? (i := 44) (by decide +kernel))) rfl), by decide⟩
set_option maxRecDepth 100000 in
set_option maxHeartbeats 4000000 in
theorem kw_draw {G : kG} {q : kP} {d : Nat} {x : gd} {C : gCo} {wr n : Nat} {lm : Nat → Nat} {w : gd} (hj : JH C wr n lm x w) (hu : kU q) (hH : HOI x q) (l1 : Int32) (l2 : Int32) : T (wE (kE G)) (d + 30) zw_draw 0 [(0, vr 0), (1, vi l1), (2, vi l2), (3, vr 299)] [] x (fo (kf q)) (wq q (fun r9 y q1 => ansK (e1Ch x) (e2Dr x l2) (sDr C wr n (c96 w) x l1 l2) x r9 y)) := by
  have m0 : 0 ∈ (fo (kf q)).2.1 := List.mem_append_left _ (kl_0 hu.1)
  have m9 : 299 ∈ (fo (kf q)).2.1 := List.mem_append_right _ (List.mem_singleton.mpr rfl)
  have n9 := n299 hu
  have r9 : NR (kf q) 299 := kU_NR hu n9
  refine T_aload_n 3 (dk dtk_L_draw 0 rfl) rfl rfl ?_
  refine T_iconst (v := 0) (dk dtk_L_draw 1 rfl) (by decide +kernel) ?_
  refine T_aload_n 0 (dk dtk_L_draw 2 rfl) rfl rfl ?_
  refine T_iload_n 1 (dk dtk_L_draw 3 rfl) rfl rfl ?_
  refine T_iload_n 2 (dk dtk_L_draw 4 rfl) rfl rfl ?_
  have hend : ∀ (r : Int32) (y : gd) (q1 : kP), kU q1 → kst q q1 → HOI y q1 → ¬ (e1Ch x) ∧ ¬ (e2Dr x l2) ∧ sDr C wr n (c96 w) x l1 l2 r y → T (wE (kE G)) (d + 30) zw_draw 8 [(0, vr 0), (1, vi l1), (2, vi l2), (3, vr 299)] [vi r, vi 0, vr 299] y (fo (kf q1)) (wq q (fun r9 y q1 => ansK (e1Ch x) (e2Dr x l2) (sDr C wr n (c96 w) x l1 l2) x r9 y)) := by
    intro r y q1 hu1 hk1 hH1 hp1
    have n91 : 299 ∈ (fo (kf q1)).2.1 := List.mem_append_right _ (List.mem_singleton.mpr rfl)
    refine T_i2l (dk dtk_L_draw 6 rfl) ?_
    refine T_last 299 1 (dk dtk_L_draw 7 rfl) wE_9 n91 (vin0 (by omega)) ?_
    refine T_goto 21 (dk dtk_L_draw 8 rfl) (by decide) ?_
    refine T_iconst (v := 0) (dk dtk_L_draw 15 rfl) (by decide +kernel) ?_
    exact T_iret (dk dtk_L_draw 16 rfl) rfl rfl ⟨0, q1, rfl, rfl, hu1, hk1, HOI_1 rfl hu1 hH1, Or.inr (Or.inr ⟨hp1.1, hp1.2.1, rfl, r, by rw [sL_c]; exact if_pos rfl, hp1.2.2⟩)⟩
  have hxiSE : e1Ch x → gtry (kE G) (d + 30) zw_draw 5 [(0, vr 0), (1, vi l1), (2, vi l2), (3, vr 299)] [vi 0, vr 299] (wq q (fun r9 y q1 => ansK (e1Ch x) (e2Dr x l2) (sDr C wr n (c96 w) x l1 l2) x r9 y)) x (.inr iSE) x (gth (kf q)) := by
    intro hno
    refine ⟨⟨n9, r9⟩, ⟨0, 10, 13, 27⟩, 4, 2, wct_draw_iSE, Or.inr ⟨rfl, (dk dtk_L_draw 9 rfl)⟩, by decide, rfl, ?_⟩
    refine T_iconst (v := 1) (dk dtk_L_draw 10 rfl) (by decide +kernel) ?_
    exact T_iret (dk dtk_L_draw 11 rfl) rfl rfl ⟨1, kTh q, rfl, rfl, kTh_U hu, kst_th q, HOI_1 rfl (kTh_U hu) (HOI_th hH), Or.inl ⟨hno, rfl, KR_rf⟩⟩
  have hxiAE : e2Dr x l2 → gtry (kE G) (d + 30) zw_draw 5 [(0, vr 0), (1, vi l1), (2, vi l2), (3, vr 299)] [vi 0, vr 299] (wq q (fun r9 y q1 => ansK (e1Ch x) (e2Dr x l2) (sDr C wr n (c96 w) x l1 l2) x r9 y)) x (.inr iAE) x (gth (kf q)) := by
    intro hno
    refine ⟨⟨n9, r9⟩, ⟨0, 10, 17, 13⟩, 4, 2, wct_draw_iAE, Or.inr ⟨rfl, (dk dtk_L_draw 12 rfl)⟩, by decide, rfl, ?_⟩
    refine T_iconst (v := 2) (dk dtk_L_draw 13 rfl) (by decide +kernel) ?_
    exact T_iret (dk dtk_L_draw 14 rfl) rfl rfl ⟨2, kTh q, rfl, rfl, kTh_U hu, kst_th q, HOI_1 rfl (kTh_U hu) (HOI_th hH), Or.inr (Or.inl ⟨hno, rfl, KR_rf⟩)⟩
  refine T_tryF (E := kE G) [vi l1, vi l2] [vi 0, vr 299] (d + 7) rfl (dk dtk_L_draw 5 rfl) kcv_L_40 rfl kk_0 rfl (kl_0 hu.1) (by omega) (Nat.le_of_ble_eq_true rfl) (Nat.le_of_ble_eq_true rfl) (gok_i (av_c (gkr m0) (av_c rfl (av_c rfl (av_c (gkr m9) av_n)))) (as_c rfl (as_c (gkr m9) as_n))) rfl n9 ?_
  refine T_mono (ka_draw (d := d) hj hu.1 hH l1 l2 (P := fun v9 y9 => ∃ r, v9 = some (vi r) ∧ HOI y9 q ∧ ¬ (e1Ch x) ∧ ¬ (e2Dr x l2) ∧ sDr C wr n (c96 w) x l1 l2 r y9) (X := fun c9 y9 => ((c9 = iSE ∧ e1Ch x) ∨ (c9 = iAE ∧ e2Dr x l2)) ∧ y9 = x) (fun h9 => ⟨Or.inl ⟨rfl, h9⟩, rfl⟩) (fun h9 => ⟨Or.inr ⟨rfl, h9⟩, rfl⟩) (fun h8 h9 r y h1 h2 => ⟨r, rfl, h1, h8, h9, h2⟩)) (fun o9 x9 f9 w9 => ?_)
  rcases w9 with ⟨rfl, v, rfl, r, rfl, h1, h2⟩ | ⟨rfl, c9, rfl, hc, rfl⟩
  · exact ⟨⟨n9, r9⟩, ⟨r, rfl⟩, hend r (xo x x9) q hu (kst_rf q) (HOI_1 rfl hu h1) h2⟩
  · rcases hc with ⟨rfl, hno⟩ | ⟨rfl, hno⟩
    · exact hxiSE hno
    · exact hxiAE hno
abbrev zw_again : gy := (yL_again, cL_again, 4, (some .int), [(0, 9, 12, 27), (0, 9, 15, 13)])
set_option maxRecDepth 100000 in
theorem dtk_L_again : dck cL_again [(0, .aload_n 2, 1), (1, .iconst 0, 1), (2, .aload_n 0, 1), (3, .iload_n 1, 1), (4, .invokevirtual 43, 3), (7, .i2l, 1), (8, .lastore, 1), (9, .goto 9, 3), (12, .astore_n 3, 1), (13, .iconst 1, 1), (14, .ireturn, 1), (15, .astore_n 3, 1), (16, .iconst 2, 1), (17, .ireturn, 1), (18, .iconst 0, 1), (19, .ireturn, 1)] = true := by decide +kernel
set_option maxRecDepth 100000 in
theorem wca_again : tables_1_6[148]? = some (Cond.codeWith yL_again cL_again 4 (some .int) [(0, 9, 12, 27), (0, 9, 15, 13)]) := rfl
theorem wcw_again : Cond.codeWith yL_again cL_again 4 (some .int) [(0, 9, 12, 27), (0, 9, 15, 13)] ∈ W0 := W0_in (tp_6 (List.mem_of_getElem? wca_again)) rfl
theorem kcv_L_43 : gMv RL 43 zk_X11_again 1 := ⟨⟨W0_in (tp_6 (List.mem_of_getElem? (i := 149) (by decide +kernel))) rfl, W0_in (tp_6 (List.mem_of_getElem? (i := 150) (by decide +kernel))) rfl, W0_in (tp_6 (List.mem_of_getElem? (i := 151) (by decide +kernel))) rfl, W0_in (tp_1 (List.mem_of_getElem? (i := 1) (by decide +kernel))) rfl, kcw_X11_again⟩, ⟨by decide, by decide, by decide +kernel⟩, by decide, by decide⟩
theorem wct_again_iSE : gCat zw_again 4 iSE ⟨0, 9, 12, 27⟩ := ⟨⟨[], [⟨0, 9, 15, 13⟩], rfl, fun z hz => nomatch hz⟩, rfl, by decide, (W0_in (tp_5 (List.mem_of_getElem? (i := 107) (by decide +kernel))) rfl), by decide⟩
theorem wct_again_iAE : gCat zw_again 4 iAE ⟨0, 9, 15, 13⟩ := ⟨⟨[⟨0, 9, 12, 27⟩], [], rfl, fun z hz => by
  cases hz with
  | head => exact ⟨by decide, iSE, (W0_in (tp_5 (List.mem_of_getElem? (i := 107) (by decide +kernel))) rfl), by decide⟩
  | tail _ hz => cases hz⟩, rfl, by decide, (W0_in (tp_5 (List.mem_of_getElem? (i := 44) (by decide +kernel))) rfl), by decide⟩
set_option maxRecDepth 100000 in
set_option maxHeartbeats 4000000 in
theorem kw_again {G : kG} {q : kP} {d : Nat} {x : gd} {C : gCo} {wr n : Nat} {lm : Nat → Nat} {w : gd} (hj : JH C wr n lm x w) (hu : kU q) (hH : HOI x q) (l1 : Int32) : T (wE (kE G)) (d + 30) zw_again 0 [(0, vr 0), (1, vi l1), (2, vr 299)] [] x (fo (kf q)) (wq q (fun r9 y q1 => ansK (e1Ch x) (e2Ag n x l1) (sAg C wr (c96 w) x l1) x r9 y)) := by
  have m0 : 0 ∈ (fo (kf q)).2.1 := List.mem_append_left _ (kl_0 hu.1)
  have m9 : 299 ∈ (fo (kf q)).2.1 := List.mem_append_right _ (List.mem_singleton.mpr rfl)
  have n9 := n299 hu
  have r9 : NR (kf q) 299 := kU_NR hu n9
  refine T_aload_n 2 (dk dtk_L_again 0 rfl) rfl rfl ?_
  refine T_iconst (v := 0) (dk dtk_L_again 1 rfl) (by decide +kernel) ?_
  refine T_aload_n 0 (dk dtk_L_again 2 rfl) rfl rfl ?_
  refine T_iload_n 1 (dk dtk_L_again 3 rfl) rfl rfl ?_
  have hend : ∀ (r : Int32) (y : gd) (q1 : kP), kU q1 → kst q q1 → HOI y q1 → ¬ (e1Ch x) ∧ ¬ (e2Ag n x l1) ∧ sAg C wr (c96 w) x l1 r y → T (wE (kE G)) (d + 30) zw_again 7 [(0, vr 0), (1, vi l1), (2, vr 299)] [vi r, vi 0, vr 299] y (fo (kf q1)) (wq q (fun r9 y q1 => ansK (e1Ch x) (e2Ag n x l1) (sAg C wr (c96 w) x l1) x r9 y)) := by
    intro r y q1 hu1 hk1 hH1 hp1
    have n91 : 299 ∈ (fo (kf q1)).2.1 := List.mem_append_right _ (List.mem_singleton.mpr rfl)
    refine T_i2l (dk dtk_L_again 5 rfl) ?_
    refine T_last 299 1 (dk dtk_L_again 6 rfl) wE_9 n91 (vin0 (by omega)) ?_
    refine T_goto 18 (dk dtk_L_again 7 rfl) (by decide) ?_
    refine T_iconst (v := 0) (dk dtk_L_again 14 rfl) (by decide +kernel) ?_
    exact T_iret (dk dtk_L_again 15 rfl) rfl rfl ⟨0, q1, rfl, rfl, hu1, hk1, HOI_1 rfl hu1 hH1, Or.inr (Or.inr ⟨hp1.1, hp1.2.1, rfl, r, by rw [sL_c]; exact if_pos rfl, hp1.2.2⟩)⟩
  have hxiSE : e1Ch x → gtry (kE G) (d + 30) zw_again 4 [(0, vr 0), (1, vi l1), (2, vr 299)] [vi 0, vr 299] (wq q (fun r9 y q1 => ansK (e1Ch x) (e2Ag n x l1) (sAg C wr (c96 w) x l1) x r9 y)) x (.inr iSE) x (gth (kf q)) := by
    intro hno
    refine ⟨⟨n9, r9⟩, ⟨0, 9, 12, 27⟩, 3, 1, wct_again_iSE, Or.inl ⟨3, rfl, rfl, (dk dtk_L_again 8 rfl)⟩, by decide, rfl, ?_⟩
    refine T_iconst (v := 1) (dk dtk_L_again 9 rfl) (by decide +kernel) ?_
    exact T_iret (dk dtk_L_again 10 rfl) rfl rfl ⟨1, kTh q, rfl, rfl, kTh_U hu, kst_th q, HOI_1 rfl (kTh_U hu) (HOI_th hH), Or.inl ⟨hno, rfl, KR_rf⟩⟩
  have hxiAE : e2Ag n x l1 → gtry (kE G) (d + 30) zw_again 4 [(0, vr 0), (1, vi l1), (2, vr 299)] [vi 0, vr 299] (wq q (fun r9 y q1 => ansK (e1Ch x) (e2Ag n x l1) (sAg C wr (c96 w) x l1) x r9 y)) x (.inr iAE) x (gth (kf q)) := by
    intro hno
    refine ⟨⟨n9, r9⟩, ⟨0, 9, 15, 13⟩, 3, 1, wct_again_iAE, Or.inl ⟨3, rfl, rfl, (dk dtk_L_again 11 rfl)⟩, by decide, rfl, ?_⟩
    refine T_iconst (v := 2) (dk dtk_L_again 12 rfl) (by decide +kernel) ?_
    exact T_iret (dk dtk_L_again 13 rfl) rfl rfl ⟨2, kTh q, rfl, rfl, kTh_U hu, kst_th q, HOI_1 rfl (kTh_U hu) (HOI_th hH), Or.inr (Or.inl ⟨hno, rfl, KR_rf⟩)⟩
  refine T_tryF (E := kE G) [vi l1] [vi 0, vr 299] (d + 7) rfl (dk dtk_L_again 4 rfl) kcv_L_43 rfl kk_0 rfl (kl_0 hu.1) (by omega) (Nat.le_of_ble_eq_true rfl) (Nat.le_of_ble_eq_true rfl) (gok_i (av_c (gkr m0) (av_c rfl (av_c (gkr m9) av_n))) (as_c rfl (as_c (gkr m9) as_n))) rfl n9 ?_
  refine T_mono (ka_again (d := d) hj hu.1 hH l1 (P := fun v9 y9 => ∃ r, v9 = some (vi r) ∧ HOI y9 q ∧ ¬ (e1Ch x) ∧ ¬ (e2Ag n x l1) ∧ sAg C wr (c96 w) x l1 r y9) (X := fun c9 y9 => ((c9 = iSE ∧ e1Ch x) ∨ (c9 = iAE ∧ e2Ag n x l1)) ∧ y9 = x) (fun h9 => ⟨Or.inl ⟨rfl, h9⟩, rfl⟩) (fun h9 => ⟨Or.inr ⟨rfl, h9⟩, rfl⟩) (fun h8 h9 r y h1 h2 => ⟨r, rfl, h1, h8, h9, h2⟩)) (fun o9 x9 f9 w9 => ?_)
  rcases w9 with ⟨rfl, v, rfl, r, rfl, h1, h2⟩ | ⟨rfl, c9, rfl, hc, rfl⟩
  · exact ⟨⟨n9, r9⟩, ⟨r, rfl⟩, hend r (xo x x9) q hu (kst_rf q) (HOI_1 rfl hu h1) h2⟩
  · rcases hc with ⟨rfl, hno⟩ | ⟨rfl, hno⟩
    · exact hxiSE hno
    · exact hxiAE hno
abbrev zw_run : gy := (yL_run, cL_run, 4, (some .int), [(0, 9, 12, 27), (0, 9, 15, 19)])
set_option maxRecDepth 100000 in
theorem dtk_L_run : dck cL_run [(0, .aload_n 2, 1), (1, .iconst 0, 1), (2, .aload_n 0, 1), (3, .iload_n 1, 1), (4, .invokevirtual 46, 3), (7, .i2l, 1), (8, .lastore, 1), (9, .goto 9, 3), (12, .astore_n 3, 1), (13, .iconst 1, 1), (14, .ireturn, 1), (15, .astore_n 3, 1), (16, .iconst 2, 1), (17, .ireturn, 1), (18, .iconst 0, 1), (19, .ireturn, 1)] = true := by decide +kernel
set_option maxRecDepth 100000 in
theorem wca_run : tables_1_6[156]? = some (Cond.codeWith yL_run cL_run 4 (some .int) [(0, 9, 12, 27), (0, 9, 15, 19)]) := rfl
theorem wcw_run : Cond.codeWith yL_run cL_run 4 (some .int) [(0, 9, 12, 27), (0, 9, 15, 19)] ∈ W0 := W0_in (tp_6 (List.mem_of_getElem? wca_run)) rfl
theorem kcv_L_46 : gMv RL 46 zk_X11_run 1 := ⟨⟨W0_in (tp_6 (List.mem_of_getElem? (i := 157) (by decide +kernel))) rfl, W0_in (tp_6 (List.mem_of_getElem? (i := 158) (by decide +kernel))) rfl, W0_in (tp_6 (List.mem_of_getElem? (i := 159) (by decide +kernel))) rfl, W0_in (tp_1 (List.mem_of_getElem? (i := 1) (by decide +kernel))) rfl, kcw_X11_run⟩, ⟨by decide, by decide, by decide +kernel⟩, by decide, by decide⟩
theorem wct_run_iSE : gCat zw_run 4 iSE ⟨0, 9, 12, 27⟩ := ⟨⟨[], [⟨0, 9, 15, 19⟩], rfl, fun z hz => nomatch hz⟩, rfl, by decide, (W0_in (tp_5 (List.mem_of_getElem? (i := 107) (by decide +kernel))) rfl), by decide⟩
theorem wct_run_iOE : gCat zw_run 4 iOE ⟨0, 9, 15, 19⟩ := ⟨⟨[⟨0, 9, 12, 27⟩], [], rfl, fun z hz => by
  cases hz with
  | head => exact ⟨by decide, iSE, (W0_in (tp_5 (List.mem_of_getElem? (i := 107) (by decide +kernel))) rfl), by decide⟩
  | tail _ hz => cases hz⟩, rfl, by decide, (W0_in (tp_5 (List.mem_of_getElem? (i := 73) (by decide +kernel))) rfl), by decide⟩
set_option maxRecDepth 100000 in
set_option maxHeartbeats 4000000 in
theorem kw_run {G : kG} {q : kP} {d : Nat} {x : gd} (hu : kU q) (hH : HOI x q) (l1 : Int32) : T (wE (kE G)) (d + 30) zw_run 0 [(0, vr 0), (1, vi l1), (2, vr 299)] [] x (fo (kf q)) (wq q (fun _ y q1 => KRd x y)) := by
  have m0 : 0 ∈ (fo (kf q)).2.1 := List.mem_append_left _ (kl_0 hu.1)
  have m9 : 299 ∈ (fo (kf q)).2.1 := List.mem_append_right _ (List.mem_singleton.mpr rfl)
  have n9 := n299 hu
  have r9 : NR (kf q) 299 := kU_NR hu n9
  refine T_aload_n 2 (dk dtk_L_run 0 rfl) rfl rfl ?_
  refine T_iconst (v := 0) (dk dtk_L_run 1 rfl) (by decide +kernel) ?_
  refine T_aload_n 0 (dk dtk_L_run 2 rfl) rfl rfl ?_
  refine T_iload_n 1 (dk dtk_L_run 3 rfl) rfl rfl ?_
  have hend : ∀ (r : Int32) (y : gd) (q1 : kP), kU q1 → kst q q1 → HOI y q1 → (fun _ y q1 => KRd x y) 0 y q1 → T (wE (kE G)) (d + 30) zw_run 7 [(0, vr 0), (1, vi l1), (2, vr 299)] [vi r, vi 0, vr 299] y (fo (kf q1)) (wq q (fun _ y q1 => KRd x y)) := by
    intro r y q1 hu1 hk1 hH1 hp1
    have n91 : 299 ∈ (fo (kf q1)).2.1 := List.mem_append_right _ (List.mem_singleton.mpr rfl)
    refine T_i2l (dk dtk_L_run 5 rfl) ?_
    refine T_last 299 1 (dk dtk_L_run 6 rfl) wE_9 n91 (vin0 (by omega)) ?_
    refine T_goto 18 (dk dtk_L_run 7 rfl) (by decide) ?_
    refine T_iconst (v := 0) (dk dtk_L_run 14 rfl) (by decide +kernel) ?_
    exact T_iret (dk dtk_L_run 15 rfl) rfl rfl ⟨0, q1, rfl, rfl, hu1, hk1, HOI_1 rfl hu1 hH1, hp1⟩
  have hxiSE : gtry (kE G) (d + 30) zw_run 4 [(0, vr 0), (1, vi l1), (2, vr 299)] [vi 0, vr 299] (wq q (fun _ y q1 => KRd x y)) x (.inr iSE) x (gth (kf q)) := by
    refine ⟨⟨n9, r9⟩, ⟨0, 9, 12, 27⟩, 3, 1, wct_run_iSE, Or.inl ⟨3, rfl, rfl, (dk dtk_L_run 8 rfl)⟩, by decide, rfl, ?_⟩
    refine T_iconst (v := 1) (dk dtk_L_run 9 rfl) (by decide +kernel) ?_
    exact T_iret (dk dtk_L_run 10 rfl) rfl rfl ⟨1, kTh q, rfl, rfl, kTh_U hu, kst_th q, HOI_1 rfl (kTh_U hu) (HOI_th hH), KR_rf⟩
  have hxiOE : gtry (kE G) (d + 30) zw_run 4 [(0, vr 0), (1, vi l1), (2, vr 299)] [vi 0, vr 299] (wq q (fun _ y q1 => KRd x y)) x (.inr iOE) x (gth (kf q)) := by
    refine ⟨⟨n9, r9⟩, ⟨0, 9, 15, 19⟩, 3, 1, wct_run_iOE, Or.inl ⟨3, rfl, rfl, (dk dtk_L_run 11 rfl)⟩, by decide, rfl, ?_⟩
    refine T_iconst (v := 2) (dk dtk_L_run 12 rfl) (by decide +kernel) ?_
    exact T_iret (dk dtk_L_run 13 rfl) rfl rfl ⟨2, kTh q, rfl, rfl, kTh_U hu, kst_th q, HOI_1 rfl (kTh_U hu) (HOI_th hH), KR_rf⟩
  refine T_tryF (E := kE G) [vi l1] [vi 0, vr 299] (d + 7) rfl (dk dtk_L_run 4 rfl) kcv_L_46 rfl kk_0 rfl (kl_0 hu.1) (by omega) (Nat.le_of_ble_eq_true rfl) (Nat.le_of_ble_eq_true rfl) (gok_i (av_c (gkr m0) (av_c rfl (av_c (gkr m9) av_n))) (as_c rfl (as_c (gkr m9) as_n))) rfl n9 ?_
  refine T_mono (kr_runq (d := d) hu.1 hH l1 (P := fun v9 y9 => ∃ r, v9 = some (vi r) ∧ HOI y9 q ∧ KRd x y9) (X := fun c9 y9 => (c9 = iSE ∨ c9 = iOE) ∧ y9 = x) ⟨Or.inl rfl, rfl⟩ ⟨Or.inr rfl, rfl⟩ (fun r y h1 h2 => ⟨r, rfl, h1, h2⟩)) (fun o9 x9 f9 w9 => ?_)
  rcases w9 with ⟨rfl, v, rfl, r, rfl, h1, h2⟩ | ⟨rfl, c9, rfl, hc, rfl⟩
  · exact ⟨⟨n9, r9⟩, ⟨r, rfl⟩, hend r (xo x x9) q hu (kst_rf q) (HOI_1 rfl hu h1) h2⟩
  · rcases hc with rfl | rfl
    · exact hxiSE
    · exact hxiOE
abbrev zw_cell : gy := (yL_cell, cL_cell, 4, (some .int), [(0, 9, 12, 27), (0, 9, 15, 19)])
set_option maxRecDepth 100000 in
theorem dtk_L_cell : dck cL_cell [(0, .aload_n 2, 1), (1, .iconst 0, 1), (2, .aload_n 0, 1), (3, .iload_n 1, 1), (4, .invokevirtual 49, 3), (7, .i2l, 1), (8, .lastore, 1), (9, .goto 9, 3), (12, .astore_n 3, 1), (13, .iconst 1, 1), (14, .ireturn, 1), (15, .astore_n 3, 1), (16, .iconst 2, 1), (17, .ireturn, 1), (18, .iconst 0, 1), (19, .ireturn, 1)] = true := by decide +kernel
set_option maxRecDepth 100000 in
theorem wca_cell : tables_1_6[179]? = some (Cond.codeWith yL_cell cL_cell 4 (some .int) [(0, 9, 12, 27), (0, 9, 15, 19)]) := rfl
theorem wcw_cell : Cond.codeWith yL_cell cL_cell 4 (some .int) [(0, 9, 12, 27), (0, 9, 15, 19)] ∈ W0 := W0_in (tp_6 (List.mem_of_getElem? wca_cell)) rfl
theorem kcv_L_49 : gMv RL 49 zk_X11_cell 1 := ⟨⟨W0_in (tp_6 (List.mem_of_getElem? (i := 180) (by decide +kernel))) rfl, W0_in (tp_6 (List.mem_of_getElem? (i := 181) (by decide +kernel))) rfl, W0_in (tp_6 (List.mem_of_getElem? (i := 182) (by decide +kernel))) rfl, W0_in (tp_1 (List.mem_of_getElem? (i := 1) (by decide +kernel))) rfl, kcw_X11_cell⟩, ⟨by decide, by decide, by decide +kernel⟩, by decide, by decide⟩
theorem wct_cell_iSE : gCat zw_cell 4 iSE ⟨0, 9, 12, 27⟩ := ⟨⟨[], [⟨0, 9, 15, 19⟩], rfl, fun z hz => nomatch hz⟩, rfl, by decide, (W0_in (tp_5 (List.mem_of_getElem? (i := 107) (by decide +kernel))) rfl), by decide⟩
theorem wct_cell_iOE : gCat zw_cell 4 iOE ⟨0, 9, 15, 19⟩ := ⟨⟨[⟨0, 9, 12, 27⟩], [], rfl, fun z hz => by
  cases hz with
  | head => exact ⟨by decide, iSE, (W0_in (tp_5 (List.mem_of_getElem? (i := 107) (by decide +kernel))) rfl), by decide⟩
  | tail _ hz => cases hz⟩, rfl, by decide, (W0_in (tp_5 (List.mem_of_getElem? (i := 73) (by decide +kernel))) rfl), by decide⟩
set_option maxRecDepth 100000 in
set_option maxHeartbeats 4000000 in
theorem kw_cell {G : kG} {q : kP} {d : Nat} {x : gd} {C : gCo} {wr n : Nat} {lm : Nat → Nat} {w : gd} (hj : JH C wr n lm x w) (hu : kU q) (hH : HOI x q) (l1 : Int32) : T (wE (kE G)) (d + 30) zw_cell 0 [(0, vr 0), (1, vi l1), (2, vr 299)] [] x (fo (kf q)) (wq q (fun r9 y q1 => ansK (e1Ch x) (e2Ce x l1) (sCe C wr n (c96 w) x l1) x r9 y)) := by
  have m0 : 0 ∈ (fo (kf q)).2.1 := List.mem_append_left _ (kl_0 hu.1)
  have m9 : 299 ∈ (fo (kf q)).2.1 := List.mem_append_right _ (List.mem_singleton.mpr rfl)
  have n9 := n299 hu
  have r9 : NR (kf q) 299 := kU_NR hu n9
  refine T_aload_n 2 (dk dtk_L_cell 0 rfl) rfl rfl ?_
  refine T_iconst (v := 0) (dk dtk_L_cell 1 rfl) (by decide +kernel) ?_
  refine T_aload_n 0 (dk dtk_L_cell 2 rfl) rfl rfl ?_
  refine T_iload_n 1 (dk dtk_L_cell 3 rfl) rfl rfl ?_
  have hend : ∀ (r : Int32) (y : gd) (q1 : kP), kU q1 → kst q q1 → HOI y q1 → ¬ (e1Ch x) ∧ ¬ (e2Ce x l1) ∧ sCe C wr n (c96 w) x l1 r y → T (wE (kE G)) (d + 30) zw_cell 7 [(0, vr 0), (1, vi l1), (2, vr 299)] [vi r, vi 0, vr 299] y (fo (kf q1)) (wq q (fun r9 y q1 => ansK (e1Ch x) (e2Ce x l1) (sCe C wr n (c96 w) x l1) x r9 y)) := by
    intro r y q1 hu1 hk1 hH1 hp1
    have n91 : 299 ∈ (fo (kf q1)).2.1 := List.mem_append_right _ (List.mem_singleton.mpr rfl)
    refine T_i2l (dk dtk_L_cell 5 rfl) ?_
    refine T_last 299 1 (dk dtk_L_cell 6 rfl) wE_9 n91 (vin0 (by omega)) ?_
    refine T_goto 18 (dk dtk_L_cell 7 rfl) (by decide) ?_
    refine T_iconst (v := 0) (dk dtk_L_cell 14 rfl) (by decide +kernel) ?_
    exact T_iret (dk dtk_L_cell 15 rfl) rfl rfl ⟨0, q1, rfl, rfl, hu1, hk1, HOI_1 rfl hu1 hH1, Or.inr (Or.inr ⟨hp1.1, hp1.2.1, rfl, r, by rw [sL_c]; exact if_pos rfl, hp1.2.2⟩)⟩
  have hxiSE : e1Ch x → gtry (kE G) (d + 30) zw_cell 4 [(0, vr 0), (1, vi l1), (2, vr 299)] [vi 0, vr 299] (wq q (fun r9 y q1 => ansK (e1Ch x) (e2Ce x l1) (sCe C wr n (c96 w) x l1) x r9 y)) x (.inr iSE) x (gth (kf q)) := by
    intro hno
    refine ⟨⟨n9, r9⟩, ⟨0, 9, 12, 27⟩, 3, 1, wct_cell_iSE, Or.inl ⟨3, rfl, rfl, (dk dtk_L_cell 8 rfl)⟩, by decide, rfl, ?_⟩
    refine T_iconst (v := 1) (dk dtk_L_cell 9 rfl) (by decide +kernel) ?_
    exact T_iret (dk dtk_L_cell 10 rfl) rfl rfl ⟨1, kTh q, rfl, rfl, kTh_U hu, kst_th q, HOI_1 rfl (kTh_U hu) (HOI_th hH), Or.inl ⟨hno, rfl, KR_rf⟩⟩
  have hxiOE : e2Ce x l1 → gtry (kE G) (d + 30) zw_cell 4 [(0, vr 0), (1, vi l1), (2, vr 299)] [vi 0, vr 299] (wq q (fun r9 y q1 => ansK (e1Ch x) (e2Ce x l1) (sCe C wr n (c96 w) x l1) x r9 y)) x (.inr iOE) x (gth (kf q)) := by
    intro hno
    refine ⟨⟨n9, r9⟩, ⟨0, 9, 15, 19⟩, 3, 1, wct_cell_iOE, Or.inl ⟨3, rfl, rfl, (dk dtk_L_cell 11 rfl)⟩, by decide, rfl, ?_⟩
    refine T_iconst (v := 2) (dk dtk_L_cell 12 rfl) (by decide +kernel) ?_
    exact T_iret (dk dtk_L_cell 13 rfl) rfl rfl ⟨2, kTh q, rfl, rfl, kTh_U hu, kst_th q, HOI_1 rfl (kTh_U hu) (HOI_th hH), Or.inr (Or.inl ⟨hno, rfl, KR_rf⟩)⟩
  refine T_tryF (E := kE G) [vi l1] [vi 0, vr 299] (d + 7) rfl (dk dtk_L_cell 4 rfl) kcv_L_49 rfl kk_0 rfl (kl_0 hu.1) (by omega) (Nat.le_of_ble_eq_true rfl) (Nat.le_of_ble_eq_true rfl) (gok_i (av_c (gkr m0) (av_c rfl (av_c (gkr m9) av_n))) (as_c rfl (as_c (gkr m9) as_n))) rfl n9 ?_
  refine T_mono (ka_cell (d := d) hj hu.1 hH l1 (P := fun v9 y9 => ∃ r, v9 = some (vi r) ∧ HOI y9 q ∧ ¬ (e1Ch x) ∧ ¬ (e2Ce x l1) ∧ sCe C wr n (c96 w) x l1 r y9) (X := fun c9 y9 => ((c9 = iSE ∧ e1Ch x) ∨ (c9 = iOE ∧ e2Ce x l1)) ∧ y9 = x) (fun h9 => ⟨Or.inl ⟨rfl, h9⟩, rfl⟩) (fun h9 => ⟨Or.inr ⟨rfl, h9⟩, rfl⟩) (fun h8 h9 r y h1 h2 => ⟨r, rfl, h1, h8, h9, h2⟩)) (fun o9 x9 f9 w9 => ?_)
  rcases w9 with ⟨rfl, v, rfl, r, rfl, h1, h2⟩ | ⟨rfl, c9, rfl, hc, rfl⟩
  · exact ⟨⟨n9, r9⟩, ⟨r, rfl⟩, hend r (xo x x9) q hu (kst_rf q) (HOI_1 rfl hu h1) h2⟩
  · rcases hc with ⟨rfl, hno⟩ | ⟨rfl, hno⟩
    · exact hxiSE hno
    · exact hxiOE hno
abbrev zw_seen : gy := (yL_seen, cL_seen, 5, (some .int), [(0, 10, 13, 27), (0, 10, 17, 19)])
set_option maxRecDepth 100000 in
theorem dtk_L_seen : dck cL_seen [(0, .aload_n 3, 1), (1, .iconst 0, 1), (2, .aload_n 0, 1), (3, .iload_n 1, 1), (4, .iload_n 2, 1), (5, .invokevirtual 52, 3), (8, .i2l, 1), (9, .lastore, 1), (10, .goto 11, 3), (13, .astore 4, 2), (15, .iconst 1, 1), (16, .ireturn, 1), (17, .astore 4, 2), (19, .iconst 2, 1), (20, .ireturn, 1), (21, .iconst 0, 1), (22, .ireturn, 1)] = true := by decide +kernel
set_option maxRecDepth 100000 in
theorem wca_seen : tables_1_6[186]? = some (Cond.codeWith yL_seen cL_seen 5 (some .int) [(0, 10, 13, 27), (0, 10, 17, 19)]) := rfl
theorem wcw_seen : Cond.codeWith yL_seen cL_seen 5 (some .int) [(0, 10, 13, 27), (0, 10, 17, 19)] ∈ W0 := W0_in (tp_6 (List.mem_of_getElem? wca_seen)) rfl
theorem kcv_L_52 : gMv RL 52 zk_X11_seen 2 := ⟨⟨W0_in (tp_6 (List.mem_of_getElem? (i := 187) (by decide +kernel))) rfl, W0_in (tp_6 (List.mem_of_getElem? (i := 188) (by decide +kernel))) rfl, W0_in (tp_6 (List.mem_of_getElem? (i := 189) (by decide +kernel))) rfl, W0_in (tp_1 (List.mem_of_getElem? (i := 1) (by decide +kernel))) rfl, kcw_X11_seen⟩, ⟨by decide, by decide, by decide +kernel⟩, by decide, by decide⟩
theorem wct_seen_iSE : gCat zw_seen 5 iSE ⟨0, 10, 13, 27⟩ := ⟨⟨[], [⟨0, 10, 17, 19⟩], rfl, fun z hz => nomatch hz⟩, rfl, by decide, (W0_in (tp_5 (List.mem_of_getElem? (i := 107) (by decide +kernel))) rfl), by decide⟩
theorem wct_seen_iOE : gCat zw_seen 5 iOE ⟨0, 10, 17, 19⟩ := ⟨⟨[⟨0, 10, 13, 27⟩], [], rfl, fun z hz => by
  cases hz with
  | head => exact ⟨by decide, iSE, (W0_in (tp_5 (List.mem_of_getElem? (i := 107) (by decide +kernel))) rfl), by decide⟩
  | tail _ hz => cases hz⟩, rfl, by decide, (W0_in (tp_5 (List.mem_of_getElem? (i := 73) (by decide +kernel))) rfl), by decide⟩
set_option maxRecDepth 100000 in
set_option maxHeartbeats 4000000 in
theorem kw_seen {G : kG} {q : kP} {d : Nat} {x : gd} {C : gCo} {wr n : Nat} {lm : Nat → Nat} {w : gd} (hj : JH C wr n lm x w) (hu : kU q) (hH : HOI x q) (l1 : Int32) (l2 : Int32) : T (wE (kE G)) (d + 30) zw_seen 0 [(0, vr 0), (1, vi l1), (2, vi l2), (3, vr 299)] [] x (fo (kf q)) (wq q (fun r9 y q1 => ansK (e1Ch x) (e2Se x l1 l2) (sSe C wr n (c96 w) x l1 l2) x r9 y)) := by
  have m0 : 0 ∈ (fo (kf q)).2.1 := List.mem_append_left _ (kl_0 hu.1)
  have m9 : 299 ∈ (fo (kf q)).2.1 := List.mem_append_right _ (List.mem_singleton.mpr rfl)
  have n9 := n299 hu
  have r9 : NR (kf q) 299 := kU_NR hu n9
  refine T_aload_n 3 (dk dtk_L_seen 0 rfl) rfl rfl ?_
  refine T_iconst (v := 0) (dk dtk_L_seen 1 rfl) (by decide +kernel) ?_
  refine T_aload_n 0 (dk dtk_L_seen 2 rfl) rfl rfl ?_
  refine T_iload_n 1 (dk dtk_L_seen 3 rfl) rfl rfl ?_
  refine T_iload_n 2 (dk dtk_L_seen 4 rfl) rfl rfl ?_
  have hend : ∀ (r : Int32) (y : gd) (q1 : kP), kU q1 → kst q q1 → HOI y q1 → ¬ (e1Ch x) ∧ ¬ (e2Se x l1 l2) ∧ sSe C wr n (c96 w) x l1 l2 r y → T (wE (kE G)) (d + 30) zw_seen 8 [(0, vr 0), (1, vi l1), (2, vi l2), (3, vr 299)] [vi r, vi 0, vr 299] y (fo (kf q1)) (wq q (fun r9 y q1 => ansK (e1Ch x) (e2Se x l1 l2) (sSe C wr n (c96 w) x l1 l2) x r9 y)) := by
    intro r y q1 hu1 hk1 hH1 hp1
    have n91 : 299 ∈ (fo (kf q1)).2.1 := List.mem_append_right _ (List.mem_singleton.mpr rfl)
    refine T_i2l (dk dtk_L_seen 6 rfl) ?_
    refine T_last 299 1 (dk dtk_L_seen 7 rfl) wE_9 n91 (vin0 (by omega)) ?_
    refine T_goto 21 (dk dtk_L_seen 8 rfl) (by decide) ?_
    refine T_iconst (v := 0) (dk dtk_L_seen 15 rfl) (by decide +kernel) ?_
    exact T_iret (dk dtk_L_seen 16 rfl) rfl rfl ⟨0, q1, rfl, rfl, hu1, hk1, HOI_1 rfl hu1 hH1, Or.inr (Or.inr ⟨hp1.1, hp1.2.1, rfl, r, by rw [sL_c]; exact if_pos rfl, hp1.2.2⟩)⟩
  have hxiSE : e1Ch x → gtry (kE G) (d + 30) zw_seen 5 [(0, vr 0), (1, vi l1), (2, vi l2), (3, vr 299)] [vi 0, vr 299] (wq q (fun r9 y q1 => ansK (e1Ch x) (e2Se x l1 l2) (sSe C wr n (c96 w) x l1 l2) x r9 y)) x (.inr iSE) x (gth (kf q)) := by
    intro hno
    refine ⟨⟨n9, r9⟩, ⟨0, 10, 13, 27⟩, 4, 2, wct_seen_iSE, Or.inr ⟨rfl, (dk dtk_L_seen 9 rfl)⟩, by decide, rfl, ?_⟩
    refine T_iconst (v := 1) (dk dtk_L_seen 10 rfl) (by decide +kernel) ?_
    exact T_iret (dk dtk_L_seen 11 rfl) rfl rfl ⟨1, kTh q, rfl, rfl, kTh_U hu, kst_th q, HOI_1 rfl (kTh_U hu) (HOI_th hH), Or.inl ⟨hno, rfl, KR_rf⟩⟩
  have hxiOE : e2Se x l1 l2 → gtry (kE G) (d + 30) zw_seen 5 [(0, vr 0), (1, vi l1), (2, vi l2), (3, vr 299)] [vi 0, vr 299] (wq q (fun r9 y q1 => ansK (e1Ch x) (e2Se x l1 l2) (sSe C wr n (c96 w) x l1 l2) x r9 y)) x (.inr iOE) x (gth (kf q)) := by
    intro hno
    refine ⟨⟨n9, r9⟩, ⟨0, 10, 17, 19⟩, 4, 2, wct_seen_iOE, Or.inr ⟨rfl, (dk dtk_L_seen 12 rfl)⟩, by decide, rfl, ?_⟩
    refine T_iconst (v := 2) (dk dtk_L_seen 13 rfl) (by decide +kernel) ?_
    exact T_iret (dk dtk_L_seen 14 rfl) rfl rfl ⟨2, kTh q, rfl, rfl, kTh_U hu, kst_th q, HOI_1 rfl (kTh_U hu) (HOI_th hH), Or.inr (Or.inl ⟨hno, rfl, KR_rf⟩)⟩
  refine T_tryF (E := kE G) [vi l1, vi l2] [vi 0, vr 299] (d + 7) rfl (dk dtk_L_seen 5 rfl) kcv_L_52 rfl kk_0 rfl (kl_0 hu.1) (by omega) (Nat.le_of_ble_eq_true rfl) (Nat.le_of_ble_eq_true rfl) (gok_i (av_c (gkr m0) (av_c rfl (av_c rfl (av_c (gkr m9) av_n)))) (as_c rfl (as_c (gkr m9) as_n))) rfl n9 ?_
  refine T_mono (ka_seen (d := d) hj hu.1 hH l1 l2 (P := fun v9 y9 => ∃ r, v9 = some (vi r) ∧ HOI y9 q ∧ ¬ (e1Ch x) ∧ ¬ (e2Se x l1 l2) ∧ sSe C wr n (c96 w) x l1 l2 r y9) (X := fun c9 y9 => ((c9 = iSE ∧ e1Ch x) ∨ (c9 = iOE ∧ e2Se x l1 l2)) ∧ y9 = x) (fun h9 => ⟨Or.inl ⟨rfl, h9⟩, rfl⟩) (fun h9 => ⟨Or.inr ⟨rfl, h9⟩, rfl⟩) (fun h8 h9 r y h1 h2 => ⟨r, rfl, h1, h8, h9, h2⟩)) (fun o9 x9 f9 w9 => ?_)
  rcases w9 with ⟨rfl, v, rfl, r, rfl, h1, h2⟩ | ⟨rfl, c9, rfl, hc, rfl⟩
  · exact ⟨⟨n9, r9⟩, ⟨r, rfl⟩, hend r (xo x x9) q hu (kst_rf q) (HOI_1 rfl hu h1) h2⟩
  · rcases hc with ⟨rfl, hno⟩ | ⟨rfl, hno⟩
    · exact hxiSE hno
    · exact hxiOE hno
abbrev zw_lock : gy := (yL_lock, cL_lock, 5, (some .int), [(0, 10, 13, 27), (0, 10, 17, 19)])
set_option maxRecDepth 100000 in
theorem dtk_L_lock : dck cL_lock [(0, .aload_n 3, 1), (1, .iconst 0, 1), (2, .aload_n 0, 1), (3, .iload_n 1, 1), (4, .iload_n 2, 1), (5, .invokevirtual 55, 3), (8, .i2l, 1), (9, .lastore, 1), (10, .goto 11, 3), (13, .astore 4, 2), (15, .iconst 1, 1), (16, .ireturn, 1), (17, .astore 4, 2), (19, .iconst 2, 1), (20, .ireturn, 1), (21, .iconst 0, 1), (22, .ireturn, 1)] = true := by decide +kernel
set_option maxRecDepth 100000 in
theorem wca_lock : tables_1_6[194]? = some (Cond.codeWith yL_lock cL_lock 5 (some .int) [(0, 10, 13, 27), (0, 10, 17, 19)]) := rfl
theorem wcw_lock : Cond.codeWith yL_lock cL_lock 5 (some .int) [(0, 10, 13, 27), (0, 10, 17, 19)] ∈ W0 := W0_in (tp_6 (List.mem_of_getElem? wca_lock)) rfl
theorem kcv_L_55 : gMv RL 55 zk_X11_lock 2 := ⟨⟨W0_in (tp_6 (List.mem_of_getElem? (i := 195) (by decide +kernel))) rfl, W0_in (tp_6 (List.mem_of_getElem? (i := 196) (by decide +kernel))) rfl, W0_in (tp_6 (List.mem_of_getElem? (i := 197) (by decide +kernel))) rfl, W0_in (tp_1 (List.mem_of_getElem? (i := 1) (by decide +kernel))) rfl, kcw_X11_lock⟩, ⟨by decide, by decide, by decide +kernel⟩, by decide, by decide⟩
theorem wct_lock_iSE : gCat zw_lock 5 iSE ⟨0, 10, 13, 27⟩ := ⟨⟨[], [⟨0, 10, 17, 19⟩], rfl, fun z hz => nomatch hz⟩, rfl, by decide, (W0_in (tp_5 (List.mem_of_getElem? (i := 107) (by decide +kernel))) rfl), by decide⟩
theorem wct_lock_iOE : gCat zw_lock 5 iOE ⟨0, 10, 17, 19⟩ := ⟨⟨[⟨0, 10, 13, 27⟩], [], rfl, fun z hz => by
  cases hz with
  | head => exact ⟨by decide, iSE, (W0_in (tp_5 (List.mem_of_getElem? (i := 107) (by decide +kernel))) rfl), by decide⟩
  | tail _ hz => cases hz⟩, rfl, by decide, (W0_in (tp_5 (List.mem_of_getElem? (i := 73) (by decide +kernel))) rfl), by decide⟩
set_option maxRecDepth 100000 in
set_option maxHeartbeats 4000000 in
theorem kw_lock {G : kG} {q : kP} {d : Nat} {x : gd} (hu : kU q) (hH : HOI x q) (l1 : Int32) (l2 : Int32) : T (wE (kE G)) (d + 30) zw_lock 0 [(0, vr 0), (1, vi l1), (2, vi l2), (3, vr 299)] [] x (fo (kf q)) (wq q (fun _ y q1 => KRd x y)) := by
  have m0 : 0 ∈ (fo (kf q)).2.1 := List.mem_append_left _ (kl_0 hu.1)
  have m9 : 299 ∈ (fo (kf q)).2.1 := List.mem_append_right _ (List.mem_singleton.mpr rfl)
  have n9 := n299 hu
  have r9 : NR (kf q) 299 := kU_NR hu n9
  refine T_aload_n 3 (dk dtk_L_lock 0 rfl) rfl rfl ?_
  refine T_iconst (v := 0) (dk dtk_L_lock 1 rfl) (by decide +kernel) ?_
  refine T_aload_n 0 (dk dtk_L_lock 2 rfl) rfl rfl ?_
  refine T_iload_n 1 (dk dtk_L_lock 3 rfl) rfl rfl ?_
  refine T_iload_n 2 (dk dtk_L_lock 4 rfl) rfl rfl ?_
  have hend : ∀ (r : Int32) (y : gd) (q1 : kP), kU q1 → kst q q1 → HOI y q1 → (fun _ y q1 => KRd x y) 0 y q1 → T (wE (kE G)) (d + 30) zw_lock 8 [(0, vr 0), (1, vi l1), (2, vi l2), (3, vr 299)] [vi r, vi 0, vr 299] y (fo (kf q1)) (wq q (fun _ y q1 => KRd x y)) := by
    intro r y q1 hu1 hk1 hH1 hp1
    have n91 : 299 ∈ (fo (kf q1)).2.1 := List.mem_append_right _ (List.mem_singleton.mpr rfl)
    refine T_i2l (dk dtk_L_lock 6 rfl) ?_
    refine T_last 299 1 (dk dtk_L_lock 7 rfl) wE_9 n91 (vin0 (by omega)) ?_
    refine T_goto 21 (dk dtk_L_lock 8 rfl) (by decide) ?_
    refine T_iconst (v := 0) (dk dtk_L_lock 15 rfl) (by decide +kernel) ?_
    exact T_iret (dk dtk_L_lock 16 rfl) rfl rfl ⟨0, q1, rfl, rfl, hu1, hk1, HOI_1 rfl hu1 hH1, hp1⟩
  have hxiSE : gtry (kE G) (d + 30) zw_lock 5 [(0, vr 0), (1, vi l1), (2, vi l2), (3, vr 299)] [vi 0, vr 299] (wq q (fun _ y q1 => KRd x y)) x (.inr iSE) x (gth (kf q)) := by
    refine ⟨⟨n9, r9⟩, ⟨0, 10, 13, 27⟩, 4, 2, wct_lock_iSE, Or.inr ⟨rfl, (dk dtk_L_lock 9 rfl)⟩, by decide, rfl, ?_⟩
    refine T_iconst (v := 1) (dk dtk_L_lock 10 rfl) (by decide +kernel) ?_
    exact T_iret (dk dtk_L_lock 11 rfl) rfl rfl ⟨1, kTh q, rfl, rfl, kTh_U hu, kst_th q, HOI_1 rfl (kTh_U hu) (HOI_th hH), KR_rf⟩
  have hxiOE : gtry (kE G) (d + 30) zw_lock 5 [(0, vr 0), (1, vi l1), (2, vi l2), (3, vr 299)] [vi 0, vr 299] (wq q (fun _ y q1 => KRd x y)) x (.inr iOE) x (gth (kf q)) := by
    refine ⟨⟨n9, r9⟩, ⟨0, 10, 17, 19⟩, 4, 2, wct_lock_iOE, Or.inr ⟨rfl, (dk dtk_L_lock 12 rfl)⟩, by decide, rfl, ?_⟩
    refine T_iconst (v := 2) (dk dtk_L_lock 13 rfl) (by decide +kernel) ?_
    exact T_iret (dk dtk_L_lock 14 rfl) rfl rfl ⟨2, kTh q, rfl, rfl, kTh_U hu, kst_th q, HOI_1 rfl (kTh_U hu) (HOI_th hH), KR_rf⟩
  refine T_tryF (E := kE G) [vi l1, vi l2] [vi 0, vr 299] (d + 7) rfl (dk dtk_L_lock 5 rfl) kcv_L_55 rfl kk_0 rfl (kl_0 hu.1) (by omega) (Nat.le_of_ble_eq_true rfl) (Nat.le_of_ble_eq_true rfl) (gok_i (av_c (gkr m0) (av_c rfl (av_c rfl (av_c (gkr m9) av_n)))) (as_c rfl (as_c (gkr m9) as_n))) rfl n9 ?_
  refine T_mono (kr_lock (d := d) hu.1 hH l1 l2 (P := fun v9 y9 => ∃ r, v9 = some (vi r) ∧ HOI y9 q ∧ KRd x y9) (X := fun c9 y9 => (c9 = iSE ∨ c9 = iOE) ∧ y9 = x) ⟨Or.inl rfl, rfl⟩ ⟨Or.inr rfl, rfl⟩ (fun r y h1 h2 => ⟨r, rfl, h1, h2⟩)) (fun o9 x9 f9 w9 => ?_)
  rcases w9 with ⟨rfl, v, rfl, r, rfl, h1, h2⟩ | ⟨rfl, c9, rfl, hc, rfl⟩
  · exact ⟨⟨n9, r9⟩, ⟨r, rfl⟩, hend r (xo x x9) q hu (kst_rf q) (HOI_1 rfl hu h1) h2⟩
  · rcases hc with rfl | rfl
    · exact hxiSE
    · exact hxiOE
abbrev zw_thread : gy := (yL_thread, cL_thread, 5, (some .int), [(0, 10, 13, 27), (0, 10, 17, 19)])
set_option maxRecDepth 100000 in
theorem dtk_L_thread : dck cL_thread [(0, .aload_n 3, 1), (1, .iconst 0, 1), (2, .aload_n 0, 1), (3, .iload_n 1, 1), (4, .iload_n 2, 1), (5, .invokevirtual 58, 3), (8, .i2l, 1), (9, .lastore, 1), (10, .goto 11, 3), (13, .astore 4, 2), (15, .iconst 1, 1), (16, .ireturn, 1), (17, .astore 4, 2), (19, .iconst 2, 1), (20, .ireturn, 1), (21, .iconst 0, 1), (22, .ireturn, 1)] = true := by decide +kernel
set_option maxRecDepth 100000 in
theorem wca_thread : tables_1_6[210]? = some (Cond.codeWith yL_thread cL_thread 5 (some .int) [(0, 10, 13, 27), (0, 10, 17, 19)]) := rfl
theorem wcw_thread : Cond.codeWith yL_thread cL_thread 5 (some .int) [(0, 10, 13, 27), (0, 10, 17, 19)] ∈ W0 := W0_in (tp_6 (List.mem_of_getElem? wca_thread)) rfl
theorem kcv_L_58 : gMv RL 58 zk_X11_thread 2 := ⟨⟨W0_in (tp_6 (List.mem_of_getElem? (i := 211) (by decide +kernel))) rfl, W0_in (tp_6 (List.mem_of_getElem? (i := 212) (by decide +kernel))) rfl, W0_in (tp_6 (List.mem_of_getElem? (i := 213) (by decide +kernel))) rfl, W0_in (tp_1 (List.mem_of_getElem? (i := 1) (by decide +kernel))) rfl, kcw_X11_thread⟩, ⟨by decide, by decide, by decide +kernel⟩, by decide, by decide⟩
theorem wct_thread_iSE : gCat zw_thread 5 iSE ⟨0, 10, 13, 27⟩ := ⟨⟨[], [⟨0, 10, 17, 19⟩], rfl, fun z hz => nomatch hz⟩, rfl, by decide, (W0_in (tp_5 (List.mem_of_getElem? (i := 107) (by decide +kernel))) rfl), by decide⟩
theorem wct_thread_iOE : gCat zw_thread 5 iOE ⟨0, 10, 17, 19⟩ := ⟨⟨[⟨0, 10, 13, 27⟩], [], rfl, fun z hz => by
  cases hz with
  | head => exact ⟨by decide, iSE, (W0_in (tp_5 (List.mem_of_getElem? (i := 107) (by decide +kernel))) rfl), by decide⟩
  | tail _ hz => cases hz⟩, rfl, by decide, (W0_in (tp_5 (List.mem_of_getElem? (i := 73) (by decide +kernel))) rfl), by decide⟩
set_option maxRecDepth 100000 in
set_option maxHeartbeats 4000000 in
theorem kw_thread {G : kG} {q : kP} {d : Nat} {x : gd} (hu : kU q) (hH : HOI x q) (l1 : Int32) (l2 : Int32) : T (wE (kE G)) (d + 30) zw_thread 0 [(0, vr 0), (1, vi l1), (2, vi l2), (3, vr 299)] [] x (fo (kf q)) (wq q (fun _ y q1 => KRd x y)) := by
  have m0 : 0 ∈ (fo (kf q)).2.1 := List.mem_append_left _ (kl_0 hu.1)
  have m9 : 299 ∈ (fo (kf q)).2.1 := List.mem_append_right _ (List.mem_singleton.mpr rfl)
  have n9 := n299 hu
  have r9 : NR (kf q) 299 := kU_NR hu n9
  refine T_aload_n 3 (dk dtk_L_thread 0 rfl) rfl rfl ?_
  refine T_iconst (v := 0) (dk dtk_L_thread 1 rfl) (by decide +kernel) ?_
  refine T_aload_n 0 (dk dtk_L_thread 2 rfl) rfl rfl ?_
  refine T_iload_n 1 (dk dtk_L_thread 3 rfl) rfl rfl ?_
  refine T_iload_n 2 (dk dtk_L_thread 4 rfl) rfl rfl ?_
  have hend : ∀ (r : Int32) (y : gd) (q1 : kP), kU q1 → kst q q1 → HOI y q1 → (fun _ y q1 => KRd x y) 0 y q1 → T (wE (kE G)) (d + 30) zw_thread 8 [(0, vr 0), (1, vi l1), (2, vi l2), (3, vr 299)] [vi r, vi 0, vr 299] y (fo (kf q1)) (wq q (fun _ y q1 => KRd x y)) := by
    intro r y q1 hu1 hk1 hH1 hp1
    have n91 : 299 ∈ (fo (kf q1)).2.1 := List.mem_append_right _ (List.mem_singleton.mpr rfl)
    refine T_i2l (dk dtk_L_thread 6 rfl) ?_
    refine T_last 299 1 (dk dtk_L_thread 7 rfl) wE_9 n91 (vin0 (by omega)) ?_
    refine T_goto 21 (dk dtk_L_thread 8 rfl) (by decide) ?_
    refine T_iconst (v := 0) (dk dtk_L_thread 15 rfl) (by decide +kernel) ?_
    exact T_iret (dk dtk_L_thread 16 rfl) rfl rfl ⟨0, q1, rfl, rfl, hu1, hk1, HOI_1 rfl hu1 hH1, hp1⟩
  have hxiSE : gtry (kE G) (d + 30) zw_thread 5 [(0, vr 0), (1, vi l1), (2, vi l2), (3, vr 299)] [vi 0, vr 299] (wq q (fun _ y q1 => KRd x y)) x (.inr iSE) x (gth (kf q)) := by
    refine ⟨⟨n9, r9⟩, ⟨0, 10, 13, 27⟩, 4, 2, wct_thread_iSE, Or.inr ⟨rfl, (dk dtk_L_thread 9 rfl)⟩, by decide, rfl, ?_⟩
    refine T_iconst (v := 1) (dk dtk_L_thread 10 rfl) (by decide +kernel) ?_
    exact T_iret (dk dtk_L_thread 11 rfl) rfl rfl ⟨1, kTh q, rfl, rfl, kTh_U hu, kst_th q, HOI_1 rfl (kTh_U hu) (HOI_th hH), KR_rf⟩
  have hxiOE : gtry (kE G) (d + 30) zw_thread 5 [(0, vr 0), (1, vi l1), (2, vi l2), (3, vr 299)] [vi 0, vr 299] (wq q (fun _ y q1 => KRd x y)) x (.inr iOE) x (gth (kf q)) := by
    refine ⟨⟨n9, r9⟩, ⟨0, 10, 17, 19⟩, 4, 2, wct_thread_iOE, Or.inr ⟨rfl, (dk dtk_L_thread 12 rfl)⟩, by decide, rfl, ?_⟩
    refine T_iconst (v := 2) (dk dtk_L_thread 13 rfl) (by decide +kernel) ?_
    exact T_iret (dk dtk_L_thread 14 rfl) rfl rfl ⟨2, kTh q, rfl, rfl, kTh_U hu, kst_th q, HOI_1 rfl (kTh_U hu) (HOI_th hH), KR_rf⟩
  refine T_tryF (E := kE G) [vi l1, vi l2] [vi 0, vr 299] (d + 7) rfl (dk dtk_L_thread 5 rfl) kcv_L_58 rfl kk_0 rfl (kl_0 hu.1) (by omega) (Nat.le_of_ble_eq_true rfl) (Nat.le_of_ble_eq_true rfl) (gok_i (av_c (gkr m0) (av_c rfl (av_c rfl (av_c (gkr m9) av_n)))) (as_c rfl (as_c (gkr m9) as_n))) rfl n9 ?_
  refine T_mono (kr_thread (d := d) hu.1 hH l1 l2 (P := fun v9 y9 => ∃ r, v9 = some (vi r) ∧ HOI y9 q ∧ KRd x y9) (X := fun c9 y9 => (c9 = iSE ∨ c9 = iOE) ∧ y9 = x) ⟨Or.inl rfl, rfl⟩ ⟨Or.inr rfl, rfl⟩ (fun r y h1 h2 => ⟨r, rfl, h1, h2⟩)) (fun o9 x9 f9 w9 => ?_)
  rcases w9 with ⟨rfl, v, rfl, r, rfl, h1, h2⟩ | ⟨rfl, c9, rfl, hc, rfl⟩
  · exact ⟨⟨n9, r9⟩, ⟨r, rfl⟩, hend r (xo x x9) q hu (kst_rf q) (HOI_1 rfl hu h1) h2⟩
  · rcases hc with rfl | rfl
    · exact hxiSE
    · exact hxiOE
abbrev zw_local : gy := (yL_local, cL_local, 5, (some .int), [(0, 10, 13, 27), (0, 10, 17, 19)])
set_option maxRecDepth 100000 in
theorem dtk_L_local : dck cL_local [(0, .aload_n 3, 1), (1, .iconst 0, 1), (2, .aload_n 0, 1), (3, .iload_n 1, 1), (4, .iload_n 2, 1), (5, .invokevirtual 61, 3), (8, .i2l, 1), (9, .lastore, 1), (10, .goto 11, 3), (13, .astore 4, 2), (15, .iconst 1, 1), (16, .ireturn, 1), (17, .astore 4, 2), (19, .iconst 2, 1), (20, .ireturn, 1), (21, .iconst 0, 1), (22, .ireturn, 1)] = true := by decide +kernel
set_option maxRecDepth 100000 in
theorem wca_local : tables_1_6[223]? = some (Cond.codeWith yL_local cL_local 5 (some .int) [(0, 10, 13, 27), (0, 10, 17, 19)]) := rfl
theorem wcw_local : Cond.codeWith yL_local cL_local 5 (some .int) [(0, 10, 13, 27), (0, 10, 17, 19)] ∈ W0 := W0_in (tp_6 (List.mem_of_getElem? wca_local)) rfl
theorem kcv_L_61 : gMv RL 61 zk_X11_local 2 := ⟨⟨W0_in (tp_6 (List.mem_of_getElem? (i := 224) (by decide +kernel))) rfl, W0_in (tp_6 (List.mem_of_getElem? (i := 225) (by decide +kernel))) rfl, W0_in (tp_6 (List.mem_of_getElem? (i := 226) (by decide +kernel))) rfl, W0_in (tp_1 (List.mem_of_getElem? (i := 1) (by decide +kernel))) rfl, kcw_X11_local⟩, ⟨by decide, by decide, by decide +kernel⟩, by decide, by decide⟩
theorem wct_local_iSE : gCat zw_local 5 iSE ⟨0, 10, 13, 27⟩ := ⟨⟨[], [⟨0, 10, 17, 19⟩], rfl, fun z hz => nomatch hz⟩, rfl, by decide, (W0_in (tp_5 (List.mem_of_getElem? (i := 107) (by decide +kernel))) rfl), by decide⟩
theorem wct_local_iOE : gCat zw_local 5 iOE ⟨0, 10, 17, 19⟩ := ⟨⟨[⟨0, 10, 13, 27⟩], [], rfl, fun z hz => by
  cases hz with
  | head => exact ⟨by decide, iSE, (W0_in (tp_5 (List.mem_of_getElem? (i := 107) (by decide +kernel))) rfl), by decide⟩
  | tail _ hz => cases hz⟩, rfl, by decide, (W0_in (tp_5 (List.mem_of_getElem? (i := 73) (by decide +kernel))) rfl), by decide⟩
set_option maxRecDepth 100000 in
set_option maxHeartbeats 4000000 in
theorem kw_local {G : kG} {q : kP} {d : Nat} {x : gd} {C : gCo} {wr n : Nat} {lm : Nat → Nat} {w : gd} (hj : JH C wr n lm x w) (hu : kU q) (hH : HOI x q) (l1 : Int32) (l2 : Int32) : T (wE (kE G)) (d + 30) zw_local 0 [(0, vr 0), (1, vi l1), (2, vi l2), (3, vr 299)] [] x (fo (kf q)) (wq q (fun r9 y q1 => ansK (e1Ch x) (e2Lo C wr n (c96 w) x l1 l2) (sLo C wr n (c96 w) x l1 l2) x r9 y)) := by
  have m0 : 0 ∈ (fo (kf q)).2.1 := List.mem_append_left _ (kl_0 hu.1)
  have m9 : 299 ∈ (fo (kf q)).2.1 := List.mem_append_right _ (List.mem_singleton.mpr rfl)
  have n9 := n299 hu
  have r9 : NR (kf q) 299 := kU_NR hu n9
  refine T_aload_n 3 (dk dtk_L_local 0 rfl) rfl rfl ?_
  refine T_iconst (v := 0) (dk dtk_L_local 1 rfl) (by decide +kernel) ?_
  refine T_aload_n 0 (dk dtk_L_local 2 rfl) rfl rfl ?_
  refine T_iload_n 1 (dk dtk_L_local 3 rfl) rfl rfl ?_
  refine T_iload_n 2 (dk dtk_L_local 4 rfl) rfl rfl ?_
  have hend : ∀ (r : Int32) (y : gd) (q1 : kP), kU q1 → kst q q1 → HOI y q1 → ¬ (e1Ch x) ∧ ¬ (e2Lo C wr n (c96 w) x l1 l2) ∧ sLo C wr n (c96 w) x l1 l2 r y → T (wE (kE G)) (d + 30) zw_local 8 [(0, vr 0), (1, vi l1), (2, vi l2), (3, vr 299)] [vi r, vi 0, vr 299] y (fo (kf q1)) (wq q (fun r9 y q1 => ansK (e1Ch x) (e2Lo C wr n (c96 w) x l1 l2) (sLo C wr n (c96 w) x l1 l2) x r9 y)) := by
    intro r y q1 hu1 hk1 hH1 hp1
    have n91 : 299 ∈ (fo (kf q1)).2.1 := List.mem_append_right _ (List.mem_singleton.mpr rfl)
    refine T_i2l (dk dtk_L_local 6 rfl) ?_
    refine T_last 299 1 (dk dtk_L_local 7 rfl) wE_9 n91 (vin0 (by omega)) ?_
    refine T_goto 21 (dk dtk_L_local 8 rfl) (by decide) ?_
    refine T_iconst (v := 0) (dk dtk_L_local 15 rfl) (by decide +kernel) ?_
    exact T_iret (dk dtk_L_local 16 rfl) rfl rfl ⟨0, q1, rfl, rfl, hu1, hk1, HOI_1 rfl hu1 hH1, Or.inr (Or.inr ⟨hp1.1, hp1.2.1, rfl, r, by rw [sL_c]; exact if_pos rfl, hp1.2.2⟩)⟩
  have hxiSE : e1Ch x → gtry (kE G) (d + 30) zw_local 5 [(0, vr 0), (1, vi l1), (2, vi l2), (3, vr 299)] [vi 0, vr 299] (wq q (fun r9 y q1 => ansK (e1Ch x) (e2Lo C wr n (c96 w) x l1 l2) (sLo C wr n (c96 w) x l1 l2) x r9 y)) x (.inr iSE) x (gth (kf q)) := by
    intro hno
    refine ⟨⟨n9, r9⟩, ⟨0, 10, 13, 27⟩, 4, 2, wct_local_iSE, Or.inr ⟨rfl, (dk dtk_L_local 9 rfl)⟩, by decide, rfl, ?_⟩
    refine T_iconst (v := 1) (dk dtk_L_local 10 rfl) (by decide +kernel) ?_
    exact T_iret (dk dtk_L_local 11 rfl) rfl rfl ⟨1, kTh q, rfl, rfl, kTh_U hu, kst_th q, HOI_1 rfl (kTh_U hu) (HOI_th hH), Or.inl ⟨hno, rfl, KR_rf⟩⟩
  have hxiOE : e2Lo C wr n (c96 w) x l1 l2 → gtry (kE G) (d + 30) zw_local 5 [(0, vr 0), (1, vi l1), (2, vi l2), (3, vr 299)] [vi 0, vr 299] (wq q (fun r9 y q1 => ansK (e1Ch x) (e2Lo C wr n (c96 w) x l1 l2) (sLo C wr n (c96 w) x l1 l2) x r9 y)) x (.inr iOE) x (gth (kf q)) := by
    intro hno
    refine ⟨⟨n9, r9⟩, ⟨0, 10, 17, 19⟩, 4, 2, wct_local_iOE, Or.inr ⟨rfl, (dk dtk_L_local 12 rfl)⟩, by decide, rfl, ?_⟩
    refine T_iconst (v := 2) (dk dtk_L_local 13 rfl) (by decide +kernel) ?_
    exact T_iret (dk dtk_L_local 14 rfl) rfl rfl ⟨2, kTh q, rfl, rfl, kTh_U hu, kst_th q, HOI_1 rfl (kTh_U hu) (HOI_th hH), Or.inr (Or.inl ⟨hno, rfl, KR_rf⟩)⟩
  refine T_tryF (E := kE G) [vi l1, vi l2] [vi 0, vr 299] (d + 7) rfl (dk dtk_L_local 5 rfl) kcv_L_61 rfl kk_0 rfl (kl_0 hu.1) (by omega) (Nat.le_of_ble_eq_true rfl) (Nat.le_of_ble_eq_true rfl) (gok_i (av_c (gkr m0) (av_c rfl (av_c rfl (av_c (gkr m9) av_n)))) (as_c rfl (as_c (gkr m9) as_n))) rfl n9 ?_
  refine T_mono (ka_local (d := d) hj hu.1 hH l1 l2 (P := fun v9 y9 => ∃ r, v9 = some (vi r) ∧ HOI y9 q ∧ ¬ (e1Ch x) ∧ ¬ (e2Lo C wr n (c96 w) x l1 l2) ∧ sLo C wr n (c96 w) x l1 l2 r y9) (X := fun c9 y9 => ((c9 = iSE ∧ e1Ch x) ∨ (c9 = iOE ∧ e2Lo C wr n (c96 w) x l1 l2)) ∧ y9 = x) (fun h9 => ⟨Or.inl ⟨rfl, h9⟩, rfl⟩) (fun h9 => ⟨Or.inr ⟨rfl, h9⟩, rfl⟩) (fun h8 h9 r y h1 h2 => ⟨r, rfl, h1, h8, h9, h2⟩)) (fun o9 x9 f9 w9 => ?_)
  rcases w9 with ⟨rfl, v, rfl, r, rfl, h1, h2⟩ | ⟨rfl, c9, rfl, hc, rfl⟩
  · exact ⟨⟨n9, r9⟩, ⟨r, rfl⟩, hend r (xo x x9) q hu (kst_rf q) (HOI_1 rfl hu h1) h2⟩
  · rcases hc with ⟨rfl, hno⟩ | ⟨rfl, hno⟩
    · exact hxiSE hno
    · exact hxiOE hno
abbrev zw_act : gy := (yL_act, cL_act, 5, (some .int), [(0, 10, 13, 27), (0, 10, 17, 19)])
set_option maxRecDepth 100000 in
theorem dtk_L_act : dck cL_act [(0, .aload_n 3, 1), (1, .iconst 0, 1), (2, .aload_n 0, 1), (3, .iload_n 1, 1), (4, .iload_n 2, 1), (5, .invokevirtual 64, 3), (8, .i2l, 1), (9, .lastore, 1), (10, .goto 11, 3), (13, .astore 4, 2), (15, .iconst 1, 1), (16, .ireturn, 1), (17, .astore 4, 2), (19, .iconst 2, 1), (20, .ireturn, 1), (21, .iconst 0, 1), (22, .ireturn, 1)] = true := by decide +kernel
set_option maxRecDepth 100000 in
theorem wca_act : tables_1_6[230]? = some (Cond.codeWith yL_act cL_act 5 (some .int) [(0, 10, 13, 27), (0, 10, 17, 19)]) := rfl
theorem wcw_act : Cond.codeWith yL_act cL_act 5 (some .int) [(0, 10, 13, 27), (0, 10, 17, 19)] ∈ W0 := W0_in (tp_6 (List.mem_of_getElem? wca_act)) rfl
theorem kcv_L_64 : gMv RL 64 zk_X11_act 2 := ⟨⟨W0_in (tp_6 (List.mem_of_getElem? (i := 231) (by decide +kernel))) rfl, W0_in (tp_6 (List.mem_of_getElem? (i := 232) (by decide +kernel))) rfl, W0_in (tp_6 (List.mem_of_getElem? (i := 233) (by decide +kernel))) rfl, W0_in (tp_1 (List.mem_of_getElem? (i := 1) (by decide +kernel))) rfl, kcw_X11_act⟩, ⟨by decide, by decide, by decide +kernel⟩, by decide, by decide⟩
theorem wct_act_iSE : gCat zw_act 5 iSE ⟨0, 10, 13, 27⟩ := ⟨⟨[], [⟨0, 10, 17, 19⟩], rfl, fun z hz => nomatch hz⟩, rfl, by decide, (W0_in (tp_5 (List.mem_of_getElem? (i := 107) (by decide +kernel))) rfl), by decide⟩
theorem wct_act_iOE : gCat zw_act 5 iOE ⟨0, 10, 17, 19⟩ := ⟨⟨[⟨0, 10, 13, 27⟩], [], rfl, fun z hz => by
  cases hz with
  | head => exact ⟨by decide, iSE, (W0_in (tp_5 (List.mem_of_getElem? (i := 107) (by decide +kernel))) rfl), by decide⟩
  | tail _ hz => cases hz⟩, rfl, by decide, (W0_in (tp_5 (List.mem_of_getElem? (i := 73) (by decide +kernel))) rfl), by decide⟩
set_option maxRecDepth 100000 in
set_option maxHeartbeats 4000000 in
theorem kw_act {G : kG} {q : kP} {d : Nat} {x : gd} (hu : kU q) (hH : HOI x q) (l1 : Int32) (l2 : Int32) : T (wE (kE G)) (d + 30) zw_act 0 [(0, vr 0), (1, vi l1), (2, vi l2), (3, vr 299)] [] x (fo (kf q)) (wq q (fun _ y q1 => KRd x y)) := by
  have m0 : 0 ∈ (fo (kf q)).2.1 := List.mem_append_left _ (kl_0 hu.1)
  have m9 : 299 ∈ (fo (kf q)).2.1 := List.mem_append_right _ (List.mem_singleton.mpr rfl)
  have n9 := n299 hu
  have r9 : NR (kf q) 299 := kU_NR hu n9
  refine T_aload_n 3 (dk dtk_L_act 0 rfl) rfl rfl ?_
  refine T_iconst (v := 0) (dk dtk_L_act 1 rfl) (by decide +kernel) ?_
  refine T_aload_n 0 (dk dtk_L_act 2 rfl) rfl rfl ?_
  refine T_iload_n 1 (dk dtk_L_act 3 rfl) rfl rfl ?_
  refine T_iload_n 2 (dk dtk_L_act 4 rfl) rfl rfl ?_
  have hend : ∀ (r : Int32) (y : gd) (q1 : kP), kU q1 → kst q q1 → HOI y q1 → (fun _ y q1 => KRd x y) 0 y q1 → T (wE (kE G)) (d + 30) zw_act 8 [(0, vr 0), (1, vi l1), (2, vi l2), (3, vr 299)] [vi r, vi 0, vr 299] y (fo (kf q1)) (wq q (fun _ y q1 => KRd x y)) := by
    intro r y q1 hu1 hk1 hH1 hp1
    have n91 : 299 ∈ (fo (kf q1)).2.1 := List.mem_append_right _ (List.mem_singleton.mpr rfl)
    refine T_i2l (dk dtk_L_act 6 rfl) ?_
    refine T_last 299 1 (dk dtk_L_act 7 rfl) wE_9 n91 (vin0 (by omega)) ?_
    refine T_goto 21 (dk dtk_L_act 8 rfl) (by decide) ?_
    refine T_iconst (v := 0) (dk dtk_L_act 15 rfl) (by decide +kernel) ?_
    exact T_iret (dk dtk_L_act 16 rfl) rfl rfl ⟨0, q1, rfl, rfl, hu1, hk1, HOI_1 rfl hu1 hH1, hp1⟩
  have hxiSE : gtry (kE G) (d + 30) zw_act 5 [(0, vr 0), (1, vi l1), (2, vi l2), (3, vr 299)] [vi 0, vr 299] (wq q (fun _ y q1 => KRd x y)) x (.inr iSE) x (gth (kf q)) := by
    refine ⟨⟨n9, r9⟩, ⟨0, 10, 13, 27⟩, 4, 2, wct_act_iSE, Or.inr ⟨rfl, (dk dtk_L_act 9 rfl)⟩, by decide, rfl, ?_⟩
    refine T_iconst (v := 1) (dk dtk_L_act 10 rfl) (by decide +kernel) ?_
    exact T_iret (dk dtk_L_act 11 rfl) rfl rfl ⟨1, kTh q, rfl, rfl, kTh_U hu, kst_th q, HOI_1 rfl (kTh_U hu) (HOI_th hH), KR_rf⟩
  have hxiOE : gtry (kE G) (d + 30) zw_act 5 [(0, vr 0), (1, vi l1), (2, vi l2), (3, vr 299)] [vi 0, vr 299] (wq q (fun _ y q1 => KRd x y)) x (.inr iOE) x (gth (kf q)) := by
    refine ⟨⟨n9, r9⟩, ⟨0, 10, 17, 19⟩, 4, 2, wct_act_iOE, Or.inr ⟨rfl, (dk dtk_L_act 12 rfl)⟩, by decide, rfl, ?_⟩
    refine T_iconst (v := 2) (dk dtk_L_act 13 rfl) (by decide +kernel) ?_
    exact T_iret (dk dtk_L_act 14 rfl) rfl rfl ⟨2, kTh q, rfl, rfl, kTh_U hu, kst_th q, HOI_1 rfl (kTh_U hu) (HOI_th hH), KR_rf⟩
  refine T_tryF (E := kE G) [vi l1, vi l2] [vi 0, vr 299] (d + 7) rfl (dk dtk_L_act 5 rfl) kcv_L_64 rfl kk_0 rfl (kl_0 hu.1) (by omega) (Nat.le_of_ble_eq_true rfl) (Nat.le_of_ble_eq_true rfl) (gok_i (av_c (gkr m0) (av_c rfl (av_c rfl (av_c (gkr m9) av_n)))) (as_c rfl (as_c (gkr m9) as_n))) rfl n9 ?_
  refine T_mono (kr_act (d := d) hu.1 hH l1 l2 (P := fun v9 y9 => ∃ r, v9 = some (vi r) ∧ HOI y9 q ∧ KRd x y9) (X := fun c9 y9 => (c9 = iSE ∨ c9 = iOE) ∧ y9 = x) ⟨Or.inl rfl, rfl⟩ ⟨Or.inr rfl, rfl⟩ (fun r y h1 h2 => ⟨r, rfl, h1, h2⟩)) (fun o9 x9 f9 w9 => ?_)
  rcases w9 with ⟨rfl, v, rfl, r, rfl, h1, h2⟩ | ⟨rfl, c9, rfl, hc, rfl⟩
  · exact ⟨⟨n9, r9⟩, ⟨r, rfl⟩, hend r (xo x x9) q hu (kst_rf q) (HOI_1 rfl hu h1) h2⟩
  · rcases hc with rfl | rfl
    · exact hxiSE
    · exact hxiOE
abbrev zw_before : gy := (yL_before, cL_before, 5, (some .int), [(0, 17, 20, 27), (0, 17, 24, 19)])
set_option maxRecDepth 100000 in
theorem dtk_L_before : dck cL_before [(0, .aload_n 3, 1), (1, .iconst 0, 1), (2, .aload_n 0, 1), (3, .iload_n 1, 1), (4, .iload_n 2, 1), (5, .invokevirtual 67, 3), (8, .ifCond .eq 7, 3), (11, .lconst 1, 1), (12, .goto 4, 3), (15, .lconst 0, 1), (16, .lastore, 1), (17, .goto 11, 3), (20, .astore 4, 2), (22, .iconst 1, 1), (23, .ireturn, 1), (24, .astore 4, 2), (26, .iconst 2, 1), (27, .ireturn, 1), (28, .iconst 0, 1), (29, .ireturn, 1)] = true := by decide +kernel
set_option maxRecDepth 100000 in
theorem wca_before : tables_1_6[237]? = some (Cond.codeWith yL_before cL_before 5 (some .int) [(0, 17, 20, 27), (0, 17, 24, 19)]) := rfl
theorem wcw_before : Cond.codeWith yL_before cL_before 5 (some .int) [(0, 17, 20, 27), (0, 17, 24, 19)] ∈ W0 := W0_in (tp_6 (List.mem_of_getElem? wca_before)) rfl
theorem kcv_L_67 : gMv RL 67 zk_X11_before 2 := ⟨⟨W0_in (tp_6 (List.mem_of_getElem? (i := 238) (by decide +kernel))) rfl, W0_in (tp_6 (List.mem_of_getElem? (i := 239) (by decide +kernel))) rfl, W0_in (tp_7 (List.mem_of_getElem? (i := 0) (by decide +kernel))) rfl, W0_in (tp_1 (List.mem_of_getElem? (i := 1) (by decide +kernel))) rfl, kcw_X11_before⟩, ⟨by decide, by decide, by decide +kernel⟩, by decide, by decide⟩
theorem wct_before_iSE : gCat zw_before 5 iSE ⟨0, 17, 20, 27⟩ := ⟨⟨[], [⟨0, 17, 24, 19⟩], rfl, fun z hz => nomatch hz⟩, rfl, by decide, (W0_in (tp_5 (List.mem_of_getElem? (i := 107) (by decide +kernel))) rfl), by decide⟩
theorem wct_before_iOE : gCat zw_before 5 iOE ⟨0, 17, 24, 19⟩ := ⟨⟨[⟨0, 17, 20, 27⟩], [], rfl, fun z hz => by
  cases hz with
  | head => exact ⟨by decide, iSE, (W0_in (tp_5 (List.mem_of_getElem? (i := 107) (by decide +kernel))) rfl), by decide⟩
  | tail _ hz => cases hz⟩, rfl, by decide, (W0_in (tp_5 (List.mem_of_getElem? (i := 73) (by decide +kernel))) rfl), by decide⟩
set_option maxRecDepth 100000 in
set_option maxHeartbeats 4000000 in
theorem kw_before {G : kG} {q : kP} {d : Nat} {x : gd} (hu : kU q) (hH : HOI x q) (l1 : Int32) (l2 : Int32) : T (wE (kE G)) (d + 30) zw_before 0 [(0, vr 0), (1, vi l1), (2, vi l2), (3, vr 299)] [] x (fo (kf q)) (wq q (fun _ y q1 => KRd x y)) := by
  have m0 : 0 ∈ (fo (kf q)).2.1 := List.mem_append_left _ (kl_0 hu.1)
  have m9 : 299 ∈ (fo (kf q)).2.1 := List.mem_append_right _ (List.mem_singleton.mpr rfl)
  have n9 := n299 hu
  have r9 : NR (kf q) 299 := kU_NR hu n9
  refine T_aload_n 3 (dk dtk_L_before 0 rfl) rfl rfl ?_
  refine T_iconst (v := 0) (dk dtk_L_before 1 rfl) (by decide +kernel) ?_
  refine T_aload_n 0 (dk dtk_L_before 2 rfl) rfl rfl ?_
  refine T_iload_n 1 (dk dtk_L_before 3 rfl) rfl rfl ?_
  refine T_iload_n 2 (dk dtk_L_before 4 rfl) rfl rfl ?_
  have hend : ∀ (r : Int32) (y : gd) (q1 : kP), kU q1 → kst q q1 → HOI y q1 → (fun _ y q1 => KRd x y) 0 y q1 → T (wE (kE G)) (d + 30) zw_before 8 [(0, vr 0), (1, vi l1), (2, vi l2), (3, vr 299)] [vi r, vi 0, vr 299] y (fo (kf q1)) (wq q (fun _ y q1 => KRd x y)) := by
    intro r y q1 hu1 hk1 hH1 hp1
    have n91 : 299 ∈ (fo (kf q1)).2.1 := List.mem_append_right _ (List.mem_singleton.mpr rfl)
    refine T_if_eq 15 (dk dtk_L_before 6 rfl) (by decide) (fun b0 => ?_) (fun b1 => ?_)
    · refine T_lconst (v := 0) (dk dtk_L_before 9 rfl) (by decide +kernel) ?_
      refine T_last 299 1 (dk dtk_L_before 10 rfl) wE_9 n91 (vin0 (by omega)) ?_
      refine T_goto 28 (dk dtk_L_before 11 rfl) (by decide) ?_
      refine T_iconst (v := 0) (dk dtk_L_before 18 rfl) (by decide +kernel) ?_
      exact T_iret (dk dtk_L_before 19 rfl) rfl rfl ⟨0, q1, rfl, rfl, hu1, hk1, HOI_1 rfl hu1 hH1, hp1⟩
    · refine T_lconst (v := 1) (dk dtk_L_before 7 rfl) (by decide +kernel) ?_
      refine T_goto 16 (dk dtk_L_before 8 rfl) (by decide) ?_
      refine T_last 299 1 (dk dtk_L_before 10 rfl) wE_9 n91 (vin0 (by omega)) ?_
      refine T_goto 28 (dk dtk_L_before 11 rfl) (by decide) ?_
      refine T_iconst (v := 0) (dk dtk_L_before 18 rfl) (by decide +kernel) ?_
      exact T_iret (dk dtk_L_before 19 rfl) rfl rfl ⟨0, q1, rfl, rfl, hu1, hk1, HOI_1 rfl hu1 hH1, hp1⟩
  have hxiSE : gtry (kE G) (d + 30) zw_before 5 [(0, vr 0), (1, vi l1), (2, vi l2), (3, vr 299)] [vi 0, vr 299] (wq q (fun _ y q1 => KRd x y)) x (.inr iSE) x (gth (kf q)) := by
    refine ⟨⟨n9, r9⟩, ⟨0, 17, 20, 27⟩, 4, 2, wct_before_iSE, Or.inr ⟨rfl, (dk dtk_L_before 12 rfl)⟩, by decide, rfl, ?_⟩
    refine T_iconst (v := 1) (dk dtk_L_before 13 rfl) (by decide +kernel) ?_
    exact T_iret (dk dtk_L_before 14 rfl) rfl rfl ⟨1, kTh q, rfl, rfl, kTh_U hu, kst_th q, HOI_1 rfl (kTh_U hu) (HOI_th hH), KR_rf⟩
  have hxiOE : gtry (kE G) (d + 30) zw_before 5 [(0, vr 0), (1, vi l1), (2, vi l2), (3, vr 299)] [vi 0, vr 299] (wq q (fun _ y q1 => KRd x y)) x (.inr iOE) x (gth (kf q)) := by
    refine ⟨⟨n9, r9⟩, ⟨0, 17, 24, 19⟩, 4, 2, wct_before_iOE, Or.inr ⟨rfl, (dk dtk_L_before 15 rfl)⟩, by decide, rfl, ?_⟩
    refine T_iconst (v := 2) (dk dtk_L_before 16 rfl) (by decide +kernel) ?_
    exact T_iret (dk dtk_L_before 17 rfl) rfl rfl ⟨2, kTh q, rfl, rfl, kTh_U hu, kst_th q, HOI_1 rfl (kTh_U hu) (HOI_th hH), KR_rf⟩
  refine T_tryF (E := kE G) [vi l1, vi l2] [vi 0, vr 299] (d + 7) rfl (dk dtk_L_before 5 rfl) kcv_L_67 rfl kk_0 rfl (kl_0 hu.1) (by omega) (Nat.le_of_ble_eq_true rfl) (Nat.le_of_ble_eq_true rfl) (gok_i (av_c (gkr m0) (av_c rfl (av_c rfl (av_c (gkr m9) av_n)))) (as_c rfl (as_c (gkr m9) as_n))) rfl n9 ?_
  refine T_mono (kr_before (d := d) hu.1 hH l1 l2 (P := fun v9 y9 => ∃ r, v9 = some (vi r) ∧ HOI y9 q ∧ KRd x y9) (X := fun c9 y9 => (c9 = iSE ∨ c9 = iOE) ∧ y9 = x) ⟨Or.inl rfl, rfl⟩ ⟨Or.inr rfl, rfl⟩ (fun r y _ h1 h2 => ⟨r, rfl, h1, h2⟩)) (fun o9 x9 f9 w9 => ?_)
  rcases w9 with ⟨rfl, v, rfl, r, rfl, h1, h2⟩ | ⟨rfl, c9, rfl, hc, rfl⟩
  · exact ⟨⟨n9, r9⟩, ⟨r, rfl⟩, hend r (xo x x9) q hu (kst_rf q) (HOI_1 rfl hu h1) h2⟩
  · rcases hc with rfl | rfl
    · exact hxiSE
    · exact hxiOE
abbrev zw_race : gy := (yL_race, cL_race, 5, (some .int), [(0, 10, 13, 27), (0, 10, 17, 19)])
set_option maxRecDepth 100000 in
theorem dtk_L_race : dck cL_race [(0, .aload_n 3, 1), (1, .iconst 0, 1), (2, .aload_n 0, 1), (3, .iload_n 1, 1), (4, .iload_n 2, 1), (5, .invokevirtual 71, 3), (8, .i2l, 1), (9, .lastore, 1), (10, .goto 11, 3), (13, .astore 4, 2), (15, .iconst 1, 1), (16, .ireturn, 1), (17, .astore 4, 2), (19, .iconst 2, 1), (20, .ireturn, 1), (21, .iconst 0, 1), (22, .ireturn, 1)] = true := by decide +kernel
set_option maxRecDepth 100000 in
theorem wca_race : tables_1_7[5]? = some (Cond.codeWith yL_race cL_race 5 (some .int) [(0, 10, 13, 27), (0, 10, 17, 19)]) := rfl
theorem wcw_race : Cond.codeWith yL_race cL_race 5 (some .int) [(0, 10, 13, 27), (0, 10, 17, 19)] ∈ W0 := W0_in (tp_7 (List.mem_of_getElem? wca_race)) rfl
theorem kcv_L_71 : gMv RL 71 zk_X11_race 2 := ⟨⟨W0_in (tp_7 (List.mem_of_getElem? (i := 6) (by decide +kernel))) rfl, W0_in (tp_7 (List.mem_of_getElem? (i := 7) (by decide +kernel))) rfl, W0_in (tp_7 (List.mem_of_getElem? (i := 8) (by decide +kernel))) rfl, W0_in (tp_1 (List.mem_of_getElem? (i := 1) (by decide +kernel))) rfl, kcw_X11_race⟩, ⟨by decide, by decide, by decide +kernel⟩, by decide, by decide⟩
theorem wct_race_iSE : gCat zw_race 5 iSE ⟨0, 10, 13, 27⟩ := ⟨⟨[], [⟨0, 10, 17, 19⟩], rfl, fun z hz => nomatch hz⟩, rfl, by decide, (W0_in (tp_5 (List.mem_of_getElem? (i := 107) (by decide +kernel))) rfl), by decide⟩
theorem wct_race_iOE : gCat zw_race 5 iOE ⟨0, 10, 17, 19⟩ := ⟨⟨[⟨0, 10, 13, 27⟩], [], rfl, fun z hz => by
  cases hz with
  | head => exact ⟨by decide, iSE, (W0_in (tp_5 (List.mem_of_getElem? (i := 107) (by decide +kernel))) rfl), by decide⟩
  | tail _ hz => cases hz⟩, rfl, by decide, (W0_in (tp_5 (List.mem_of_getElem? (i := 73) (by decide +kernel))) rfl), by decide⟩
set_option maxRecDepth 100000 in
set_option maxHeartbeats 4000000 in
theorem kw_race {G : kG} {q : kP} {d : Nat} {x : gd} (hu : kU q) (hH : HOI x q) (l1 : Int32) (l2 : Int32) : T (wE (kE G)) (d + 30) zw_race 0 [(0, vr 0), (1, vi l1), (2, vi l2), (3, vr 299)] [] x (fo (kf q)) (wq q (fun _ y q1 => KRd x y)) := by
  have m0 : 0 ∈ (fo (kf q)).2.1 := List.mem_append_left _ (kl_0 hu.1)
  have m9 : 299 ∈ (fo (kf q)).2.1 := List.mem_append_right _ (List.mem_singleton.mpr rfl)
  have n9 := n299 hu
  have r9 : NR (kf q) 299 := kU_NR hu n9
  refine T_aload_n 3 (dk dtk_L_race 0 rfl) rfl rfl ?_
  refine T_iconst (v := 0) (dk dtk_L_race 1 rfl) (by decide +kernel) ?_
  refine T_aload_n 0 (dk dtk_L_race 2 rfl) rfl rfl ?_
  refine T_iload_n 1 (dk dtk_L_race 3 rfl) rfl rfl ?_
  refine T_iload_n 2 (dk dtk_L_race 4 rfl) rfl rfl ?_
  have hend : ∀ (r : Int32) (y : gd) (q1 : kP), kU q1 → kst q q1 → HOI y q1 → (fun _ y q1 => KRd x y) 0 y q1 → T (wE (kE G)) (d + 30) zw_race 8 [(0, vr 0), (1, vi l1), (2, vi l2), (3, vr 299)] [vi r, vi 0, vr 299] y (fo (kf q1)) (wq q (fun _ y q1 => KRd x y)) := by
    intro r y q1 hu1 hk1 hH1 hp1
    have n91 : 299 ∈ (fo (kf q1)).2.1 := List.mem_append_right _ (List.mem_singleton.mpr rfl)
    refine T_i2l (dk dtk_L_race 6 rfl) ?_
    refine T_last 299 1 (dk dtk_L_race 7 rfl) wE_9 n91 (vin0 (by omega)) ?_
    refine T_goto 21 (dk dtk_L_race 8 rfl) (by decide) ?_
    refine T_iconst (v := 0) (dk dtk_L_race 15 rfl) (by decide +kernel) ?_
    exact T_iret (dk dtk_L_race 16 rfl) rfl rfl ⟨0, q1, rfl, rfl, hu1, hk1, HOI_1 rfl hu1 hH1, hp1⟩
  have hxiSE : gtry (kE G) (d + 30) zw_race 5 [(0, vr 0), (1, vi l1), (2, vi l2), (3, vr 299)] [vi 0, vr 299] (wq q (fun _ y q1 => KRd x y)) x (.inr iSE) x (gth (kf q)) := by
    refine ⟨⟨n9, r9⟩, ⟨0, 10, 13, 27⟩, 4, 2, wct_race_iSE, Or.inr ⟨rfl, (dk dtk_L_race 9 rfl)⟩, by decide, rfl, ?_⟩
    refine T_iconst (v := 1) (dk dtk_L_race 10 rfl) (by decide +kernel) ?_
    exact T_iret (dk dtk_L_race 11 rfl) rfl rfl ⟨1, kTh q, rfl, rfl, kTh_U hu, kst_th q, HOI_1 rfl (kTh_U hu) (HOI_th hH), KR_rf⟩
  have hxiOE : gtry (kE G) (d + 30) zw_race 5 [(0, vr 0), (1, vi l1), (2, vi l2), (3, vr 299)] [vi 0, vr 299] (wq q (fun _ y q1 => KRd x y)) x (.inr iOE) x (gth (kf q)) := by
    refine ⟨⟨n9, r9⟩, ⟨0, 10, 17, 19⟩, 4, 2, wct_race_iOE, Or.inr ⟨rfl, (dk dtk_L_race 12 rfl)⟩, by decide, rfl, ?_⟩
    refine T_iconst (v := 2) (dk dtk_L_race 13 rfl) (by decide +kernel) ?_
    exact T_iret (dk dtk_L_race 14 rfl) rfl rfl ⟨2, kTh q, rfl, rfl, kTh_U hu, kst_th q, HOI_1 rfl (kTh_U hu) (HOI_th hH), KR_rf⟩
  refine T_tryF (E := kE G) [vi l1, vi l2] [vi 0, vr 299] (d + 7) rfl (dk dtk_L_race 5 rfl) kcv_L_71 rfl kk_0 rfl (kl_0 hu.1) (by omega) (Nat.le_of_ble_eq_true rfl) (Nat.le_of_ble_eq_true rfl) (gok_i (av_c (gkr m0) (av_c rfl (av_c rfl (av_c (gkr m9) av_n)))) (as_c rfl (as_c (gkr m9) as_n))) rfl n9 ?_
  refine T_mono (kr_race (d := d) hu.1 hH l1 l2 (P := fun v9 y9 => ∃ r, v9 = some (vi r) ∧ HOI y9 q ∧ KRd x y9) (X := fun c9 y9 => (c9 = iSE ∨ c9 = iOE) ∧ y9 = x) ⟨Or.inl rfl, rfl⟩ ⟨Or.inr rfl, rfl⟩ (fun r y h1 h2 => ⟨r, rfl, h1, h2⟩)) (fun o9 x9 f9 w9 => ?_)
  rcases w9 with ⟨rfl, v, rfl, r, rfl, h1, h2⟩ | ⟨rfl, c9, rfl, hc, rfl⟩
  · exact ⟨⟨n9, r9⟩, ⟨r, rfl⟩, hend r (xo x x9) q hu (kst_rf q) (HOI_1 rfl hu h1) h2⟩
  · rcases hc with rfl | rfl
    · exact hxiSE
    · exact hxiOE
abbrev zw_linear : gy := (yL_linear, cL_linear, 4, (some .int), [(0, 9, 12, 27), (0, 9, 15, 13)])
set_option maxRecDepth 100000 in
theorem dtk_L_linear : dck cL_linear [(0, .aload_n 2, 1), (1, .iconst 0, 1), (2, .aload_n 0, 1), (3, .iload_n 1, 1), (4, .invokevirtual 74, 3), (7, .i2l, 1), (8, .lastore, 1), (9, .goto 9, 3), (12, .astore_n 3, 1), (13, .iconst 1, 1), (14, .ireturn, 1), (15, .astore_n 3, 1), (16, .iconst 2, 1), (17, .ireturn, 1), (18, .iconst 0, 1), (19, .ireturn, 1)] = true := by decide +kernel
set_option maxRecDepth 100000 in
theorem wca_linear : tables_1_7[20]? = some (Cond.codeWith yL_linear cL_linear 4 (some .int) [(0, 9, 12, 27), (0, 9, 15, 13)]) := rfl
theorem wcw_linear : Cond.codeWith yL_linear cL_linear 4 (some .int) [(0, 9, 12, 27), (0, 9, 15, 13)] ∈ W0 := W0_in (tp_7 (List.mem_of_getElem? wca_linear)) rfl
theorem kcv_L_74 : gMv RL 74 zk_X11_linear 1 := ⟨⟨W0_in (tp_7 (List.mem_of_getElem? (i := 21) (by decide +kernel))) rfl, W0_in (tp_7 (List.mem_of_getElem? (i := 22) (by decide +kernel))) rfl, W0_in (tp_7 (List.mem_of_getElem? (i := 23) (by decide +kernel))) rfl, W0_in (tp_1 (List.mem_of_getElem? (i := 1) (by decide +kernel))) rfl, kcw_X11_linear⟩, ⟨by decide, by decide, by decide +kernel⟩, by decide, by decide⟩
theorem wct_linear_iSE : gCat zw_linear 4 iSE ⟨0, 9, 12, 27⟩ := ⟨⟨[], [⟨0, 9, 15, 13⟩], rfl, fun z hz => nomatch hz⟩, rfl, by decide, (W0_in (tp_5 (List.mem_of_getElem? (i := 107) (by decide +kernel))) rfl), by decide⟩
theorem wct_linear_iAE : gCat zw_linear 4 iAE ⟨0, 9, 15, 13⟩ := ⟨⟨[⟨0, 9, 12, 27⟩], [], rfl, fun z hz => by
  cases hz with
  | head => exact ⟨by decide, iSE, (W0_in (tp_5 (List.mem_of_getElem? (i := 107) (by decide +kernel))) rfl), by decide⟩
  | tail _ hz => cases hz⟩, rfl, by decide, (W0_in (tp_5 (List.mem_of_getElem? (i := 44) (by decide +kernel))) rfl), by decide⟩
set_option maxRecDepth 100000 in
set_option maxHeartbeats 4000000 in
theorem kw_linear {G : kG} {q : kP} {d : Nat} {x : gd} (hu : kU q) (hH : HOI x q) (l1 : Int32) : T (wE (kE G)) (d + 30) zw_linear 0 [(0, vr 0), (1, vi l1), (2, vr 299)] [] x (fo (kf q)) (wq q (fun _ y q1 => KRd x y)) := by
  have m0 : 0 ∈ (fo (kf q)).2.1 := List.mem_append_left _ (kl_0 hu.1)
  have m9 : 299 ∈ (fo (kf q)).2.1 := List.mem_append_right _ (List.mem_singleton.mpr rfl)
  have n9 := n299 hu
  have r9 : NR (kf q) 299 := kU_NR hu n9
  refine T_aload_n 2 (dk dtk_L_linear 0 rfl) rfl rfl ?_
  refine T_iconst (v := 0) (dk dtk_L_linear 1 rfl) (by decide +kernel) ?_
  refine T_aload_n 0 (dk dtk_L_linear 2 rfl) rfl rfl ?_
  refine T_iload_n 1 (dk dtk_L_linear 3 rfl) rfl rfl ?_
  have hend : ∀ (r : Int32) (y : gd) (q1 : kP), kU q1 → kst q q1 → HOI y q1 → (fun _ y q1 => KRd x y) 0 y q1 → T (wE (kE G)) (d + 30) zw_linear 7 [(0, vr 0), (1, vi l1), (2, vr 299)] [vi r, vi 0, vr 299] y (fo (kf q1)) (wq q (fun _ y q1 => KRd x y)) := by
    intro r y q1 hu1 hk1 hH1 hp1
    have n91 : 299 ∈ (fo (kf q1)).2.1 := List.mem_append_right _ (List.mem_singleton.mpr rfl)
    refine T_i2l (dk dtk_L_linear 5 rfl) ?_
    refine T_last 299 1 (dk dtk_L_linear 6 rfl) wE_9 n91 (vin0 (by omega)) ?_
    refine T_goto 18 (dk dtk_L_linear 7 rfl) (by decide) ?_
    refine T_iconst (v := 0) (dk dtk_L_linear 14 rfl) (by decide +kernel) ?_
    exact T_iret (dk dtk_L_linear 15 rfl) rfl rfl ⟨0, q1, rfl, rfl, hu1, hk1, HOI_1 rfl hu1 hH1, hp1⟩
  have hxiSE : gtry (kE G) (d + 30) zw_linear 4 [(0, vr 0), (1, vi l1), (2, vr 299)] [vi 0, vr 299] (wq q (fun _ y q1 => KRd x y)) x (.inr iSE) x (gth (kf q)) := by
    refine ⟨⟨n9, r9⟩, ⟨0, 9, 12, 27⟩, 3, 1, wct_linear_iSE, Or.inl ⟨3, rfl, rfl, (dk dtk_L_linear 8 rfl)⟩, by decide, rfl, ?_⟩
    refine T_iconst (v := 1) (dk dtk_L_linear 9 rfl) (by decide +kernel) ?_
    exact T_iret (dk dtk_L_linear 10 rfl) rfl rfl ⟨1, kTh q, rfl, rfl, kTh_U hu, kst_th q, HOI_1 rfl (kTh_U hu) (HOI_th hH), KR_rf⟩
  have hxiAE : gtry (kE G) (d + 30) zw_linear 4 [(0, vr 0), (1, vi l1), (2, vr 299)] [vi 0, vr 299] (wq q (fun _ y q1 => KRd x y)) x (.inr iAE) x (gth (kf q)) := by
    refine ⟨⟨n9, r9⟩, ⟨0, 9, 15, 13⟩, 3, 1, wct_linear_iAE, Or.inl ⟨3, rfl, rfl, (dk dtk_L_linear 11 rfl)⟩, by decide, rfl, ?_⟩
    refine T_iconst (v := 2) (dk dtk_L_linear 12 rfl) (by decide +kernel) ?_
    exact T_iret (dk dtk_L_linear 13 rfl) rfl rfl ⟨2, kTh q, rfl, rfl, kTh_U hu, kst_th q, HOI_1 rfl (kTh_U hu) (HOI_th hH), KR_rf⟩
  refine T_tryF (E := kE G) [vi l1] [vi 0, vr 299] (d + 18) rfl (dk dtk_L_linear 4 rfl) kcv_L_74 rfl kk_0 rfl (kl_0 hu.1) (by omega) (Nat.le_of_ble_eq_true rfl) (Nat.le_of_ble_eq_true rfl) (gok_i (av_c (gkr m0) (av_c rfl (av_c (gkr m9) av_n))) (as_c rfl (as_c (gkr m9) as_n))) rfl n9 ?_
  refine T_mono (kr_linear (d := d) hu hH l1 (P := fun v9 y9 q9 => ∃ r, v9 = some (vi r) ∧ kU q9 ∧ kle q q9 ∧ HOI y9 q9 ∧ KRd x y9) (X := fun c9 y9 q9 => (c9 = iSE ∨ c9 = iAE) ∧ y9 = x ∧ q9 = q) ⟨Or.inl rfl, rfl, rfl⟩ ⟨Or.inr rfl, rfl, rfl⟩ (fun r y q1 g1 g2 g3 g4 => ⟨r, rfl, g1, g2, g3, g4⟩)) (fun o9 x9 f9 w9 => ?_)
  obtain ⟨q9, ⟨rfl, v, rfl, r, rfl, g1, g2, h1, h2⟩ | ⟨rfl, c9, rfl, hc, rfl, rfl⟩⟩ := w9
  · exact ⟨⟨n299 g1, kU_NR g1 (n299 g1)⟩, ⟨r, rfl⟩, hend r (xo x x9) q9 g1 (kst_le g2) (HOI_1 rfl g1 h1) h2⟩
  · rcases hc with rfl | rfl
    · exact hxiSE
    · exact hxiAE
abbrev zw_attempt : gy := (yL_attempt, cL_attempt, 5, (some .int), [(0, 10, 13, 27), (0, 10, 17, 13)])
set_option maxRecDepth 100000 in
theorem dtk_L_attempt : dck cL_attempt [(0, .aload_n 3, 1), (1, .iconst 0, 1), (2, .aload_n 0, 1), (3, .iload_n 1, 1), (4, .iload_n 2, 1), (5, .invokevirtual 77, 3), (8, .i2l, 1), (9, .lastore, 1), (10, .goto 11, 3), (13, .astore 4, 2), (15, .iconst 1, 1), (16, .ireturn, 1), (17, .astore 4, 2), (19, .iconst 2, 1), (20, .ireturn, 1), (21, .iconst 0, 1), (22, .ireturn, 1)] = true := by decide +kernel
set_option maxRecDepth 100000 in
theorem wca_attempt : tables_1_7[128]? = some (Cond.codeWith yL_attempt cL_attempt 5 (some .int) [(0, 10, 13, 27), (0, 10, 17, 13)]) := rfl
theorem wcw_attempt : Cond.codeWith yL_attempt cL_attempt 5 (some .int) [(0, 10, 13, 27), (0, 10, 17, 13)] ∈ W0 := W0_in (tp_7 (List.mem_of_getElem? wca_attempt)) rfl
theorem kcv_L_77 : gMv RL 77 zk_X11_attempt 2 := ⟨⟨W0_in (tp_7 (List.mem_of_getElem? (i := 129) (by decide +kernel))) rfl, W0_in (tp_7 (List.mem_of_getElem? (i := 130) (by decide +kernel))) rfl, W0_in (tp_7 (List.mem_of_getElem? (i := 131) (by decide +kernel))) rfl, W0_in (tp_1 (List.mem_of_getElem? (i := 1) (by decide +kernel))) rfl, kcw_X11_attempt⟩, ⟨by decide, by decide, by decide +kernel⟩, by decide, by decide⟩
theorem wct_attempt_iSE : gCat zw_attempt 5 iSE ⟨0, 10, 13, 27⟩ := ⟨⟨[], [⟨0, 10, 17, 13⟩], rfl, fun z hz => nomatch hz⟩, rfl, by decide, (W0_in (tp_5 (List.mem_of_getElem? (i := 107) (by decide +kernel))) rfl), by decide⟩
theorem wct_attempt_iAE : gCat zw_attempt 5 iAE ⟨0, 10, 17, 13⟩ := ⟨⟨[⟨0, 10, 13, 27⟩], [], rfl, fun z hz => by
  cases hz with
  | head => exact ⟨by decide, iSE, (W0_in (tp_5 (List.mem_of_getElem? (i := 107) (by decide +kernel))) rfl), by decide⟩
  | tail _ hz => cases hz⟩, rfl, by decide, (W0_in (tp_5 (List.mem_of_getElem? (i := 44) (by decide +kernel))) rfl), by decide⟩
set_option maxRecDepth 100000 in
set_option maxHeartbeats 4000000 in
theorem kw_attempt {G : kG} {q : kP} {d : Nat} {x : gd} {C : gCo} {wr n : Nat} {lm : Nat → Nat} {w : gd} (hj : JH C wr n lm x w) (hu : kU q) (hH : HOI x q) (l1 : Int32) (l2 : Int32) : T (wE (kE G)) (d + 30) zw_attempt 0 [(0, vr 0), (1, vi l1), (2, vi l2), (3, vr 299)] [] x (fo (kf q)) (wq q (fun r9 y q1 => ansK (e1Bg x) (e2At x l1 l2) (sAq C x l1 l2) x r9 y)) := by
  have m0 : 0 ∈ (fo (kf q)).2.1 := List.mem_append_left _ (kl_0 hu.1)
  have m9 : 299 ∈ (fo (kf q)).2.1 := List.mem_append_right _ (List.mem_singleton.mpr rfl)
  have n9 := n299 hu
  have r9 : NR (kf q) 299 := kU_NR hu n9
  refine T_aload_n 3 (dk dtk_L_attempt 0 rfl) rfl rfl ?_
  refine T_iconst (v := 0) (dk dtk_L_attempt 1 rfl) (by decide +kernel) ?_
  refine T_aload_n 0 (dk dtk_L_attempt 2 rfl) rfl rfl ?_
  refine T_iload_n 1 (dk dtk_L_attempt 3 rfl) rfl rfl ?_
  refine T_iload_n 2 (dk dtk_L_attempt 4 rfl) rfl rfl ?_
  have hend : ∀ (r : Int32) (y : gd) (q1 : kP), kU q1 → kst q q1 → HOI y q1 → ¬ (e1Bg x) ∧ ¬ (e2At x l1 l2) ∧ sAq C x l1 l2 r y → T (wE (kE G)) (d + 30) zw_attempt 8 [(0, vr 0), (1, vi l1), (2, vi l2), (3, vr 299)] [vi r, vi 0, vr 299] y (fo (kf q1)) (wq q (fun r9 y q1 => ansK (e1Bg x) (e2At x l1 l2) (sAq C x l1 l2) x r9 y)) := by
    intro r y q1 hu1 hk1 hH1 hp1
    have n91 : 299 ∈ (fo (kf q1)).2.1 := List.mem_append_right _ (List.mem_singleton.mpr rfl)
    refine T_i2l (dk dtk_L_attempt 6 rfl) ?_
    refine T_last 299 1 (dk dtk_L_attempt 7 rfl) wE_9 n91 (vin0 (by omega)) ?_
    refine T_goto 21 (dk dtk_L_attempt 8 rfl) (by decide) ?_
    refine T_iconst (v := 0) (dk dtk_L_attempt 15 rfl) (by decide +kernel) ?_
    exact T_iret (dk dtk_L_attempt 16 rfl) rfl rfl ⟨0, q1, rfl, rfl, hu1, hk1, HOI_1 rfl hu1 hH1, Or.inr (Or.inr ⟨hp1.1, hp1.2.1, rfl, r, by rw [sL_c]; exact if_pos rfl, hp1.2.2⟩)⟩
  have hxiSE : e1Bg x → gtry (kE G) (d + 30) zw_attempt 5 [(0, vr 0), (1, vi l1), (2, vi l2), (3, vr 299)] [vi 0, vr 299] (wq q (fun r9 y q1 => ansK (e1Bg x) (e2At x l1 l2) (sAq C x l1 l2) x r9 y)) x (.inr iSE) x (gth (kf q)) := by
    intro hno
    refine ⟨⟨n9, r9⟩, ⟨0, 10, 13, 27⟩, 4, 2, wct_attempt_iSE, Or.inr ⟨rfl, (dk dtk_L_attempt 9 rfl)⟩, by decide, rfl, ?_⟩
    refine T_iconst (v := 1) (dk dtk_L_attempt 10 rfl) (by decide +kernel) ?_
    exact T_iret (dk dtk_L_attempt 11 rfl) rfl rfl ⟨1, kTh q, rfl, rfl, kTh_U hu, kst_th q, HOI_1 rfl (kTh_U hu) (HOI_th hH), Or.inl ⟨hno, rfl, KR_rf⟩⟩
  have hxiAE : e2At x l1 l2 → gtry (kE G) (d + 30) zw_attempt 5 [(0, vr 0), (1, vi l1), (2, vi l2), (3, vr 299)] [vi 0, vr 299] (wq q (fun r9 y q1 => ansK (e1Bg x) (e2At x l1 l2) (sAq C x l1 l2) x r9 y)) x (.inr iAE) x (gth (kf q)) := by
    intro hno
    refine ⟨⟨n9, r9⟩, ⟨0, 10, 17, 13⟩, 4, 2, wct_attempt_iAE, Or.inr ⟨rfl, (dk dtk_L_attempt 12 rfl)⟩, by decide, rfl, ?_⟩
    refine T_iconst (v := 2) (dk dtk_L_attempt 13 rfl) (by decide +kernel) ?_
    exact T_iret (dk dtk_L_attempt 14 rfl) rfl rfl ⟨2, kTh q, rfl, rfl, kTh_U hu, kst_th q, HOI_1 rfl (kTh_U hu) (HOI_th hH), Or.inr (Or.inl ⟨hno, rfl, KR_rf⟩)⟩
  refine T_tryF (E := kE G) [vi l1, vi l2] [vi 0, vr 299] (d + 7) rfl (dk dtk_L_attempt 5 rfl) kcv_L_77 rfl kk_0 rfl (kl_0 hu.1) (by omega) (Nat.le_of_ble_eq_true rfl) (Nat.le_of_ble_eq_true rfl) (gok_i (av_c (gkr m0) (av_c rfl (av_c rfl (av_c (gkr m9) av_n)))) (as_c rfl (as_c (gkr m9) as_n))) rfl n9 ?_
  refine T_mono (ka_attempt (d := d) hj hu hH l1 l2 (P := fun v9 y9 q9 => ∃ r, v9 = some (vi r) ∧ kU q9 ∧ kle q q9 ∧ HOI y9 q9 ∧ ¬ (e1Bg x) ∧ ¬ (e2At x l1 l2) ∧ sAq C x l1 l2 r y9) (X := fun c9 y9 q9 => ((c9 = iSE ∧ e1Bg x) ∨ (c9 = iAE ∧ e2At x l1 l2)) ∧ y9 = x ∧ q9 = q) (fun h9 => ⟨Or.inl ⟨rfl, h9⟩, rfl, rfl⟩) (fun h9 => ⟨Or.inr ⟨rfl, h9⟩, rfl, rfl⟩) (fun h8 h9 r y q1 g1 g2 g3 g4 => ⟨r, rfl, g1, g2, g3, h8, h9, g4⟩)) (fun o9 x9 f9 w9 => ?_)
  obtain ⟨q9, ⟨rfl, v, rfl, r, rfl, g1, g2, h1, h2⟩ | ⟨rfl, c9, rfl, hc, rfl, rfl⟩⟩ := w9
  · exact ⟨⟨n299 g1, kU_NR g1 (n299 g1)⟩, ⟨r, rfl⟩, hend r (xo x x9) q9 g1 (kst_le g2) (HOI_1 rfl g1 h1) h2⟩
  · rcases hc with ⟨rfl, hno⟩ | ⟨rfl, hno⟩
    · exact hxiSE hno
    · exact hxiAE hno
abbrev zw_tried : gy := (yL_tried, cL_tried, 5, (some .int), [(0, 10, 13, 13), (0, 10, 17, 19)])
set_option maxRecDepth 100000 in
theorem dtk_L_tried : dck cL_tried [(0, .aload_n 3, 1), (1, .iconst 0, 1), (2, .aload_n 0, 1), (3, .iload_n 1, 1), (4, .iload_n 2, 1), (5, .invokevirtual 80, 3), (8, .i2l, 1), (9, .lastore, 1), (10, .goto 11, 3), (13, .astore 4, 2), (15, .iconst 1, 1), (16, .ireturn, 1), (17, .astore 4, 2), (19, .iconst 2, 1), (20, .ireturn, 1), (21, .iconst 0, 1), (22, .ireturn, 1)] = true := by decide +kernel
set_option maxRecDepth 100000 in
theorem wca_tried : tables_1_8[114]? = some (Cond.codeWith yL_tried cL_tried 5 (some .int) [(0, 10, 13, 13), (0, 10, 17, 19)]) := rfl
theorem wcw_tried : Cond.codeWith yL_tried cL_tried 5 (some .int) [(0, 10, 13, 13), (0, 10, 17, 19)] ∈ W0 := W0_in (tp_8 (List.mem_of_getElem? wca_tried)) rfl
theorem kcv_L_80 : gMv RL 80 zk_X11_tried 2 := ⟨⟨W0_in (tp_8 (List.mem_of_getElem? (i := 115) (by decide +kernel))) rfl, W0_in (tp_8 (List.mem_of_getElem? (i := 116) (by decide +kernel))) rfl, W0_in (tp_8 (List.mem_of_getElem? (i := 117) (by decide +kernel))) rfl, W0_in (tp_1 (List.mem_of_getElem? (i := 1) (by decide +kernel))) rfl, kcw_X11_tried⟩, ⟨by decide, by decide, by decide +kernel⟩, by decide, by decide⟩
theorem wct_tried_iAE : gCat zw_tried 5 iAE ⟨0, 10, 13, 13⟩ := ⟨⟨[], [⟨0, 10, 17, 19⟩], rfl, fun z hz => nomatch hz⟩, rfl, by decide, (W0_in (tp_5 (List.mem_of_getElem? (i := 44) (by decide +kernel))) rfl), by decide⟩
theorem wct_tried_iOE : gCat zw_tried 5 iOE ⟨0, 10, 17, 19⟩ := ⟨⟨[⟨0, 10, 13, 13⟩], [], rfl, fun z hz => by
  cases hz with
  | head => exact ⟨by decide, iAE, (W0_in (tp_5 (List.mem_of_getElem? (i := 44) (by decide +kernel))) rfl), by decide⟩
  | tail _ hz => cases hz⟩, rfl, by decide, (W0_in (tp_5 (List.mem_of_getElem? (i := 73) (by decide +kernel))) rfl), by decide⟩
set_option maxRecDepth 100000 in
set_option maxHeartbeats 4000000 in
theorem kw_tried {G : kG} {q : kP} {d : Nat} {x : gd} {C : gCo} {wr n : Nat} {lm : Nat → Nat} {w : gd} (hj : JH C wr n lm x w) (hu : kU q) (hH : HOI x q) (l1 : Int32) (l2 : Int32) : T (wE (kE G)) (d + 30) zw_tried 0 [(0, vr 0), (1, vi l1), (2, vi l2), (3, vr 299)] [] x (fo (kf q)) (wq q (fun r9 y q1 => ansK (e1Tr l1 l2) (e2Tr l1 l2) (sTd C lm x l1 l2) x r9 y)) := by
  have m0 : 0 ∈ (fo (kf q)).2.1 := List.mem_append_left _ (kl_0 hu.1)
  have m9 : 299 ∈ (fo (kf q)).2.1 := List.mem_append_right _ (List.mem_singleton.mpr rfl)
  have n9 := n299 hu
  have r9 : NR (kf q) 299 := kU_NR hu n9
  refine T_aload_n 3 (dk dtk_L_tried 0 rfl) rfl rfl ?_
  refine T_iconst (v := 0) (dk dtk_L_tried 1 rfl) (by decide +kernel) ?_
  refine T_aload_n 0 (dk dtk_L_tried 2 rfl) rfl rfl ?_
  refine T_iload_n 1 (dk dtk_L_tried 3 rfl) rfl rfl ?_
  refine T_iload_n 2 (dk dtk_L_tried 4 rfl) rfl rfl ?_
  have hend : ∀ (r : Int32) (y : gd) (q1 : kP), kU q1 → kst q q1 → HOI y q1 → ¬ (e1Tr l1 l2) ∧ ¬ (e2Tr l1 l2) ∧ sTd C lm x l1 l2 r y → T (wE (kE G)) (d + 30) zw_tried 8 [(0, vr 0), (1, vi l1), (2, vi l2), (3, vr 299)] [vi r, vi 0, vr 299] y (fo (kf q1)) (wq q (fun r9 y q1 => ansK (e1Tr l1 l2) (e2Tr l1 l2) (sTd C lm x l1 l2) x r9 y)) := by
    intro r y q1 hu1 hk1 hH1 hp1
    have n91 : 299 ∈ (fo (kf q1)).2.1 := List.mem_append_right _ (List.mem_singleton.mpr rfl)
    refine T_i2l (dk dtk_L_tried 6 rfl) ?_
    refine T_last 299 1 (dk dtk_L_tried 7 rfl) wE_9 n91 (vin0 (by omega)) ?_
    refine T_goto 21 (dk dtk_L_tried 8 rfl) (by decide) ?_
    refine T_iconst (v := 0) (dk dtk_L_tried 15 rfl) (by decide +kernel) ?_
    exact T_iret (dk dtk_L_tried 16 rfl) rfl rfl ⟨0, q1, rfl, rfl, hu1, hk1, HOI_1 rfl hu1 hH1, Or.inr (Or.inr ⟨hp1.1, hp1.2.1, rfl, r, by rw [sL_c]; exact if_pos rfl, hp1.2.2⟩)⟩
  have hxiAE : e1Tr l1 l2 → gtry (kE G) (d + 30) zw_tried 5 [(0, vr 0), (1, vi l1), (2, vi l2), (3, vr 299)] [vi 0, vr 299] (wq q (fun r9 y q1 => ansK (e1Tr l1 l2) (e2Tr l1 l2) (sTd C lm x l1 l2) x r9 y)) x (.inr iAE) x (gth (kf q)) := by
    intro hno
    refine ⟨⟨n9, r9⟩, ⟨0, 10, 13, 13⟩, 4, 2, wct_tried_iAE, Or.inr ⟨rfl, (dk dtk_L_tried 9 rfl)⟩, by decide, rfl, ?_⟩
    refine T_iconst (v := 1) (dk dtk_L_tried 10 rfl) (by decide +kernel) ?_
    exact T_iret (dk dtk_L_tried 11 rfl) rfl rfl ⟨1, kTh q, rfl, rfl, kTh_U hu, kst_th q, HOI_1 rfl (kTh_U hu) (HOI_th hH), Or.inl ⟨hno, rfl, KR_rf⟩⟩
  have hxiOE : e2Tr l1 l2 → gtry (kE G) (d + 30) zw_tried 5 [(0, vr 0), (1, vi l1), (2, vi l2), (3, vr 299)] [vi 0, vr 299] (wq q (fun r9 y q1 => ansK (e1Tr l1 l2) (e2Tr l1 l2) (sTd C lm x l1 l2) x r9 y)) x (.inr iOE) x (gth (kf q)) := by
    intro hno
    refine ⟨⟨n9, r9⟩, ⟨0, 10, 17, 19⟩, 4, 2, wct_tried_iOE, Or.inr ⟨rfl, (dk dtk_L_tried 12 rfl)⟩, by decide, rfl, ?_⟩
    refine T_iconst (v := 2) (dk dtk_L_tried 13 rfl) (by decide +kernel) ?_
    exact T_iret (dk dtk_L_tried 14 rfl) rfl rfl ⟨2, kTh q, rfl, rfl, kTh_U hu, kst_th q, HOI_1 rfl (kTh_U hu) (HOI_th hH), Or.inr (Or.inl ⟨hno, rfl, KR_rf⟩)⟩
  refine T_tryF (E := kE G) [vi l1, vi l2] [vi 0, vr 299] (d + 7) rfl (dk dtk_L_tried 5 rfl) kcv_L_80 rfl kk_0 rfl (kl_0 hu.1) (by omega) (Nat.le_of_ble_eq_true rfl) (Nat.le_of_ble_eq_true rfl) (gok_i (av_c (gkr m0) (av_c rfl (av_c rfl (av_c (gkr m9) av_n)))) (as_c rfl (as_c (gkr m9) as_n))) rfl n9 ?_
  refine T_mono (ka_tried (d := d) hj hu.1 hH l1 l2 (P := fun v9 y9 => ∃ r, v9 = some (vi r) ∧ HOI y9 q ∧ ¬ (e1Tr l1 l2) ∧ ¬ (e2Tr l1 l2) ∧ sTd C lm x l1 l2 r y9) (X := fun c9 y9 => ((c9 = iAE ∧ e1Tr l1 l2) ∨ (c9 = iOE ∧ e2Tr l1 l2)) ∧ y9 = x) (fun h9 => ⟨Or.inl ⟨rfl, h9⟩, rfl⟩) (fun h9 => ⟨Or.inr ⟨rfl, h9⟩, rfl⟩) (fun h8 h9 r y h1 h2 => ⟨r, rfl, h1, h8, h9, h2⟩)) (fun o9 x9 f9 w9 => ?_)
  rcases w9 with ⟨rfl, v, rfl, r, rfl, h1, h2⟩ | ⟨rfl, c9, rfl, hc, rfl⟩
  · exact ⟨⟨n9, r9⟩, ⟨r, rfl⟩, hend r (xo x x9) q hu (kst_rf q) (HOI_1 rfl hu h1) h2⟩
  · rcases hc with ⟨rfl, hno⟩ | ⟨rfl, hno⟩
    · exact hxiAE hno
    · exact hxiOE hno
abbrev zw_outcome : gy := (yL_outcome, cL_outcome, 6, (some .int), [(0, 12, 15, 13), (0, 12, 19, 19)])
set_option maxRecDepth 100000 in
theorem dtk_L_outcome : dck cL_outcome [(0, .aload 4, 2), (2, .iconst 0, 1), (3, .aload_n 0, 1), (4, .iload_n 1, 1), (5, .iload_n 2, 1), (6, .iload_n 3, 1), (7, .invokevirtual 83, 3), (10, .i2l, 1), (11, .lastore, 1), (12, .goto 11, 3), (15, .astore 5, 2), (17, .iconst 1, 1), (18, .ireturn, 1), (19, .astore 5, 2), (21, .iconst 2, 1), (22, .ireturn, 1), (23, .iconst 0, 1), (24, .ireturn, 1)] = true := by decide +kernel
set_option maxRecDepth 100000 in
theorem wca_outcome : tables_1_8[121]? = some (Cond.codeWith yL_outcome cL_outcome 6 (some .int) [(0, 12, 15, 13), (0, 12, 19, 19)]) := rfl
theorem wcw_outcome : Cond.codeWith yL_outcome cL_outcome 6 (some .int) [(0, 12, 15, 13), (0, 12, 19, 19)] ∈ W0 := W0_in (tp_8 (List.mem_of_getElem? wca_outcome)) rfl
theorem kcv_L_83 : gMv RL 83 zk_X11_outcome 3 := ⟨⟨W0_in (tp_8 (List.mem_of_getElem? (i := 122) (by decide +kernel))) rfl, W0_in (tp_8 (List.mem_of_getElem? (i := 123) (by decide +kernel))) rfl, W0_in (tp_8 (List.mem_of_getElem? (i := 124) (by decide +kernel))) rfl, W0_in (tp_1 (List.mem_of_getElem? (i := 1) (by decide +kernel))) rfl, kcw_X11_outcome⟩, ⟨by decide, by decide, by decide +kernel⟩, by decide, by decide⟩
theorem wct_outcome_iAE : gCat zw_outcome 7 iAE ⟨0, 12, 15, 13⟩ := ⟨⟨[], [⟨0, 12, 19, 19⟩], rfl, fun z hz => nomatch hz⟩, rfl, by decide, (W0_in (tp_5 (List.mem_of_getElem? (i := 44) (by decide +kernel))) rfl), by decide⟩
theorem wct_outcome_iOE : gCat zw_outcome 7 iOE ⟨0, 12, 19, 19⟩ := ⟨⟨[⟨0, 12, 15, 13⟩], [], rfl, fun z hz => by
  cases hz with
  | head => exact ⟨by decide, iAE, (W0_in (tp_5 (List.mem_of_getElem? (i := 44) (by decide +kernel))) rfl), by decide⟩
  | tail _ hz => cases hz⟩, rfl, by decide, (W0_in (tp_5 (List.mem_of_getElem? (i := 73) (by decide +kernel))) rfl), by decide⟩
set_option maxRecDepth 100000 in
set_option maxHeartbeats 4000000 in
theorem kw_outcome {G : kG} {q : kP} {d : Nat} {x : gd} (hu : kU q) (hH : HOI x q) (l1 : Int32) (l2 : Int32) (l3 : Int32) : T (wE (kE G)) (d + 30) zw_outcome 0 [(0, vr 0), (1, vi l1), (2, vi l2), (3, vi l3), (4, vr 299)] [] x (fo (kf q)) (wq q (fun _ y q1 => KRd x y)) := by
  have m0 : 0 ∈ (fo (kf q)).2.1 := List.mem_append_left _ (kl_0 hu.1)
  have m9 : 299 ∈ (fo (kf q)).2.1 := List.mem_append_right _ (List.mem_singleton.mpr rfl)
  have n9 := n299 hu
  have r9 : NR (kf q) 299 := kU_NR hu n9
  refine T_aload 4 (dk dtk_L_outcome 0 rfl) rfl ?_
  refine T_iconst (v := 0) (dk dtk_L_outcome 1 rfl) (by decide +kernel) ?_
  refine T_aload_n 0 (dk dtk_L_outcome 2 rfl) rfl rfl ?_
  refine T_iload_n 1 (dk dtk_L_outcome 3 rfl) rfl rfl ?_
  refine T_iload_n 2 (dk dtk_L_outcome 4 rfl) rfl rfl ?_
  refine T_iload_n 3 (dk dtk_L_outcome 5 rfl) rfl rfl ?_
  have hend : ∀ (r : Int32) (y : gd) (q1 : kP), kU q1 → kst q q1 → HOI y q1 → (fun _ y q1 => KRd x y) 0 y q1 → T (wE (kE G)) (d + 30) zw_outcome 10 [(0, vr 0), (1, vi l1), (2, vi l2), (3, vi l3), (4, vr 299)] [vi r, vi 0, vr 299] y (fo (kf q1)) (wq q (fun _ y q1 => KRd x y)) := by
    intro r y q1 hu1 hk1 hH1 hp1
    have n91 : 299 ∈ (fo (kf q1)).2.1 := List.mem_append_right _ (List.mem_singleton.mpr rfl)
    refine T_i2l (dk dtk_L_outcome 7 rfl) ?_
    refine T_last 299 1 (dk dtk_L_outcome 8 rfl) wE_9 n91 (vin0 (by omega)) ?_
    refine T_goto 23 (dk dtk_L_outcome 9 rfl) (by decide) ?_
    refine T_iconst (v := 0) (dk dtk_L_outcome 16 rfl) (by decide +kernel) ?_
    exact T_iret (dk dtk_L_outcome 17 rfl) rfl rfl ⟨0, q1, rfl, rfl, hu1, hk1, HOI_1 rfl hu1 hH1, hp1⟩
  have hxiAE : gtry (kE G) (d + 30) zw_outcome 7 [(0, vr 0), (1, vi l1), (2, vi l2), (3, vi l3), (4, vr 299)] [vi 0, vr 299] (wq q (fun _ y q1 => KRd x y)) x (.inr iAE) x (gth (kf q)) := by
    refine ⟨⟨n9, r9⟩, ⟨0, 12, 15, 13⟩, 5, 2, wct_outcome_iAE, Or.inr ⟨rfl, (dk dtk_L_outcome 10 rfl)⟩, by decide, rfl, ?_⟩
    refine T_iconst (v := 1) (dk dtk_L_outcome 11 rfl) (by decide +kernel) ?_
    exact T_iret (dk dtk_L_outcome 12 rfl) rfl rfl ⟨1, kTh q, rfl, rfl, kTh_U hu, kst_th q, HOI_1 rfl (kTh_U hu) (HOI_th hH), KR_rf⟩
  have hxiOE : gtry (kE G) (d + 30) zw_outcome 7 [(0, vr 0), (1, vi l1), (2, vi l2), (3, vi l3), (4, vr 299)] [vi 0, vr 299] (wq q (fun _ y q1 => KRd x y)) x (.inr iOE) x (gth (kf q)) := by
    refine ⟨⟨n9, r9⟩, ⟨0, 12, 19, 19⟩, 5, 2, wct_outcome_iOE, Or.inr ⟨rfl, (dk dtk_L_outcome 13 rfl)⟩, by decide, rfl, ?_⟩
    refine T_iconst (v := 2) (dk dtk_L_outcome 14 rfl) (by decide +kernel) ?_
    exact T_iret (dk dtk_L_outcome 15 rfl) rfl rfl ⟨2, kTh q, rfl, rfl, kTh_U hu, kst_th q, HOI_1 rfl (kTh_U hu) (HOI_th hH), KR_rf⟩
  refine T_tryF (E := kE G) [vi l1, vi l2, vi l3] [vi 0, vr 299] (d + 7) rfl (dk dtk_L_outcome 6 rfl) kcv_L_83 rfl kk_0 rfl (kl_0 hu.1) (by omega) (Nat.le_of_ble_eq_true rfl) (Nat.le_of_ble_eq_true rfl) (gok_i (av_c (gkr m0) (av_c rfl (av_c rfl (av_c rfl (av_c (gkr m9) av_n))))) (as_c rfl (as_c (gkr m9) as_n))) rfl n9 ?_
  refine T_mono (kr_outcome (d := d) hu.1 hH l1 l2 l3 (P := fun v9 y9 => ∃ r, v9 = some (vi r) ∧ HOI y9 q ∧ KRd x y9) (X := fun c9 y9 => (c9 = iAE ∨ c9 = iOE) ∧ y9 = x) ⟨Or.inl rfl, rfl⟩ ⟨Or.inr rfl, rfl⟩ (fun r y h1 h2 => ⟨r, rfl, h1, h2⟩)) (fun o9 x9 f9 w9 => ?_)
  rcases w9 with ⟨rfl, v, rfl, r, rfl, h1, h2⟩ | ⟨rfl, c9, rfl, hc, rfl⟩
  · exact ⟨⟨n9, r9⟩, ⟨r, rfl⟩, hend r (xo x x9) q hu (kst_rf q) (HOI_1 rfl hu h1) h2⟩
  · rcases hc with rfl | rfl
    · exact hxiAE
    · exact hxiOE
abbrev zw_finding : gy := (yL_finding, cL_finding, 5, (some .int), [(0, 10, 13, 13)])
set_option maxRecDepth 100000 in
theorem dtk_L_finding : dck cL_finding [(0, .aload_n 3, 1), (1, .iconst 0, 1), (2, .aload_n 0, 1), (3, .iload_n 1, 1), (4, .iload_n 2, 1), (5, .invokevirtual 87, 3), (8, .i2l, 1), (9, .lastore, 1), (10, .goto 7, 3), (13, .astore 4, 2), (15, .iconst 1, 1), (16, .ireturn, 1), (17, .iconst 0, 1), (18, .ireturn, 1)] = true := by decide +kernel
set_option maxRecDepth 100000 in
theorem wca_finding : tables_1_8[132]? = some (Cond.codeWith yL_finding cL_finding 5 (some .int) [(0, 10, 13, 13)]) := rfl
theorem wcw_finding : Cond.codeWith yL_finding cL_finding 5 (some .int) [(0, 10, 13, 13)] ∈ W0 := W0_in (tp_8 (List.mem_of_getElem? wca_finding)) rfl
theorem kcv_L_87 : gMv RL 87 zk_X11_finding 2 := ⟨⟨W0_in (tp_8 (List.mem_of_getElem? (i := 133) (by decide +kernel))) rfl, W0_in (tp_8 (List.mem_of_getElem? (i := 134) (by decide +kernel))) rfl, W0_in (tp_8 (List.mem_of_getElem? (i := 135) (by decide +kernel))) rfl, W0_in (tp_1 (List.mem_of_getElem? (i := 1) (by decide +kernel))) rfl, kcw_X11_finding⟩, ⟨by decide, by decide, by decide +kernel⟩, by decide, by decide⟩
theorem wct_finding_iAE : gCat zw_finding 5 iAE ⟨0, 10, 13, 13⟩ := ⟨⟨[], [], rfl, fun z hz => nomatch hz⟩, rfl, by decide, (W0_in (tp_5 (List.mem_of_getElem? (i := 44) (by decide +kernel))) rfl), by decide⟩
set_option maxRecDepth 100000 in
set_option maxHeartbeats 4000000 in
theorem kw_finding {G : kG} {q : kP} {d : Nat} {x : gd} {C : gCo} {wr n : Nat} {lm : Nat → Nat} {w : gd} (hj : JH C wr n lm x w) (hu : kU q) (hH : HOI x q) (l1 : Int32) (l2 : Int32) : T (wE (kE G)) (d + 30) zw_finding 0 [(0, vr 0), (1, vi l1), (2, vi l2), (3, vr 299)] [] x (fo (kf q)) (wq q (fun r9 y q1 => ansK (e1Sh l1 l2) (False) (sFi C lm x l1 l2) x r9 y)) := by
  have m0 : 0 ∈ (fo (kf q)).2.1 := List.mem_append_left _ (kl_0 hu.1)
  have m9 : 299 ∈ (fo (kf q)).2.1 := List.mem_append_right _ (List.mem_singleton.mpr rfl)
  have n9 := n299 hu
  have r9 : NR (kf q) 299 := kU_NR hu n9
  refine T_aload_n 3 (dk dtk_L_finding 0 rfl) rfl rfl ?_
  refine T_iconst (v := 0) (dk dtk_L_finding 1 rfl) (by decide +kernel) ?_
  refine T_aload_n 0 (dk dtk_L_finding 2 rfl) rfl rfl ?_
  refine T_iload_n 1 (dk dtk_L_finding 3 rfl) rfl rfl ?_
  refine T_iload_n 2 (dk dtk_L_finding 4 rfl) rfl rfl ?_
  have hend : ∀ (r : Int32) (y : gd) (q1 : kP), kU q1 → kst q q1 → HOI y q1 → ¬ (e1Sh l1 l2) ∧ ¬ (False) ∧ sFi C lm x l1 l2 r y → T (wE (kE G)) (d + 30) zw_finding 8 [(0, vr 0), (1, vi l1), (2, vi l2), (3, vr 299)] [vi r, vi 0, vr 299] y (fo (kf q1)) (wq q (fun r9 y q1 => ansK (e1Sh l1 l2) (False) (sFi C lm x l1 l2) x r9 y)) := by
    intro r y q1 hu1 hk1 hH1 hp1
    have n91 : 299 ∈ (fo (kf q1)).2.1 := List.mem_append_right _ (List.mem_singleton.mpr rfl)
    refine T_i2l (dk dtk_L_finding 6 rfl) ?_
    refine T_last 299 1 (dk dtk_L_finding 7 rfl) wE_9 n91 (vin0 (by omega)) ?_
    refine T_goto 17 (dk dtk_L_finding 8 rfl) (by decide) ?_
    refine T_iconst (v := 0) (dk dtk_L_finding 12 rfl) (by decide +kernel) ?_
    exact T_iret (dk dtk_L_finding 13 rfl) rfl rfl ⟨0, q1, rfl, rfl, hu1, hk1, HOI_1 rfl hu1 hH1, Or.inr (Or.inr ⟨hp1.1, hp1.2.1, rfl, r, by rw [sL_c]; exact if_pos rfl, hp1.2.2⟩)⟩
  have hxiAE : e1Sh l1 l2 → gtry (kE G) (d + 30) zw_finding 5 [(0, vr 0), (1, vi l1), (2, vi l2), (3, vr 299)] [vi 0, vr 299] (wq q (fun r9 y q1 => ansK (e1Sh l1 l2) (False) (sFi C lm x l1 l2) x r9 y)) x (.inr iAE) x (gth (kf q)) := by
    intro hno
    refine ⟨⟨n9, r9⟩, ⟨0, 10, 13, 13⟩, 4, 2, wct_finding_iAE, Or.inr ⟨rfl, (dk dtk_L_finding 9 rfl)⟩, by decide, rfl, ?_⟩
    refine T_iconst (v := 1) (dk dtk_L_finding 10 rfl) (by decide +kernel) ?_
    exact T_iret (dk dtk_L_finding 11 rfl) rfl rfl ⟨1, kTh q, rfl, rfl, kTh_U hu, kst_th q, HOI_1 rfl (kTh_U hu) (HOI_th hH), Or.inl ⟨hno, rfl, KR_rf⟩⟩
  refine T_tryF (E := kE G) [vi l1, vi l2] [vi 0, vr 299] (d + 7) rfl (dk dtk_L_finding 5 rfl) kcv_L_87 rfl kk_0 rfl (kl_0 hu.1) (by omega) (Nat.le_of_ble_eq_true rfl) (Nat.le_of_ble_eq_true rfl) (gok_i (av_c (gkr m0) (av_c rfl (av_c rfl (av_c (gkr m9) av_n)))) (as_c rfl (as_c (gkr m9) as_n))) rfl n9 ?_
  refine T_mono (ka_finding (d := d) hj hu.1 hH l1 l2 (P := fun v9 y9 => ∃ r, v9 = some (vi r) ∧ HOI y9 q ∧ ¬ (e1Sh l1 l2) ∧ ¬ (False) ∧ sFi C lm x l1 l2 r y9) (X := fun c9 y9 => ((c9 = iAE ∧ e1Sh l1 l2)) ∧ y9 = x) (fun h9 => ⟨⟨rfl, h9⟩, rfl⟩) (fun h8 h9 r y h1 h2 => ⟨r, rfl, h1, h8, h9, h2⟩)) (fun o9 x9 f9 w9 => ?_)
  rcases w9 with ⟨rfl, v, rfl, r, rfl, h1, h2⟩ | ⟨rfl, c9, rfl, hc, rfl⟩
  · exact ⟨⟨n9, r9⟩, ⟨r, rfl⟩, hend r (xo x x9) q hu (kst_rf q) (HOI_1 rfl hu h1) h2⟩
  · obtain ⟨rfl, hno⟩ := hc
    exact hxiAE hno
abbrev zw_show : gy := (yL_show, cL_show, 5, (some .int), [(0, 10, 13, 13), (0, 10, 17, 27)])
set_option maxRecDepth 100000 in
theorem dtk_L_show : dck cL_show [(0, .aload_n 3, 1), (1, .iconst 0, 1), (2, .aload_n 0, 1), (3, .iload_n 1, 1), (4, .iload_n 2, 1), (5, .invokevirtual 90, 3), (8, .i2l, 1), (9, .lastore, 1), (10, .goto 11, 3), (13, .astore 4, 2), (15, .iconst 1, 1), (16, .ireturn, 1), (17, .astore 4, 2), (19, .iconst 2, 1), (20, .ireturn, 1), (21, .iconst 0, 1), (22, .ireturn, 1)] = true := by decide +kernel
set_option maxRecDepth 100000 in
theorem wca_show : tables_1_8[147]? = some (Cond.codeWith yL_show cL_show 5 (some .int) [(0, 10, 13, 13), (0, 10, 17, 27)]) := rfl
theorem wcw_show : Cond.codeWith yL_show cL_show 5 (some .int) [(0, 10, 13, 13), (0, 10, 17, 27)] ∈ W0 := W0_in (tp_8 (List.mem_of_getElem? wca_show)) rfl
theorem kcv_L_90 : gMv RL 90 zk_X11_show 2 := ⟨⟨W0_in (tp_8 (List.mem_of_getElem? (i := 148) (by decide +kernel))) rfl, W0_in (tp_8 (List.mem_of_getElem? (i := 149) (by decide +kernel))) rfl, W0_in (tp_8 (List.mem_of_getElem? (i := 150) (by decide +kernel))) rfl, W0_in (tp_1 (List.mem_of_getElem? (i := 1) (by decide +kernel))) rfl, kcw_X11_show⟩, ⟨by decide, by decide, by decide +kernel⟩, by decide, by decide⟩
theorem wct_show_iAE : gCat zw_show 5 iAE ⟨0, 10, 13, 13⟩ := ⟨⟨[], [⟨0, 10, 17, 27⟩], rfl, fun z hz => nomatch hz⟩, rfl, by decide, (W0_in (tp_5 (List.mem_of_getElem? (i := 44) (by decide +kernel))) rfl), by decide⟩
theorem wct_show_iSE : gCat zw_show 5 iSE ⟨0, 10, 17, 27⟩ := ⟨⟨[⟨0, 10, 13, 13⟩], [], rfl, fun z hz => by
  cases hz with
  | head => exact ⟨by decide, iAE, (W0_in (tp_5 (List.mem_of_getElem? (i := 44) (by decide +kernel))) rfl), by decide⟩
  | tail _ hz => cases hz⟩, rfl, by decide, (W0_in (tp_5 (List.mem_of_getElem? (i := 107) (by decide +kernel))) rfl), by decide⟩
set_option maxRecDepth 100000 in
set_option maxHeartbeats 4000000 in
theorem kw_show {G : kG} {q : kP} {d : Nat} {x : gd} {C : gCo} {wr n : Nat} {lm : Nat → Nat} {w : gd} (hj : JH C wr n lm x w) (hu : kU q) (hH : HOI x q) (l1 : Int32) (l2 : Int32) : T (wE (kE G)) (d + 30) zw_show 0 [(0, vr 0), (1, vi l1), (2, vi l2), (3, vr 299)] [] x (fo (kf q)) (wq q (fun r9 y q1 => ansK (e1Sh l1 l2) (e2Sh C lm x l1 l2) (sSh C lm x l1 l2) x r9 y)) := by
  have m0 : 0 ∈ (fo (kf q)).2.1 := List.mem_append_left _ (kl_0 hu.1)
  have m9 : 299 ∈ (fo (kf q)).2.1 := List.mem_append_right _ (List.mem_singleton.mpr rfl)
  have n9 := n299 hu
  have r9 : NR (kf q) 299 := kU_NR hu n9
  refine T_aload_n 3 (dk dtk_L_show 0 rfl) rfl rfl ?_
  refine T_iconst (v := 0) (dk dtk_L_show 1 rfl) (by decide +kernel) ?_
  refine T_aload_n 0 (dk dtk_L_show 2 rfl) rfl rfl ?_
  refine T_iload_n 1 (dk dtk_L_show 3 rfl) rfl rfl ?_
  refine T_iload_n 2 (dk dtk_L_show 4 rfl) rfl rfl ?_
  have hend : ∀ (r : Int32) (y : gd) (q1 : kP), kU q1 → kst q q1 → HOI y q1 → ¬ (e1Sh l1 l2) ∧ ¬ (e2Sh C lm x l1 l2) ∧ sSh C lm x l1 l2 r y → T (wE (kE G)) (d + 30) zw_show 8 [(0, vr 0), (1, vi l1), (2, vi l2), (3, vr 299)] [vi r, vi 0, vr 299] y (fo (kf q1)) (wq q (fun r9 y q1 => ansK (e1Sh l1 l2) (e2Sh C lm x l1 l2) (sSh C lm x l1 l2) x r9 y)) := by
    intro r y q1 hu1 hk1 hH1 hp1
    have n91 : 299 ∈ (fo (kf q1)).2.1 := List.mem_append_right _ (List.mem_singleton.mpr rfl)
    refine T_i2l (dk dtk_L_show 6 rfl) ?_
    refine T_last 299 1 (dk dtk_L_show 7 rfl) wE_9 n91 (vin0 (by omega)) ?_
    refine T_goto 21 (dk dtk_L_show 8 rfl) (by decide) ?_
    refine T_iconst (v := 0) (dk dtk_L_show 15 rfl) (by decide +kernel) ?_
    exact T_iret (dk dtk_L_show 16 rfl) rfl rfl ⟨0, q1, rfl, rfl, hu1, hk1, HOI_1 rfl hu1 hH1, Or.inr (Or.inr ⟨hp1.1, hp1.2.1, rfl, r, by rw [sL_c]; exact if_pos rfl, hp1.2.2⟩)⟩
  have hxiAE : e1Sh l1 l2 → gtry (kE G) (d + 30) zw_show 5 [(0, vr 0), (1, vi l1), (2, vi l2), (3, vr 299)] [vi 0, vr 299] (wq q (fun r9 y q1 => ansK (e1Sh l1 l2) (e2Sh C lm x l1 l2) (sSh C lm x l1 l2) x r9 y)) x (.inr iAE) x (gth (kf q)) := by
    intro hno
    refine ⟨⟨n9, r9⟩, ⟨0, 10, 13, 13⟩, 4, 2, wct_show_iAE, Or.inr ⟨rfl, (dk dtk_L_show 9 rfl)⟩, by decide, rfl, ?_⟩
    refine T_iconst (v := 1) (dk dtk_L_show 10 rfl) (by decide +kernel) ?_
    exact T_iret (dk dtk_L_show 11 rfl) rfl rfl ⟨1, kTh q, rfl, rfl, kTh_U hu, kst_th q, HOI_1 rfl (kTh_U hu) (HOI_th hH), Or.inl ⟨hno, rfl, KR_rf⟩⟩
  have hxiSE : e2Sh C lm x l1 l2 → gtry (kE G) (d + 30) zw_show 5 [(0, vr 0), (1, vi l1), (2, vi l2), (3, vr 299)] [vi 0, vr 299] (wq q (fun r9 y q1 => ansK (e1Sh l1 l2) (e2Sh C lm x l1 l2) (sSh C lm x l1 l2) x r9 y)) x (.inr iSE) x (gth (kf q)) := by
    intro hno
    refine ⟨⟨n9, r9⟩, ⟨0, 10, 17, 27⟩, 4, 2, wct_show_iSE, Or.inr ⟨rfl, (dk dtk_L_show 12 rfl)⟩, by decide, rfl, ?_⟩
    refine T_iconst (v := 2) (dk dtk_L_show 13 rfl) (by decide +kernel) ?_
    exact T_iret (dk dtk_L_show 14 rfl) rfl rfl ⟨2, kTh q, rfl, rfl, kTh_U hu, kst_th q, HOI_1 rfl (kTh_U hu) (HOI_th hH), Or.inr (Or.inl ⟨hno, rfl, KR_rf⟩)⟩
  refine T_tryF (E := kE G) [vi l1, vi l2] [vi 0, vr 299] (d + 7) rfl (dk dtk_L_show 5 rfl) kcv_L_90 rfl kk_0 rfl (kl_0 hu.1) (by omega) (Nat.le_of_ble_eq_true rfl) (Nat.le_of_ble_eq_true rfl) (gok_i (av_c (gkr m0) (av_c rfl (av_c rfl (av_c (gkr m9) av_n)))) (as_c rfl (as_c (gkr m9) as_n))) rfl n9 ?_
  refine T_mono (ka_show (d := d) hj hu.1 hH l1 l2 (P := fun v9 y9 => ∃ r, v9 = some (vi r) ∧ HOI y9 q ∧ ¬ (e1Sh l1 l2) ∧ ¬ (e2Sh C lm x l1 l2) ∧ sSh C lm x l1 l2 r y9) (X := fun c9 y9 => ((c9 = iAE ∧ e1Sh l1 l2) ∨ (c9 = iSE ∧ e2Sh C lm x l1 l2)) ∧ y9 = x) (fun h9 => ⟨Or.inl ⟨rfl, h9⟩, rfl⟩) (fun h9 => ⟨Or.inr ⟨rfl, h9⟩, rfl⟩) (fun h8 h9 r y h1 h2 => ⟨r, rfl, h1, h8, h9, h2⟩)) (fun o9 x9 f9 w9 => ?_)
  rcases w9 with ⟨rfl, v, rfl, r, rfl, h1, h2⟩ | ⟨rfl, c9, rfl, hc, rfl⟩
  · exact ⟨⟨n9, r9⟩, ⟨r, rfl⟩, hend r (xo x x9) q hu (kst_rf q) (HOI_1 rfl hu h1) h2⟩
  · rcases hc with ⟨rfl, hno⟩ | ⟨rfl, hno⟩
    · exact hxiAE hno
    · exact hxiSE hno
abbrev zw_common : gy := (yL_common, cL_common, 5, (some .int), [(0, 10, 13, 13), (0, 10, 17, 19)])
set_option maxRecDepth 100000 in
theorem dtk_L_common : dck cL_common [(0, .aload_n 3, 1), (1, .iconst 0, 1), (2, .aload_n 0, 1), (3, .iload_n 1, 1), (4, .iload_n 2, 1), (5, .invokevirtual 93, 3), (8, .i2l, 1), (9, .lastore, 1), (10, .goto 11, 3), (13, .astore 4, 2), (15, .iconst 1, 1), (16, .ireturn, 1), (17, .astore 4, 2), (19, .iconst 2, 1), (20, .ireturn, 1), (21, .iconst 0, 1), (22, .ireturn, 1)] = true := by decide +kernel
set_option maxRecDepth 100000 in
theorem wca_common : tables_1_8[159]? = some (Cond.codeWith yL_common cL_common 5 (some .int) [(0, 10, 13, 13), (0, 10, 17, 19)]) := rfl
theorem wcw_common : Cond.codeWith yL_common cL_common 5 (some .int) [(0, 10, 13, 13), (0, 10, 17, 19)] ∈ W0 := W0_in (tp_8 (List.mem_of_getElem? wca_common)) rfl
theorem kcv_L_93 : gMv RL 93 zk_X11_common 2 := ⟨⟨W0_in (tp_8 (List.mem_of_getElem? (i := 160) (by decide +kernel))) rfl, W0_in (tp_8 (List.mem_of_getElem? (i := 161) (by decide +kernel))) rfl, W0_in (tp_8 (List.mem_of_getElem? (i := 162) (by decide +kernel))) rfl, W0_in (tp_1 (List.mem_of_getElem? (i := 1) (by decide +kernel))) rfl, kcw_X11_common⟩, ⟨by decide, by decide, by decide +kernel⟩, by decide, by decide⟩
theorem wct_common_iAE : gCat zw_common 5 iAE ⟨0, 10, 13, 13⟩ := ⟨⟨[], [⟨0, 10, 17, 19⟩], rfl, fun z hz => nomatch hz⟩, rfl, by decide, (W0_in (tp_5 (List.mem_of_getElem? (i := 44) (by decide +kernel))) rfl), by decide⟩
theorem wct_common_iOE : gCat zw_common 5 iOE ⟨0, 10, 17, 19⟩ := ⟨⟨[⟨0, 10, 13, 13⟩], [], rfl, fun z hz => by
  cases hz with
  | head => exact ⟨by decide, iAE, (W0_in (tp_5 (List.mem_of_getElem? (i := 44) (by decide +kernel))) rfl), by decide⟩
  | tail _ hz => cases hz⟩, rfl, by decide, (W0_in (tp_5 (List.mem_of_getElem? (i := 73) (by decide +kernel))) rfl), by decide⟩
set_option maxRecDepth 100000 in
set_option maxHeartbeats 4000000 in
theorem kw_common {G : kG} {q : kP} {d : Nat} {x : gd} {C : gCo} {wr n : Nat} {lm : Nat → Nat} {w : gd} (hj : JH C wr n lm x w) (hu : kU q) (hH : HOI x q) (l1 : Int32) (l2 : Int32) : T (wE (kE G)) (d + 30) zw_common 0 [(0, vr 0), (1, vi l1), (2, vi l2), (3, vr 299)] [] x (fo (kf q)) (wq q (fun r9 y q1 => ansK (e1Tr l1 l2) (e2Co x l1 l2) (sCo C lm x l1 l2) x r9 y)) := by
  have m0 : 0 ∈ (fo (kf q)).2.1 := List.mem_append_left _ (kl_0 hu.1)
  have m9 : 299 ∈ (fo (kf q)).2.1 := List.mem_append_right _ (List.mem_singleton.mpr rfl)
  have n9 := n299 hu
  have r9 : NR (kf q) 299 := kU_NR hu n9
  refine T_aload_n 3 (dk dtk_L_common 0 rfl) rfl rfl ?_
  refine T_iconst (v := 0) (dk dtk_L_common 1 rfl) (by decide +kernel) ?_
  refine T_aload_n 0 (dk dtk_L_common 2 rfl) rfl rfl ?_
  refine T_iload_n 1 (dk dtk_L_common 3 rfl) rfl rfl ?_
  refine T_iload_n 2 (dk dtk_L_common 4 rfl) rfl rfl ?_
  have hend : ∀ (r : Int32) (y : gd) (q1 : kP), kU q1 → kst q q1 → HOI y q1 → ¬ (e1Tr l1 l2) ∧ ¬ (e2Co x l1 l2) ∧ sCo C lm x l1 l2 r y → T (wE (kE G)) (d + 30) zw_common 8 [(0, vr 0), (1, vi l1), (2, vi l2), (3, vr 299)] [vi r, vi 0, vr 299] y (fo (kf q1)) (wq q (fun r9 y q1 => ansK (e1Tr l1 l2) (e2Co x l1 l2) (sCo C lm x l1 l2) x r9 y)) := by
    intro r y q1 hu1 hk1 hH1 hp1
    have n91 : 299 ∈ (fo (kf q1)).2.1 := List.mem_append_right _ (List.mem_singleton.mpr rfl)
    refine T_i2l (dk dtk_L_common 6 rfl) ?_
    refine T_last 299 1 (dk dtk_L_common 7 rfl) wE_9 n91 (vin0 (by omega)) ?_
    refine T_goto 21 (dk dtk_L_common 8 rfl) (by decide) ?_
    refine T_iconst (v := 0) (dk dtk_L_common 15 rfl) (by decide +kernel) ?_
    exact T_iret (dk dtk_L_common 16 rfl) rfl rfl ⟨0, q1, rfl, rfl, hu1, hk1, HOI_1 rfl hu1 hH1, Or.inr (Or.inr ⟨hp1.1, hp1.2.1, rfl, r, by rw [sL_c]; exact if_pos rfl, hp1.2.2⟩)⟩
  have hxiAE : e1Tr l1 l2 → gtry (kE G) (d + 30) zw_common 5 [(0, vr 0), (1, vi l1), (2, vi l2), (3, vr 299)] [vi 0, vr 299] (wq q (fun r9 y q1 => ansK (e1Tr l1 l2) (e2Co x l1 l2) (sCo C lm x l1 l2) x r9 y)) x (.inr iAE) x (gth (kf q)) := by
    intro hno
    refine ⟨⟨n9, r9⟩, ⟨0, 10, 13, 13⟩, 4, 2, wct_common_iAE, Or.inr ⟨rfl, (dk dtk_L_common 9 rfl)⟩, by decide, rfl, ?_⟩
    refine T_iconst (v := 1) (dk dtk_L_common 10 rfl) (by decide +kernel) ?_
    exact T_iret (dk dtk_L_common 11 rfl) rfl rfl ⟨1, kTh q, rfl, rfl, kTh_U hu, kst_th q, HOI_1 rfl (kTh_U hu) (HOI_th hH), Or.inl ⟨hno, rfl, KR_rf⟩⟩
  have hxiOE : e2Co x l1 l2 → gtry (kE G) (d + 30) zw_common 5 [(0, vr 0), (1, vi l1), (2, vi l2), (3, vr 299)] [vi 0, vr 299] (wq q (fun r9 y q1 => ansK (e1Tr l1 l2) (e2Co x l1 l2) (sCo C lm x l1 l2) x r9 y)) x (.inr iOE) x (gth (kf q)) := by
    intro hno
    refine ⟨⟨n9, r9⟩, ⟨0, 10, 17, 19⟩, 4, 2, wct_common_iOE, Or.inr ⟨rfl, (dk dtk_L_common 12 rfl)⟩, by decide, rfl, ?_⟩
    refine T_iconst (v := 2) (dk dtk_L_common 13 rfl) (by decide +kernel) ?_
    exact T_iret (dk dtk_L_common 14 rfl) rfl rfl ⟨2, kTh q, rfl, rfl, kTh_U hu, kst_th q, HOI_1 rfl (kTh_U hu) (HOI_th hH), Or.inr (Or.inl ⟨hno, rfl, KR_rf⟩)⟩
  refine T_tryF (E := kE G) [vi l1, vi l2] [vi 0, vr 299] (d + 7) rfl (dk dtk_L_common 5 rfl) kcv_L_93 rfl kk_0 rfl (kl_0 hu.1) (by omega) (Nat.le_of_ble_eq_true rfl) (Nat.le_of_ble_eq_true rfl) (gok_i (av_c (gkr m0) (av_c rfl (av_c rfl (av_c (gkr m9) av_n)))) (as_c rfl (as_c (gkr m9) as_n))) rfl n9 ?_
  refine T_mono (ka_common (d := d) hj hu.1 hH l1 l2 (P := fun v9 y9 => ∃ r, v9 = some (vi r) ∧ HOI y9 q ∧ ¬ (e1Tr l1 l2) ∧ ¬ (e2Co x l1 l2) ∧ sCo C lm x l1 l2 r y9) (X := fun c9 y9 => ((c9 = iAE ∧ e1Tr l1 l2) ∨ (c9 = iOE ∧ e2Co x l1 l2)) ∧ y9 = x) (fun h9 => ⟨Or.inl ⟨rfl, h9⟩, rfl⟩) (fun h9 => ⟨Or.inr ⟨rfl, h9⟩, rfl⟩) (fun h8 h9 r y h1 h2 => ⟨r, rfl, h1, h8, h9, h2⟩)) (fun o9 x9 f9 w9 => ?_)
  rcases w9 with ⟨rfl, v, rfl, r, rfl, h1, h2⟩ | ⟨rfl, c9, rfl, hc, rfl⟩
  · exact ⟨⟨n9, r9⟩, ⟨r, rfl⟩, hend r (xo x x9) q hu (kst_rf q) (HOI_1 rfl hu h1) h2⟩
  · rcases hc with ⟨rfl, hno⟩ | ⟨rfl, hno⟩
    · exact hxiAE hno
    · exact hxiOE hno
abbrev zw_ring : gy := (yL_ring, cL_ring, 4, (some .int), [(0, 9, 12, 13)])
set_option maxRecDepth 100000 in
theorem dtk_L_ring : dck cL_ring [(0, .aload_n 2, 1), (1, .iconst 0, 1), (2, .aload_n 0, 1), (3, .iload_n 1, 1), (4, .invokevirtual 96, 3), (7, .i2l, 1), (8, .lastore, 1), (9, .goto 6, 3), (12, .astore_n 3, 1), (13, .iconst 1, 1), (14, .ireturn, 1), (15, .iconst 0, 1), (16, .ireturn, 1)] = true := by decide +kernel
set_option maxRecDepth 100000 in
theorem wca_ring : tables_1_8[166]? = some (Cond.codeWith yL_ring cL_ring 4 (some .int) [(0, 9, 12, 13)]) := rfl
theorem wcw_ring : Cond.codeWith yL_ring cL_ring 4 (some .int) [(0, 9, 12, 13)] ∈ W0 := W0_in (tp_8 (List.mem_of_getElem? wca_ring)) rfl
theorem kcv_L_96 : gMv RL 96 zk_X11_ring 1 := ⟨⟨W0_in (tp_8 (List.mem_of_getElem? (i := 167) (by decide +kernel))) rfl, W0_in (tp_8 (List.mem_of_getElem? (i := 168) (by decide +kernel))) rfl, W0_in (tp_8 (List.mem_of_getElem? (i := 169) (by decide +kernel))) rfl, W0_in (tp_1 (List.mem_of_getElem? (i := 1) (by decide +kernel))) rfl, kcw_X11_ring⟩, ⟨by decide, by decide, by decide +kernel⟩, by decide, by decide⟩
theorem wct_ring_iAE : gCat zw_ring 4 iAE ⟨0, 9, 12, 13⟩ := ⟨⟨[], [], rfl, fun z hz => nomatch hz⟩, rfl, by decide, (W0_in (tp_5 (List.mem_of_getElem? (i := 44) (by decide +kernel))) rfl), by decide⟩
set_option maxRecDepth 100000 in
set_option maxHeartbeats 4000000 in
theorem kw_ring {G : kG} {q : kP} {d : Nat} {x : gd} {C : gCo} {wr n : Nat} {lm : Nat → Nat} {w : gd} (hj : JH C wr n lm x w) (hu : kU q) (hH : HOI x q) (l1 : Int32) : T (wE (kE G)) (d + 30) zw_ring 0 [(0, vr 0), (1, vi l1), (2, vr 299)] [] x (fo (kf q)) (wq q (fun r9 y q1 => ansK (e1Rg l1) (False) (sRg C lm x l1) x r9 y)) := by
  have m0 : 0 ∈ (fo (kf q)).2.1 := List.mem_append_left _ (kl_0 hu.1)
  have m9 : 299 ∈ (fo (kf q)).2.1 := List.mem_append_right _ (List.mem_singleton.mpr rfl)
  have n9 := n299 hu
  have r9 : NR (kf q) 299 := kU_NR hu n9
  refine T_aload_n 2 (dk dtk_L_ring 0 rfl) rfl rfl ?_
  refine T_iconst (v := 0) (dk dtk_L_ring 1 rfl) (by decide +kernel) ?_
  refine T_aload_n 0 (dk dtk_L_ring 2 rfl) rfl rfl ?_
  refine T_iload_n 1 (dk dtk_L_ring 3 rfl) rfl rfl ?_
  have hend : ∀ (r : Int32) (y : gd) (q1 : kP), kU q1 → kst q q1 → HOI y q1 → ¬ (e1Rg l1) ∧ ¬ (False) ∧ sRg C lm x l1 r y → T (wE (kE G)) (d + 30) zw_ring 7 [(0, vr 0), (1, vi l1), (2, vr 299)] [vi r, vi 0, vr 299] y (fo (kf q1)) (wq q (fun r9 y q1 => ansK (e1Rg l1) (False) (sRg C lm x l1) x r9 y)) := by
    intro r y q1 hu1 hk1 hH1 hp1
    have n91 : 299 ∈ (fo (kf q1)).2.1 := List.mem_append_right _ (List.mem_singleton.mpr rfl)
    refine T_i2l (dk dtk_L_ring 5 rfl) ?_
    refine T_last 299 1 (dk dtk_L_ring 6 rfl) wE_9 n91 (vin0 (by omega)) ?_
    refine T_goto 15 (dk dtk_L_ring 7 rfl) (by decide) ?_
    refine T_iconst (v := 0) (dk dtk_L_ring 11 rfl) (by decide +kernel) ?_
    exact T_iret (dk dtk_L_ring 12 rfl) rfl rfl ⟨0, q1, rfl, rfl, hu1, hk1, HOI_1 rfl hu1 hH1, Or.inr (Or.inr ⟨hp1.1, hp1.2.1, rfl, r, by rw [sL_c]; exact if_pos rfl, hp1.2.2⟩)⟩
  have hxiAE : e1Rg l1 → gtry (kE G) (d + 30) zw_ring 4 [(0, vr 0), (1, vi l1), (2, vr 299)] [vi 0, vr 299] (wq q (fun r9 y q1 => ansK (e1Rg l1) (False) (sRg C lm x l1) x r9 y)) x (.inr iAE) x (gth (kf q)) := by
    intro hno
    refine ⟨⟨n9, r9⟩, ⟨0, 9, 12, 13⟩, 3, 1, wct_ring_iAE, Or.inl ⟨3, rfl, rfl, (dk dtk_L_ring 8 rfl)⟩, by decide, rfl, ?_⟩
    refine T_iconst (v := 1) (dk dtk_L_ring 9 rfl) (by decide +kernel) ?_
    exact T_iret (dk dtk_L_ring 10 rfl) rfl rfl ⟨1, kTh q, rfl, rfl, kTh_U hu, kst_th q, HOI_1 rfl (kTh_U hu) (HOI_th hH), Or.inl ⟨hno, rfl, KR_rf⟩⟩
  refine T_tryF (E := kE G) [vi l1] [vi 0, vr 299] (d + 7) rfl (dk dtk_L_ring 4 rfl) kcv_L_96 rfl kk_0 rfl (kl_0 hu.1) (by omega) (Nat.le_of_ble_eq_true rfl) (Nat.le_of_ble_eq_true rfl) (gok_i (av_c (gkr m0) (av_c rfl (av_c (gkr m9) av_n))) (as_c rfl (as_c (gkr m9) as_n))) rfl n9 ?_
  refine T_mono (ka_ring (d := d) hj hu.1 hH l1 (P := fun v9 y9 => ∃ r, v9 = some (vi r) ∧ HOI y9 q ∧ ¬ (e1Rg l1) ∧ ¬ (False) ∧ sRg C lm x l1 r y9) (X := fun c9 y9 => ((c9 = iAE ∧ e1Rg l1)) ∧ y9 = x) (fun h9 => ⟨⟨rfl, h9⟩, rfl⟩) (fun h8 h9 r y h1 h2 => ⟨r, rfl, h1, h8, h9, h2⟩)) (fun o9 x9 f9 w9 => ?_)
  rcases w9 with ⟨rfl, v, rfl, r, rfl, h1, h2⟩ | ⟨rfl, c9, rfl, hc, rfl⟩
  · exact ⟨⟨n9, r9⟩, ⟨r, rfl⟩, hend r (xo x x9) q hu (kst_rf q) (HOI_1 rfl hu h1) h2⟩
  · obtain ⟨rfl, hno⟩ := hc
    exact hxiAE hno
