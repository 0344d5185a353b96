section
/-! the law, from its entry -/
theorem ar_of {args : Array Value} {s : State} {ty : FieldType} (h : (Cond.arrayClass ty).before args s = true) : ∃ cA : ClassId, ArrOfT s cA ty ∧ s.vm.findClass ("[" ++ ty.toString) = some cA := by
  obtain ⟨cA, kA, comp, h1, h2, h3⟩ := Cond.arrayClass_spec h
  exact ⟨cA, fun n z => ⟨fun k h => (by cases h), kA, h2, comp, h3⟩, h1⟩
set_option maxHeartbeats 4000000 in
set_option maxRecDepth 100000 in
theorem whole_start {p : Program} {e : Env} {s : State} {m : MethodId} {below : List Frame} {meth : Method} {c : Code} (l : Launch) (hlt : l.stackTraces = false) {b L : Nat} {xs : Nat → Int32} (hL : L ≤ 256) (C0 : lw_At p s m meth c b L xs) (hE : ev s) {sA : Nat → Nat} (hZ : ev_Z sA (fun q : Nat => s.heap.size ≤ q) s s.heap) (htab : c.exceptionTable.toList = []) (hnm : meth.name = "law") : W p l e room_1 s m #[Value.ref b] below meth c s.heap [] 0 0 (lw_Z below #[Value.ref b] s) (entryFrame m ([Value.ref b] : List Value).toArray 7) := by
  obtain ⟨hx, hb, hr, hml, hown, hts, hX, hbl, hlocks, hgv⟩ := id C0
  have hW0 : ∀ w ∈ W0, w.before #[Value.ref b] s = true := fun w hw => hts w (List.mem_filter.mp hw).1
  obtain ⟨k0, iS0, hKn0⟩ := u_known (C := RX0) (T := TX0) (N := 18) (n := 18) hts tw_X0 (hts (.instantiable RX0 18) (List.mem_of_getElem? (i := 337) (by decide +kernel)))
  obtain ⟨k1, iS1, hKn1⟩ := u_known (C := RX1) (T := TX1) (N := 7) (n := 7) hts tw_X1 (hts (.instantiable RX1 7) (List.mem_of_getElem? (i := 562) (by decide +kernel)))
  obtain ⟨k2, iS2, hKn2⟩ := u_known (C := RX2) (T := TX2) (N := 10) (n := 10) hts tw_X2 (hts (.instantiable RX2 10) (List.mem_of_getElem? (i := 1780) (by decide +kernel)))
  obtain ⟨k3, iS3, hKn3⟩ := u_known (C := RX3) (T := TX3) (N := 13) (n := 13) hts tw_X3 (hts (.instantiable RX3 13) (List.mem_of_getElem? (i := 1672) (by decide +kernel)))
  obtain ⟨k4, iS4, hKn4⟩ := u_known (C := RX4) (T := TX4) (N := 18) (n := 18) hts tw_X4 (hts (.instantiable RX4 18) (List.mem_of_getElem? (i := 660) (by decide +kernel)))
  obtain ⟨k5, iS5, hKn5⟩ := u_known (C := RX5) (T := TX5) (N := 15) (n := 15) hts tw_X5 (hts (.instantiable RX5 15) (List.mem_of_getElem? (i := 556) (by decide +kernel)))
  obtain ⟨k6, iS6, hKn6⟩ := u_known (C := RX6) (T := TX6) (N := 12) (n := 12) hts tw_X6 (hts (.instantiable RX6 12) (List.mem_of_getElem? (i := 289) (by decide +kernel)))
  obtain ⟨k7, iS7, hKn7⟩ := u_known (C := RX7) (T := TX7) (N := 18) (n := 18) hts tw_X7 (hts (.instantiable RX7 18) (List.mem_of_getElem? (i := 494) (by decide +kernel)))
  obtain ⟨k8, iS8, hKn8⟩ := u_known (C := RX8) (T := TX8) (N := 10) (n := 10) hts tw_X8 (hts (.instantiable RX8 10) (List.mem_of_getElem? (i := 343) (by decide +kernel)))
  obtain ⟨k9, iS9, hKn9⟩ := u_known (C := RX9) (T := TX9) (N := 10) (n := 10) hts tw_X9 (hts (.instantiable RX9 10) (List.mem_of_getElem? (i := 242) (by decide +kernel)))
  obtain ⟨k10, iS10, hKn10⟩ := u_known (C := RX10) (T := TX10) (N := 14) (n := 14) hts tw_X10 (hts (.instantiable RX10 14) (List.mem_of_getElem? (i := 1819) (by decide +kernel)))
  obtain ⟨k11, iS11, hKn11⟩ := u_known (C := RX11) (T := TX11) (N := 13) (n := 13) hts tw_X11 (hts (.instantiable RX11 13) (List.mem_of_getElem? (i := 234) (by decide +kernel)))
  obtain ⟨k12, iS12, hKn12⟩ := u_known (C := RX12) (T := TX12) (N := 139) (n := 139) hts tw_X12 (hts (.instantiable RX12 139) (List.mem_of_getElem? (i := 2065) (by decide +kernel)))
  obtain ⟨D, hKc⟩ : ∃ D : va_G, ∀ (k : Nat) (q : vw_C), vwCl[k]? = some q → u_Kn s q.1 q.2.1 q.2.2 (D.1 k) (D.2 k) := by
    refine ⟨(fun k => if k = 0 then k0 else if k = 1 then k1 else if k = 2 then k2 else if k = 3 then k3 else if k = 4 then k4 else if k = 5 then k5 else if k = 6 then k6 else if k = 7 then k7 else if k = 8 then k8 else if k = 9 then k9 else if k = 10 then k10 else if k = 11 then k11 else k12, fun k => if k = 0 then iS0 else if k = 1 then iS1 else if k = 2 then iS2 else if k = 3 then iS3 else if k = 4 then iS4 else if k = 5 then iS5 else if k = 6 then iS6 else if k = 7 then iS7 else if k = 8 then iS8 else if k = 9 then iS9 else if k = 10 then iS10 else if k = 11 then iS11 else iS12), ?_⟩
    intro k q hq
    match k, hq with
    | 0, hq => cases hq; exact hKn0
    | 1, hq => cases hq; exact hKn1
    | 2, hq => cases hq; exact hKn2
    | 3, hq => cases hq; exact hKn3
    | 4, hq => cases hq; exact hKn4
    | 5, hq => cases hq; exact hKn5
    | 6, hq => cases hq; exact hKn6
    | 7, hq => cases hq; exact hKn7
    | 8, hq => cases hq; exact hKn8
    | 9, hq => cases hq; exact hKn9
    | 10, hq => cases hq; exact hKn10
    | 11, hq => cases hq; exact hKn11
    | 12, hq => cases hq; exact hKn12
    | k + 13, hq => simp [vwCl] at hq
  obtain ⟨a1, A1, B1⟩ := ar_of (hW0 _ aI_W)
  obtain ⟨a2, A2, B2⟩ := ar_of (hW0 _ aB_W)
  obtain ⟨a3, A3, B3⟩ := ar_of (hW0 _ aZ_W)
  obtain ⟨a4, A4, B4⟩ := ar_of (hW0 _ aL_W)
  obtain ⟨comp5, a5, k5, f51, -, f53, f54, f55⟩ := Cond.arrayOver_spec hE.2.2.2.1
  obtain ⟨comp6, a6, k6, f61, -, f63, f64, f65⟩ := arrayOver_specB hE.2.2.2.2.2
  obtain ⟨ar, har⟩ : ∃ ar : FieldType → ClassId, ar .int = a1 ∧ ar .byte = a2 ∧ ar .boolean = a3 ∧ ar .long = a4 ∧ ar (.object "ScheduleHouse$Trial") = a5 ∧ ar (.array .int) = a6 := ⟨fun ty => match ty with
    | .int => a1
    | .byte => a2
    | .boolean => a3
    | .long => a4
    | .object _ => a5
    | .array _ => a6
    | _ => a1, rfl, rfl, rfl, rfl, rfl, rfl⟩
  obtain ⟨r1, r2, r3, r4, r5, r6⟩ := har
  obtain ⟨G, hG⟩ : ∃ G : kG, G = (l, D, ar, sA) := ⟨_, rfl⟩
  have hKK : va_K D vwCl (gtys (kE (l, D, ar, sA))) s := by
    refine ⟨hKc, fun k q hk => ?_⟩
    have hk : ([(ar .int, FieldType.int), (ar .byte, .byte), (ar .boolean, .boolean), (ar .long, .long), (ar (.object "ScheduleHouse$Trial"), .object "ScheduleHouse$Trial"), (ar (.array .int), .array .int)] : List (ClassId × FieldType))[k]? = some q := hk
    rw [r1, r2, r3, r4, r5, r6] at hk
    match k, hk with
    | 0, hk => cases hk; exact ⟨A1, B1⟩
    | 1, hk => cases hk; exact ⟨A2, B2⟩
    | 2, hk => cases hk; exact ⟨A3, B3⟩
    | 3, hk => cases hk; exact ⟨A4, B4⟩
    | 4, hk => cases hk; exact ⟨fun N z => ⟨(fun k h => by cases h), k5, f53, comp5, f54⟩, k5, comp5, f53, f54, f51, f55⟩
    | 5, hk => cases hk; exact ⟨fun N z => ⟨(fun k h => by cases h), k6, f63, comp6, f64⟩, f65⟩
    | k + 6, hk => cases hk
  have C : gC (wE (kE (l, D, ar, sA))) 1000 yLaw p room_1 s m #[Value.ref b] meth c (fun q : Nat => s.heap.size ≤ q) := ⟨⟨hx, hb, hml, hown, hW0⟩, ⟨hr, hlocks, htab, hnm⟩, ⟨by show 1000 ≤ 2048; omega, by show 41 * 1000 ≤ 84000; omega⟩, ⟨hKK, hE, hZ, hlt⟩, fun q h => h⟩
  have Ck : gC (kE (l, D, ar, sA)) 1000 yLaw p room_1 s m #[Value.ref b] meth c (fun q : Nat => s.heap.size ≤ q) := C
  have Cm : gC (mE (mg (l, D, ar, sA))) 1000 yLaw p room_1 s m #[Value.ref b] meth c (fun q : Nat => s.heap.size ≤ q) := C
  clear hG G
  have hbA : ¬ (fun q : Nat => s.heap.size ≤ q) b := Nat.not_le.mpr hbl
  have hb : c.code = cL_law := hb
  have hl := lv_entry ([.ref b]) (n := 7) (Nat.le_of_ble_eq_true rfl)
  rw [lg_entry_eq]
  generalize (lg_sl ([.ref b]) ++ List.replicate (7 - (lg_sl ([.ref b])).length) Slot.unset).toArray = ls at hl ⊢
  have hl : lv_has ls 7 [(0, .ref b)] := hl
  have hS : va_S (fun q : Nat => s.heap.size ≤ q) s.heap s.heap [] := va_S.rf
  have hPn : va_P D vwCl [] s.heap := fun k q h => by simp at h
  have hDn : va_D (fun q : Nat => s.heap.size ≤ q) [] := ⟨fun i j p q h => by simp at h, fun k q h => by simp at h⟩
  have gadm : ∀ q : Nat, gad (kE (l, D, ar, sA)) (fun c => if c = 0 then q else sA (c - 900)) := fun q i hi => by
    show (if 900 + i = 0 then q else sA (900 + i - 900)) = sA i
    rw [if_neg (by omega), Nat.add_sub_cancel_left]
  -- the class
  refine L_new (E := kE (l, D, ar, sA)) (y := yLaw) (st := []) Ck hPn hDn hS dlw_0 kn_L_8 (by show 0 + 1 ≤ 408892; omega) (by show 0 + 13 ≤ 7874804; omega) (fun qx H1 hP1 hD1 hS1 => ?_)
  refine lv_dup C.1.1 hb dlw_3 rfl ?_
  have hg0 : gP (kE (l, D, ar, sA)) (znew zq0 0) (fnew fE 0 13) (fun c => if c = 0 then qx else sA (c - 900)) (fun q : Nat => s.heap.size ≤ q) H1 := gP_one (c9 := 0) (ci := 11) (q := qx) (sl := ks_X11) rfl (fun j => rfl) (fun j => rfl) kk_0 (if_pos rfl) (hP1 0 _ rfl) (hD1.2 0 _ rfl) (gadm qx)
  have fr0 : ∀ c ∈ news_0, c ∉ (fnew fE 0 13).2.1 ∧ NR (fnew fE 0 13) c := fun c hc => ⟨fun h => (by decide +kernel : ∀ c ∈ news_0, c ≠ 0) c hc (List.mem_singleton.mp h), fun c' _ j h => by
    have h : (if c' = 0 then none else none) = some c := h
    split at h <;> cases h⟩
  refine L_I (E := kE (l, D, ar, sA)) (y := yLaw) (cr := 0) (restv := [.ref qx]) (ad := fun c => if c = 0 then qx else sA (c - 900)) (QQ := fun x1 f1 => x1 = x00 ∧ f1 = f00) Ck hg0 hS1 hl.1 900 dlw_4 kci_L_99 (by omega) (Nat.le_of_ble_eq_true rfl) (by show (1 : Nat) ≤ 8; omega) (kc_0 (d := 897) List.mem_cons_self fr0 ⟨rfl, rfl, rfl⟩) (fun x1 f1 h => ?_) (fun x1 f1 ak H2 locs2 h hle hex hPk hkp hS2 => ?_)
  · obtain ⟨-, rfl⟩ := h
    rw [f00_c]
    exact ⟨by show 0 + 1 + (66 - 1) ≤ 408892; omega, by show 0 + 13 + (19895 - 13) ≤ 7874804; omega⟩
  obtain ⟨rfl, rfl⟩ := h
  have ak0 : ak 0 = qx := (hex.1 0 List.mem_cons_self).trans (if_pos rfl)
  have hin0 := gA_in (sz := H1.size) hg0 (fun q hq => Nat.le_trans hS1.1 hq)
  have hPc : gP (kE (l, D, ar, sA)) x00 (kf q00) ak (fun q : Nat => s.heap.size ≤ q) H2 := by
    have e1 : gwl (kE (l, D, ar, sA)) x00 (kf q00) ak = gwl (kE (l, D, ar, sA)) x00 f00 ak := gwl_rf f00_L.symm (fun c hc k g1 g2 => f00_r (by rw [f00_L] at hc; exact hc) g1 g2)
    have h9 := gP_w hPk hin0
    exact ⟨⟨by rw [e1]; exact h9.1.1, by rw [e1]; exact h9.1.2⟩, h9.2⟩
  rw [f00_c]
  show W p l e room_1 s m #[Value.ref b] below meth c H2 locs2 (0 + 1 + (66 - 1)) (0 + 13 + (19895 - 13)) _ _
  refine lv_astore_n (x := qx) (lv' := [(1, .ref qx), (0, .ref b)]) C.1.1 hb dlw_7 rfl hl (by decide) rfl (fun ls hl => ?_)
  -- the model
  refine L_new (E := kE (l, D, ar, sA)) (y := yLaw) (st := []) Ck hPc.1.1 hPc.1.2 hS2 dlw_8 kn_L_100 (by show 0 + 1 + (66 - 1) + 1 ≤ 408892; omega) (by show 0 + 13 + (19895 - 13) + 139 ≤ 7874804; omega) (fun qm H3 hP3 hD3 hS3 => ?_)
  refine lv_dup C.1.1 hb dlw_11 rfl ?_
  obtain ⟨ws, hws⟩ : ∃ ws, ws = gwl (kE (l, D, ar, sA)) x00 (kf q00) ak := ⟨_, rfl⟩
  rw [← hws] at hP3 hD3
  have lw : (ws ++ [(qm, .inr (12, nul msl))])[ws.length]? = some (qm, .inr (12, nul msl)) := by rw [List.getElem?_append_right (Nat.le_refl _), Nat.sub_self]; rfl
  have l1 : ∀ (k : Nat) (q : Nat × va_E), ws[k]? = some q → (ws ++ [(qm, .inr (12, nul msl))])[k]? = some q := fun k q hk => by
    rw [List.getElem?_append_left (List.getElem?_eq_some_iff.mp hk).1]; exact hk
  have hg1 : gP (mE (mg (l, D, ar, sA))) zq0 (mSv [] 0 0) (fun c => if c = 0 then qm else sA (c - 900)) (fun q : Nat => s.heap.size ≤ q) H3 := gP_one (c9 := 0) (ci := 12) (q := qm) (sl := msl) rfl (fun j => rfl) (fun j => rfl) mk_0 (if_pos rfl) (hP3 _ _ lw) (hD3.2 _ _ lw) (gadm qm)
  have hPc3 : gP (kE (l, D, ar, sA)) x00 (kf q00) ak (fun q : Nat => s.heap.size ≤ q) H3 := ⟨⟨by rw [← hws]; exact fun k q hk => hP3 k q (l1 k q hk), by rw [← hws]; exact ⟨fun i j p9 q9 hi hj e9 => hD3.1 i j p9 q9 (l1 i p9 hi) (l1 j q9 hj) e9, fun k q hk => hD3.2 k q (l1 k q hk)⟩⟩, hPc.2⟩
  have hd3 : gdis (mSv [] 0 0) (fun c => if c = 0 then qm else sA (c - 900)) (kf q00) ak := fun c1 hc1 c' hc' e9 => by
    have : c1 = 0 := List.mem_singleton.mp hc1
    subst this
    obtain ⟨i9, -, hi9⟩ := gwl_at (E := kE (l, D, ar, sA)) (x := x00) (f := kf q00) (ad := ak) hc'
    rw [← hws] at hi9
    have := hD3.1 _ _ _ _ lw (l1 i9 _ hi9) (by show qm = ak c'; have e9 : (if (0 : Nat) = 0 then qm else sA (0 - 900)) = ak c' := e9; rw [if_pos rfl] at e9; exact e9)
    have := (List.getElem?_eq_some_iff.mp hi9).1
    omega
  refine L_I (E := mE (mg (l, D, ar, sA))) (y := yLaw) (cr := 0) (restv := [.ref qm]) (ad := fun c => if c = 0 then qm else sA (c - 900)) (QQ := fun x1 f1 => x1 = z1 ∧ f1 = mSv mAll (0 + 98) (0 + 948697)) Cm hg1 hS3 hl.1 900 dlw_12 kci_L_102 (by omega) (Nat.le_of_ble_eq_true rfl) (by show (1 : Nat) ≤ 8; omega) (mi_all (d := 899) ⟨rfl, rfl, rfl⟩) (fun x1 f1 h => ?_) (fun x1 f1 am H4 locs4 h hle4 hex4 hPm hkp4 hS4 => ?_)
  · obtain ⟨-, rfl⟩ := h
    exact ⟨by show 0 + 1 + (66 - 1) + 1 + (0 + 98 - 0) ≤ 408892; omega, by show 0 + 13 + (19895 - 13) + 139 + (0 + 948697 - 0) ≤ 7874804; omega⟩
  obtain ⟨rfl, rfl⟩ := h
  have am0 : am 0 = qm := (hex4.1 0 List.mem_cons_self).trans (if_pos rfl)
  have hin4 := gA_in (sz := H3.size) hg1 (fun q hq => Nat.le_trans hS3.1 hq)
  obtain ⟨hPc4, hd4⟩ := keep2 hPc3 hd3 hkp4 hPm
  have hPm4 : gP (mE (mg (l, D, ar, sA))) z1 (mf (mg (l, D, ar, sA))) am (fun q : Nat => s.heap.size ≤ q) H4 := by
    have h9 := gP_w hPm hin4
    exact ⟨⟨by rw [m_gwl]; exact h9.1.1, by rw [m_gwl]; exact h9.1.2⟩, h9.2⟩
  have hd5 : gdis (mf (mg (l, D, ar, sA))) am (kf q00) ak := fun c1 hc1 c' hc' => hd4 c1 ((by decide +kernel : ∀ c ∈ mL, c ∈ 0 :: mAll.reverse.map (· + 1)) c1 hc1) c' hc'
  show W p l e room_1 s m #[Value.ref b] below meth c H4 locs4 (0 + 1 + (66 - 1) + 1 + (0 + 98 - 0)) (0 + 13 + (19895 - 13) + 139 + (0 + 948697 - 0)) _ _
  refine lv_astore_n (x := qm) (lv' := [(2, .ref qm), (1, .ref qx), (0, .ref b)]) C.1.1 hb dlw_15 rfl hl (by decide) rfl (fun ls hl => ?_)
  -- the long
  refine lv_iconst (v := 1) C.1.1 hb dlw_16 (by decide +kernel) ?_
  have hall : va_P D vwCl (gwl (kE (l, D, ar, sA)) x00 (kf q00) ak ++ gwl (mE (mg (l, D, ar, sA))) z1 (mf (mg (l, D, ar, sA))) am) H4 := hPc4.1.1.app hPm4.1.1
  have hallD : va_D (fun q : Nat => s.heap.size ≤ q) (gwl (kE (l, D, ar, sA)) x00 (kf q00) ak ++ gwl (mE (mg (l, D, ar, sA))) z1 (mf (mg (l, D, ar, sA))) am) := hPc4.1.2.app hPm4.1.2 (fun i j p9 q9 hi hj e9 => by
    obtain ⟨c1, hc1, rfl⟩ := gwl_in hi
    obtain ⟨c2, hc2, rfl⟩ := gwl_in hj
    exact hd5 c2 (List.mem_of_getElem? hc2) c1 (List.mem_of_getElem? hc1) e9.symm)
  obtain ⟨wk, hwk⟩ : ∃ ws, ws = gwl (kE (l, D, ar, sA)) x00 (kf q00) ak := ⟨_, rfl⟩
  obtain ⟨wm, hwm⟩ : ∃ ws, ws = gwl (mE (mg (l, D, ar, sA))) z1 (mf (mg (l, D, ar, sA))) am := ⟨_, rfl⟩
  rw [← hwk, ← hwm] at hall hallD
  refine va_newa (atype := .long) (ty := .long) (a0 := (1, .inr (.inl (fun _ => 0)))) (N' := 1) (n := 1) C.1.1 hb (hW0 _ (show Cond.arrayClass (newarray.typeOf .long) ∈ W0 from aL_W)) rfl hKK hall hallD hS4 (fun q h => h) (fun cA => rfl) (by decide) (by decide) (by decide) (by show 0 + 1 + (66 - 1) + 1 + (0 + 98 - 0) + 1 ≤ 408892; omega) (by show 0 + 13 + (19895 - 13) + 139 + (0 + 948697 - 0) + 1 ≤ 7874804; omega) dlw_17 (fun qo cA H5 hK5 hP5 hD5 hS5 => ?_)
  have hcA : cA = ar .long := cA_eq (E := kE (l, D, ar, sA)) (t0 := 3) hKK hK5 rfl
  have lo : (wk ++ wm ++ [(qo, .inl (cA, 1, .inr (.inl (fun _ => 0))))])[(wk ++ wm).length]? = some (qo, .inl (cA, 1, .inr (.inl (fun _ => 0)))) := by rw [List.getElem?_append_right (Nat.le_refl _), Nat.sub_self]; rfl
  have l5k : ∀ (k : Nat) (q : Nat × va_E), wk[k]? = some q → (wk ++ wm ++ [(qo, .inl (cA, 1, .inr (.inl (fun _ => 0))))])[k]? = some q := fun k q hk => by
    have h1 := (List.getElem?_eq_some_iff.mp hk).1
    rw [List.getElem?_append_left (by rw [List.length_append]; omega), List.getElem?_append_left h1]; exact hk
  have l5m : ∀ (k : Nat) (q : Nat × va_E), wm[k]? = some q → (wk ++ wm ++ [(qo, .inl (cA, 1, .inr (.inl (fun _ => 0))))])[wk.length + k]? = some q := fun k q hk => by
    have h1 := (List.getElem?_eq_some_iff.mp hk).1
    rw [List.getElem?_append_left (by rw [List.length_append]; omega), List.getElem?_append_right (by omega), Nat.add_sub_cancel_left]; exact hk
  have hPk5 : gP (kE (l, D, ar, sA)) x00 (kf q00) ak (fun q : Nat => s.heap.size ≤ q) H5 := ⟨⟨by rw [← hwk]; exact fun k q hk => hP5 k q (l5k k q hk), by rw [← hwk]; exact ⟨fun i j p9 q9 hi hj e9 => hD5.1 i j p9 q9 (l5k i p9 hi) (l5k j q9 hj) e9, fun k q hk => hD5.2 k q (l5k k q hk)⟩⟩, hPc4.2⟩
  have hPm5 : gP (mE (mg (l, D, ar, sA))) z1 (mf (mg (l, D, ar, sA))) am (fun q : Nat => s.heap.size ≤ q) H5 := ⟨⟨by rw [← hwm]; exact fun k q hk => hP5 _ q (l5m k q hk), by rw [← hwm]; exact ⟨fun i j p9 q9 hi hj e9 => by have := hD5.1 _ _ p9 q9 (l5m i p9 hi) (l5m j q9 hj) e9; omega, fun k q hk => hD5.2 _ q (l5m k q hk)⟩⟩, hPm4.2⟩
  have n9 : 299 ∉ (kf q00).2.1 := n299 q00_U
  obtain ⟨ax, hax⟩ : ∃ ax : Nat → Nat, ax = fun c => if c = 299 then qo else ak c := ⟨_, rfl⟩
  have axk : ∀ c ∈ (kf q00).2.1, ax c = ak c := fun c hc => by rw [hax]; exact if_neg (fun e : c = 299 => n9 (e ▸ hc))
  have ax9 : ax 299 = qo := by rw [hax]; exact if_pos rfl
  have axg : gad (kE (l, D, ar, sA)) ax := fun i hi => by
    rw [hax]
    show (if 900 + i = 299 then qo else ak (900 + i)) = _
    rw [if_neg (by omega)]; exact hPk5.2 i hi
  have hPx : gP (kE (l, D, ar, sA)) x00 (kf q00) ax (fun q : Nat => s.heap.size ≤ q) H5 := by
    have e1 : gwl (kE (l, D, ar, sA)) x00 (kf q00) ax = gwl (kE (l, D, ar, sA)) x00 (kf q00) ak := gwl_ag rfl (fun _ _ => rfl) rfl (fun _ _ => rfl) (fun _ _ => rfl) axk (fun c hc j => by
      cases hr9 : (kf q00).1 c j with
      | none => rfl
      | some b9 => show some (ax b9) = some (ak b9); rw [axk b9 (kU_cl q00_U hc hr9)])
    exact ⟨⟨by rw [e1]; exact hPk5.1.1, by rw [e1]; exact hPk5.1.2⟩, axg⟩
  have hPO : gP (wE (kE (l, D, ar, sA))) x00 (fO (kf q00)) ax (fun q : Nat => s.heap.size ≤ q) H5 := by
    have e1 : gwl (wE (kE (l, D, ar, sA))) x00 (fO (kf q00)) ax = [(qo, .inl (cA, 1, .inr (.inl (fun _ => 0))))] := by
      show [(ax 299, gce (wE (kE (l, D, ar, sA))) x00 (fO (kf q00)) ax 299)] = _
      rw [ax9, gce_arr (n := 1) (ty := .long) wE_9, hcA]
      show [(qo, Sum.inl (ar .long, 1, Sum.inr (Sum.inl (x00.2 299))))] = _
      rw [show x00.2 299 = fun _ => 0 from rfl]
    have one : ∀ (k : Nat) (q9 : Nat × va_E), ([(qo, .inl (cA, 1, .inr (.inl (fun _ => 0))))] : va_W)[k]? = some q9 → k = 0 ∧ q9 = (qo, .inl (cA, 1, .inr (.inl (fun _ => 0)))) := fun k q9 hk => by
      have hz : k < 1 := (List.getElem?_eq_some_iff.mp hk).1
      have hz : k = 0 := by omega
      subst hz
      cases hk
      exact ⟨rfl, rfl⟩
    refine ⟨⟨?_, ?_⟩, axg⟩
    · rw [e1]
      intro k q9 hk
      obtain ⟨-, rfl⟩ := one k q9 hk
      exact hP5 _ _ lo
    · rw [e1]
      refine ⟨fun i j p9 q9 hi hj _ => by have := (one i p9 hi).1; have := (one j q9 hj).1; omega, fun k q9 hk => ?_⟩
      obtain ⟨-, rfl⟩ := one k q9 hk
      exact hD5.2 _ _ lo
  have nqo : ∀ c ∈ (kf q00).2.1, ak c ≠ qo := fun c hc e9 => by
    obtain ⟨i9, -, hi9⟩ := gwl_at (E := kE (l, D, ar, sA)) (x := x00) (f := kf q00) (ad := ak) hc
    rw [← hwk] at hi9
    have := hD5.1 _ _ _ _ (l5k i9 _ hi9) lo e9
    have := (List.getElem?_eq_some_iff.mp hi9).1
    rw [List.length_append] at *
    omega
  have nqm : ∀ c ∈ mL, am c ≠ qo := fun c hc e9 => by
    obtain ⟨i9, -, hi9⟩ := gwl_at (E := mE (mg (l, D, ar, sA))) (x := z1) (f := mf (mg (l, D, ar, sA))) (ad := am) hc
    rw [← hwm] at hi9
    have := hD5.1 _ _ _ _ (l5m i9 _ hi9) lo e9
    have := (List.getElem?_eq_some_iff.mp hi9).1
    rw [List.length_append] at *
    omega
  have hLI : LI (l, D, ar, sA) (fun q : Nat => s.heap.size ≤ q) H5 x00 q00 z1 qx qm qo := by
    refine ⟨ax, am, fo_gl n9 hPx hPO (fun c1 hc1 c' hc' => ?_), hPm5, fun c1 hc1 c' hc' => ?_, ?_, ax9, am0⟩
    · rw [List.mem_singleton.mp hc', axk c1 hc1, ax9]; exact nqo c1 hc1
    · rcases List.mem_append.mp hc1 with h | h
      · rw [axk c1 h]; exact fun e9 => hd5 c' hc' c1 h e9.symm
      · rw [List.mem_singleton.mp h, ax9]; exact fun e9 => nqm c' hc' e9.symm
    · rw [axk 0 List.mem_cons_self]; exact ak0
  refine lv_astore_n (x := qo) (lv' := [(3, .ref qo), (2, .ref qm), (1, .ref qx), (0, .ref b)]) C.1.1 hb dlw_19 rfl hl (by decide) rfl (fun ls hl => ?_)
  refine lv_iconst (v := 0) C.1.1 hb dlw_20 (by decide +kernel) ?_
  refine lv_istore (lv' := [(4, .int 0), (3, .ref qo), (2, .ref qm), (1, .ref qx), (0, .ref b)]) C.1.1 hb dlw_21 hl (by decide) rfl (fun ls hl => ?_)
  refine W.widen (k := 66 + 200) (n := 19895 + 960000) (by omega) (by omega) ?_
  exact law_loop (G := (l, D, ar, sA)) C rfl hX hbl hbA hL 64 0 0 x00 q00 z1 H5 locs4 ls (by omega) rfl hLI ⟨q00_U, x00_H, z1_M, JR3_z (JR_wipe (by decide +kernel) (by decide +kernel) rfl rfl ⟨rfl, rfl, rfl, rfl, rfl⟩) ⟨by decide +kernel, fun o hO => by rcases hO with e | e <;> rw [e] <;> decide +kernel⟩ ⟨rfl, rfl, rfl⟩, by show 66 ≤ _; omega, by show 19895 ≤ _; omega⟩ hS5 hl
end
section
/-! the premises of the claim, read off -/
def fA : Cond → List Cond → List Cond
  | .and a b, k => fA a (fA b k)
  | c, k => c :: k
theorem fA_eq : ∀ (c : Cond) (k : List Cond), flatC c ++ k = fA c k
  | .and a b, k => by rw [flatC, fA, List.append_assoc, fA_eq b k, fA_eq a]
  | c, k => by cases c <;> first | rfl | (rename_i a b; rw [flatC, fA, List.append_assoc, fA_eq b k, fA_eq a])
theorem fA_mem {c d : Cond} (h : d ∈ fA c []) : d ∈ flatC c := by rw [← fA_eq, List.append_nil] at h; exact h
theorem fA_at {c d : Cond} (i : Nat) (h : (fA c [])[i]? = some d) : d ∈ flatC c := fA_mem (List.mem_of_getElem? h)
theorem st_txt {args : Array Value} {s : State} {own : String} {k : Nat} {t : String} (h1 : (Cond.stringRef own k t).before args s = true) (h2 : (Cond.exactly (Term.string own k) "java/lang/String").before args s = true) : ∃ a : Nat, vk_R own k t a s := by
  obtain ⟨b', cB, cellB, kB, hb, -⟩ := Cond.exactly_spec h2
  exact ⟨b', vk_R.of h1 hb⟩
theorem nx_X11_72 {args : Array Value} {s : State} (hs : ∀ c ∈ flatC (Jvm.Cond.and given_1 narrow_1), c.before args s = true) : (Cond.exactly (Term.string "ScheduleHouse" 72) "java/lang/String").before args s = true := hs _ (fA_at 308 (by decide +kernel))
theorem nx_X11_80 {args : Array Value} {s : State} (hs : ∀ c ∈ flatC (Jvm.Cond.and given_1 narrow_1), c.before args s = true) : (Cond.exactly (Term.string "ScheduleHouse" 80) "java/lang/String").before args s = true := hs _ (fA_at 329 (by decide +kernel))
theorem nx_X7_104 {args : Array Value} {s : State} (hs : ∀ c ∈ flatC (Jvm.Cond.and given_1 narrow_1), c.before args s = true) : (Cond.exactly (Term.string "ScheduleHouse$Reader" 104) "java/lang/String").before args s = true := hs _ (fA_at 284 (by decide +kernel))
theorem nx_X11_129 {args : Array Value} {s : State} (hs : ∀ c ∈ flatC (Jvm.Cond.and given_1 narrow_1), c.before args s = true) : (Cond.exactly (Term.string "ScheduleHouse" 129) "java/lang/String").before args s = true := hs _ (fA_at 356 (by decide +kernel))
theorem nx_X11_189 {args : Array Value} {s : State} (hs : ∀ c ∈ flatC (Jvm.Cond.and given_1 narrow_1), c.before args s = true) : (Cond.exactly (Term.string "ScheduleHouse" 189) "java/lang/String").before args s = true := hs _ (fA_at 481 (by decide +kernel))
theorem nx_X11_195 {args : Array Value} {s : State} (hs : ∀ c ∈ flatC (Jvm.Cond.and given_1 narrow_1), c.before args s = true) : (Cond.exactly (Term.string "ScheduleHouse" 195) "java/lang/String").before args s = true := hs _ (fA_at 515 (by decide +kernel))
theorem nx_X11_198 {args : Array Value} {s : State} (hs : ∀ c ∈ flatC (Jvm.Cond.and given_1 narrow_1), c.before args s = true) : (Cond.exactly (Term.string "ScheduleHouse" 198) "java/lang/String").before args s = true := hs _ (fA_at 546 (by decide +kernel))
theorem nx_X11_276 {args : Array Value} {s : State} (hs : ∀ c ∈ flatC (Jvm.Cond.and given_1 narrow_1), c.before args s = true) : (Cond.exactly (Term.string "ScheduleHouse" 276) "java/lang/String").before args s = true := hs _ (fA_at 593 (by decide +kernel))
theorem nx_X11_292 {args : Array Value} {s : State} (hs : ∀ c ∈ flatC (Jvm.Cond.and given_1 narrow_1), c.before args s = true) : (Cond.exactly (Term.string "ScheduleHouse" 292) "java/lang/String").before args s = true := hs _ (fA_at 626 (by decide +kernel))
theorem nx_X11_340 {args : Array Value} {s : State} (hs : ∀ c ∈ flatC (Jvm.Cond.and given_1 narrow_1), c.before args s = true) : (Cond.exactly (Term.string "ScheduleHouse" 340) "java/lang/String").before args s = true := hs _ (fA_at 665 (by decide +kernel))
theorem nx_X11_342 {args : Array Value} {s : State} (hs : ∀ c ∈ flatC (Jvm.Cond.and given_1 narrow_1), c.before args s = true) : (Cond.exactly (Term.string "ScheduleHouse" 342) "java/lang/String").before args s = true := hs _ (fA_at 698 (by decide +kernel))
theorem nx_X11_384 {args : Array Value} {s : State} (hs : ∀ c ∈ flatC (Jvm.Cond.and given_1 narrow_1), c.before args s = true) : (Cond.exactly (Term.string "ScheduleHouse" 384) "java/lang/String").before args s = true := hs _ (fA_at 376 (by decide +kernel))
theorem nx_X11_386 {args : Array Value} {s : State} (hs : ∀ c ∈ flatC (Jvm.Cond.and given_1 narrow_1), c.before args s = true) : (Cond.exactly (Term.string "ScheduleHouse" 386) "java/lang/String").before args s = true := hs _ (fA_at 425 (by decide +kernel))
theorem nx_X11_388 {args : Array Value} {s : State} (hs : ∀ c ∈ flatC (Jvm.Cond.and given_1 narrow_1), c.before args s = true) : (Cond.exactly (Term.string "ScheduleHouse" 388) "java/lang/String").before args s = true := hs _ (fA_at 404 (by decide +kernel))
theorem nx_X11_390 {args : Array Value} {s : State} (hs : ∀ c ∈ flatC (Jvm.Cond.and given_1 narrow_1), c.before args s = true) : (Cond.exactly (Term.string "ScheduleHouse" 390) "java/lang/String").before args s = true := hs _ (fA_at 451 (by decide +kernel))
theorem nn_0 {args : Array Value} {s : State} (hs : ∀ c ∈ flatC (Jvm.Cond.and given_1 narrow_1), c.before args s = true) : (Cond.not (.castable iAE iSE)).before args s = true := hs _ (fA_at 21 (by decide +kernel))
theorem nn_1 {args : Array Value} {s : State} (hs : ∀ c ∈ flatC (Jvm.Cond.and given_1 narrow_1), c.before args s = true) : (Cond.not (.castable iOE iSE)).before args s = true := hs _ (fA_at 22 (by decide +kernel))
theorem nn_2 {args : Array Value} {s : State} (hs : ∀ c ∈ flatC (Jvm.Cond.and given_1 narrow_1), c.before args s = true) : (Cond.not (.castable iOE iAE)).before args s = true := hs _ (fA_at 37 (by decide +kernel))
theorem nn_3 {args : Array Value} {s : State} (hs : ∀ c ∈ flatC (Jvm.Cond.and given_1 narrow_1), c.before args s = true) : (Cond.not (.castable iSE iAE)).before args s = true := hs _ (fA_at 36 (by decide +kernel))
theorem nn_4 {args : Array Value} {s : State} (hs : ∀ c ∈ flatC (Jvm.Cond.and given_1 narrow_1), c.before args s = true) : (Cond.not (.castable iSE iOE)).before args s = true := hs _ (fA_at 52 (by decide +kernel))
theorem nn_5 {args : Array Value} {s : State} (hs : ∀ c ∈ flatC (Jvm.Cond.and given_1 narrow_1), c.before args s = true) : (Cond.not (.castable iAE iOE)).before args s = true := hs _ (fA_at 51 (by decide +kernel))
theorem nz_UNASSIGNED_STACK {args : Array Value} {s : State} (hs : ∀ c ∈ flatC (Jvm.Cond.and given_1 narrow_1), c.before args s = true) : (Cond.isRef (.static Bundle.tN "UNASSIGNED_STACK" Bundle.steD)).before args s = true := hs _ (fA_at 9 (by decide +kernel))
theorem nz_SUPPRESSED_SENTINEL {args : Array Value} {s : State} (hs : ∀ c ∈ flatC (Jvm.Cond.and given_1 narrow_1), c.before args s = true) : (Cond.isRef (.static Bundle.tN "SUPPRESSED_SENTINEL" Bundle.listD)).before args s = true := hs _ (fA_at 10 (by decide +kernel))
theorem nz_CS {args : Array Value} {s : State} (hs : ∀ c ∈ flatC (Jvm.Cond.and given_1 narrow_1), c.before args s = true) : (Cond.eq (.static "java/lang/String" "COMPACT_STRINGS" "Z") (.int 1)).before args s = true := hs _ (fA_at 4 (by decide +kernel))
theorem nz_FM {args : Array Value} {s : State} (hs : ∀ c ∈ flatC (Jvm.Cond.and given_1 narrow_1), c.before args s = true) : (Cond.isRef (.static "jdk/internal/util/Preconditions" "SIOOBE_FORMATTER" "Ljava/util/function/BiFunction;")).before args s = true := hs _ (fA_at 5 (by decide +kernel))
def tmS (i : Nat) : Term := if i = 0 then (Term.string "ScheduleHouse$Tokens" 79) else (Term.string "ScheduleHouseModel" 326)
theorem sx_0 {args : Array Value} {s : State} (hs : ∀ c ∈ flatC (Jvm.Cond.and given_1 narrow_1), c.before args s = true) : (Cond.exactly (Term.string "ScheduleHouse$Tokens" 79) "java/lang/String").before args s = true := hs _ (fA_at 56 (by decide +kernel))
theorem sc_0 {args : Array Value} {s : State} (hs : ∀ c ∈ flatC (Jvm.Cond.and given_1 narrow_1), c.before args s = true) : (Cond.eq (.field (Term.string "ScheduleHouse$Tokens" 79) "java/lang/String" "coder" "B") (.int 0)).before args s = true := hs _ (fA_at 57 (by decide +kernel))
theorem sb_0 {args : Array Value} {s : State} (hs : ∀ c ∈ flatC (Jvm.Cond.and given_1 narrow_1), c.before args s = true) : (Cond.arrayOf (.field (Term.string "ScheduleHouse$Tokens" 79) "java/lang/String" "value" "[B") .byte).before args s = true := hs _ (fA_at 58 (by decide +kernel))
theorem sl_0 {args : Array Value} {s : State} (hs : ∀ c ∈ flatC (Jvm.Cond.and given_1 narrow_1), c.before args s = true) : (Cond.eq (.length (.field (Term.string "ScheduleHouse$Tokens" 79) "java/lang/String" "value" "[B")) (.int 224)).before args s = true := hs _ (fA_at 59 (by decide +kernel))
set_option maxRecDepth 100000 in
theorem sk_0 : ((fA (Jvm.Cond.and given_1 narrow_1) []).drop 60).take 224 = (List.range 224).map (fun j => Cond.eq (.elem (.field (Term.string "ScheduleHouse$Tokens" 79) "java/lang/String" "value" "[B") (.int (Int32.ofNat j))) (.int ((es_byt.getD 0 []).getD j 0))) := by decide +kernel
theorem se_0 (j : Nat) (hj : j < 224) : (Cond.eq (.elem (.field (Term.string "ScheduleHouse$Tokens" 79) "java/lang/String" "value" "[B") (.int (Int32.ofNat j))) (.int ((es_byt.getD 0 []).getD j 0))) ∈ flatC (Jvm.Cond.and given_1 narrow_1) := fA_mem (List.mem_of_mem_drop (List.mem_of_mem_take (sk_0 ▸ List.mem_map.mpr ⟨j, List.mem_range.mpr hj, rfl⟩)))
theorem sx_1 {args : Array Value} {s : State} (hs : ∀ c ∈ flatC (Jvm.Cond.and given_1 narrow_1), c.before args s = true) : (Cond.exactly (Term.string "ScheduleHouseModel" 326) "java/lang/String").before args s = true := hs _ (fA_at 749 (by decide +kernel))
theorem sc_1 {args : Array Value} {s : State} (hs : ∀ c ∈ flatC (Jvm.Cond.and given_1 narrow_1), c.before args s = true) : (Cond.eq (.field (Term.string "ScheduleHouseModel" 326) "java/lang/String" "coder" "B") (.int 0)).before args s = true := hs _ (fA_at 750 (by decide +kernel))
theorem sb_1 {args : Array Value} {s : State} (hs : ∀ c ∈ flatC (Jvm.Cond.and given_1 narrow_1), c.before args s = true) : (Cond.arrayOf (.field (Term.string "ScheduleHouseModel" 326) "java/lang/String" "value" "[B") .byte).before args s = true := hs _ (fA_at 751 (by decide +kernel))
theorem sl_1 {args : Array Value} {s : State} (hs : ∀ c ∈ flatC (Jvm.Cond.and given_1 narrow_1), c.before args s = true) : (Cond.eq (.length (.field (Term.string "ScheduleHouseModel" 326) "java/lang/String" "value" "[B")) (.int 165)).before args s = true := hs _ (fA_at 752 (by decide +kernel))
set_option maxRecDepth 100000 in
theorem sk_1 : ((fA (Jvm.Cond.and given_1 narrow_1) []).drop 753).take 165 = (List.range 165).map (fun j => Cond.eq (.elem (.field (Term.string "ScheduleHouseModel" 326) "java/lang/String" "value" "[B") (.int (Int32.ofNat j))) (.int ((es_byt.getD 1 []).getD j 0))) := by decide +kernel
theorem se_1 (j : Nat) (hj : j < 165) : (Cond.eq (.elem (.field (Term.string "ScheduleHouseModel" 326) "java/lang/String" "value" "[B") (.int (Int32.ofNat j))) (.int ((es_byt.getD 1 []).getD j 0))) ∈ flatC (Jvm.Cond.and given_1 narrow_1) := fA_mem (List.mem_of_mem_drop (List.mem_of_mem_take (sk_1 ▸ List.mem_map.mpr ⟨j, List.mem_range.mpr hj, rfl⟩)))
theorem sn_01 {args : Array Value} {s : State} (hs : ∀ c ∈ flatC (Jvm.Cond.and given_1 narrow_1), c.before args s = true) : (Cond.not (Cond.eq (Term.string "ScheduleHouse$Tokens" 79) (Term.string "ScheduleHouseModel" 326))).before args s = true ∨ (Cond.not (Cond.eq (Term.string "ScheduleHouseModel" 326) (Term.string "ScheduleHouse$Tokens" 79))).before args s = true := Or.inl (hs _ (fA_at 918 (by decide +kernel)))
theorem st_S {args : Array Value} {s : State} (hs : ∀ c ∈ flatC (Jvm.Cond.and given_1 narrow_1), c.before args s = true) : ∃ adK adV : Nat → Nat, vk_S 2 es_len es_byt adK adV (fun q : Nat => s.heap.size ≤ q) s s.heap ∧ ∀ i : Nat, i < 2 → (tmS i).eval args s none [] s = some (.ref (adK i)) := by
  refine vk_Sof (tm := tmS) (fun i hi => ?_) (fun i hi => by
    have : i = 0 ∨ i = 1 := by omega
    rcases this with rfl | rfl
    · exact sx_0 hs
    · exact sx_1 hs) (fun i hi => by
    have : i = 0 ∨ i = 1 := by omega
    rcases this with rfl | rfl
    · exact sc_0 hs
    · exact sc_1 hs) (fun i hi => by
    have : i = 0 ∨ i = 1 := by omega
    rcases this with rfl | rfl
    · exact sb_0 hs
    · exact sb_1 hs) (fun i hi => ?_) (fun i hi j hj => ?_) (fun i j hi hj hne => ?_) (fun a h => Nat.not_le.mpr h)
  · have : i = 0 ∨ i = 1 := by omega
    rcases this with rfl | rfl
    · rw [es_l0]; decide
    · rw [es_l1]; decide
  · have : i = 0 ∨ i = 1 := by omega
    rcases this with rfl | rfl
    · rw [es_l0]; exact sl_0 hs
    · rw [es_l1]; exact sl_1 hs
  · have : i = 0 ∨ i = 1 := by omega
    rcases this with rfl | rfl
    · rw [es_l0] at hj; exact hs _ (se_0 j hj)
    · rw [es_l1] at hj; exact hs _ (se_1 j hj)
  · have h1 : i = 0 ∨ i = 1 := by omega
    have h2 : j = 0 ∨ j = 1 := by omega
    rcases h1 with rfl | rfl <;> rcases h2 with rfl | rfl
    · exact absurd rfl hne
    · exact sn_01 hs
    · exact (sn_01 hs).symm
    · exact absurd rfl hne
end
