theorem st_F {args : Array Value} {s : State} (hs : ∀ c ∈ flatC (Jvm.Cond.and given_1 narrow_1), c.before args s = true) : ∃ v : Value, (Term.static "jdk/internal/util/Preconditions" "SIOOBE_FORMATTER" "Ljava/util/function/BiFunction;").eval args s none [] s = some v ∧ (v = .null ∨ ∃ t : Nat, v = .ref t) := by
  have h := nz_FM hs
  cases hv : (Term.static "jdk/internal/util/Preconditions" "SIOOBE_FORMATTER" "Ljava/util/function/BiFunction;").eval args s none [] s with
  | none => simp [Cond.before, Cond.holds, Cond.value, hv] at h
  | some w =>
    simp only [Cond.before, Cond.holds, Cond.value, hv] at h
    cases w with
    | null => exact ⟨_, rfl, Or.inl rfl⟩
    | ref t => exact ⟨_, rfl, Or.inr ⟨t, rfl⟩⟩
    | _ => simp at h
theorem st_Z {args : Array Value} {s : State} (hts : ∀ w ∈ lw_tbl, w.before args s = true) (hs : ∀ c ∈ flatC (Jvm.Cond.and given_1 narrow_1), c.before args s = true) : ∃ sA : Nat → Nat, ev_Z sA (fun q : Nat => s.heap.size ≤ q) s s.heap := by
  obtain ⟨adK, adV, hSS, hev⟩ := st_S hs
  obtain ⟨v, hv, hvr⟩ := st_F hs
  obtain ⟨t, g, ht⟩ : ∃ t g : Nat, v = (if g = 0 then Value.null else .ref t) := by
    rcases hvr with e | ⟨t, e⟩
    · exact ⟨0, 0, by rw [if_pos rfl]; exact e⟩
    · exact ⟨t, 1, by rw [if_neg (by decide)]; exact e⟩
  rw [ht] at hv
  have hF := va_Zof (hts (.laysStatic "jdk/internal/util/Preconditions" "SIOOBE_FORMATTER" "Ljava/util/function/BiFunction;") (List.mem_of_getElem? (i := 842) (by decide +kernel))) (hts (.initialized "jdk/internal/util/Preconditions") (List.mem_of_getElem? (i := 222) (by decide +kernel))) hv (A := (fun q : Nat => s.heap.size ≤ q)) (fun a h => Nat.not_le.mpr h)
  refine ⟨fun i => (if i < 2 then adK (i) else if i < 4 then adV (i - 2) else if i = 4 then t else g), ⟨vx_Zqof (hts (.laysStatic Bundle.tN "UNASSIGNED_STACK" Bundle.steD) (List.mem_of_getElem? (i := 938) (by decide +kernel))) (hts (.initialized Bundle.tN) (List.mem_of_getElem? (i := 216) (by decide +kernel))) (nz_UNASSIGNED_STACK hs) (fun a h => Nat.not_le.mpr h), vx_Zqof (hts (.laysStatic Bundle.tN "SUPPRESSED_SENTINEL" Bundle.listD) (List.mem_of_getElem? (i := 940) (by decide +kernel))) (hts (.initialized Bundle.tN) (List.mem_of_getElem? (i := 216) (by decide +kernel))) (nz_SUPPRESSED_SENTINEL hs) (fun a h => Nat.not_le.mpr h)⟩, ⟨⟨fun i hi => ?_, fun i j hi hj e => ?_⟩, va_Zof (hts (.laysStatic "java/lang/String" "COMPACT_STRINGS" "Z") (List.mem_of_getElem? (i := 834) (by decide +kernel))) (hts (.initialized "java/lang/String") (List.mem_of_getElem? (i := 220) (by decide +kernel))) (va_eqi (nz_CS hs)) (fun a h => Nat.not_le.mpr h), hF⟩, fun i q hq => ?_⟩
  · have h9 := hSS.1 i hi
    show va_O "java/lang/String" (if i < 2 then adK (i) else if i < 4 then adV (i - 2) else if i = 4 then t else g) _ _ _ ∧ va_OF _ _ _ _ (if i < 2 then adK (i) else if i < 4 then adV (i - 2) else if i = 4 then t else g) _ _ _ ∧ va_OF _ _ _ (.ref (if 2 + i < 2 then adK (2 + i) else if 2 + i < 4 then adV (2 + i - 2) else if 2 + i = 4 then t else g)) (if i < 2 then adK (i) else if i < 4 then adV (i - 2) else if i = 4 then t else g) _ _ _ ∧ va_T .byte (if 2 + i < 2 then adK (2 + i) else if 2 + i < 4 then adV (2 + i - 2) else if 2 + i = 4 then t else g) _ _ _ _ _
    rw [if_pos hi, if_neg (show ¬ 2 + i < 2 by omega), if_pos (show 2 + i < 4 by omega), Nat.add_sub_cancel_left]
    exact h9
  · have e : (if i < 2 then adK (i) else if i < 4 then adV (i - 2) else if i = 4 then t else g) = (if j < 2 then adK (j) else if j < 4 then adV (j - 2) else if j = 4 then t else g) := e
    rw [if_pos hi, if_pos hj] at e
    exact hSS.2 i j hi hj e
  · match i, hq with
    | 0, hq => cases hq; exact vk_R.of (hts _ (List.mem_of_getElem? (i := 824) (by decide +kernel))) (hev 0 (by omega))
    | 1, hq => cases hq; exact vk_R.of (hts _ (List.mem_of_getElem? (i := 2535) (by decide +kernel))) (hev 1 (by omega))
    | i + 2, hq => simp [es_txt] at hq
theorem st_E {args : Array Value} {s : State} (hts : ∀ w ∈ lw_tbl, w.before args s = true) (hs : ∀ c ∈ flatC (Jvm.Cond.and given_1 narrow_1), c.before args s = true) : ev s := by
  refine ⟨?_, ?_, ?_, ?_, ?_, ?_⟩
  · intro x hx
    simp only [ev_txt, List.mem_cons, List.not_mem_nil, or_false] at hx
    rcases hx with rfl | rfl | rfl | rfl | rfl | rfl | rfl | rfl | rfl | rfl | rfl | rfl | rfl | rfl | rfl
    · exact st_txt (hts _ (List.mem_of_getElem? (i := 1223) (by decide +kernel))) (nx_X11_72 hs)
    · exact st_txt (hts _ (List.mem_of_getElem? (i := 1230) (by decide +kernel))) (nx_X11_80 hs)
    · exact st_txt (hts _ (List.mem_of_getElem? (i := 952) (by decide +kernel))) (nx_X7_104 hs)
    · exact st_txt (hts _ (List.mem_of_getElem? (i := 1252) (by decide +kernel))) (nx_X11_129 hs)
    · exact st_txt (hts _ (List.mem_of_getElem? (i := 1430) (by decide +kernel))) (nx_X11_189 hs)
    · exact st_txt (hts _ (List.mem_of_getElem? (i := 1549) (by decide +kernel))) (nx_X11_195 hs)
    · exact st_txt (hts _ (List.mem_of_getElem? (i := 1558) (by decide +kernel))) (nx_X11_198 hs)
    · exact st_txt (hts _ (List.mem_of_getElem? (i := 1670) (by decide +kernel))) (nx_X11_276 hs)
    · exact st_txt (hts _ (List.mem_of_getElem? (i := 1778) (by decide +kernel))) (nx_X11_292 hs)
    · exact st_txt (hts _ (List.mem_of_getElem? (i := 2025) (by decide +kernel))) (nx_X11_340 hs)
    · exact st_txt (hts _ (List.mem_of_getElem? (i := 2037) (by decide +kernel))) (nx_X11_342 hs)
    · exact st_txt (hts _ (List.mem_of_getElem? (i := 1281) (by decide +kernel))) (nx_X11_384 hs)
    · exact st_txt (hts _ (List.mem_of_getElem? (i := 1401) (by decide +kernel))) (nx_X11_386 hs)
    · exact st_txt (hts _ (List.mem_of_getElem? (i := 1286) (by decide +kernel))) (nx_X11_388 hs)
    · exact st_txt (hts _ (List.mem_of_getElem? (i := 1412) (by decide +kernel))) (nx_X11_390 hs)
  · intro w hw
    simp only [ev_tab, List.mem_cons, List.not_mem_nil, or_false] at hw
    rcases hw with rfl | rfl | rfl | rfl | rfl | rfl
    · exact va_any rfl (hts _ (List.mem_of_getElem? (i := 913) (by decide +kernel)))
    · exact va_any rfl (hts _ (List.mem_of_getElem? (i := 1216) (by decide +kernel)))
    · exact va_any rfl (hts _ (List.mem_of_getElem? (i := 1245) (by decide +kernel)))
    · exact va_any rfl (hts _ (List.mem_of_getElem? (i := 915) (by decide +kernel)))
    · exact va_any rfl (hts _ (List.mem_of_getElem? (i := 917) (by decide +kernel)))
    · exact va_any rfl (hts _ (List.mem_of_getElem? (i := 919) (by decide +kernel)))
  · intro x hx
    simp only [ev_no, List.mem_cons, List.not_mem_nil, or_false] at hx
    rcases hx with rfl | rfl | rfl | rfl | rfl | rfl
    · exact va_Nc.of (nn_0 hs)
    · exact va_Nc.of (nn_1 hs)
    · exact va_Nc.of (nn_2 hs)
    · exact va_Nc.of (nn_3 hs)
    · exact va_Nc.of (nn_4 hs)
    · exact va_Nc.of (nn_5 hs)
  · exact va_AO.of (hts (.arrayOver (.object "ScheduleHouse$Trial")) (List.mem_of_getElem? (i := 736) (by decide +kernel)))
  · exact va_Nw.of rfl (hts (.methodLinkNest RX5 24 yX1_init "ScheduleHouse") (List.mem_of_getElem? (i := 563) (by decide +kernel)))
  · exact hts (.arrayOver (.array .int)) (List.mem_of_getElem? (i := 1678) (by decide +kernel))
theorem st_l {l : Launch} (h : l.flags = flags0) : l.stackTraces = false := by
  rw [Launch.stackTraces, h]
  decide +kernel
set_option maxHeartbeats 4000000 in
theorem lw_walk (l : Launch) (hlt : l.stackTraces = false) (b : Addr) (xs : List Int32) : MetFree l x (headSpec (Jvm.Cond.code x code maxLocals ret :: tables_1) room_1) (lw_P b xs) (fun _ _ _ _ _ => True) lw_Q := by
  refine MetFree.of_bodyS (code := code) (maxLocals := maxLocals) (ret := ret) (by decide) ?_ ?_
  · intro args s m h hn
    obtain ⟨meth, c, h1, h2, h3, h4, h5, h6, -, -⟩ := Cond.code_spec hn (atoms_spec (ws := Jvm.Cond.code x code maxLocals ret :: tables_1) h _ List.mem_cons_self)
    exact ⟨meth, c, h1, h2, h3, h4, h5, h6⟩
  · intro p e s m args below meth c s₁ B hml0 hP _
    obtain ⟨rfl, hx, hbd, hgv⟩ := hP
    obtain ⟨scr, harrAt, hlist, hof, hsmall⟩ := hx
    obtain ⟨hcb, hkn, -, -⟩ := State.arrayAt?_spec harrAt
    have hown : s.vm.findClass R_law = some m.cls := findClass_of_methodNamed B.named
    have hts0 : ∀ c ∈ (Jvm.Cond.code x code maxLocals ret :: tables_1), c.before #[Value.ref b] s = true := atoms_spec (ws := Jvm.Cond.code x code maxLocals ret :: tables_1) B.pre
    have hts : ∀ w ∈ lw_tbl, w.before #[Value.ref b] s = true := k2_hts_sels lw_privs (fun w hw => hts0 w (List.mem_cons_of_mem _ hw)) lw_privs_ok
    have hml : c.maxLocals = 7 := B.maxLocals_eq (hts0 _ List.mem_cons_self)
    have X₀ : Stand p l e room_1 s m #[Value.ref b] below meth c s₁ [] 0 0 := Stand.of_body B
    have hh0 : s₁.heap = s.heap := by rw [B.state]; rfl
    have hsz : scr.slots.size = xs.length := by rw [← Array.length_toList, hlist, List.length_map]
    have hval : ∀ j : Nat, j < xs.length → scr.slots[j]? = some (.int (xs.getD j 0)) := fun j hj => by
      rw [← Array.getElem?_toList, hlist]
      simp [hj]
    have hbl : b < s.heap.size := (Array.getElem?_eq_some_iff.mp hcb).1
    have hX : va_X b xs.length (fun j => xs.getD j 0) s s.heap := ⟨scr, hcb, hof, hkn, hsz, hval⟩
    have K : W p l e room_1 s m #[Value.ref b] below meth c s₁.heap [] 0 0 (lw_Z below #[Value.ref b] s) (entryFrame m ([Value.ref b] : List Value).toArray 7) := by
      rw [hh0]
      obtain ⟨sA, hsA⟩ := st_Z hts (flat_of_before _ hgv)
      have htab : c.exceptionTable.toList = [] := by
        obtain ⟨meth', c', q1, q2, -, -, -, -, q7, -⟩ := Cond.code_spec B.named (hts0 _ List.mem_cons_self)
        cases q1.symm.trans B.method
        have q3 : some c = some c' := X₀.code.symm.trans q2
        cases Option.some.inj q3
        first | (rw [Array.isEmpty_iff.mp q7]) | simpa using q7
      exact whole_start l hlt hbd ⟨B.exec, B.bytes, B.returns, hml, hown, hts, hX, hbl, B.notSynchronized, hgv⟩ (st_E hts (flat_of_before _ hgv)) hsA htab (name_of_methodNamed B.named B.method).1
    obtain ⟨t, a1, o, b1, b2, b3⟩ := K s₁ rfl X₀
    exact ⟨t, o, a1, b1, b2, b3⟩
theorem lw_pre_spec {args : Array Value} {s : State} (h : (Jvm.Cond.and given_1 narrow_1).before args s = true) (hr : rest_1_c.before args s = true) : ∃ (b : Addr) (xs : List Int32), lw_P b xs args s := by
  have hs := flat_of_before _ h
  have hq := flat_of_before _ hr
  have hc : (Cond.count 1).before args s = true := hs _ (by decide +kernel)
  have harr : (Cond.arrayOf (.arg 0) .int).before args s = true := hs _ (by decide +kernel)
  have hle : (Cond.le (.length (.arg 0)) (.int 256)).before args s = true := hs _ (by decide +kernel)
  have hlen : (Cond.isInt (.length (.arg 0))).before args s = true := hq _ (by decide +kernel)
  have hall : (Cond.all (.arg 0) (.isInt (.elem (.arg 0) (.index 0)))).before args s = true := hq _ (by decide +kernel)
  obtain ⟨b, xs, hb, hx⟩ := State.ints_of_pre rfl harr hlen hall
  have hsm : xs.length < 2 ^ 31 := hx.choose_spec.2.2.2
  have hev : (Term.length (.arg 0)).eval args s none [] s = some (.int xs.length.toInt32) := hx.length_eval hb
  have hv := Cond.le_ints hev (show (Term.int 256).eval args s none [] s = some (.int 256) from rfl)
  have hd : xs.length.toInt32 ≤ 256 := by
    simpa [Cond.before, Cond.holds, hv] using hle
  have hN : xs.length ≤ 256 := (Int32.ofNat_le_ofNat hsm (by decide)).mp (show Int32.ofNat xs.length ≤ Int32.ofNat 256 from hd)
  exact ⟨b, xs, Cond.one_arg hc (show args[0]? = some (.ref b) from hb), hx, hN, h⟩
theorem lw_comes (l : Launch) (hlt : l.stackTraces = false) : Comes l x (Jvm.Cond.code x code maxLocals ret :: tables_1) room_1 (fun tb e args s => Calls_1 tb e args s ∧ rest_1 tb e args s ∧ Pre_1 tb e args s)
    (fun _ _ args s o t => lw_Q args s o t) := by
  intro p e ha hc hk s m args below hf hfit hheap happ hpre
  obtain ⟨b, xs, hP⟩ := lw_pre_spec hpre.2.2 hpre.2.1
  obtain ⟨k, o, h1, h2, h3, hQ⟩ := lw_walk l hlt b xs p e ha hc hk s m args below hf ((Spec.applies_iff_loose hf).mp happ).1 hP trivial
  exact ⟨k, o, h1, h2, h3, hQ⟩
theorem lw_frame {s t : State} {o : Outcome} {args : Array Value} (h : Framed s o t [] 600128 7301098) :
    Framed s o t (fieldLocs frame_1_writes args s ++ arrayLocs frame_1_arrays args s ++ staticLocs frame_1_statics s) 600128 7301098 := h
theorem lw_limb (L : Cond) (hL : ∀ (args : Array Value) (s t : State), L.after args s (.returned (some (.int 1))) t = true) :
    ArmFor flags0 classFile x code maxLocals ret World_1 tables_1 room_1 Calls_1 rest_1 Pre_1
      (fun tb e a s o t => postC L tb e a s o t ∧ Framed s o t (fieldLocs frame_1_writes a s ++ arrayLocs frame_1_arrays a s ++ staticLocs frame_1_statics s) 600128 7301098) := by
  intro l hfl _ _ p e ha hc hk s m args below hf hfit hheap happ hpre
  obtain ⟨k, o, h1, h2, h3, rfl, hF⟩ := lw_comes l (st_l hfl) p e ha hc hk s m args below hf hfit hheap happ hpre
  exact ⟨k, _, h1, h2, h3, hL args s _, lw_frame hF⟩
theorem i_vc : Claimed_1_1 ∧ Claimed_1_2 := ⟨lw_limb limb_1_1 (fun args s t => by simp [limb_1_1, Cond.after, Cond.holds, Cond.value]), lw_limb limb_1_2 (fun args s t => Cond.after_iff.mpr (by
  first | (rw [show limb_1_2 = Cond.eq .result (.int 1) from rfl, Cond.eq_ints (x := 1) (y := 1) rfl rfl]; simp; done) | (simp [limb_1_2, Cond.value, Term.eval]; done)))⟩
