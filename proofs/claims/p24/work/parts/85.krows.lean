/-! rows of the class: references that may be none, throws, the JDK's fill, max, bitCount, arraycopy -/
abbrev vo (r : Option Nat) : gv := .inr (.inr r)
theorem gcv_vo (ad : Nat → Nat) (r : Option Nat) : gcv ad (vo r) = va_rf (r.map ad) := by cases r <;> rfl
section KRA
variable {E : gE} {d : Nat} {y : gy} {pc : Nat} {lv lv2 : List (Nat × gv)} {st : List gv} {x : gd} {f : gf} {Q : gr → gd → gf → Prop}
theorem T_getO (c k : Nat) {ci N idx : Nat} {sl : List Bool} {ty : FieldType} {fin : Bool} (hd : decode y.2.1 pc = .ok (.getfield idx, 3)) (hf : gFl y.1.cls idx ci k ty fin N) (hK : E.2.2.2.1 c = .inl (ci, sl)) (hc : c ∈ f.2.1) (hk : k < sl.length) (hs : sl.getD k false = true)
    (k9 : T E d y (pc + 3) lv (vo (f.1 c k) :: st) x f Q) : T E d y pc lv (vr c :: st) x f Q :=
  T_step (fun p e R s m args below meth c0 A H locs cells slots ls ad Q9 C hP hS hl kk => by
    obtain ⟨C0, U, h1, h2, h3, h4, -⟩ := hf
    obtain ⟨i, -, hi⟩ := gwl_at (E := E) (x := x) (ad := ad) hc
    rw [gce_obj hK] at hi
    have hv : (gfl x f ad c sl)[k]? = some (gcv ad (vo (f.1 c k))) := by rw [gfl_ref hk hs, gcv_vo]
    exact va_get (C := C0) (T := U) (N := N) C.1.1 C.1.2.1 C.1.2.2.2.2 h2 C.1.2.2.2.1 C.2.2.2.1.1 hP.1.1 i hi h1 k h3 (C.1.2.2.2.2 _ h4) (fun _ h => h) hv hd (kk ls hl)) k9
theorem T_aaldT (c n : Nat) {i : Int32} (hd : decode y.2.1 pc = .ok (.aaload, 1)) (hK : E.2.2.2.1 c = .inr (.object "ScheduleHouse$Trial", n)) (hc : c ∈ f.2.1) (hin : vp_in i n) (k9 : T E d y (pc + 1) lv (vo (f.1 c i.toNatClampNeg) :: st) x f Q) : T E d y pc lv (vi i :: vr c :: st) x f Q :=
  T_step (fun p e R s m args below meth c0 A H locs cells slots ls ad Q9 C hP hS hl kk => by
    obtain ⟨q, -, hi⟩ := gwl_at (E := E) (x := x) (ad := ad) hc
    rw [gce_arr hK] at hi
    refine va_aldq C.1.1 C.1.2.1 C.2.2.2.1.1 hP.1.1 q 4 hi rfl hin hd ?_
    have := kk ls hl
    rw [List.map_cons, gcv_vo] at this
    exact this) k9
theorem T_aaldI (c n : Nat) {i : Int32} (hd : decode y.2.1 pc = .ok (.aaload, 1)) (hK : E.2.2.2.1 c = .inr (.array .int, n)) (hc : c ∈ f.2.1) (hin : vp_in i n) (k9 : T E d y (pc + 1) lv (vo (f.1 c i.toNatClampNeg) :: st) x f Q) : T E d y pc lv (vi i :: vr c :: st) x f Q :=
  T_step (fun p e R s m args below meth c0 A H locs cells slots ls ad Q9 C hP hS hl kk => by
    obtain ⟨q, -, hi⟩ := gwl_at (E := E) (x := x) (ad := ad) hc
    rw [gce_arr hK] at hi
    have := kk ls hl
    rw [List.map_cons, gcv_vo] at this
    have hlt : i.toNatClampNeg < n := Nat.not_le.mp fun q => hin (Or.inr q)
    have ht : (gtys E)[5]? = some (E.2.2.1 (.array .int), .array .int) := rfl
    exact W.aald (v := va_rf ((f.1 c i.toNatClampNeg).map ad)) (ty := .array .int) C.1.1 C.1.2.1 (hP.1.1 q _ hi) ((C.2.2.2.1.1.2 5 _ ht).1 n (fun j => va_rf ((f.1 c j).map ad))) rfl (fun q => by cases q) (by show ¬ (i < 0 ∨ (arrV _ _ _).slots.size ≤ _); rw [arrV_size]; exact hin) (by show (arrV _ _ _).slots[_]? = _; rw [arrV_read _ _ hlt]) rfl rfl hd this) k9
theorem T_ifnull {r : Option Nat} {off : Int} (tgt : Nat) (hd : decode y.2.1 pc = .ok (.ifnull off, 3)) (ht : (pc : Int) + off = (tgt : Int)) (k0 : r = none → T E d y tgt lv st x f Q) (k1 : ∀ c, r = some c → T E d y (pc + 3) lv st x f Q) : T E d y pc lv (vo r :: st) x f Q := by
  cases r with
  | none => exact T_step (fun p e R s m args below meth c A H locs cells slots ls ad Q9 C hP hS hl kk => lv_ifnullN C.1.1 C.1.2.1 hd ht (kk ls hl)) (k0 rfl)
  | some c => exact T_step (fun p e R s m args below meth c A H locs cells slots ls ad Q9 C hP hS hl kk => lv_ifnull C.1.1 C.1.2.1 hd (kk ls hl)) (k1 c rfl)
theorem T_ifnonnull {r : Option Nat} {off : Int} (tgt : Nat) (hd : decode y.2.1 pc = .ok (.ifnonnull off, 3)) (ht : (pc : Int) + off = (tgt : Int)) (k1 : ∀ c, r = some c → T E d y tgt lv st x f Q) (k0 : r = none → T E d y (pc + 3) lv st x f Q) : T E d y pc lv (vo r :: st) x f Q := by
  cases r with
  | none => exact T_step (fun p e R s m args below meth c A H locs cells slots ls ad Q9 C hP hS hl kk => lv_ifnonnullN C.1.1 C.1.2.1 hd (kk ls hl)) (k0 rfl)
  | some c => exact T_step (fun p e R s m args below meth c A H locs cells slots ls ad Q9 C hP hS hl kk => lv_ifnonnull C.1.1 C.1.2.1 hd ht (kk ls hl)) (k1 c rfl)
theorem ev_w {U : State} {args : Array Value} (h : ev U) (w : Cond) (hm : w ∈ ev_tab) (ho : w.onTables = true) : w.before args U = true := va_tabs ho rfl (h.2.1 w hm)
abbrev ev_B (E : String) : List Cond := [.castable E E, .declares (Bundle.initS "java/lang/RuntimeException"), .declares (Bundle.initS "java/lang/Exception"), .declares (Bundle.initS "java/lang/Throwable")]
theorem ev_b {U : State} {args : Array Value} (h : ev U) (E : String) (hm : Cond.castable E E ∈ ev_tab) : ∀ w ∈ ev_B E, w.before args U = true :=
  vx_c (ev_w h _ hm rfl) (vx_c (ev_w h _ (by decide) rfl) (vx_c (ev_w h _ (by decide) rfl) (vx_c (ev_w h _ (by decide) rfl) vx_n)))
/-- one cell, six slots more -/
def gth (f : gf) : gf := (f.1, f.2.1, f.2.2.1 + 1, f.2.2.2 + 6)
/-- what the tables say of a throw -/
def gTh (own cls text : String) (ik is ic : Nat) : Prop := (Bundle.fit cls = true ∧ Cond.castable cls cls ∈ ev_tab ∧ (own, is, text) ∈ ev_txt) ∧ (Cond.classLink own ik cls ∈ W0 ∧ Cond.initialized cls ∈ W0 ∧ ∀ w ∈ (vx_atS own ic cls up2).filter goodWord, w ∈ W0) ∧ (∀ w ∈ (vx_atS own ic cls up2).filter (fun w => !goodWord w), w ∈ ev_B cls) ∧ ∀ w ∈ Cond.classLink own ik cls :: Cond.initialized cls :: vx_atS own ic cls up2, vx_ot w = true
theorem T_thr {cls text : String} {ik is ic : Nat} (hM : gTh y.1.cls cls text ik is ic) (d0 : decode y.2.1 pc = .ok (.new ik, 3)) (d3 : decode y.2.1 (pc + 3) = .ok (.dup, 1)) (d4 : decode y.2.1 (pc + 4) = .ok (.ldc is, 2)) (d6 : decode y.2.1 (pc + 6) = .ok (.invokespecial ic, 3)) (d9 : decode y.2.1 (pc + 9) = .ok (.athrow, 1)) (hno : ∀ z ∈ tableOf y.2.2.2.2, covers z (pc + 9) = false) (hd : 6 ≤ d) (hcat : gsz st ≤ 8) (hQ : Q (.inr cls) x (gth f)) : T E d y pc lv st x f Q := by
  refine ⟨.inr cls, x, gth f, hQ, ⟨fun _ h => h, Nat.le_succ _, Nat.le_add_right _ _⟩, ?_⟩
  intro p e R s m args below meth c A H locs cells slots ls ad C hP hS hl hc hs
  obtain ⟨⟨q1, q2, q3⟩, ⟨q4, q5, q6⟩, q7, q8⟩ := hM
  obtain ⟨sa, hsa⟩ := C.2.2.2.1.2.1.1 _ q3
  have e1 : (gth f).2.2.1 - f.2.2.1 = 1 := by show f.2.2.1 + 1 - f.2.2.1 = 1; omega
  have e2 : (gth f).2.2.2 - f.2.2.2 = 6 := by show f.2.2.2 + 6 - f.2.2.2 = 6; omega
  rw [e1] at hc ⊢
  rw [e2] at hs ⊢
  have hR := C.2.2.1
  have hcs : ((st.map (gcv ad)).map fun v => v.category).sum = gsz st := gsz_c ad st
  refine vx_throwS C.1.1 C.1.2.1 C.2.2.2.1.2.2.2 (own := y.1.cls) (cls := cls) (text := text) (names := up2) (ik := ik) (is := is) (ic := ic) (sa := sa) (A := A) C.1.2.2.2.1 q1 (by decide +kernel) (C.1.2.2.2.2 _ q4) (C.1.2.2.2.2 _ q5) hsa (vx_hat (B := ev_B cls) (fun w hw => C.1.2.2.2.2 w (q6 w hw)) q7 (ev_b C.2.2.2.1.2.1 cls q2)) q8 C.2.2.2.1.2.2.1.1.1 C.2.2.2.1.2.2.1.1.2 hS (by rw [C.1.2.2.1]; exact hl.1) d0 d3 d4 d6 d9 (fun z hz => hno z (by rw [← C.2.1.2.2.1]; exact hz)) (by show 2 + 3 < _; omega) (by rw [hcs]; show gsz st + (13 * (2 + 1) + 43) ≤ _; omega) hc hs C.2.1.2.1 (fun t _ hz hk => ?_) hS.2.2 (Nat.le_refl _) (Nat.le_refl _)
  refine ⟨ad, gex_rf f ad, rfl, ?_, Nat.le_trans hS.1 hz, fun q h1 h2 => (hk q (Nat.lt_of_lt_of_le h1 hS.1)).trans (hS.2.1 q h1 h2)⟩
  exact ⟨⟨hP.1.1.kept (fun k z hz => hk z.1 ((hP.1.1 k z hz).lt)), hP.1.2⟩, hP.2⟩
theorem T_thrW {cls text : String} {ik is ic : Nat} (hM : gTh y.1.cls cls text ik is ic) (d0 : decode y.2.1 pc = .ok (.new ik, 3)) (d3 : decode y.2.1 (pc + 3) = .ok (.dup, 1)) (d4 : decode y.2.1 (pc + 4) = .ok (.ldc_w is, 3)) (d6 : decode y.2.1 (pc + 7) = .ok (.invokespecial ic, 3)) (d9 : decode y.2.1 (pc + 10) = .ok (.athrow, 1)) (hno : ∀ z ∈ tableOf y.2.2.2.2, covers z (pc + 10) = false) (hd : 6 ≤ d) (hcat : gsz st ≤ 8) (hQ : Q (.inr cls) x (gth f)) : T E d y pc lv st x f Q := by
  refine ⟨.inr cls, x, gth f, hQ, ⟨fun _ h => h, Nat.le_succ _, Nat.le_add_right _ _⟩, ?_⟩
  intro p e R s m args below meth c A H locs cells slots ls ad C hP hS hl hc hs
  obtain ⟨⟨q1, q2, q3⟩, ⟨q4, q5, q6⟩, q7, q8⟩ := hM
  obtain ⟨sa, hsa⟩ := C.2.2.2.1.2.1.1 _ q3
  have e1 : (gth f).2.2.1 - f.2.2.1 = 1 := by show f.2.2.1 + 1 - f.2.2.1 = 1; omega
  have e2 : (gth f).2.2.2 - f.2.2.2 = 6 := by show f.2.2.2 + 6 - f.2.2.2 = 6; omega
  rw [e1] at hc ⊢
  rw [e2] at hs ⊢
  have hR := C.2.2.1
  have hcs : ((st.map (gcv ad)).map fun v => v.category).sum = gsz st := gsz_c ad st
  refine vx_throwSW C.1.1 C.1.2.1 C.2.2.2.1.2.2.2 (own := y.1.cls) (cls := cls) (text := text) (names := up2) (ik := ik) (is := is) (ic := ic) (sa := sa) (A := A) C.1.2.2.2.1 q1 (by decide +kernel) (C.1.2.2.2.2 _ q4) (C.1.2.2.2.2 _ q5) hsa (vx_hat (B := ev_B cls) (fun w hw => C.1.2.2.2.2 w (q6 w hw)) q7 (ev_b C.2.2.2.1.2.1 cls q2)) q8 C.2.2.2.1.2.2.1.1.1 C.2.2.2.1.2.2.1.1.2 hS (by rw [C.1.2.2.1]; exact hl.1) d0 d3 d4 d6 d9 (fun z hz => hno z (by rw [← C.2.1.2.2.1]; exact hz)) (by show 2 + 3 < _; omega) (by rw [hcs]; show gsz st + (13 * (2 + 1) + 43) ≤ _; omega) hc hs C.2.1.2.1 (fun t _ hz hk => ?_) hS.2.2 (Nat.le_refl _) (Nat.le_refl _)
  refine ⟨ad, gex_rf f ad, rfl, ?_, Nat.le_trans hS.1 hz, fun q h1 h2 => (hk q (Nat.lt_of_lt_of_le h1 hS.1)).trans (hS.2.1 q h1 h2)⟩
  exact ⟨⟨hP.1.1.kept (fun k z hz => hk z.1 ((hP.1.1 k z hz).lt)), hP.1.2⟩, hP.2⟩
theorem T_max {a b : Int32} {idx : Nat} {rest : List gv} (hd : decode y.2.1 pc = .ok (.invokestatic idx, 3)) (hw : Cond.methodLink y.1.cls idx Lib.Math.max.name ∈ W0 ∧ Cond.static Lib.Math.max.name ∈ W0 ∧ Cond.initialized "java/lang/Math" ∈ W0 ∧ Cond.code Lib.Math.max.name Lib.Math.max.code 2 (some .int) ∈ W0) (hd1 : 1 ≤ d) (hcat : gsz rest ≤ 8)
    (k : ∀ r : Int32, (r.toInt = a.toInt ∨ r.toInt = b.toInt) → a.toInt ≤ r.toInt → b.toInt ≤ r.toInt → T E d y (pc + 3) lv (vi r :: rest) x f Q) : T E d y pc lv (vi b :: vi a :: rest) x f Q := by
  have k1 : T E d y (pc + 3) lv (vi (if a < b then b else a) :: rest) x f Q := by
    by_cases h : a < b
    · rw [if_pos h]
      have h' := Int32.lt_iff_toInt_lt.mp h
      exact k b (Or.inr rfl) (by omega) (Int.le_refl _)
    · rw [if_neg h]
      have h' : ¬ a.toInt < b.toInt := fun q => h (Int32.lt_iff_toInt_lt.mpr q)
      exact k a (Or.inl rfl) (Int.le_refl _) (by omega)
  obtain ⟨o, x', f', h1, h2, h3⟩ := k1
  refine ⟨o, x', f', h1, h2, ?_⟩
  intro p e R s m args below meth c A H locs cells slots ls ad C hP hS hl hc hs
  have hR := C.2.2.1
  have hcs : ((rest.map (gcv ad)).map fun v => v.category).sum = gsz rest := gsz_c ad rest
  exact va_mmax C.1.1 C.1.2.1 (by rw [C.1.2.2.1]; exact hl.1.symm) C.1.2.2.2.1 (C.1.2.2.2.2 _ hw.1) (C.1.2.2.2.2 _ hw.2.1) (C.1.2.2.2.2 _ hw.2.2.1) (C.1.2.2.2.2 _ hw.2.2.2) (by omega) (by rw [hcs]; omega) (by omega) (by omega) hd (h3 p e R s m args below meth c A H locs cells slots ls ad C hP hS hl hc hs)
/-- arraycopy of ints -/
def scp (x : gd) (a b sp dp n : Nat) : gd := (fun c => if c = b then va_cpy (x.1 a) (x.1 b) sp dp n else x.1 c, x.2)
theorem gce_scp {ad : Nat → Nat} {a b sp dp n c' : Nat} (h : c' ≠ b) : gce E (scp x a b sp dp n) f ad c' = gce E x f ad c' := by
  have e : (scp x a b sp dp n).1 c' = x.1 c' := by show (if c' = b then _ else _) = _; rw [if_neg h]
  have e2 : (scp x a b sp dp n).2 = x.2 := rfl
  unfold gce gfl gar
  rw [e, e2]
theorem T_copy (a b na nb : Nat) {idx : Nat} {sp dp n : Int32} (hd : decode y.2.1 pc = .ok (.invokestatic idx, 3)) (hw : Cond.methodLink y.1.cls idx arraycopyName ∈ W0 ∧ Cond.native arraycopyName ∈ W0 ∧ Cond.static arraycopyName ∈ W0 ∧ Cond.initialized "java/lang/System" ∈ W0) (hKa : E.2.2.2.1 a = .inr (.int, na)) (hca : a ∈ f.2.1) (hKb : E.2.2.2.1 b = .inr (.int, nb)) (hcb : b ∈ f.2.1) (hd1 : 2 ≤ d) (hcat : gsz st ≤ 8)
    (h1 : ¬ sp < 0) (h2 : ¬ dp < 0) (h3 : ¬ n < 0) (h4 : sp.toNatClampNeg + n.toNatClampNeg ≤ na) (h5 : dp.toNatClampNeg + n.toNatClampNeg ≤ nb)
    (k9 : T E d y (pc + 3) lv st (scp x a b sp.toNatClampNeg dp.toNatClampNeg n.toNatClampNeg) f Q) : T E d y pc lv (vi n :: vi dp :: vr b :: vi sp :: vr a :: st) x f Q :=
  T_stepX (fun p e R s m args below meth c0 A H locs cells slots ls ad Q9 C hP hS hl kk => by
    obtain ⟨qa, -, hia⟩ := gwl_at (E := E) (x := x) (ad := ad) hca
    rw [gce_arr hKa] at hia
    obtain ⟨qb, hi0, hib⟩ := gwl_at (E := E) (x := x) (ad := ad) hcb
    rw [gce_arr hKb] at hib
    have ht : (gtys E)[0]? = some (E.2.2.1 .int, .int) := rfl
    have he : (gwl E x f ad).set qb (ad b, .inl (E.2.2.1 .int, nb, .inl (va_cpy (x.1 a) (x.1 b) sp.toNatClampNeg dp.toNatClampNeg n.toNatClampNeg))) = gwl E (scp x a b sp.toNatClampNeg dp.toNatClampNeg n.toNatClampNeg) f ad := by
      have e9 : gce E (scp x a b sp.toNatClampNeg dp.toNatClampNeg n.toNatClampNeg) f ad b = .inl (E.2.2.1 .int, nb, .inl (va_cpy (x.1 a) (x.1 b) sp.toNatClampNeg dp.toNatClampNeg n.toNatClampNeg)) := by
        rw [gce_arr hKb]
        show Sum.inl (_, _, Sum.inl ((scp x a b sp.toNatClampNeg dp.toNatClampNeg n.toNatClampNeg).1 b)) = _
        show Sum.inl (_, _, Sum.inl (if b = b then _ else _)) = _
        rw [if_pos rfl]
      rw [← e9]
      exact gwl_set (G := fun c' => (ad c', gce E (scp x a b sp.toNatClampNeg dp.toNatClampNeg n.toNatClampNeg) f ad c')) hi0 (gwl_one hP.1.2 hi0) (fun c' hne => by rw [gce_scp hne])
    have hR := C.2.2.1
    have hcs : ((st.map (gcv ad)).map fun v => v.category).sum = gsz st := gsz_c ad st
    have hnw : nativeFrameWords "java/lang/System" "arraycopy" 5 + 11 ≤ 60 := by decide +kernel
    refine va_copyi C.1.1 C.1.2.1 (by rw [C.1.2.2.1]; exact hl.1.symm) C.1.2.2.2.1 (C.1.2.2.2.2 _ hw.1) (C.1.2.2.2.2 _ hw.2.1) (C.1.2.2.2.2 _ hw.2.2.1) (C.1.2.2.2.2 _ hw.2.2.2) C.2.2.2.1.1 hP.1.1 hP.1.2 hS qa qb 0 0 hia hib ht ht rfl h1 h2 h3 h4 h5 (fun _ _ => rfl) (by omega) (by rw [hcs]; omega) hd (fun H2 locs2 hP2 hD2 hS2 => kk H2 locs2 ⟨⟨?_, ?_⟩, hP.2⟩ hS2)
    · rw [← he]; exact hP2
    · rw [← he]; exact hD2) k9
end KRA
/-- references that live -/
theorem gkr {L : List Nat} {c : Nat} (h : c ∈ L) : gokv L (vr c) = true := by
  show (L.elem c || decide (900 ≤ c ∧ c < 905)) = true
  rw [List.elem_iff.mpr h, Bool.true_or]
theorem av_n {L : List Nat} : ([] : List (Nat × gv)).all (fun q => gokv L q.2) = true := rfl
theorem av_c {L : List Nat} {k : Nat} {v : gv} {lv : List (Nat × gv)} (h : gokv L v = true) (t : lv.all (fun q => gokv L q.2) = true) : ((k, v) :: lv).all (fun q => gokv L q.2) = true := by
  rw [List.all_cons, t, h]; rfl
theorem as_n {L : List Nat} : ([] : List gv).all (gokv L) = true := rfl
theorem as_c {L : List Nat} {v : gv} {st : List gv} (h : gokv L v = true) (t : st.all (gokv L) = true) : (v :: st).all (gokv L) = true := by
  rw [List.all_cons, t, h]; rfl
theorem gok_i {L : List Nat} {lv : List (Nat × gv)} {st : List gv} (h : lv.all (fun q => gokv L q.2) = true) (t : st.all (gokv L) = true) : gok L lv st = true := by
  unfold gok
  rw [h, t]; rfl
/-- may throw: an end with an answer leaves the shape; an exception makes one cell more -/
def keq (q : kP) (P : Option gv → gd → Prop) (X : String → gd → Prop) : gr → gd → gf → Prop := fun o x f => (f = kf q ∧ ∃ v, o = .inl v ∧ P v x) ∨ (f = gth (kf q) ∧ ∃ c, o = .inr c ∧ X c x)
abbrev KE (G : kG) (q : kP) (d : Nat) (y : gy) (pc : Nat) (lv : List (Nat × gv)) (st : List gv) (x : gd) (P : Option gv → gd → Prop) (X : String → gd → Prop) : Prop := T (kE G) d y pc lv st x (kf q) (keq q P X)
section KRW
variable {G : kG} {q : kP} {d : Nat} {y z : gy} {pc : Nat} {lv : List (Nat × gv)} {st : List gv} {x : gd} {P P' : Option gv → gd → Prop} {X X' : String → gd → Prop}
theorem KT_iret {v : Int32} {ty : FieldType} (hd : decode y.2.1 pc = .ok (.ireturn, 1)) (hr : y.2.2.2.1 = some ty) (hn : narrow ty (.int v) = .int v) (hQ : P (some (vi v)) x) : KT G q d y pc lv [vi v] x P := T_iret hd hr hn ⟨rfl, _, rfl, hQ⟩
theorem KT_vret (hd : decode y.2.1 pc = .ok (.return_, 1)) (hr : y.2.2.2.1 = none) (hQ : P none x) : KT G q d y pc lv [] x P := T_vret hd hr ⟨rfl, _, rfl, hQ⟩
theorem KE_iret {v : Int32} {ty : FieldType} (hd : decode y.2.1 pc = .ok (.ireturn, 1)) (hr : y.2.2.2.1 = some ty) (hn : narrow ty (.int v) = .int v) (hQ : P (some (vi v)) x) : KE G q d y pc lv [vi v] x P X := T_iret hd hr hn (Or.inl ⟨rfl, _, rfl, hQ⟩)
theorem KE_vret (hd : decode y.2.1 pc = .ok (.return_, 1)) (hr : y.2.2.2.1 = none) (hQ : P none x) : KE G q d y pc lv [] x P X := T_vret hd hr (Or.inl ⟨rfl, _, rfl, hQ⟩)
/-- a quiet call, behind it anything -/
theorem KC_Vi {Q : gr → gd → gf → Prop} {idx n c ci : Nat} {sl : List Bool} {F : Int32 → gd → Prop} (As rest : List gv) (hst : st = As.reverse ++ vr c :: rest) (hd : decode y.2.1 pc = .ok (.invokevirtual idx, 3)) (hM : gMv y.1.cls idx z n) (hn : As.length = n) (hK : kK c = .inl (ci, sl)) (hcl : (vwCl[ci]?).map (fun r => r.1) = some z.1.cls) (hc : c ∈ (kf q).2.1) (hfit : gsz (vr c :: As) ≤ z.2.2.1) (hcat : gsz rest ≤ 8) (hok : gok (kf q).2.1 lv rest = true) (hy : y.2.2.2.2 = [])
    (k : KT G q d z 0 (glv 0 (vr c :: As)) [] x (ri F)) (kk : ∀ r x1, F r x1 → T (kE G) (d + 1) y (pc + 3) lv (vi r :: rest) x1 (kf q) Q) : T (kE G) (d + 1) y pc lv st x (kf q) Q :=
  T_callV As rest d hst hd hM hn hK hcl hc (Nat.le_refl _) hfit hcat hok (by rw [hy]; intro z hz; cases hz) (T_mono k (fun o x' f' w => by obtain ⟨rfl, v, rfl, r, rfl, hr⟩ := w; exact kk r x' hr))
theorem KC_Vv {Q : gr → gd → gf → Prop} {idx n c ci : Nat} {sl : List Bool} {F : gd → Prop} (As rest : List gv) (hst : st = As.reverse ++ vr c :: rest) (hd : decode y.2.1 pc = .ok (.invokevirtual idx, 3)) (hM : gMv y.1.cls idx z n) (hn : As.length = n) (hK : kK c = .inl (ci, sl)) (hcl : (vwCl[ci]?).map (fun r => r.1) = some z.1.cls) (hc : c ∈ (kf q).2.1) (hfit : gsz (vr c :: As) ≤ z.2.2.1) (hcat : gsz rest ≤ 8) (hok : gok (kf q).2.1 lv rest = true) (hy : y.2.2.2.2 = [])
    (k : KT G q d z 0 (glv 0 (vr c :: As)) [] x (rv F)) (kk : ∀ x1, F x1 → T (kE G) (d + 1) y (pc + 3) lv rest x1 (kf q) Q) : T (kE G) (d + 1) y pc lv st x (kf q) Q :=
  T_callV As rest d hst hd hM hn hK hcl hc (Nat.le_refl _) hfit hcat hok (by rw [hy]; intro z hz; cases hz) (T_mono k (fun o x' f' w => by obtain ⟨rfl, v, rfl, rfl, hr⟩ := w; exact kk x' hr))
theorem KC_Si {Q : gr → gd → gf → Prop} {idx n : Nat} {F : Int32 → gd → Prop} (As rest : List gv) (hst : st = As.reverse ++ rest) (hd : decode y.2.1 pc = .ok (.invokestatic idx, 3)) (hM : gMs y.1.cls idx z n) (hn : As.length = n) (hfit : gsz As ≤ z.2.2.1) (hcat : gsz rest ≤ 8) (hok : gok (kf q).2.1 lv rest = true) (hy : y.2.2.2.2 = [])
    (k : KT G q d z 0 (glv 0 As) [] x (ri F)) (kk : ∀ r x1, F r x1 → T (kE G) (d + 1) y (pc + 3) lv (vi r :: rest) x1 (kf q) Q) : T (kE G) (d + 1) y pc lv st x (kf q) Q :=
  T_callS As rest d hst hd hM hn (Nat.le_refl _) hfit hcat hok (by rw [hy]; intro z hz; cases hz) (T_mono k (fun o x' f' w => by obtain ⟨rfl, v, rfl, r, rfl, hr⟩ := w; exact kk r x' hr))
theorem KC_Sv {Q : gr → gd → gf → Prop} {idx n : Nat} {F : gd → Prop} (As rest : List gv) (hst : st = As.reverse ++ rest) (hd : decode y.2.1 pc = .ok (.invokestatic idx, 3)) (hM : gMs y.1.cls idx z n) (hn : As.length = n) (hfit : gsz As ≤ z.2.2.1) (hcat : gsz rest ≤ 8) (hok : gok (kf q).2.1 lv rest = true) (hy : y.2.2.2.2 = [])
    (k : KT G q d z 0 (glv 0 As) [] x (rv F)) (kk : ∀ x1, F x1 → T (kE G) (d + 1) y (pc + 3) lv rest x1 (kf q) Q) : T (kE G) (d + 1) y pc lv st x (kf q) Q :=
  T_callS As rest d hst hd hM hn (Nat.le_refl _) hfit hcat hok (by rw [hy]; intro z hz; cases hz) (T_mono k (fun o x' f' w => by obtain ⟨rfl, v, rfl, rfl, hr⟩ := w; exact kk x' hr))
/-- a call that may throw, behind it the same -/
theorem KD_Vi {idx n c ci : Nat} {sl : List Bool} {F : Int32 → gd → Prop} (As rest : List gv) (hst : st = As.reverse ++ vr c :: rest) (hd : decode y.2.1 pc = .ok (.invokevirtual idx, 3)) (hM : gMv y.1.cls idx z n) (hn : As.length = n) (hK : kK c = .inl (ci, sl)) (hcl : (vwCl[ci]?).map (fun r => r.1) = some z.1.cls) (hc : c ∈ (kf q).2.1) (hfit : gsz (vr c :: As) ≤ z.2.2.1) (hcat : gsz rest ≤ 8) (hok : gok (kf q).2.1 lv rest = true) (hy : y.2.2.2.2 = [])
    (k : KE G q d z 0 (glv 0 (vr c :: As)) [] x (ri F) X) (kk : ∀ r x1, F r x1 → KE G q (d + 1) y (pc + 3) lv (vi r :: rest) x1 P X) : KE G q (d + 1) y pc lv st x P X :=
  T_callV As rest d hst hd hM hn hK hcl hc (Nat.le_refl _) hfit hcat hok (by rw [hy]; intro z hz; cases hz) (T_mono k (fun o x' f' w => by
    rcases w with ⟨rfl, v, rfl, r, rfl, hr⟩ | ⟨rfl, c, rfl, hx⟩
    · exact kk r x' hr
    · exact Or.inr ⟨rfl, c, rfl, hx⟩))
theorem KD_Vv {idx n c ci : Nat} {sl : List Bool} {F : gd → Prop} (As rest : List gv) (hst : st = As.reverse ++ vr c :: rest) (hd : decode y.2.1 pc = .ok (.invokevirtual idx, 3)) (hM : gMv y.1.cls idx z n) (hn : As.length = n) (hK : kK c = .inl (ci, sl)) (hcl : (vwCl[ci]?).map (fun r => r.1) = some z.1.cls) (hc : c ∈ (kf q).2.1) (hfit : gsz (vr c :: As) ≤ z.2.2.1) (hcat : gsz rest ≤ 8) (hok : gok (kf q).2.1 lv rest = true) (hy : y.2.2.2.2 = [])
    (k : KE G q d z 0 (glv 0 (vr c :: As)) [] x (rv F) X) (kk : ∀ x1, F x1 → KE G q (d + 1) y (pc + 3) lv rest x1 P X) : KE G q (d + 1) y pc lv st x P X :=
  T_callV As rest d hst hd hM hn hK hcl hc (Nat.le_refl _) hfit hcat hok (by rw [hy]; intro z hz; cases hz) (T_mono k (fun o x' f' w => by
    rcases w with ⟨rfl, v, rfl, rfl, hr⟩ | ⟨rfl, c, rfl, hx⟩
    · exact kk x' hr
    · exact Or.inr ⟨rfl, c, rfl, hx⟩))
theorem KD_Sv {idx n : Nat} {F : gd → Prop} (As rest : List gv) (hst : st = As.reverse ++ rest) (hd : decode y.2.1 pc = .ok (.invokestatic idx, 3)) (hM : gMs y.1.cls idx z n) (hn : As.length = n) (hfit : gsz As ≤ z.2.2.1) (hcat : gsz rest ≤ 8) (hok : gok (kf q).2.1 lv rest = true) (hy : y.2.2.2.2 = [])
    (k : KE G q d z 0 (glv 0 As) [] x (rv F) X) (kk : ∀ x1, F x1 → KE G q (d + 1) y (pc + 3) lv rest x1 P X) : KE G q (d + 1) y pc lv st x P X :=
  T_callS As rest d hst hd hM hn (Nat.le_refl _) hfit hcat hok (by rw [hy]; intro z hz; cases hz) (T_mono k (fun o x' f' w => by
    rcases w with ⟨rfl, v, rfl, rfl, hr⟩ | ⟨rfl, c, rfl, hx⟩
    · exact kk x' hr
    · exact Or.inr ⟨rfl, c, rfl, hx⟩))
end KRW
/-- fill -/
def sfl (x : gd) (c : Nat) (v : Int32) (n : Nat) : gd := (fun c' => if c' = c then (fun j => if j < n then v else x.1 c j) else x.1 c', x.2)
theorem sfl_0 (x : gd) (c : Nat) (v : Int32) : sfl x c v 0 = x := by
  refine Prod.ext (funext (fun c' => ?_)) rfl
  show (if c' = c then (fun j => if j < 0 then v else x.1 c j) else x.1 c') = x.1 c'
  by_cases h : c' = c
  · rw [if_pos h, h]
    funext j
    rw [if_neg (Nat.not_lt_zero j)]
  · rw [if_neg h]
theorem sfl_s (x : gd) (c : Nat) (v : Int32) (n : Nat) : si (sfl x c v n) c n v = sfl x c v (n + 1) := by
  refine Prod.ext (funext (fun c' => ?_)) rfl
  show (if c' = c then upd ((sfl x c v n).1 c) n v else (sfl x c v n).1 c') = (if c' = c then (fun j => if j < n + 1 then v else x.1 c j) else x.1 c')
  by_cases h : c' = c
  · rw [if_pos h, if_pos h]
    funext j
    show (if j = n then v else (if c = c then (fun j => if j < n then v else x.1 c j) else x.1 c) j) = _
    rw [if_pos rfl]
    show (if j = n then v else if j < n then v else x.1 c j) = if j < n + 1 then v else x.1 c j
    by_cases e : j = n
    · rw [if_pos e, if_pos (by omega)]
    · rw [if_neg e]
      by_cases l : j < n
      · rw [if_pos l, if_pos (by omega)]
      · rw [if_neg l, if_neg (by omega)]
  · rw [if_neg h, if_neg h]
    show (if c' = c then _ else x.1 c') = x.1 c'
    rw [if_neg h]
abbrev zj_fill : gy := (yJ7_fill_53178, cJ7_fill_53178, 4, none, [])
theorem dtj_fill : dck cJ7_fill_53178 [(0, .iconst 0, 1), (1, .istore_n 2, 1), (2, .aload_n 0, 1), (3, .arraylength, 1), (4, .istore_n 3, 1), (5, .iload_n 2, 1), (6, .iload_n 3, 1), (7, .if_icmp .ge 13, 3), (10, .aload_n 0, 1), (11, .iload_n 2, 1), (12, .iload_n 1, 1), (13, .iastore, 1), (14, .iinc 2 1, 3), (17, .goto (-12), 3), (20, .return_, 1)] = true := by decide +kernel
set_option maxRecDepth 100000 in
theorem cwaj_fill : tables_1_3[201]? = some (Cond.code yJ7_fill_53178 cJ7_fill_53178 4 none) := rfl
theorem cwj_fill : Cond.code yJ7_fill_53178 cJ7_fill_53178 4 none ∈ W0 := W0_in (tp_3 (List.mem_of_getElem? cwaj_fill)) rfl
abbrev zj_bitCount : gy := (yJ6_bitCount_0f7a4, cJ6_bitCount_0f7a4, 1, (some .int), [])
theorem dtj_bitCount : dck cJ6_bitCount_0f7a4 [(0, .iload_n 0, 1), (1, .iload_n 0, 1), (2, .iconst 1, 1), (3, .iushr, 1), (4, .ldc_w 265, 3), (7, .iand, 1), (8, .isub, 1), (9, .istore_n 0, 1), (10, .iload_n 0, 1), (11, .ldc_w 266, 3), (14, .iand, 1), (15, .iload_n 0, 1), (16, .iconst 2, 1), (17, .iushr, 1), (18, .ldc_w 266, 3), (21, .iand, 1), (22, .iadd, 1), (23, .istore_n 0, 1), (24, .iload_n 0, 1), (25, .iload_n 0, 1), (26, .iconst 4, 1), (27, .iushr, 1), (28, .iadd, 1), (29, .ldc_w 267, 3), (32, .iand, 1), (33, .istore_n 0, 1), (34, .iload_n 0, 1), (35, .iload_n 0, 1), (36, .bipush 8, 2), (38, .iushr, 1), (39, .iadd, 1), (40, .istore_n 0, 1), (41, .iload_n 0, 1), (42, .iload_n 0, 1), (43, .bipush 16, 2), (45, .iushr, 1), (46, .iadd, 1), (47, .istore_n 0, 1), (48, .iload_n 0, 1), (49, .bipush 63, 2), (51, .iand, 1), (52, .ireturn, 1)] = true := by decide +kernel
set_option maxRecDepth 100000 in
theorem cwaj_bitCount : tables_1_6[204]? = some (Cond.code yJ6_bitCount_0f7a4 cJ6_bitCount_0f7a4 1 (some .int)) := rfl
theorem cwj_bitCount : Cond.code yJ6_bitCount_0f7a4 cJ6_bitCount_0f7a4 1 (some .int) ∈ W0 := W0_in (tp_6 (List.mem_of_getElem? cwaj_bitCount)) rfl
theorem kcs_X10_60 : gMs RX10 60 zj_fill 2 := ⟨⟨W0_in (tp_8 (List.mem_of_getElem? (i := 6) (by decide +kernel))) rfl, W0_in (tp_3 (List.mem_of_getElem? (i := 200) (by decide +kernel))) rfl, W0_in (tp_1 (List.mem_of_getElem? (i := 19) (by decide +kernel))) rfl, cwj_fill⟩, ⟨by decide, by decide, by decide +kernel⟩, by decide, by decide⟩
theorem kcs_X2_60 : gMs RX2 60 zj_fill 2 := ⟨⟨W0_in (tp_8 (List.mem_of_getElem? (i := 7) (by decide +kernel))) rfl, W0_in (tp_3 (List.mem_of_getElem? (i := 200) (by decide +kernel))) rfl, W0_in (tp_1 (List.mem_of_getElem? (i := 19) (by decide +kernel))) rfl, cwj_fill⟩, ⟨by decide, by decide, by decide +kernel⟩, by decide, by decide⟩
theorem kcs_X3_47 : gMs RX3 47 zj_fill 2 := ⟨⟨W0_in (tp_7 (List.mem_of_getElem? (i := 78) (by decide +kernel))) rfl, W0_in (tp_3 (List.mem_of_getElem? (i := 200) (by decide +kernel))) rfl, W0_in (tp_1 (List.mem_of_getElem? (i := 19) (by decide +kernel))) rfl, cwj_fill⟩, ⟨by decide, by decide, by decide +kernel⟩, by decide, by decide⟩
theorem kcs_X4_71 : gMs RX4 71 zj_fill 2 := ⟨⟨W0_in (tp_5 (List.mem_of_getElem? (i := 224) (by decide +kernel))) rfl, W0_in (tp_3 (List.mem_of_getElem? (i := 200) (by decide +kernel))) rfl, W0_in (tp_1 (List.mem_of_getElem? (i := 19) (by decide +kernel))) rfl, cwj_fill⟩, ⟨by decide, by decide, by decide +kernel⟩, by decide, by decide⟩
theorem kcs_X5_73 : gMs RX5 73 zj_fill 2 := ⟨⟨W0_in (tp_5 (List.mem_of_getElem? (i := 130) (by decide +kernel))) rfl, W0_in (tp_3 (List.mem_of_getElem? (i := 200) (by decide +kernel))) rfl, W0_in (tp_1 (List.mem_of_getElem? (i := 19) (by decide +kernel))) rfl, cwj_fill⟩, ⟨by decide, by decide, by decide +kernel⟩, by decide, by decide⟩
theorem kcs_X6_49 : gMs RX6 49 zj_fill 2 := ⟨⟨W0_in (tp_3 (List.mem_of_getElem? (i := 199) (by decide +kernel))) rfl, W0_in (tp_3 (List.mem_of_getElem? (i := 200) (by decide +kernel))) rfl, W0_in (tp_1 (List.mem_of_getElem? (i := 19) (by decide +kernel))) rfl, cwj_fill⟩, ⟨by decide, by decide, by decide +kernel⟩, by decide, by decide⟩
theorem kmx_X4_119 : Cond.methodLink RX4 119 Lib.Math.max.name ∈ W0 ∧ Cond.static Lib.Math.max.name ∈ W0 ∧ Cond.initialized "java/lang/Math" ∈ W0 ∧ Cond.code Lib.Math.max.name Lib.Math.max.code 2 (some .int) ∈ W0 := ⟨W0_in (tp_6 (List.mem_of_getElem? (i := 109) (by decide +kernel))) rfl, W0_in (tp_4 (List.mem_of_getElem? (i := 69) (by decide +kernel))) rfl, W0_in (tp_1 (List.mem_of_getElem? (i := 21) (by decide +kernel))) rfl, W0_in (tp_4 (List.mem_of_getElem? (i := 70) (by decide +kernel))) rfl⟩
theorem kmx_X7_121 : Cond.methodLink RX7 121 Lib.Math.max.name ∈ W0 ∧ Cond.static Lib.Math.max.name ∈ W0 ∧ Cond.initialized "java/lang/Math" ∈ W0 ∧ Cond.code Lib.Math.max.name Lib.Math.max.code 2 (some .int) ∈ W0 := ⟨W0_in (tp_4 (List.mem_of_getElem? (i := 68) (by decide +kernel))) rfl, W0_in (tp_4 (List.mem_of_getElem? (i := 69) (by decide +kernel))) rfl, W0_in (tp_1 (List.mem_of_getElem? (i := 21) (by decide +kernel))) rfl, W0_in (tp_4 (List.mem_of_getElem? (i := 70) (by decide +kernel))) rfl⟩
theorem kcs_X11_237 : gMs RX11 237 zj_bitCount 1 := ⟨⟨W0_in (tp_6 (List.mem_of_getElem? (i := 202) (by decide +kernel))) rfl, W0_in (tp_6 (List.mem_of_getElem? (i := 203) (by decide +kernel))) rfl, W0_in (tp_1 (List.mem_of_getElem? (i := 23) (by decide +kernel))) rfl, cwj_bitCount⟩, ⟨by decide, by decide, by decide +kernel⟩, by decide, by decide⟩
theorem kkj_265 : Cond.constant RJ6 265 (1431655765) ∈ W0 := W0_in (tp_6 (List.mem_of_getElem? (i := 205) (by decide +kernel))) rfl
theorem kkj_266 : Cond.constant RJ6 266 (858993459) ∈ W0 := W0_in (tp_6 (List.mem_of_getElem? (i := 206) (by decide +kernel))) rfl
theorem kkj_267 : Cond.constant RJ6 267 (252645135) ∈ W0 := W0_in (tp_6 (List.mem_of_getElem? (i := 207) (by decide +kernel))) rfl
theorem kcv_X9_81 : gMv RX9 81 zj_charAt 1 := ⟨⟨W0_in (tp_3 (List.mem_of_getElem? (i := 140) (by decide +kernel))) rfl, W0_in (tp_3 (List.mem_of_getElem? (i := 141) (by decide +kernel))) rfl, W0_in (tp_3 (List.mem_of_getElem? (i := 142) (by decide +kernel))) rfl, W0_in (tp_1 (List.mem_of_getElem? (i := 15) (by decide +kernel))) rfl, cwj_charAt⟩, ⟨by decide, by decide, by decide +kernel⟩, by decide, by decide⟩
theorem kcy_X10_78 : Cond.methodLink RX10 78 arraycopyName ∈ W0 ∧ Cond.native arraycopyName ∈ W0 ∧ Cond.static arraycopyName ∈ W0 ∧ Cond.initialized "java/lang/System" ∈ W0 := ⟨W0_in (tp_8 (List.mem_of_getElem? (i := 100) (by decide +kernel))) rfl, W0_in (tp_7 (List.mem_of_getElem? (i := 102) (by decide +kernel))) rfl, W0_in (tp_7 (List.mem_of_getElem? (i := 101) (by decide +kernel))) rfl, W0_in (tp_1 (List.mem_of_getElem? (i := 25) (by decide +kernel))) rfl⟩
theorem kcy_X2_112 : Cond.methodLink RX2 112 arraycopyName ∈ W0 ∧ Cond.native arraycopyName ∈ W0 ∧ Cond.static arraycopyName ∈ W0 ∧ Cond.initialized "java/lang/System" ∈ W0 := ⟨W0_in (tp_8 (List.mem_of_getElem? (i := 42) (by decide +kernel))) rfl, W0_in (tp_7 (List.mem_of_getElem? (i := 102) (by decide +kernel))) rfl, W0_in (tp_7 (List.mem_of_getElem? (i := 101) (by decide +kernel))) rfl, W0_in (tp_1 (List.mem_of_getElem? (i := 25) (by decide +kernel))) rfl⟩
theorem kcy_X3_102 : Cond.methodLink RX3 102 arraycopyName ∈ W0 ∧ Cond.native arraycopyName ∈ W0 ∧ Cond.static arraycopyName ∈ W0 ∧ Cond.initialized "java/lang/System" ∈ W0 := ⟨W0_in (tp_7 (List.mem_of_getElem? (i := 100) (by decide +kernel))) rfl, W0_in (tp_7 (List.mem_of_getElem? (i := 102) (by decide +kernel))) rfl, W0_in (tp_7 (List.mem_of_getElem? (i := 101) (by decide +kernel))) rfl, W0_in (tp_1 (List.mem_of_getElem? (i := 25) (by decide +kernel))) rfl⟩
theorem ktx_X7_106 : ∀ w ∈ (vx_atS RX7 106 iSE up2).filter goodWord, w ∈ lw_tbl := by decide +kernel
theorem kth_X7_102_104 : gTh RX7 iSE "a fault of the text" 102 104 106 := ⟨⟨by decide +kernel, by decide, by decide⟩, ⟨W0_in (tp_3 (List.mem_of_getElem? (i := 226) (by decide +kernel))) rfl, W0_in (tp_1 (List.mem_of_getElem? (i := 20) (by decide +kernel))) rfl, fun w hw => W0_in (ktx_X7_106 w hw) (List.mem_filter.mp hw).2⟩, by decide +kernel, by decide +kernel⟩
theorem ktx_X11_74 : ∀ w ∈ (vx_atS RX11 74 iAE up2).filter goodWord, w ∈ lw_tbl := by decide +kernel
theorem kth_X11_70_72 : gTh RX11 iAE "n is not 1 .. 8" 70 72 74 := ⟨⟨by decide +kernel, by decide, by decide⟩, ⟨W0_in (tp_5 (List.mem_of_getElem? (i := 49) (by decide +kernel))) rfl, W0_in (tp_1 (List.mem_of_getElem? (i := 14) (by decide +kernel))) rfl, fun w hw => W0_in (ktx_X11_74 w hw) (List.mem_filter.mp hw).2⟩, by decide +kernel, by decide +kernel⟩
theorem kth_X11_70_80 : gTh RX11 iAE "more than 3000 bytes" 70 80 74 := ⟨⟨by decide +kernel, by decide, by decide⟩, ⟨W0_in (tp_5 (List.mem_of_getElem? (i := 49) (by decide +kernel))) rfl, W0_in (tp_1 (List.mem_of_getElem? (i := 14) (by decide +kernel))) rfl, fun w hw => W0_in (ktx_X11_74 w hw) (List.mem_filter.mp hw).2⟩, by decide +kernel, by decide +kernel⟩
theorem ktx_X11_131 : ∀ w ∈ (vx_atS RX11 131 iOE up2).filter goodWord, w ∈ lw_tbl := by decide +kernel
theorem kth_X11_127_129 : gTh RX11 iOE "no such what" 127 129 131 := ⟨⟨by decide +kernel, by decide, by decide⟩, ⟨W0_in (tp_5 (List.mem_of_getElem? (i := 78) (by decide +kernel))) rfl, W0_in (tp_1 (List.mem_of_getElem? (i := 22) (by decide +kernel))) rfl, fun w hw => W0_in (ktx_X11_131 w hw) (List.mem_filter.mp hw).2⟩, by decide +kernel, by decide +kernel⟩
theorem ktx_X11_191 : ∀ w ∈ (vx_atS RX11 191 iSE up2).filter goodWord, w ∈ lw_tbl := by decide +kernel
theorem kth_X11_102_189 : gTh RX11 iSE "400 choices were done" 102 189 191 := ⟨⟨by decide +kernel, by decide, by decide⟩, ⟨W0_in (tp_3 (List.mem_of_getElem? (i := 104) (by decide +kernel))) rfl, W0_in (tp_1 (List.mem_of_getElem? (i := 20) (by decide +kernel))) rfl, fun w hw => W0_in (ktx_X11_191 w hw) (List.mem_filter.mp hw).2⟩, by decide +kernel, by decide +kernel⟩
theorem kth_X11_70_195 : gTh RX11 iAE "n is not 0 .. 400" 70 195 74 := ⟨⟨by decide +kernel, by decide, by decide⟩, ⟨W0_in (tp_5 (List.mem_of_getElem? (i := 49) (by decide +kernel))) rfl, W0_in (tp_1 (List.mem_of_getElem? (i := 14) (by decide +kernel))) rfl, fun w hw => W0_in (ktx_X11_74 w hw) (List.mem_filter.mp hw).2⟩, by decide +kernel, by decide +kernel⟩
theorem kth_X11_70_198 : gTh RX11 iAE "n is not 0 .. how many were done" 70 198 74 := ⟨⟨by decide +kernel, by decide, by decide⟩, ⟨W0_in (tp_5 (List.mem_of_getElem? (i := 49) (by decide +kernel))) rfl, W0_in (tp_1 (List.mem_of_getElem? (i := 14) (by decide +kernel))) rfl, fun w hw => W0_in (ktx_X11_74 w hw) (List.mem_filter.mp hw).2⟩, by decide +kernel, by decide +kernel⟩
theorem kth_X11_70_276 : gTh RX11 iAE "no such structure" 70 276 74 := ⟨⟨by decide +kernel, by decide, by decide⟩, ⟨W0_in (tp_5 (List.mem_of_getElem? (i := 49) (by decide +kernel))) rfl, W0_in (tp_1 (List.mem_of_getElem? (i := 14) (by decide +kernel))) rfl, fun w hw => W0_in (ktx_X11_74 w hw) (List.mem_filter.mp hw).2⟩, by decide +kernel, by decide +kernel⟩
theorem kth_X11_70_292 : gTh RX11 iAE "limit is not 1 .. 3000" 70 292 74 := ⟨⟨by decide +kernel, by decide, by decide⟩, ⟨W0_in (tp_5 (List.mem_of_getElem? (i := 49) (by decide +kernel))) rfl, W0_in (tp_1 (List.mem_of_getElem? (i := 14) (by decide +kernel))) rfl, fun w hw => W0_in (ktx_X11_74 w hw) (List.mem_filter.mp hw).2⟩, by decide +kernel, by decide +kernel⟩
theorem kth_X11_102_340 : gTh RX11 iSE "no such finding" 102 340 191 := ⟨⟨by decide +kernel, by decide, by decide⟩, ⟨W0_in (tp_3 (List.mem_of_getElem? (i := 104) (by decide +kernel))) rfl, W0_in (tp_1 (List.mem_of_getElem? (i := 20) (by decide +kernel))) rfl, fun w hw => W0_in (ktx_X11_191 w hw) (List.mem_filter.mp hw).2⟩, by decide +kernel, by decide +kernel⟩
theorem kth_X11_102_342 : gTh RX11 iSE "more than 400 choices lead to it" 102 342 191 := ⟨⟨by decide +kernel, by decide, by decide⟩, ⟨W0_in (tp_3 (List.mem_of_getElem? (i := 104) (by decide +kernel))) rfl, W0_in (tp_1 (List.mem_of_getElem? (i := 20) (by decide +kernel))) rfl, fun w hw => W0_in (ktx_X11_191 w hw) (List.mem_filter.mp hw).2⟩, by decide +kernel, by decide +kernel⟩
theorem kth_X11_102_384 : gTh RX11 iSE "nothing is compiled" 102 384 191 := ⟨⟨by decide +kernel, by decide, by decide⟩, ⟨W0_in (tp_3 (List.mem_of_getElem? (i := 104) (by decide +kernel))) rfl, W0_in (tp_1 (List.mem_of_getElem? (i := 20) (by decide +kernel))) rfl, fun w hw => W0_in (ktx_X11_191 w hw) (List.mem_filter.mp hw).2⟩, by decide +kernel, by decide +kernel⟩
theorem kth_X11_102_386 : gTh RX11 iSE "there is no run" 102 386 191 := ⟨⟨by decide +kernel, by decide, by decide⟩, ⟨W0_in (tp_3 (List.mem_of_getElem? (i := 104) (by decide +kernel))) rfl, W0_in (tp_1 (List.mem_of_getElem? (i := 20) (by decide +kernel))) rfl, fun w hw => W0_in (ktx_X11_191 w hw) (List.mem_filter.mp hw).2⟩, by decide +kernel, by decide +kernel⟩
theorem kth_X11_70_388 : gTh RX11 iAE "no such way" 70 388 74 := ⟨⟨by decide +kernel, by decide, by decide⟩, ⟨W0_in (tp_5 (List.mem_of_getElem? (i := 49) (by decide +kernel))) rfl, W0_in (tp_1 (List.mem_of_getElem? (i := 14) (by decide +kernel))) rfl, fun w hw => W0_in (ktx_X11_74 w hw) (List.mem_filter.mp hw).2⟩, by decide +kernel, by decide +kernel⟩
theorem kth_X11_70_340 : gTh RX11 iAE "no such finding" 70 340 74 := ⟨⟨by decide +kernel, by decide, by decide⟩, ⟨W0_in (tp_5 (List.mem_of_getElem? (i := 49) (by decide +kernel))) rfl, W0_in (tp_1 (List.mem_of_getElem? (i := 14) (by decide +kernel))) rfl, fun w hw => W0_in (ktx_X11_74 w hw) (List.mem_filter.mp hw).2⟩, by decide +kernel, by decide +kernel⟩
theorem kth_X11_127_390 : gTh RX11 iOE "there is none such" 127 390 131 := ⟨⟨by decide +kernel, by decide, by decide⟩, ⟨W0_in (tp_5 (List.mem_of_getElem? (i := 78) (by decide +kernel))) rfl, W0_in (tp_1 (List.mem_of_getElem? (i := 22) (by decide +kernel))) rfl, fun w hw => W0_in (ktx_X11_131 w hw) (List.mem_filter.mp hw).2⟩, by decide +kernel, by decide +kernel⟩
section KRJ
variable {E : gE} {d : Nat} {lv : List (Nat × gv)} {st : List gv} {x : gd} {f : gf} {Q : gr → gd → gf → Prop}
theorem tj_fill (c n : Nat) (v : Int32) (hK : E.2.2.2.1 c = .inr (.int, n)) (hc : c ∈ f.2.1) (hn : n < 100000) (h : Q (.inl none) (sfl x c v n) f) : T E d zj_fill 0 [(0, vr c), (1, vi v)] [] x f Q := by
  refine T_iconst (v := 0) (dk dtj_fill 0 rfl) (by decide +kernel) ?_
  refine T_istore_n (lv2 := [(2, vi 0), (0, vr c), (1, vi v)]) (dk dtj_fill 1 rfl) rfl (by decide) rfl ?_
  refine T_aload_n 1 (dk dtj_fill 2 rfl) rfl rfl ?_
  refine T_alen c n 0 (v := Int32.ofNat n) (dk dtj_fill 3 rfl) hK hc rfl rfl ?_
  refine T_istore_n (lv2 := [(3, vi (Int32.ofNat n)), (2, vi 0), (0, vr c), (1, vi v)]) (dk dtj_fill 4 rfl) rfl (by decide) rfl ?_
  have en : (Int32.ofNat n).toInt = n := Int32.toInt_ofNat_of_lt (by omega)
  have k1 : (1 : Int32).toInt = 1 := rfl
  have loop : ∀ (m k : Nat) (i : Int32), i.toInt = k → k ≤ n → n - k ≤ m → T E d zj_fill 5 [(3, vi (Int32.ofNat n)), (2, vi i), (0, vr c), (1, vi v)] [] (sfl x c v k) f Q := by
    have last : ∀ (k : Nat) (i : Int32), i.toInt = k → k = n → T E d zj_fill 5 [(3, vi (Int32.ofNat n)), (2, vi i), (0, vr c), (1, vi v)] [] (sfl x c v k) f Q := by
      intro k i ei ek
      refine T_iload_n 1 (dk dtj_fill 5 rfl) rfl rfl ?_
      refine T_iload_n 0 (dk dtj_fill 6 rfl) rfl rfl ?_
      refine T_icmp_ge 20 (dk dtj_fill 7 rfl) (by decide) (fun _ => ?_) (fun q => absurd (t_le.mpr (by omega)) q)
      rw [ek]
      exact T_vret (dk dtj_fill 14 rfl) rfl h
    intro m
    induction m with
    | zero => intro k i ei h1 h2; exact last k i ei (by omega)
    | succ m ih =>
      intro k i ei h1 h2
      by_cases e : k = n
      · exact last k i ei e
      · have ii : (i + 1).toInt = i.toInt + 1 := by rw [t_add (by omega) (by omega), k1]
        have ci : i.toNatClampNeg = k := by rw [t_cl]; omega
        refine T_iload_n 1 (dk dtj_fill 5 rfl) rfl rfl ?_
        refine T_iload_n 0 (dk dtj_fill 6 rfl) rfl rfl ?_
        refine T_icmp_ge 20 (dk dtj_fill 7 rfl) (by decide) (fun q => ?_) (fun _ => ?_)
        · rw [t_le] at q; omega
        refine T_aload_n 2 (dk dtj_fill 8 rfl) rfl rfl ?_
        refine T_iload_n 1 (dk dtj_fill 9 rfl) rfl rfl ?_
        refine T_iload_n 3 (dk dtj_fill 10 rfl) rfl rfl ?_
        refine T_iast c n (dk dtj_fill 11 rfl) hK hc (by rw [vp_in_iff]; omega) ?_
        rw [ci, sfl_s]
        refine T_iinc (v := i + 1) (lv2 := [(2, vi (i + 1)), (3, vi (Int32.ofNat n)), (0, vr c), (1, vi v)]) 1 (dk dtj_fill 12 rfl) rfl rfl (by decide) rfl ?_
        refine T_goto 5 (dk dtj_fill 13 rfl) (by decide) ?_
        exact T_sub [1, 0, 2, 3] rfl (ih (k + 1) (i + 1) (by omega) (by omega) (by omega))
  have := loop n 0 0 rfl (Nat.zero_le _) (by omega)
  rw [sfl_0] at this
  exact this
theorem tj_bits (a : Int32) (h : ∀ r : Int32, Q (.inl (some (vi r))) x f) : T E d zj_bitCount 0 [(0, vi a)] [] x f Q := by
  refine T_iload_n 0 (dk dtj_bitCount 0 rfl) rfl rfl ?_
  refine T_iload_n 0 (dk dtj_bitCount 1 rfl) rfl rfl ?_
  refine T_iconst (v := 1) (dk dtj_bitCount 2 rfl) (by decide +kernel) ?_
  refine T_iushr (dk dtj_bitCount 3 rfl) ?_
  refine T_ldcw (v := 1431655765) (dk dtj_bitCount 4 rfl) kkj_265 ?_
  refine T_iand (dk dtj_bitCount 5 rfl) ?_
  refine T_isub (dk dtj_bitCount 6 rfl) ?_
  refine T_istore_n (dk dtj_bitCount 7 rfl) rfl (by decide) rfl ?_
  refine T_iload_n 0 (dk dtj_bitCount 8 rfl) rfl rfl ?_
  refine T_ldcw (v := 858993459) (dk dtj_bitCount 9 rfl) kkj_266 ?_
  refine T_iand (dk dtj_bitCount 10 rfl) ?_
  refine T_iload_n 0 (dk dtj_bitCount 11 rfl) rfl rfl ?_
  refine T_iconst (v := 2) (dk dtj_bitCount 12 rfl) (by decide +kernel) ?_
  refine T_iushr (dk dtj_bitCount 13 rfl) ?_
  refine T_ldcw (v := 858993459) (dk dtj_bitCount 14 rfl) kkj_266 ?_
  refine T_iand (dk dtj_bitCount 15 rfl) ?_
  refine T_iadd (dk dtj_bitCount 16 rfl) ?_
  refine T_istore_n (dk dtj_bitCount 17 rfl) rfl (by decide) rfl ?_
  refine T_iload_n 0 (dk dtj_bitCount 18 rfl) rfl rfl ?_
  refine T_iload_n 0 (dk dtj_bitCount 19 rfl) rfl rfl ?_
  refine T_iconst (v := 4) (dk dtj_bitCount 20 rfl) (by decide +kernel) ?_
  refine T_iushr (dk dtj_bitCount 21 rfl) ?_
  refine T_iadd (dk dtj_bitCount 22 rfl) ?_
  refine T_ldcw (v := 252645135) (dk dtj_bitCount 23 rfl) kkj_267 ?_
  refine T_iand (dk dtj_bitCount 24 rfl) ?_
  refine T_istore_n (dk dtj_bitCount 25 rfl) rfl (by decide) rfl ?_
  refine T_iload_n 0 (dk dtj_bitCount 26 rfl) rfl rfl ?_
  refine T_iload_n 0 (dk dtj_bitCount 27 rfl) rfl rfl ?_
  refine T_bipush (v := 8) (dk dtj_bitCount 28 rfl) (by decide +kernel) ?_
  refine T_iushr (dk dtj_bitCount 29 rfl) ?_
  refine T_iadd (dk dtj_bitCount 30 rfl) ?_
  refine T_istore_n (dk dtj_bitCount 31 rfl) rfl (by decide) rfl ?_
  refine T_iload_n 0 (dk dtj_bitCount 32 rfl) rfl rfl ?_
  refine T_iload_n 0 (dk dtj_bitCount 33 rfl) rfl rfl ?_
  refine T_bipush (v := 16) (dk dtj_bitCount 34 rfl) (by decide +kernel) ?_
  refine T_iushr (dk dtj_bitCount 35 rfl) ?_
  refine T_iadd (dk dtj_bitCount 36 rfl) ?_
  refine T_istore_n (dk dtj_bitCount 37 rfl) rfl (by decide) rfl ?_
  refine T_iload_n 0 (dk dtj_bitCount 38 rfl) rfl rfl ?_
  refine T_bipush (v := 63) (dk dtj_bitCount 39 rfl) (by decide +kernel) ?_
  refine T_iand (dk dtj_bitCount 40 rfl) ?_
  exact T_iret (dk dtj_bitCount 41 rfl) rfl rfl (h _)
end KRJ
