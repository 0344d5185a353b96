section
/-! rows of the class: references that may be none, throws, the JDK's fill, max, bitCount, arraycopy -/
abbrev vo (r : Option Nat) : gv := .inr (.inr r)
theorem gcv_vo (ad : Nat → Nat) (r : Option Nat) : gcv ad (vo r) = va_rf (r.map ad) := by cases r <;> rfl
section KRA
variable {E : gE} {d : Nat} {y : gy} {pc : Nat} {lv lv2 : List (Nat × gv)} {st : List gv} {x : gd} {f : gf} {Q : gr → gd → gf → Prop}
theorem T_getO (c k : Nat) {ci N idx : Nat} {sl : List Bool} {ty : FieldType} {fin : Bool} (hd : decode y.2.1 pc = .ok (.getfield idx, 3)) (hf : gFl y.1.cls idx ci k ty fin N) (hK : E.2.2.2.1 c = .inl (ci, sl)) (hc : c ∈ f.2.1) (hk : k < sl.length) (hs : sl.getD k false = true)
    (k9 : T E d y (pc + 3) lv (vo (f.1 c k) :: st) x f Q) : T E d y pc lv (vr c :: st) x f Q :=
  T_step (fun p e R s m args below meth c0 A H locs cells slots ls ad Q9 C hP hS hl kk => by
    obtain ⟨C0, U, h1, h2, h3, h4, -⟩ := hf
    obtain ⟨i, -, hi⟩ := gwl_at (E := E) (x := x) (ad := ad) hc
    rw [gce_obj hK] at hi
    have hv : (gfl x f ad c sl)[k]? = some (gcv ad (vo (f.1 c k))) := by rw [gfl_ref hk hs, gcv_vo]
    exact va_get (C := C0) (T := U) (N := N) C.1.1 C.1.2.1 C.1.2.2.2.2 h2 C.1.2.2.2.1 C.2.2.2.1.1 hP.1.1 i hi h1 k h3 (C.1.2.2.2.2 _ h4) (fun _ h => h) hv hd (kk ls hl)) k9
theorem T_aaldT (c n : Nat) {i : Int32} (hd : decode y.2.1 pc = .ok (.aaload, 1)) (hK : E.2.2.2.1 c = .inr (.object "ScheduleHouse$Trial", n)) (hc : c ∈ f.2.1) (hin : vp_in i n) (k9 : T E d y (pc + 1) lv (vo (f.1 c i.toNatClampNeg) :: st) x f Q) : T E d y pc lv (vi i :: vr c :: st) x f Q :=
  T_step (fun p e R s m args below meth c0 A H locs cells slots ls ad Q9 C hP hS hl kk => by
    obtain ⟨q, -, hi⟩ := gwl_at (E := E) (x := x) (ad := ad) hc
    rw [gce_arr hK] at hi
    refine va_aldq C.1.1 C.1.2.1 C.2.2.2.1.1 hP.1.1 q 4 hi rfl hin hd ?_
    have := kk ls hl
    rw [List.map_cons, gcv_vo] at this
    exact this) k9
theorem T_aaldI (c n : Nat) {i : Int32} (hd : decode y.2.1 pc = .ok (.aaload, 1)) (hK : E.2.2.2.1 c = .inr (.array .int, n)) (hc : c ∈ f.2.1) (hin : vp_in i n) (k9 : T E d y (pc + 1) lv (vo (f.1 c i.toNatClampNeg) :: st) x f Q) : T E d y pc lv (vi i :: vr c :: st) x f Q :=
  T_step (fun p e R s m args below meth c0 A H locs cells slots ls ad Q9 C hP hS hl kk => by
    obtain ⟨q, -, hi⟩ := gwl_at (E := E) (x := x) (ad := ad) hc
    rw [gce_arr hK] at hi
    have := kk ls hl
    rw [List.map_cons, gcv_vo] at this
    have hlt : i.toNatClampNeg < n := Nat.not_le.mp fun q => hin (Or.inr q)
    have ht : (gtys E)[5]? = some (E.2.2.1 (.array .int), .array .int) := rfl
    exact W.aald (v := va_rf ((f.1 c i.toNatClampNeg).map ad)) (ty := .array .int) C.1.1 C.1.2.1 (hP.1.1 q _ hi) ((C.2.2.2.1.1.2 5 _ ht).1 n (fun j => va_rf ((f.1 c j).map ad))) rfl (fun q => by cases q) (by show ¬ (i < 0 ∨ (arrV _ _ _).slots.size ≤ _); rw [arrV_size]; exact hin) (by show (arrV _ _ _).slots[_]? = _; rw [arrV_read _ _ hlt]) rfl rfl hd this) k9
theorem T_ifnull {r : Option Nat} {off : Int} (tgt : Nat) (hd : decode y.2.1 pc = .ok (.ifnull off, 3)) (ht : (pc : Int) + off = (tgt : Int)) (k0 : r = none → T E d y tgt lv st x f Q) (k1 : ∀ c, r = some c → T E d y (pc + 3) lv st x f Q) : T E d y pc lv (vo r :: st) x f Q := by
  cases r with
  | none => exact T_step (fun p e R s m args below meth c A H locs cells slots ls ad Q9 C hP hS hl kk => lv_ifnullN C.1.1 C.1.2.1 hd ht (kk ls hl)) (k0 rfl)
  | some c => exact T_step (fun p e R s m args below meth c A H locs cells slots ls ad Q9 C hP hS hl kk => lv_ifnull C.1.1 C.1.2.1 hd (kk ls hl)) (k1 c rfl)
theorem T_ifnonnull {r : Option Nat} {off : Int} (tgt : Nat) (hd : decode y.2.1 pc = .ok (.ifnonnull off, 3)) (ht : (pc : Int) + off = (tgt : Int)) (k1 : ∀ c, r = some c → T E d y tgt lv st x f Q) (k0 : r = none → T E d y (pc + 3) lv st x f Q) : T E d y pc lv (vo r :: st) x f Q := by
  cases r with
  | none => exact T_step (fun p e R s m args below meth c A H locs cells slots ls ad Q9 C hP hS hl kk => lv_ifnonnullN C.1.1 C.1.2.1 hd (kk ls hl)) (k0 rfl)
  | some c => exact T_step (fun p e R s m args below meth c A H locs cells slots ls ad Q9 C hP hS hl kk => lv_ifnonnull C.1.1 C.1.2.1 hd ht (kk ls hl)) (k1 c rfl)
theorem ev_w {U : State} {args : Array Value} (h : ev U) (w : Cond) (hm : w ∈ ev_tab) (ho : w.onTables = true) : w.before args U = true := va_tabs ho rfl (h.2.1 w hm)
abbrev ev_B (E : String) : List Cond := [.castable E E, .declares (Bundle.initS "java/lang/RuntimeException"), .declares (Bundle.initS "java/lang/Exception"), .declares (Bundle.initS "java/lang/Throwable")]
theorem ev_b {U : State} {args : Array Value} (h : ev U) (E : String) (hm : Cond.castable E E ∈ ev_tab) : ∀ w ∈ ev_B E, w.before args U = true :=
  vx_c (ev_w h _ hm rfl) (vx_c (ev_w h _ (by decide) rfl) (vx_c (ev_w h _ (by decide) rfl) (vx_c (ev_w h _ (by decide) rfl) vx_n)))
/-- one cell, six slots more -/
def gth (f : gf) : gf := (f.1, f.2.1, f.2.2.1 + 1, f.2.2.2 + 6)
/-- what the tables say of a throw -/
def gTh (own cls text : String) (ik is ic : Nat) : Prop := (Bundle.fit cls = true ∧ Cond.castable cls cls ∈ ev_tab ∧ (own, is, text) ∈ ev_txt) ∧ (Cond.classLink own ik cls ∈ W0 ∧ Cond.initialized cls ∈ W0 ∧ ∀ w ∈ (vx_atS own ic cls up2).filter goodWord, w ∈ W0) ∧ (∀ w ∈ (vx_atS own ic cls up2).filter (fun w => !goodWord w), w ∈ ev_B cls) ∧ ∀ w ∈ Cond.classLink own ik cls :: Cond.initialized cls :: vx_atS own ic cls up2, vx_ot w = true
theorem T_thr {cls text : String} {ik is ic : Nat} (hM : gTh y.1.cls cls text ik is ic) (d0 : decode y.2.1 pc = .ok (.new ik, 3)) (d3 : decode y.2.1 (pc + 3) = .ok (.dup, 1)) (d4 : decode y.2.1 (pc + 4) = .ok (.ldc is, 2)) (d6 : decode y.2.1 (pc + 6) = .ok (.invokespecial ic, 3)) (d9 : decode y.2.1 (pc + 9) = .ok (.athrow, 1)) (hno : ∀ z ∈ tableOf y.2.2.2.2, covers z (pc + 9) = false) (hd : 6 ≤ d) (hcat : gsz st ≤ 8) (hQ : Q (.inr cls) x (gth f)) : T E d y pc lv st x f Q := by
  refine ⟨.inr cls, x, gth f, hQ, ⟨fun _ h => h, Nat.le_succ _, Nat.le_add_right _ _⟩, ?_⟩
  intro p e R s m args below meth c A H locs cells slots ls ad C hP hS hl hc hs
  obtain ⟨⟨q1, q2, q3⟩, ⟨q4, q5, q6⟩, q7, q8⟩ := hM
  obtain ⟨sa, hsa⟩ := C.2.2.2.1.2.1.1 _ q3
  have e1 : (gth f).2.2.1 - f.2.2.1 = 1 := by show f.2.2.1 + 1 - f.2.2.1 = 1; omega
  have e2 : (gth f).2.2.2 - f.2.2.2 = 6 := by show f.2.2.2 + 6 - f.2.2.2 = 6; omega
  rw [e1] at hc ⊢
  rw [e2] at hs ⊢
  have hR := C.2.2.1
  have hcs : ((st.map (gcv ad)).map fun v => v.category).sum = gsz st := gsz_c ad st
  refine vx_throwS C.1.1 C.1.2.1 C.2.2.2.1.2.2.2 (own := y.1.cls) (cls := cls) (text := text) (names := up2) (ik := ik) (is := is) (ic := ic) (sa := sa) (A := A) C.1.2.2.2.1 q1 (by decide +kernel) (C.1.2.2.2.2 _ q4) (C.1.2.2.2.2 _ q5) hsa (vx_hat (B := ev_B cls) (fun w hw => C.1.2.2.2.2 w (q6 w hw)) q7 (ev_b C.2.2.2.1.2.1 cls q2)) q8 C.2.2.2.1.2.2.1.1.1 C.2.2.2.1.2.2.1.1.2 hS (by rw [C.1.2.2.1]; exact hl.1) d0 d3 d4 d6 d9 (fun z hz => hno z (by rw [← C.2.1.2.2.1]; exact hz)) (by show 2 + 3 < _; omega) (by rw [hcs]; show gsz st + (13 * (2 + 1) + 43) ≤ _; omega) hc hs C.2.1.2.1 (fun t _ hz hk => ?_) hS.2.2 (Nat.le_refl _) (Nat.le_refl _)
  refine ⟨ad, gex_rf f ad, rfl, ?_, Nat.le_trans hS.1 hz, fun q h1 h2 => (hk q (Nat.lt_of_lt_of_le h1 hS.1)).trans (hS.2.1 q h1 h2)⟩
  exact ⟨⟨hP.1.1.kept (fun k z hz => hk z.1 ((hP.1.1 k z hz).lt)), hP.1.2⟩, hP.2⟩
theorem T_thrW {cls text : String} {ik is ic : Nat} (hM : gTh y.1.cls cls text ik is ic) (d0 : decode y.2.1 pc = .ok (.new ik, 3)) (d3 : decode y.2.1 (pc + 3) = .ok (.dup, 1)) (d4 : decode y.2.1 (pc + 4) = .ok (.ldc_w is, 3)) (d6 : decode y.2.1 (pc + 7) = .ok (.invokespecial ic, 3)) (d9 : decode y.2.1 (pc + 10) = .ok (.athrow, 1)) (hno : ∀ z ∈ tableOf y.2.2.2.2, covers z (pc + 10) = false) (hd : 6 ≤ d) (hcat : gsz st ≤ 8) (hQ : Q (.inr cls) x (gth f)) : T E d y pc lv st x f Q := by
  refine ⟨.inr cls, x, gth f, hQ, ⟨fun _ h => h, Nat.le_succ _, Nat.le_add_right _ _⟩, ?_⟩
  intro p e R s m args below meth c A H locs cells slots ls ad C hP hS hl hc hs
  obtain ⟨⟨q1, q2, q3⟩, ⟨q4, q5, q6⟩, q7, q8⟩ := hM
  obtain ⟨sa, hsa⟩ := C.2.2.2.1.2.1.1 _ q3
  have e1 : (gth f).2.2.1 - f.2.2.1 = 1 := by show f.2.2.1 + 1 - f.2.2.1 = 1; omega
  have e2 : (gth f).2.2.2 - f.2.2.2 = 6 := by show f.2.2.2 + 6 - f.2.2.2 = 6; omega
  rw [e1] at hc ⊢
  rw [e2] at hs ⊢
  have hR := C.2.2.1
  have hcs : ((st.map (gcv ad)).map fun v => v.category).sum = gsz st := gsz_c ad st
  refine vx_throwSW C.1.1 C.1.2.1 C.2.2.2.1.2.2.2 (own := y.1.cls) (cls := cls) (text := text) (names := up2) (ik := ik) (is := is) (ic := ic) (sa := sa) (A := A) C.1.2.2.2.1 q1 (by decide +kernel) (C.1.2.2.2.2 _ q4) (C.1.2.2.2.2 _ q5) hsa (vx_hat (B := ev_B cls) (fun w hw => C.1.2.2.2.2 w (q6 w hw)) q7 (ev_b C.2.2.2.1.2.1 cls q2)) q8 C.2.2.2.1.2.2.1.1.1 C.2.2.2.1.2.2.1.1.2 hS (by rw [C.1.2.2.1]; exact hl.1) d0 d3 d4 d6 d9 (fun z hz => hno z (by rw [← C.2.1.2.2.1]; exact hz)) (by show 2 + 3 < _; omega) (by rw [hcs]; show gsz st + (13 * (2 + 1) + 43) ≤ _; omega) hc hs C.2.1.2.1 (fun t _ hz hk => ?_) hS.2.2 (Nat.le_refl _) (Nat.le_refl _)
  refine ⟨ad, gex_rf f ad, rfl, ?_, Nat.le_trans hS.1 hz, fun q h1 h2 => (hk q (Nat.lt_of_lt_of_le h1 hS.1)).trans (hS.2.1 q h1 h2)⟩
  exact ⟨⟨hP.1.1.kept (fun k z hz => hk z.1 ((hP.1.1 k z hz).lt)), hP.1.2⟩, hP.2⟩
theorem T_max {a b : Int32} {idx : Nat} {rest : List gv} (hd : decode y.2.1 pc = .ok (.invokestatic idx, 3)) (hw : Cond.methodLink y.1.cls idx Lib.Math.max.name ∈ W0 ∧ Cond.static Lib.Math.max.name ∈ W0 ∧ Cond.initialized "java/lang/Math" ∈ W0 ∧ Cond.code Lib.Math.max.name Lib.Math.max.code 2 (some .int) ∈ W0) (hd1 : 1 ≤ d) (hcat : gsz rest ≤ 8)
    (k : ∀ r : Int32, (r.toInt = a.toInt ∨ r.toInt = b.toInt) → a.toInt ≤ r.toInt → b.toInt ≤ r.toInt → T E d y (pc + 3) lv (vi r :: rest) x f Q) : T E d y pc lv (vi b :: vi a :: rest) x f Q := by
  have k1 : T E d y (pc + 3) lv (vi (if a < b then b else a) :: rest) x f Q := by
    by_cases h : a < b
    · rw [if_pos h]
      have h' := Int32.lt_iff_toInt_lt.mp h
      exact k b (Or.inr rfl) (by omega) (Int.le_refl _)
    · rw [if_neg h]
      have h' : ¬ a.toInt < b.toInt := fun q => h (Int32.lt_iff_toInt_lt.mpr q)
      exact k a (Or.inl rfl) (Int.le_refl _) (by omega)
  obtain ⟨o, x', f', h1, h2, h3⟩ := k1
  refine ⟨o, x', f', h1, h2, ?_⟩
  intro p e R s m args below meth c A H locs cells slots ls ad C hP hS hl hc hs
  have hR := C.2.2.1
  have hcs : ((rest.map (gcv ad)).map fun v => v.category).sum = gsz rest := gsz_c ad rest
  exact va_mmax C.1.1 C.1.2.1 (by rw [C.1.2.2.1]; exact hl.1.symm) C.1.2.2.2.1 (C.1.2.2.2.2 _ hw.1) (C.1.2.2.2.2 _ hw.2.1) (C.1.2.2.2.2 _ hw.2.2.1) (C.1.2.2.2.2 _ hw.2.2.2) (by omega) (by rw [hcs]; omega) (by omega) (by omega) hd (h3 p e R s m args below meth c A H locs cells slots ls ad C hP hS hl hc hs)
/-- arraycopy of ints -/
def scp (x : gd) (a b sp dp n : Nat) : gd := (fun c => if c = b then va_cpy (x.1 a) (x.1 b) sp dp n else x.1 c, x.2)
theorem gce_scp {ad : Nat → Nat} {a b sp dp n c' : Nat} (h : c' ≠ b) : gce E (scp x a b sp dp n) f ad c' = gce E x f ad c' := by
  have e : (scp x a b sp dp n).1 c' = x.1 c' := by show (if c' = b then _ else _) = _; rw [if_neg h]
  have e2 : (scp x a b sp dp n).2 = x.2 := rfl
  unfold gce gfl gar
  rw [e, e2]
theorem T_copy (a b na nb : Nat) {idx : Nat} {sp dp n : Int32} (hd : decode y.2.1 pc = .ok (.invokestatic idx, 3)) (hw : Cond.methodLink y.1.cls idx arraycopyName ∈ W0 ∧ Cond.native arraycopyName ∈ W0 ∧ Cond.static arraycopyName ∈ W0 ∧ Cond.initialized "java/lang/System" ∈ W0) (hKa : E.2.2.2.1 a = .inr (.int, na)) (hca : a ∈ f.2.1) (hKb : E.2.2.2.1 b = .inr (.int, nb)) (hcb : b ∈ f.2.1) (hd1 : 2 ≤ d) (hcat : gsz st ≤ 8)
    (h1 : ¬ sp < 0) (h2 : ¬ dp < 0) (h3 : ¬ n < 0) (h4 : sp.toNatClampNeg + n.toNatClampNeg ≤ na) (h5 : dp.toNatClampNeg + n.toNatClampNeg ≤ nb)
    (k9 : T E d y (pc + 3) lv st (scp x a b sp.toNatClampNeg dp.toNatClampNeg n.toNatClampNeg) f Q) : T E d y pc lv (vi n :: vi dp :: vr b :: vi sp :: vr a :: st) x f Q :=
  T_stepX (fun p e R s m args below meth c0 A H locs cells slots ls ad Q9 C hP hS hl kk => by
    obtain ⟨qa, -, hia⟩ := gwl_at (E := E) (x := x) (ad := ad) hca
    rw [gce_arr hKa] at hia
    obtain ⟨qb, hi0, hib⟩ := gwl_at (E := E) (x := x) (ad := ad) hcb
    rw [gce_arr hKb] at hib
    have ht : (gtys E)[0]? = some (E.2.2.1 .int, .int) := rfl
    have he : (gwl E x f ad).set qb (ad b, .inl (E.2.2.1 .int, nb, .inl (va_cpy (x.1 a) (x.1 b) sp.toNatClampNeg dp.toNatClampNeg n.toNatClampNeg))) = gwl E (scp x a b sp.toNatClampNeg dp.toNatClampNeg n.toNatClampNeg) f ad := by
      have e9 : gce E (scp x a b sp.toNatClampNeg dp.toNatClampNeg n.toNatClampNeg) f ad b = .inl (E.2.2.1 .int, nb, .inl (va_cpy (x.1 a) (x.1 b) sp.toNatClampNeg dp.toNatClampNeg n.toNatClampNeg)) := by
        rw [gce_arr hKb]
        show Sum.inl (_, _, Sum.inl ((scp x a b sp.toNatClampNeg dp.toNatClampNeg n.toNatClampNeg).1 b)) = _
        show Sum.inl (_, _, Sum.inl (if b = b then _ else _)) = _
        rw [if_pos rfl]
      rw [← e9]
      exact gwl_set (G := fun c' => (ad c', gce E (scp x a b sp.toNatClampNeg dp.toNatClampNeg n.toNatClampNeg) f ad c')) hi0 (gwl_one hP.1.2 hi0) (fun c' hne => by rw [gce_scp hne])
    have hR := C.2.2.1
    have hcs : ((st.map (gcv ad)).map fun v => v.category).sum = gsz st := gsz_c ad st
    have hnw : nativeFrameWords "java/lang/System" "arraycopy" 5 + 11 ≤ 60 := by decide +kernel
    refine va_copyi C.1.1 C.1.2.1 (by rw [C.1.2.2.1]; exact hl.1.symm) C.1.2.2.2.1 (C.1.2.2.2.2 _ hw.1) (C.1.2.2.2.2 _ hw.2.1) (C.1.2.2.2.2 _ hw.2.2.1) (C.1.2.2.2.2 _ hw.2.2.2) C.2.2.2.1.1 hP.1.1 hP.1.2 hS qa qb 0 0 hia hib ht ht rfl h1 h2 h3 h4 h5 (fun _ _ => rfl) (by omega) (by rw [hcs]; omega) hd (fun H2 locs2 hP2 hD2 hS2 => kk H2 locs2 ⟨⟨?_, ?_⟩, hP.2⟩ hS2)
    · rw [← he]; exact hP2
    · rw [← he]; exact hD2) k9
end KRA
/-- references that live -/
theorem gkr {L : List Nat} {c : Nat} (h : c ∈ L) : gokv L (vr c) = true := by
  show (L.elem c || decide (900 ≤ c ∧ c < 905)) = true
  rw [List.elem_iff.mpr h, Bool.true_or]
theorem av_n {L : List Nat} : ([] : List (Nat × gv)).all (fun q => gokv L q.2) = true := rfl
theorem av_c {L : List Nat} {k : Nat} {v : gv} {lv : List (Nat × gv)} (h : gokv L v = true) (t : lv.all (fun q => gokv L q.2) = true) : ((k, v) :: lv).all (fun q => gokv L q.2) = true := by
  rw [List.all_cons, t, h]; rfl
theorem as_n {L : List Nat} : ([] : List gv).all (gokv L) = true := rfl
theorem as_c {L : List Nat} {v : gv} {st : List gv} (h : gokv L v = true) (t : st.all (gokv L) = true) : (v :: st).all (gokv L) = true := by
  rw [List.all_cons, t, h]; rfl
theorem gok_i {L : List Nat} {lv : List (Nat × gv)} {st : List gv} (h : lv.all (fun q => gokv L q.2) = true) (t : st.all (gokv L) = true) : gok L lv st = true := by
  unfold gok
  rw [h, t]; rfl
/-- may throw: an end with an answer leaves the shape; an exception makes one cell more -/
def keq (q : kP) (P : Option gv → gd → Prop) (X : String → gd → Prop) : gr → gd → gf → Prop := fun o x f => (f = kf q ∧ ∃ v, o = .inl v ∧ P v x) ∨ (f = gth (kf q) ∧ ∃ c, o = .inr c ∧ X c x)
abbrev KE (G : kG) (q : kP) (d : Nat) (y : gy) (pc : Nat) (lv : List (Nat × gv)) (st : List gv) (x : gd) (P : Option gv → gd → Prop) (X : String → gd → Prop) : Prop := T (kE G) d y pc lv st x (kf q) (keq q P X)
section KRW
variable {G : kG} {q : kP} {d : Nat} {y z : gy} {pc : Nat} {lv : List (Nat × gv)} {st : List gv} {x : gd} {P P' : Option gv → gd → Prop} {X X' : String → gd → Prop}
theorem KT_iret {v : Int32} {ty : FieldType} (hd : decode y.2.1 pc = .ok (.ireturn, 1)) (hr : y.2.2.2.1 = some ty) (hn : narrow ty (.int v) = .int v) (hQ : P (some (vi v)) x) : KT G q d y pc lv [vi v] x P := T_iret hd hr hn ⟨rfl, _, rfl, hQ⟩
theorem KT_vret (hd : decode y.2.1 pc = .ok (.return_, 1)) (hr : y.2.2.2.1 = none) (hQ : P none x) : KT G q d y pc lv [] x P := T_vret hd hr ⟨rfl, _, rfl, hQ⟩
theorem KE_iret {v : Int32} {ty : FieldType} (hd : decode y.2.1 pc = .ok (.ireturn, 1)) (hr : y.2.2.2.1 = some ty) (hn : narrow ty (.int v) = .int v) (hQ : P (some (vi v)) x) : KE G q d y pc lv [vi v] x P X := T_iret hd hr hn (Or.inl ⟨rfl, _, rfl, hQ⟩)
theorem KE_vret (hd : decode y.2.1 pc = .ok (.return_, 1)) (hr : y.2.2.2.1 = none) (hQ : P none x) : KE G q d y pc lv [] x P X := T_vret hd hr (Or.inl ⟨rfl, _, rfl, hQ⟩)
/-- a quiet call, behind it anything -/
theorem KC_Vi {Q : gr → gd → gf → Prop} {idx n c ci : Nat} {sl : List Bool} {F : Int32 → gd → Prop} (As rest : List gv) (hst : st = As.reverse ++ vr c :: rest) (hd : decode y.2.1 pc = .ok (.invokevirtual idx, 3)) (hM : gMv y.1.cls idx z n) (hn : As.length = n) (hK : kK c = .inl (ci, sl)) (hcl : (vwCl[ci]?).map (fun r => r.1) = some z.1.cls) (hc : c ∈ (kf q).2.1) (hfit : gsz (vr c :: As) ≤ z.2.2.1) (hcat : gsz rest ≤ 8) (hok : gok (kf q).2.1 lv rest = true) (hy : y.2.2.2.2 = [])
    (k : KT G q d z 0 (glv 0 (vr c :: As)) [] x (ri F)) (kk : ∀ r x1, F r x1 → T (kE G) (d + 1) y (pc + 3) lv (vi r :: rest) x1 (kf q) Q) : T (kE G) (d + 1) y pc lv st x (kf q) Q :=
  T_callV As rest d hst hd hM hn hK hcl hc (Nat.le_refl _) hfit hcat hok (by rw [hy]; intro z hz; cases hz) (T_mono k (fun o x' f' w => by obtain ⟨rfl, v, rfl, r, rfl, hr⟩ := w; exact kk r x' hr))
theorem KC_Vv {Q : gr → gd → gf → Prop} {idx n c ci : Nat} {sl : List Bool} {F : gd → Prop} (As rest : List gv) (hst : st = As.reverse ++ vr c :: rest) (hd : decode y.2.1 pc = .ok (.invokevirtual idx, 3)) (hM : gMv y.1.cls idx z n) (hn : As.length = n) (hK : kK c = .inl (ci, sl)) (hcl : (vwCl[ci]?).map (fun r => r.1) = some z.1.cls) (hc : c ∈ (kf q).2.1) (hfit : gsz (vr c :: As) ≤ z.2.2.1) (hcat : gsz rest ≤ 8) (hok : gok (kf q).2.1 lv rest = true) (hy : y.2.2.2.2 = [])
    (k : KT G q d z 0 (glv 0 (vr c :: As)) [] x (rv F)) (kk : ∀ x1, F x1 → T (kE G) (d + 1) y (pc + 3) lv rest x1 (kf q) Q) : T (kE G) (d + 1) y pc lv st x (kf q) Q :=
  T_callV As rest d hst hd hM hn hK hcl hc (Nat.le_refl _) hfit hcat hok (by rw [hy]; intro z hz; cases hz) (T_mono k (fun o x' f' w => by obtain ⟨rfl, v, rfl, rfl, hr⟩ := w; exact kk x' hr))
theorem KC_Si {Q : gr → gd → gf → Prop} {idx n : Nat} {F : Int32 → gd → Prop} (As rest : List gv) (hst : st = As.reverse ++ rest) (hd : decode y.2.1 pc = .ok (.invokestatic idx, 3)) (hM : gMs y.1.cls idx z n) (hn : As.length = n) (hfit : gsz As ≤ z.2.2.1) (hcat : gsz rest ≤ 8) (hok : gok (kf q).2.1 lv rest = true) (hy : y.2.2.2.2 = [])
    (k : KT G q d z 0 (glv 0 As) [] x (ri F)) (kk : ∀ r x1, F r x1 → T (kE G) (d + 1) y (pc + 3) lv (vi r :: rest) x1 (kf q) Q) : T (kE G) (d + 1) y pc lv st x (kf q) Q :=
  T_callS As rest d hst hd hM hn (Nat.le_refl _) hfit hcat hok (by rw [hy]; intro z hz; cases hz) (T_mono k (fun o x' f' w => by obtain ⟨rfl, v, rfl, r, rfl, hr⟩ := w; exact kk r x' hr))
theorem KC_Sv {Q : gr → gd → gf → Prop} {idx n : Nat} {F : gd → Prop} (As rest : List gv) (hst : st = As.reverse ++ rest) (hd : decode y.2.1 pc = .ok (.invokestatic idx, 3)) (hM : gMs y.1.cls idx z n) (hn : As.length = n) (hfit : gsz As ≤ z.2.2.1) (hcat : gsz rest ≤ 8) (hok : gok (kf q).2.1 lv rest = true) (hy : y.2.2.2.2 = [])
    (k : KT G q d z 0 (glv 0 As) [] x (rv F)) (kk : ∀ x1, F x1 → T (kE G) (d + 1) y (pc + 3) lv rest x1 (kf q) Q) : T (kE G) (d + 1) y pc lv st x (kf q) Q :=
  T_callS As rest d hst hd hM hn (Nat.le_refl _) hfit hcat hok (by rw [hy]; intro z hz; cases hz) (T_mono k (fun o x' f' w => by obtain ⟨rfl, v, rfl, rfl, hr⟩ := w; exact kk x' hr))
/-- a call that may throw, behind it the same -/
theorem KD_Vi {idx n c ci : Nat} {sl : List Bool} {F : Int32 → gd → Prop} (As rest : List gv) (hst : st = As.reverse ++ vr c :: rest) (hd : decode y.2.1 pc = .ok (.invokevirtual idx, 3)) (hM : gMv y.1.cls idx z n) (hn : As.length = n) (hK : kK c = .inl (ci, sl)) (hcl : (vwCl[ci]?).map (fun r => r.1) = some z.1.cls) (hc : c ∈ (kf q).2.1) (hfit : gsz (vr c :: As) ≤ z.2.2.1) (hcat : gsz rest ≤ 8) (hok : gok (kf q).2.1 lv rest = true) (hy : y.2.2.2.2 = [])
    (k : KE G q d z 0 (glv 0 (vr c :: As)) [] x (ri F) X) (kk : ∀ r x1, F r x1 → KE G q (d + 1) y (pc + 3) lv (vi r :: rest) x1 P X) : KE G q (d + 1) y pc lv st x P X :=
  T_callV As rest d hst hd hM hn hK hcl hc (Nat.le_refl _) hfit hcat hok (by rw [hy]; intro z hz; cases hz) (T_mono k (fun o x' f' w => by
    rcases w with ⟨rfl, v, rfl, r, rfl, hr⟩ | ⟨rfl, c, rfl, hx⟩
    · exact kk r x' hr
    · exact Or.inr ⟨rfl, c, rfl, hx⟩))
theorem KD_Vv {idx n c ci : Nat} {sl : List Bool} {F : gd → Prop} (As rest : List gv) (hst : st = As.reverse ++ vr c :: rest) (hd : decode y.2.1 pc = .ok (.invokevirtual idx, 3)) (hM : gMv y.1.cls idx z n) (hn : As.length = n) (hK : kK c = .inl (ci, sl)) (hcl : (vwCl[ci]?).map (fun r => r.1) = some z.1.cls) (hc : c ∈ (kf q).2.1) (hfit : gsz (vr c :: As) ≤ z.2.2.1) (hcat : gsz rest ≤ 8) (hok : gok (kf q).2.1 lv rest = true) (hy : y.2.2.2.2 = [])
    (k : KE G q d z 0 (glv 0 (vr c :: As)) [] x (rv F) X) (kk : ∀ x1, F x1 → KE G q (d + 1) y (pc + 3) lv rest x1 P X) : KE G q (d + 1) y pc lv st x P X :=
  T_callV As rest d hst hd hM hn hK hcl hc (Nat.le_refl _) hfit hcat hok (by rw [hy]; intro z hz; cases hz) (T_mono k (fun o x' f' w => by
    rcases w with ⟨rfl, v, rfl, rfl, hr⟩ | ⟨rfl, c, rfl, hx⟩
    · exact kk x' hr
    · exact Or.inr ⟨rfl, c, rfl, hx⟩))
theorem KD_Sv {idx n : Nat} {F : gd → Prop} (As rest : List gv) (hst : st = As.reverse ++ rest) (hd : decode y.2.1 pc = .ok (.invokestatic idx, 3)) (hM : gMs y.1.cls idx z n) (hn : As.length = n) (hfit : gsz As ≤ z.2.2.1) (hcat : gsz rest ≤ 8) (hok : gok (kf q).2.1 lv rest = true) (hy : y.2.2.2.2 = [])
    (k : KE G q d z 0 (glv 0 As) [] x (rv F) X) (kk : ∀ x1, F x1 → KE G q (d + 1) y (pc + 3) lv rest x1 P X) : KE G q (d + 1) y pc lv st x P X :=
  T_callS As rest d hst hd hM hn (Nat.le_refl _) hfit hcat hok (by rw [hy]; intro z hz; cases hz) (T_mono k (fun o x' f' w => by
    rcases w with ⟨rfl, v, rfl, rfl, hr⟩ | ⟨rfl, c, rfl, hx⟩
    · exact kk x' hr
    · exact Or.inr ⟨rfl, c, rfl, hx⟩))
end KRW
/-- fill -/
def sfl (x : gd) (c : Nat) (v : Int32) (n : Nat) : gd := (fun c' => if c' = c then (fun j => if j < n then v else x.1 c j) else x.1 c', x.2)
theorem sfl_0 (x : gd) (c : Nat) (v : Int32) : sfl x c v 0 = x := by
  refine Prod.ext (funext (fun c' => ?_)) rfl
  show (if c' = c then (fun j => if j < 0 then v else x.1 c j) else x.1 c') = x.1 c'
  by_cases h : c' = c
  · rw [if_pos h, h]
    funext j
    rw [if_neg (Nat.not_lt_zero j)]
  · rw [if_neg h]
theorem sfl_s (x : gd) (c : Nat) (v : Int32) (n : Nat) : si (sfl x c v n) c n v = sfl x c v (n + 1) := by
  refine Prod.ext (funext (fun c' => ?_)) rfl
  show (if c' = c then upd ((sfl x c v n).1 c) n v else (sfl x c v n).1 c') = (if c' = c then (fun j => if j < n + 1 then v else x.1 c j) else x.1 c')
  by_cases h : c' = c
  · rw [if_pos h, if_pos h]
    funext j
    show (if j = n then v else (if c = c then (fun j => if j < n then v else x.1 c j) else x.1 c) j) = _
    rw [if_pos rfl]
    show (if j = n then v else if j < n then v else x.1 c j) = if j < n + 1 then v else x.1 c j
    by_cases e : j = n
    · rw [if_pos e, if_pos (by omega)]
    · rw [if_neg e]
      by_cases l : j < n
      · rw [if_pos l, if_pos (by omega)]
      · rw [if_neg l, if_neg (by omega)]
  · rw [if_neg h, if_neg h]
    show (if c' = c then _ else x.1 c') = x.1 c'
    rw [if_neg h]
abbrev zj_fill : gy := (yJ7_fill_53178, cJ7_fill_53178, 4, none, [])
theorem dtj_fill : dck cJ7_fill_53178 [(0, .iconst 0, 1), (1, .istore_n 2, 1), (2, .aload_n 0, 1), (3, .arraylength, 1), (4, .istore_n 3, 1), (5, .iload_n 2, 1), (6, .iload_n 3, 1), (7, .if_icmp .ge 13, 3), (10, .aload_n 0, 1), (11, .iload_n 2, 1), (12, .iload_n 1, 1), (13, .iastore, 1), (14, .iinc 2 1, 3), (17, .goto (-12), 3), (20, .return_, 1)] = true := by decide +kernel
set_option maxRecDepth 100000 in
theorem cwaj_fill : tables_1_3[201]? = some (Cond.code yJ7_fill_53178 cJ7_fill_53178 4 none) := rfl
theorem cwj_fill : Cond.code yJ7_fill_53178 cJ7_fill_53178 4 none ∈ W0 := W0_in (tp_3 (List.mem_of_getElem? cwaj_fill)) rfl
abbrev zj_bitCount : gy := (yJ6_bitCount_0f7a4, cJ6_bitCount_0f7a4, 1, (some .int), [])
theorem dtj_bitCount : dck cJ6_bitCount_0f7a4 [(0, .iload_n 0, 1), (1, .iload_n 0, 1), (2, .iconst 1, 1), (3, .iushr, 1), (4, .ldc_w 265, 3), (7, .iand, 1), (8, .isub, 1), (9, .istore_n 0, 1), (10, .iload_n 0, 1), (11, .ldc_w 266, 3), (14, .iand, 1), (15, .iload_n 0, 1), (16, .iconst 2, 1), (17, .iushr, 1), (18, .ldc_w 266, 3), (21, .iand, 1), (22, .iadd, 1), (23, .istore_n 0, 1), (24, .iload_n 0, 1), (25, .iload_n 0, 1), (26, .iconst 4, 1), (27, .iushr, 1), (28, .iadd, 1), (29, .ldc_w 267, 3), (32, .iand, 1), (33, .istore_n 0, 1), (34, .iload_n 0, 1), (35, .iload_n 0, 1), (36, .bipush 8, 2), (38, .iushr, 1), (39, .iadd, 1), (40, .istore_n 0, 1), (41, .iload_n 0, 1), (42, .iload_n 0, 1), (43, .bipush 16, 2), (45, .iushr, 1), (46, .iadd, 1), (47, .istore_n 0, 1), (48, .iload_n 0, 1), (49, .bipush 63, 2), (51, .iand, 1), (52, .ireturn, 1)] = true := by decide +kernel
set_option maxRecDepth 100000 in
theorem cwaj_bitCount : tables_1_6[204]? = some (Cond.code yJ6_bitCount_0f7a4 cJ6_bitCount_0f7a4 1 (some .int)) := rfl
theorem cwj_bitCount : Cond.code yJ6_bitCount_0f7a4 cJ6_bitCount_0f7a4 1 (some .int) ∈ W0 := W0_in (tp_6 (List.mem_of_getElem? cwaj_bitCount)) rfl
theorem kcs_X10_60 : gMs RX10 60 zj_fill 2 := ⟨⟨W0_in (tp_8 (List.mem_of_getElem? (i := 6) (by decide +kernel))) rfl, W0_in (tp_3 (List.mem_of_getElem? (i := 200) (by decide +kernel))) rfl, W0_in (tp_1 (List.mem_of_getElem? (i := 19) (by decide +kernel))) rfl, cwj_fill⟩, ⟨by decide, by decide, by decide +kernel⟩, by decide, by decide⟩
theorem kcs_X2_60 : gMs RX2 60 zj_fill 2 := ⟨⟨W0_in (tp_8 (List.mem_of_getElem? (i := 7) (by decide +kernel))) rfl, W0_in (tp_3 (List.mem_of_getElem? (i := 200) (by decide +kernel))) rfl, W0_in (tp_1 (List.mem_of_getElem? (i := 19) (by decide +kernel))) rfl, cwj_fill⟩, ⟨by decide, by decide, by decide +kernel⟩, by decide, by decide⟩
theorem kcs_X3_47 : gMs RX3 47 zj_fill 2 := ⟨⟨W0_in (tp_7 (List.mem_of_getElem? (i := 78) (by decide +kernel))) rfl, W0_in (tp_3 (List.mem_of_getElem? (i := 200) (by decide +kernel))) rfl, W0_in (tp_1 (List.mem_of_getElem? (i := 19) (by decide +kernel))) rfl, cwj_fill⟩, ⟨by decide, by decide, by decide +kernel⟩, by decide, by decide⟩
theorem kcs_X4_71 : gMs RX4 71 zj_fill 2 := ⟨⟨W0_in (tp_5 (List.mem_of_getElem? (i := 224) (by decide +kernel))) rfl, W0_in (tp_3 (List.mem_of_getElem? (i := 200) (by decide +kernel))) rfl, W0_in (tp_1 (List.mem_of_getElem? (i := 19) (by decide +kernel))) rfl, cwj_fill⟩, ⟨by decide, by decide, by decide +kernel⟩, by decide, by decide⟩
theorem kcs_X5_73 : gMs RX5 73 zj_fill 2 := ⟨⟨W0_in (tp_5 (List.mem_of_getElem? (i := 130) (by decide +kernel))) rfl, W0_in (tp_3 (List.mem_of_getElem? (i := 200) (by decide +kernel))) rfl, W0_in (tp_1 (List.mem_of_getElem? (i := 19) (by decide +kernel))) rfl, cwj_fill⟩, ⟨by decide, by decide, by decide +kernel⟩, by decide, by decide⟩
theorem kcs_X6_49 : gMs RX6 49 zj_fill 2 := ⟨⟨W0_in (tp_3 (List.mem_of_getElem? (i := 199) (by decide +kernel))) rfl, W0_in (tp_3 (List.mem_of_getElem? (i := 200) (by decide +kernel))) rfl, W0_in (tp_1 (List.mem_of_getElem? (i := 19) (by decide +kernel))) rfl, cwj_fill⟩, ⟨by decide, by decide, by decide +kernel⟩, by decide, by decide⟩
theorem kmx_X4_119 : Cond.methodLink RX4 119 Lib.Math.max.name ∈ W0 ∧ Cond.static Lib.Math.max.name ∈ W0 ∧ Cond.initialized "java/lang/Math" ∈ W0 ∧ Cond.code Lib.Math.max.name Lib.Math.max.code 2 (some .int) ∈ W0 := ⟨W0_in (tp_6 (List.mem_of_getElem? (i := 109) (by decide +kernel))) rfl, W0_in (tp_4 (List.mem_of_getElem? (i := 69) (by decide +kernel))) rfl, W0_in (tp_1 (List.mem_of_getElem? (i := 21) (by decide +kernel))) rfl, W0_in (tp_4 (List.mem_of_getElem? (i := 70) (by decide +kernel))) rfl⟩
theorem kmx_X7_121 : Cond.methodLink RX7 121 Lib.Math.max.name ∈ W0 ∧ Cond.static Lib.Math.max.name ∈ W0 ∧ Cond.initialized "java/lang/Math" ∈ W0 ∧ Cond.code Lib.Math.max.name Lib.Math.max.code 2 (some .int) ∈ W0 := ⟨W0_in (tp_4 (List.mem_of_getElem? (i := 68) (by decide +kernel))) rfl, W0_in (tp_4 (List.mem_of_getElem? (i := 69) (by decide +kernel))) rfl, W0_in (tp_1 (List.mem_of_getElem? (i := 21) (by decide +kernel))) rfl, W0_in (tp_4 (List.mem_of_getElem? (i := 70) (by decide +kernel))) rfl⟩
theorem kcs_X11_237 : gMs RX11 237 zj_bitCount 1 := ⟨⟨W0_in (tp_6 (List.mem_of_getElem? (i := 202) (by decide +kernel))) rfl, W0_in (tp_6 (List.mem_of_getElem? (i := 203) (by decide +kernel))) rfl, W0_in (tp_1 (List.mem_of_getElem? (i := 23) (by decide +kernel))) rfl, cwj_bitCount⟩, ⟨by decide, by decide, by decide +kernel⟩, by decide, by decide⟩
theorem kkj_265 : Cond.constant RJ6 265 (1431655765) ∈ W0 := W0_in (tp_6 (List.mem_of_getElem? (i := 205) (by decide +kernel))) rfl
theorem kkj_266 : Cond.constant RJ6 266 (858993459) ∈ W0 := W0_in (tp_6 (List.mem_of_getElem? (i := 206) (by decide +kernel))) rfl
theorem kkj_267 : Cond.constant RJ6 267 (252645135) ∈ W0 := W0_in (tp_6 (List.mem_of_getElem? (i := 207) (by decide +kernel))) rfl
theorem kcv_X9_81 : gMv RX9 81 zj_charAt 1 := ⟨⟨W0_in (tp_3 (List.mem_of_getElem? (i := 140) (by decide +kernel))) rfl, W0_in (tp_3 (List.mem_of_getElem? (i := 141) (by decide +kernel))) rfl, W0_in (tp_3 (List.mem_of_getElem? (i := 142) (by decide +kernel))) rfl, W0_in (tp_1 (List.mem_of_getElem? (i := 15) (by decide +kernel))) rfl, cwj_charAt⟩, ⟨by decide, by decide, by decide +kernel⟩, by decide, by decide⟩
theorem kcy_X10_78 : Cond.methodLink RX10 78 arraycopyName ∈ W0 ∧ Cond.native arraycopyName ∈ W0 ∧ Cond.static arraycopyName ∈ W0 ∧ Cond.initialized "java/lang/System" ∈ W0 := ⟨W0_in (tp_8 (List.mem_of_getElem? (i := 100) (by decide +kernel))) rfl, W0_in (tp_7 (List.mem_of_getElem? (i := 102) (by decide +kernel))) rfl, W0_in (tp_7 (List.mem_of_getElem? (i := 101) (by decide +kernel))) rfl, W0_in (tp_1 (List.mem_of_getElem? (i := 25) (by decide +kernel))) rfl⟩
theorem kcy_X2_112 : Cond.methodLink RX2 112 arraycopyName ∈ W0 ∧ Cond.native arraycopyName ∈ W0 ∧ Cond.static arraycopyName ∈ W0 ∧ Cond.initialized "java/lang/System" ∈ W0 := ⟨W0_in (tp_8 (List.mem_of_getElem? (i := 42) (by decide +kernel))) rfl, W0_in (tp_7 (List.mem_of_getElem? (i := 102) (by decide +kernel))) rfl, W0_in (tp_7 (List.mem_of_getElem? (i := 101) (by decide +kernel))) rfl, W0_in (tp_1 (List.mem_of_getElem? (i := 25) (by decide +kernel))) rfl⟩
theorem kcy_X3_102 : Cond.methodLink RX3 102 arraycopyName ∈ W0 ∧ Cond.native arraycopyName ∈ W0 ∧ Cond.static arraycopyName ∈ W0 ∧ Cond.initialized "java/lang/System" ∈ W0 := ⟨W0_in (tp_7 (List.mem_of_getElem? (i := 100) (by decide +kernel))) rfl, W0_in (tp_7 (List.mem_of_getElem? (i := 102) (by decide +kernel))) rfl, W0_in (tp_7 (List.mem_of_getElem? (i := 101) (by decide +kernel))) rfl, W0_in (tp_1 (List.mem_of_getElem? (i := 25) (by decide +kernel))) rfl⟩
theorem ktx_X7_106 : ∀ w ∈ (vx_atS RX7 106 iSE up2).filter goodWord, w ∈ lw_tbl := by decide +kernel
theorem kth_X7_102_104 : gTh RX7 iSE "a fault of the text" 102 104 106 := ⟨⟨by decide +kernel, by decide, by decide⟩, ⟨W0_in (tp_3 (List.mem_of_getElem? (i := 226) (by decide +kernel))) rfl, W0_in (tp_1 (List.mem_of_getElem? (i := 20) (by decide +kernel))) rfl, fun w hw => W0_in (ktx_X7_106 w hw) (List.mem_filter.mp hw).2⟩, by decide +kernel, by decide +kernel⟩
theorem ktx_X11_74 : ∀ w ∈ (vx_atS RX11 74 iAE up2).filter goodWord, w ∈ lw_tbl := by decide +kernel
theorem kth_X11_70_72 : gTh RX11 iAE "n is not 1 .. 8" 70 72 74 := ⟨⟨by decide +kernel, by decide, by decide⟩, ⟨W0_in (tp_5 (List.mem_of_getElem? (i := 49) (by decide +kernel))) rfl, W0_in (tp_1 (List.mem_of_getElem? (i := 14) (by decide +kernel))) rfl, fun w hw => W0_in (ktx_X11_74 w hw) (List.mem_filter.mp hw).2⟩, by decide +kernel, by decide +kernel⟩
theorem kth_X11_70_80 : gTh RX11 iAE "more than 3000 bytes" 70 80 74 := ⟨⟨by decide +kernel, by decide, by decide⟩, ⟨W0_in (tp_5 (List.mem_of_getElem? (i := 49) (by decide +kernel))) rfl, W0_in (tp_1 (List.mem_of_getElem? (i := 14) (by decide +kernel))) rfl, fun w hw => W0_in (ktx_X11_74 w hw) (List.mem_filter.mp hw).2⟩, by decide +kernel, by decide +kernel⟩
theorem ktx_X11_131 : ∀ w ∈ (vx_atS RX11 131 iOE up2).filter goodWord, w ∈ lw_tbl := by decide +kernel
theorem kth_X11_127_129 : gTh RX11 iOE "no such what" 127 129 131 := ⟨⟨by decide +kernel, by decide, by decide⟩, ⟨W0_in (tp_5 (List.mem_of_getElem? (i := 78) (by decide +kernel))) rfl, W0_in (tp_1 (List.mem_of_getElem? (i := 22) (by decide +kernel))) rfl, fun w hw => W0_in (ktx_X11_131 w hw) (List.mem_filter.mp hw).2⟩, by decide +kernel, by decide +kernel⟩
theorem ktx_X11_191 : ∀ w ∈ (vx_atS RX11 191 iSE up2).filter goodWord, w ∈ lw_tbl := by decide +kernel
theorem kth_X11_102_189 : gTh RX11 iSE "400 choices were done" 102 189 191 := ⟨⟨by decide +kernel, by decide, by decide⟩, ⟨W0_in (tp_3 (List.mem_of_getElem? (i := 104) (by decide +kernel))) rfl, W0_in (tp_1 (List.mem_of_getElem? (i := 20) (by decide +kernel))) rfl, fun w hw => W0_in (ktx_X11_191 w hw) (List.mem_filter.mp hw).2⟩, by decide +kernel, by decide +kernel⟩
theorem kth_X11_70_195 : gTh RX11 iAE "n is not 0 .. 400" 70 195 74 := ⟨⟨by decide +kernel, by decide, by decide⟩, ⟨W0_in (tp_5 (List.mem_of_getElem? (i := 49) (by decide +kernel))) rfl, W0_in (tp_1 (List.mem_of_getElem? (i := 14) (by decide +kernel))) rfl, fun w hw => W0_in (ktx_X11_74 w hw) (List.mem_filter.mp hw).2⟩, by decide +kernel, by decide +kernel⟩
theorem kth_X11_70_198 : gTh RX11 iAE "n is not 0 .. how many were done" 70 198 74 := ⟨⟨by decide +kernel, by decide, by decide⟩, ⟨W0_in (tp_5 (List.mem_of_getElem? (i := 49) (by decide +kernel))) rfl, W0_in (tp_1 (List.mem_of_getElem? (i := 14) (by decide +kernel))) rfl, fun w hw => W0_in (ktx_X11_74 w hw) (List.mem_filter.mp hw).2⟩, by decide +kernel, by decide +kernel⟩
theorem kth_X11_70_276 : gTh RX11 iAE "no such structure" 70 276 74 := ⟨⟨by decide +kernel, by decide, by decide⟩, ⟨W0_in (tp_5 (List.mem_of_getElem? (i := 49) (by decide +kernel))) rfl, W0_in (tp_1 (List.mem_of_getElem? (i := 14) (by decide +kernel))) rfl, fun w hw => W0_in (ktx_X11_74 w hw) (List.mem_filter.mp hw).2⟩, by decide +kernel, by decide +kernel⟩
theorem kth_X11_70_292 : gTh RX11 iAE "limit is not 1 .. 3000" 70 292 74 := ⟨⟨by decide +kernel, by decide, by decide⟩, ⟨W0_in (tp_5 (List.mem_of_getElem? (i := 49) (by decide +kernel))) rfl, W0_in (tp_1 (List.mem_of_getElem? (i := 14) (by decide +kernel))) rfl, fun w hw => W0_in (ktx_X11_74 w hw) (List.mem_filter.mp hw).2⟩, by decide +kernel, by decide +kernel⟩
theorem kth_X11_102_340 : gTh RX11 iSE "no such finding" 102 340 191 := ⟨⟨by decide +kernel, by decide, by decide⟩, ⟨W0_in (tp_3 (List.mem_of_getElem? (i := 104) (by decide +kernel))) rfl, W0_in (tp_1 (List.mem_of_getElem? (i := 20) (by decide +kernel))) rfl, fun w hw => W0_in (ktx_X11_191 w hw) (List.mem_filter.mp hw).2⟩, by decide +kernel, by decide +kernel⟩
theorem kth_X11_102_342 : gTh RX11 iSE "more than 400 choices lead to it" 102 342 191 := ⟨⟨by decide +kernel, by decide, by decide⟩, ⟨W0_in (tp_3 (List.mem_of_getElem? (i := 104) (by decide +kernel))) rfl, W0_in (tp_1 (List.mem_of_getElem? (i := 20) (by decide +kernel))) rfl, fun w hw => W0_in (ktx_X11_191 w hw) (List.mem_filter.mp hw).2⟩, by decide +kernel, by decide +kernel⟩
theorem kth_X11_102_384 : gTh RX11 iSE "nothing is compiled" 102 384 191 := ⟨⟨by decide +kernel, by decide, by decide⟩, ⟨W0_in (tp_3 (List.mem_of_getElem? (i := 104) (by decide +kernel))) rfl, W0_in (tp_1 (List.mem_of_getElem? (i := 20) (by decide +kernel))) rfl, fun w hw => W0_in (ktx_X11_191 w hw) (List.mem_filter.mp hw).2⟩, by decide +kernel, by decide +kernel⟩
theorem kth_X11_102_386 : gTh RX11 iSE "there is no run" 102 386 191 := ⟨⟨by decide +kernel, by decide, by decide⟩, ⟨W0_in (tp_3 (List.mem_of_getElem? (i := 104) (by decide +kernel))) rfl, W0_in (tp_1 (List.mem_of_getElem? (i := 20) (by decide +kernel))) rfl, fun w hw => W0_in (ktx_X11_191 w hw) (List.mem_filter.mp hw).2⟩, by decide +kernel, by decide +kernel⟩
theorem kth_X11_70_388 : gTh RX11 iAE "no such way" 70 388 74 := ⟨⟨by decide +kernel, by decide, by decide⟩, ⟨W0_in (tp_5 (List.mem_of_getElem? (i := 49) (by decide +kernel))) rfl, W0_in (tp_1 (List.mem_of_getElem? (i := 14) (by decide +kernel))) rfl, fun w hw => W0_in (ktx_X11_74 w hw) (List.mem_filter.mp hw).2⟩, by decide +kernel, by decide +kernel⟩
theorem kth_X11_70_340 : gTh RX11 iAE "no such finding" 70 340 74 := ⟨⟨by decide +kernel, by decide, by decide⟩, ⟨W0_in (tp_5 (List.mem_of_getElem? (i := 49) (by decide +kernel))) rfl, W0_in (tp_1 (List.mem_of_getElem? (i := 14) (by decide +kernel))) rfl, fun w hw => W0_in (ktx_X11_74 w hw) (List.mem_filter.mp hw).2⟩, by decide +kernel, by decide +kernel⟩
theorem kth_X11_127_390 : gTh RX11 iOE "there is none such" 127 390 131 := ⟨⟨by decide +kernel, by decide, by decide⟩, ⟨W0_in (tp_5 (List.mem_of_getElem? (i := 78) (by decide +kernel))) rfl, W0_in (tp_1 (List.mem_of_getElem? (i := 22) (by decide +kernel))) rfl, fun w hw => W0_in (ktx_X11_131 w hw) (List.mem_filter.mp hw).2⟩, by decide +kernel, by decide +kernel⟩
section KRJ
variable {E : gE} {d : Nat} {lv : List (Nat × gv)} {st : List gv} {x : gd} {f : gf} {Q : gr → gd → gf → Prop}
theorem tj_fill (c n : Nat) (v : Int32) (hK : E.2.2.2.1 c = .inr (.int, n)) (hc : c ∈ f.2.1) (hn : n < 100000) (h : Q (.inl none) (sfl x c v n) f) : T E d zj_fill 0 [(0, vr c), (1, vi v)] [] x f Q := by
  refine T_iconst (v := 0) (dk dtj_fill 0 rfl) (by decide +kernel) ?_
  refine T_istore_n (lv2 := [(2, vi 0), (0, vr c), (1, vi v)]) (dk dtj_fill 1 rfl) rfl (by decide) rfl ?_
  refine T_aload_n 1 (dk dtj_fill 2 rfl) rfl rfl ?_
  refine T_alen c n 0 (v := Int32.ofNat n) (dk dtj_fill 3 rfl) hK hc rfl rfl ?_
  refine T_istore_n (lv2 := [(3, vi (Int32.ofNat n)), (2, vi 0), (0, vr c), (1, vi v)]) (dk dtj_fill 4 rfl) rfl (by decide) rfl ?_
  have en : (Int32.ofNat n).toInt = n := Int32.toInt_ofNat_of_lt (by omega)
  have k1 : (1 : Int32).toInt = 1 := rfl
  have loop : ∀ (m k : Nat) (i : Int32), i.toInt = k → k ≤ n → n - k ≤ m → T E d zj_fill 5 [(3, vi (Int32.ofNat n)), (2, vi i), (0, vr c), (1, vi v)] [] (sfl x c v k) f Q := by
    have last : ∀ (k : Nat) (i : Int32), i.toInt = k → k = n → T E d zj_fill 5 [(3, vi (Int32.ofNat n)), (2, vi i), (0, vr c), (1, vi v)] [] (sfl x c v k) f Q := by
      intro k i ei ek
      refine T_iload_n 1 (dk dtj_fill 5 rfl) rfl rfl ?_
      refine T_iload_n 0 (dk dtj_fill 6 rfl) rfl rfl ?_
      refine T_icmp_ge 20 (dk dtj_fill 7 rfl) (by decide) (fun _ => ?_) (fun q => absurd (t_le.mpr (by omega)) q)
      rw [ek]
      exact T_vret (dk dtj_fill 14 rfl) rfl h
    intro m
    induction m with
    | zero => intro k i ei h1 h2; exact last k i ei (by omega)
    | succ m ih =>
      intro k i ei h1 h2
      by_cases e : k = n
      · exact last k i ei e
      · have ii : (i + 1).toInt = i.toInt + 1 := by rw [t_add (by omega) (by omega), k1]
        have ci : i.toNatClampNeg = k := by rw [t_cl]; omega
        refine T_iload_n 1 (dk dtj_fill 5 rfl) rfl rfl ?_
        refine T_iload_n 0 (dk dtj_fill 6 rfl) rfl rfl ?_
        refine T_icmp_ge 20 (dk dtj_fill 7 rfl) (by decide) (fun q => ?_) (fun _ => ?_)
        · rw [t_le] at q; omega
        refine T_aload_n 2 (dk dtj_fill 8 rfl) rfl rfl ?_
        refine T_iload_n 1 (dk dtj_fill 9 rfl) rfl rfl ?_
        refine T_iload_n 3 (dk dtj_fill 10 rfl) rfl rfl ?_
        refine T_iast c n (dk dtj_fill 11 rfl) hK hc (by rw [vp_in_iff]; omega) ?_
        rw [ci, sfl_s]
        refine T_iinc (v := i + 1) (lv2 := [(2, vi (i + 1)), (3, vi (Int32.ofNat n)), (0, vr c), (1, vi v)]) 1 (dk dtj_fill 12 rfl) rfl rfl (by decide) rfl ?_
        refine T_goto 5 (dk dtj_fill 13 rfl) (by decide) ?_
        exact T_sub [1, 0, 2, 3] rfl (ih (k + 1) (i + 1) (by omega) (by omega) (by omega))
  have := loop n 0 0 rfl (Nat.zero_le _) (by omega)
  rw [sfl_0] at this
  exact this
theorem tj_bits (a : Int32) (h : ∀ r : Int32, Q (.inl (some (vi r))) x f) : T E d zj_bitCount 0 [(0, vi a)] [] x f Q := by
  refine T_iload_n 0 (dk dtj_bitCount 0 rfl) rfl rfl ?_
  refine T_iload_n 0 (dk dtj_bitCount 1 rfl) rfl rfl ?_
  refine T_iconst (v := 1) (dk dtj_bitCount 2 rfl) (by decide +kernel) ?_
  refine T_iushr (dk dtj_bitCount 3 rfl) ?_
  refine T_ldcw (v := 1431655765) (dk dtj_bitCount 4 rfl) kkj_265 ?_
  refine T_iand (dk dtj_bitCount 5 rfl) ?_
  refine T_isub (dk dtj_bitCount 6 rfl) ?_
  refine T_istore_n (dk dtj_bitCount 7 rfl) rfl (by decide) rfl ?_
  refine T_iload_n 0 (dk dtj_bitCount 8 rfl) rfl rfl ?_
  refine T_ldcw (v := 858993459) (dk dtj_bitCount 9 rfl) kkj_266 ?_
  refine T_iand (dk dtj_bitCount 10 rfl) ?_
  refine T_iload_n 0 (dk dtj_bitCount 11 rfl) rfl rfl ?_
  refine T_iconst (v := 2) (dk dtj_bitCount 12 rfl) (by decide +kernel) ?_
  refine T_iushr (dk dtj_bitCount 13 rfl) ?_
  refine T_ldcw (v := 858993459) (dk dtj_bitCount 14 rfl) kkj_266 ?_
  refine T_iand (dk dtj_bitCount 15 rfl) ?_
  refine T_iadd (dk dtj_bitCount 16 rfl) ?_
  refine T_istore_n (dk dtj_bitCount 17 rfl) rfl (by decide) rfl ?_
  refine T_iload_n 0 (dk dtj_bitCount 18 rfl) rfl rfl ?_
  refine T_iload_n 0 (dk dtj_bitCount 19 rfl) rfl rfl ?_
  refine T_iconst (v := 4) (dk dtj_bitCount 20 rfl) (by decide +kernel) ?_
  refine T_iushr (dk dtj_bitCount 21 rfl) ?_
  refine T_iadd (dk dtj_bitCount 22 rfl) ?_
  refine T_ldcw (v := 252645135) (dk dtj_bitCount 23 rfl) kkj_267 ?_
  refine T_iand (dk dtj_bitCount 24 rfl) ?_
  refine T_istore_n (dk dtj_bitCount 25 rfl) rfl (by decide) rfl ?_
  refine T_iload_n 0 (dk dtj_bitCount 26 rfl) rfl rfl ?_
  refine T_iload_n 0 (dk dtj_bitCount 27 rfl) rfl rfl ?_
  refine T_bipush (v := 8) (dk dtj_bitCount 28 rfl) (by decide +kernel) ?_
  refine T_iushr (dk dtj_bitCount 29 rfl) ?_
  refine T_iadd (dk dtj_bitCount 30 rfl) ?_
  refine T_istore_n (dk dtj_bitCount 31 rfl) rfl (by decide) rfl ?_
  refine T_iload_n 0 (dk dtj_bitCount 32 rfl) rfl rfl ?_
  refine T_iload_n 0 (dk dtj_bitCount 33 rfl) rfl rfl ?_
  refine T_bipush (v := 16) (dk dtj_bitCount 34 rfl) (by decide +kernel) ?_
  refine T_iushr (dk dtj_bitCount 35 rfl) ?_
  refine T_iadd (dk dtj_bitCount 36 rfl) ?_
  refine T_istore_n (dk dtj_bitCount 37 rfl) rfl (by decide) rfl ?_
  refine T_iload_n 0 (dk dtj_bitCount 38 rfl) rfl rfl ?_
  refine T_bipush (v := 63) (dk dtj_bitCount 39 rfl) (by decide +kernel) ?_
  refine T_iand (dk dtj_bitCount 40 rfl) ?_
  exact T_iret (dk dtj_bitCount 41 rfl) rfl rfl (h _)
end KRJ
end
section
/-! making: cells that come to life -/
def znew (x : gd) (c : Nat) : gd := (fun c' => if c' = c then fun _ => 0 else x.1 c', fun c' => if c' = c then fun _ => 0 else x.2 c')
def fnew (f : gf) (c n : Nat) : gf := (fun c' k => if c' = c then none else f.1 c' k, f.2.1 ++ [c], f.2.2.1 + 1, f.2.2.2 + n)
def anew (ad : Nat → Nat) (c a : Nat) : Nat → Nat := fun c' => if c' = c then a else ad c'
def frf (f : gf) (c k : Nat) (v : Option Nat) : gf := (fun c' k' => if c' = c ∧ k' = k then v else f.1 c' k', f.2)
/-- no live cell holds c -/
def NR (f : gf) (c : Nat) : Prop := ∀ c' ∈ f.2.1, ∀ j, f.1 c' j ≠ some c
theorem rmap {ad : Nat → Nat} {c a : Nat} {r : Option Nat} (h : r ≠ some c) : r.map (anew ad c a) = r.map ad := by
  cases r with
  | none => rfl
  | some b => show some (anew ad c a b) = some (ad b); unfold anew; rw [if_neg (fun e => h (by rw [e]))]
section GMK
variable {E : gE} {d : Nat} {y z : gy} {pc : Nat} {lv : List (Nat × gv)} {st : List gv} {x : gd} {f : gf} {Q : gr → gd → gf → Prop}
theorem gce_new {ad : Nat → Nat} {c a n c' : Nat} (hne : c' ≠ c) (hn : ∀ j, f.1 c' j ≠ some c) : gce E (znew x c) (fnew f c n) (anew ad c a) c' = gce E x f ad c' := by
  have e1 : (znew x c).1 c' = x.1 c' := if_neg hne
  have e2 : (znew x c).2 c' = x.2 c' := if_neg hne
  have e3 : ∀ j, ((fnew f c n).1 c' j).map (anew ad c a) = (f.1 c' j).map ad := fun j => by
    show (if c' = c then none else f.1 c' j).map _ = _
    rw [if_neg hne]; exact rmap (hn j)
  unfold gce gfl gar
  rw [e1, e2]
  simp only [e3]
theorem gwl_new {ad : Nat → Nat} {c a n : Nat} (hc : c ∉ f.2.1) (hr : NR f c) : gwl E (znew x c) (fnew f c n) (anew ad c a) = gwl E x f ad ++ [(a, gce E (znew x c) (fnew f c n) (anew ad c a) c)] := by
  unfold gwl
  show (f.2.1 ++ [c]).map _ = _
  rw [List.map_append]
  congr 1
  · apply List.map_congr_left
    intro c' h'
    have hne : c' ≠ c := fun e => hc (e ▸ h')
    rw [gce_new hne (hr c' h'), show anew ad c a c' = ad c' from if_neg hne]
  · show [(anew ad c a c, _)] = _
    rw [show anew ad c a c = a from if_pos rfl]
theorem gad_new {ad : Nat → Nat} {c a : Nat} (h9 : c < 900 ∨ 905 ≤ c) (h : gad E ad) : gad E (anew ad c a) := fun i hi => by
  unfold anew; rw [if_neg (by omega)]; exact h i hi
theorem gex_new {ad : Nat → Nat} {c a : Nat} (hc : c ∉ f.2.1) (h9 : c < 900 ∨ 905 ≤ c) : gex f ad (anew ad c a) := ⟨fun c' h' => if_neg (fun e : c' = c => hc (e ▸ h')), fun i hi => if_neg (by omega)⟩
theorem fnew_le {c n : Nat} : gle f (fnew f c n) := ⟨fun c' h => List.mem_append_left _ h, Nat.le_succ _, Nat.le_add_right _ _⟩
theorem T_stepN {pc2 : Nat} {st2 : List gv} {c n : Nat} (hc : c ∉ f.2.1) (h9 : c < 900 ∨ 905 ≤ c) (hok : gok f.2.1 lv st2 = true)
    (h : ∀ (p : Program) (e : Env) (R : Room) (s : State) (m : MethodId) (args : Array Value) (below : List Frame) (meth : Method) (c0 : Code) (A : Nat → Prop) (H : Heap) (locs : List Loc) (cells slots : Nat) (ls : Array Slot) (ad : Nat → Nat) (Q9 : State → Prop), gC E d y p R s m args meth c0 A → gP E x f ad A H → va_S A s.heap H locs → lv_has ls y.2.2.1 (glc ad lv) → cells + 1 ≤ R.cells → slots + n ≤ R.slots →
      (∀ (a : Nat) (H2 : Heap), gP E (znew x c) (fnew f c n) (anew ad c a) A H2 → va_S A s.heap H2 locs → W p E.1 e R s m args below meth c0 H2 locs (cells + 1) (slots + n) Q9 (F0 m pc2 ls (.ref a :: st2.map (gcv ad)))) → W p E.1 e R s m args below meth c0 H locs cells slots Q9 (F0 m pc ls (st.map (gcv ad))))
    (k : T E d y pc2 lv (vr c :: st2) (znew x c) (fnew f c n) Q) : T E d y pc lv st x f Q := by
  obtain ⟨o, x', f', h1, h2, h3⟩ := k
  refine ⟨o, x', f', h1, gle_tr fnew_le h2, ?_⟩
  intro p e R s m args below meth c0 A H locs cells slots ls ad C hP hS hl hcc hss
  have b1 : f.2.2.1 + 1 ≤ f'.2.2.1 := h2.2.1
  have b2 : f.2.2.2 + n ≤ f'.2.2.2 := h2.2.2
  have hlv : lv.all (fun q => gokv f.2.1 q.2) = true := (Bool.and_eq_true _ _ ▸ hok).1
  have hrs : st2.all (gokv f.2.1) = true := (Bool.and_eq_true _ _ ▸ hok).2
  refine h p e R s m args below meth c0 A H locs cells slots ls ad _ C hP hS hl (by omega) (by omega) (fun a H2 hP2 hS2 => ?_)
  have hex : gex f ad (anew ad c a) := gex_new hc h9
  have hw := h3 p e R s m args below meth c0 A H2 locs (cells + 1) (slots + n) ls (anew ad c a) C hP2 hS2 (by rw [glc_live hex hlv]; exact hl) (by show cells + 1 + (f'.2.2.1 - (f.2.2.1 + 1)) ≤ _; omega) (by show slots + n + (f'.2.2.2 - (f.2.2.2 + n)) ≤ _; omega)
  have ev : (vr c :: st2).map (gcv (anew ad c a)) = .ref a :: st2.map (gcv ad) := by
    rw [List.map_cons, gst_live hex hrs]
    congr 1
    show Value.ref (anew ad c a c) = _
    rw [show anew ad c a c = a from if_pos rfl]
  rw [ev] at hw
  intro T9 hT X
  obtain ⟨t2, s1, s2⟩ := hw T9 hT X
  have e1 : cells + 1 + (f'.2.2.1 - (fnew f c n).2.2.1) = cells + (f'.2.2.1 - f.2.2.1) := by show cells + 1 + (f'.2.2.1 - (f.2.2.1 + 1)) = _; omega
  have e2 : slots + n + (f'.2.2.2 - (fnew f c n).2.2.2) = slots + (f'.2.2.2 - f.2.2.2) := by show slots + n + (f'.2.2.2 - (f.2.2.2 + n)) = _; omega
  rw [e1, e2] at s2
  refine ⟨t2, s1, vx_MQ_mono s2 (fun _ _ _ _ q => ?_) (fun _ _ _ q => ?_)⟩
  · obtain ⟨ad2, g1, g2⟩ := q; exact ⟨ad2, gex_tr fnew_le hex g1, g2⟩
  · obtain ⟨ad2, g1, g2⟩ := q; exact ⟨ad2, gex_tr fnew_le hex g1, g2⟩
theorem cA_eq {ty : FieldType} {s : State} {cA : ClassId} {t0 : Nat} (hK : va_K E.2.1 vwCl (gtys E) s) (hK1 : va_K E.2.1 vwCl (gtys E ++ [(cA, ty)]) s) (h0 : (gtys E)[t0]? = some (E.2.2.1 ty, ty)) : cA = E.2.2.1 ty := by
  have a := (hK1.2 (gtys E).length (cA, ty) (by rw [List.getElem?_append_right (Nat.le_refl _), Nat.sub_self]; rfl)).2
  have b := (hK.2 t0 _ h0).2
  cases ty with
  | object C =>
    obtain ⟨_, _, -, -, -, a4⟩ := a
    obtain ⟨_, _, -, -, -, b4⟩ := b
    exact Option.some.inj (a4.symm.trans b4)
  | _ => exact Option.some.inj (Eq.trans (Eq.symm a) b)
/-- an array of ints, bytes or booleans -/
theorem T_newI (c : Nat) {atype : ArrayType} {ty : FieldType} {n : Nat} {v : Int32} (hd : decode y.2.1 pc = .ok (.newarray atype, 2)) (hty : newarray.typeOf atype = ty) (ht : ty = .int ∨ ty = .byte ∨ ty = .boolean) (hw : Cond.arrayClass ty ∈ W0) (hK : E.2.2.2.1 c = .inr (ty, n)) (hv : ¬ v < 0) (hN : v.toNatClampNeg = n) (hb : n ≤ 100000) (hc : c ∉ f.2.1) (h9 : c < 900 ∨ 905 ≤ c) (hr : NR f c) (hok : gok f.2.1 lv st = true)
    (k9 : T E d y (pc + 2) lv (vr c :: st) (znew x c) (fnew f c n) Q) : T E d y pc lv (vi v :: st) x f Q := by
  refine T_stepN hc h9 hok (fun p e R s m args below meth c0 A H locs cells slots ls ad Q9 C hP hS hl h1 h2 kk => ?_) k9
  have hb2 : n * componentBytes ty ≤ 536870912 := by
    have : componentBytes ty ≤ 8 := by rcases ht with rfl | rfl | rfl <;> decide
    have := Nat.mul_le_mul hb this
    omega
  have ha : ∀ cA : ClassId, vp_cell cA (n, .inl (fun _ => 0)) = arrV cA n (fun _ => defaultValue ty) := by rcases ht with rfl | rfl | rfl <;> intro cA <;> rfl
  have h0 : ∃ t0 : Nat, (gtys E)[t0]? = some (E.2.2.1 ty, ty) := by
    rcases ht with rfl | rfl | rfl
    · exact ⟨0, rfl⟩
    · exact ⟨1, rfl⟩
    · exact ⟨2, rfl⟩
  obtain ⟨t0, h0⟩ := h0
  refine va_newa (a0 := (n, .inl (fun _ => 0))) C.1.1 C.1.2.1 (C.1.2.2.2.2 _ (hty ▸ hw)) hty C.2.2.2.1.1 hP.1.1 hP.1.2 hS C.2.2.2.2 ha hv hN hb2 h1 h2 hd (fun q cA H1 hK1 hP1 hD1 hS1 => ?_)
  have hcA := cA_eq C.2.2.2.1.1 hK1 h0
  have e9 : gce E (znew x c) (fnew f c n) (anew ad c q) c = .inl (cA, n, .inl (fun _ => 0)) := by
    rw [gce_arr hK, hcA]
    have z1 : (znew x c).1 c = fun _ => 0 := if_pos rfl
    rcases ht with rfl | rfl | rfl <;> (show Sum.inl (_, _, Sum.inl ((znew x c).1 c)) = _; rw [z1])
  refine kk q H1 ⟨⟨?_, ?_⟩, gad_new h9 hP.2⟩ hS1
  · rw [gwl_new hc hr, e9]; exact hP1
  · rw [gwl_new hc hr, e9]; exact hD1
/-- what the tables say of a class that an instruction makes -/
def gNw (own : String) (idx ci : Nat) (sl : List Bool) : Prop := ∃ (C : String) (U : u_T) (ty : Nat → FieldType), vwCl[ci]? = some (C, U, sl.length) ∧ (∀ w ∈ u_ws C U sl.length, w ∈ W0) ∧ Cond.classLink own idx C ∈ W0 ∧ Cond.instantiable C sl.length ∈ W0 ∧ Cond.initialized C ∈ W0 ∧ (∀ k, k < sl.length → parseFieldDescriptor (U k).2.2.1 = some (ty k)) ∧ ∀ j, j < sl.length → defaultValue (ty j) = if sl.getD j false = true then .null else .int 0
theorem gfl_new {ad : Nat → Nat} {c n : Nat} {sl : List Bool} : gfl (znew x c) (fnew f c n) ad c sl = (List.range sl.length).map (fun j => if sl.getD j false = true then .null else .int 0) := by
  unfold gfl
  apply List.map_congr_left
  intro j _
  have z1 : (znew x c).1 c = fun _ => 0 := if_pos rfl
  have z2 : (fnew f c n).1 c j = none := if_pos rfl
  rw [z1, z2]; rfl
theorem T_newO (c : Nat) {idx ci : Nat} {sl : List Bool} (hd : decode y.2.1 pc = .ok (.new idx, 3)) (hM : gNw y.1.cls idx ci sl) (hK : E.2.2.2.1 c = .inl (ci, sl)) (hc : c ∉ f.2.1) (h9 : c < 900 ∨ 905 ≤ c) (hr : NR f c) (hok : gok f.2.1 lv st = true)
    (k9 : T E d y (pc + 3) lv (vr c :: st) (znew x c) (fnew f c sl.length) Q) : T E d y pc lv st x f Q := by
  obtain ⟨C0, U, ty, m1, m2, m3, m4, m5, m6, m7⟩ := hM
  refine T_stepN hc h9 hok (fun p e R s m args below meth c0 A H locs cells slots ls ad Q9 C hP hS hl h1 h2 kk => ?_) k9
  refine va_new (C := C0) (T := U) (ci := ci) (fs := (List.range sl.length).map (fun j => if sl.getD j false = true then .null else .int 0)) C.1.1 C.1.2.1 C.1.2.2.2.2 m2 ty m6 C.1.2.2.2.1 (C.1.2.2.2.2 _ m3) (C.1.2.2.2.2 _ m4) (C.1.2.2.2.2 _ m5) C.2.2.2.1.1 hP.1.1 hP.1.2 hS C.2.2.2.2 m1 (fun j hj => ?_) h1 h2 hd (fun q H1 hP1 hD1 hS1 => ?_)
  · rw [m7 j hj]; unfold vp_V; rw [List.getD_eq_getElem?_getD (l := List.map _ _), List.getElem?_map, List.getElem?_range hj]; rfl
  · have e9 : gce E (znew x c) (fnew f c sl.length) (anew ad c q) c = .inr (ci, (List.range sl.length).map (fun j => if sl.getD j false = true then .null else .int 0)) := by rw [gce_obj hK, gfl_new]
    refine kk q H1 ⟨⟨?_, ?_⟩, gad_new h9 hP.2⟩ hS1
    · rw [gwl_new hc hr, e9]; exact hP1
    · rw [gwl_new hc hr, e9]; exact hD1
/-- an array of tryings -/
theorem T_newT (c : Nat) {idx n : Nat} {v : Int32} (hd : decode y.2.1 pc = .ok (.anewarray idx, 3)) (hw : Cond.classLink y.1.cls idx "ScheduleHouse$Trial" ∈ W0) (hK : E.2.2.2.1 c = .inr (.object "ScheduleHouse$Trial", n)) (hv : ¬ v < 0) (hN : v.toNatClampNeg = n) (hb : n ≤ 100000) (hc : c ∉ f.2.1) (h9 : c < 900 ∨ 905 ≤ c) (hr : NR f c) (hok : gok f.2.1 lv st = true)
    (k9 : T E d y (pc + 3) lv (vr c :: st) (znew x c) (fnew f c n) Q) : T E d y pc lv (vi v :: st) x f Q := by
  refine T_stepN hc h9 hok (fun p e R s m args below meth c0 A H locs cells slots ls ad Q9 C hP hS hl h1 h2 kk => ?_) k9
  refine va_newq C.1.1 C.1.2.1 C.1.2.2.2.1 (C.1.2.2.2.2 _ hw) C.2.2.2.1.2.1.2.2.2.1 C.2.2.2.1.1 hP.1.1 hP.1.2 hS C.2.2.2.2 hv hN (by omega) h1 h2 hd (fun q cA H1 hK1 hP1 hD1 hS1 => ?_)
  have hcA := cA_eq (t0 := 4) C.2.2.2.1.1 hK1 rfl
  have e9 : gce E (znew x c) (fnew f c n) (anew ad c q) c = .inl (cA, n, .inr (.inr (.inr (.inr (fun _ => none))))) := by
    rw [gce_arr hK, hcA]
    show Sum.inl (_, _, Sum.inr (Sum.inr (Sum.inr (Sum.inr (fun j => ((fnew f c n).1 c j).map (anew ad c q)))))) = _
    have z2 : ∀ j, (fnew f c n).1 c j = none := fun j => if_pos rfl
    simp only [z2]; rfl
  refine kk q H1 ⟨⟨?_, ?_⟩, gad_new h9 hP.2⟩ hS1
  · rw [gwl_new hc hr, e9]; exact hP1
  · rw [gwl_new hc hr, e9]; exact hD1
/-- an array of arrays of ints, empty -/
theorem T_newA (c : Nat) {idx n : Nat} {v : Int32} (hd : decode y.2.1 pc = .ok (.anewarray idx, 3)) (hw : Cond.classLink y.1.cls idx "[I" ∈ W0) (hK : E.2.2.2.1 c = .inr (.array .int, n)) (hv : ¬ v < 0) (hN : v.toNatClampNeg = n) (hb : n ≤ 100000) (hc : c ∉ f.2.1) (h9 : c < 900 ∨ 905 ≤ c) (hr : NR f c) (hok : gok f.2.1 lv st = true)
    (k9 : T E d y (pc + 3) lv (vr c :: st) (znew x c) (fnew f c n) Q) : T E d y pc lv (vi v :: st) x f Q := by
  refine T_stepN hc h9 hok (fun p e R s m args below meth c0 A H locs cells slots ls ad Q9 C hP hS hl h1 h2 kk => ?_) k9
  subst hN
  refine W.anewA (t := .int) C.1.1 C.1.2.1 C.1.2.2.2.1 (C.1.2.2.2.2 _ hw) C.2.2.2.1.2.1.2.2.2.2.2 rfl hd rfl hv (by omega) h1 h2 (fun cA kA comp f1 f2 f3 f4 => ?_)
  generalize hH1 : H.push ({ cls := cA, slots := Array.replicate v.toNatClampNeg .null, vm := .none } : Cell) = H1
  have z1 : H1.size = H.size + 1 := by rw [← hH1, Array.size_push]
  have e1 : H1[H.size]? = some (arrV cA v.toNatClampNeg (fun _ => .null)) := by rw [← hH1, Array.getElem?_push_size, ← arrV_new]
  have o1 : ∀ q : Nat, q < H.size → H1[q]? = H[q]? := fun q hq => by rw [← hH1, Array.getElem?_push, if_neg (Nat.ne_of_lt hq)]
  have hcA : cA = E.2.2.1 (.array .int) := Option.some.inj (Eq.trans (Eq.symm f1) (C.2.2.2.1.1.2 5 _ rfl).2)
  have e9 : gce E (znew x c) (fnew f c v.toNatClampNeg) (anew ad c H.size) c = .inl (cA, v.toNatClampNeg, .inr (.inr (.inr (.inr (fun _ => none))))) := by
    rw [gce_arr hK, hcA]
    show Sum.inl (_, _, Sum.inr (Sum.inr (Sum.inr (Sum.inr (fun j => ((fnew f c _).1 c j).map (anew ad c H.size)))))) = _
    have z2 : ∀ j, (fnew f c v.toNatClampNeg).1 c j = none := fun j => if_pos rfl
    simp only [z2]; rfl
  have hk : ∀ (k : Nat) (x9 : Nat × va_E), (gwl E x f ad)[k]? = some x9 → H1[x9.1]? = H[x9.1]? := fun k x9 hx => o1 x9.1 ((hP.1.1 k x9 hx).lt)
  refine kk H.size H1 ⟨⟨?_, ?_⟩, gad_new h9 hP.2⟩ ⟨Nat.le_trans hS.1 (by omega), fun x9 q1 q2 => (o1 x9 (Nat.lt_of_lt_of_le q1 hS.1)).trans (hS.2.1 x9 q1 q2), hS.2.2⟩
  · rw [gwl_new hc hr, e9]
    refine (hP.1.1.kept hk).app (fun k x9 hx => ?_)
    have hz : k < 1 := (List.getElem?_eq_some_iff.mp hx).1
    rw [show k = 0 by omega] at hx
    cases hx
    show H1[H.size]? = some (vp_cell _ _)
    rw [vp_cell_q]
    exact e1
  · rw [gwl_new hc hr, e9]; exact hP.1.2.push hP.1.1 rfl (C.2.2.2.2 _ hS.1)
/-! a reference is put -/
theorem gce_frf {ad : Nat → Nat} {c k c' : Nat} {v : Option Nat} (h : c' ≠ c) : gce E x (frf f c k v) ad c' = gce E x f ad c' := by
  have e : ∀ j, (frf f c k v).1 c' j = f.1 c' j := fun j => if_neg (fun q => h q.1)
  unfold gce gfl gar
  simp only [e]
theorem gfl_frf {ad : Nat → Nat} {c k : Nat} {v : Option Nat} {sl : List Bool} (hk : k < sl.length) (hs : sl.getD k false = true) : gfl x (frf f c k v) ad c sl = (gfl x f ad c sl).set k (va_rf (v.map ad)) := by
  apply List.ext_getElem?
  intro j
  by_cases hj : j = k
  · subst hj
    rw [List.getElem?_set_self (by rw [gfl_len]; exact hk), gfl_ref hk hs, show (frf f c j v).1 c j = v from if_pos ⟨rfl, rfl⟩]
  · rw [List.getElem?_set_ne (fun e => hj e.symm)]
    by_cases hl : j < sl.length
    · rw [gfl_at hl, gfl_at hl, show (frf f c k v).1 c j = f.1 c j from if_neg (fun q => hj q.2)]
    · rw [List.getElem?_eq_none (by rw [gfl_len]; omega), List.getElem?_eq_none (by rw [gfl_len]; omega)]
theorem T_stepR {pc2 : Nat} {st2 : List gv} {f2 : gf} (h2 : f2.2 = f.2)
    (h : ∀ (p : Program) (e : Env) (R : Room) (s : State) (m : MethodId) (args : Array Value) (below : List Frame) (meth : Method) (c : Code) (A : Nat → Prop) (H : Heap) (locs : List Loc) (cells slots : Nat) (ls : Array Slot) (ad : Nat → Nat) (Q9 : State → Prop), gC E d y p R s m args meth c A → gP E x f ad A H → va_S A s.heap H locs → lv_has ls y.2.2.1 (glc ad lv) →
      (∀ (H2 : Heap) (locs2 : List Loc), gP E x f2 ad A H2 → va_S A s.heap H2 locs2 → W p E.1 e R s m args below meth c H2 locs2 cells slots Q9 (F0 m pc2 ls (st2.map (gcv ad)))) → W p E.1 e R s m args below meth c H locs cells slots Q9 (F0 m pc ls (st.map (gcv ad))))
    (k : T E d y pc2 lv st2 x f2 Q) : T E d y pc lv st x f Q := by
  obtain ⟨o, x', f', h1, h3, h4⟩ := k
  have hg : gle f f' := by unfold gle at h3 ⊢; rw [h2] at h3; exact h3
  refine ⟨o, x', f', h1, hg, ?_⟩
  intro p e R s m args below meth c A H locs cells slots ls ad C hP hS hl hc hs
  refine h p e R s m args below meth c A H locs cells slots ls ad _ C hP hS hl (fun H2 locs2 hP2 hS2 => ?_)
  have hw := h4 p e R s m args below meth c A H2 locs2 cells slots ls ad C hP2 hS2 hl (by rw [h2]; exact hc) (by rw [h2]; exact hs)
  intro T9 hT X
  obtain ⟨t2, s1, s2⟩ := hw T9 hT X
  rw [h2] at s2
  refine ⟨t2, s1, vx_MQ_mono s2 (fun _ _ _ _ q => ?_) (fun _ _ _ q => ?_)⟩
  · obtain ⟨ad2, g1, g2⟩ := q; exact ⟨ad2, by unfold gex at g1 ⊢; rw [h2] at g1; exact g1, g2⟩
  · obtain ⟨ad2, g1, g2⟩ := q; exact ⟨ad2, by unfold gex at g1 ⊢; rw [h2] at g1; exact g1, g2⟩
theorem T_putR (c k e9 : Nat) {ci N idx : Nat} {sl : List Bool} {ty : FieldType} (hd : decode y.2.1 pc = .ok (.putfield idx, 3)) (hf : gFl y.1.cls idx ci k ty false N) (hK : E.2.2.2.1 c = .inl (ci, sl)) (hc : c ∈ f.2.1) (hk : k < sl.length) (hs : sl.getD k false = true) (hn : ∀ a : Nat, narrow ty (.ref a) = .ref a ∧ fits ty (.ref a) = true)
    (k9 : T E d y (pc + 3) lv st x (frf f c k (some e9)) Q) : T E d y pc lv (vr e9 :: vr c :: st) x f Q :=
  T_stepR (f2 := frf f c k (some e9)) rfl (fun p e R s m args below meth c0 A H locs cells slots ls ad Q9 C hP hS hl kk => by
    obtain ⟨C0, U, h1, h2, h3, h4, h5, h6, ⟨ty0, h7⟩, h8⟩ := hf
    obtain ⟨i, hi0, hi⟩ := gwl_at (E := E) (x := x) (ad := ad) hc
    rw [gce_obj hK] at hi
    have he : (gwl E x f ad).set i (ad c, .inr (ci, (gfl x f ad c sl).set k (.ref (ad e9)))) = gwl E x (frf f c k (some e9)) ad := by
      have e0 : (gfl x f ad c sl).set k (.ref (ad e9)) = gfl x (frf f c k (some e9)) ad c sl := by rw [gfl_frf hk hs]; rfl
      rw [e0, ← gce_obj (E := E) hK]
      exact gwl_set (G := fun c' => (ad c', gce E x (frf f c k (some e9)) ad c')) hi0 (gwl_one hP.1.2 hi0) (fun c' hne => by rw [gce_frf hne])
    refine va_put (C := C0) (T := U) (N := N) C.1.1 C.1.2.1 C.1.2.2.2.2 h2 ty0 h7 h8 C.1.2.2.2.1 C.2.2.2.1.1 hP.1.1 hP.1.2 hS i hi h1 k h3 (C.1.2.2.2.2 _ h4) (fun _ h => h) h6 h5 (hn _).1 (hn _).2 (by rw [gfl_len]; exact hk) hd (fun H2 locs2 hP2 hD2 hS2 => kk H2 locs2 ⟨⟨?_, ?_⟩, hP.2⟩ hS2)
    · rw [← he]; exact hP2
    · rw [← he]; exact hD2) k9
theorem T_putRF (c k e9 : Nat) {ci N idx : Nat} {sl : List Bool} {ty : FieldType} (hd : decode y.2.1 pc = .ok (.putfield idx, 3)) (hin : y.1.name = "<init>") (hf : gFl y.1.cls idx ci k ty true N) (hK : E.2.2.2.1 c = .inl (ci, sl)) (hc : c ∈ f.2.1) (hk : k < sl.length) (hs : sl.getD k false = true) (hn : ∀ a : Nat, narrow ty (.ref a) = .ref a ∧ fits ty (.ref a) = true) (hde : ∀ r : vw_C, vwCl[ci]? = some r → (r.2.1 k).1 = y.1.cls)
    (k9 : T E d y (pc + 3) lv st x (frf f c k (some e9)) Q) : T E d y pc lv (vr e9 :: vr c :: st) x f Q :=
  T_stepR (f2 := frf f c k (some e9)) rfl (fun p e R s m args below meth c0 A H locs cells slots ls ad Q9 C hP hS hl kk => by
    obtain ⟨C0, U, h1, h2, h3, h4, h5, h6, ⟨ty0, h7⟩, h8⟩ := hf
    obtain ⟨i, hi0, hi⟩ := gwl_at (E := E) (x := x) (ad := ad) hc
    rw [gce_obj hK] at hi
    have he : (gwl E x f ad).set i (ad c, .inr (ci, (gfl x f ad c sl).set k (.ref (ad e9)))) = gwl E x (frf f c k (some e9)) ad := by
      have e0 : (gfl x f ad c sl).set k (.ref (ad e9)) = gfl x (frf f c k (some e9)) ad c sl := by rw [gfl_frf hk hs]; rfl
      rw [e0, ← gce_obj (E := E) hK]
      exact gwl_set (G := fun c' => (ad c', gce E x (frf f c k (some e9)) ad c')) hi0 (gwl_one hP.1.2 hi0) (fun c' hne => by rw [gce_frf hne])
    refine va_putF (C := C0) (T := U) (N := N) C.1.1 C.1.2.1 C.1.2.2.2.2 h2 ty0 h7 h8 C.1.2.2.2.1 C.2.2.2.1.1 hP.1.1 hP.1.2 hS i hi h1 k h3 (C.1.2.2.2.2 _ h4) (fun _ h => h) h6 (by rw [C.2.1.2.2.2]; exact hin) (hde _ h1) h5 (hn _).1 (hn _).2 (by rw [gfl_len]; exact hk) hd (fun H2 locs2 hP2 hD2 hS2 => kk H2 locs2 ⟨⟨?_, ?_⟩, hP.2⟩ hS2)
    · rw [← he]; exact hP2
    · rw [← he]; exact hD2) k9
/-! arrays of references are written -/
theorem gce_arf {ad : Nat → Nat} {c k n : Nat} {v : Option Nat} {ty : FieldType} (hK : E.2.2.2.1 c = .inr (ty, n)) (ht : ty = .array .int ∨ ty = .object "ScheduleHouse$Trial") : gce E x (frf f c k v) ad c = .inl (E.2.2.1 ty, n, .inr (.inr (.inr (.inr (va_up (fun j => (f.1 c j).map ad) k (v.map ad)))))) := by
  have e : (fun j => ((frf f c k v).1 c j).map ad) = va_up (fun j => (f.1 c j).map ad) k (v.map ad) := by
    funext j
    show (if c = c ∧ j = k then v else f.1 c j).map ad = (if j = k then v.map ad else (f.1 c j).map ad)
    by_cases hj : j = k
    · rw [if_pos ⟨rfl, hj⟩, if_pos hj]
    · rw [if_neg (fun q => hj q.2), if_neg hj]
  rw [gce_arr hK]
  rcases ht with rfl | rfl <;> (show Sum.inl (_, _, Sum.inr (Sum.inr (Sum.inr (Sum.inr (fun j => ((frf f c k v).1 c j).map ad))))) = _; rw [e])
theorem T_aastT (c e9 : Nat) {n : Nat} {sl : List Bool} {i : Int32} (hd : decode y.2.1 pc = .ok (.aastore, 1)) (hK : E.2.2.2.1 c = .inr (.object "ScheduleHouse$Trial", n)) (hc : c ∈ f.2.1) (hKe : E.2.2.2.1 e9 = .inl (10, sl)) (he9 : e9 ∈ f.2.1) (hin : vp_in i n)
    (k9 : T E d y (pc + 1) lv st x (frf f c i.toNatClampNeg (some e9)) Q) : T E d y pc lv (vr e9 :: vi i :: vr c :: st) x f Q :=
  T_stepR (f2 := frf f c i.toNatClampNeg (some e9)) rfl (fun p e R s m args below meth c0 A H locs cells slots ls ad Q9 C hP hS hl kk => by
    obtain ⟨i0, hi0, hi⟩ := gwl_at (E := E) (x := x) (ad := ad) hc
    obtain ⟨j0, hj0, hj⟩ := gwl_at (E := E) (x := x) (ad := ad) he9
    rw [gce_arr hK] at hi
    rw [gce_obj hKe] at hj
    have he : (gwl E x f ad).set i0 (ad c, .inl (E.2.2.1 (.object "ScheduleHouse$Trial"), n, .inr (.inr (.inr (.inr (va_up (fun j => (f.1 c j).map ad) i.toNatClampNeg (some (ad e9)))))))) = gwl E x (frf f c i.toNatClampNeg (some e9)) ad := by
      have e0 := gce_arf (x := x) (f := f) (ad := ad) (k := i.toNatClampNeg) (v := some e9) hK (Or.inr rfl)
      rw [show (some (ad e9) : Option Nat) = (some e9).map ad from rfl, ← e0]
      exact gwl_set (G := fun c' => (ad c', gce E x (frf f c i.toNatClampNeg (some e9)) ad c')) hi0 (gwl_one hP.1.2 hi0) (fun c' hne => by rw [gce_frf hne])
    obtain ⟨r, hr, hr1⟩ : ∃ r : vw_C, vwCl[10]? = some r ∧ r.1 = "ScheduleHouse$Trial" := ⟨_, rfl, rfl⟩
    refine va_astq (r := r) C.1.1 C.1.2.1 C.2.2.2.1.1 hP.1.1 hP.1.2 hS i0 4 j0 10 hi (by rw [hr1]; rfl) hj hr hin hd (fun H2 locs2 hP2 hD2 hS2 => kk H2 locs2 ⟨⟨?_, ?_⟩, hP.2⟩ hS2)
    · rw [← he]; exact hP2
    · rw [← he]; exact hD2) k9
theorem T_aastA (c e9 : Nat) {n n9 : Nat} {i : Int32} (hd : decode y.2.1 pc = .ok (.aastore, 1)) (hK : E.2.2.2.1 c = .inr (.array .int, n)) (hc : c ∈ f.2.1) (hKe : E.2.2.2.1 e9 = .inr (.int, n9)) (he9 : e9 ∈ f.2.1) (hin : vp_in i n)
    (k9 : T E d y (pc + 1) lv st x (frf f c i.toNatClampNeg (some e9)) Q) : T E d y pc lv (vr e9 :: vi i :: vr c :: st) x f Q :=
  T_stepR (f2 := frf f c i.toNatClampNeg (some e9)) rfl (fun p e R s m args below meth c0 A H locs cells slots ls ad Q9 C hP hS hl kk => by
    obtain ⟨i0, hi0, hi⟩ := gwl_at (E := E) (x := x) (ad := ad) hc
    obtain ⟨j0, hj0, hj⟩ := gwl_at (E := E) (x := x) (ad := ad) he9
    rw [gce_arr hK] at hi
    rw [gce_arr hKe] at hj
    have hi : (gwl E x f ad)[i0]? = some (ad c, .inl (E.2.2.1 (.array .int), n, .inr (.inr (.inr (.inr (fun j => (f.1 c j).map ad)))))) := hi
    have he : (gwl E x f ad).set i0 (ad c, .inl (E.2.2.1 (.array .int), n, .inr (.inr (.inr (.inr (va_up (fun j => (f.1 c j).map ad) i.toNatClampNeg (some (ad e9)))))))) = gwl E x (frf f c i.toNatClampNeg (some e9)) ad := by
      have e0 := gce_arf (x := x) (f := f) (ad := ad) (k := i.toNatClampNeg) (v := some e9) hK (Or.inl rfl)
      rw [show (some (ad e9) : Option Nat) = (some e9).map ad from rfl, ← e0]
      exact gwl_set (G := fun c' => (ad c', gce E x (frf f c i.toNatClampNeg (some e9)) ad c')) hi0 (gwl_one hP.1.2 hi0) (fun c' hne => by rw [gce_frf hne])
    have hlt : i.toNatClampNeg < n := Nat.not_le.mp fun q => hin (Or.inr q)
    have h0 : ¬ i < 0 := fun q => hin (Or.inl q)
    obtain ⟨comp, cA, kA, p1, -, p3, p4, p5⟩ := arrayOver_specB C.2.2.2.1.2.1.2.2.2.2.2
    have hcA : cA = E.2.2.1 (.array .int) := Option.some.inj (Eq.trans (Eq.symm p5) (C.2.2.2.1.1.2 5 _ rfl).2)
    have hcp : comp = E.2.2.1 .int := Option.some.inj (Eq.trans (Eq.symm p1) (C.2.2.2.1.1.2 0 _ rfl).2)
    subst hcA
    subst hcp
    obtain ⟨-, kI, hkI, cI, hkind⟩ := (C.2.2.2.1.1.2 0 _ rfl).1 n9 (fun j => .int (x.1 e9 j))
    have hV : H[ad e9]? = some (arrV (E.2.2.1 .int) n9 (fun j => .int (x.1 e9 j))) := by have h9 := hP.1.1 j0 _ hj; exact h9
    refine W.aast C.1.1 C.1.2.1 (hP.1.1 i0 _ hi) (fun q h => by cases h) (fun h => by cases h) p3 p4 rfl hkI ⟨h0, by show _ < (arrV _ _ _).slots.size; rw [arrV_size]; exact hlt⟩ hV (fun q h => by cases h) hkI ?_ rfl rfl hd (fun H1 e1 z1 oq => ?_)
    · show s.vm.assignable (E.2.2.1 .int) (E.2.2.1 .int) = true
      unfold Vm.assignable
      rw [show (256 : Nat) = 255 + 1 from rfl, Vm.assignableAux, beq_self_eq_true, Bool.true_or]
    · refine kk H1 _ ⟨⟨?_, ?_⟩, hP.2⟩ (hS.put z1 oq (hP.1.2.2 i0 _ hi))
      · rw [← he]
        refine hP.1.1.set hP.1.2 hi ?_ oq
        show H1[ad c]? = some (vp_cell _ _)
        rw [e1]
        rw [vp_cell_q, vp_cell_q, arrV_store]
        congr 2
        funext q
        by_cases hq : q = i.toNatClampNeg
        · subst hq
          simp [updV, va_up, va_rf]
        · simp [updV, va_up, hq]
      · rw [← he]; exact hP.1.2.set hi) k9
/-! constructors -/
theorem T_objInit {c idx : Nat} (hd : decode y.2.1 pc = .ok (.invokespecial idx, 3)) (hw : Cond.methodLink y.1.cls idx Lib.objectInit ∈ W0 ∧ Cond.instanceMethod Lib.objectInit ∈ W0 ∧ Cond.code Lib.objectInit ⟨#[0xb1]⟩ 1 none ∈ W0) (hd1 : 1 ≤ d) (hcat : gsz st ≤ 8)
    (k9 : T E d y (pc + 3) lv st x f Q) : T E d y pc lv (vr c :: st) x f Q :=
  T_step (fun p e R s m args below meth c0 A H locs cells slots ls ad Q9 C hP hS hl kk => by
    have hR1 := C.2.2.1.1
    have hR2 := C.2.2.1.2
    refine W.objInit C.1.1 C.1.2.1 C.1.2.2.2.1 (C.1.2.2.2.2 _ hw.1) (C.1.2.2.2.2 _ hw.2.1) (C.1.2.2.2.2 _ hw.2.2) rfl (by rw [C.1.2.2.1]; exact hl.1) rfl hd (by omega) ?_ ?_
    · show 2 * 0 + ((st.map (gcv ad)).map fun v => v.category).sum + 12 ≤ R.locals
      rw [gsz_c]; omega
    · exact kk ls hl) k9
/-- what the tables say of a constructor -/
def gMi (own : String) (idx : Nat) (z : gy) (n : Nat) : Prop := (Cond.methodLink own idx z.1 ∈ W0 ∧ Cond.instanceMethod z.1 ∈ W0 ∧ Cond.initialized z.1.cls ∈ W0 ∧ gcw z ∈ W0) ∧ (z.1.cls ≠ "java/lang/invoke/MethodHandle" ∧ z.1.cls ≠ "java/lang/invoke/VarHandle" ∧ (parseMethodDescriptor z.1.desc).map (fun d => d.parameters.length) = some n) ∧ (plainName z.1.cls = true ∧ z.1.name = "<init>") ∧ z.2.2.1 ≤ 22 ∧ z.2.2.2 = (none, [])
/-- a call that returns, once its run is known -/
theorem T_run1 {d1 : Nat} {As : List gv} {rest : List gv} (hlt9 : gok f.2.1 lv rest = true)
    (hrun : ∀ (x1 : gd) (f1 : gf), gle f f1 → gW E d1 z 0 (glv 0 As) [] x f (.inl none) x1 f1 → ∀ (p : Program) (e : Env) (R : Room) (s : State) (m : MethodId) (args : Array Value) (below : List Frame) (meth : Method) (c : Code) (A : Nat → Prop) (H : Heap) (locs : List Loc) (cells slots : Nat) (ls : Array Slot) (ad : Nat → Nat), gC E d y p R s m args meth c A → gP E x f ad A H → va_S A s.heap H locs → lv_has ls y.2.2.1 (glc ad lv) → cells + (f1.2.2.1 - f.2.2.1) ≤ R.cells → slots + (f1.2.2.2 - f.2.2.2) ≤ R.slots →
      va_Run p E.1 e R s m args below meth c H locs cells slots (f1.2.2.1 - f.2.2.1) (f1.2.2.2 - f.2.2.2) (F0 m pc ls (st.map (gcv ad))) (rest.map (gcv ad)) (gQc E (gA f ad H.size) f ad (.inl none) x1 f1 (As.map (gcv ad)).toArray) (gA f ad H.size))
    (k : T E d1 z 0 (glv 0 As) [] x f (fun o x1 f1 => o = .inl none ∧ T E d y (pc + 3) lv rest x1 f1 Q)) : T E d y pc lv st x f Q := by
  obtain ⟨o1, x1, f1, ⟨rfl, hk⟩, hle, hw1⟩ := k
  have hlv : lv.all (fun q => gokv f.2.1 q.2) = true := (Bool.and_eq_true _ _ ▸ hlt9).1
  have hrs : rest.all (gokv f.2.1) = true := (Bool.and_eq_true _ _ ▸ hlt9).2
  obtain ⟨o, x', f', hQ, hle2, hw2⟩ := hk
  refine ⟨o, x', f', hQ, gle_tr hle hle2, ?_⟩
  intro p e R s m args below meth c A H locs cells slots ls ad C hP hS hl hc hs T9 hT X
  have a1 := hle.2.1
  have a2 := hle.2.2
  have b1 := hle2.2.1
  have b2 := hle2.2.2
  obtain ⟨v', st₀, t, T', L, h0, X', hL, e1, e2, ⟨ad1, hex, ⟨v2, ev1, ev2⟩, hP1, hF⟩, stp⟩ := hrun x1 f1 hle hw1 p e R s m args below meth c A H locs cells slots ls ad C hP hS hl (by omega) (by omega) T9 hT X
  cases ev1
  cases ev2
  have hin := gA_in (sz := H.size) hP (fun q hq => C.2.2.2.2 q (Nat.le_trans hS.1 hq))
  obtain ⟨k1, k2, k3⟩ := vx_keep h0 e1 hS (fun q _ h => hin q h) hin hL hF
  have hP2 : gP E x1 f1 ad1 A T'.heap := by rw [e1]; exact gP_w hP1 hin
  have hl2 : lv_has ls y.2.2.1 (glc ad1 lv) := by rw [glc_live hex hlv]; exact hl
  have hw3 := hw2 p e R s m args below meth c A T'.heap (locs ++ L) (cells + (f1.2.2.1 - f.2.2.1)) (slots + (f1.2.2.2 - f.2.2.2)) ls ad1 C hP2 k3 hl2 (by omega) (by omega)
  rw [gst_live hex hrs] at hw3
  rw [show cells + (f1.2.2.1 - f.2.2.1) + (f'.2.2.1 - f1.2.2.1) = cells + (f'.2.2.1 - f.2.2.1) by omega, show slots + (f1.2.2.2 - f.2.2.2) + (f'.2.2.2 - f1.2.2.2) = slots + (f'.2.2.2 - f.2.2.2) by omega] at hw3
  obtain ⟨t2, s1, s2⟩ := hw3 T' rfl X'
  refine ⟨t2, stp t2 s1, vx_MQ_mono s2 (fun _ _ _ _ q => ?_) (fun _ _ _ q => ?_)⟩
  · obtain ⟨ad2, g1, g2⟩ := q; exact ⟨ad2, gex_tr hle hex g1, g2⟩
  · obtain ⟨ad2, g1, g2⟩ := q; exact ⟨ad2, gex_tr hle hex g1, g2⟩
theorem gM_ofI {av : List gv} {x' : gd} {f' : gf} (hlt : E.1.stackTraces = false) (hy : plainName y.1.cls = true) (hfit : gsz av ≤ y.2.2.1) (h : gW E d y 0 (glv 0 av) [] x f (.inl none) x' f') (ad : Nat → Nat) (sz : Nat) :
    Met E.1 y.1 (gws y) ({ frames := d, cells := f'.2.2.1 - f.2.2.1, slots := f'.2.2.2 - f.2.2.2, locals := 41 * d }) (va_Pc (av.map (gcv ad)) (gst E x f ad sz)) (gQc E (gA f ad sz) f ad (.inl none) x' f') (f'.2.2.1 - f.2.2.1) (f'.2.2.2 - f.2.2.2) (gA f ad sz) := by
  have hM := gM_of hlt hy hfit h ad sz
  intro p e h1 h2 h3 s m args below hf happ hP hK
  obtain ⟨n, o, a1, a2, a3, hQ⟩ := hM p e h1 h2 h3 s m args below hf happ hP hK
  refine ⟨n, o, a1, a2, a3, ?_⟩
  rcases hQ with q | ⟨q, -, E0, ce, L, ⟨ad1, -, hn, -⟩, -⟩
  · exact q
  · cases hn
theorem T_callI {c idx n : Nat} (As rest : List gv) (d1 : Nat) (hst : st = As.reverse ++ vr c :: rest) (hd : decode y.2.1 pc = .ok (.invokespecial idx, 3)) (hM : gMi y.1.cls idx z n) (hn : As.length = n) (hd1 : d1 + 1 ≤ d) (hfit : gsz (vr c :: As) ≤ z.2.2.1) (hcat : gsz rest ≤ 8) (hok : gok f.2.1 lv rest = true)
    (k : T E d1 z 0 (glv 0 (vr c :: As)) [] x f (fun o x1 f1 => o = .inl none ∧ T E d y (pc + 3) lv rest x1 f1 Q)) : T E d y pc lv st x f Q := by
  obtain ⟨⟨m1, m2, m4, m5⟩, m6, ⟨m7, m10⟩, m8, m9⟩ := hM
  refine T_run1 (z := z) (d1 := d1) (As := vr c :: As) (rest := rest) hok ?_ k
  intro x1 f1 hle hw p e R s m args below meth c0 A H locs cells slots ls ad C hP hS hl hc1 hs1
  have hroom : 8 + (z.2.2.1 + 11) + 41 * d1 ≤ R.locals := by
    have hq := C.2.2.1.2
    omega
  have hstk : st.map (gcv ad) = (As.map (gcv ad)).reverse ++ Value.ref (ad c) :: rest.map (gcv ad) := by
    rw [hst, List.map_append, List.map_reverse]
    rfl
  have hz : z.2.2.2.2 = [] := by rw [m9]
  have hz1 : z.2.2.2.1 = none := by rw [m9]
  exact va_runI (As := As.map (gcv ad)) (b := ad c) (Pc := va_Pc ((vr c :: As).map (gcv ad)) (gst E x f ad H.size)) ⟨C.1.1, C.1.2.1, C.1.2.2.1, C.1.2.2.2.1, C.1.2.2.2.2⟩ (gM_ofI C.2.2.2.1.2.2.2 m7 hfit hw ad H.size)
      ⟨callB_of (bytes := z.2.1) (maxL := z.2.2.1) (ret := none) (ws' := W0) n C.1.2.2.2.2 (gwsz m5) (by rw [gws, gcw, hz, hz1]) rfl rfl (C.1.2.2.2.2 _ m4) (C.1.2.2.2.2 _ m1) m6 ⟨Nat.le_trans hd1 C.2.2.1.1, hroom⟩, m10, C.1.2.2.2.2 _ m2⟩ ⟨gst_blind, fun U hU hW => ⟨rfl, gst_in C hP hS hU hW⟩⟩ rfl (by rw [List.length_map]; exact hn) hl.1 hstk (lv_room (by rw [gsz_c]; exact hcat)) hd ⟨hc1, hs1⟩
/-- the constructor of a deed, called by a machine's (nest mates) -/
theorem T_callN {c idx n : Nat} (As rest : List gv) (d1 : Nat) (hst : st = As.reverse ++ vr c :: rest) (hd : decode y.2.1 pc = .ok (.invokespecial idx, 3)) (hown : y.1.cls = RX5) (hidx : idx = 24) (hz0 : z.1 = yX1_init) (hM : (Cond.instanceMethod z.1 ∈ W0 ∧ Cond.initialized z.1.cls ∈ W0 ∧ gcw z ∈ W0) ∧ (z.1.cls ≠ "java/lang/invoke/MethodHandle" ∧ z.1.cls ≠ "java/lang/invoke/VarHandle" ∧ (parseMethodDescriptor z.1.desc).map (fun d => d.parameters.length) = some n) ∧ (plainName z.1.cls = true ∧ z.1.name = "<init>") ∧ z.2.2.1 ≤ 22 ∧ z.2.2.2 = (none, [])) (hn : As.length = n) (hd1 : d1 + 1 ≤ d) (hfit : gsz (vr c :: As) ≤ z.2.2.1) (hcat : gsz rest ≤ 8) (hok : gok f.2.1 lv rest = true)
    (k : T E d1 z 0 (glv 0 (vr c :: As)) [] x f (fun o x1 f1 => o = .inl none ∧ T E d y (pc + 3) lv rest x1 f1 Q)) : T E d y pc lv st x f Q := by
  obtain ⟨⟨m2, m4, m5⟩, m6, ⟨m7, m10⟩, m8, m9⟩ := hM
  refine T_run1 (z := z) (d1 := d1) (As := vr c :: As) (rest := rest) hok ?_ k
  intro x1 f1 hle hw p e R s m args below meth c0 A H locs cells slots ls ad C hP hS hl hc1 hs1
  have hroom : 8 + (z.2.2.1 + 11) + 41 * d1 ≤ R.locals := by
    have hq := C.2.2.1.2
    omega
  have hstk : st.map (gcv ad) = (As.map (gcv ad)).reverse ++ Value.ref (ad c) :: rest.map (gcv ad) := by
    rw [hst, List.map_append, List.map_reverse]
    rfl
  have hz : z.2.2.2.2 = [] := by rw [m9]
  have hz1 : z.2.2.2.1 = none := by rw [m9]
  have hl9 : va_Nw (.methodLinkNest y.1.cls idx z.1 "ScheduleHouse") s := by rw [hown, hidx, hz0]; exact C.2.2.2.1.2.1.2.2.2.2.1
  exact va_runIN (As := As.map (gcv ad)) (b := ad c) (Pc := va_Pc ((vr c :: As).map (gcv ad)) (gst E x f ad H.size)) ⟨C.1.1, C.1.2.1, C.1.2.2.1, C.1.2.2.2.1, C.1.2.2.2.2⟩ (gM_ofI C.2.2.2.1.2.2.2 m7 hfit hw ad H.size)
      ⟨va_cnB (bytes := z.2.1) (maxL := z.2.2.1) (ret := none) (ws' := W0) n C.1.2.2.2.2 (gwsz m5) (by rw [gws, gcw, hz, hz1]) rfl rfl hl9 (C.1.2.2.2.2 _ m4) m6 ⟨Nat.le_trans hd1 C.2.2.1.1, hroom⟩, m10, C.1.2.2.2.2 _ m2⟩ ⟨gst_blind, fun U hU hW => ⟨rfl, gst_in C hP hS hU hW⟩⟩ rfl (by rw [List.length_map]; exact hn) hl.1 hstk (lv_room (by rw [gsz_c]; exact hcat)) hd ⟨hc1, hs1⟩
/-! thirteen rows of fourteen, made at once -/
def gcl (i : Nat) : Nat := if i = 0 then 190 else 299 + i
abbrev isG (c : Nat) : Prop := c = 190 ∨ (300 ≤ c ∧ c < 313)
def zgrid (x : gd) : gd := (fun c => if isG c then fun _ => 0 else x.1 c, fun c => if isG c then fun _ => 0 else x.2 c)
def fgrid (f : gf) : gf := (fun c k => if isG c then (if c = 190 ∧ k < 13 then some (300 + k) else none) else f.1 c k, f.2.1 ++ (List.range 14).map gcl, f.2.2.1 + 14, f.2.2.2 + 195)
def agrid (ad : Nat → Nat) (h : Nat) : Nat → Nat := fun c => if isG c then (if c = 190 then h else h + (c - 299)) else ad c
theorem gcl_G {i : Nat} (h : i < 14) : isG (gcl i) := by
  unfold isG gcl
  by_cases h0 : i = 0
  · rw [if_pos h0]; exact Or.inl rfl
  · rw [if_neg h0]; exact Or.inr (by omega)
theorem agrid_g {ad : Nat → Nat} {h i : Nat} (hi : i < 14) : agrid ad h (gcl i) = h + i := by
  unfold agrid
  rw [if_pos (gcl_G hi)]
  unfold gcl
  by_cases h0 : i = 0
  · rw [if_pos h0, if_pos rfl, h0]; rfl
  · rw [if_neg h0, if_neg (by omega)]; omega
theorem fgrid_le : gle f (fgrid f) := ⟨fun c h => List.mem_append_left _ h, Nat.le_add_right _ _, Nat.le_add_right _ _⟩
theorem va_Dapp {A : Nat → Prop} {ws : va_W} {D : va_G} {cl : List vw_C} {H : Heap} {N : Nat} {en : Nat → va_E} (hD : va_D A ws) (hP : va_P D cl ws H) (hA : ∀ q, H.size ≤ q → A q) : va_D A (ws ++ (List.range N).map (fun i => (H.size + i, en i))) := by
  have key : ∀ (k : Nat) (q : Nat × va_E), (ws ++ (List.range N).map (fun i => (H.size + i, en i)))[k]? = some q → (ws[k]? = some q ∧ q.1 < H.size) ∨ (ws.length ≤ k ∧ q.1 = H.size + (k - ws.length)) := by
    intro k q hk
    by_cases hl : k < ws.length
    · rw [List.getElem?_append_left hl] at hk
      exact Or.inl ⟨hk, (hP k q hk).lt⟩
    · rw [List.getElem?_append_right (by omega), List.getElem?_map] at hk
      cases hr : (List.range N)[k - ws.length]? with
      | none => rw [hr] at hk; cases hk
      | some j =>
        rw [hr] at hk
        obtain ⟨hlt, hj⟩ := List.getElem?_eq_some_iff.mp hr
        rw [List.getElem_range] at hj
        cases hk
        exact Or.inr ⟨by omega, by rw [← hj]⟩
  refine ⟨fun i j p q hi hj e => ?_, fun k q hk => ?_⟩
  · rcases key i p hi with ⟨a1, a2⟩ | ⟨a1, a2⟩ <;> rcases key j q hj with ⟨b1, b2⟩ | ⟨b1, b2⟩
    · exact hD.1 i j p q a1 b1 e
    · omega
    · omega
    · omega
  · rcases key k q hk with ⟨a1, a2⟩ | ⟨a1, a2⟩
    · exact hD.2 k q a1
    · rw [a2]; exact hA _ (Nat.le_add_right _ _)
theorem gce_grid {ad : Nat → Nat} {h c' : Nat} (hne : ¬ isG c') (hn : ∀ j c, isG c → f.1 c' j ≠ some c) : gce E (zgrid x) (fgrid f) (agrid ad h) c' = gce E x f ad c' := by
  have e1 : (zgrid x).1 c' = x.1 c' := if_neg hne
  have e2 : (zgrid x).2 c' = x.2 c' := if_neg hne
  have e3 : ∀ j, ((fgrid f).1 c' j).map (agrid ad h) = (f.1 c' j).map ad := fun j => by
    show (if isG c' then _ else f.1 c' j).map _ = _
    rw [if_neg hne]
    cases hr : f.1 c' j with
    | none => rfl
    | some b =>
      show some (agrid ad h b) = some (ad b)
      unfold agrid
      rw [if_neg (fun q => hn j b q hr)]
  unfold gce gfl gar
  rw [e1, e2]
  simp only [e3]
theorem gwl_grid {ad : Nat → Nat} {h : Nat} (hc : ∀ c ∈ f.2.1, ¬ isG c) (hr : ∀ c' ∈ f.2.1, ∀ j c, isG c → f.1 c' j ≠ some c) : gwl E (zgrid x) (fgrid f) (agrid ad h) = gwl E x f ad ++ (List.range 14).map (fun i => (h + i, gce E (zgrid x) (fgrid f) (agrid ad h) (gcl i))) := by
  unfold gwl
  show (f.2.1 ++ (List.range 14).map gcl).map _ = _
  rw [List.map_append]
  congr 1
  · apply List.map_congr_left
    intro c' h'
    rw [gce_grid (hc c' h') (hr c' h'), show agrid ad h c' = ad c' from if_neg (hc c' h')]
theorem cell_ext : ∀ a b : Cell, a.cls = b.cls → a.slots = b.slots → a.vm = b.vm → a.monitor = b.monitor → a.hash = b.hash → a = b
  | ⟨_, _, _, _, _⟩, ⟨_, _, _, _, _⟩, rfl, rfl, rfl, rfl, rfl => rfl
theorem outer_mh (cA : ClassId) (N h : Nat) : ∀ i, (Jvm.Free.Multi.outerC cA N h i).monitor = ({} : Monitor) ∧ (Jvm.Free.Multi.outerC cA N h i).hash = none
  | 0 => ⟨rfl, rfl⟩
  | i + 1 => outer_mh cA N h i
theorem outer_eq (cA : ClassId) (h : Nat) : Jvm.Free.Multi.outerC cA 13 h 13 = arrV cA 13 (fun j => va_rf (if j < 13 then some (h + 1 + j) else none)) := by
  obtain ⟨a1, a2, a3⟩ := Jvm.Free.Multi.outerC_facts cA 13 h 13
  obtain ⟨a4, a5⟩ := outer_mh cA 13 h 13
  refine cell_ext _ _ a1 ?_ a2 a4 a5
  apply Array.ext_getElem?
  intro j
  by_cases hj : j < 13
  · rw [Jvm.Free.Multi.outerC_slot cA 13 h 13 j hj, arrV_read _ _ hj, if_pos hj, if_pos hj]; rfl
  · rw [Array.getElem?_eq_none (by rw [a3]; omega), Array.getElem?_eq_none (by rw [arrV_size]; omega)]
theorem T_grid {idx : Nat} (hd : decode y.2.1 pc = .ok (.multianewarray idx 2, 4)) (hw : Cond.classLink y.1.cls idx "[[I" ∈ W0) (ha : Cond.arrayClass .int ∈ W0) (hK : E.2.2.2.1 190 = .inr (.array .int, 13)) (hKi : ∀ j, j < 13 → E.2.2.2.1 (300 + j) = .inr (.int, 14)) (hc : ∀ c ∈ f.2.1, ¬ isG c) (hr : ∀ c' ∈ f.2.1, ∀ j c, isG c → f.1 c' j ≠ some c) (hok : gok f.2.1 lv st = true)
    (k9 : T E d y (pc + 4) lv (vr 190 :: st) (zgrid x) (fgrid f) Q) : T E d y pc lv (vi 14 :: vi 13 :: st) x f Q := by
  obtain ⟨o, x', f', h1, h2, h3⟩ := k9
  refine ⟨o, x', f', h1, gle_tr fgrid_le h2, ?_⟩
  intro p e R s m args below meth c0 A H locs cells slots ls ad C hP hS hl hcc hss
  have b1 : f.2.2.1 + 14 ≤ f'.2.2.1 := h2.2.1
  have b2 : f.2.2.2 + 195 ≤ f'.2.2.2 := h2.2.2
  have hlv : lv.all (fun q => gokv f.2.1 q.2) = true := (Bool.and_eq_true _ _ ▸ hok).1
  have hrs : st.all (gokv f.2.1) = true := (Bool.and_eq_true _ _ ▸ hok).2
  intro T9 hT X
  have k13 : (13 : Int32).toNatClampNeg = 13 := rfl
  have k14 : (14 : Int32).toNatClampNeg = 14 := rfl
  obtain ⟨vm₁, cA, comp, hW, hfA, hfC, hO, hI, X1, stp⟩ := X.multianewarray2F (ty := .int) C.1.1 C.1.2.2.2.1 (C.1.2.2.2.2 _ hw) C.2.2.2.1.2.1.2.2.2.2.2 (C.1.2.2.2.2 _ ha) (g := F0 m pc ls ((vi 14 :: vi 13 :: st).map (gcv ad))) rfl (by rw [C.1.2.1]; exact hd) (n := 13) (k := 14) rfl (by decide) (by decide) (by decide) (by decide) (by decide) (by decide) (by decide) (by rw [k13]; omega) (by rw [k13, k14]; omega)
  rw [k13, k14] at X1 stp
  have hcA : cA = E.2.2.1 (.array .int) := Option.some.inj (Eq.trans (Eq.symm hfA) (C.2.2.2.1.1.2 5 _ rfl).2)
  have hcp : comp = E.2.2.1 .int := Option.some.inj (Eq.trans (Eq.symm hfC) (C.2.2.2.1.1.2 0 _ rfl).2)
  obtain ⟨f1, f2, -, -⟩ := Jvm.Free.Multi.fill_facts (T9.setVm vm₁) cA comp 13 14 (defaultValue .int) 13
  have fo := fun (a : Addr) (ha : a < T9.heap.size) => Jvm.Free.Multi.fill_old (T9.setVm vm₁) cA comp 13 14 (defaultValue .int) (a := a) ha 13
  have fi := fun (j : Nat) (hj : j < 13) => Jvm.Free.Multi.fill_inner (T9.setVm vm₁) cA comp 13 14 (defaultValue .int) 13 j hj
  generalize hF9 : Jvm.Free.Multi.fill (T9.setVm vm₁) cA comp 13 14 (defaultValue .int) 13 = F9 at *
  have hH : (T9.setVm vm₁).heap = H := hT
  rw [hH] at f1 f2 fo fi
  rw [hT] at fo
  have hex : gex f ad (agrid ad H.size) := ⟨fun c' h' => if_neg (hc c' h'), fun i hi => if_neg (by unfold isG; omega)⟩
  have hgad : gad E (agrid ad H.size) := fun i hi => by unfold agrid; rw [if_neg (by unfold isG; omega)]; exact hP.2 i hi
  have hAA : ∀ q : Nat, H.size ≤ q → A q := fun q hq => C.2.2.2.2 q (Nat.le_trans hS.1 hq)
  have hk : ∀ (k : Nat) (x9 : Nat × va_E), (gwl E x f ad)[k]? = some x9 → F9.heap[x9.1]? = H[x9.1]? := fun k x9 hx => fo x9.1 ((hP.1.1 k x9 hx).lt)
  have hP2 : gP E (zgrid x) (fgrid f) (agrid ad H.size) A F9.heap := by
    refine ⟨⟨?_, ?_⟩, hgad⟩
    · rw [gwl_grid hc hr]
      refine (hP.1.1.kept hk).app (fun k x9 hx => ?_)
      rw [List.getElem?_map] at hx
      cases hr9 : (List.range 14)[k]? with
      | none => rw [hr9] at hx; cases hx
      | some j =>
        rw [hr9] at hx
        have hj : j < 14 := List.mem_range.mp (List.mem_of_getElem? hr9)
        cases hx
        by_cases h0 : j = 0
        · subst h0
          have e9 : gce E (zgrid x) (fgrid f) (agrid ad H.size) (gcl 0) = .inl (cA, 13, .inr (.inr (.inr (.inr (fun j => if j < 13 then some (H.size + 1 + j) else none))))) := by
            show gce E (zgrid x) (fgrid f) (agrid ad H.size) 190 = _
            rw [gce_arr hK, hcA]
            have z2 : (fun j => ((fgrid f).1 190 j).map (agrid ad H.size)) = fun j => if j < 13 then some (H.size + 1 + j) else none := by
              funext j
              show (if isG 190 then (if 190 = 190 ∧ j < 13 then some (300 + j) else none) else f.1 190 j).map _ = _
              rw [if_pos (show isG 190 from Or.inl rfl)]
              by_cases hj : j < 13
              · rw [if_pos ⟨rfl, hj⟩, if_pos hj]
                show some (agrid ad H.size (300 + j)) = _
                have : agrid ad H.size (300 + j) = H.size + (1 + j) := by
                  have := agrid_g (ad := ad) (h := H.size) (i := 1 + j) (by omega)
                  rw [← this]; unfold gcl; rw [if_neg (by omega)]; congr 1; omega
                rw [this]; congr 1; omega
              · rw [if_neg (fun q => hj q.2), if_neg hj]; rfl
            show Sum.inl (_, _, Sum.inr (Sum.inr (Sum.inr (Sum.inr (fun j => ((fgrid f).1 190 j).map (agrid ad H.size)))))) = _
            rw [z2]
          show va_at E.2.1 vwCl (H.size + 0, gce E (zgrid x) (fgrid f) (agrid ad H.size) (gcl 0)) F9.heap
          rw [e9]
          show F9.heap[H.size + 0]? = some (vp_cell _ _)
          rw [vp_cell_q, Nat.add_zero, f2, outer_eq]
        · have e0 : gcl j = 300 + (j - 1) := by unfold gcl; rw [if_neg h0]; omega
          have e9 : gce E (zgrid x) (fgrid f) (agrid ad H.size) (gcl j) = .inl (comp, 14, .inl (fun _ => 0)) := by
            rw [e0, gce_arr (hKi (j - 1) (by omega)), hcp]
            show Sum.inl (_, _, Sum.inl ((zgrid x).1 (300 + (j - 1)))) = _
            rw [show (zgrid x).1 (300 + (j - 1)) = fun _ => 0 from if_pos (Or.inr (by omega))]
          show va_at E.2.1 vwCl (H.size + j, gce E (zgrid x) (fgrid f) (agrid ad H.size) (gcl j)) F9.heap
          rw [e9]
          show F9.heap[H.size + j]? = some (vp_cell _ _)
          rw [vp_cell_i, show H.size + j = H.size + 1 + (j - 1) by omega, fi (j - 1) (by omega)]
          congr 1
    · rw [gwl_grid hc hr]; exact va_Dapp hP.1.2 hP.1.1 hAA
  have hS2 : va_S A s.heap F9.heap locs := ⟨Nat.le_trans hS.1 (by omega), fun x9 q1 q2 => (fo x9 (Nat.lt_of_lt_of_le q1 hS.1)).trans (hS.2.1 x9 q1 q2), hS.2.2⟩
  have hw9 := h3 p e R s m args below meth c0 A F9.heap locs (cells + 14) (slots + 195) ls (agrid ad H.size) C hP2 hS2 (by rw [glc_live hex hlv]; exact hl) (by show cells + 14 + (f'.2.2.1 - (f.2.2.1 + 14)) ≤ _; omega) (by show slots + 195 + (f'.2.2.2 - (f.2.2.2 + 195)) ≤ _; omega)
  have ev : (vr 190 :: st).map (gcv (agrid ad H.size)) = .ref H.size :: st.map (gcv ad) := by
    rw [List.map_cons, gst_live hex hrs]
    congr 1
  rw [ev] at hw9
  obtain ⟨t2, s1, s2⟩ := hw9 F9 rfl (by rw [show cells + 14 = cells + 1 + 13 by omega, show slots + 195 = slots + 13 + 13 * 14 by omega]; exact X1)
  have e1 : cells + 14 + (f'.2.2.1 - (fgrid f).2.2.1) = cells + (f'.2.2.1 - f.2.2.1) := by show cells + 14 + (f'.2.2.1 - (f.2.2.1 + 14)) = _; omega
  have e2 : slots + 195 + (f'.2.2.2 - (fgrid f).2.2.2) = slots + (f'.2.2.2 - f.2.2.2) := by show slots + 195 + (f'.2.2.2 - (f.2.2.2 + 195)) = _; omega
  rw [e1, e2] at s2
  refine ⟨t2, stp t2 (by rw [hT]; exact s1), vx_MQ_mono s2 (fun _ _ _ _ q => ?_) (fun _ _ _ q => ?_)⟩
  · obtain ⟨ad2, g1, g2⟩ := q; exact ⟨ad2, gex_tr fgrid_le hex g1, g2⟩
  · obtain ⟨ad2, g1, g2⟩ := q; exact ⟨ad2, gex_tr fgrid_le hex g1, g2⟩
end GMK
end
