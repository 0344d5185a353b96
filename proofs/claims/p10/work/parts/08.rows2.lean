def si (x : gd) (c k : Nat) (v : Int32) : gd := (fun c' => if c' = c then upd (x.1 c) k v else x.1 c', x.2)
def sL (x : gd) (c k : Nat) (v : Int64) : gd := (x.1, fun c' => if c' = c then vp_updL (x.2 c) k v else x.2 c')
theorem gwl_at {E : gE} {x : gd} {f : gf} {ad : Nat → Nat} {c : Nat} (hc : c ∈ f.2.1) : ∃ i : Nat, f.2.1[i]? = some c ∧ (gwl E x f ad)[i]? = some (ad c, gce E x f ad c) := by
  obtain ⟨i, hi⟩ := List.getElem?_of_mem hc
  exact ⟨i, hi, by rw [gwl, List.getElem?_map, hi]; rfl⟩
theorem gce_obj {E : gE} {x : gd} {f : gf} {ad : Nat → Nat} {c ci : Nat} {sl : List Bool} (h : E.2.2.2.1 c = .inl (ci, sl)) : gce E x f ad c = .inr (ci, gfl x f ad c sl) := by
  rw [gce, h]
theorem gce_arr {E : gE} {x : gd} {f : gf} {ad : Nat → Nat} {c n : Nat} {ty : FieldType} (h : E.2.2.2.1 c = .inr (ty, n)) : gce E x f ad c = .inl (E.2.2.1 ty, n, gar x f ad c ty) := by
  rw [gce, h]
theorem gfl_len {x : gd} {f : gf} {ad : Nat → Nat} {c : Nat} {sl : List Bool} : (gfl x f ad c sl).length = sl.length := by
  rw [gfl, List.length_map, List.length_range]
theorem gfl_at {x : gd} {f : gf} {ad : Nat → Nat} {c k : Nat} {sl : List Bool} (hk : k < sl.length) : (gfl x f ad c sl)[k]? = some (if sl.getD k false = true then va_rf ((f.1 c k).map ad) else .int (x.1 c k)) := by
  rw [gfl, List.getElem?_map, List.getElem?_range hk]
  rfl
theorem gfl_int {x : gd} {f : gf} {ad : Nat → Nat} {c k : Nat} {sl : List Bool} (hk : k < sl.length) (hs : sl.getD k false = false) : (gfl x f ad c sl)[k]? = some (.int (x.1 c k)) := by
  rw [gfl_at hk, if_neg (by rw [hs]; decide)]
theorem gfl_ref {x : gd} {f : gf} {ad : Nat → Nat} {c k : Nat} {sl : List Bool} (hk : k < sl.length) (hs : sl.getD k false = true) : (gfl x f ad c sl)[k]? = some (va_rf ((f.1 c k).map ad)) := by
  rw [gfl_at hk, if_pos hs]
theorem gwl_set {α β : Type} {F G : α → β} {L : List α} {i : Nat} {c : α} (hi : L[i]? = some c) (hd : ∀ j : Nat, L[j]? = some c → j = i) (h : ∀ c', c' ≠ c → G c' = F c') : (L.map F).set i (G c) = L.map G := by
  apply List.ext_getElem?
  intro j
  have hlt : i < L.length := (List.getElem?_eq_some_iff.mp hi).1
  by_cases hj : j = i
  · subst hj
    rw [List.getElem?_set_self (by rw [List.length_map]; exact hlt), List.getElem?_map, hi]
    rfl
  · rw [List.getElem?_set_ne (fun e => hj e.symm), List.getElem?_map, List.getElem?_map]
    cases hL : L[j]? with
    | none => rfl
    | some c' =>
      have hne : c' ≠ c := fun e => hj (hd j (by rw [hL, e]))
      show some (F c') = some (G c')
      rw [h c' hne]
theorem gwl_one {E : gE} {x : gd} {f : gf} {ad : Nat → Nat} {A : Nat → Prop} {i c : Nat} (hD : va_D A (gwl E x f ad)) (hi : f.2.1[i]? = some c) : ∀ j : Nat, f.2.1[j]? = some c → j = i := by
  intro j hj
  exact hD.1 j i (ad c, gce E x f ad c) (ad c, gce E x f ad c) (by rw [gwl, List.getElem?_map, hj]; rfl) (by rw [gwl, List.getElem?_map, hi]; rfl) rfl
theorem gce_si {E : gE} {x : gd} {f : gf} {ad : Nat → Nat} {c k c' : Nat} {v : Int32} (h : c' ≠ c) : gce E (si x c k v) f ad c' = gce E x f ad c' := by
  have e : (si x c k v).1 c' = x.1 c' := by show (if c' = c then _ else _) = _; rw [if_neg h]
  have e2 : (si x c k v).2 = x.2 := rfl
  unfold gce gfl gar
  rw [e, e2]
theorem gce_sL {E : gE} {x : gd} {f : gf} {ad : Nat → Nat} {c k c' : Nat} {v : Int64} (h : c' ≠ c) : gce E (sL x c k v) f ad c' = gce E x f ad c' := by
  have e : (sL x c k v).2 c' = x.2 c' := by show (if c' = c then _ else _) = _; rw [if_neg h]
  have e2 : (sL x c k v).1 = x.1 := rfl
  unfold gce gfl gar
  rw [e, e2]
theorem si_c {x : gd} {c k : Nat} {v : Int32} : (si x c k v).1 c = upd (x.1 c) k v := by show (if c = c then _ else _) = _; rw [if_pos rfl]
theorem sL_c {x : gd} {c k : Nat} {v : Int64} : (sL x c k v).2 c = vp_updL (x.2 c) k v := by show (if c = c then _ else _) = _; rw [if_pos rfl]
theorem gfl_si {x : gd} {f : gf} {ad : Nat → Nat} {c k : Nat} {v : Int32} {sl : List Bool} (hk : k < sl.length) (hs : sl.getD k false = false) : gfl (si x c k v) f ad c sl = (gfl x f ad c sl).set k (.int v) := by
  apply List.ext_getElem?
  intro j
  by_cases hj : j = k
  · subst hj
    rw [List.getElem?_set_self (by rw [gfl_len]; exact hk), gfl_int hk hs, si_c, pk_us]
  · rw [List.getElem?_set_ne (fun e => hj e.symm)]
    by_cases hl : j < sl.length
    · rw [gfl_at hl, gfl_at hl, si_c, pk_un hj]
    · rw [List.getElem?_eq_none (by rw [gfl_len]; omega), List.getElem?_eq_none (by rw [gfl_len]; omega)]
/-- what the tables say of a field, as an instruction names it -/
def gFl (own : String) (idx ci k : Nat) (ty : FieldType) (fin : Bool) (N : Nat) : Prop := ∃ (C : String) (U : u_T), vwCl[ci]? = some (C, U, N) ∧ (∀ w ∈ u_ws C U N, w ∈ W0) ∧ k < N ∧ Cond.fieldLink own idx (U k).1 (U k).2.1 (U k).2.2.1 ∈ W0 ∧ parseFieldDescriptor (U k).2.2.1 = some ty ∧ (U k).2.2.2 = fin ∧ (∃ ty0 : Nat → FieldType, ∀ j, j < N → parseFieldDescriptor (U j).2.2.1 = some (ty0 j)) ∧ ∀ a, a < N → ∀ b, b < N → a ≠ b → (U a).2.1 ≠ (U b).2.1
section GRB
variable {E : gE} {d : Nat} {y : gy} {pc : Nat} {lv : List (Nat × gv)} {st : List gv} {x : gd} {f : gf} {Q : gr → gd → gf → Prop}
theorem T_stepX {pc2 : Nat} {st2 : List gv} {x2 : gd}
    (h : ∀ (p : Program) (e : Env) (R : Room) (s : State) (m : MethodId) (args : Array Value) (below : List Frame) (meth : Method) (c : Code) (A : Nat → Prop) (H : Heap) (locs : List Loc) (cells slots : Nat) (ls : Array Slot) (ad : Nat → Nat) (Q9 : State → Prop), gC E d y p R s m args meth c A → gP E x f ad A H → va_S A s.heap H locs → lv_has ls y.2.2.1 (glc ad lv) →
      (∀ (H2 : Heap) (locs2 : List Loc), gP E x2 f ad A H2 → va_S A s.heap H2 locs2 → W p E.1 e R s m args below meth c H2 locs2 cells slots Q9 (F0 m pc2 ls (st2.map (gcv ad)))) → W p E.1 e R s m args below meth c H locs cells slots Q9 (F0 m pc ls (st.map (gcv ad))))
    (k : T E d y pc2 lv st2 x2 f Q) : T E d y pc lv st x f Q := by
  obtain ⟨o, x', f', h1, h2, h3⟩ := k
  refine ⟨o, x', f', h1, h2, ?_⟩
  intro p e R s m args below meth c A H locs cells slots ls ad C hP hS hl hc hs
  exact h p e R s m args below meth c A H locs cells slots ls ad _ C hP hS hl (fun H2 locs2 hP2 hS2 => h3 p e R s m args below meth c A H2 locs2 cells slots ls ad C hP2 hS2 hl hc hs)
theorem T_getI (c k : Nat) {ci N idx : Nat} {sl : List Bool} {ty : FieldType} {fin : Bool} (hd : decode y.2.1 pc = .ok (.getfield idx, 3)) (hf : gFl y.1.cls idx ci k ty fin N) (hK : E.2.2.2.1 c = .inl (ci, sl)) (hc : c ∈ f.2.1) (hk : k < sl.length) (hs : sl.getD k false = false)
    (k9 : T E d y (pc + 3) lv (vi (x.1 c k) :: st) x f Q) : T E d y pc lv (vr c :: st) x f Q :=
  T_step (fun p e R s m args below meth c0 A H locs cells slots ls ad Q9 C hP hS hl kk => by
    obtain ⟨C0, U, h1, h2, h3, h4, -⟩ := hf
    obtain ⟨i, -, hi⟩ := gwl_at (E := E) (x := x) (ad := ad) hc
    rw [gce_obj hK] at hi
    exact va_get (C := C0) (T := U) (N := N) C.1.1 C.1.2.1 C.1.2.2.2.2 h2 C.1.2.2.2.1 C.2.2.2.1.1 hP.1.1 i hi h1 k h3 (C.1.2.2.2.2 _ h4) (fun _ h => h) (gfl_int hk hs) hd (kk ls hl)) k9
theorem T_getR (c k e9 : Nat) {ci N idx : Nat} {sl : List Bool} {ty : FieldType} {fin : Bool} (hd : decode y.2.1 pc = .ok (.getfield idx, 3)) (hf : gFl y.1.cls idx ci k ty fin N) (hK : E.2.2.2.1 c = .inl (ci, sl)) (hc : c ∈ f.2.1) (hk : k < sl.length) (hs : sl.getD k false = true) (hr : f.1 c k = some e9)
    (k9 : T E d y (pc + 3) lv (vr e9 :: st) x f Q) : T E d y pc lv (vr c :: st) x f Q :=
  T_step (fun p e R s m args below meth c0 A H locs cells slots ls ad Q9 C hP hS hl kk => by
    obtain ⟨C0, U, h1, h2, h3, h4, -⟩ := hf
    obtain ⟨i, -, hi⟩ := gwl_at (E := E) (x := x) (ad := ad) hc
    rw [gce_obj hK] at hi
    have hv : (gfl x f ad c sl)[k]? = some (.ref (ad e9)) := by rw [gfl_ref hk hs, hr]; rfl
    exact va_get (C := C0) (T := U) (N := N) C.1.1 C.1.2.1 C.1.2.2.2.2 h2 C.1.2.2.2.1 C.2.2.2.1.1 hP.1.1 i hi h1 k h3 (C.1.2.2.2.2 _ h4) (fun _ h => h) hv hd (kk ls hl)) k9
theorem T_putI (c k : Nat) {ci N idx : Nat} {sl : List Bool} {ty : FieldType} {v : Int32} (hd : decode y.2.1 pc = .ok (.putfield idx, 3)) (hf : gFl y.1.cls idx ci k ty false N) (hK : E.2.2.2.1 c = .inl (ci, sl)) (hc : c ∈ f.2.1) (hk : k < sl.length) (hs : sl.getD k false = false) (hn : narrow ty (.int v) = .int v ∧ fits ty (.int v) = true)
    (k9 : T E d y (pc + 3) lv st (si x c k v) f Q) : T E d y pc lv (vi v :: vr c :: st) x f Q :=
  T_stepX (fun p e R s m args below meth c0 A H locs cells slots ls ad Q9 C hP hS hl kk => by
    obtain ⟨C0, U, h1, h2, h3, h4, h5, h6, ⟨ty0, h7⟩, h8⟩ := hf
    obtain ⟨i, hi0, hi⟩ := gwl_at (E := E) (x := x) (ad := ad) hc
    rw [gce_obj hK] at hi
    have he : (gwl E x f ad).set i (ad c, .inr (ci, (gfl x f ad c sl).set k (.int v))) = gwl E (si x c k v) f ad := by
      rw [← gfl_si hk hs, ← gce_obj (E := E) hK]
      exact gwl_set (G := fun c' => (ad c', gce E (si x c k v) f ad c')) hi0 (gwl_one hP.1.2 hi0) (fun c' hne => by rw [gce_si hne])
    refine va_put (C := C0) (T := U) (N := N) C.1.1 C.1.2.1 C.1.2.2.2.2 h2 ty0 h7 h8 C.1.2.2.2.1 C.2.2.2.1.1 hP.1.1 hP.1.2 hS i hi h1 k h3 (C.1.2.2.2.2 _ h4) (fun _ h => h) h6 h5 hn.1 hn.2 (by rw [gfl_len]; exact hk) hd (fun H2 locs2 hP2 hD2 hS2 => kk H2 locs2 ⟨⟨?_, ?_⟩, hP.2⟩ hS2)
    · rw [← he]; exact hP2
    · rw [← he]; exact hD2) k9
theorem T_iald (c n : Nat) {i : Int32} (hd : decode y.2.1 pc = .ok (.iaload, 1)) (hK : E.2.2.2.1 c = .inr (.int, n)) (hc : c ∈ f.2.1) (hin : vp_in i n) (k9 : T E d y (pc + 1) lv (vi (x.1 c i.toNatClampNeg) :: st) x f Q) : T E d y pc lv (vi i :: vr c :: st) x f Q :=
  T_step (fun p e R s m args below meth c0 A H locs cells slots ls ad Q9 C hP hS hl kk => by
    obtain ⟨q, -, hi⟩ := gwl_at (E := E) (x := x) (ad := ad) hc
    rw [gce_arr hK] at hi
    exact va_iald C.1.1 C.1.2.1 C.2.2.2.1.1 hP.1.1 q 0 hi rfl hin hd (kk ls hl)) k9
theorem T_bald (c n : Nat) {i : Int32} (hd : decode y.2.1 pc = .ok (.baload, 1)) (hK : E.2.2.2.1 c = .inr (.byte, n)) (hc : c ∈ f.2.1) (hin : vp_in i n) (k9 : T E d y (pc + 1) lv (vi (x.1 c i.toNatClampNeg) :: st) x f Q) : T E d y pc lv (vi i :: vr c :: st) x f Q :=
  T_step (fun p e R s m args below meth c0 A H locs cells slots ls ad Q9 C hP hS hl kk => by
    obtain ⟨q, -, hi⟩ := gwl_at (E := E) (x := x) (ad := ad) hc
    rw [gce_arr hK] at hi
    exact va_bald C.1.1 C.1.2.1 C.2.2.2.1.1 hP.1.1 q 1 hi rfl hin hd (kk ls hl)) k9
theorem T_zald (c n : Nat) {i : Int32} (hd : decode y.2.1 pc = .ok (.baload, 1)) (hK : E.2.2.2.1 c = .inr (.boolean, n)) (hc : c ∈ f.2.1) (hin : vp_in i n) (k9 : T E d y (pc + 1) lv (vi (x.1 c i.toNatClampNeg) :: st) x f Q) : T E d y pc lv (vi i :: vr c :: st) x f Q :=
  T_step (fun p e R s m args below meth c0 A H locs cells slots ls ad Q9 C hP hS hl kk => by
    obtain ⟨q, -, hi⟩ := gwl_at (E := E) (x := x) (ad := ad) hc
    rw [gce_arr hK] at hi
    exact va_zald C.1.1 C.1.2.1 C.2.2.2.1.1 hP.1.1 q 2 hi rfl hin hd (kk ls hl)) k9
theorem T_lald (c n : Nat) {i : Int32} (hd : decode y.2.1 pc = .ok (.laload, 1)) (hK : E.2.2.2.1 c = .inr (.long, n)) (hc : c ∈ f.2.1) (hin : vp_in i n) (k9 : T E d y (pc + 1) lv (vl (x.2 c i.toNatClampNeg) :: st) x f Q) : T E d y pc lv (vi i :: vr c :: st) x f Q :=
  T_step (fun p e R s m args below meth c0 A H locs cells slots ls ad Q9 C hP hS hl kk => by
    obtain ⟨q, -, hi⟩ := gwl_at (E := E) (x := x) (ad := ad) hc
    rw [gce_arr hK] at hi
    exact va_lald C.1.1 C.1.2.1 C.2.2.2.1.1 hP.1.1 q 3 hi rfl hin hd (kk ls hl)) k9
theorem gwl_ar {E : gE} {x : gd} {f : gf} {ad : Nat → Nat} {A : Nat → Prop} {i c n k : Nat} {ty : FieldType} {v : Int32} (hD : va_D A (gwl E x f ad)) (hi : f.2.1[i]? = some c) (hK : E.2.2.2.1 c = .inr (ty, n)) (ht : gar (si x c k v) f ad c ty = .inl (upd (x.1 c) k v)) : (gwl E x f ad).set i (ad c, .inl (E.2.2.1 ty, n, .inl (upd (x.1 c) k v))) = gwl E (si x c k v) f ad := by
  rw [← ht, ← gce_arr (E := E) hK]
  exact gwl_set (G := fun c' => (ad c', gce E (si x c k v) f ad c')) hi (gwl_one hD hi) (fun c' hne => by rw [gce_si hne])
theorem T_iast (c n : Nat) {i v : Int32} (hd : decode y.2.1 pc = .ok (.iastore, 1)) (hK : E.2.2.2.1 c = .inr (.int, n)) (hc : c ∈ f.2.1) (hin : vp_in i n) (k9 : T E d y (pc + 1) lv st (si x c i.toNatClampNeg v) f Q) : T E d y pc lv (vi v :: vi i :: vr c :: st) x f Q :=
  T_stepX (fun p e R s m args below meth c0 A H locs cells slots ls ad Q9 C hP hS hl kk => by
    obtain ⟨q, hi0, hi⟩ := gwl_at (E := E) (x := x) (ad := ad) hc
    rw [gce_arr hK] at hi
    have he := gwl_ar (k := i.toNatClampNeg) (v := v) hP.1.2 hi0 hK (by show Sum.inl ((si x c i.toNatClampNeg v).1 c) = _; rw [si_c])
    refine va_iast C.1.1 C.1.2.1 C.2.2.2.1.1 hP.1.1 hP.1.2 hS q 0 hi rfl hin hd (fun H2 locs2 hP2 hD2 hS2 => kk H2 locs2 ⟨⟨?_, ?_⟩, hP.2⟩ hS2)
    · rw [← he]; exact hP2
    · rw [← he]; exact hD2) k9
theorem T_bast (c n : Nat) {i v : Int32} (hd : decode y.2.1 pc = .ok (.bastore, 1)) (hK : E.2.2.2.1 c = .inr (.byte, n)) (hc : c ∈ f.2.1) (hin : vp_in i n) (k9 : T E d y (pc + 1) lv st (si x c i.toNatClampNeg (vp_nar .byte v)) f Q) : T E d y pc lv (vi v :: vi i :: vr c :: st) x f Q :=
  T_stepX (fun p e R s m args below meth c0 A H locs cells slots ls ad Q9 C hP hS hl kk => by
    obtain ⟨q, hi0, hi⟩ := gwl_at (E := E) (x := x) (ad := ad) hc
    rw [gce_arr hK] at hi
    have he := gwl_ar (k := i.toNatClampNeg) (v := vp_nar .byte v) hP.1.2 hi0 hK (by show Sum.inl ((si x c i.toNatClampNeg (vp_nar .byte v)).1 c) = _; rw [si_c])
    refine va_bast C.1.1 C.1.2.1 C.2.2.2.1.1 hP.1.1 hP.1.2 hS q 1 hi rfl hin hd (fun H2 locs2 hP2 hD2 hS2 => kk H2 locs2 ⟨⟨?_, ?_⟩, hP.2⟩ hS2)
    · rw [← he]; exact hP2
    · rw [← he]; exact hD2) k9
theorem T_zast (c n : Nat) {i v : Int32} (hd : decode y.2.1 pc = .ok (.bastore, 1)) (hK : E.2.2.2.1 c = .inr (.boolean, n)) (hc : c ∈ f.2.1) (hin : vp_in i n) (k9 : T E d y (pc + 1) lv st (si x c i.toNatClampNeg (vp_nar .boolean v)) f Q) : T E d y pc lv (vi v :: vi i :: vr c :: st) x f Q :=
  T_stepX (fun p e R s m args below meth c0 A H locs cells slots ls ad Q9 C hP hS hl kk => by
    obtain ⟨q, hi0, hi⟩ := gwl_at (E := E) (x := x) (ad := ad) hc
    rw [gce_arr hK] at hi
    have he := gwl_ar (k := i.toNatClampNeg) (v := vp_nar .boolean v) hP.1.2 hi0 hK (by show Sum.inl ((si x c i.toNatClampNeg (vp_nar .boolean v)).1 c) = _; rw [si_c])
    refine va_zast C.1.1 C.1.2.1 C.2.2.2.1.1 hP.1.1 hP.1.2 hS q 2 hi rfl hin hd (fun H2 locs2 hP2 hD2 hS2 => kk H2 locs2 ⟨⟨?_, ?_⟩, hP.2⟩ hS2)
    · rw [← he]; exact hP2
    · rw [← he]; exact hD2) k9
theorem T_last (c n : Nat) {i : Int32} {v : Int64} (hd : decode y.2.1 pc = .ok (.lastore, 1)) (hK : E.2.2.2.1 c = .inr (.long, n)) (hc : c ∈ f.2.1) (hin : vp_in i n) (k9 : T E d y (pc + 1) lv st (sL x c i.toNatClampNeg v) f Q) : T E d y pc lv (vl v :: vi i :: vr c :: st) x f Q :=
  T_stepX (fun p e R s m args below meth c0 A H locs cells slots ls ad Q9 C hP hS hl kk => by
    obtain ⟨q, hi0, hi⟩ := gwl_at (E := E) (x := x) (ad := ad) hc
    rw [gce_arr hK] at hi
    have he : (gwl E x f ad).set q (ad c, .inl (E.2.2.1 .long, n, .inr (.inl (vp_updL (x.2 c) i.toNatClampNeg v)))) = gwl E (sL x c i.toNatClampNeg v) f ad := by
      have e9 : gce E (sL x c i.toNatClampNeg v) f ad c = .inl (E.2.2.1 .long, n, .inr (.inl (vp_updL (x.2 c) i.toNatClampNeg v))) := by
        rw [gce_arr hK]
        show Sum.inl (_, _, Sum.inr (Sum.inl ((sL x c i.toNatClampNeg v).2 c))) = _
        rw [sL_c]
      rw [← e9]
      exact gwl_set (G := fun c' => (ad c', gce E (sL x c i.toNatClampNeg v) f ad c')) hi0 (gwl_one hP.1.2 hi0) (fun c' hne => by rw [gce_sL hne])
    refine va_last C.1.1 C.1.2.1 C.2.2.2.1.1 hP.1.1 hP.1.2 hS q 3 hi rfl hin hd (fun H2 locs2 hP2 hD2 hS2 => kk H2 locs2 ⟨⟨?_, ?_⟩, hP.2⟩ hS2)
    · rw [← he]; exact hP2
    · rw [← he]; exact hD2) k9
theorem T_alen (c n t0 : Nat) {ty : FieldType} {v : Int32} (hd : decode y.2.1 pc = .ok (.arraylength, 1)) (hK : E.2.2.2.1 c = .inr (ty, n)) (hc : c ∈ f.2.1) (ht : (gtys E)[t0]? = some (E.2.2.1 ty, ty)) (hv : Int32.ofNat n = v) (k9 : T E d y (pc + 1) lv (vi v :: st) x f Q) : T E d y pc lv (vr c :: st) x f Q :=
  T_step (fun p e R s m args below meth c0 A H locs cells slots ls ad Q9 C hP hS hl kk => by
    obtain ⟨q, -, hi⟩ := gwl_at (E := E) (x := x) (ad := ad) hc
    rw [gce_arr hK] at hi
    exact va_alen C.1.1 C.1.2.1 C.2.2.2.1.1 hP.1.1 q t0 hi ht hv hd (kk ls hl)) k9
theorem T_iret {v : Int32} {ty : FieldType} (hd : decode y.2.1 pc = .ok (.ireturn, 1)) (hr : y.2.2.2.1 = some ty) (hn : narrow ty (.int v) = .int v) (hQ : Q (.inl (some (vi v))) x f) : T E d y pc lv [vi v] x f Q := by
  refine ⟨.inl (some (vi v)), x, f, hQ, gle_rf f, ?_⟩
  intro p e R s m args below meth c A H locs cells slots ls ad C hP hS hl hc hs
  rw [Nat.sub_self, Nat.sub_self, Nat.add_zero, Nat.add_zero]
  exact vx_ret (W.zret C.1.1 C.1.2.1 (C.2.1.1.trans hr) hn (fun t ht hW => ⟨ad, gex_rf f ad, ⟨_, rfl, rfl⟩, by rw [ht]; exact hP, hS.F ht⟩) hS.2.2 hd C.2.1.2.1)
theorem T_vret (hd : decode y.2.1 pc = .ok (.return_, 1)) (hr : y.2.2.2.1 = none) (hQ : Q (.inl none) x f) : T E d y pc lv [] x f Q := by
  refine ⟨.inl none, x, f, hQ, gle_rf f, ?_⟩
  intro p e R s m args below meth c A H locs cells slots ls ad C hP hS hl hc hs
  rw [Nat.sub_self, Nat.sub_self, Nat.add_zero, Nat.add_zero]
  exact vx_ret (W.vret C.1.1 C.1.2.1 (C.2.1.1.trans hr) (fun t ht hW => ⟨ad, gex_rf f ad, ⟨_, rfl, rfl⟩, by rw [ht]; exact hP, hS.F ht⟩) hS.2.2 hd C.2.1.2.1)
end GRB
