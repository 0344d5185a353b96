section
/-! making: cells that come to life -/
def znew (x : gd) (c : Nat) : gd := (fun c' => if c' = c then fun _ => 0 else x.1 c', fun c' => if c' = c then fun _ => 0 else x.2 c')
def fnew (f : gf) (c n : Nat) : gf := (fun c' k => if c' = c then none else f.1 c' k, f.2.1 ++ [c], f.2.2.1 + 1, f.2.2.2 + n)
def anew (ad : Nat → Nat) (c a : Nat) : Nat → Nat := fun c' => if c' = c then a else ad c'
def frf (f : gf) (c k : Nat) (v : Option Nat) : gf := (fun c' k' => if c' = c ∧ k' = k then v else f.1 c' k', f.2)
/-- no live cell holds c -/
def NR (f : gf) (c : Nat) : Prop := ∀ c' ∈ f.2.1, ∀ j, f.1 c' j ≠ some c
theorem rmap {ad : Nat → Nat} {c a : Nat} {r : Option Nat} (h : r ≠ some c) : r.map (anew ad c a) = r.map ad := by
  cases r with
  | none => rfl
  | some b => show some (anew ad c a b) = some (ad b); unfold anew; rw [if_neg (fun e => h (by rw [e]))]
section GMK
variable {E : gE} {d : Nat} {y z : gy} {pc : Nat} {lv : List (Nat × gv)} {st : List gv} {x : gd} {f : gf} {Q : gr → gd → gf → Prop}
theorem gce_new {ad : Nat → Nat} {c a n c' : Nat} (hne : c' ≠ c) (hn : ∀ j, f.1 c' j ≠ some c) : gce E (znew x c) (fnew f c n) (anew ad c a) c' = gce E x f ad c' := by
  have e1 : (znew x c).1 c' = x.1 c' := if_neg hne
  have e2 : (znew x c).2 c' = x.2 c' := if_neg hne
  have e3 : ∀ j, ((fnew f c n).1 c' j).map (anew ad c a) = (f.1 c' j).map ad := fun j => by
    show (if c' = c then none else f.1 c' j).map _ = _
    rw [if_neg hne]; exact rmap (hn j)
  unfold gce gfl gar
  rw [e1, e2]
  simp only [e3]
theorem gwl_new {ad : Nat → Nat} {c a n : Nat} (hc : c ∉ f.2.1) (hr : NR f c) : gwl E (znew x c) (fnew f c n) (anew ad c a) = gwl E x f ad ++ [(a, gce E (znew x c) (fnew f c n) (anew ad c a) c)] := by
  unfold gwl
  show (f.2.1 ++ [c]).map _ = _
  rw [List.map_append]
  congr 1
  · apply List.map_congr_left
    intro c' h'
    have hne : c' ≠ c := fun e => hc (e ▸ h')
    rw [gce_new hne (hr c' h'), show anew ad c a c' = ad c' from if_neg hne]
  · show [(anew ad c a c, _)] = _
    rw [show anew ad c a c = a from if_pos rfl]
theorem gad_new {ad : Nat → Nat} {c a : Nat} (h9 : c < 900 ∨ 905 ≤ c) (h : gad E ad) : gad E (anew ad c a) := fun i hi => by
  unfold anew; rw [if_neg (by omega)]; exact h i hi
theorem gex_new {ad : Nat → Nat} {c a : Nat} (hc : c ∉ f.2.1) (h9 : c < 900 ∨ 905 ≤ c) : gex f ad (anew ad c a) := ⟨fun c' h' => if_neg (fun e : c' = c => hc (e ▸ h')), fun i hi => if_neg (by omega)⟩
theorem fnew_le {c n : Nat} : gle f (fnew f c n) := ⟨fun c' h => List.mem_append_left _ h, Nat.le_succ _, Nat.le_add_right _ _⟩
theorem T_stepN {pc2 : Nat} {st2 : List gv} {c n : Nat} (hc : c ∉ f.2.1) (h9 : c < 900 ∨ 905 ≤ c) (hok : gok f.2.1 lv st2 = true)
    (h : ∀ (p : Program) (e : Env) (R : Room) (s : State) (m : MethodId) (args : Array Value) (below : List Frame) (meth : Method) (c0 : Code) (A : Nat → Prop) (H : Heap) (locs : List Loc) (cells slots : Nat) (ls : Array Slot) (ad : Nat → Nat) (Q9 : State → Prop), gC E d y p R s m args meth c0 A → gP E x f ad A H → va_S A s.heap H locs → lv_has ls y.2.2.1 (glc ad lv) → cells + 1 ≤ R.cells → slots + n ≤ R.slots →
      (∀ (a : Nat) (H2 : Heap), gP E (znew x c) (fnew f c n) (anew ad c a) A H2 → va_S A s.heap H2 locs → W p E.1 e R s m args below meth c0 H2 locs (cells + 1) (slots + n) Q9 (F0 m pc2 ls (.ref a :: st2.map (gcv ad)))) → W p E.1 e R s m args below meth c0 H locs cells slots Q9 (F0 m pc ls (st.map (gcv ad))))
    (k : T E d y pc2 lv (vr c :: st2) (znew x c) (fnew f c n) Q) : T E d y pc lv st x f Q := by
  obtain ⟨o, x', f', h1, h2, h3⟩ := k
  refine ⟨o, x', f', h1, gle_tr fnew_le h2, ?_⟩
  intro p e R s m args below meth c0 A H locs cells slots ls ad C hP hS hl hcc hss
  have b1 : f.2.2.1 + 1 ≤ f'.2.2.1 := h2.2.1
  have b2 : f.2.2.2 + n ≤ f'.2.2.2 := h2.2.2
  have hlv : lv.all (fun q => gokv f.2.1 q.2) = true := (Bool.and_eq_true _ _ ▸ hok).1
  have hrs : st2.all (gokv f.2.1) = true := (Bool.and_eq_true _ _ ▸ hok).2
  refine h p e R s m args below meth c0 A H locs cells slots ls ad _ C hP hS hl (by omega) (by omega) (fun a H2 hP2 hS2 => ?_)
  have hex : gex f ad (anew ad c a) := gex_new hc h9
  have hw := h3 p e R s m args below meth c0 A H2 locs (cells + 1) (slots + n) ls (anew ad c a) C hP2 hS2 (by rw [glc_live hex hlv]; exact hl) (by show cells + 1 + (f'.2.2.1 - (f.2.2.1 + 1)) ≤ _; omega) (by show slots + n + (f'.2.2.2 - (f.2.2.2 + n)) ≤ _; omega)
  have ev : (vr c :: st2).map (gcv (anew ad c a)) = .ref a :: st2.map (gcv ad) := by
    rw [List.map_cons, gst_live hex hrs]
    congr 1
    show Value.ref (anew ad c a c) = _
    rw [show anew ad c a c = a from if_pos rfl]
  rw [ev] at hw
  intro T9 hT X
  obtain ⟨t2, s1, s2⟩ := hw T9 hT X
  have e1 : cells + 1 + (f'.2.2.1 - (fnew f c n).2.2.1) = cells + (f'.2.2.1 - f.2.2.1) := by show cells + 1 + (f'.2.2.1 - (f.2.2.1 + 1)) = _; omega
  have e2 : slots + n + (f'.2.2.2 - (fnew f c n).2.2.2) = slots + (f'.2.2.2 - f.2.2.2) := by show slots + n + (f'.2.2.2 - (f.2.2.2 + n)) = _; omega
  rw [e1, e2] at s2
  refine ⟨t2, s1, vx_MQ_mono s2 (fun _ _ _ _ q => ?_) (fun _ _ _ q => ?_)⟩
  · obtain ⟨ad2, g1, g2⟩ := q; exact ⟨ad2, gex_tr fnew_le hex g1, g2⟩
  · obtain ⟨ad2, g1, g2⟩ := q; exact ⟨ad2, gex_tr fnew_le hex g1, g2⟩
theorem cA_eq {ty : FieldType} {s : State} {cA : ClassId} {t0 : Nat} (hK : va_K E.2.1 vwCl (gtys E) s) (hK1 : va_K E.2.1 vwCl (gtys E ++ [(cA, ty)]) s) (h0 : (gtys E)[t0]? = some (E.2.2.1 ty, ty)) : cA = E.2.2.1 ty := by
  have a := (hK1.2 (gtys E).length (cA, ty) (by rw [List.getElem?_append_right (Nat.le_refl _), Nat.sub_self]; rfl)).2
  have b := (hK.2 t0 _ h0).2
  cases ty with
  | object C =>
    obtain ⟨_, _, -, -, -, a4⟩ := a
    obtain ⟨_, _, -, -, -, b4⟩ := b
    exact Option.some.inj (a4.symm.trans b4)
  | _ => exact Option.some.inj (Eq.trans (Eq.symm a) b)
/-- an array of ints, bytes or booleans -/
theorem T_newI (c : Nat) {atype : ArrayType} {ty : FieldType} {n : Nat} {v : Int32} (hd : decode y.2.1 pc = .ok (.newarray atype, 2)) (hty : newarray.typeOf atype = ty) (ht : ty = .int ∨ ty = .byte ∨ ty = .boolean) (hw : Cond.arrayClass ty ∈ W0) (hK : E.2.2.2.1 c = .inr (ty, n)) (hv : ¬ v < 0) (hN : v.toNatClampNeg = n) (hb : n ≤ 100000) (hc : c ∉ f.2.1) (h9 : c < 900 ∨ 905 ≤ c) (hr : NR f c) (hok : gok f.2.1 lv st = true)
    (k9 : T E d y (pc + 2) lv (vr c :: st) (znew x c) (fnew f c n) Q) : T E d y pc lv (vi v :: st) x f Q := by
  refine T_stepN hc h9 hok (fun p e R s m args below meth c0 A H locs cells slots ls ad Q9 C hP hS hl h1 h2 kk => ?_) k9
  have hb2 : n * componentBytes ty ≤ 536870912 := by
    have : componentBytes ty ≤ 8 := by rcases ht with rfl | rfl | rfl <;> decide
    have := Nat.mul_le_mul hb this
    omega
  have ha : ∀ cA : ClassId, vp_cell cA (n, .inl (fun _ => 0)) = arrV cA n (fun _ => defaultValue ty) := by rcases ht with rfl | rfl | rfl <;> intro cA <;> rfl
  have h0 : ∃ t0 : Nat, (gtys E)[t0]? = some (E.2.2.1 ty, ty) := by
    rcases ht with rfl | rfl | rfl
    · exact ⟨0, rfl⟩
    · exact ⟨1, rfl⟩
    · exact ⟨2, rfl⟩
  obtain ⟨t0, h0⟩ := h0
  refine va_newa (a0 := (n, .inl (fun _ => 0))) C.1.1 C.1.2.1 (C.1.2.2.2.2 _ (hty ▸ hw)) hty C.2.2.2.1.1 hP.1.1 hP.1.2 hS C.2.2.2.2 ha hv hN hb2 h1 h2 hd (fun q cA H1 hK1 hP1 hD1 hS1 => ?_)
  have hcA := cA_eq C.2.2.2.1.1 hK1 h0
  have e9 : gce E (znew x c) (fnew f c n) (anew ad c q) c = .inl (cA, n, .inl (fun _ => 0)) := by
    rw [gce_arr hK, hcA]
    have z1 : (znew x c).1 c = fun _ => 0 := if_pos rfl
    rcases ht with rfl | rfl | rfl <;> (show Sum.inl (_, _, Sum.inl ((znew x c).1 c)) = _; rw [z1])
  refine kk q H1 ⟨⟨?_, ?_⟩, gad_new h9 hP.2⟩ hS1
  · rw [gwl_new hc hr, e9]; exact hP1
  · rw [gwl_new hc hr, e9]; exact hD1
/-- what the tables say of a class that an instruction makes -/
def gNw (own : String) (idx ci : Nat) (sl : List Bool) : Prop := ∃ (C : String) (U : u_T) (ty : Nat → FieldType), vwCl[ci]? = some (C, U, sl.length) ∧ (∀ w ∈ u_ws C U sl.length, w ∈ W0) ∧ Cond.classLink own idx C ∈ W0 ∧ Cond.instantiable C sl.length ∈ W0 ∧ Cond.initialized C ∈ W0 ∧ (∀ k, k < sl.length → parseFieldDescriptor (U k).2.2.1 = some (ty k)) ∧ ∀ j, j < sl.length → defaultValue (ty j) = if sl.getD j false = true then .null else .int 0
theorem gfl_new {ad : Nat → Nat} {c n : Nat} {sl : List Bool} : gfl (znew x c) (fnew f c n) ad c sl = (List.range sl.length).map (fun j => if sl.getD j false = true then .null else .int 0) := by
  unfold gfl
  apply List.map_congr_left
  intro j _
  have z1 : (znew x c).1 c = fun _ => 0 := if_pos rfl
  have z2 : (fnew f c n).1 c j = none := if_pos rfl
  rw [z1, z2]; rfl
theorem T_newO (c : Nat) {idx ci : Nat} {sl : List Bool} (hd : decode y.2.1 pc = .ok (.new idx, 3)) (hM : gNw y.1.cls idx ci sl) (hK : E.2.2.2.1 c = .inl (ci, sl)) (hc : c ∉ f.2.1) (h9 : c < 900 ∨ 905 ≤ c) (hr : NR f c) (hok : gok f.2.1 lv st = true)
    (k9 : T E d y (pc + 3) lv (vr c :: st) (znew x c) (fnew f c sl.length) Q) : T E d y pc lv st x f Q := by
  obtain ⟨C0, U, ty, m1, m2, m3, m4, m5, m6, m7⟩ := hM
  refine T_stepN hc h9 hok (fun p e R s m args below meth c0 A H locs cells slots ls ad Q9 C hP hS hl h1 h2 kk => ?_) k9
  refine va_new (C := C0) (T := U) (ci := ci) (fs := (List.range sl.length).map (fun j => if sl.getD j false = true then .null else .int 0)) C.1.1 C.1.2.1 C.1.2.2.2.2 m2 ty m6 C.1.2.2.2.1 (C.1.2.2.2.2 _ m3) (C.1.2.2.2.2 _ m4) (C.1.2.2.2.2 _ m5) C.2.2.2.1.1 hP.1.1 hP.1.2 hS C.2.2.2.2 m1 (fun j hj => ?_) h1 h2 hd (fun q H1 hP1 hD1 hS1 => ?_)
  · rw [m7 j hj]; unfold vp_V; rw [List.getD_eq_getElem?_getD (l := List.map _ _), List.getElem?_map, List.getElem?_range hj]; rfl
  · have e9 : gce E (znew x c) (fnew f c sl.length) (anew ad c q) c = .inr (ci, (List.range sl.length).map (fun j => if sl.getD j false = true then .null else .int 0)) := by rw [gce_obj hK, gfl_new]
    refine kk q H1 ⟨⟨?_, ?_⟩, gad_new h9 hP.2⟩ hS1
    · rw [gwl_new hc hr, e9]; exact hP1
    · rw [gwl_new hc hr, e9]; exact hD1
/-- an array of tryings -/
theorem T_newT (c : Nat) {idx n : Nat} {v : Int32} (hd : decode y.2.1 pc = .ok (.anewarray idx, 3)) (hw : Cond.classLink y.1.cls idx "ScheduleHouse$Trial" ∈ W0) (hK : E.2.2.2.1 c = .inr (.object "ScheduleHouse$Trial", n)) (hv : ¬ v < 0) (hN : v.toNatClampNeg = n) (hb : n ≤ 100000) (hc : c ∉ f.2.1) (h9 : c < 900 ∨ 905 ≤ c) (hr : NR f c) (hok : gok f.2.1 lv st = true)
    (k9 : T E d y (pc + 3) lv (vr c :: st) (znew x c) (fnew f c n) Q) : T E d y pc lv (vi v :: st) x f Q := by
  refine T_stepN hc h9 hok (fun p e R s m args below meth c0 A H locs cells slots ls ad Q9 C hP hS hl h1 h2 kk => ?_) k9
  refine va_newq C.1.1 C.1.2.1 C.1.2.2.2.1 (C.1.2.2.2.2 _ hw) C.2.2.2.1.2.1.2.2.2.1 C.2.2.2.1.1 hP.1.1 hP.1.2 hS C.2.2.2.2 hv hN (by omega) h1 h2 hd (fun q cA H1 hK1 hP1 hD1 hS1 => ?_)
  have hcA := cA_eq (t0 := 4) C.2.2.2.1.1 hK1 rfl
  have e9 : gce E (znew x c) (fnew f c n) (anew ad c q) c = .inl (cA, n, .inr (.inr (.inr (.inr (fun _ => none))))) := by
    rw [gce_arr hK, hcA]
    show Sum.inl (_, _, Sum.inr (Sum.inr (Sum.inr (Sum.inr (fun j => ((fnew f c n).1 c j).map (anew ad c q)))))) = _
    have z2 : ∀ j, (fnew f c n).1 c j = none := fun j => if_pos rfl
    simp only [z2]; rfl
  refine kk q H1 ⟨⟨?_, ?_⟩, gad_new h9 hP.2⟩ hS1
  · rw [gwl_new hc hr, e9]; exact hP1
  · rw [gwl_new hc hr, e9]; exact hD1
/-- an array of arrays of ints, empty -/
theorem T_newA (c : Nat) {idx n : Nat} {v : Int32} (hd : decode y.2.1 pc = .ok (.anewarray idx, 3)) (hw : Cond.classLink y.1.cls idx "[I" ∈ W0) (hK : E.2.2.2.1 c = .inr (.array .int, n)) (hv : ¬ v < 0) (hN : v.toNatClampNeg = n) (hb : n ≤ 100000) (hc : c ∉ f.2.1) (h9 : c < 900 ∨ 905 ≤ c) (hr : NR f c) (hok : gok f.2.1 lv st = true)
    (k9 : T E d y (pc + 3) lv (vr c :: st) (znew x c) (fnew f c n) Q) : T E d y pc lv (vi v :: st) x f Q := by
  refine T_stepN hc h9 hok (fun p e R s m args below meth c0 A H locs cells slots ls ad Q9 C hP hS hl h1 h2 kk => ?_) k9
  subst hN
  refine W.anewA (t := .int) C.1.1 C.1.2.1 C.1.2.2.2.1 (C.1.2.2.2.2 _ hw) C.2.2.2.1.2.1.2.2.2.2.2 rfl hd rfl hv (by omega) h1 h2 (fun cA kA comp f1 f2 f3 f4 => ?_)
  generalize hH1 : H.push ({ cls := cA, slots := Array.replicate v.toNatClampNeg .null, vm := .none } : Cell) = H1
  have z1 : H1.size = H.size + 1 := by rw [← hH1, Array.size_push]
  have e1 : H1[H.size]? = some (arrV cA v.toNatClampNeg (fun _ => .null)) := by rw [← hH1, Array.getElem?_push_size, ← arrV_new]
  have o1 : ∀ q : Nat, q < H.size → H1[q]? = H[q]? := fun q hq => by rw [← hH1, Array.getElem?_push, if_neg (Nat.ne_of_lt hq)]
  have hcA : cA = E.2.2.1 (.array .int) := Option.some.inj (Eq.trans (Eq.symm f1) (C.2.2.2.1.1.2 5 _ rfl).2)
  have e9 : gce E (znew x c) (fnew f c v.toNatClampNeg) (anew ad c H.size) c = .inl (cA, v.toNatClampNeg, .inr (.inr (.inr (.inr (fun _ => none))))) := by
    rw [gce_arr hK, hcA]
    show Sum.inl (_, _, Sum.inr (Sum.inr (Sum.inr (Sum.inr (fun j => ((fnew f c _).1 c j).map (anew ad c H.size)))))) = _
    have z2 : ∀ j, (fnew f c v.toNatClampNeg).1 c j = none := fun j => if_pos rfl
    simp only [z2]; rfl
  have hk : ∀ (k : Nat) (x9 : Nat × va_E), (gwl E x f ad)[k]? = some x9 → H1[x9.1]? = H[x9.1]? := fun k x9 hx => o1 x9.1 ((hP.1.1 k x9 hx).lt)
  refine kk H.size H1 ⟨⟨?_, ?_⟩, gad_new h9 hP.2⟩ ⟨Nat.le_trans hS.1 (by omega), fun x9 q1 q2 => (o1 x9 (Nat.lt_of_lt_of_le q1 hS.1)).trans (hS.2.1 x9 q1 q2), hS.2.2⟩
  · rw [gwl_new hc hr, e9]
    refine (hP.1.1.kept hk).app (fun k x9 hx => ?_)
    have hz : k < 1 := (List.getElem?_eq_some_iff.mp hx).1
    rw [show k = 0 by omega] at hx
    cases hx
    show H1[H.size]? = some (vp_cell _ _)
    rw [vp_cell_q]
    exact e1
  · rw [gwl_new hc hr, e9]; exact hP.1.2.push hP.1.1 rfl (C.2.2.2.2 _ hS.1)
/-! a reference is put -/
theorem gce_frf {ad : Nat → Nat} {c k c' : Nat} {v : Option Nat} (h : c' ≠ c) : gce E x (frf f c k v) ad c' = gce E x f ad c' := by
  have e : ∀ j, (frf f c k v).1 c' j = f.1 c' j := fun j => if_neg (fun q => h q.1)
  unfold gce gfl gar
  simp only [e]
theorem gfl_frf {ad : Nat → Nat} {c k : Nat} {v : Option Nat} {sl : List Bool} (hk : k < sl.length) (hs : sl.getD k false = true) : gfl x (frf f c k v) ad c sl = (gfl x f ad c sl).set k (va_rf (v.map ad)) := by
  apply List.ext_getElem?
  intro j
  by_cases hj : j = k
  · subst hj
    rw [List.getElem?_set_self (by rw [gfl_len]; exact hk), gfl_ref hk hs, show (frf f c j v).1 c j = v from if_pos ⟨rfl, rfl⟩]
  · rw [List.getElem?_set_ne (fun e => hj e.symm)]
    by_cases hl : j < sl.length
    · rw [gfl_at hl, gfl_at hl, show (frf f c k v).1 c j = f.1 c j from if_neg (fun q => hj q.2)]
    · rw [List.getElem?_eq_none (by rw [gfl_len]; omega), List.getElem?_eq_none (by rw [gfl_len]; omega)]
theorem T_stepR {pc2 : Nat} {st2 : List gv} {f2 : gf} (h2 : f2.2 = f.2)
    (h : ∀ (p : Program) (e : Env) (R : Room) (s : State) (m : MethodId) (args : Array Value) (below : List Frame) (meth : Method) (c : Code) (A : Nat → Prop) (H : Heap) (locs : List Loc) (cells slots : Nat) (ls : Array Slot) (ad : Nat → Nat) (Q9 : State → Prop), gC E d y p R s m args meth c A → gP E x f ad A H → va_S A s.heap H locs → lv_has ls y.2.2.1 (glc ad lv) →
      (∀ (H2 : Heap) (locs2 : List Loc), gP E x f2 ad A H2 → va_S A s.heap H2 locs2 → W p E.1 e R s m args below meth c H2 locs2 cells slots Q9 (F0 m pc2 ls (st2.map (gcv ad)))) → W p E.1 e R s m args below meth c H locs cells slots Q9 (F0 m pc ls (st.map (gcv ad))))
    (k : T E d y pc2 lv st2 x f2 Q) : T E d y pc lv st x f Q := by
  obtain ⟨o, x', f', h1, h3, h4⟩ := k
  have hg : gle f f' := by unfold gle at h3 ⊢; rw [h2] at h3; exact h3
  refine ⟨o, x', f', h1, hg, ?_⟩
  intro p e R s m args below meth c A H locs cells slots ls ad C hP hS hl hc hs
  refine h p e R s m args below meth c A H locs cells slots ls ad _ C hP hS hl (fun H2 locs2 hP2 hS2 => ?_)
  have hw := h4 p e R s m args below meth c A H2 locs2 cells slots ls ad C hP2 hS2 hl (by rw [h2]; exact hc) (by rw [h2]; exact hs)
  intro T9 hT X
  obtain ⟨t2, s1, s2⟩ := hw T9 hT X
  rw [h2] at s2
  refine ⟨t2, s1, vx_MQ_mono s2 (fun _ _ _ _ q => ?_) (fun _ _ _ q => ?_)⟩
  · obtain ⟨ad2, g1, g2⟩ := q; exact ⟨ad2, by unfold gex at g1 ⊢; rw [h2] at g1; exact g1, g2⟩
  · obtain ⟨ad2, g1, g2⟩ := q; exact ⟨ad2, by unfold gex at g1 ⊢; rw [h2] at g1; exact g1, g2⟩
theorem T_putR (c k e9 : Nat) {ci N idx : Nat} {sl : List Bool} {ty : FieldType} (hd : decode y.2.1 pc = .ok (.putfield idx, 3)) (hf : gFl y.1.cls idx ci k ty false N) (hK : E.2.2.2.1 c = .inl (ci, sl)) (hc : c ∈ f.2.1) (hk : k < sl.length) (hs : sl.getD k false = true) (hn : ∀ a : Nat, narrow ty (.ref a) = .ref a ∧ fits ty (.ref a) = true)
    (k9 : T E d y (pc + 3) lv st x (frf f c k (some e9)) Q) : T E d y pc lv (vr e9 :: vr c :: st) x f Q :=
  T_stepR (f2 := frf f c k (some e9)) rfl (fun p e R s m args below meth c0 A H locs cells slots ls ad Q9 C hP hS hl kk => by
    obtain ⟨C0, U, h1, h2, h3, h4, h5, h6, ⟨ty0, h7⟩, h8⟩ := hf
    obtain ⟨i, hi0, hi⟩ := gwl_at (E := E) (x := x) (ad := ad) hc
    rw [gce_obj hK] at hi
    have he : (gwl E x f ad).set i (ad c, .inr (ci, (gfl x f ad c sl).set k (.ref (ad e9)))) = gwl E x (frf f c k (some e9)) ad := by
      have e0 : (gfl x f ad c sl).set k (.ref (ad e9)) = gfl x (frf f c k (some e9)) ad c sl := by rw [gfl_frf hk hs]; rfl
      rw [e0, ← gce_obj (E := E) hK]
      exact gwl_set (G := fun c' => (ad c', gce E x (frf f c k (some e9)) ad c')) hi0 (gwl_one hP.1.2 hi0) (fun c' hne => by rw [gce_frf hne])
    refine va_put (C := C0) (T := U) (N := N) C.1.1 C.1.2.1 C.1.2.2.2.2 h2 ty0 h7 h8 C.1.2.2.2.1 C.2.2.2.1.1 hP.1.1 hP.1.2 hS i hi h1 k h3 (C.1.2.2.2.2 _ h4) (fun _ h => h) h6 h5 (hn _).1 (hn _).2 (by rw [gfl_len]; exact hk) hd (fun H2 locs2 hP2 hD2 hS2 => kk H2 locs2 ⟨⟨?_, ?_⟩, hP.2⟩ hS2)
    · rw [← he]; exact hP2
    · rw [← he]; exact hD2) k9
theorem T_putRF (c k e9 : Nat) {ci N idx : Nat} {sl : List Bool} {ty : FieldType} (hd : decode y.2.1 pc = .ok (.putfield idx, 3)) (hin : y.1.name = "<init>") (hf : gFl y.1.cls idx ci k ty true N) (hK : E.2.2.2.1 c = .inl (ci, sl)) (hc : c ∈ f.2.1) (hk : k < sl.length) (hs : sl.getD k false = true) (hn : ∀ a : Nat, narrow ty (.ref a) = .ref a ∧ fits ty (.ref a) = true) (hde : ∀ r : vw_C, vwCl[ci]? = some r → (r.2.1 k).1 = y.1.cls)
    (k9 : T E d y (pc + 3) lv st x (frf f c k (some e9)) Q) : T E d y pc lv (vr e9 :: vr c :: st) x f Q :=
  T_stepR (f2 := frf f c k (some e9)) rfl (fun p e R s m args below meth c0 A H locs cells slots ls ad Q9 C hP hS hl kk => by
    obtain ⟨C0, U, h1, h2, h3, h4, h5, h6, ⟨ty0, h7⟩, h8⟩ := hf
    obtain ⟨i, hi0, hi⟩ := gwl_at (E := E) (x := x) (ad := ad) hc
    rw [gce_obj hK] at hi
    have he : (gwl E x f ad).set i (ad c, .inr (ci, (gfl x f ad c sl).set k (.ref (ad e9)))) = gwl E x (frf f c k (some e9)) ad := by
      have e0 : (gfl x f ad c sl).set k (.ref (ad e9)) = gfl x (frf f c k (some e9)) ad c sl := by rw [gfl_frf hk hs]; rfl
      rw [e0, ← gce_obj (E := E) hK]
      exact gwl_set (G := fun c' => (ad c', gce E x (frf f c k (some e9)) ad c')) hi0 (gwl_one hP.1.2 hi0) (fun c' hne => by rw [gce_frf hne])
    refine va_putF (C := C0) (T := U) (N := N) C.1.1 C.1.2.1 C.1.2.2.2.2 h2 ty0 h7 h8 C.1.2.2.2.1 C.2.2.2.1.1 hP.1.1 hP.1.2 hS i hi h1 k h3 (C.1.2.2.2.2 _ h4) (fun _ h => h) h6 (by rw [C.2.1.2.2.2]; exact hin) (hde _ h1) h5 (hn _).1 (hn _).2 (by rw [gfl_len]; exact hk) hd (fun H2 locs2 hP2 hD2 hS2 => kk H2 locs2 ⟨⟨?_, ?_⟩, hP.2⟩ hS2)
    · rw [← he]; exact hP2
    · rw [← he]; exact hD2) k9
/-! arrays of references are written -/
theorem gce_arf {ad : Nat → Nat} {c k n : Nat} {v : Option Nat} {ty : FieldType} (hK : E.2.2.2.1 c = .inr (ty, n)) (ht : ty = .array .int ∨ ty = .object "ScheduleHouse$Trial") : gce E x (frf f c k v) ad c = .inl (E.2.2.1 ty, n, .inr (.inr (.inr (.inr (va_up (fun j => (f.1 c j).map ad) k (v.map ad)))))) := by
  have e : (fun j => ((frf f c k v).1 c j).map ad) = va_up (fun j => (f.1 c j).map ad) k (v.map ad) := by
    funext j
    show (if c = c ∧ j = k then v else f.1 c j).map ad = (if j = k then v.map ad else (f.1 c j).map ad)
    by_cases hj : j = k
    · rw [if_pos ⟨rfl, hj⟩, if_pos hj]
    · rw [if_neg (fun q => hj q.2), if_neg hj]
  rw [gce_arr hK]
  rcases ht with rfl | rfl <;> (show Sum.inl (_, _, Sum.inr (Sum.inr (Sum.inr (Sum.inr (fun j => ((frf f c k v).1 c j).map ad))))) = _; rw [e])
theorem T_aastT (c e9 : Nat) {n : Nat} {sl : List Bool} {i : Int32} (hd : decode y.2.1 pc = .ok (.aastore, 1)) (hK : E.2.2.2.1 c = .inr (.object "ScheduleHouse$Trial", n)) (hc : c ∈ f.2.1) (hKe : E.2.2.2.1 e9 = .inl (10, sl)) (he9 : e9 ∈ f.2.1) (hin : vp_in i n)
    (k9 : T E d y (pc + 1) lv st x (frf f c i.toNatClampNeg (some e9)) Q) : T E d y pc lv (vr e9 :: vi i :: vr c :: st) x f Q :=
  T_stepR (f2 := frf f c i.toNatClampNeg (some e9)) rfl (fun p e R s m args below meth c0 A H locs cells slots ls ad Q9 C hP hS hl kk => by
    obtain ⟨i0, hi0, hi⟩ := gwl_at (E := E) (x := x) (ad := ad) hc
    obtain ⟨j0, hj0, hj⟩ := gwl_at (E := E) (x := x) (ad := ad) he9
    rw [gce_arr hK] at hi
    rw [gce_obj hKe] at hj
    have he : (gwl E x f ad).set i0 (ad c, .inl (E.2.2.1 (.object "ScheduleHouse$Trial"), n, .inr (.inr (.inr (.inr (va_up (fun j => (f.1 c j).map ad) i.toNatClampNeg (some (ad e9)))))))) = gwl E x (frf f c i.toNatClampNeg (some e9)) ad := by
      have e0 := gce_arf (x := x) (f := f) (ad := ad) (k := i.toNatClampNeg) (v := some e9) hK (Or.inr rfl)
      rw [show (some (ad e9) : Option Nat) = (some e9).map ad from rfl, ← e0]
      exact gwl_set (G := fun c' => (ad c', gce E x (frf f c i.toNatClampNeg (some e9)) ad c')) hi0 (gwl_one hP.1.2 hi0) (fun c' hne => by rw [gce_frf hne])
    obtain ⟨r, hr, hr1⟩ : ∃ r : vw_C, vwCl[10]? = some r ∧ r.1 = "ScheduleHouse$Trial" := ⟨_, rfl, rfl⟩
    refine va_astq (r := r) C.1.1 C.1.2.1 C.2.2.2.1.1 hP.1.1 hP.1.2 hS i0 4 j0 10 hi (by rw [hr1]; rfl) hj hr hin hd (fun H2 locs2 hP2 hD2 hS2 => kk H2 locs2 ⟨⟨?_, ?_⟩, hP.2⟩ hS2)
    · rw [← he]; exact hP2
    · rw [← he]; exact hD2) k9
theorem T_aastA (c e9 : Nat) {n n9 : Nat} {i : Int32} (hd : decode y.2.1 pc = .ok (.aastore, 1)) (hK : E.2.2.2.1 c = .inr (.array .int, n)) (hc : c ∈ f.2.1) (hKe : E.2.2.2.1 e9 = .inr (.int, n9)) (he9 : e9 ∈ f.2.1) (hin : vp_in i n)
    (k9 : T E d y (pc + 1) lv st x (frf f c i.toNatClampNeg (some e9)) Q) : T E d y pc lv (vr e9 :: vi i :: vr c :: st) x f Q :=
  T_stepR (f2 := frf f c i.toNatClampNeg (some e9)) rfl (fun p e R s m args below meth c0 A H locs cells slots ls ad Q9 C hP hS hl kk => by
    obtain ⟨i0, hi0, hi⟩ := gwl_at (E := E) (x := x) (ad := ad) hc
    obtain ⟨j0, hj0, hj⟩ := gwl_at (E := E) (x := x) (ad := ad) he9
    rw [gce_arr hK] at hi
    rw [gce_arr hKe] at hj
    have hi : (gwl E x f ad)[i0]? = some (ad c, .inl (E.2.2.1 (.array .int), n, .inr (.inr (.inr (.inr (fun j => (f.1 c j).map ad)))))) := hi
    have he : (gwl E x f ad).set i0 (ad c, .inl (E.2.2.1 (.array .int), n, .inr (.inr (.inr (.inr (va_up (fun j => (f.1 c j).map ad) i.toNatClampNeg (some (ad e9)))))))) = gwl E x (frf f c i.toNatClampNeg (some e9)) ad := by
      have e0 := gce_arf (x := x) (f := f) (ad := ad) (k := i.toNatClampNeg) (v := some e9) hK (Or.inl rfl)
      rw [show (some (ad e9) : Option Nat) = (some e9).map ad from rfl, ← e0]
      exact gwl_set (G := fun c' => (ad c', gce E x (frf f c i.toNatClampNeg (some e9)) ad c')) hi0 (gwl_one hP.1.2 hi0) (fun c' hne => by rw [gce_frf hne])
    have hlt : i.toNatClampNeg < n := Nat.not_le.mp fun q => hin (Or.inr q)
    have h0 : ¬ i < 0 := fun q => hin (Or.inl q)
    obtain ⟨comp, cA, kA, p1, -, p3, p4, p5⟩ := arrayOver_specB C.2.2.2.1.2.1.2.2.2.2.2
    have hcA : cA = E.2.2.1 (.array .int) := Option.some.inj (Eq.trans (Eq.symm p5) (C.2.2.2.1.1.2 5 _ rfl).2)
    have hcp : comp = E.2.2.1 .int := Option.some.inj (Eq.trans (Eq.symm p1) (C.2.2.2.1.1.2 0 _ rfl).2)
    subst hcA
    subst hcp
    obtain ⟨-, kI, hkI, cI, hkind⟩ := (C.2.2.2.1.1.2 0 _ rfl).1 n9 (fun j => .int (x.1 e9 j))
    have hV : H[ad e9]? = some (arrV (E.2.2.1 .int) n9 (fun j => .int (x.1 e9 j))) := by have h9 := hP.1.1 j0 _ hj; exact h9
    refine W.aast C.1.1 C.1.2.1 (hP.1.1 i0 _ hi) (fun q h => by cases h) (fun h => by cases h) p3 p4 rfl hkI ⟨h0, by show _ < (arrV _ _ _).slots.size; rw [arrV_size]; exact hlt⟩ hV (fun q h => by cases h) hkI ?_ rfl rfl hd (fun H1 e1 z1 oq => ?_)
    · show s.vm.assignable (E.2.2.1 .int) (E.2.2.1 .int) = true
      unfold Vm.assignable
      rw [show (256 : Nat) = 255 + 1 from rfl, Vm.assignableAux, beq_self_eq_true, Bool.true_or]
    · refine kk H1 _ ⟨⟨?_, ?_⟩, hP.2⟩ (hS.put z1 oq (hP.1.2.2 i0 _ hi))
      · rw [← he]
        refine hP.1.1.set hP.1.2 hi ?_ oq
        show H1[ad c]? = some (vp_cell _ _)
        rw [e1]
        rw [vp_cell_q, vp_cell_q, arrV_store]
        congr 2
        funext q
        by_cases hq : q = i.toNatClampNeg
        · subst hq
          simp [updV, va_up, va_rf]
        · simp [updV, va_up, hq]
      · rw [← he]; exact hP.1.2.set hi) k9
/-! constructors -/
theorem T_objInit {c idx : Nat} (hd : decode y.2.1 pc = .ok (.invokespecial idx, 3)) (hw : Cond.methodLink y.1.cls idx Lib.objectInit ∈ W0 ∧ Cond.instanceMethod Lib.objectInit ∈ W0 ∧ Cond.code Lib.objectInit ⟨#[0xb1]⟩ 1 none ∈ W0) (hd1 : 1 ≤ d) (hcat : gsz st ≤ 8)
    (k9 : T E d y (pc + 3) lv st x f Q) : T E d y pc lv (vr c :: st) x f Q :=
  T_step (fun p e R s m args below meth c0 A H locs cells slots ls ad Q9 C hP hS hl kk => by
    have hR1 := C.2.2.1.1
    have hR2 := C.2.2.1.2
    refine W.objInit C.1.1 C.1.2.1 C.1.2.2.2.1 (C.1.2.2.2.2 _ hw.1) (C.1.2.2.2.2 _ hw.2.1) (C.1.2.2.2.2 _ hw.2.2) rfl (by rw [C.1.2.2.1]; exact hl.1) rfl hd (by omega) ?_ ?_
    · show 2 * 0 + ((st.map (gcv ad)).map fun v => v.category).sum + 12 ≤ R.locals
      rw [gsz_c]; omega
    · exact kk ls hl) k9
/-- what the tables say of a constructor -/
def gMi (own : String) (idx : Nat) (z : gy) (n : Nat) : Prop := (Cond.methodLink own idx z.1 ∈ W0 ∧ Cond.instanceMethod z.1 ∈ W0 ∧ Cond.initialized z.1.cls ∈ W0 ∧ gcw z ∈ W0) ∧ (z.1.cls ≠ "java/lang/invoke/MethodHandle" ∧ z.1.cls ≠ "java/lang/invoke/VarHandle" ∧ (parseMethodDescriptor z.1.desc).map (fun d => d.parameters.length) = some n) ∧ (plainName z.1.cls = true ∧ z.1.name = "<init>") ∧ z.2.2.1 ≤ 22 ∧ z.2.2.2 = (none, [])
/-- a call that returns, once its run is known -/
theorem T_run1 {d1 : Nat} {As : List gv} {rest : List gv} (hlt9 : gok f.2.1 lv rest = true)
    (hrun : ∀ (x1 : gd) (f1 : gf), gle f f1 → gW E d1 z 0 (glv 0 As) [] x f (.inl none) x1 f1 → ∀ (p : Program) (e : Env) (R : Room) (s : State) (m : MethodId) (args : Array Value) (below : List Frame) (meth : Method) (c : Code) (A : Nat → Prop) (H : Heap) (locs : List Loc) (cells slots : Nat) (ls : Array Slot) (ad : Nat → Nat), gC E d y p R s m args meth c A → gP E x f ad A H → va_S A s.heap H locs → lv_has ls y.2.2.1 (glc ad lv) → cells + (f1.2.2.1 - f.2.2.1) ≤ R.cells → slots + (f1.2.2.2 - f.2.2.2) ≤ R.slots →
      va_Run p E.1 e R s m args below meth c H locs cells slots (f1.2.2.1 - f.2.2.1) (f1.2.2.2 - f.2.2.2) (F0 m pc ls (st.map (gcv ad))) (rest.map (gcv ad)) (gQc E (gA f ad H.size) f ad (.inl none) x1 f1 (As.map (gcv ad)).toArray) (gA f ad H.size))
    (k : T E d1 z 0 (glv 0 As) [] x f (fun o x1 f1 => o = .inl none ∧ T E d y (pc + 3) lv rest x1 f1 Q)) : T E d y pc lv st x f Q := by
  obtain ⟨o1, x1, f1, ⟨rfl, hk⟩, hle, hw1⟩ := k
  have hlv : lv.all (fun q => gokv f.2.1 q.2) = true := (Bool.and_eq_true _ _ ▸ hlt9).1
  have hrs : rest.all (gokv f.2.1) = true := (Bool.and_eq_true _ _ ▸ hlt9).2
  obtain ⟨o, x', f', hQ, hle2, hw2⟩ := hk
  refine ⟨o, x', f', hQ, gle_tr hle hle2, ?_⟩
  intro p e R s m args below meth c A H locs cells slots ls ad C hP hS hl hc hs T9 hT X
  have a1 := hle.2.1
  have a2 := hle.2.2
  have b1 := hle2.2.1
  have b2 := hle2.2.2
  obtain ⟨v', st₀, t, T', L, h0, X', hL, e1, e2, ⟨ad1, hex, ⟨v2, ev1, ev2⟩, hP1, hF⟩, stp⟩ := hrun x1 f1 hle hw1 p e R s m args below meth c A H locs cells slots ls ad C hP hS hl (by omega) (by omega) T9 hT X
  cases ev1
  cases ev2
  have hin := gA_in (sz := H.size) hP (fun q hq => C.2.2.2.2 q (Nat.le_trans hS.1 hq))
  obtain ⟨k1, k2, k3⟩ := vx_keep h0 e1 hS (fun q _ h => hin q h) hin hL hF
  have hP2 : gP E x1 f1 ad1 A T'.heap := by rw [e1]; exact gP_w hP1 hin
  have hl2 : lv_has ls y.2.2.1 (glc ad1 lv) := by rw [glc_live hex hlv]; exact hl
  have hw3 := hw2 p e R s m args below meth c A T'.heap (locs ++ L) (cells + (f1.2.2.1 - f.2.2.1)) (slots + (f1.2.2.2 - f.2.2.2)) ls ad1 C hP2 k3 hl2 (by omega) (by omega)
  rw [gst_live hex hrs] at hw3
  rw [show cells + (f1.2.2.1 - f.2.2.1) + (f'.2.2.1 - f1.2.2.1) = cells + (f'.2.2.1 - f.2.2.1) by omega, show slots + (f1.2.2.2 - f.2.2.2) + (f'.2.2.2 - f1.2.2.2) = slots + (f'.2.2.2 - f.2.2.2) by omega] at hw3
  obtain ⟨t2, s1, s2⟩ := hw3 T' rfl X'
  refine ⟨t2, stp t2 s1, vx_MQ_mono s2 (fun _ _ _ _ q => ?_) (fun _ _ _ q => ?_)⟩
  · obtain ⟨ad2, g1, g2⟩ := q; exact ⟨ad2, gex_tr hle hex g1, g2⟩
  · obtain ⟨ad2, g1, g2⟩ := q; exact ⟨ad2, gex_tr hle hex g1, g2⟩
theorem gM_ofI {av : List gv} {x' : gd} {f' : gf} (hlt : E.1.stackTraces = false) (hy : plainName y.1.cls = true) (hfit : gsz av ≤ y.2.2.1) (h : gW E d y 0 (glv 0 av) [] x f (.inl none) x' f') (ad : Nat → Nat) (sz : Nat) :
    Met E.1 y.1 (gws y) ({ frames := d, cells := f'.2.2.1 - f.2.2.1, slots := f'.2.2.2 - f.2.2.2, locals := 41 * d }) (va_Pc (av.map (gcv ad)) (gst E x f ad sz)) (gQc E (gA f ad sz) f ad (.inl none) x' f') (f'.2.2.1 - f.2.2.1) (f'.2.2.2 - f.2.2.2) (gA f ad sz) := by
  have hM := gM_of hlt hy hfit h ad sz
  intro p e h1 h2 h3 s m args below hf happ hP hK
  obtain ⟨n, o, a1, a2, a3, hQ⟩ := hM p e h1 h2 h3 s m args below hf happ hP hK
  refine ⟨n, o, a1, a2, a3, ?_⟩
  rcases hQ with q | ⟨q, -, E0, ce, L, ⟨ad1, -, hn, -⟩, -⟩
  · exact q
  · cases hn
theorem T_callI {c idx n : Nat} (As rest : List gv) (d1 : Nat) (hst : st = As.reverse ++ vr c :: rest) (hd : decode y.2.1 pc = .ok (.invokespecial idx, 3)) (hM : gMi y.1.cls idx z n) (hn : As.length = n) (hd1 : d1 + 1 ≤ d) (hfit : gsz (vr c :: As) ≤ z.2.2.1) (hcat : gsz rest ≤ 8) (hok : gok f.2.1 lv rest = true)
    (k : T E d1 z 0 (glv 0 (vr c :: As)) [] x f (fun o x1 f1 => o = .inl none ∧ T E d y (pc + 3) lv rest x1 f1 Q)) : T E d y pc lv st x f Q := by
  obtain ⟨⟨m1, m2, m4, m5⟩, m6, ⟨m7, m10⟩, m8, m9⟩ := hM
  refine T_run1 (z := z) (d1 := d1) (As := vr c :: As) (rest := rest) hok ?_ k
  intro x1 f1 hle hw p e R s m args below meth c0 A H locs cells slots ls ad C hP hS hl hc1 hs1
  have hroom : 8 + (z.2.2.1 + 11) + 41 * d1 ≤ R.locals := by
    have hq := C.2.2.1.2
    omega
  have hstk : st.map (gcv ad) = (As.map (gcv ad)).reverse ++ Value.ref (ad c) :: rest.map (gcv ad) := by
    rw [hst, List.map_append, List.map_reverse]
    rfl
  have hz : z.2.2.2.2 = [] := by rw [m9]
  have hz1 : z.2.2.2.1 = none := by rw [m9]
  exact va_runI (As := As.map (gcv ad)) (b := ad c) (Pc := va_Pc ((vr c :: As).map (gcv ad)) (gst E x f ad H.size)) ⟨C.1.1, C.1.2.1, C.1.2.2.1, C.1.2.2.2.1, C.1.2.2.2.2⟩ (gM_ofI C.2.2.2.1.2.2.2 m7 hfit hw ad H.size)
      ⟨callB_of (bytes := z.2.1) (maxL := z.2.2.1) (ret := none) (ws' := W0) n C.1.2.2.2.2 (gwsz m5) (by rw [gws, gcw, hz, hz1]) rfl rfl (C.1.2.2.2.2 _ m4) (C.1.2.2.2.2 _ m1) m6 ⟨Nat.le_trans hd1 C.2.2.1.1, hroom⟩, m10, C.1.2.2.2.2 _ m2⟩ ⟨gst_blind, fun U hU hW => ⟨rfl, gst_in C hP hS hU hW⟩⟩ rfl (by rw [List.length_map]; exact hn) hl.1 hstk (lv_room (by rw [gsz_c]; exact hcat)) hd ⟨hc1, hs1⟩
/-- the constructor of a deed, called by a machine's (nest mates) -/
theorem T_callN {c idx n : Nat} (As rest : List gv) (d1 : Nat) (hst : st = As.reverse ++ vr c :: rest) (hd : decode y.2.1 pc = .ok (.invokespecial idx, 3)) (hown : y.1.cls = RX5) (hidx : idx = 24) (hz0 : z.1 = yX1_init) (hM : (Cond.instanceMethod z.1 ∈ W0 ∧ Cond.initialized z.1.cls ∈ W0 ∧ gcw z ∈ W0) ∧ (z.1.cls ≠ "java/lang/invoke/MethodHandle" ∧ z.1.cls ≠ "java/lang/invoke/VarHandle" ∧ (parseMethodDescriptor z.1.desc).map (fun d => d.parameters.length) = some n) ∧ (plainName z.1.cls = true ∧ z.1.name = "<init>") ∧ z.2.2.1 ≤ 22 ∧ z.2.2.2 = (none, [])) (hn : As.length = n) (hd1 : d1 + 1 ≤ d) (hfit : gsz (vr c :: As) ≤ z.2.2.1) (hcat : gsz rest ≤ 8) (hok : gok f.2.1 lv rest = true)
    (k : T E d1 z 0 (glv 0 (vr c :: As)) [] x f (fun o x1 f1 => o = .inl none ∧ T E d y (pc + 3) lv rest x1 f1 Q)) : T E d y pc lv st x f Q := by
  obtain ⟨⟨m2, m4, m5⟩, m6, ⟨m7, m10⟩, m8, m9⟩ := hM
  refine T_run1 (z := z) (d1 := d1) (As := vr c :: As) (rest := rest) hok ?_ k
  intro x1 f1 hle hw p e R s m args below meth c0 A H locs cells slots ls ad C hP hS hl hc1 hs1
  have hroom : 8 + (z.2.2.1 + 11) + 41 * d1 ≤ R.locals := by
    have hq := C.2.2.1.2
    omega
  have hstk : st.map (gcv ad) = (As.map (gcv ad)).reverse ++ Value.ref (ad c) :: rest.map (gcv ad) := by
    rw [hst, List.map_append, List.map_reverse]
    rfl
  have hz : z.2.2.2.2 = [] := by rw [m9]
  have hz1 : z.2.2.2.1 = none := by rw [m9]
  have hl9 : va_Nw (.methodLinkNest y.1.cls idx z.1 "ScheduleHouse") s := by rw [hown, hidx, hz0]; exact C.2.2.2.1.2.1.2.2.2.2.1
  exact va_runIN (As := As.map (gcv ad)) (b := ad c) (Pc := va_Pc ((vr c :: As).map (gcv ad)) (gst E x f ad H.size)) ⟨C.1.1, C.1.2.1, C.1.2.2.1, C.1.2.2.2.1, C.1.2.2.2.2⟩ (gM_ofI C.2.2.2.1.2.2.2 m7 hfit hw ad H.size)
      ⟨va_cnB (bytes := z.2.1) (maxL := z.2.2.1) (ret := none) (ws' := W0) n C.1.2.2.2.2 (gwsz m5) (by rw [gws, gcw, hz, hz1]) rfl rfl hl9 (C.1.2.2.2.2 _ m4) m6 ⟨Nat.le_trans hd1 C.2.2.1.1, hroom⟩, m10, C.1.2.2.2.2 _ m2⟩ ⟨gst_blind, fun U hU hW => ⟨rfl, gst_in C hP hS hU hW⟩⟩ rfl (by rw [List.length_map]; exact hn) hl.1 hstk (lv_room (by rw [gsz_c]; exact hcat)) hd ⟨hc1, hs1⟩
/-! thirteen rows of fourteen, made at once -/
def gcl (i : Nat) : Nat := if i = 0 then 190 else 299 + i
abbrev isG (c : Nat) : Prop := c = 190 ∨ (300 ≤ c ∧ c < 313)
def zgrid (x : gd) : gd := (fun c => if isG c then fun _ => 0 else x.1 c, fun c => if isG c then fun _ => 0 else x.2 c)
def fgrid (f : gf) : gf := (fun c k => if isG c then (if c = 190 ∧ k < 13 then some (300 + k) else none) else f.1 c k, f.2.1 ++ (List.range 14).map gcl, f.2.2.1 + 14, f.2.2.2 + 195)
def agrid (ad : Nat → Nat) (h : Nat) : Nat → Nat := fun c => if isG c then (if c = 190 then h else h + (c - 299)) else ad c
theorem gcl_G {i : Nat} (h : i < 14) : isG (gcl i) := by
  unfold isG gcl
  by_cases h0 : i = 0
  · rw [if_pos h0]; exact Or.inl rfl
  · rw [if_neg h0]; exact Or.inr (by omega)
theorem agrid_g {ad : Nat → Nat} {h i : Nat} (hi : i < 14) : agrid ad h (gcl i) = h + i := by
  unfold agrid
  rw [if_pos (gcl_G hi)]
  unfold gcl
  by_cases h0 : i = 0
  · rw [if_pos h0, if_pos rfl, h0]; rfl
  · rw [if_neg h0, if_neg (by omega)]; omega
theorem fgrid_le : gle f (fgrid f) := ⟨fun c h => List.mem_append_left _ h, Nat.le_add_right _ _, Nat.le_add_right _ _⟩
theorem va_Dapp {A : Nat → Prop} {ws : va_W} {D : va_G} {cl : List vw_C} {H : Heap} {N : Nat} {en : Nat → va_E} (hD : va_D A ws) (hP : va_P D cl ws H) (hA : ∀ q, H.size ≤ q → A q) : va_D A (ws ++ (List.range N).map (fun i => (H.size + i, en i))) := by
  have key : ∀ (k : Nat) (q : Nat × va_E), (ws ++ (List.range N).map (fun i => (H.size + i, en i)))[k]? = some q → (ws[k]? = some q ∧ q.1 < H.size) ∨ (ws.length ≤ k ∧ q.1 = H.size + (k - ws.length)) := by
    intro k q hk
    by_cases hl : k < ws.length
    · rw [List.getElem?_append_left hl] at hk
      exact Or.inl ⟨hk, (hP k q hk).lt⟩
    · rw [List.getElem?_append_right (by omega), List.getElem?_map] at hk
      cases hr : (List.range N)[k - ws.length]? with
      | none => rw [hr] at hk; cases hk
      | some j =>
        rw [hr] at hk
        obtain ⟨hlt, hj⟩ := List.getElem?_eq_some_iff.mp hr
        rw [List.getElem_range] at hj
        cases hk
        exact Or.inr ⟨by omega, by rw [← hj]⟩
  refine ⟨fun i j p q hi hj e => ?_, fun k q hk => ?_⟩
  · rcases key i p hi with ⟨a1, a2⟩ | ⟨a1, a2⟩ <;> rcases key j q hj with ⟨b1, b2⟩ | ⟨b1, b2⟩
    · exact hD.1 i j p q a1 b1 e
    · omega
    · omega
    · omega
  · rcases key k q hk with ⟨a1, a2⟩ | ⟨a1, a2⟩
    · exact hD.2 k q a1
    · rw [a2]; exact hA _ (Nat.le_add_right _ _)
theorem gce_grid {ad : Nat → Nat} {h c' : Nat} (hne : ¬ isG c') (hn : ∀ j c, isG c → f.1 c' j ≠ some c) : gce E (zgrid x) (fgrid f) (agrid ad h) c' = gce E x f ad c' := by
  have e1 : (zgrid x).1 c' = x.1 c' := if_neg hne
  have e2 : (zgrid x).2 c' = x.2 c' := if_neg hne
  have e3 : ∀ j, ((fgrid f).1 c' j).map (agrid ad h) = (f.1 c' j).map ad := fun j => by
    show (if isG c' then _ else f.1 c' j).map _ = _
    rw [if_neg hne]
    cases hr : f.1 c' j with
    | none => rfl
    | some b =>
      show some (agrid ad h b) = some (ad b)
      unfold agrid
      rw [if_neg (fun q => hn j b q hr)]
  unfold gce gfl gar
  rw [e1, e2]
  simp only [e3]
theorem gwl_grid {ad : Nat → Nat} {h : Nat} (hc : ∀ c ∈ f.2.1, ¬ isG c) (hr : ∀ c' ∈ f.2.1, ∀ j c, isG c → f.1 c' j ≠ some c) : gwl E (zgrid x) (fgrid f) (agrid ad h) = gwl E x f ad ++ (List.range 14).map (fun i => (h + i, gce E (zgrid x) (fgrid f) (agrid ad h) (gcl i))) := by
  unfold gwl
  show (f.2.1 ++ (List.range 14).map gcl).map _ = _
  rw [List.map_append]
  congr 1
  · apply List.map_congr_left
    intro c' h'
    rw [gce_grid (hc c' h') (hr c' h'), show agrid ad h c' = ad c' from if_neg (hc c' h')]
theorem cell_ext : ∀ a b : Cell, a.cls = b.cls → a.slots = b.slots → a.vm = b.vm → a.monitor = b.monitor → a.hash = b.hash → a = b
  | ⟨_, _, _, _, _⟩, ⟨_, _, _, _, _⟩, rfl, rfl, rfl, rfl, rfl => rfl
theorem outer_mh (cA : ClassId) (N h : Nat) : ∀ i, (Jvm.Free.Multi.outerC cA N h i).monitor = ({} : Monitor) ∧ (Jvm.Free.Multi.outerC cA N h i).hash = none
  | 0 => ⟨rfl, rfl⟩
  | i + 1 => outer_mh cA N h i
theorem outer_eq (cA : ClassId) (h : Nat) : Jvm.Free.Multi.outerC cA 13 h 13 = arrV cA 13 (fun j => va_rf (if j < 13 then some (h + 1 + j) else none)) := by
  obtain ⟨a1, a2, a3⟩ := Jvm.Free.Multi.outerC_facts cA 13 h 13
  obtain ⟨a4, a5⟩ := outer_mh cA 13 h 13
  refine cell_ext _ _ a1 ?_ a2 a4 a5
  apply Array.ext_getElem?
  intro j
  by_cases hj : j < 13
  · rw [Jvm.Free.Multi.outerC_slot cA 13 h 13 j hj, arrV_read _ _ hj, if_pos hj, if_pos hj]; rfl
  · rw [Array.getElem?_eq_none (by rw [a3]; omega), Array.getElem?_eq_none (by rw [arrV_size]; omega)]
theorem T_grid {idx : Nat} (hd : decode y.2.1 pc = .ok (.multianewarray idx 2, 4)) (hw : Cond.classLink y.1.cls idx "[[I" ∈ W0) (ha : Cond.arrayClass .int ∈ W0) (hK : E.2.2.2.1 190 = .inr (.array .int, 13)) (hKi : ∀ j, j < 13 → E.2.2.2.1 (300 + j) = .inr (.int, 14)) (hc : ∀ c ∈ f.2.1, ¬ isG c) (hr : ∀ c' ∈ f.2.1, ∀ j c, isG c → f.1 c' j ≠ some c) (hok : gok f.2.1 lv st = true)
    (k9 : T E d y (pc + 4) lv (vr 190 :: st) (zgrid x) (fgrid f) Q) : T E d y pc lv (vi 14 :: vi 13 :: st) x f Q := by
  obtain ⟨o, x', f', h1, h2, h3⟩ := k9
  refine ⟨o, x', f', h1, gle_tr fgrid_le h2, ?_⟩
  intro p e R s m args below meth c0 A H locs cells slots ls ad C hP hS hl hcc hss
  have b1 : f.2.2.1 + 14 ≤ f'.2.2.1 := h2.2.1
  have b2 : f.2.2.2 + 195 ≤ f'.2.2.2 := h2.2.2
  have hlv : lv.all (fun q => gokv f.2.1 q.2) = true := (Bool.and_eq_true _ _ ▸ hok).1
  have hrs : st.all (gokv f.2.1) = true := (Bool.and_eq_true _ _ ▸ hok).2
  intro T9 hT X
  have k13 : (13 : Int32).toNatClampNeg = 13 := rfl
  have k14 : (14 : Int32).toNatClampNeg = 14 := rfl
  obtain ⟨vm₁, cA, comp, hW, hfA, hfC, hO, hI, X1, stp⟩ := X.multianewarray2F (ty := .int) C.1.1 C.1.2.2.2.1 (C.1.2.2.2.2 _ hw) C.2.2.2.1.2.1.2.2.2.2.2 (C.1.2.2.2.2 _ ha) (g := F0 m pc ls ((vi 14 :: vi 13 :: st).map (gcv ad))) rfl (by rw [C.1.2.1]; exact hd) (n := 13) (k := 14) rfl (by decide) (by decide) (by decide) (by decide) (by decide) (by decide) (by decide) (by rw [k13]; omega) (by rw [k13, k14]; omega)
  rw [k13, k14] at X1 stp
  have hcA : cA = E.2.2.1 (.array .int) := Option.some.inj (Eq.trans (Eq.symm hfA) (C.2.2.2.1.1.2 5 _ rfl).2)
  have hcp : comp = E.2.2.1 .int := Option.some.inj (Eq.trans (Eq.symm hfC) (C.2.2.2.1.1.2 0 _ rfl).2)
  obtain ⟨f1, f2, -, -⟩ := Jvm.Free.Multi.fill_facts (T9.setVm vm₁) cA comp 13 14 (defaultValue .int) 13
  have fo := fun (a : Addr) (ha : a < T9.heap.size) => Jvm.Free.Multi.fill_old (T9.setVm vm₁) cA comp 13 14 (defaultValue .int) (a := a) ha 13
  have fi := fun (j : Nat) (hj : j < 13) => Jvm.Free.Multi.fill_inner (T9.setVm vm₁) cA comp 13 14 (defaultValue .int) 13 j hj
  generalize hF9 : Jvm.Free.Multi.fill (T9.setVm vm₁) cA comp 13 14 (defaultValue .int) 13 = F9 at *
  have hH : (T9.setVm vm₁).heap = H := hT
  rw [hH] at f1 f2 fo fi
  rw [hT] at fo
  have hex : gex f ad (agrid ad H.size) := ⟨fun c' h' => if_neg (hc c' h'), fun i hi => if_neg (by unfold isG; omega)⟩
  have hgad : gad E (agrid ad H.size) := fun i hi => by unfold agrid; rw [if_neg (by unfold isG; omega)]; exact hP.2 i hi
  have hAA : ∀ q : Nat, H.size ≤ q → A q := fun q hq => C.2.2.2.2 q (Nat.le_trans hS.1 hq)
  have hk : ∀ (k : Nat) (x9 : Nat × va_E), (gwl E x f ad)[k]? = some x9 → F9.heap[x9.1]? = H[x9.1]? := fun k x9 hx => fo x9.1 ((hP.1.1 k x9 hx).lt)
  have hP2 : gP E (zgrid x) (fgrid f) (agrid ad H.size) A F9.heap := by
    refine ⟨⟨?_, ?_⟩, hgad⟩
    · rw [gwl_grid hc hr]
      refine (hP.1.1.kept hk).app (fun k x9 hx => ?_)
      rw [List.getElem?_map] at hx
      cases hr9 : (List.range 14)[k]? with
      | none => rw [hr9] at hx; cases hx
      | some j =>
        rw [hr9] at hx
        have hj : j < 14 := List.mem_range.mp (List.mem_of_getElem? hr9)
        cases hx
        by_cases h0 : j = 0
        · subst h0
          have e9 : gce E (zgrid x) (fgrid f) (agrid ad H.size) (gcl 0) = .inl (cA, 13, .inr (.inr (.inr (.inr (fun j => if j < 13 then some (H.size + 1 + j) else none))))) := by
            show gce E (zgrid x) (fgrid f) (agrid ad H.size) 190 = _
            rw [gce_arr hK, hcA]
            have z2 : (fun j => ((fgrid f).1 190 j).map (agrid ad H.size)) = fun j => if j < 13 then some (H.size + 1 + j) else none := by
              funext j
              show (if isG 190 then (if 190 = 190 ∧ j < 13 then some (300 + j) else none) else f.1 190 j).map _ = _
              rw [if_pos (show isG 190 from Or.inl rfl)]
              by_cases hj : j < 13
              · rw [if_pos ⟨rfl, hj⟩, if_pos hj]
                show some (agrid ad H.size (300 + j)) = _
                have : agrid ad H.size (300 + j) = H.size + (1 + j) := by
                  have := agrid_g (ad := ad) (h := H.size) (i := 1 + j) (by omega)
                  rw [← this]; unfold gcl; rw [if_neg (by omega)]; congr 1; omega
                rw [this]; congr 1; omega
              · rw [if_neg (fun q => hj q.2), if_neg hj]; rfl
            show Sum.inl (_, _, Sum.inr (Sum.inr (Sum.inr (Sum.inr (fun j => ((fgrid f).1 190 j).map (agrid ad H.size)))))) = _
            rw [z2]
          show va_at E.2.1 vwCl (H.size + 0, gce E (zgrid x) (fgrid f) (agrid ad H.size) (gcl 0)) F9.heap
          rw [e9]
          show F9.heap[H.size + 0]? = some (vp_cell _ _)
          rw [vp_cell_q, Nat.add_zero, f2, outer_eq]
        · have e0 : gcl j = 300 + (j - 1) := by unfold gcl; rw [if_neg h0]; omega
          have e9 : gce E (zgrid x) (fgrid f) (agrid ad H.size) (gcl j) = .inl (comp, 14, .inl (fun _ => 0)) := by
            rw [e0, gce_arr (hKi (j - 1) (by omega)), hcp]
            show Sum.inl (_, _, Sum.inl ((zgrid x).1 (300 + (j - 1)))) = _
            rw [show (zgrid x).1 (300 + (j - 1)) = fun _ => 0 from if_pos (Or.inr (by omega))]
          show va_at E.2.1 vwCl (H.size + j, gce E (zgrid x) (fgrid f) (agrid ad H.size) (gcl j)) F9.heap
          rw [e9]
          show F9.heap[H.size + j]? = some (vp_cell _ _)
          rw [vp_cell_i, show H.size + j = H.size + 1 + (j - 1) by omega, fi (j - 1) (by omega)]
          congr 1
    · rw [gwl_grid hc hr]; exact va_Dapp hP.1.2 hP.1.1 hAA
  have hS2 : va_S A s.heap F9.heap locs := ⟨Nat.le_trans hS.1 (by omega), fun x9 q1 q2 => (fo x9 (Nat.lt_of_lt_of_le q1 hS.1)).trans (hS.2.1 x9 q1 q2), hS.2.2⟩
  have hw9 := h3 p e R s m args below meth c0 A F9.heap locs (cells + 14) (slots + 195) ls (agrid ad H.size) C hP2 hS2 (by rw [glc_live hex hlv]; exact hl) (by show cells + 14 + (f'.2.2.1 - (f.2.2.1 + 14)) ≤ _; omega) (by show slots + 195 + (f'.2.2.2 - (f.2.2.2 + 195)) ≤ _; omega)
  have ev : (vr 190 :: st).map (gcv (agrid ad H.size)) = .ref H.size :: st.map (gcv ad) := by
    rw [List.map_cons, gst_live hex hrs]
    congr 1
  rw [ev] at hw9
  obtain ⟨t2, s1, s2⟩ := hw9 F9 rfl (by rw [show cells + 14 = cells + 1 + 13 by omega, show slots + 195 = slots + 13 + 13 * 14 by omega]; exact X1)
  have e1 : cells + 14 + (f'.2.2.1 - (fgrid f).2.2.1) = cells + (f'.2.2.1 - f.2.2.1) := by show cells + 14 + (f'.2.2.1 - (f.2.2.1 + 14)) = _; omega
  have e2 : slots + 195 + (f'.2.2.2 - (fgrid f).2.2.2) = slots + (f'.2.2.2 - f.2.2.2) := by show slots + 195 + (f'.2.2.2 - (f.2.2.2 + 195)) = _; omega
  rw [e1, e2] at s2
  refine ⟨t2, stp t2 (by rw [hT]; exact s1), vx_MQ_mono s2 (fun _ _ _ _ q => ?_) (fun _ _ _ q => ?_)⟩
  · obtain ⟨ad2, g1, g2⟩ := q; exact ⟨ad2, gex_tr fgrid_le hex g1, g2⟩
  · obtain ⟨ad2, g1, g2⟩ := q; exact ⟨ad2, gex_tr fgrid_le hex g1, g2⟩
end GMK
end
section
/-! constructors: what is made, step by step. An op: a new cell (number, slots), a reference put, an int put, the grid -/
abbrev gop : Type := (Nat × Nat) ⊕ ((Nat × Nat × Nat) ⊕ ((Nat × Nat × Int32) ⊕ Unit))
abbrev oN_ (c n : Nat) : gop := .inl (c, n)
abbrev oR_ (b k c : Nat) : gop := .inr (.inl (b, k, c))
abbrev oI_ (b k : Nat) (v : Int32) : gop := .inr (.inr (.inl (b, k, v)))
abbrev oG_ : gop := .inr (.inr (.inr ()))
def fop (f : gf) (o : gop) : gf := match o with
  | .inl a => fnew f a.1 a.2
  | .inr (.inl a) => frf f a.1 a.2.1 (some a.2.2)
  | .inr (.inr (.inl _)) => f
  | .inr (.inr (.inr _)) => fgrid f
def xop (x : gd) (o : gop) : gd := match o with
  | .inl a => znew x a.1
  | .inr (.inl _) => x
  | .inr (.inr (.inl a)) => si x a.1 a.2.1 a.2.2
  | .inr (.inr (.inr _)) => zgrid x
def fops (f : gf) (l : List gop) : gf := l.foldl fop f
def xops (x : gd) (l : List gop) : gd := l.foldl xop x
def onew (o : gop) : List Nat := match o with
  | .inl a => [a.1]
  | .inr (.inl _) => []
  | .inr (.inr (.inl _)) => []
  | .inr (.inr (.inr _)) => (List.range 14).map gcl
def oput (o : gop) : List Nat := match o with
  | .inl _ => []
  | .inr (.inl a) => [a.2.2]
  | .inr (.inr (.inl _)) => []
  | .inr (.inr (.inr _)) => (List.range 14).map gcl
def ocel (o : gop) : Nat × Nat := match o with
  | .inl a => (1, a.2)
  | .inr (.inl _) => (0, 0)
  | .inr (.inr (.inl _)) => (0, 0)
  | .inr (.inr (.inr _)) => (14, 195)
theorem ops_L : ∀ (l : List gop) (f : gf), (fops f l).2.1 = f.2.1 ++ l.flatMap onew := by
  intro l
  induction l with
  | nil => intro f; show f.2.1 = _; rw [List.flatMap_nil, List.append_nil]
  | cons o r ih =>
    intro f
    show (fops (fop f o) r).2.1 = _
    rw [ih, List.flatMap_cons, ← List.append_assoc]
    congr 1
    rcases o with a | a | a | a
    · rfl
    · show f.2.1 = f.2.1 ++ []; rw [List.append_nil]
    · show f.2.1 = f.2.1 ++ []; rw [List.append_nil]
    · rfl
theorem ops_ct : ∀ (l : List gop) (f : gf), (fops f l).2.2 = (f.2.2.1 + (l.map fun o => (ocel o).1).sum, f.2.2.2 + (l.map fun o => (ocel o).2).sum) := by
  intro l
  induction l with
  | nil => intro f; rfl
  | cons o r ih =>
    intro f
    show (fops (fop f o) r).2.2 = _
    rw [ih, List.map_cons, List.map_cons, List.sum_cons, List.sum_cons]
    rcases o with a | a | a | a
    · show (f.2.2.1 + 1 + _, f.2.2.2 + a.2 + _) = (f.2.2.1 + (1 + _), f.2.2.2 + (a.2 + _)); rw [Nat.add_assoc, Nat.add_assoc]
    · show (f.2.2.1 + _, f.2.2.2 + _) = (f.2.2.1 + (0 + _), f.2.2.2 + (0 + _)); rw [Nat.zero_add, Nat.zero_add]
    · show (f.2.2.1 + _, f.2.2.2 + _) = (f.2.2.1 + (0 + _), f.2.2.2 + (0 + _)); rw [Nat.zero_add, Nat.zero_add]
    · show (f.2.2.1 + 14 + _, f.2.2.2 + 195 + _) = (f.2.2.1 + (14 + _), f.2.2.2 + (195 + _)); rw [Nat.add_assoc, Nat.add_assoc]
theorem isG_m {c : Nat} (h : isG c) : c ∈ (List.range 14).map gcl := by
  refine List.mem_map.mpr ?_
  rcases h with h | h
  · exact ⟨0, List.mem_range.mpr (by omega), by rw [h]; rfl⟩
  · exact ⟨c - 299, List.mem_range.mpr (by omega), by unfold gcl; rw [if_neg (by omega)]; omega⟩
theorem NR_op {f : gf} {o : gop} {c : Nat} (h : NR f c) (hn : c ∉ oput o) : NR (fop f o) c := by
  rcases o with a | a | a | a
  · intro c' hc' j
    show (if c' = a.1 then none else f.1 c' j) ≠ some c
    by_cases e : c' = a.1
    · rw [if_pos e]; intro q; cases q
    · rw [if_neg e]
      rcases List.mem_append.mp hc' with q | q
      · exact h c' q j
      · exact absurd (List.mem_singleton.mp q) e
  · intro c' hc' j
    show (if c' = a.1 ∧ j = a.2.1 then some a.2.2 else f.1 c' j) ≠ some c
    by_cases e : c' = a.1 ∧ j = a.2.1
    · rw [if_pos e]; intro q; exact hn (List.mem_singleton.mpr (Option.some.inj q).symm)
    · rw [if_neg e]; exact h c' hc' j
  · exact h
  · intro c' hc' j
    show (if isG c' then (if c' = 190 ∧ j < 13 then some (300 + j) else none) else f.1 c' j) ≠ some c
    by_cases e : isG c'
    · rw [if_pos e]
      by_cases e2 : c' = 190 ∧ j < 13
      · rw [if_pos e2]; intro q; exact hn (isG_m (by rw [← Option.some.inj q]; exact Or.inr (by omega)))
      · rw [if_neg e2]; intro q; cases q
    · rw [if_neg e]
      rcases List.mem_append.mp hc' with q | q
      · exact h c' q j
      · obtain ⟨i, hi, e9⟩ := List.mem_map.mp q
        exact absurd (e9 ▸ gcl_G (List.mem_range.mp hi)) e
theorem ops_nr {f : gf} {l : List gop} {c : Nat} (h : NR f c) (hn : c ∉ l.flatMap oput) : NR (fops f l) c := by
  induction l generalizing f with
  | nil => exact h
  | cons o r ih =>
    rw [List.flatMap_cons] at hn
    exact ih (NR_op h (fun q => hn (List.mem_append_left _ q))) (fun q => hn (List.mem_append_right _ q))
theorem ops_nd {f : gf} {l : List gop} {c : Nat} (h : c ∉ f.2.1) (hn : c ∉ l.flatMap onew) : c ∉ (fops f l).2.1 := by
  rw [ops_L]; intro q
  rcases List.mem_append.mp q with q | q
  · exact h q
  · exact hn q
theorem ops_in {f : gf} {l : List gop} {c : Nat} (h : c ∈ f.2.1) : c ∈ (fops f l).2.1 := by rw [ops_L]; exact List.mem_append_left _ h
theorem ops_i2 {f : gf} {l : List gop} {c : Nat} (h : c ∈ l.flatMap onew) : c ∈ (fops f l).2.1 := by rw [ops_L]; exact List.mem_append_right _ h
theorem ops_fr {f : gf} {l : List gop} {N M : List Nat} (hfr : ∀ c ∈ N, c ∉ f.2.1 ∧ NR f c) (hs : ∀ c ∈ M, c ∈ N ∧ c ∉ l.flatMap onew ∧ c ∉ l.flatMap oput) : ∀ c ∈ M, c ∉ (fops f l).2.1 ∧ NR (fops f l) c := fun c hc => by
  obtain ⟨a, b, d⟩ := hs c hc
  exact ⟨ops_nd (hfr c a).1 b, ops_nr (hfr c a).2 d⟩
theorem ops_li {f : gf} {l : List gop} {A B : List Nat} (h : ∀ c ∈ A, c ∈ f.2.1) (hs : ∀ c ∈ B, c ∈ A ∨ c ∈ l.flatMap onew) : ∀ c ∈ B, c ∈ (fops f l).2.1 := fun c hc => by
  rcases hs c hc with q | q
  · exact ops_in (h c q)
  · exact ops_i2 q
/-- what the ops leave alone -/
def otch (o : gop) : List Nat := match o with
  | .inl a => [a.1]
  | .inr (.inl a) => [a.1]
  | .inr (.inr (.inl _)) => []
  | .inr (.inr (.inr _)) => (List.range 14).map gcl
theorem ops_same {l : List gop} {f : gf} {c k : Nat} (h : c ∉ l.flatMap otch) : (fops f l).1 c k = f.1 c k := by
  induction l generalizing f with
  | nil => rfl
  | cons o r ih =>
    rw [List.flatMap_cons] at h
    show (fops (fop f o) r).1 c k = _
    rw [ih (fun q => h (List.mem_append_right _ q))]
    have h0 : c ∉ otch o := fun q => h (List.mem_append_left _ q)
    rcases o with a | a | a | a
    · exact if_neg (fun e => h0 (List.mem_singleton.mpr e))
    · exact if_neg (fun e => h0 (List.mem_singleton.mpr e.1))
    · rfl
    · exact if_neg (fun e => h0 (isG_m e))
abbrev zk_X0_init : gy := (yX0_init, cX0_init, 1, none, [])
set_option maxRecDepth 100000 in
theorem kca_X0_init : tables_1_1[135]? = some (Cond.code yX0_init cX0_init 1 none) := rfl
theorem kcw_X0_init : Cond.code yX0_init cX0_init 1 none ∈ W0 := W0_in (tp_1 (List.mem_of_getElem? kca_X0_init)) rfl
set_option maxRecDepth 100000 in
theorem dtk_X0_init : dck cX0_init [(0, .aload_n 0, 1), (1, .invokespecial 1, 3), (4, .aload_n 0, 1), (5, .new 7, 3), (8, .dup, 1), (9, .sipush 400, 3), (12, .invokespecial 11, 3), (15, .putfield 14, 3), (18, .aload_n 0, 1), (19, .sipush 800, 3), (22, .newarray .int, 2), (24, .putfield 18, 3), (27, .aload_n 0, 1), (28, .sipush 800, 3), (31, .newarray .int, 2), (33, .putfield 22, 3), (36, .aload_n 0, 1), (37, .bipush 40, 2), (39, .newarray .int, 2), (41, .putfield 25, 3), (44, .aload_n 0, 1), (45, .bipush 24, 2), (47, .newarray .int, 2), (49, .putfield 30, 3), (52, .aload_n 0, 1), (53, .bipush 24, 2), (55, .newarray .boolean, 2), (57, .putfield 33, 3), (60, .aload_n 0, 1), (61, .bipush 6, 2), (63, .newarray .int, 2), (65, .putfield 37, 3), (68, .aload_n 0, 1), (69, .bipush 6, 2), (71, .newarray .boolean, 2), (73, .putfield 40, 3), (76, .aload_n 0, 1), (77, .iconst 4, 1), (78, .newarray .int, 2), (80, .putfield 43, 3), (83, .aload_n 0, 1), (84, .iconst 4, 1), (85, .newarray .int, 2), (87, .putfield 46, 3), (90, .return_, 1)] = true := by decide +kernel
abbrev zk_X1_init : gy := (yX1_init, cX1_init, 1, none, [])
set_option maxRecDepth 100000 in
theorem kca_X1_init : tables_1_2[120]? = some (Cond.code yX1_init cX1_init 1 none) := rfl
theorem kcw_X1_init : Cond.code yX1_init cX1_init 1 none ∈ W0 := W0_in (tp_2 (List.mem_of_getElem? kca_X1_init)) rfl
set_option maxRecDepth 100000 in
theorem dtk_X1_init : dck cX1_init [(0, .aload_n 0, 1), (1, .invokespecial 1, 3), (4, .return_, 1)] = true := by decide +kernel
abbrev zk_X2_init : gy := (yX2_init, cX2_init, 2, none, [])
set_option maxRecDepth 100000 in
theorem kca_X2_init : tables_1_7[138]? = some (Cond.code yX2_init cX2_init 2 none) := rfl
theorem kcw_X2_init : Cond.code yX2_init cX2_init 2 none ∈ W0 := W0_in (tp_7 (List.mem_of_getElem? kca_X2_init)) rfl
set_option maxRecDepth 100000 in
theorem dtk_X2_init : dck cX2_init [(0, .aload_n 0, 1), (1, .invokespecial 3, 3), (4, .aload_n 0, 1), (5, .aload_n 1, 1), (6, .putfield 9, 3), (9, .aload_n 0, 1), (10, .new 15, 3), (13, .dup, 1), (14, .aload_n 1, 1), (15, .invokespecial 17, 3), (18, .putfield 20, 3), (21, .aload_n 0, 1), (22, .sipush 3000, 3), (25, .anewarray 24, 3), (28, .putfield 26, 3), (31, .aload_n 0, 1), (32, .sipush 3000, 3), (35, .newarray .int, 2), (37, .putfield 30, 3), (40, .aload_n 0, 1), (41, .sipush 8192, 3), (44, .newarray .int, 2), (46, .putfield 33, 3), (49, .aload_n 0, 1), (50, .bipush 6, 2), (52, .newarray .int, 2), (54, .putfield 38, 3), (57, .aload_n 0, 1), (58, .bipush 6, 2), (60, .newarray .int, 2), (62, .putfield 41, 3), (65, .return_, 1)] = true := by decide +kernel
abbrev zk_X3_init : gy := (yX3_init, cX3_init, 1, none, [])
set_option maxRecDepth 100000 in
theorem kca_X3_init : tables_1_7[30]? = some (Cond.code yX3_init cX3_init 1 none) := rfl
theorem kcw_X3_init : Cond.code yX3_init cX3_init 1 none ∈ W0 := W0_in (tp_7 (List.mem_of_getElem? kca_X3_init)) rfl
set_option maxRecDepth 100000 in
theorem dtk_X3_init : dck cX3_init [(0, .aload_n 0, 1), (1, .invokespecial 3, 3), (4, .aload_n 0, 1), (5, .bipush 12, 2), (7, .newarray .int, 2), (9, .putfield 11, 3), (12, .aload_n 0, 1), (13, .bipush 12, 2), (15, .newarray .int, 2), (17, .putfield 15, 3), (20, .aload_n 0, 1), (21, .bipush 12, 2), (23, .newarray .int, 2), (25, .putfield 18, 3), (28, .aload_n 0, 1), (29, .bipush 12, 2), (31, .newarray .int, 2), (33, .putfield 21, 3), (36, .aload_n 0, 1), (37, .bipush 12, 2), (39, .newarray .int, 2), (41, .putfield 24, 3), (44, .aload_n 0, 1), (45, .bipush 12, 2), (47, .newarray .int, 2), (49, .putfield 27, 3), (52, .aload_n 0, 1), (53, .bipush 6, 2), (55, .newarray .int, 2), (57, .putfield 32, 3), (60, .aload_n 0, 1), (61, .bipush 13, 2), (63, .bipush 14, 2), (65, .multianewarray 35 2, 4), (69, .putfield 37, 3), (72, .return_, 1)] = true := by decide +kernel
abbrev zk_X4_init : gy := (yX4_init, cX4_init, 2, none, [])
set_option maxRecDepth 100000 in
theorem kca_X4_init : tables_1_2[218]? = some (Cond.code yX4_init cX4_init 2 none) := rfl
theorem kcw_X4_init : Cond.code yX4_init cX4_init 2 none ∈ W0 := W0_in (tp_2 (List.mem_of_getElem? kca_X4_init)) rfl
set_option maxRecDepth 100000 in
theorem dtk_X4_init : dck cX4_init [(0, .aload_n 0, 1), (1, .invokespecial 5, 3), (4, .aload_n 0, 1), (5, .aload_n 1, 1), (6, .putfield 11, 3), (9, .aload_n 0, 1), (10, .sipush 400, 3), (13, .newarray .int, 2), (15, .putfield 17, 3), (18, .aload_n 0, 1), (19, .sipush 400, 3), (22, .newarray .int, 2), (24, .putfield 21, 3), (27, .aload_n 0, 1), (28, .sipush 400, 3), (31, .newarray .int, 2), (33, .putfield 24, 3), (36, .aload_n 0, 1), (37, .sipush 400, 3), (40, .newarray .int, 2), (42, .putfield 27, 3), (45, .aload_n 0, 1), (46, .sipush 400, 3), (49, .newarray .int, 2), (51, .putfield 30, 3), (54, .aload_n 0, 1), (55, .sipush 400, 3), (58, .newarray .int, 2), (60, .putfield 33, 3), (63, .aload_n 0, 1), (64, .sipush 400, 3), (67, .newarray .boolean, 2), (69, .putfield 36, 3), (72, .aload_n 0, 1), (73, .sipush 400, 3), (76, .newarray .int, 2), (78, .putfield 40, 3), (81, .aload_n 0, 1), (82, .sipush 2400, 3), (85, .newarray .int, 2), (87, .putfield 43, 3), (90, .aload_n 0, 1), (91, .bipush 6, 2), (93, .newarray .int, 2), (95, .putfield 46, 3), (98, .aload_n 0, 1), (99, .bipush 36, 2), (101, .newarray .int, 2), (103, .putfield 49, 3), (106, .aload_n 0, 1), (107, .bipush 36, 2), (109, .newarray .int, 2), (111, .putfield 52, 3), (114, .aload_n 0, 1), (115, .sipush 144, 3), (118, .newarray .int, 2), (120, .putfield 55, 3), (123, .aload_n 0, 1), (124, .bipush 36, 2), (126, .newarray .int, 2), (128, .putfield 58, 3), (131, .return_, 1)] = true := by decide +kernel
abbrev zk_X5_init : gy := (yX5_init, cX5_init, 2, none, [])
set_option maxRecDepth 100000 in
theorem kca_X5_init : tables_1_2[114]? = some (Cond.code yX5_init cX5_init 2 none) := rfl
theorem kcw_X5_init : Cond.code yX5_init cX5_init 2 none ∈ W0 := W0_in (tp_2 (List.mem_of_getElem? kca_X5_init)) rfl
set_option maxRecDepth 100000 in
theorem dtk_X5_init : dck cX5_init [(0, .aload_n 0, 1), (1, .invokespecial 5, 3), (4, .aload_n 0, 1), (5, .aload_n 1, 1), (6, .putfield 11, 3), (9, .aload_n 0, 1), (10, .aload_n 1, 1), (11, .getfield 15, 3), (14, .putfield 21, 3), (17, .aload_n 0, 1), (18, .new 22, 3), (21, .dup, 1), (22, .invokespecial 24, 3), (25, .putfield 25, 3), (28, .aload_n 0, 1), (29, .sipush 228, 3), (32, .newarray .int, 2), (34, .putfield 29, 3), (37, .aload_n 0, 1), (38, .bipush 84, 2), (40, .newarray .int, 2), (42, .putfield 33, 3), (45, .aload_n 0, 1), (46, .bipush 84, 2), (48, .newarray .int, 2), (50, .putfield 36, 3), (53, .aload_n 0, 1), (54, .bipush 84, 2), (56, .newarray .int, 2), (58, .putfield 39, 3), (61, .return_, 1)] = true := by decide +kernel
abbrev zk_X6_init : gy := (yX6_init, cX6_init, 2, none, [])
set_option maxRecDepth 100000 in
theorem kca_X6_init : tables_1_1[87]? = some (Cond.code yX6_init cX6_init 2 none) := rfl
theorem kcw_X6_init : Cond.code yX6_init cX6_init 2 none ∈ W0 := W0_in (tp_1 (List.mem_of_getElem? kca_X6_init)) rfl
set_option maxRecDepth 100000 in
theorem dtk_X6_init : dck cX6_init [(0, .aload_n 0, 1), (1, .invokespecial 3, 3), (4, .aload_n 0, 1), (5, .aload_n 1, 1), (6, .putfield 9, 3), (9, .aload_n 0, 1), (10, .sipush 702, 3), (13, .newarray .int, 2), (15, .putfield 17, 3), (18, .aload_n 0, 1), (19, .sipush 702, 3), (22, .newarray .int, 2), (24, .putfield 21, 3), (27, .aload_n 0, 1), (28, .bipush 24, 2), (30, .newarray .int, 2), (32, .putfield 24, 3), (35, .aload_n 0, 1), (36, .bipush 24, 2), (38, .newarray .int, 2), (40, .putfield 27, 3), (43, .aload_n 0, 1), (44, .bipush 24, 2), (46, .newarray .int, 2), (48, .putfield 30, 3), (51, .aload_n 0, 1), (52, .bipush 6, 2), (54, .newarray .int, 2), (56, .putfield 33, 3), (59, .aload_n 0, 1), (60, .bipush 6, 2), (62, .newarray .int, 2), (64, .putfield 36, 3), (67, .return_, 1)] = true := by decide +kernel
abbrev zk_X7_init : gy := (yX7_init, cX7_init, 4, none, [])
set_option maxRecDepth 100000 in
theorem kca_X7_init : tables_1_2[52]? = some (Cond.code yX7_init cX7_init 4 none) := rfl
theorem kcw_X7_init : Cond.code yX7_init cX7_init 4 none ∈ W0 := W0_in (tp_2 (List.mem_of_getElem? kca_X7_init)) rfl
set_option maxRecDepth 100000 in
theorem dtk_X7_init : dck cX7_init [(0, .aload_n 0, 1), (1, .invokespecial 5, 3), (4, .aload_n 0, 1), (5, .aload_n 1, 1), (6, .putfield 11, 3), (9, .aload_n 0, 1), (10, .aload_n 2, 1), (11, .putfield 15, 3), (14, .aload_n 0, 1), (15, .aload_n 3, 1), (16, .putfield 19, 3), (19, .aload_n 0, 1), (20, .aload_n 3, 1), (21, .getfield 23, 3), (24, .putfield 29, 3), (27, .aload_n 0, 1), (28, .bipush 8, 2), (30, .newarray .int, 2), (32, .putfield 30, 3), (35, .aload_n 0, 1), (36, .bipush 20, 2), (38, .newarray .int, 2), (40, .putfield 34, 3), (43, .aload_n 0, 1), (44, .bipush 20, 2), (46, .newarray .int, 2), (48, .putfield 37, 3), (51, .aload_n 0, 1), (52, .bipush 20, 2), (54, .newarray .int, 2), (56, .putfield 40, 3), (59, .aload_n 0, 1), (60, .bipush 20, 2), (62, .newarray .int, 2), (64, .putfield 43, 3), (67, .aload_n 0, 1), (68, .bipush 20, 2), (70, .newarray .int, 2), (72, .putfield 46, 3), (75, .aload_n 0, 1), (76, .bipush 20, 2), (78, .newarray .int, 2), (80, .putfield 49, 3), (83, .return_, 1)] = true := by decide +kernel
abbrev zk_X8_init : gy := (yX8_init, cX8_init, 2, none, [])
set_option maxRecDepth 100000 in
theorem kca_X8_init : tables_1_1[141]? = some (Cond.code yX8_init cX8_init 2 none) := rfl
theorem kcw_X8_init : Cond.code yX8_init cX8_init 2 none ∈ W0 := W0_in (tp_1 (List.mem_of_getElem? kca_X8_init)) rfl
set_option maxRecDepth 100000 in
theorem dtk_X8_init : dck cX8_init [(0, .aload_n 0, 1), (1, .invokespecial 3, 3), (4, .aload_n 0, 1), (5, .iload_n 1, 1), (6, .newarray .int, 2), (8, .putfield 9, 3), (11, .aload_n 0, 1), (12, .iload_n 1, 1), (13, .newarray .int, 2), (15, .putfield 15, 3), (18, .aload_n 0, 1), (19, .iload_n 1, 1), (20, .newarray .int, 2), (22, .putfield 18, 3), (25, .aload_n 0, 1), (26, .iload_n 1, 1), (27, .newarray .int, 2), (29, .putfield 21, 3), (32, .aload_n 0, 1), (33, .iload_n 1, 1), (34, .newarray .int, 2), (36, .putfield 24, 3), (39, .aload_n 0, 1), (40, .iload_n 1, 1), (41, .newarray .int, 2), (43, .putfield 27, 3), (46, .aload_n 0, 1), (47, .iload_n 1, 1), (48, .newarray .int, 2), (50, .putfield 30, 3), (53, .aload_n 0, 1), (54, .iload_n 1, 1), (55, .newarray .int, 2), (57, .putfield 33, 3), (60, .aload_n 0, 1), (61, .iload_n 1, 1), (62, .newarray .int, 2), (64, .putfield 36, 3), (67, .return_, 1)] = true := by decide +kernel
abbrev zk_X9_init : gy := (yX9_init, cX9_init, 1, none, [])
set_option maxRecDepth 100000 in
theorem kca_X9_init : tables_1_1[40]? = some (Cond.code yX9_init cX9_init 1 none) := rfl
theorem kcw_X9_init : Cond.code yX9_init cX9_init 1 none ∈ W0 := W0_in (tp_1 (List.mem_of_getElem? kca_X9_init)) rfl
set_option maxRecDepth 100000 in
theorem dtk_X9_init : dck cX9_init [(0, .aload_n 0, 1), (1, .invokespecial 3, 3), (4, .aload_n 0, 1), (5, .sipush 3000, 3), (8, .newarray .byte, 2), (10, .putfield 9, 3), (13, .aload_n 0, 1), (14, .sipush 702, 3), (17, .newarray .int, 2), (19, .putfield 15, 3), (22, .aload_n 0, 1), (23, .sipush 702, 3), (26, .newarray .int, 2), (28, .putfield 19, 3), (31, .aload_n 0, 1), (32, .sipush 702, 3), (35, .newarray .int, 2), (37, .putfield 22, 3), (40, .aload_n 0, 1), (41, .sipush 702, 3), (44, .newarray .int, 2), (46, .putfield 25, 3), (49, .aload_n 0, 1), (50, .sipush 702, 3), (53, .newarray .int, 2), (55, .putfield 28, 3), (58, .return_, 1)] = true := by decide +kernel
abbrev zk_X10_init : gy := (yX10_init, cX10_init, 1, none, [])
set_option maxRecDepth 100000 in
theorem kca_X10_init : tables_1_7[177]? = some (Cond.code yX10_init cX10_init 1 none) := rfl
theorem kcw_X10_init : Cond.code yX10_init cX10_init 1 none ∈ W0 := W0_in (tp_7 (List.mem_of_getElem? kca_X10_init)) rfl
set_option maxRecDepth 100000 in
theorem dtk_X10_init : dck cX10_init [(0, .aload_n 0, 1), (1, .invokespecial 3, 3), (4, .aload_n 0, 1), (5, .bipush 11, 2), (7, .newarray .int, 2), (9, .putfield 11, 3), (12, .aload_n 0, 1), (13, .bipush 24, 2), (15, .newarray .int, 2), (17, .putfield 17, 3), (20, .aload_n 0, 1), (21, .bipush 6, 2), (23, .newarray .int, 2), (25, .putfield 20, 3), (28, .aload_n 0, 1), (29, .sipush 3000, 3), (32, .newarray .int, 2), (34, .putfield 23, 3), (37, .aload_n 0, 1), (38, .sipush 3000, 3), (41, .newarray .int, 2), (43, .putfield 26, 3), (46, .aload_n 0, 1), (47, .sipush 3000, 3), (50, .newarray .int, 2), (52, .putfield 29, 3), (55, .aload_n 0, 1), (56, .sipush 3000, 3), (59, .anewarray 32, 3), (62, .putfield 33, 3), (65, .aload_n 0, 1), (66, .sipush 3000, 3), (69, .newarray .int, 2), (71, .putfield 37, 3), (74, .return_, 1)] = true := by decide +kernel
abbrev zk_X11_init : gy := (yX11_init, cX11_init, 1, none, [])
set_option maxRecDepth 100000 in
theorem kca_X11_init : tables_1_1[32]? = some (Cond.code yX11_init cX11_init 1 none) := rfl
theorem kcw_X11_init : Cond.code yX11_init cX11_init 1 none ∈ W0 := W0_in (tp_1 (List.mem_of_getElem? kca_X11_init)) rfl
set_option maxRecDepth 100000 in
theorem dtk_X11_init : dck cX11_init [(0, .aload_n 0, 1), (1, .invokespecial 1, 3), (4, .aload_n 0, 1), (5, .new 7, 3), (8, .dup, 1), (9, .invokespecial 9, 3), (12, .putfield 10, 3), (15, .aload_n 0, 1), (16, .new 16, 3), (19, .dup, 1), (20, .aload_n 0, 1), (21, .getfield 10, 3), (24, .invokespecial 18, 3), (27, .putfield 21, 3), (30, .aload_n 0, 1), (31, .new 25, 3), (34, .dup, 1), (35, .invokespecial 27, 3), (38, .putfield 28, 3), (41, .aload_n 0, 1), (42, .new 32, 3), (45, .dup, 1), (46, .aload_n 0, 1), (47, .getfield 10, 3), (50, .aload_n 0, 1), (51, .getfield 21, 3), (54, .aload_n 0, 1), (55, .getfield 28, 3), (58, .invokespecial 34, 3), (61, .putfield 37, 3), (64, .aload_n 0, 1), (65, .new 41, 3), (68, .dup, 1), (69, .aload_n 0, 1), (70, .getfield 28, 3), (73, .invokespecial 43, 3), (76, .putfield 46, 3), (79, .aload_n 0, 1), (80, .new 50, 3), (83, .dup, 1), (84, .aload_n 0, 1), (85, .getfield 28, 3), (88, .invokespecial 52, 3), (91, .putfield 53, 3), (94, .aload_n 0, 1), (95, .iconst 2, 1), (96, .anewarray 57, 3), (99, .putfield 59, 3), (102, .aload_n 0, 1), (103, .iconst (-1), 1), (104, .putfield 63, 3), (107, .aload_n 0, 1), (108, .iconst (-1), 1), (109, .putfield 67, 3), (112, .return_, 1)] = true := by decide +kernel
theorem kn_X0_7 : gNw RX0 7 8 ks_X8 := ⟨RX8, TX8, tyX8, rfl, kw_X8, (W0_in (tp_1 (List.mem_of_getElem? (i := 137) (by decide +kernel))) rfl), (W0_in (tp_1 (List.mem_of_getElem? (i := 138) (by decide +kernel))) rfl), (W0_in (tp_1 (List.mem_of_getElem? (i := 5) (by decide +kernel))) rfl), tyX8_ok, by decide⟩
theorem kn_X11_7 : gNw RX11 7 9 ks_X9 := ⟨RX9, TX9, tyX9, rfl, kw_X9, (W0_in (tp_1 (List.mem_of_getElem? (i := 36) (by decide +kernel))) rfl), (W0_in (tp_1 (List.mem_of_getElem? (i := 37) (by decide +kernel))) rfl), (W0_in (tp_1 (List.mem_of_getElem? (i := 2) (by decide +kernel))) rfl), tyX9_ok, by decide⟩
theorem kn_X11_16 : gNw RX11 16 6 ks_X6 := ⟨RX6, TX6, tyX6, rfl, kw_X6, (W0_in (tp_1 (List.mem_of_getElem? (i := 83) (by decide +kernel))) rfl), (W0_in (tp_1 (List.mem_of_getElem? (i := 84) (by decide +kernel))) rfl), (W0_in (tp_1 (List.mem_of_getElem? (i := 3) (by decide +kernel))) rfl), tyX6_ok, by decide⟩
theorem kn_X11_25 : gNw RX11 25 0 ks_X0 := ⟨RX0, TX0, tyX0, rfl, kw_X0, (W0_in (tp_1 (List.mem_of_getElem? (i := 131) (by decide +kernel))) rfl), (W0_in (tp_1 (List.mem_of_getElem? (i := 132) (by decide +kernel))) rfl), (W0_in (tp_1 (List.mem_of_getElem? (i := 4) (by decide +kernel))) rfl), tyX0_ok, by decide⟩
theorem kn_X11_32 : gNw RX11 32 7 ks_X7 := ⟨RX7, TX7, tyX7, rfl, kw_X7, (W0_in (tp_2 (List.mem_of_getElem? (i := 48) (by decide +kernel))) rfl), (W0_in (tp_2 (List.mem_of_getElem? (i := 49) (by decide +kernel))) rfl), (W0_in (tp_1 (List.mem_of_getElem? (i := 6) (by decide +kernel))) rfl), tyX7_ok, by decide⟩
theorem kn_X11_41 : gNw RX11 41 5 ks_X5 := ⟨RX5, TX5, tyX5, rfl, kw_X5, (W0_in (tp_2 (List.mem_of_getElem? (i := 110) (by decide +kernel))) rfl), (W0_in (tp_2 (List.mem_of_getElem? (i := 111) (by decide +kernel))) rfl), (W0_in (tp_1 (List.mem_of_getElem? (i := 7) (by decide +kernel))) rfl), tyX5_ok, by decide⟩
theorem kn_X11_50 : gNw RX11 50 4 ks_X4 := ⟨RX4, TX4, tyX4, rfl, kw_X4, (W0_in (tp_2 (List.mem_of_getElem? (i := 214) (by decide +kernel))) rfl), (W0_in (tp_2 (List.mem_of_getElem? (i := 215) (by decide +kernel))) rfl), (W0_in (tp_1 (List.mem_of_getElem? (i := 9) (by decide +kernel))) rfl), tyX4_ok, by decide⟩
theorem kn_X11_57 : gNw RX11 57 10 ks_X10 := ⟨RX10, TX10, tyX10, rfl, kw_X10, (W0_in (tp_3 (List.mem_of_getElem? (i := 50) (by decide +kernel))) rfl), (W0_in (tp_7 (List.mem_of_getElem? (i := 174) (by decide +kernel))) rfl), (W0_in (tp_1 (List.mem_of_getElem? (i := 27) (by decide +kernel))) rfl), tyX10_ok, by decide⟩
theorem kn_X11_278 : gNw RX11 278 3 ks_X3 := ⟨RX3, TX3, tyX3, rfl, kw_X3, (W0_in (tp_7 (List.mem_of_getElem? (i := 26) (by decide +kernel))) rfl), (W0_in (tp_7 (List.mem_of_getElem? (i := 27) (by decide +kernel))) rfl), (W0_in (tp_1 (List.mem_of_getElem? (i := 24) (by decide +kernel))) rfl), tyX3_ok, by decide⟩
theorem kn_X11_298 : gNw RX11 298 2 ks_X2 := ⟨RX2, TX2, tyX2, rfl, kw_X2, (W0_in (tp_7 (List.mem_of_getElem? (i := 134) (by decide +kernel))) rfl), (W0_in (tp_7 (List.mem_of_getElem? (i := 135) (by decide +kernel))) rfl), (W0_in (tp_1 (List.mem_of_getElem? (i := 26) (by decide +kernel))) rfl), tyX2_ok, by decide⟩
theorem kn_X2_15 : gNw RX2 15 5 ks_X5 := ⟨RX5, TX5, tyX5, rfl, kw_X5, (W0_in (tp_7 (List.mem_of_getElem? (i := 140) (by decide +kernel))) rfl), (W0_in (tp_2 (List.mem_of_getElem? (i := 111) (by decide +kernel))) rfl), (W0_in (tp_1 (List.mem_of_getElem? (i := 7) (by decide +kernel))) rfl), tyX5_ok, by decide⟩
theorem kn_X5_22 : gNw RX5 22 1 ks_X1 := ⟨RX1, TX1, tyX1, rfl, kw_X1, (W0_in (tp_2 (List.mem_of_getElem? (i := 116) (by decide +kernel))) rfl), (W0_in (tp_2 (List.mem_of_getElem? (i := 117) (by decide +kernel))) rfl), (W0_in (tp_1 (List.mem_of_getElem? (i := 8) (by decide +kernel))) rfl), tyX1_ok, by decide⟩
theorem kci_X0_11 : gMi RX0 11 zk_X8_init 1 := ⟨⟨(W0_in (tp_1 (List.mem_of_getElem? (i := 139) (by decide +kernel))) rfl), (W0_in (tp_1 (List.mem_of_getElem? (i := 140) (by decide +kernel))) rfl), (W0_in (tp_1 (List.mem_of_getElem? (i := 5) (by decide +kernel))) rfl), kcw_X8_init⟩, ⟨by decide, by decide, by decide +kernel⟩, ⟨by decide, rfl⟩, by decide, rfl⟩
theorem kci_X11_9 : gMi RX11 9 zk_X9_init 0 := ⟨⟨(W0_in (tp_1 (List.mem_of_getElem? (i := 38) (by decide +kernel))) rfl), (W0_in (tp_1 (List.mem_of_getElem? (i := 39) (by decide +kernel))) rfl), (W0_in (tp_1 (List.mem_of_getElem? (i := 2) (by decide +kernel))) rfl), kcw_X9_init⟩, ⟨by decide, by decide, by decide +kernel⟩, ⟨by decide, rfl⟩, by decide, rfl⟩
theorem kci_X11_18 : gMi RX11 18 zk_X6_init 1 := ⟨⟨(W0_in (tp_1 (List.mem_of_getElem? (i := 85) (by decide +kernel))) rfl), (W0_in (tp_1 (List.mem_of_getElem? (i := 86) (by decide +kernel))) rfl), (W0_in (tp_1 (List.mem_of_getElem? (i := 3) (by decide +kernel))) rfl), kcw_X6_init⟩, ⟨by decide, by decide, by decide +kernel⟩, ⟨by decide, rfl⟩, by decide, rfl⟩
theorem kci_X11_27 : gMi RX11 27 zk_X0_init 0 := ⟨⟨(W0_in (tp_1 (List.mem_of_getElem? (i := 133) (by decide +kernel))) rfl), (W0_in (tp_1 (List.mem_of_getElem? (i := 134) (by decide +kernel))) rfl), (W0_in (tp_1 (List.mem_of_getElem? (i := 4) (by decide +kernel))) rfl), kcw_X0_init⟩, ⟨by decide, by decide, by decide +kernel⟩, ⟨by decide, rfl⟩, by decide, rfl⟩
theorem kci_X11_34 : gMi RX11 34 zk_X7_init 3 := ⟨⟨(W0_in (tp_2 (List.mem_of_getElem? (i := 50) (by decide +kernel))) rfl), (W0_in (tp_2 (List.mem_of_getElem? (i := 51) (by decide +kernel))) rfl), (W0_in (tp_1 (List.mem_of_getElem? (i := 6) (by decide +kernel))) rfl), kcw_X7_init⟩, ⟨by decide, by decide, by decide +kernel⟩, ⟨by decide, rfl⟩, by decide, rfl⟩
theorem kci_X11_43 : gMi RX11 43 zk_X5_init 1 := ⟨⟨(W0_in (tp_2 (List.mem_of_getElem? (i := 112) (by decide +kernel))) rfl), (W0_in (tp_2 (List.mem_of_getElem? (i := 113) (by decide +kernel))) rfl), (W0_in (tp_1 (List.mem_of_getElem? (i := 7) (by decide +kernel))) rfl), kcw_X5_init⟩, ⟨by decide, by decide, by decide +kernel⟩, ⟨by decide, rfl⟩, by decide, rfl⟩
theorem kci_X11_52 : gMi RX11 52 zk_X4_init 1 := ⟨⟨(W0_in (tp_2 (List.mem_of_getElem? (i := 216) (by decide +kernel))) rfl), (W0_in (tp_2 (List.mem_of_getElem? (i := 217) (by decide +kernel))) rfl), (W0_in (tp_1 (List.mem_of_getElem? (i := 9) (by decide +kernel))) rfl), kcw_X4_init⟩, ⟨by decide, by decide, by decide +kernel⟩, ⟨by decide, rfl⟩, by decide, rfl⟩
theorem kci_X11_284 : gMi RX11 284 zk_X3_init 0 := ⟨⟨(W0_in (tp_7 (List.mem_of_getElem? (i := 28) (by decide +kernel))) rfl), (W0_in (tp_7 (List.mem_of_getElem? (i := 29) (by decide +kernel))) rfl), (W0_in (tp_1 (List.mem_of_getElem? (i := 24) (by decide +kernel))) rfl), kcw_X3_init⟩, ⟨by decide, by decide, by decide +kernel⟩, ⟨by decide, rfl⟩, by decide, rfl⟩
theorem kci_X11_300 : gMi RX11 300 zk_X2_init 1 := ⟨⟨(W0_in (tp_7 (List.mem_of_getElem? (i := 136) (by decide +kernel))) rfl), (W0_in (tp_7 (List.mem_of_getElem? (i := 137) (by decide +kernel))) rfl), (W0_in (tp_1 (List.mem_of_getElem? (i := 26) (by decide +kernel))) rfl), kcw_X2_init⟩, ⟨by decide, by decide, by decide +kernel⟩, ⟨by decide, rfl⟩, by decide, rfl⟩
theorem kci_X11_301 : gMi RX11 301 zk_X10_init 0 := ⟨⟨(W0_in (tp_7 (List.mem_of_getElem? (i := 175) (by decide +kernel))) rfl), (W0_in (tp_7 (List.mem_of_getElem? (i := 176) (by decide +kernel))) rfl), (W0_in (tp_1 (List.mem_of_getElem? (i := 27) (by decide +kernel))) rfl), kcw_X10_init⟩, ⟨by decide, by decide, by decide +kernel⟩, ⟨by decide, rfl⟩, by decide, rfl⟩
theorem kci_X2_17 : gMi RX2 17 zk_X5_init 1 := ⟨⟨(W0_in (tp_7 (List.mem_of_getElem? (i := 141) (by decide +kernel))) rfl), (W0_in (tp_2 (List.mem_of_getElem? (i := 113) (by decide +kernel))) rfl), (W0_in (tp_1 (List.mem_of_getElem? (i := 7) (by decide +kernel))) rfl), kcw_X5_init⟩, ⟨by decide, by decide, by decide +kernel⟩, ⟨by decide, rfl⟩, by decide, rfl⟩
theorem kci_deed : (Cond.instanceMethod zk_X1_init.1 ∈ W0 ∧ Cond.initialized zk_X1_init.1.cls ∈ W0 ∧ gcw zk_X1_init ∈ W0) ∧ (zk_X1_init.1.cls ≠ "java/lang/invoke/MethodHandle" ∧ zk_X1_init.1.cls ≠ "java/lang/invoke/VarHandle" ∧ (parseMethodDescriptor zk_X1_init.1.desc).map (fun d => d.parameters.length) = some 0) ∧ (plainName zk_X1_init.1.cls = true ∧ zk_X1_init.1.name = "<init>") ∧ zk_X1_init.2.2.1 ≤ 22 ∧ zk_X1_init.2.2.2 = (none, []) := ⟨⟨(W0_in (tp_2 (List.mem_of_getElem? (i := 119) (by decide +kernel))) rfl), (W0_in (tp_1 (List.mem_of_getElem? (i := 8) (by decide +kernel))) rfl), kcw_X1_init⟩, ⟨by decide, by decide, by decide +kernel⟩, ⟨by decide, rfl⟩, by decide, rfl⟩
theorem kg_k {G : kG} : ∀ j, j < 13 → (kE G).2.2.2.1 (300 + j) = .inr (.int, 14) := fun j h => by
  show kK (300 + j) = _
  unfold kK; rw [if_neg (by omega), if_pos (by omega)]
def ops_20 : List gop := [oN_ 21 3000, oR_ 20 0 21, oN_ 23 702, oR_ 20 2 23, oN_ 24 702, oR_ 20 3 24, oN_ 25 702, oR_ 20 4 25, oN_ 26 702, oR_ 20 5 26, oN_ 27 702, oR_ 20 6 27]
def news_20 : List Nat := [21, 23, 24, 25, 26, 27]
set_option maxRecDepth 100000 in
set_option maxHeartbeats 4000000 in
theorem kc_20 {G : kG} {d : Nat} {x : gd} {f : gf} {Q : gr → gd → gf → Prop} (hB : 20 ∈ f.2.1) (hfr : ∀ c ∈ news_20, c ∉ f.2.1 ∧ NR f c) (h : Q (.inl none) (xops x ops_20) (fops f ops_20)) : T (kE G) (d + 1) zk_X9_init 0 [(0, vr 20)] [] x f Q := by
  refine T_aload_n 0 (dk dtk_X9_init 0 rfl) rfl rfl ?_
  refine T_objInit (dk dtk_X9_init 1 rfl) ⟨(W0_in (tp_1 (List.mem_of_getElem? (i := 41) (by decide +kernel))) rfl), (W0_in (tp_1 (List.mem_of_getElem? (i := 34) (by decide +kernel))) rfl), (W0_in (tp_1 (List.mem_of_getElem? (i := 35) (by decide +kernel))) rfl)⟩ (by omega) (Nat.le_of_ble_eq_true rfl) ?_
  refine T_aload_n 0 (dk dtk_X9_init 2 rfl) rfl rfl ?_
  refine T_sipush (v := 3000) (dk dtk_X9_init 3 rfl) (by decide +kernel) ?_
  refine T_newI 21 (dk dtk_X9_init 4 rfl) rfl (Or.inr (Or.inl rfl)) (W0_in (tp_1 (List.mem_of_getElem? (i := 81) (by decide +kernel))) rfl) kk_21 (by decide) (by decide) (by decide) (ops_nd (l := List.take 0 ops_20) (hfr 21 (by decide)).1 (by decide)) (Or.inl (by decide)) (ops_nr (l := List.take 0 ops_20) (hfr 21 (by decide)).2 (by decide)) (gok_i (av_c (gkr (ops_in (l := List.take 0 ops_20) hB)) av_n) (as_c (gkr (ops_in (l := List.take 0 ops_20) hB)) as_n)) ?_
  refine T_putRF 20 0 21 (dk dtk_X9_init 5 rfl) rfl kfl_X9_9 kk_20 (ops_in (l := List.take 1 ops_20) hB) (by decide) rfl (fun _ => ⟨rfl, rfl⟩) (fun r h => by cases h; rfl) ?_
  refine T_aload_n 0 (dk dtk_X9_init 6 rfl) rfl rfl ?_
  refine T_sipush (v := 702) (dk dtk_X9_init 7 rfl) (by decide +kernel) ?_
  refine T_newI 23 (dk dtk_X9_init 8 rfl) rfl (Or.inl rfl) (W0_in (tp_1 (List.mem_of_getElem? (i := 82) (by decide +kernel))) rfl) kk_23 (by decide) (by decide) (by decide) (ops_nd (l := List.take 2 ops_20) (hfr 23 (by decide)).1 (by decide)) (Or.inl (by decide)) (ops_nr (l := List.take 2 ops_20) (hfr 23 (by decide)).2 (by decide)) (gok_i (av_c (gkr (ops_in (l := List.take 2 ops_20) hB)) av_n) (as_c (gkr (ops_in (l := List.take 2 ops_20) hB)) as_n)) ?_
  refine T_putRF 20 2 23 (dk dtk_X9_init 9 rfl) rfl kfl_X9_15 kk_20 (ops_in (l := List.take 3 ops_20) hB) (by decide) rfl (fun _ => ⟨rfl, rfl⟩) (fun r h => by cases h; rfl) ?_
  refine T_aload_n 0 (dk dtk_X9_init 10 rfl) rfl rfl ?_
  refine T_sipush (v := 702) (dk dtk_X9_init 11 rfl) (by decide +kernel) ?_
  refine T_newI 24 (dk dtk_X9_init 12 rfl) rfl (Or.inl rfl) (W0_in (tp_1 (List.mem_of_getElem? (i := 82) (by decide +kernel))) rfl) kk_24 (by decide) (by decide) (by decide) (ops_nd (l := List.take 4 ops_20) (hfr 24 (by decide)).1 (by decide)) (Or.inl (by decide)) (ops_nr (l := List.take 4 ops_20) (hfr 24 (by decide)).2 (by decide)) (gok_i (av_c (gkr (ops_in (l := List.take 4 ops_20) hB)) av_n) (as_c (gkr (ops_in (l := List.take 4 ops_20) hB)) as_n)) ?_
  refine T_putRF 20 3 24 (dk dtk_X9_init 13 rfl) rfl kfl_X9_19 kk_20 (ops_in (l := List.take 5 ops_20) hB) (by decide) rfl (fun _ => ⟨rfl, rfl⟩) (fun r h => by cases h; rfl) ?_
  refine T_aload_n 0 (dk dtk_X9_init 14 rfl) rfl rfl ?_
  refine T_sipush (v := 702) (dk dtk_X9_init 15 rfl) (by decide +kernel) ?_
  refine T_newI 25 (dk dtk_X9_init 16 rfl) rfl (Or.inl rfl) (W0_in (tp_1 (List.mem_of_getElem? (i := 82) (by decide +kernel))) rfl) kk_25 (by decide) (by decide) (by decide) (ops_nd (l := List.take 6 ops_20) (hfr 25 (by decide)).1 (by decide)) (Or.inl (by decide)) (ops_nr (l := List.take 6 ops_20) (hfr 25 (by decide)).2 (by decide)) (gok_i (av_c (gkr (ops_in (l := List.take 6 ops_20) hB)) av_n) (as_c (gkr (ops_in (l := List.take 6 ops_20) hB)) as_n)) ?_
  refine T_putRF 20 4 25 (dk dtk_X9_init 17 rfl) rfl kfl_X9_22 kk_20 (ops_in (l := List.take 7 ops_20) hB) (by decide) rfl (fun _ => ⟨rfl, rfl⟩) (fun r h => by cases h; rfl) ?_
  refine T_aload_n 0 (dk dtk_X9_init 18 rfl) rfl rfl ?_
  refine T_sipush (v := 702) (dk dtk_X9_init 19 rfl) (by decide +kernel) ?_
  refine T_newI 26 (dk dtk_X9_init 20 rfl) rfl (Or.inl rfl) (W0_in (tp_1 (List.mem_of_getElem? (i := 82) (by decide +kernel))) rfl) kk_26 (by decide) (by decide) (by decide) (ops_nd (l := List.take 8 ops_20) (hfr 26 (by decide)).1 (by decide)) (Or.inl (by decide)) (ops_nr (l := List.take 8 ops_20) (hfr 26 (by decide)).2 (by decide)) (gok_i (av_c (gkr (ops_in (l := List.take 8 ops_20) hB)) av_n) (as_c (gkr (ops_in (l := List.take 8 ops_20) hB)) as_n)) ?_
  refine T_putRF 20 5 26 (dk dtk_X9_init 21 rfl) rfl kfl_X9_25 kk_20 (ops_in (l := List.take 9 ops_20) hB) (by decide) rfl (fun _ => ⟨rfl, rfl⟩) (fun r h => by cases h; rfl) ?_
  refine T_aload_n 0 (dk dtk_X9_init 22 rfl) rfl rfl ?_
  refine T_sipush (v := 702) (dk dtk_X9_init 23 rfl) (by decide +kernel) ?_
  refine T_newI 27 (dk dtk_X9_init 24 rfl) rfl (Or.inl rfl) (W0_in (tp_1 (List.mem_of_getElem? (i := 82) (by decide +kernel))) rfl) kk_27 (by decide) (by decide) (by decide) (ops_nd (l := List.take 10 ops_20) (hfr 27 (by decide)).1 (by decide)) (Or.inl (by decide)) (ops_nr (l := List.take 10 ops_20) (hfr 27 (by decide)).2 (by decide)) (gok_i (av_c (gkr (ops_in (l := List.take 10 ops_20) hB)) av_n) (as_c (gkr (ops_in (l := List.take 10 ops_20) hB)) as_n)) ?_
  refine T_putRF 20 6 27 (dk dtk_X9_init 25 rfl) rfl kfl_X9_28 kk_20 (ops_in (l := List.take 11 ops_20) hB) (by decide) rfl (fun _ => ⟨rfl, rfl⟩) (fun r h => by cases h; rfl) ?_
  exact T_vret (dk dtk_X9_init 26 rfl) rfl h
def ops_40 : List gop := [oR_ 40 0 20, oN_ 42 702, oR_ 40 1 42, oN_ 43 702, oR_ 40 2 43, oN_ 44 24, oR_ 40 3 44, oN_ 45 24, oR_ 40 4 45, oN_ 46 24, oR_ 40 5 46, oN_ 48 6, oR_ 40 7 48, oN_ 50 6, oR_ 40 9 50]
def news_40 : List Nat := [42, 43, 44, 45, 46, 48, 50]
set_option maxRecDepth 100000 in
set_option maxHeartbeats 4000000 in
theorem kc_40 {G : kG} {d : Nat} {x : gd} {f : gf} {Q : gr → gd → gf → Prop} (hB : 40 ∈ f.2.1) (ha_20 : 20 ∈ f.2.1) (hfr : ∀ c ∈ news_40, c ∉ f.2.1 ∧ NR f c) (h : Q (.inl none) (xops x ops_40) (fops f ops_40)) : T (kE G) (d + 1) zk_X6_init 0 [(0, vr 40), (1, vr 20)] [] x f Q := by
  refine T_aload_n 0 (dk dtk_X6_init 0 rfl) rfl rfl ?_
  refine T_objInit (dk dtk_X6_init 1 rfl) ⟨(W0_in (tp_1 (List.mem_of_getElem? (i := 88) (by decide +kernel))) rfl), (W0_in (tp_1 (List.mem_of_getElem? (i := 34) (by decide +kernel))) rfl), (W0_in (tp_1 (List.mem_of_getElem? (i := 35) (by decide +kernel))) rfl)⟩ (by omega) (Nat.le_of_ble_eq_true rfl) ?_
  refine T_aload_n 0 (dk dtk_X6_init 2 rfl) rfl rfl ?_
  refine T_aload_n 1 (dk dtk_X6_init 3 rfl) rfl rfl ?_
  refine T_putRF 40 0 20 (dk dtk_X6_init 4 rfl) rfl kfl_X6_9 kk_40 (ops_in (l := List.take 0 ops_40) hB) (by decide) rfl (fun _ => ⟨rfl, rfl⟩) (fun r h => by cases h; rfl) ?_
  refine T_aload_n 0 (dk dtk_X6_init 5 rfl) rfl rfl ?_
  refine T_sipush (v := 702) (dk dtk_X6_init 6 rfl) (by decide +kernel) ?_
  refine T_newI 42 (dk dtk_X6_init 7 rfl) rfl (Or.inl rfl) (W0_in (tp_1 (List.mem_of_getElem? (i := 82) (by decide +kernel))) rfl) kk_42 (by decide) (by decide) (by decide) (ops_nd (l := List.take 1 ops_40) (hfr 42 (by decide)).1 (by decide)) (Or.inl (by decide)) (ops_nr (l := List.take 1 ops_40) (hfr 42 (by decide)).2 (by decide)) (gok_i (av_c (gkr (ops_in (l := List.take 1 ops_40) hB)) (av_c (gkr (ops_in (l := List.take 1 ops_40) ha_20)) av_n)) (as_c (gkr (ops_in (l := List.take 1 ops_40) hB)) as_n)) ?_
  refine T_putRF 40 1 42 (dk dtk_X6_init 8 rfl) rfl kfl_X6_17 kk_40 (ops_in (l := List.take 2 ops_40) hB) (by decide) rfl (fun _ => ⟨rfl, rfl⟩) (fun r h => by cases h; rfl) ?_
  refine T_aload_n 0 (dk dtk_X6_init 9 rfl) rfl rfl ?_
  refine T_sipush (v := 702) (dk dtk_X6_init 10 rfl) (by decide +kernel) ?_
  refine T_newI 43 (dk dtk_X6_init 11 rfl) rfl (Or.inl rfl) (W0_in (tp_1 (List.mem_of_getElem? (i := 82) (by decide +kernel))) rfl) kk_43 (by decide) (by decide) (by decide) (ops_nd (l := List.take 3 ops_40) (hfr 43 (by decide)).1 (by decide)) (Or.inl (by decide)) (ops_nr (l := List.take 3 ops_40) (hfr 43 (by decide)).2 (by decide)) (gok_i (av_c (gkr (ops_in (l := List.take 3 ops_40) hB)) (av_c (gkr (ops_in (l := List.take 3 ops_40) ha_20)) av_n)) (as_c (gkr (ops_in (l := List.take 3 ops_40) hB)) as_n)) ?_
  refine T_putRF 40 2 43 (dk dtk_X6_init 12 rfl) rfl kfl_X6_21 kk_40 (ops_in (l := List.take 4 ops_40) hB) (by decide) rfl (fun _ => ⟨rfl, rfl⟩) (fun r h => by cases h; rfl) ?_
  refine T_aload_n 0 (dk dtk_X6_init 13 rfl) rfl rfl ?_
  refine T_bipush (v := 24) (dk dtk_X6_init 14 rfl) (by decide +kernel) ?_
  refine T_newI 44 (dk dtk_X6_init 15 rfl) rfl (Or.inl rfl) (W0_in (tp_1 (List.mem_of_getElem? (i := 82) (by decide +kernel))) rfl) kk_44 (by decide) (by decide) (by decide) (ops_nd (l := List.take 5 ops_40) (hfr 44 (by decide)).1 (by decide)) (Or.inl (by decide)) (ops_nr (l := List.take 5 ops_40) (hfr 44 (by decide)).2 (by decide)) (gok_i (av_c (gkr (ops_in (l := List.take 5 ops_40) hB)) (av_c (gkr (ops_in (l := List.take 5 ops_40) ha_20)) av_n)) (as_c (gkr (ops_in (l := List.take 5 ops_40) hB)) as_n)) ?_
  refine T_putRF 40 3 44 (dk dtk_X6_init 16 rfl) rfl kfl_X6_24 kk_40 (ops_in (l := List.take 6 ops_40) hB) (by decide) rfl (fun _ => ⟨rfl, rfl⟩) (fun r h => by cases h; rfl) ?_
  refine T_aload_n 0 (dk dtk_X6_init 17 rfl) rfl rfl ?_
  refine T_bipush (v := 24) (dk dtk_X6_init 18 rfl) (by decide +kernel) ?_
  refine T_newI 45 (dk dtk_X6_init 19 rfl) rfl (Or.inl rfl) (W0_in (tp_1 (List.mem_of_getElem? (i := 82) (by decide +kernel))) rfl) kk_45 (by decide) (by decide) (by decide) (ops_nd (l := List.take 7 ops_40) (hfr 45 (by decide)).1 (by decide)) (Or.inl (by decide)) (ops_nr (l := List.take 7 ops_40) (hfr 45 (by decide)).2 (by decide)) (gok_i (av_c (gkr (ops_in (l := List.take 7 ops_40) hB)) (av_c (gkr (ops_in (l := List.take 7 ops_40) ha_20)) av_n)) (as_c (gkr (ops_in (l := List.take 7 ops_40) hB)) as_n)) ?_
  refine T_putRF 40 4 45 (dk dtk_X6_init 20 rfl) rfl kfl_X6_27 kk_40 (ops_in (l := List.take 8 ops_40) hB) (by decide) rfl (fun _ => ⟨rfl, rfl⟩) (fun r h => by cases h; rfl) ?_
  refine T_aload_n 0 (dk dtk_X6_init 21 rfl) rfl rfl ?_
  refine T_bipush (v := 24) (dk dtk_X6_init 22 rfl) (by decide +kernel) ?_
  refine T_newI 46 (dk dtk_X6_init 23 rfl) rfl (Or.inl rfl) (W0_in (tp_1 (List.mem_of_getElem? (i := 82) (by decide +kernel))) rfl) kk_46 (by decide) (by decide) (by decide) (ops_nd (l := List.take 9 ops_40) (hfr 46 (by decide)).1 (by decide)) (Or.inl (by decide)) (ops_nr (l := List.take 9 ops_40) (hfr 46 (by decide)).2 (by decide)) (gok_i (av_c (gkr (ops_in (l := List.take 9 ops_40) hB)) (av_c (gkr (ops_in (l := List.take 9 ops_40) ha_20)) av_n)) (as_c (gkr (ops_in (l := List.take 9 ops_40) hB)) as_n)) ?_
  refine T_putRF 40 5 46 (dk dtk_X6_init 24 rfl) rfl kfl_X6_30 kk_40 (ops_in (l := List.take 10 ops_40) hB) (by decide) rfl (fun _ => ⟨rfl, rfl⟩) (fun r h => by cases h; rfl) ?_
  refine T_aload_n 0 (dk dtk_X6_init 25 rfl) rfl rfl ?_
  refine T_bipush (v := 6) (dk dtk_X6_init 26 rfl) (by decide +kernel) ?_
  refine T_newI 48 (dk dtk_X6_init 27 rfl) rfl (Or.inl rfl) (W0_in (tp_1 (List.mem_of_getElem? (i := 82) (by decide +kernel))) rfl) kk_48 (by decide) (by decide) (by decide) (ops_nd (l := List.take 11 ops_40) (hfr 48 (by decide)).1 (by decide)) (Or.inl (by decide)) (ops_nr (l := List.take 11 ops_40) (hfr 48 (by decide)).2 (by decide)) (gok_i (av_c (gkr (ops_in (l := List.take 11 ops_40) hB)) (av_c (gkr (ops_in (l := List.take 11 ops_40) ha_20)) av_n)) (as_c (gkr (ops_in (l := List.take 11 ops_40) hB)) as_n)) ?_
  refine T_putRF 40 7 48 (dk dtk_X6_init 28 rfl) rfl kfl_X6_33 kk_40 (ops_in (l := List.take 12 ops_40) hB) (by decide) rfl (fun _ => ⟨rfl, rfl⟩) (fun r h => by cases h; rfl) ?_
  refine T_aload_n 0 (dk dtk_X6_init 29 rfl) rfl rfl ?_
  refine T_bipush (v := 6) (dk dtk_X6_init 30 rfl) (by decide +kernel) ?_
  refine T_newI 50 (dk dtk_X6_init 31 rfl) rfl (Or.inl rfl) (W0_in (tp_1 (List.mem_of_getElem? (i := 82) (by decide +kernel))) rfl) kk_50 (by decide) (by decide) (by decide) (ops_nd (l := List.take 13 ops_40) (hfr 50 (by decide)).1 (by decide)) (Or.inl (by decide)) (ops_nr (l := List.take 13 ops_40) (hfr 50 (by decide)).2 (by decide)) (gok_i (av_c (gkr (ops_in (l := List.take 13 ops_40) hB)) (av_c (gkr (ops_in (l := List.take 13 ops_40) ha_20)) av_n)) (as_c (gkr (ops_in (l := List.take 13 ops_40) hB)) as_n)) ?_
  refine T_putRF 40 9 50 (dk dtk_X6_init 32 rfl) rfl kfl_X6_36 kk_40 (ops_in (l := List.take 14 ops_40) hB) (by decide) rfl (fun _ => ⟨rfl, rfl⟩) (fun r h => by cases h; rfl) ?_
  exact T_vret (dk dtk_X6_init 33 rfl) rfl h
def ops_80 : List gop := [oN_ 81 400, oR_ 80 0 81, oN_ 82 400, oR_ 80 1 82, oN_ 83 400, oR_ 80 2 83, oN_ 84 400, oR_ 80 3 84, oN_ 85 400, oR_ 80 4 85, oN_ 86 400, oR_ 80 5 86, oN_ 87 400, oR_ 80 6 87, oN_ 88 400, oR_ 80 7 88, oN_ 89 400, oR_ 80 8 89]
def news_80 : List Nat := [81, 82, 83, 84, 85, 86, 87, 88, 89]
set_option maxRecDepth 100000 in
set_option maxHeartbeats 4000000 in
theorem kc_80 {G : kG} {d : Nat} {x : gd} {f : gf} {Q : gr → gd → gf → Prop} (hB : 80 ∈ f.2.1) (hfr : ∀ c ∈ news_80, c ∉ f.2.1 ∧ NR f c) (h : Q (.inl none) (xops x ops_80) (fops f ops_80)) : T (kE G) (d + 1) zk_X8_init 0 [(0, vr 80), (1, vi 400)] [] x f Q := by
  refine T_aload_n 0 (dk dtk_X8_init 0 rfl) rfl rfl ?_
  refine T_objInit (dk dtk_X8_init 1 rfl) ⟨(W0_in (tp_1 (List.mem_of_getElem? (i := 142) (by decide +kernel))) rfl), (W0_in (tp_1 (List.mem_of_getElem? (i := 34) (by decide +kernel))) rfl), (W0_in (tp_1 (List.mem_of_getElem? (i := 35) (by decide +kernel))) rfl)⟩ (by omega) (Nat.le_of_ble_eq_true rfl) ?_
  refine T_aload_n 0 (dk dtk_X8_init 2 rfl) rfl rfl ?_
  refine T_iload_n 1 (dk dtk_X8_init 3 rfl) rfl rfl ?_
  refine T_newI 81 (dk dtk_X8_init 4 rfl) rfl (Or.inl rfl) (W0_in (tp_1 (List.mem_of_getElem? (i := 82) (by decide +kernel))) rfl) kk_81 (by decide) (by decide) (by decide) (ops_nd (l := List.take 0 ops_80) (hfr 81 (by decide)).1 (by decide)) (Or.inl (by decide)) (ops_nr (l := List.take 0 ops_80) (hfr 81 (by decide)).2 (by decide)) (gok_i (av_c (gkr (ops_in (l := List.take 0 ops_80) hB)) (av_c rfl av_n)) (as_c (gkr (ops_in (l := List.take 0 ops_80) hB)) as_n)) ?_
  refine T_putRF 80 0 81 (dk dtk_X8_init 5 rfl) rfl kfl_X8_9 kk_80 (ops_in (l := List.take 1 ops_80) hB) (by decide) rfl (fun _ => ⟨rfl, rfl⟩) (fun r h => by cases h; rfl) ?_
  refine T_aload_n 0 (dk dtk_X8_init 6 rfl) rfl rfl ?_
  refine T_iload_n 1 (dk dtk_X8_init 7 rfl) rfl rfl ?_
  refine T_newI 82 (dk dtk_X8_init 8 rfl) rfl (Or.inl rfl) (W0_in (tp_1 (List.mem_of_getElem? (i := 82) (by decide +kernel))) rfl) kk_82 (by decide) (by decide) (by decide) (ops_nd (l := List.take 2 ops_80) (hfr 82 (by decide)).1 (by decide)) (Or.inl (by decide)) (ops_nr (l := List.take 2 ops_80) (hfr 82 (by decide)).2 (by decide)) (gok_i (av_c (gkr (ops_in (l := List.take 2 ops_80) hB)) (av_c rfl av_n)) (as_c (gkr (ops_in (l := List.take 2 ops_80) hB)) as_n)) ?_
  refine T_putRF 80 1 82 (dk dtk_X8_init 9 rfl) rfl kfl_X8_15 kk_80 (ops_in (l := List.take 3 ops_80) hB) (by decide) rfl (fun _ => ⟨rfl, rfl⟩) (fun r h => by cases h; rfl) ?_
  refine T_aload_n 0 (dk dtk_X8_init 10 rfl) rfl rfl ?_
  refine T_iload_n 1 (dk dtk_X8_init 11 rfl) rfl rfl ?_
  refine T_newI 83 (dk dtk_X8_init 12 rfl) rfl (Or.inl rfl) (W0_in (tp_1 (List.mem_of_getElem? (i := 82) (by decide +kernel))) rfl) kk_83 (by decide) (by decide) (by decide) (ops_nd (l := List.take 4 ops_80) (hfr 83 (by decide)).1 (by decide)) (Or.inl (by decide)) (ops_nr (l := List.take 4 ops_80) (hfr 83 (by decide)).2 (by decide)) (gok_i (av_c (gkr (ops_in (l := List.take 4 ops_80) hB)) (av_c rfl av_n)) (as_c (gkr (ops_in (l := List.take 4 ops_80) hB)) as_n)) ?_
  refine T_putRF 80 2 83 (dk dtk_X8_init 13 rfl) rfl kfl_X8_18 kk_80 (ops_in (l := List.take 5 ops_80) hB) (by decide) rfl (fun _ => ⟨rfl, rfl⟩) (fun r h => by cases h; rfl) ?_
  refine T_aload_n 0 (dk dtk_X8_init 14 rfl) rfl rfl ?_
  refine T_iload_n 1 (dk dtk_X8_init 15 rfl) rfl rfl ?_
  refine T_newI 84 (dk dtk_X8_init 16 rfl) rfl (Or.inl rfl) (W0_in (tp_1 (List.mem_of_getElem? (i := 82) (by decide +kernel))) rfl) kk_84 (by decide) (by decide) (by decide) (ops_nd (l := List.take 6 ops_80) (hfr 84 (by decide)).1 (by decide)) (Or.inl (by decide)) (ops_nr (l := List.take 6 ops_80) (hfr 84 (by decide)).2 (by decide)) (gok_i (av_c (gkr (ops_in (l := List.take 6 ops_80) hB)) (av_c rfl av_n)) (as_c (gkr (ops_in (l := List.take 6 ops_80) hB)) as_n)) ?_
  refine T_putRF 80 3 84 (dk dtk_X8_init 17 rfl) rfl kfl_X8_21 kk_80 (ops_in (l := List.take 7 ops_80) hB) (by decide) rfl (fun _ => ⟨rfl, rfl⟩) (fun r h => by cases h; rfl) ?_
  refine T_aload_n 0 (dk dtk_X8_init 18 rfl) rfl rfl ?_
  refine T_iload_n 1 (dk dtk_X8_init 19 rfl) rfl rfl ?_
  refine T_newI 85 (dk dtk_X8_init 20 rfl) rfl (Or.inl rfl) (W0_in (tp_1 (List.mem_of_getElem? (i := 82) (by decide +kernel))) rfl) kk_85 (by decide) (by decide) (by decide) (ops_nd (l := List.take 8 ops_80) (hfr 85 (by decide)).1 (by decide)) (Or.inl (by decide)) (ops_nr (l := List.take 8 ops_80) (hfr 85 (by decide)).2 (by decide)) (gok_i (av_c (gkr (ops_in (l := List.take 8 ops_80) hB)) (av_c rfl av_n)) (as_c (gkr (ops_in (l := List.take 8 ops_80) hB)) as_n)) ?_
  refine T_putRF 80 4 85 (dk dtk_X8_init 21 rfl) rfl kfl_X8_24 kk_80 (ops_in (l := List.take 9 ops_80) hB) (by decide) rfl (fun _ => ⟨rfl, rfl⟩) (fun r h => by cases h; rfl) ?_
  refine T_aload_n 0 (dk dtk_X8_init 22 rfl) rfl rfl ?_
  refine T_iload_n 1 (dk dtk_X8_init 23 rfl) rfl rfl ?_
  refine T_newI 86 (dk dtk_X8_init 24 rfl) rfl (Or.inl rfl) (W0_in (tp_1 (List.mem_of_getElem? (i := 82) (by decide +kernel))) rfl) kk_86 (by decide) (by decide) (by decide) (ops_nd (l := List.take 10 ops_80) (hfr 86 (by decide)).1 (by decide)) (Or.inl (by decide)) (ops_nr (l := List.take 10 ops_80) (hfr 86 (by decide)).2 (by decide)) (gok_i (av_c (gkr (ops_in (l := List.take 10 ops_80) hB)) (av_c rfl av_n)) (as_c (gkr (ops_in (l := List.take 10 ops_80) hB)) as_n)) ?_
  refine T_putRF 80 5 86 (dk dtk_X8_init 25 rfl) rfl kfl_X8_27 kk_80 (ops_in (l := List.take 11 ops_80) hB) (by decide) rfl (fun _ => ⟨rfl, rfl⟩) (fun r h => by cases h; rfl) ?_
  refine T_aload_n 0 (dk dtk_X8_init 26 rfl) rfl rfl ?_
  refine T_iload_n 1 (dk dtk_X8_init 27 rfl) rfl rfl ?_
  refine T_newI 87 (dk dtk_X8_init 28 rfl) rfl (Or.inl rfl) (W0_in (tp_1 (List.mem_of_getElem? (i := 82) (by decide +kernel))) rfl) kk_87 (by decide) (by decide) (by decide) (ops_nd (l := List.take 12 ops_80) (hfr 87 (by decide)).1 (by decide)) (Or.inl (by decide)) (ops_nr (l := List.take 12 ops_80) (hfr 87 (by decide)).2 (by decide)) (gok_i (av_c (gkr (ops_in (l := List.take 12 ops_80) hB)) (av_c rfl av_n)) (as_c (gkr (ops_in (l := List.take 12 ops_80) hB)) as_n)) ?_
  refine T_putRF 80 6 87 (dk dtk_X8_init 29 rfl) rfl kfl_X8_30 kk_80 (ops_in (l := List.take 13 ops_80) hB) (by decide) rfl (fun _ => ⟨rfl, rfl⟩) (fun r h => by cases h; rfl) ?_
  refine T_aload_n 0 (dk dtk_X8_init 30 rfl) rfl rfl ?_
  refine T_iload_n 1 (dk dtk_X8_init 31 rfl) rfl rfl ?_
  refine T_newI 88 (dk dtk_X8_init 32 rfl) rfl (Or.inl rfl) (W0_in (tp_1 (List.mem_of_getElem? (i := 82) (by decide +kernel))) rfl) kk_88 (by decide) (by decide) (by decide) (ops_nd (l := List.take 14 ops_80) (hfr 88 (by decide)).1 (by decide)) (Or.inl (by decide)) (ops_nr (l := List.take 14 ops_80) (hfr 88 (by decide)).2 (by decide)) (gok_i (av_c (gkr (ops_in (l := List.take 14 ops_80) hB)) (av_c rfl av_n)) (as_c (gkr (ops_in (l := List.take 14 ops_80) hB)) as_n)) ?_
  refine T_putRF 80 7 88 (dk dtk_X8_init 33 rfl) rfl kfl_X8_33 kk_80 (ops_in (l := List.take 15 ops_80) hB) (by decide) rfl (fun _ => ⟨rfl, rfl⟩) (fun r h => by cases h; rfl) ?_
  refine T_aload_n 0 (dk dtk_X8_init 34 rfl) rfl rfl ?_
  refine T_iload_n 1 (dk dtk_X8_init 35 rfl) rfl rfl ?_
  refine T_newI 89 (dk dtk_X8_init 36 rfl) rfl (Or.inl rfl) (W0_in (tp_1 (List.mem_of_getElem? (i := 82) (by decide +kernel))) rfl) kk_89 (by decide) (by decide) (by decide) (ops_nd (l := List.take 16 ops_80) (hfr 89 (by decide)).1 (by decide)) (Or.inl (by decide)) (ops_nr (l := List.take 16 ops_80) (hfr 89 (by decide)).2 (by decide)) (gok_i (av_c (gkr (ops_in (l := List.take 16 ops_80) hB)) (av_c rfl av_n)) (as_c (gkr (ops_in (l := List.take 16 ops_80) hB)) as_n)) ?_
  refine T_putRF 80 8 89 (dk dtk_X8_init 37 rfl) rfl kfl_X8_36 kk_80 (ops_in (l := List.take 17 ops_80) hB) (by decide) rfl (fun _ => ⟨rfl, rfl⟩) (fun r h => by cases h; rfl) ?_
  exact T_vret (dk dtk_X8_init 38 rfl) rfl h
def ops_60 : List gop := [oN_ 80 10, oN_ 81 400, oR_ 80 0 81, oN_ 82 400, oR_ 80 1 82, oN_ 83 400, oR_ 80 2 83, oN_ 84 400, oR_ 80 3 84, oN_ 85 400, oR_ 80 4 85, oN_ 86 400, oR_ 80 5 86, oN_ 87 400, oR_ 80 6 87, oN_ 88 400, oR_ 80 7 88, oN_ 89 400, oR_ 80 8 89, oR_ 60 0 80, oN_ 62 800, oR_ 60 1 62, oN_ 63 800, oR_ 60 2 63, oN_ 65 40, oR_ 60 4 65, oN_ 68 24, oR_ 60 7 68, oN_ 69 24, oR_ 60 8 69, oN_ 72 6, oR_ 60 11 72, oN_ 73 6, oR_ 60 12 73, oN_ 76 4, oR_ 60 15 76, oN_ 78 4, oR_ 60 17 78]
def news_60 : List Nat := [80, 81, 82, 83, 84, 85, 86, 87, 88, 89, 62, 63, 65, 68, 69, 72, 73, 76, 78]
set_option maxRecDepth 100000 in
set_option maxHeartbeats 4000000 in
theorem kc_60 {G : kG} {d : Nat} {x : gd} {f : gf} {Q : gr → gd → gf → Prop} (hB : 60 ∈ f.2.1) (hfr : ∀ c ∈ news_60, c ∉ f.2.1 ∧ NR f c) (h : Q (.inl none) (xops x ops_60) (fops f ops_60)) : T (kE G) (d + 2) zk_X0_init 0 [(0, vr 60)] [] x f Q := by
  refine T_aload_n 0 (dk dtk_X0_init 0 rfl) rfl rfl ?_
  refine T_objInit (dk dtk_X0_init 1 rfl) ⟨(W0_in (tp_1 (List.mem_of_getElem? (i := 136) (by decide +kernel))) rfl), (W0_in (tp_1 (List.mem_of_getElem? (i := 34) (by decide +kernel))) rfl), (W0_in (tp_1 (List.mem_of_getElem? (i := 35) (by decide +kernel))) rfl)⟩ (by omega) (Nat.le_of_ble_eq_true rfl) ?_
  refine T_aload_n 0 (dk dtk_X0_init 2 rfl) rfl rfl ?_
  refine T_newO 80 (dk dtk_X0_init 3 rfl) kn_X0_7 kk_80 (ops_nd (l := List.take 0 ops_60) (hfr 80 (by decide)).1 (by decide)) (Or.inl (by decide)) (ops_nr (l := List.take 0 ops_60) (hfr 80 (by decide)).2 (by decide)) (gok_i (av_c (gkr (ops_in (l := List.take 0 ops_60) hB)) av_n) (as_c (gkr (ops_in (l := List.take 0 ops_60) hB)) as_n)) ?_
  refine T_dup (dk dtk_X0_init 4 rfl) rfl ?_
  refine T_sipush (v := 400) (dk dtk_X0_init 5 rfl) (by decide +kernel) ?_
  refine T_callI [vi 400] [vr 80, vr 60] (d + 1) rfl (dk dtk_X0_init 6 rfl) kci_X0_11 rfl (by omega) (Nat.le_of_ble_eq_true rfl) (Nat.le_of_ble_eq_true rfl) (gok_i (av_c (gkr (ops_in (l := List.take 1 ops_60) hB)) av_n) (as_c (gkr (ops_i2 (l := List.take 1 ops_60) (by decide))) (as_c (gkr (ops_in (l := List.take 1 ops_60) hB)) as_n))) (kc_80 (d := d + 0) (ops_i2 (l := List.take 1 ops_60) (by decide))  (ops_fr (l := List.take 1 ops_60) hfr (by decide +kernel))  ⟨rfl, ?_⟩)
  refine T_putRF 60 0 80 (dk dtk_X0_init 7 rfl) rfl kfl_X0_14 kk_60 (ops_in (l := List.take 19 ops_60) hB) (by decide) rfl (fun _ => ⟨rfl, rfl⟩) (fun r h => by cases h; rfl) ?_
  refine T_aload_n 0 (dk dtk_X0_init 8 rfl) rfl rfl ?_
  refine T_sipush (v := 800) (dk dtk_X0_init 9 rfl) (by decide +kernel) ?_
  refine T_newI 62 (dk dtk_X0_init 10 rfl) rfl (Or.inl rfl) (W0_in (tp_1 (List.mem_of_getElem? (i := 82) (by decide +kernel))) rfl) kk_62 (by decide) (by decide) (by decide) (ops_nd (l := List.take 20 ops_60) (hfr 62 (by decide)).1 (by decide)) (Or.inl (by decide)) (ops_nr (l := List.take 20 ops_60) (hfr 62 (by decide)).2 (by decide)) (gok_i (av_c (gkr (ops_in (l := List.take 20 ops_60) hB)) av_n) (as_c (gkr (ops_in (l := List.take 20 ops_60) hB)) as_n)) ?_
  refine T_putRF 60 1 62 (dk dtk_X0_init 11 rfl) rfl kfl_X0_18 kk_60 (ops_in (l := List.take 21 ops_60) hB) (by decide) rfl (fun _ => ⟨rfl, rfl⟩) (fun r h => by cases h; rfl) ?_
  refine T_aload_n 0 (dk dtk_X0_init 12 rfl) rfl rfl ?_
  refine T_sipush (v := 800) (dk dtk_X0_init 13 rfl) (by decide +kernel) ?_
  refine T_newI 63 (dk dtk_X0_init 14 rfl) rfl (Or.inl rfl) (W0_in (tp_1 (List.mem_of_getElem? (i := 82) (by decide +kernel))) rfl) kk_63 (by decide) (by decide) (by decide) (ops_nd (l := List.take 22 ops_60) (hfr 63 (by decide)).1 (by decide)) (Or.inl (by decide)) (ops_nr (l := List.take 22 ops_60) (hfr 63 (by decide)).2 (by decide)) (gok_i (av_c (gkr (ops_in (l := List.take 22 ops_60) hB)) av_n) (as_c (gkr (ops_in (l := List.take 22 ops_60) hB)) as_n)) ?_
  refine T_putRF 60 2 63 (dk dtk_X0_init 15 rfl) rfl kfl_X0_22 kk_60 (ops_in (l := List.take 23 ops_60) hB) (by decide) rfl (fun _ => ⟨rfl, rfl⟩) (fun r h => by cases h; rfl) ?_
  refine T_aload_n 0 (dk dtk_X0_init 16 rfl) rfl rfl ?_
  refine T_bipush (v := 40) (dk dtk_X0_init 17 rfl) (by decide +kernel) ?_
  refine T_newI 65 (dk dtk_X0_init 18 rfl) rfl (Or.inl rfl) (W0_in (tp_1 (List.mem_of_getElem? (i := 82) (by decide +kernel))) rfl) kk_65 (by decide) (by decide) (by decide) (ops_nd (l := List.take 24 ops_60) (hfr 65 (by decide)).1 (by decide)) (Or.inl (by decide)) (ops_nr (l := List.take 24 ops_60) (hfr 65 (by decide)).2 (by decide)) (gok_i (av_c (gkr (ops_in (l := List.take 24 ops_60) hB)) av_n) (as_c (gkr (ops_in (l := List.take 24 ops_60) hB)) as_n)) ?_
  refine T_putRF 60 4 65 (dk dtk_X0_init 19 rfl) rfl kfl_X0_25 kk_60 (ops_in (l := List.take 25 ops_60) hB) (by decide) rfl (fun _ => ⟨rfl, rfl⟩) (fun r h => by cases h; rfl) ?_
  refine T_aload_n 0 (dk dtk_X0_init 20 rfl) rfl rfl ?_
  refine T_bipush (v := 24) (dk dtk_X0_init 21 rfl) (by decide +kernel) ?_
  refine T_newI 68 (dk dtk_X0_init 22 rfl) rfl (Or.inl rfl) (W0_in (tp_1 (List.mem_of_getElem? (i := 82) (by decide +kernel))) rfl) kk_68 (by decide) (by decide) (by decide) (ops_nd (l := List.take 26 ops_60) (hfr 68 (by decide)).1 (by decide)) (Or.inl (by decide)) (ops_nr (l := List.take 26 ops_60) (hfr 68 (by decide)).2 (by decide)) (gok_i (av_c (gkr (ops_in (l := List.take 26 ops_60) hB)) av_n) (as_c (gkr (ops_in (l := List.take 26 ops_60) hB)) as_n)) ?_
  refine T_putRF 60 7 68 (dk dtk_X0_init 23 rfl) rfl kfl_X0_30 kk_60 (ops_in (l := List.take 27 ops_60) hB) (by decide) rfl (fun _ => ⟨rfl, rfl⟩) (fun r h => by cases h; rfl) ?_
  refine T_aload_n 0 (dk dtk_X0_init 24 rfl) rfl rfl ?_
  refine T_bipush (v := 24) (dk dtk_X0_init 25 rfl) (by decide +kernel) ?_
  refine T_newI 69 (dk dtk_X0_init 26 rfl) rfl (Or.inr (Or.inr rfl)) (W0_in (tp_2 (List.mem_of_getElem? (i := 47) (by decide +kernel))) rfl) kk_69 (by decide) (by decide) (by decide) (ops_nd (l := List.take 28 ops_60) (hfr 69 (by decide)).1 (by decide)) (Or.inl (by decide)) (ops_nr (l := List.take 28 ops_60) (hfr 69 (by decide)).2 (by decide)) (gok_i (av_c (gkr (ops_in (l := List.take 28 ops_60) hB)) av_n) (as_c (gkr (ops_in (l := List.take 28 ops_60) hB)) as_n)) ?_
  refine T_putRF 60 8 69 (dk dtk_X0_init 27 rfl) rfl kfl_X0_33 kk_60 (ops_in (l := List.take 29 ops_60) hB) (by decide) rfl (fun _ => ⟨rfl, rfl⟩) (fun r h => by cases h; rfl) ?_
  refine T_aload_n 0 (dk dtk_X0_init 28 rfl) rfl rfl ?_
  refine T_bipush (v := 6) (dk dtk_X0_init 29 rfl) (by decide +kernel) ?_
  refine T_newI 72 (dk dtk_X0_init 30 rfl) rfl (Or.inl rfl) (W0_in (tp_1 (List.mem_of_getElem? (i := 82) (by decide +kernel))) rfl) kk_72 (by decide) (by decide) (by decide) (ops_nd (l := List.take 30 ops_60) (hfr 72 (by decide)).1 (by decide)) (Or.inl (by decide)) (ops_nr (l := List.take 30 ops_60) (hfr 72 (by decide)).2 (by decide)) (gok_i (av_c (gkr (ops_in (l := List.take 30 ops_60) hB)) av_n) (as_c (gkr (ops_in (l := List.take 30 ops_60) hB)) as_n)) ?_
  refine T_putRF 60 11 72 (dk dtk_X0_init 31 rfl) rfl kfl_X0_37 kk_60 (ops_in (l := List.take 31 ops_60) hB) (by decide) rfl (fun _ => ⟨rfl, rfl⟩) (fun r h => by cases h; rfl) ?_
  refine T_aload_n 0 (dk dtk_X0_init 32 rfl) rfl rfl ?_
  refine T_bipush (v := 6) (dk dtk_X0_init 33 rfl) (by decide +kernel) ?_
  refine T_newI 73 (dk dtk_X0_init 34 rfl) rfl (Or.inr (Or.inr rfl)) (W0_in (tp_2 (List.mem_of_getElem? (i := 47) (by decide +kernel))) rfl) kk_73 (by decide) (by decide) (by decide) (ops_nd (l := List.take 32 ops_60) (hfr 73 (by decide)).1 (by decide)) (Or.inl (by decide)) (ops_nr (l := List.take 32 ops_60) (hfr 73 (by decide)).2 (by decide)) (gok_i (av_c (gkr (ops_in (l := List.take 32 ops_60) hB)) av_n) (as_c (gkr (ops_in (l := List.take 32 ops_60) hB)) as_n)) ?_
  refine T_putRF 60 12 73 (dk dtk_X0_init 35 rfl) rfl kfl_X0_40 kk_60 (ops_in (l := List.take 33 ops_60) hB) (by decide) rfl (fun _ => ⟨rfl, rfl⟩) (fun r h => by cases h; rfl) ?_
  refine T_aload_n 0 (dk dtk_X0_init 36 rfl) rfl rfl ?_
  refine T_iconst (v := 4) (dk dtk_X0_init 37 rfl) (by decide +kernel) ?_
  refine T_newI 76 (dk dtk_X0_init 38 rfl) rfl (Or.inl rfl) (W0_in (tp_1 (List.mem_of_getElem? (i := 82) (by decide +kernel))) rfl) kk_76 (by decide) (by decide) (by decide) (ops_nd (l := List.take 34 ops_60) (hfr 76 (by decide)).1 (by decide)) (Or.inl (by decide)) (ops_nr (l := List.take 34 ops_60) (hfr 76 (by decide)).2 (by decide)) (gok_i (av_c (gkr (ops_in (l := List.take 34 ops_60) hB)) av_n) (as_c (gkr (ops_in (l := List.take 34 ops_60) hB)) as_n)) ?_
  refine T_putRF 60 15 76 (dk dtk_X0_init 39 rfl) rfl kfl_X0_43 kk_60 (ops_in (l := List.take 35 ops_60) hB) (by decide) rfl (fun _ => ⟨rfl, rfl⟩) (fun r h => by cases h; rfl) ?_
  refine T_aload_n 0 (dk dtk_X0_init 40 rfl) rfl rfl ?_
  refine T_iconst (v := 4) (dk dtk_X0_init 41 rfl) (by decide +kernel) ?_
  refine T_newI 78 (dk dtk_X0_init 42 rfl) rfl (Or.inl rfl) (W0_in (tp_1 (List.mem_of_getElem? (i := 82) (by decide +kernel))) rfl) kk_78 (by decide) (by decide) (by decide) (ops_nd (l := List.take 36 ops_60) (hfr 78 (by decide)).1 (by decide)) (Or.inl (by decide)) (ops_nr (l := List.take 36 ops_60) (hfr 78 (by decide)).2 (by decide)) (gok_i (av_c (gkr (ops_in (l := List.take 36 ops_60) hB)) av_n) (as_c (gkr (ops_in (l := List.take 36 ops_60) hB)) as_n)) ?_
  refine T_putRF 60 17 78 (dk dtk_X0_init 43 rfl) rfl kfl_X0_46 kk_60 (ops_in (l := List.take 37 ops_60) hB) (by decide) rfl (fun _ => ⟨rfl, rfl⟩) (fun r h => by cases h; rfl) ?_
  exact T_vret (dk dtk_X0_init 44 rfl) rfl h
def ops_100 : List gop := [oR_ 100 0 20, oR_ 100 1 40, oR_ 100 2 60, oR_ 100 3 80, oN_ 109 8, oR_ 100 8 109, oN_ 111 20, oR_ 100 10 111, oN_ 112 20, oR_ 100 11 112, oN_ 113 20, oR_ 100 12 113, oN_ 115 20, oR_ 100 14 115, oN_ 116 20, oR_ 100 15 116, oN_ 117 20, oR_ 100 16 117]
def news_100 : List Nat := [109, 111, 112, 113, 115, 116, 117]
set_option maxRecDepth 100000 in
set_option maxHeartbeats 4000000 in
theorem kc_100 {G : kG} {d : Nat} {x : gd} {f : gf} {Q : gr → gd → gf → Prop} (hB : 100 ∈ f.2.1) (ha_20 : 20 ∈ f.2.1) (ha_40 : 40 ∈ f.2.1) (ha_60 : 60 ∈ f.2.1) (hfr : ∀ c ∈ news_100, c ∉ f.2.1 ∧ NR f c) (hr_60_0 : f.1 60 0 = some 80) (h : Q (.inl none) (xops x ops_100) (fops f ops_100)) : T (kE G) (d + 1) zk_X7_init 0 [(0, vr 100), (1, vr 20), (2, vr 40), (3, vr 60)] [] x f Q := by
  refine T_aload_n 0 (dk dtk_X7_init 0 rfl) rfl rfl ?_
  refine T_objInit (dk dtk_X7_init 1 rfl) ⟨(W0_in (tp_2 (List.mem_of_getElem? (i := 53) (by decide +kernel))) rfl), (W0_in (tp_1 (List.mem_of_getElem? (i := 34) (by decide +kernel))) rfl), (W0_in (tp_1 (List.mem_of_getElem? (i := 35) (by decide +kernel))) rfl)⟩ (by omega) (Nat.le_of_ble_eq_true rfl) ?_
  refine T_aload_n 0 (dk dtk_X7_init 2 rfl) rfl rfl ?_
  refine T_aload_n 1 (dk dtk_X7_init 3 rfl) rfl rfl ?_
  refine T_putRF 100 0 20 (dk dtk_X7_init 4 rfl) rfl kfl_X7_11 kk_100 (ops_in (l := List.take 0 ops_100) hB) (by decide) rfl (fun _ => ⟨rfl, rfl⟩) (fun r h => by cases h; rfl) ?_
  refine T_aload_n 0 (dk dtk_X7_init 5 rfl) rfl rfl ?_
  refine T_aload_n 2 (dk dtk_X7_init 6 rfl) rfl rfl ?_
  refine T_putRF 100 1 40 (dk dtk_X7_init 7 rfl) rfl kfl_X7_15 kk_100 (ops_in (l := List.take 1 ops_100) hB) (by decide) rfl (fun _ => ⟨rfl, rfl⟩) (fun r h => by cases h; rfl) ?_
  refine T_aload_n 0 (dk dtk_X7_init 8 rfl) rfl rfl ?_
  refine T_aload_n 3 (dk dtk_X7_init 9 rfl) rfl rfl ?_
  refine T_putRF 100 2 60 (dk dtk_X7_init 10 rfl) rfl kfl_X7_19 kk_100 (ops_in (l := List.take 2 ops_100) hB) (by decide) rfl (fun _ => ⟨rfl, rfl⟩) (fun r h => by cases h; rfl) ?_
  refine T_aload_n 0 (dk dtk_X7_init 11 rfl) rfl rfl ?_
  refine T_aload_n 3 (dk dtk_X7_init 12 rfl) rfl rfl ?_
  refine T_getR 60 0 80 (dk dtk_X7_init 13 rfl) kfl_X7_23 kk_60 (ops_in (l := List.take 3 ops_100) ha_60) (by decide) rfl hr_60_0 ?_
  refine T_putRF 100 3 80 (dk dtk_X7_init 14 rfl) rfl kfl_X7_29 kk_100 (ops_in (l := List.take 3 ops_100) hB) (by decide) rfl (fun _ => ⟨rfl, rfl⟩) (fun r h => by cases h; rfl) ?_
  refine T_aload_n 0 (dk dtk_X7_init 15 rfl) rfl rfl ?_
  refine T_bipush (v := 8) (dk dtk_X7_init 16 rfl) (by decide +kernel) ?_
  refine T_newI 109 (dk dtk_X7_init 17 rfl) rfl (Or.inl rfl) (W0_in (tp_1 (List.mem_of_getElem? (i := 82) (by decide +kernel))) rfl) kk_109 (by decide) (by decide) (by decide) (ops_nd (l := List.take 4 ops_100) (hfr 109 (by decide)).1 (by decide)) (Or.inl (by decide)) (ops_nr (l := List.take 4 ops_100) (hfr 109 (by decide)).2 (by decide)) (gok_i (av_c (gkr (ops_in (l := List.take 4 ops_100) hB)) (av_c (gkr (ops_in (l := List.take 4 ops_100) ha_20)) (av_c (gkr (ops_in (l := List.take 4 ops_100) ha_40)) (av_c (gkr (ops_in (l := List.take 4 ops_100) ha_60)) av_n)))) (as_c (gkr (ops_in (l := List.take 4 ops_100) hB)) as_n)) ?_
  refine T_putRF 100 8 109 (dk dtk_X7_init 18 rfl) rfl kfl_X7_30 kk_100 (ops_in (l := List.take 5 ops_100) hB) (by decide) rfl (fun _ => ⟨rfl, rfl⟩) (fun r h => by cases h; rfl) ?_
  refine T_aload_n 0 (dk dtk_X7_init 19 rfl) rfl rfl ?_
  refine T_bipush (v := 20) (dk dtk_X7_init 20 rfl) (by decide +kernel) ?_
  refine T_newI 111 (dk dtk_X7_init 21 rfl) rfl (Or.inl rfl) (W0_in (tp_1 (List.mem_of_getElem? (i := 82) (by decide +kernel))) rfl) kk_111 (by decide) (by decide) (by decide) (ops_nd (l := List.take 6 ops_100) (hfr 111 (by decide)).1 (by decide)) (Or.inl (by decide)) (ops_nr (l := List.take 6 ops_100) (hfr 111 (by decide)).2 (by decide)) (gok_i (av_c (gkr (ops_in (l := List.take 6 ops_100) hB)) (av_c (gkr (ops_in (l := List.take 6 ops_100) ha_20)) (av_c (gkr (ops_in (l := List.take 6 ops_100) ha_40)) (av_c (gkr (ops_in (l := List.take 6 ops_100) ha_60)) av_n)))) (as_c (gkr (ops_in (l := List.take 6 ops_100) hB)) as_n)) ?_
  refine T_putRF 100 10 111 (dk dtk_X7_init 22 rfl) rfl kfl_X7_34 kk_100 (ops_in (l := List.take 7 ops_100) hB) (by decide) rfl (fun _ => ⟨rfl, rfl⟩) (fun r h => by cases h; rfl) ?_
  refine T_aload_n 0 (dk dtk_X7_init 23 rfl) rfl rfl ?_
  refine T_bipush (v := 20) (dk dtk_X7_init 24 rfl) (by decide +kernel) ?_
  refine T_newI 112 (dk dtk_X7_init 25 rfl) rfl (Or.inl rfl) (W0_in (tp_1 (List.mem_of_getElem? (i := 82) (by decide +kernel))) rfl) kk_112 (by decide) (by decide) (by decide) (ops_nd (l := List.take 8 ops_100) (hfr 112 (by decide)).1 (by decide)) (Or.inl (by decide)) (ops_nr (l := List.take 8 ops_100) (hfr 112 (by decide)).2 (by decide)) (gok_i (av_c (gkr (ops_in (l := List.take 8 ops_100) hB)) (av_c (gkr (ops_in (l := List.take 8 ops_100) ha_20)) (av_c (gkr (ops_in (l := List.take 8 ops_100) ha_40)) (av_c (gkr (ops_in (l := List.take 8 ops_100) ha_60)) av_n)))) (as_c (gkr (ops_in (l := List.take 8 ops_100) hB)) as_n)) ?_
  refine T_putRF 100 11 112 (dk dtk_X7_init 26 rfl) rfl kfl_X7_37 kk_100 (ops_in (l := List.take 9 ops_100) hB) (by decide) rfl (fun _ => ⟨rfl, rfl⟩) (fun r h => by cases h; rfl) ?_
  refine T_aload_n 0 (dk dtk_X7_init 27 rfl) rfl rfl ?_
  refine T_bipush (v := 20) (dk dtk_X7_init 28 rfl) (by decide +kernel) ?_
  refine T_newI 113 (dk dtk_X7_init 29 rfl) rfl (Or.inl rfl) (W0_in (tp_1 (List.mem_of_getElem? (i := 82) (by decide +kernel))) rfl) kk_113 (by decide) (by decide) (by decide) (ops_nd (l := List.take 10 ops_100) (hfr 113 (by decide)).1 (by decide)) (Or.inl (by decide)) (ops_nr (l := List.take 10 ops_100) (hfr 113 (by decide)).2 (by decide)) (gok_i (av_c (gkr (ops_in (l := List.take 10 ops_100) hB)) (av_c (gkr (ops_in (l := List.take 10 ops_100) ha_20)) (av_c (gkr (ops_in (l := List.take 10 ops_100) ha_40)) (av_c (gkr (ops_in (l := List.take 10 ops_100) ha_60)) av_n)))) (as_c (gkr (ops_in (l := List.take 10 ops_100) hB)) as_n)) ?_
  refine T_putRF 100 12 113 (dk dtk_X7_init 30 rfl) rfl kfl_X7_40 kk_100 (ops_in (l := List.take 11 ops_100) hB) (by decide) rfl (fun _ => ⟨rfl, rfl⟩) (fun r h => by cases h; rfl) ?_
  refine T_aload_n 0 (dk dtk_X7_init 31 rfl) rfl rfl ?_
  refine T_bipush (v := 20) (dk dtk_X7_init 32 rfl) (by decide +kernel) ?_
  refine T_newI 115 (dk dtk_X7_init 33 rfl) rfl (Or.inl rfl) (W0_in (tp_1 (List.mem_of_getElem? (i := 82) (by decide +kernel))) rfl) kk_115 (by decide) (by decide) (by decide) (ops_nd (l := List.take 12 ops_100) (hfr 115 (by decide)).1 (by decide)) (Or.inl (by decide)) (ops_nr (l := List.take 12 ops_100) (hfr 115 (by decide)).2 (by decide)) (gok_i (av_c (gkr (ops_in (l := List.take 12 ops_100) hB)) (av_c (gkr (ops_in (l := List.take 12 ops_100) ha_20)) (av_c (gkr (ops_in (l := List.take 12 ops_100) ha_40)) (av_c (gkr (ops_in (l := List.take 12 ops_100) ha_60)) av_n)))) (as_c (gkr (ops_in (l := List.take 12 ops_100) hB)) as_n)) ?_
  refine T_putRF 100 14 115 (dk dtk_X7_init 34 rfl) rfl kfl_X7_43 kk_100 (ops_in (l := List.take 13 ops_100) hB) (by decide) rfl (fun _ => ⟨rfl, rfl⟩) (fun r h => by cases h; rfl) ?_
  refine T_aload_n 0 (dk dtk_X7_init 35 rfl) rfl rfl ?_
  refine T_bipush (v := 20) (dk dtk_X7_init 36 rfl) (by decide +kernel) ?_
  refine T_newI 116 (dk dtk_X7_init 37 rfl) rfl (Or.inl rfl) (W0_in (tp_1 (List.mem_of_getElem? (i := 82) (by decide +kernel))) rfl) kk_116 (by decide) (by decide) (by decide) (ops_nd (l := List.take 14 ops_100) (hfr 116 (by decide)).1 (by decide)) (Or.inl (by decide)) (ops_nr (l := List.take 14 ops_100) (hfr 116 (by decide)).2 (by decide)) (gok_i (av_c (gkr (ops_in (l := List.take 14 ops_100) hB)) (av_c (gkr (ops_in (l := List.take 14 ops_100) ha_20)) (av_c (gkr (ops_in (l := List.take 14 ops_100) ha_40)) (av_c (gkr (ops_in (l := List.take 14 ops_100) ha_60)) av_n)))) (as_c (gkr (ops_in (l := List.take 14 ops_100) hB)) as_n)) ?_
  refine T_putRF 100 15 116 (dk dtk_X7_init 38 rfl) rfl kfl_X7_46 kk_100 (ops_in (l := List.take 15 ops_100) hB) (by decide) rfl (fun _ => ⟨rfl, rfl⟩) (fun r h => by cases h; rfl) ?_
  refine T_aload_n 0 (dk dtk_X7_init 39 rfl) rfl rfl ?_
  refine T_bipush (v := 20) (dk dtk_X7_init 40 rfl) (by decide +kernel) ?_
  refine T_newI 117 (dk dtk_X7_init 41 rfl) rfl (Or.inl rfl) (W0_in (tp_1 (List.mem_of_getElem? (i := 82) (by decide +kernel))) rfl) kk_117 (by decide) (by decide) (by decide) (ops_nd (l := List.take 16 ops_100) (hfr 117 (by decide)).1 (by decide)) (Or.inl (by decide)) (ops_nr (l := List.take 16 ops_100) (hfr 117 (by decide)).2 (by decide)) (gok_i (av_c (gkr (ops_in (l := List.take 16 ops_100) hB)) (av_c (gkr (ops_in (l := List.take 16 ops_100) ha_20)) (av_c (gkr (ops_in (l := List.take 16 ops_100) ha_40)) (av_c (gkr (ops_in (l := List.take 16 ops_100) ha_60)) av_n)))) (as_c (gkr (ops_in (l := List.take 16 ops_100) hB)) as_n)) ?_
  refine T_putRF 100 16 117 (dk dtk_X7_init 42 rfl) rfl kfl_X7_49 kk_100 (ops_in (l := List.take 17 ops_100) hB) (by decide) rfl (fun _ => ⟨rfl, rfl⟩) (fun r h => by cases h; rfl) ?_
  exact T_vret (dk dtk_X7_init 43 rfl) rfl h
def ops_140 : List gop := []
def news_140 : List Nat := []
set_option maxRecDepth 100000 in
set_option maxHeartbeats 4000000 in
theorem kc_140 {G : kG} {d : Nat} {x : gd} {f : gf} {Q : gr → gd → gf → Prop} (hB : 140 ∈ f.2.1) (hfr : ∀ c ∈ news_140, c ∉ f.2.1 ∧ NR f c) (h : Q (.inl none) (xops x ops_140) (fops f ops_140)) : T (kE G) (d + 1) zk_X1_init 0 [(0, vr 140)] [] x f Q := by
  refine T_aload_n 0 (dk dtk_X1_init 0 rfl) rfl rfl ?_
  refine T_objInit (dk dtk_X1_init 1 rfl) ⟨(W0_in (tp_2 (List.mem_of_getElem? (i := 121) (by decide +kernel))) rfl), (W0_in (tp_1 (List.mem_of_getElem? (i := 34) (by decide +kernel))) rfl), (W0_in (tp_1 (List.mem_of_getElem? (i := 35) (by decide +kernel))) rfl)⟩ (by omega) (Nat.le_of_ble_eq_true rfl) ?_
  exact T_vret (dk dtk_X1_init 2 rfl) rfl h
def ops_120 : List gop := [oR_ 120 0 60, oR_ 120 1 80, oN_ 140 7, oR_ 120 2 140, oN_ 125 228, oR_ 120 4 125, oN_ 131 84, oR_ 120 10 131, oN_ 132 84, oR_ 120 11 132, oN_ 133 84, oR_ 120 12 133]
def news_120 : List Nat := [140, 125, 131, 132, 133]
set_option maxRecDepth 100000 in
set_option maxHeartbeats 4000000 in
theorem kc_120 {G : kG} {d : Nat} {x : gd} {f : gf} {Q : gr → gd → gf → Prop} (hB : 120 ∈ f.2.1) (ha_60 : 60 ∈ f.2.1) (hfr : ∀ c ∈ news_120, c ∉ f.2.1 ∧ NR f c) (hr_60_0 : f.1 60 0 = some 80) (h : Q (.inl none) (xops x ops_120) (fops f ops_120)) : T (kE G) (d + 2) zk_X5_init 0 [(0, vr 120), (1, vr 60)] [] x f Q := by
  refine T_aload_n 0 (dk dtk_X5_init 0 rfl) rfl rfl ?_
  refine T_objInit (dk dtk_X5_init 1 rfl) ⟨(W0_in (tp_2 (List.mem_of_getElem? (i := 115) (by decide +kernel))) rfl), (W0_in (tp_1 (List.mem_of_getElem? (i := 34) (by decide +kernel))) rfl), (W0_in (tp_1 (List.mem_of_getElem? (i := 35) (by decide +kernel))) rfl)⟩ (by omega) (Nat.le_of_ble_eq_true rfl) ?_
  refine T_aload_n 0 (dk dtk_X5_init 2 rfl) rfl rfl ?_
  refine T_aload_n 1 (dk dtk_X5_init 3 rfl) rfl rfl ?_
  refine T_putRF 120 0 60 (dk dtk_X5_init 4 rfl) rfl kfl_X5_11 kk_120 (ops_in (l := List.take 0 ops_120) hB) (by decide) rfl (fun _ => ⟨rfl, rfl⟩) (fun r h => by cases h; rfl) ?_
  refine T_aload_n 0 (dk dtk_X5_init 5 rfl) rfl rfl ?_
  refine T_aload_n 1 (dk dtk_X5_init 6 rfl) rfl rfl ?_
  refine T_getR 60 0 80 (dk dtk_X5_init 7 rfl) kfl_X5_15 kk_60 (ops_in (l := List.take 1 ops_120) ha_60) (by decide) rfl hr_60_0 ?_
  refine T_putRF 120 1 80 (dk dtk_X5_init 8 rfl) rfl kfl_X5_21 kk_120 (ops_in (l := List.take 1 ops_120) hB) (by decide) rfl (fun _ => ⟨rfl, rfl⟩) (fun r h => by cases h; rfl) ?_
  refine T_aload_n 0 (dk dtk_X5_init 9 rfl) rfl rfl ?_
  refine T_newO 140 (dk dtk_X5_init 10 rfl) kn_X5_22 kk_140 (ops_nd (l := List.take 2 ops_120) (hfr 140 (by decide)).1 (by decide)) (Or.inl (by decide)) (ops_nr (l := List.take 2 ops_120) (hfr 140 (by decide)).2 (by decide)) (gok_i (av_c (gkr (ops_in (l := List.take 2 ops_120) hB)) (av_c (gkr (ops_in (l := List.take 2 ops_120) ha_60)) av_n)) (as_c (gkr (ops_in (l := List.take 2 ops_120) hB)) as_n)) ?_
  refine T_dup (dk dtk_X5_init 11 rfl) rfl ?_
  refine T_callN [] [vr 140, vr 120] (d + 1) rfl (dk dtk_X5_init 12 rfl) rfl rfl rfl kci_deed rfl (by omega) (Nat.le_of_ble_eq_true rfl) (Nat.le_of_ble_eq_true rfl) (gok_i (av_c (gkr (ops_in (l := List.take 3 ops_120) hB)) (av_c (gkr (ops_in (l := List.take 3 ops_120) ha_60)) av_n)) (as_c (gkr (ops_i2 (l := List.take 3 ops_120) (by decide))) (as_c (gkr (ops_in (l := List.take 3 ops_120) hB)) as_n))) (kc_140 (d := d + 0) (ops_i2 (l := List.take 3 ops_120) (by decide))  (ops_fr (l := List.take 3 ops_120) hfr (by decide +kernel))  ⟨rfl, ?_⟩)
  refine T_putRF 120 2 140 (dk dtk_X5_init 13 rfl) rfl kfl_X5_25 kk_120 (ops_in (l := List.take 3 ops_120) hB) (by decide) rfl (fun _ => ⟨rfl, rfl⟩) (fun r h => by cases h; rfl) ?_
  refine T_aload_n 0 (dk dtk_X5_init 14 rfl) rfl rfl ?_
  refine T_sipush (v := 228) (dk dtk_X5_init 15 rfl) (by decide +kernel) ?_
  refine T_newI 125 (dk dtk_X5_init 16 rfl) rfl (Or.inl rfl) (W0_in (tp_1 (List.mem_of_getElem? (i := 82) (by decide +kernel))) rfl) kk_125 (by decide) (by decide) (by decide) (ops_nd (l := List.take 4 ops_120) (hfr 125 (by decide)).1 (by decide)) (Or.inl (by decide)) (ops_nr (l := List.take 4 ops_120) (hfr 125 (by decide)).2 (by decide)) (gok_i (av_c (gkr (ops_in (l := List.take 4 ops_120) hB)) (av_c (gkr (ops_in (l := List.take 4 ops_120) ha_60)) av_n)) (as_c (gkr (ops_in (l := List.take 4 ops_120) hB)) as_n)) ?_
  refine T_putRF 120 4 125 (dk dtk_X5_init 17 rfl) rfl kfl_X5_29 kk_120 (ops_in (l := List.take 5 ops_120) hB) (by decide) rfl (fun _ => ⟨rfl, rfl⟩) (fun r h => by cases h; rfl) ?_
  refine T_aload_n 0 (dk dtk_X5_init 18 rfl) rfl rfl ?_
  refine T_bipush (v := 84) (dk dtk_X5_init 19 rfl) (by decide +kernel) ?_
  refine T_newI 131 (dk dtk_X5_init 20 rfl) rfl (Or.inl rfl) (W0_in (tp_1 (List.mem_of_getElem? (i := 82) (by decide +kernel))) rfl) kk_131 (by decide) (by decide) (by decide) (ops_nd (l := List.take 6 ops_120) (hfr 131 (by decide)).1 (by decide)) (Or.inl (by decide)) (ops_nr (l := List.take 6 ops_120) (hfr 131 (by decide)).2 (by decide)) (gok_i (av_c (gkr (ops_in (l := List.take 6 ops_120) hB)) (av_c (gkr (ops_in (l := List.take 6 ops_120) ha_60)) av_n)) (as_c (gkr (ops_in (l := List.take 6 ops_120) hB)) as_n)) ?_
  refine T_putRF 120 10 131 (dk dtk_X5_init 21 rfl) rfl kfl_X5_33 kk_120 (ops_in (l := List.take 7 ops_120) hB) (by decide) rfl (fun _ => ⟨rfl, rfl⟩) (fun r h => by cases h; rfl) ?_
  refine T_aload_n 0 (dk dtk_X5_init 22 rfl) rfl rfl ?_
  refine T_bipush (v := 84) (dk dtk_X5_init 23 rfl) (by decide +kernel) ?_
  refine T_newI 132 (dk dtk_X5_init 24 rfl) rfl (Or.inl rfl) (W0_in (tp_1 (List.mem_of_getElem? (i := 82) (by decide +kernel))) rfl) kk_132 (by decide) (by decide) (by decide) (ops_nd (l := List.take 8 ops_120) (hfr 132 (by decide)).1 (by decide)) (Or.inl (by decide)) (ops_nr (l := List.take 8 ops_120) (hfr 132 (by decide)).2 (by decide)) (gok_i (av_c (gkr (ops_in (l := List.take 8 ops_120) hB)) (av_c (gkr (ops_in (l := List.take 8 ops_120) ha_60)) av_n)) (as_c (gkr (ops_in (l := List.take 8 ops_120) hB)) as_n)) ?_
  refine T_putRF 120 11 132 (dk dtk_X5_init 25 rfl) rfl kfl_X5_36 kk_120 (ops_in (l := List.take 9 ops_120) hB) (by decide) rfl (fun _ => ⟨rfl, rfl⟩) (fun r h => by cases h; rfl) ?_
  refine T_aload_n 0 (dk dtk_X5_init 26 rfl) rfl rfl ?_
  refine T_bipush (v := 84) (dk dtk_X5_init 27 rfl) (by decide +kernel) ?_
  refine T_newI 133 (dk dtk_X5_init 28 rfl) rfl (Or.inl rfl) (W0_in (tp_1 (List.mem_of_getElem? (i := 82) (by decide +kernel))) rfl) kk_133 (by decide) (by decide) (by decide) (ops_nd (l := List.take 10 ops_120) (hfr 133 (by decide)).1 (by decide)) (Or.inl (by decide)) (ops_nr (l := List.take 10 ops_120) (hfr 133 (by decide)).2 (by decide)) (gok_i (av_c (gkr (ops_in (l := List.take 10 ops_120) hB)) (av_c (gkr (ops_in (l := List.take 10 ops_120) ha_60)) av_n)) (as_c (gkr (ops_in (l := List.take 10 ops_120) hB)) as_n)) ?_
  refine T_putRF 120 12 133 (dk dtk_X5_init 29 rfl) rfl kfl_X5_39 kk_120 (ops_in (l := List.take 11 ops_120) hB) (by decide) rfl (fun _ => ⟨rfl, rfl⟩) (fun r h => by cases h; rfl) ?_
  exact T_vret (dk dtk_X5_init 30 rfl) rfl h
def ops_160 : List gop := [oR_ 160 0 60, oN_ 162 400, oR_ 160 1 162, oN_ 166 400, oR_ 160 5 166, oN_ 167 400, oR_ 160 6 167, oN_ 168 400, oR_ 160 7 168, oN_ 169 400, oR_ 160 8 169, oN_ 170 400, oR_ 160 9 170, oN_ 171 400, oR_ 160 10 171, oN_ 172 400, oR_ 160 11 172, oN_ 173 2400, oR_ 160 12 173, oN_ 174 6, oR_ 160 13 174, oN_ 175 36, oR_ 160 14 175, oN_ 176 36, oR_ 160 15 176, oN_ 177 144, oR_ 160 16 177, oN_ 178 36, oR_ 160 17 178]
def news_160 : List Nat := [162, 166, 167, 168, 169, 170, 171, 172, 173, 174, 175, 176, 177, 178]
set_option maxRecDepth 100000 in
set_option maxHeartbeats 4000000 in
theorem kc_160 {G : kG} {d : Nat} {x : gd} {f : gf} {Q : gr → gd → gf → Prop} (hB : 160 ∈ f.2.1) (ha_60 : 60 ∈ f.2.1) (hfr : ∀ c ∈ news_160, c ∉ f.2.1 ∧ NR f c) (h : Q (.inl none) (xops x ops_160) (fops f ops_160)) : T (kE G) (d + 1) zk_X4_init 0 [(0, vr 160), (1, vr 60)] [] x f Q := by
  refine T_aload_n 0 (dk dtk_X4_init 0 rfl) rfl rfl ?_
  refine T_objInit (dk dtk_X4_init 1 rfl) ⟨(W0_in (tp_2 (List.mem_of_getElem? (i := 219) (by decide +kernel))) rfl), (W0_in (tp_1 (List.mem_of_getElem? (i := 34) (by decide +kernel))) rfl), (W0_in (tp_1 (List.mem_of_getElem? (i := 35) (by decide +kernel))) rfl)⟩ (by omega) (Nat.le_of_ble_eq_true rfl) ?_
  refine T_aload_n 0 (dk dtk_X4_init 2 rfl) rfl rfl ?_
  refine T_aload_n 1 (dk dtk_X4_init 3 rfl) rfl rfl ?_
  refine T_putRF 160 0 60 (dk dtk_X4_init 4 rfl) rfl kfl_X4_11 kk_160 (ops_in (l := List.take 0 ops_160) hB) (by decide) rfl (fun _ => ⟨rfl, rfl⟩) (fun r h => by cases h; rfl) ?_
  refine T_aload_n 0 (dk dtk_X4_init 5 rfl) rfl rfl ?_
  refine T_sipush (v := 400) (dk dtk_X4_init 6 rfl) (by decide +kernel) ?_
  refine T_newI 162 (dk dtk_X4_init 7 rfl) rfl (Or.inl rfl) (W0_in (tp_1 (List.mem_of_getElem? (i := 82) (by decide +kernel))) rfl) kk_162 (by decide) (by decide) (by decide) (ops_nd (l := List.take 1 ops_160) (hfr 162 (by decide)).1 (by decide)) (Or.inl (by decide)) (ops_nr (l := List.take 1 ops_160) (hfr 162 (by decide)).2 (by decide)) (gok_i (av_c (gkr (ops_in (l := List.take 1 ops_160) hB)) (av_c (gkr (ops_in (l := List.take 1 ops_160) ha_60)) av_n)) (as_c (gkr (ops_in (l := List.take 1 ops_160) hB)) as_n)) ?_
  refine T_putRF 160 1 162 (dk dtk_X4_init 8 rfl) rfl kfl_X4_17 kk_160 (ops_in (l := List.take 2 ops_160) hB) (by decide) rfl (fun _ => ⟨rfl, rfl⟩) (fun r h => by cases h; rfl) ?_
  refine T_aload_n 0 (dk dtk_X4_init 9 rfl) rfl rfl ?_
  refine T_sipush (v := 400) (dk dtk_X4_init 10 rfl) (by decide +kernel) ?_
  refine T_newI 166 (dk dtk_X4_init 11 rfl) rfl (Or.inl rfl) (W0_in (tp_1 (List.mem_of_getElem? (i := 82) (by decide +kernel))) rfl) kk_166 (by decide) (by decide) (by decide) (ops_nd (l := List.take 3 ops_160) (hfr 166 (by decide)).1 (by decide)) (Or.inl (by decide)) (ops_nr (l := List.take 3 ops_160) (hfr 166 (by decide)).2 (by decide)) (gok_i (av_c (gkr (ops_in (l := List.take 3 ops_160) hB)) (av_c (gkr (ops_in (l := List.take 3 ops_160) ha_60)) av_n)) (as_c (gkr (ops_in (l := List.take 3 ops_160) hB)) as_n)) ?_
  refine T_putRF 160 5 166 (dk dtk_X4_init 12 rfl) rfl kfl_X4_21 kk_160 (ops_in (l := List.take 4 ops_160) hB) (by decide) rfl (fun _ => ⟨rfl, rfl⟩) (fun r h => by cases h; rfl) ?_
  refine T_aload_n 0 (dk dtk_X4_init 13 rfl) rfl rfl ?_
  refine T_sipush (v := 400) (dk dtk_X4_init 14 rfl) (by decide +kernel) ?_
  refine T_newI 167 (dk dtk_X4_init 15 rfl) rfl (Or.inl rfl) (W0_in (tp_1 (List.mem_of_getElem? (i := 82) (by decide +kernel))) rfl) kk_167 (by decide) (by decide) (by decide) (ops_nd (l := List.take 5 ops_160) (hfr 167 (by decide)).1 (by decide)) (Or.inl (by decide)) (ops_nr (l := List.take 5 ops_160) (hfr 167 (by decide)).2 (by decide)) (gok_i (av_c (gkr (ops_in (l := List.take 5 ops_160) hB)) (av_c (gkr (ops_in (l := List.take 5 ops_160) ha_60)) av_n)) (as_c (gkr (ops_in (l := List.take 5 ops_160) hB)) as_n)) ?_
  refine T_putRF 160 6 167 (dk dtk_X4_init 16 rfl) rfl kfl_X4_24 kk_160 (ops_in (l := List.take 6 ops_160) hB) (by decide) rfl (fun _ => ⟨rfl, rfl⟩) (fun r h => by cases h; rfl) ?_
  refine T_aload_n 0 (dk dtk_X4_init 17 rfl) rfl rfl ?_
  refine T_sipush (v := 400) (dk dtk_X4_init 18 rfl) (by decide +kernel) ?_
  refine T_newI 168 (dk dtk_X4_init 19 rfl) rfl (Or.inl rfl) (W0_in (tp_1 (List.mem_of_getElem? (i := 82) (by decide +kernel))) rfl) kk_168 (by decide) (by decide) (by decide) (ops_nd (l := List.take 7 ops_160) (hfr 168 (by decide)).1 (by decide)) (Or.inl (by decide)) (ops_nr (l := List.take 7 ops_160) (hfr 168 (by decide)).2 (by decide)) (gok_i (av_c (gkr (ops_in (l := List.take 7 ops_160) hB)) (av_c (gkr (ops_in (l := List.take 7 ops_160) ha_60)) av_n)) (as_c (gkr (ops_in (l := List.take 7 ops_160) hB)) as_n)) ?_
  refine T_putRF 160 7 168 (dk dtk_X4_init 20 rfl) rfl kfl_X4_27 kk_160 (ops_in (l := List.take 8 ops_160) hB) (by decide) rfl (fun _ => ⟨rfl, rfl⟩) (fun r h => by cases h; rfl) ?_
  refine T_aload_n 0 (dk dtk_X4_init 21 rfl) rfl rfl ?_
  refine T_sipush (v := 400) (dk dtk_X4_init 22 rfl) (by decide +kernel) ?_
  refine T_newI 169 (dk dtk_X4_init 23 rfl) rfl (Or.inl rfl) (W0_in (tp_1 (List.mem_of_getElem? (i := 82) (by decide +kernel))) rfl) kk_169 (by decide) (by decide) (by decide) (ops_nd (l := List.take 9 ops_160) (hfr 169 (by decide)).1 (by decide)) (Or.inl (by decide)) (ops_nr (l := List.take 9 ops_160) (hfr 169 (by decide)).2 (by decide)) (gok_i (av_c (gkr (ops_in (l := List.take 9 ops_160) hB)) (av_c (gkr (ops_in (l := List.take 9 ops_160) ha_60)) av_n)) (as_c (gkr (ops_in (l := List.take 9 ops_160) hB)) as_n)) ?_
  refine T_putRF 160 8 169 (dk dtk_X4_init 24 rfl) rfl kfl_X4_30 kk_160 (ops_in (l := List.take 10 ops_160) hB) (by decide) rfl (fun _ => ⟨rfl, rfl⟩) (fun r h => by cases h; rfl) ?_
  refine T_aload_n 0 (dk dtk_X4_init 25 rfl) rfl rfl ?_
  refine T_sipush (v := 400) (dk dtk_X4_init 26 rfl) (by decide +kernel) ?_
  refine T_newI 170 (dk dtk_X4_init 27 rfl) rfl (Or.inl rfl) (W0_in (tp_1 (List.mem_of_getElem? (i := 82) (by decide +kernel))) rfl) kk_170 (by decide) (by decide) (by decide) (ops_nd (l := List.take 11 ops_160) (hfr 170 (by decide)).1 (by decide)) (Or.inl (by decide)) (ops_nr (l := List.take 11 ops_160) (hfr 170 (by decide)).2 (by decide)) (gok_i (av_c (gkr (ops_in (l := List.take 11 ops_160) hB)) (av_c (gkr (ops_in (l := List.take 11 ops_160) ha_60)) av_n)) (as_c (gkr (ops_in (l := List.take 11 ops_160) hB)) as_n)) ?_
  refine T_putRF 160 9 170 (dk dtk_X4_init 28 rfl) rfl kfl_X4_33 kk_160 (ops_in (l := List.take 12 ops_160) hB) (by decide) rfl (fun _ => ⟨rfl, rfl⟩) (fun r h => by cases h; rfl) ?_
  refine T_aload_n 0 (dk dtk_X4_init 29 rfl) rfl rfl ?_
  refine T_sipush (v := 400) (dk dtk_X4_init 30 rfl) (by decide +kernel) ?_
  refine T_newI 171 (dk dtk_X4_init 31 rfl) rfl (Or.inr (Or.inr rfl)) (W0_in (tp_2 (List.mem_of_getElem? (i := 47) (by decide +kernel))) rfl) kk_171 (by decide) (by decide) (by decide) (ops_nd (l := List.take 13 ops_160) (hfr 171 (by decide)).1 (by decide)) (Or.inl (by decide)) (ops_nr (l := List.take 13 ops_160) (hfr 171 (by decide)).2 (by decide)) (gok_i (av_c (gkr (ops_in (l := List.take 13 ops_160) hB)) (av_c (gkr (ops_in (l := List.take 13 ops_160) ha_60)) av_n)) (as_c (gkr (ops_in (l := List.take 13 ops_160) hB)) as_n)) ?_
  refine T_putRF 160 10 171 (dk dtk_X4_init 32 rfl) rfl kfl_X4_36 kk_160 (ops_in (l := List.take 14 ops_160) hB) (by decide) rfl (fun _ => ⟨rfl, rfl⟩) (fun r h => by cases h; rfl) ?_
  refine T_aload_n 0 (dk dtk_X4_init 33 rfl) rfl rfl ?_
  refine T_sipush (v := 400) (dk dtk_X4_init 34 rfl) (by decide +kernel) ?_
  refine T_newI 172 (dk dtk_X4_init 35 rfl) rfl (Or.inl rfl) (W0_in (tp_1 (List.mem_of_getElem? (i := 82) (by decide +kernel))) rfl) kk_172 (by decide) (by decide) (by decide) (ops_nd (l := List.take 15 ops_160) (hfr 172 (by decide)).1 (by decide)) (Or.inl (by decide)) (ops_nr (l := List.take 15 ops_160) (hfr 172 (by decide)).2 (by decide)) (gok_i (av_c (gkr (ops_in (l := List.take 15 ops_160) hB)) (av_c (gkr (ops_in (l := List.take 15 ops_160) ha_60)) av_n)) (as_c (gkr (ops_in (l := List.take 15 ops_160) hB)) as_n)) ?_
  refine T_putRF 160 11 172 (dk dtk_X4_init 36 rfl) rfl kfl_X4_40 kk_160 (ops_in (l := List.take 16 ops_160) hB) (by decide) rfl (fun _ => ⟨rfl, rfl⟩) (fun r h => by cases h; rfl) ?_
  refine T_aload_n 0 (dk dtk_X4_init 37 rfl) rfl rfl ?_
  refine T_sipush (v := 2400) (dk dtk_X4_init 38 rfl) (by decide +kernel) ?_
  refine T_newI 173 (dk dtk_X4_init 39 rfl) rfl (Or.inl rfl) (W0_in (tp_1 (List.mem_of_getElem? (i := 82) (by decide +kernel))) rfl) kk_173 (by decide) (by decide) (by decide) (ops_nd (l := List.take 17 ops_160) (hfr 173 (by decide)).1 (by decide)) (Or.inl (by decide)) (ops_nr (l := List.take 17 ops_160) (hfr 173 (by decide)).2 (by decide)) (gok_i (av_c (gkr (ops_in (l := List.take 17 ops_160) hB)) (av_c (gkr (ops_in (l := List.take 17 ops_160) ha_60)) av_n)) (as_c (gkr (ops_in (l := List.take 17 ops_160) hB)) as_n)) ?_
  refine T_putRF 160 12 173 (dk dtk_X4_init 40 rfl) rfl kfl_X4_43 kk_160 (ops_in (l := List.take 18 ops_160) hB) (by decide) rfl (fun _ => ⟨rfl, rfl⟩) (fun r h => by cases h; rfl) ?_
  refine T_aload_n 0 (dk dtk_X4_init 41 rfl) rfl rfl ?_
  refine T_bipush (v := 6) (dk dtk_X4_init 42 rfl) (by decide +kernel) ?_
  refine T_newI 174 (dk dtk_X4_init 43 rfl) rfl (Or.inl rfl) (W0_in (tp_1 (List.mem_of_getElem? (i := 82) (by decide +kernel))) rfl) kk_174 (by decide) (by decide) (by decide) (ops_nd (l := List.take 19 ops_160) (hfr 174 (by decide)).1 (by decide)) (Or.inl (by decide)) (ops_nr (l := List.take 19 ops_160) (hfr 174 (by decide)).2 (by decide)) (gok_i (av_c (gkr (ops_in (l := List.take 19 ops_160) hB)) (av_c (gkr (ops_in (l := List.take 19 ops_160) ha_60)) av_n)) (as_c (gkr (ops_in (l := List.take 19 ops_160) hB)) as_n)) ?_
  refine T_putRF 160 13 174 (dk dtk_X4_init 44 rfl) rfl kfl_X4_46 kk_160 (ops_in (l := List.take 20 ops_160) hB) (by decide) rfl (fun _ => ⟨rfl, rfl⟩) (fun r h => by cases h; rfl) ?_
  refine T_aload_n 0 (dk dtk_X4_init 45 rfl) rfl rfl ?_
  refine T_bipush (v := 36) (dk dtk_X4_init 46 rfl) (by decide +kernel) ?_
  refine T_newI 175 (dk dtk_X4_init 47 rfl) rfl (Or.inl rfl) (W0_in (tp_1 (List.mem_of_getElem? (i := 82) (by decide +kernel))) rfl) kk_175 (by decide) (by decide) (by decide) (ops_nd (l := List.take 21 ops_160) (hfr 175 (by decide)).1 (by decide)) (Or.inl (by decide)) (ops_nr (l := List.take 21 ops_160) (hfr 175 (by decide)).2 (by decide)) (gok_i (av_c (gkr (ops_in (l := List.take 21 ops_160) hB)) (av_c (gkr (ops_in (l := List.take 21 ops_160) ha_60)) av_n)) (as_c (gkr (ops_in (l := List.take 21 ops_160) hB)) as_n)) ?_
  refine T_putRF 160 14 175 (dk dtk_X4_init 48 rfl) rfl kfl_X4_49 kk_160 (ops_in (l := List.take 22 ops_160) hB) (by decide) rfl (fun _ => ⟨rfl, rfl⟩) (fun r h => by cases h; rfl) ?_
  refine T_aload_n 0 (dk dtk_X4_init 49 rfl) rfl rfl ?_
  refine T_bipush (v := 36) (dk dtk_X4_init 50 rfl) (by decide +kernel) ?_
  refine T_newI 176 (dk dtk_X4_init 51 rfl) rfl (Or.inl rfl) (W0_in (tp_1 (List.mem_of_getElem? (i := 82) (by decide +kernel))) rfl) kk_176 (by decide) (by decide) (by decide) (ops_nd (l := List.take 23 ops_160) (hfr 176 (by decide)).1 (by decide)) (Or.inl (by decide)) (ops_nr (l := List.take 23 ops_160) (hfr 176 (by decide)).2 (by decide)) (gok_i (av_c (gkr (ops_in (l := List.take 23 ops_160) hB)) (av_c (gkr (ops_in (l := List.take 23 ops_160) ha_60)) av_n)) (as_c (gkr (ops_in (l := List.take 23 ops_160) hB)) as_n)) ?_
  refine T_putRF 160 15 176 (dk dtk_X4_init 52 rfl) rfl kfl_X4_52 kk_160 (ops_in (l := List.take 24 ops_160) hB) (by decide) rfl (fun _ => ⟨rfl, rfl⟩) (fun r h => by cases h; rfl) ?_
  refine T_aload_n 0 (dk dtk_X4_init 53 rfl) rfl rfl ?_
  refine T_sipush (v := 144) (dk dtk_X4_init 54 rfl) (by decide +kernel) ?_
  refine T_newI 177 (dk dtk_X4_init 55 rfl) rfl (Or.inl rfl) (W0_in (tp_1 (List.mem_of_getElem? (i := 82) (by decide +kernel))) rfl) kk_177 (by decide) (by decide) (by decide) (ops_nd (l := List.take 25 ops_160) (hfr 177 (by decide)).1 (by decide)) (Or.inl (by decide)) (ops_nr (l := List.take 25 ops_160) (hfr 177 (by decide)).2 (by decide)) (gok_i (av_c (gkr (ops_in (l := List.take 25 ops_160) hB)) (av_c (gkr (ops_in (l := List.take 25 ops_160) ha_60)) av_n)) (as_c (gkr (ops_in (l := List.take 25 ops_160) hB)) as_n)) ?_
  refine T_putRF 160 16 177 (dk dtk_X4_init 56 rfl) rfl kfl_X4_55 kk_160 (ops_in (l := List.take 26 ops_160) hB) (by decide) rfl (fun _ => ⟨rfl, rfl⟩) (fun r h => by cases h; rfl) ?_
  refine T_aload_n 0 (dk dtk_X4_init 57 rfl) rfl rfl ?_
  refine T_bipush (v := 36) (dk dtk_X4_init 58 rfl) (by decide +kernel) ?_
  refine T_newI 178 (dk dtk_X4_init 59 rfl) rfl (Or.inl rfl) (W0_in (tp_1 (List.mem_of_getElem? (i := 82) (by decide +kernel))) rfl) kk_178 (by decide) (by decide) (by decide) (ops_nd (l := List.take 27 ops_160) (hfr 178 (by decide)).1 (by decide)) (Or.inl (by decide)) (ops_nr (l := List.take 27 ops_160) (hfr 178 (by decide)).2 (by decide)) (gok_i (av_c (gkr (ops_in (l := List.take 27 ops_160) hB)) (av_c (gkr (ops_in (l := List.take 27 ops_160) ha_60)) av_n)) (as_c (gkr (ops_in (l := List.take 27 ops_160) hB)) as_n)) ?_
  refine T_putRF 160 17 178 (dk dtk_X4_init 60 rfl) rfl kfl_X4_58 kk_160 (ops_in (l := List.take 28 ops_160) hB) (by decide) rfl (fun _ => ⟨rfl, rfl⟩) (fun r h => by cases h; rfl) ?_
  exact T_vret (dk dtk_X4_init 61 rfl) rfl h
def ops_180 : List gop := [oN_ 181 12, oR_ 180 0 181, oN_ 182 12, oR_ 180 1 182, oN_ 183 12, oR_ 180 2 183, oN_ 184 12, oR_ 180 3 184, oN_ 185 12, oR_ 180 4 185, oN_ 186 12, oR_ 180 5 186, oN_ 189 6, oR_ 180 8 189, oG_, oR_ 180 9 190]
def news_180 : List Nat := [181, 182, 183, 184, 185, 186, 189, 190, 300, 301, 302, 303, 304, 305, 306, 307, 308, 309, 310, 311, 312]
theorem kg_d {f : gf} {l : List gop} (hfr : ∀ c ∈ news_180, c ∉ f.2.1 ∧ NR f c) (hl : ∀ c ∈ (List.range 14).map gcl, c ∈ news_180 ∧ c ∉ l.flatMap onew ∧ c ∉ l.flatMap oput := by decide) : ∀ c ∈ (fops f l).2.1, ¬ isG c := fun c hc hg => (ops_fr hfr hl c (isG_m hg)).1 hc
theorem kg_n {f : gf} {l : List gop} (hfr : ∀ c ∈ news_180, c ∉ f.2.1 ∧ NR f c) (hl : ∀ c ∈ (List.range 14).map gcl, c ∈ news_180 ∧ c ∉ l.flatMap onew ∧ c ∉ l.flatMap oput := by decide) : ∀ c' ∈ (fops f l).2.1, ∀ j c, isG c → (fops f l).1 c' j ≠ some c := fun c' hc' j c hg => (ops_fr hfr hl c (isG_m hg)).2 c' hc' j
set_option maxRecDepth 100000 in
set_option maxHeartbeats 4000000 in
theorem kc_180 {G : kG} {d : Nat} {x : gd} {f : gf} {Q : gr → gd → gf → Prop} (hB : 180 ∈ f.2.1) (hfr : ∀ c ∈ news_180, c ∉ f.2.1 ∧ NR f c) (h : Q (.inl none) (xops x ops_180) (fops f ops_180)) : T (kE G) (d + 1) zk_X3_init 0 [(0, vr 180)] [] x f Q := by
  refine T_aload_n 0 (dk dtk_X3_init 0 rfl) rfl rfl ?_
  refine T_objInit (dk dtk_X3_init 1 rfl) ⟨(W0_in (tp_7 (List.mem_of_getElem? (i := 31) (by decide +kernel))) rfl), (W0_in (tp_1 (List.mem_of_getElem? (i := 34) (by decide +kernel))) rfl), (W0_in (tp_1 (List.mem_of_getElem? (i := 35) (by decide +kernel))) rfl)⟩ (by omega) (Nat.le_of_ble_eq_true rfl) ?_
  refine T_aload_n 0 (dk dtk_X3_init 2 rfl) rfl rfl ?_
  refine T_bipush (v := 12) (dk dtk_X3_init 3 rfl) (by decide +kernel) ?_
  refine T_newI 181 (dk dtk_X3_init 4 rfl) rfl (Or.inl rfl) (W0_in (tp_1 (List.mem_of_getElem? (i := 82) (by decide +kernel))) rfl) kk_181 (by decide) (by decide) (by decide) (ops_nd (l := List.take 0 ops_180) (hfr 181 (by decide)).1 (by decide)) (Or.inl (by decide)) (ops_nr (l := List.take 0 ops_180) (hfr 181 (by decide)).2 (by decide)) (gok_i (av_c (gkr (ops_in (l := List.take 0 ops_180) hB)) av_n) (as_c (gkr (ops_in (l := List.take 0 ops_180) hB)) as_n)) ?_
  refine T_putRF 180 0 181 (dk dtk_X3_init 5 rfl) rfl kfl_X3_11 kk_180 (ops_in (l := List.take 1 ops_180) hB) (by decide) rfl (fun _ => ⟨rfl, rfl⟩) (fun r h => by cases h; rfl) ?_
  refine T_aload_n 0 (dk dtk_X3_init 6 rfl) rfl rfl ?_
  refine T_bipush (v := 12) (dk dtk_X3_init 7 rfl) (by decide +kernel) ?_
  refine T_newI 182 (dk dtk_X3_init 8 rfl) rfl (Or.inl rfl) (W0_in (tp_1 (List.mem_of_getElem? (i := 82) (by decide +kernel))) rfl) kk_182 (by decide) (by decide) (by decide) (ops_nd (l := List.take 2 ops_180) (hfr 182 (by decide)).1 (by decide)) (Or.inl (by decide)) (ops_nr (l := List.take 2 ops_180) (hfr 182 (by decide)).2 (by decide)) (gok_i (av_c (gkr (ops_in (l := List.take 2 ops_180) hB)) av_n) (as_c (gkr (ops_in (l := List.take 2 ops_180) hB)) as_n)) ?_
  refine T_putRF 180 1 182 (dk dtk_X3_init 9 rfl) rfl kfl_X3_15 kk_180 (ops_in (l := List.take 3 ops_180) hB) (by decide) rfl (fun _ => ⟨rfl, rfl⟩) (fun r h => by cases h; rfl) ?_
  refine T_aload_n 0 (dk dtk_X3_init 10 rfl) rfl rfl ?_
  refine T_bipush (v := 12) (dk dtk_X3_init 11 rfl) (by decide +kernel) ?_
  refine T_newI 183 (dk dtk_X3_init 12 rfl) rfl (Or.inl rfl) (W0_in (tp_1 (List.mem_of_getElem? (i := 82) (by decide +kernel))) rfl) kk_183 (by decide) (by decide) (by decide) (ops_nd (l := List.take 4 ops_180) (hfr 183 (by decide)).1 (by decide)) (Or.inl (by decide)) (ops_nr (l := List.take 4 ops_180) (hfr 183 (by decide)).2 (by decide)) (gok_i (av_c (gkr (ops_in (l := List.take 4 ops_180) hB)) av_n) (as_c (gkr (ops_in (l := List.take 4 ops_180) hB)) as_n)) ?_
  refine T_putRF 180 2 183 (dk dtk_X3_init 13 rfl) rfl kfl_X3_18 kk_180 (ops_in (l := List.take 5 ops_180) hB) (by decide) rfl (fun _ => ⟨rfl, rfl⟩) (fun r h => by cases h; rfl) ?_
  refine T_aload_n 0 (dk dtk_X3_init 14 rfl) rfl rfl ?_
  refine T_bipush (v := 12) (dk dtk_X3_init 15 rfl) (by decide +kernel) ?_
  refine T_newI 184 (dk dtk_X3_init 16 rfl) rfl (Or.inl rfl) (W0_in (tp_1 (List.mem_of_getElem? (i := 82) (by decide +kernel))) rfl) kk_184 (by decide) (by decide) (by decide) (ops_nd (l := List.take 6 ops_180) (hfr 184 (by decide)).1 (by decide)) (Or.inl (by decide)) (ops_nr (l := List.take 6 ops_180) (hfr 184 (by decide)).2 (by decide)) (gok_i (av_c (gkr (ops_in (l := List.take 6 ops_180) hB)) av_n) (as_c (gkr (ops_in (l := List.take 6 ops_180) hB)) as_n)) ?_
  refine T_putRF 180 3 184 (dk dtk_X3_init 17 rfl) rfl kfl_X3_21 kk_180 (ops_in (l := List.take 7 ops_180) hB) (by decide) rfl (fun _ => ⟨rfl, rfl⟩) (fun r h => by cases h; rfl) ?_
  refine T_aload_n 0 (dk dtk_X3_init 18 rfl) rfl rfl ?_
  refine T_bipush (v := 12) (dk dtk_X3_init 19 rfl) (by decide +kernel) ?_
  refine T_newI 185 (dk dtk_X3_init 20 rfl) rfl (Or.inl rfl) (W0_in (tp_1 (List.mem_of_getElem? (i := 82) (by decide +kernel))) rfl) kk_185 (by decide) (by decide) (by decide) (ops_nd (l := List.take 8 ops_180) (hfr 185 (by decide)).1 (by decide)) (Or.inl (by decide)) (ops_nr (l := List.take 8 ops_180) (hfr 185 (by decide)).2 (by decide)) (gok_i (av_c (gkr (ops_in (l := List.take 8 ops_180) hB)) av_n) (as_c (gkr (ops_in (l := List.take 8 ops_180) hB)) as_n)) ?_
  refine T_putRF 180 4 185 (dk dtk_X3_init 21 rfl) rfl kfl_X3_24 kk_180 (ops_in (l := List.take 9 ops_180) hB) (by decide) rfl (fun _ => ⟨rfl, rfl⟩) (fun r h => by cases h; rfl) ?_
  refine T_aload_n 0 (dk dtk_X3_init 22 rfl) rfl rfl ?_
  refine T_bipush (v := 12) (dk dtk_X3_init 23 rfl) (by decide +kernel) ?_
  refine T_newI 186 (dk dtk_X3_init 24 rfl) rfl (Or.inl rfl) (W0_in (tp_1 (List.mem_of_getElem? (i := 82) (by decide +kernel))) rfl) kk_186 (by decide) (by decide) (by decide) (ops_nd (l := List.take 10 ops_180) (hfr 186 (by decide)).1 (by decide)) (Or.inl (by decide)) (ops_nr (l := List.take 10 ops_180) (hfr 186 (by decide)).2 (by decide)) (gok_i (av_c (gkr (ops_in (l := List.take 10 ops_180) hB)) av_n) (as_c (gkr (ops_in (l := List.take 10 ops_180) hB)) as_n)) ?_
  refine T_putRF 180 5 186 (dk dtk_X3_init 25 rfl) rfl kfl_X3_27 kk_180 (ops_in (l := List.take 11 ops_180) hB) (by decide) rfl (fun _ => ⟨rfl, rfl⟩) (fun r h => by cases h; rfl) ?_
  refine T_aload_n 0 (dk dtk_X3_init 26 rfl) rfl rfl ?_
  refine T_bipush (v := 6) (dk dtk_X3_init 27 rfl) (by decide +kernel) ?_
  refine T_newI 189 (dk dtk_X3_init 28 rfl) rfl (Or.inl rfl) (W0_in (tp_1 (List.mem_of_getElem? (i := 82) (by decide +kernel))) rfl) kk_189 (by decide) (by decide) (by decide) (ops_nd (l := List.take 12 ops_180) (hfr 189 (by decide)).1 (by decide)) (Or.inl (by decide)) (ops_nr (l := List.take 12 ops_180) (hfr 189 (by decide)).2 (by decide)) (gok_i (av_c (gkr (ops_in (l := List.take 12 ops_180) hB)) av_n) (as_c (gkr (ops_in (l := List.take 12 ops_180) hB)) as_n)) ?_
  refine T_putRF 180 8 189 (dk dtk_X3_init 29 rfl) rfl kfl_X3_32 kk_180 (ops_in (l := List.take 13 ops_180) hB) (by decide) rfl (fun _ => ⟨rfl, rfl⟩) (fun r h => by cases h; rfl) ?_
  refine T_aload_n 0 (dk dtk_X3_init 30 rfl) rfl rfl ?_
  refine T_bipush (v := 13) (dk dtk_X3_init 31 rfl) (by decide +kernel) ?_
  refine T_bipush (v := 14) (dk dtk_X3_init 32 rfl) (by decide +kernel) ?_
  refine T_grid (dk dtk_X3_init 33 rfl) (W0_in (tp_7 (List.mem_of_getElem? (i := 32) (by decide +kernel))) rfl) (W0_in (tp_1 (List.mem_of_getElem? (i := 82) (by decide +kernel))) rfl) kk_190 kg_k (kg_d (l := List.take 14 ops_180) hfr) (kg_n (l := List.take 14 ops_180) hfr) (gok_i (av_c (gkr (ops_in (l := List.take 14 ops_180) hB)) av_n) (as_c (gkr (ops_in (l := List.take 14 ops_180) hB)) as_n)) ?_
  refine T_putRF 180 9 190 (dk dtk_X3_init 34 rfl) rfl kfl_X3_37 kk_180 (ops_in (l := List.take 15 ops_180) hB) (by decide) rfl (fun _ => ⟨rfl, rfl⟩) (fun r h => by cases h; rfl) ?_
  exact T_vret (dk dtk_X3_init 35 rfl) rfl h
def ops_240 : List gop := []
def news_240 : List Nat := []
set_option maxRecDepth 100000 in
set_option maxHeartbeats 4000000 in
theorem kc_240 {G : kG} {d : Nat} {x : gd} {f : gf} {Q : gr → gd → gf → Prop} (hB : 240 ∈ f.2.1) (hfr : ∀ c ∈ news_240, c ∉ f.2.1 ∧ NR f c) (h : Q (.inl none) (xops x ops_240) (fops f ops_240)) : T (kE G) (d + 1) zk_X1_init 0 [(0, vr 240)] [] x f Q := by
  refine T_aload_n 0 (dk dtk_X1_init 0 rfl) rfl rfl ?_
  refine T_objInit (dk dtk_X1_init 1 rfl) ⟨(W0_in (tp_2 (List.mem_of_getElem? (i := 121) (by decide +kernel))) rfl), (W0_in (tp_1 (List.mem_of_getElem? (i := 34) (by decide +kernel))) rfl), (W0_in (tp_1 (List.mem_of_getElem? (i := 35) (by decide +kernel))) rfl)⟩ (by omega) (Nat.le_of_ble_eq_true rfl) ?_
  exact T_vret (dk dtk_X1_init 2 rfl) rfl h
def ops_220 : List gop := [oR_ 220 0 60, oR_ 220 1 80, oN_ 240 7, oR_ 220 2 240, oN_ 225 228, oR_ 220 4 225, oN_ 231 84, oR_ 220 10 231, oN_ 232 84, oR_ 220 11 232, oN_ 233 84, oR_ 220 12 233]
def news_220 : List Nat := [240, 225, 231, 232, 233]
set_option maxRecDepth 100000 in
set_option maxHeartbeats 4000000 in
theorem kc_220 {G : kG} {d : Nat} {x : gd} {f : gf} {Q : gr → gd → gf → Prop} (hB : 220 ∈ f.2.1) (ha_60 : 60 ∈ f.2.1) (hfr : ∀ c ∈ news_220, c ∉ f.2.1 ∧ NR f c) (hr_60_0 : f.1 60 0 = some 80) (h : Q (.inl none) (xops x ops_220) (fops f ops_220)) : T (kE G) (d + 2) zk_X5_init 0 [(0, vr 220), (1, vr 60)] [] x f Q := by
  refine T_aload_n 0 (dk dtk_X5_init 0 rfl) rfl rfl ?_
  refine T_objInit (dk dtk_X5_init 1 rfl) ⟨(W0_in (tp_2 (List.mem_of_getElem? (i := 115) (by decide +kernel))) rfl), (W0_in (tp_1 (List.mem_of_getElem? (i := 34) (by decide +kernel))) rfl), (W0_in (tp_1 (List.mem_of_getElem? (i := 35) (by decide +kernel))) rfl)⟩ (by omega) (Nat.le_of_ble_eq_true rfl) ?_
  refine T_aload_n 0 (dk dtk_X5_init 2 rfl) rfl rfl ?_
  refine T_aload_n 1 (dk dtk_X5_init 3 rfl) rfl rfl ?_
  refine T_putRF 220 0 60 (dk dtk_X5_init 4 rfl) rfl kfl_X5_11 kk_220 (ops_in (l := List.take 0 ops_220) hB) (by decide) rfl (fun _ => ⟨rfl, rfl⟩) (fun r h => by cases h; rfl) ?_
  refine T_aload_n 0 (dk dtk_X5_init 5 rfl) rfl rfl ?_
  refine T_aload_n 1 (dk dtk_X5_init 6 rfl) rfl rfl ?_
  refine T_getR 60 0 80 (dk dtk_X5_init 7 rfl) kfl_X5_15 kk_60 (ops_in (l := List.take 1 ops_220) ha_60) (by decide) rfl hr_60_0 ?_
  refine T_putRF 220 1 80 (dk dtk_X5_init 8 rfl) rfl kfl_X5_21 kk_220 (ops_in (l := List.take 1 ops_220) hB) (by decide) rfl (fun _ => ⟨rfl, rfl⟩) (fun r h => by cases h; rfl) ?_
  refine T_aload_n 0 (dk dtk_X5_init 9 rfl) rfl rfl ?_
  refine T_newO 240 (dk dtk_X5_init 10 rfl) kn_X5_22 kk_240 (ops_nd (l := List.take 2 ops_220) (hfr 240 (by decide)).1 (by decide)) (Or.inl (by decide)) (ops_nr (l := List.take 2 ops_220) (hfr 240 (by decide)).2 (by decide)) (gok_i (av_c (gkr (ops_in (l := List.take 2 ops_220) hB)) (av_c (gkr (ops_in (l := List.take 2 ops_220) ha_60)) av_n)) (as_c (gkr (ops_in (l := List.take 2 ops_220) hB)) as_n)) ?_
  refine T_dup (dk dtk_X5_init 11 rfl) rfl ?_
  refine T_callN [] [vr 240, vr 220] (d + 1) rfl (dk dtk_X5_init 12 rfl) rfl rfl rfl kci_deed rfl (by omega) (Nat.le_of_ble_eq_true rfl) (Nat.le_of_ble_eq_true rfl) (gok_i (av_c (gkr (ops_in (l := List.take 3 ops_220) hB)) (av_c (gkr (ops_in (l := List.take 3 ops_220) ha_60)) av_n)) (as_c (gkr (ops_i2 (l := List.take 3 ops_220) (by decide))) (as_c (gkr (ops_in (l := List.take 3 ops_220) hB)) as_n))) (kc_240 (d := d + 0) (ops_i2 (l := List.take 3 ops_220) (by decide))  (ops_fr (l := List.take 3 ops_220) hfr (by decide +kernel))  ⟨rfl, ?_⟩)
  refine T_putRF 220 2 240 (dk dtk_X5_init 13 rfl) rfl kfl_X5_25 kk_220 (ops_in (l := List.take 3 ops_220) hB) (by decide) rfl (fun _ => ⟨rfl, rfl⟩) (fun r h => by cases h; rfl) ?_
  refine T_aload_n 0 (dk dtk_X5_init 14 rfl) rfl rfl ?_
  refine T_sipush (v := 228) (dk dtk_X5_init 15 rfl) (by decide +kernel) ?_
  refine T_newI 225 (dk dtk_X5_init 16 rfl) rfl (Or.inl rfl) (W0_in (tp_1 (List.mem_of_getElem? (i := 82) (by decide +kernel))) rfl) kk_225 (by decide) (by decide) (by decide) (ops_nd (l := List.take 4 ops_220) (hfr 225 (by decide)).1 (by decide)) (Or.inl (by decide)) (ops_nr (l := List.take 4 ops_220) (hfr 225 (by decide)).2 (by decide)) (gok_i (av_c (gkr (ops_in (l := List.take 4 ops_220) hB)) (av_c (gkr (ops_in (l := List.take 4 ops_220) ha_60)) av_n)) (as_c (gkr (ops_in (l := List.take 4 ops_220) hB)) as_n)) ?_
  refine T_putRF 220 4 225 (dk dtk_X5_init 17 rfl) rfl kfl_X5_29 kk_220 (ops_in (l := List.take 5 ops_220) hB) (by decide) rfl (fun _ => ⟨rfl, rfl⟩) (fun r h => by cases h; rfl) ?_
  refine T_aload_n 0 (dk dtk_X5_init 18 rfl) rfl rfl ?_
  refine T_bipush (v := 84) (dk dtk_X5_init 19 rfl) (by decide +kernel) ?_
  refine T_newI 231 (dk dtk_X5_init 20 rfl) rfl (Or.inl rfl) (W0_in (tp_1 (List.mem_of_getElem? (i := 82) (by decide +kernel))) rfl) kk_231 (by decide) (by decide) (by decide) (ops_nd (l := List.take 6 ops_220) (hfr 231 (by decide)).1 (by decide)) (Or.inl (by decide)) (ops_nr (l := List.take 6 ops_220) (hfr 231 (by decide)).2 (by decide)) (gok_i (av_c (gkr (ops_in (l := List.take 6 ops_220) hB)) (av_c (gkr (ops_in (l := List.take 6 ops_220) ha_60)) av_n)) (as_c (gkr (ops_in (l := List.take 6 ops_220) hB)) as_n)) ?_
  refine T_putRF 220 10 231 (dk dtk_X5_init 21 rfl) rfl kfl_X5_33 kk_220 (ops_in (l := List.take 7 ops_220) hB) (by decide) rfl (fun _ => ⟨rfl, rfl⟩) (fun r h => by cases h; rfl) ?_
  refine T_aload_n 0 (dk dtk_X5_init 22 rfl) rfl rfl ?_
  refine T_bipush (v := 84) (dk dtk_X5_init 23 rfl) (by decide +kernel) ?_
  refine T_newI 232 (dk dtk_X5_init 24 rfl) rfl (Or.inl rfl) (W0_in (tp_1 (List.mem_of_getElem? (i := 82) (by decide +kernel))) rfl) kk_232 (by decide) (by decide) (by decide) (ops_nd (l := List.take 8 ops_220) (hfr 232 (by decide)).1 (by decide)) (Or.inl (by decide)) (ops_nr (l := List.take 8 ops_220) (hfr 232 (by decide)).2 (by decide)) (gok_i (av_c (gkr (ops_in (l := List.take 8 ops_220) hB)) (av_c (gkr (ops_in (l := List.take 8 ops_220) ha_60)) av_n)) (as_c (gkr (ops_in (l := List.take 8 ops_220) hB)) as_n)) ?_
  refine T_putRF 220 11 232 (dk dtk_X5_init 25 rfl) rfl kfl_X5_36 kk_220 (ops_in (l := List.take 9 ops_220) hB) (by decide) rfl (fun _ => ⟨rfl, rfl⟩) (fun r h => by cases h; rfl) ?_
  refine T_aload_n 0 (dk dtk_X5_init 26 rfl) rfl rfl ?_
  refine T_bipush (v := 84) (dk dtk_X5_init 27 rfl) (by decide +kernel) ?_
  refine T_newI 233 (dk dtk_X5_init 28 rfl) rfl (Or.inl rfl) (W0_in (tp_1 (List.mem_of_getElem? (i := 82) (by decide +kernel))) rfl) kk_233 (by decide) (by decide) (by decide) (ops_nd (l := List.take 10 ops_220) (hfr 233 (by decide)).1 (by decide)) (Or.inl (by decide)) (ops_nr (l := List.take 10 ops_220) (hfr 233 (by decide)).2 (by decide)) (gok_i (av_c (gkr (ops_in (l := List.take 10 ops_220) hB)) (av_c (gkr (ops_in (l := List.take 10 ops_220) ha_60)) av_n)) (as_c (gkr (ops_in (l := List.take 10 ops_220) hB)) as_n)) ?_
  refine T_putRF 220 12 233 (dk dtk_X5_init 29 rfl) rfl kfl_X5_39 kk_220 (ops_in (l := List.take 11 ops_220) hB) (by decide) rfl (fun _ => ⟨rfl, rfl⟩) (fun r h => by cases h; rfl) ?_
  exact T_vret (dk dtk_X5_init 30 rfl) rfl h
def ops_200 : List gop := [oR_ 200 0 60, oN_ 220 15, oR_ 220 0 60, oR_ 220 1 80, oN_ 240 7, oR_ 220 2 240, oN_ 225 228, oR_ 220 4 225, oN_ 231 84, oR_ 220 10 231, oN_ 232 84, oR_ 220 11 232, oN_ 233 84, oR_ 220 12 233, oR_ 200 1 220, oN_ 203 3000, oR_ 200 2 203, oN_ 204 3000, oR_ 200 3 204, oN_ 205 8192, oR_ 200 4 205, oN_ 209 6, oR_ 200 8 209, oN_ 210 6, oR_ 200 9 210]
def news_200 : List Nat := [220, 240, 225, 231, 232, 233, 203, 204, 205, 209, 210]
set_option maxRecDepth 100000 in
set_option maxHeartbeats 4000000 in
theorem kc_200 {G : kG} {d : Nat} {x : gd} {f : gf} {Q : gr → gd → gf → Prop} (hB : 200 ∈ f.2.1) (ha_60 : 60 ∈ f.2.1) (hfr : ∀ c ∈ news_200, c ∉ f.2.1 ∧ NR f c) (hr_60_0 : f.1 60 0 = some 80) (h : Q (.inl none) (xops x ops_200) (fops f ops_200)) : T (kE G) (d + 3) zk_X2_init 0 [(0, vr 200), (1, vr 60)] [] x f Q := by
  refine T_aload_n 0 (dk dtk_X2_init 0 rfl) rfl rfl ?_
  refine T_objInit (dk dtk_X2_init 1 rfl) ⟨(W0_in (tp_7 (List.mem_of_getElem? (i := 139) (by decide +kernel))) rfl), (W0_in (tp_1 (List.mem_of_getElem? (i := 34) (by decide +kernel))) rfl), (W0_in (tp_1 (List.mem_of_getElem? (i := 35) (by decide +kernel))) rfl)⟩ (by omega) (Nat.le_of_ble_eq_true rfl) ?_
  refine T_aload_n 0 (dk dtk_X2_init 2 rfl) rfl rfl ?_
  refine T_aload_n 1 (dk dtk_X2_init 3 rfl) rfl rfl ?_
  refine T_putRF 200 0 60 (dk dtk_X2_init 4 rfl) rfl kfl_X2_9 kk_200 (ops_in (l := List.take 0 ops_200) hB) (by decide) rfl (fun _ => ⟨rfl, rfl⟩) (fun r h => by cases h; rfl) ?_
  refine T_aload_n 0 (dk dtk_X2_init 5 rfl) rfl rfl ?_
  refine T_newO 220 (dk dtk_X2_init 6 rfl) kn_X2_15 kk_220 (ops_nd (l := List.take 1 ops_200) (hfr 220 (by decide)).1 (by decide)) (Or.inl (by decide)) (ops_nr (l := List.take 1 ops_200) (hfr 220 (by decide)).2 (by decide)) (gok_i (av_c (gkr (ops_in (l := List.take 1 ops_200) hB)) (av_c (gkr (ops_in (l := List.take 1 ops_200) ha_60)) av_n)) (as_c (gkr (ops_in (l := List.take 1 ops_200) hB)) as_n)) ?_
  refine T_dup (dk dtk_X2_init 7 rfl) rfl ?_
  refine T_aload_n 1 (dk dtk_X2_init 8 rfl) rfl rfl ?_
  refine T_callI [vr 60] [vr 220, vr 200] (d + 2) rfl (dk dtk_X2_init 9 rfl) kci_X2_17 rfl (by omega) (Nat.le_of_ble_eq_true rfl) (Nat.le_of_ble_eq_true rfl) (gok_i (av_c (gkr (ops_in (l := List.take 2 ops_200) hB)) (av_c (gkr (ops_in (l := List.take 2 ops_200) ha_60)) av_n)) (as_c (gkr (ops_i2 (l := List.take 2 ops_200) (by decide))) (as_c (gkr (ops_in (l := List.take 2 ops_200) hB)) as_n))) (kc_220 (d := d + 0) (ops_i2 (l := List.take 2 ops_200) (by decide)) (ops_in (l := List.take 2 ops_200) ha_60) (ops_fr (l := List.take 2 ops_200) hfr (by decide +kernel)) hr_60_0 ⟨rfl, ?_⟩)
  refine T_putRF 200 1 220 (dk dtk_X2_init 10 rfl) rfl kfl_X2_20 kk_200 (ops_in (l := List.take 14 ops_200) hB) (by decide) rfl (fun _ => ⟨rfl, rfl⟩) (fun r h => by cases h; rfl) ?_
  refine T_aload_n 0 (dk dtk_X2_init 11 rfl) rfl rfl ?_
  refine T_sipush (v := 3000) (dk dtk_X2_init 12 rfl) (by decide +kernel) ?_
  refine T_newA 203 (dk dtk_X2_init 13 rfl) (W0_in (tp_7 (List.mem_of_getElem? (i := 142) (by decide +kernel))) rfl) kk_203 (by decide) (by decide) (by decide) (ops_nd (l := List.take 15 ops_200) (hfr 203 (by decide)).1 (by decide)) (Or.inl (by decide)) (ops_nr (l := List.take 15 ops_200) (hfr 203 (by decide)).2 (by decide)) (gok_i (av_c (gkr (ops_in (l := List.take 15 ops_200) hB)) (av_c (gkr (ops_in (l := List.take 15 ops_200) ha_60)) av_n)) (as_c (gkr (ops_in (l := List.take 15 ops_200) hB)) as_n)) ?_
  refine T_putRF 200 2 203 (dk dtk_X2_init 14 rfl) rfl kfl_X2_26 kk_200 (ops_in (l := List.take 16 ops_200) hB) (by decide) rfl (fun _ => ⟨rfl, rfl⟩) (fun r h => by cases h; rfl) ?_
  refine T_aload_n 0 (dk dtk_X2_init 15 rfl) rfl rfl ?_
  refine T_sipush (v := 3000) (dk dtk_X2_init 16 rfl) (by decide +kernel) ?_
  refine T_newI 204 (dk dtk_X2_init 17 rfl) rfl (Or.inl rfl) (W0_in (tp_1 (List.mem_of_getElem? (i := 82) (by decide +kernel))) rfl) kk_204 (by decide) (by decide) (by decide) (ops_nd (l := List.take 17 ops_200) (hfr 204 (by decide)).1 (by decide)) (Or.inl (by decide)) (ops_nr (l := List.take 17 ops_200) (hfr 204 (by decide)).2 (by decide)) (gok_i (av_c (gkr (ops_in (l := List.take 17 ops_200) hB)) (av_c (gkr (ops_in (l := List.take 17 ops_200) ha_60)) av_n)) (as_c (gkr (ops_in (l := List.take 17 ops_200) hB)) as_n)) ?_
  refine T_putRF 200 3 204 (dk dtk_X2_init 18 rfl) rfl kfl_X2_30 kk_200 (ops_in (l := List.take 18 ops_200) hB) (by decide) rfl (fun _ => ⟨rfl, rfl⟩) (fun r h => by cases h; rfl) ?_
  refine T_aload_n 0 (dk dtk_X2_init 19 rfl) rfl rfl ?_
  refine T_sipush (v := 8192) (dk dtk_X2_init 20 rfl) (by decide +kernel) ?_
  refine T_newI 205 (dk dtk_X2_init 21 rfl) rfl (Or.inl rfl) (W0_in (tp_1 (List.mem_of_getElem? (i := 82) (by decide +kernel))) rfl) kk_205 (by decide) (by decide) (by decide) (ops_nd (l := List.take 19 ops_200) (hfr 205 (by decide)).1 (by decide)) (Or.inl (by decide)) (ops_nr (l := List.take 19 ops_200) (hfr 205 (by decide)).2 (by decide)) (gok_i (av_c (gkr (ops_in (l := List.take 19 ops_200) hB)) (av_c (gkr (ops_in (l := List.take 19 ops_200) ha_60)) av_n)) (as_c (gkr (ops_in (l := List.take 19 ops_200) hB)) as_n)) ?_
  refine T_putRF 200 4 205 (dk dtk_X2_init 22 rfl) rfl kfl_X2_33 kk_200 (ops_in (l := List.take 20 ops_200) hB) (by decide) rfl (fun _ => ⟨rfl, rfl⟩) (fun r h => by cases h; rfl) ?_
  refine T_aload_n 0 (dk dtk_X2_init 23 rfl) rfl rfl ?_
  refine T_bipush (v := 6) (dk dtk_X2_init 24 rfl) (by decide +kernel) ?_
  refine T_newI 209 (dk dtk_X2_init 25 rfl) rfl (Or.inl rfl) (W0_in (tp_1 (List.mem_of_getElem? (i := 82) (by decide +kernel))) rfl) kk_209 (by decide) (by decide) (by decide) (ops_nd (l := List.take 21 ops_200) (hfr 209 (by decide)).1 (by decide)) (Or.inl (by decide)) (ops_nr (l := List.take 21 ops_200) (hfr 209 (by decide)).2 (by decide)) (gok_i (av_c (gkr (ops_in (l := List.take 21 ops_200) hB)) (av_c (gkr (ops_in (l := List.take 21 ops_200) ha_60)) av_n)) (as_c (gkr (ops_in (l := List.take 21 ops_200) hB)) as_n)) ?_
  refine T_putRF 200 8 209 (dk dtk_X2_init 26 rfl) rfl kfl_X2_38 kk_200 (ops_in (l := List.take 22 ops_200) hB) (by decide) rfl (fun _ => ⟨rfl, rfl⟩) (fun r h => by cases h; rfl) ?_
  refine T_aload_n 0 (dk dtk_X2_init 27 rfl) rfl rfl ?_
  refine T_bipush (v := 6) (dk dtk_X2_init 28 rfl) (by decide +kernel) ?_
  refine T_newI 210 (dk dtk_X2_init 29 rfl) rfl (Or.inl rfl) (W0_in (tp_1 (List.mem_of_getElem? (i := 82) (by decide +kernel))) rfl) kk_210 (by decide) (by decide) (by decide) (ops_nd (l := List.take 23 ops_200) (hfr 210 (by decide)).1 (by decide)) (Or.inl (by decide)) (ops_nr (l := List.take 23 ops_200) (hfr 210 (by decide)).2 (by decide)) (gok_i (av_c (gkr (ops_in (l := List.take 23 ops_200) hB)) (av_c (gkr (ops_in (l := List.take 23 ops_200) ha_60)) av_n)) (as_c (gkr (ops_in (l := List.take 23 ops_200) hB)) as_n)) ?_
  refine T_putRF 200 9 210 (dk dtk_X2_init 30 rfl) rfl kfl_X2_41 kk_200 (ops_in (l := List.take 24 ops_200) hB) (by decide) rfl (fun _ => ⟨rfl, rfl⟩) (fun r h => by cases h; rfl) ?_
  exact T_vret (dk dtk_X2_init 31 rfl) rfl h
def ops_260 : List gop := [oN_ 267 11, oR_ 260 6 267, oN_ 268 24, oR_ 260 7 268, oN_ 269 6, oR_ 260 8 269, oN_ 270 3000, oR_ 260 9 270, oN_ 271 3000, oR_ 260 10 271, oN_ 272 3000, oR_ 260 11 272, oN_ 273 3000, oR_ 260 12 273, oN_ 274 3000, oR_ 260 13 274]
def news_260 : List Nat := [267, 268, 269, 270, 271, 272, 273, 274]
set_option maxRecDepth 100000 in
set_option maxHeartbeats 4000000 in
theorem kc_260 {G : kG} {d : Nat} {x : gd} {f : gf} {Q : gr → gd → gf → Prop} (hB : 260 ∈ f.2.1) (hfr : ∀ c ∈ news_260, c ∉ f.2.1 ∧ NR f c) (h : Q (.inl none) (xops x ops_260) (fops f ops_260)) : T (kE G) (d + 1) zk_X10_init 0 [(0, vr 260)] [] x f Q := by
  refine T_aload_n 0 (dk dtk_X10_init 0 rfl) rfl rfl ?_
  refine T_objInit (dk dtk_X10_init 1 rfl) ⟨(W0_in (tp_7 (List.mem_of_getElem? (i := 178) (by decide +kernel))) rfl), (W0_in (tp_1 (List.mem_of_getElem? (i := 34) (by decide +kernel))) rfl), (W0_in (tp_1 (List.mem_of_getElem? (i := 35) (by decide +kernel))) rfl)⟩ (by omega) (Nat.le_of_ble_eq_true rfl) ?_
  refine T_aload_n 0 (dk dtk_X10_init 2 rfl) rfl rfl ?_
  refine T_bipush (v := 11) (dk dtk_X10_init 3 rfl) (by decide +kernel) ?_
  refine T_newI 267 (dk dtk_X10_init 4 rfl) rfl (Or.inl rfl) (W0_in (tp_1 (List.mem_of_getElem? (i := 82) (by decide +kernel))) rfl) rfl (by decide) (by decide) (by decide) (ops_nd (l := List.take 0 ops_260) (hfr 267 (by decide)).1 (by decide)) (Or.inl (by decide)) (ops_nr (l := List.take 0 ops_260) (hfr 267 (by decide)).2 (by decide)) (gok_i (av_c (gkr (ops_in (l := List.take 0 ops_260) hB)) av_n) (as_c (gkr (ops_in (l := List.take 0 ops_260) hB)) as_n)) ?_
  refine T_putRF 260 6 267 (dk dtk_X10_init 5 rfl) rfl kfl_X10_11 rfl (ops_in (l := List.take 1 ops_260) hB) (by decide) rfl (fun _ => ⟨rfl, rfl⟩) (fun r h => by cases h; rfl) ?_
  refine T_aload_n 0 (dk dtk_X10_init 6 rfl) rfl rfl ?_
  refine T_bipush (v := 24) (dk dtk_X10_init 7 rfl) (by decide +kernel) ?_
  refine T_newI 268 (dk dtk_X10_init 8 rfl) rfl (Or.inl rfl) (W0_in (tp_1 (List.mem_of_getElem? (i := 82) (by decide +kernel))) rfl) rfl (by decide) (by decide) (by decide) (ops_nd (l := List.take 2 ops_260) (hfr 268 (by decide)).1 (by decide)) (Or.inl (by decide)) (ops_nr (l := List.take 2 ops_260) (hfr 268 (by decide)).2 (by decide)) (gok_i (av_c (gkr (ops_in (l := List.take 2 ops_260) hB)) av_n) (as_c (gkr (ops_in (l := List.take 2 ops_260) hB)) as_n)) ?_
  refine T_putRF 260 7 268 (dk dtk_X10_init 9 rfl) rfl kfl_X10_17 rfl (ops_in (l := List.take 3 ops_260) hB) (by decide) rfl (fun _ => ⟨rfl, rfl⟩) (fun r h => by cases h; rfl) ?_
  refine T_aload_n 0 (dk dtk_X10_init 10 rfl) rfl rfl ?_
  refine T_bipush (v := 6) (dk dtk_X10_init 11 rfl) (by decide +kernel) ?_
  refine T_newI 269 (dk dtk_X10_init 12 rfl) rfl (Or.inl rfl) (W0_in (tp_1 (List.mem_of_getElem? (i := 82) (by decide +kernel))) rfl) rfl (by decide) (by decide) (by decide) (ops_nd (l := List.take 4 ops_260) (hfr 269 (by decide)).1 (by decide)) (Or.inl (by decide)) (ops_nr (l := List.take 4 ops_260) (hfr 269 (by decide)).2 (by decide)) (gok_i (av_c (gkr (ops_in (l := List.take 4 ops_260) hB)) av_n) (as_c (gkr (ops_in (l := List.take 4 ops_260) hB)) as_n)) ?_
  refine T_putRF 260 8 269 (dk dtk_X10_init 13 rfl) rfl kfl_X10_20 rfl (ops_in (l := List.take 5 ops_260) hB) (by decide) rfl (fun _ => ⟨rfl, rfl⟩) (fun r h => by cases h; rfl) ?_
  refine T_aload_n 0 (dk dtk_X10_init 14 rfl) rfl rfl ?_
  refine T_sipush (v := 3000) (dk dtk_X10_init 15 rfl) (by decide +kernel) ?_
  refine T_newI 270 (dk dtk_X10_init 16 rfl) rfl (Or.inl rfl) (W0_in (tp_1 (List.mem_of_getElem? (i := 82) (by decide +kernel))) rfl) rfl (by decide) (by decide) (by decide) (ops_nd (l := List.take 6 ops_260) (hfr 270 (by decide)).1 (by decide)) (Or.inl (by decide)) (ops_nr (l := List.take 6 ops_260) (hfr 270 (by decide)).2 (by decide)) (gok_i (av_c (gkr (ops_in (l := List.take 6 ops_260) hB)) av_n) (as_c (gkr (ops_in (l := List.take 6 ops_260) hB)) as_n)) ?_
  refine T_putRF 260 9 270 (dk dtk_X10_init 17 rfl) rfl kfl_X10_23 rfl (ops_in (l := List.take 7 ops_260) hB) (by decide) rfl (fun _ => ⟨rfl, rfl⟩) (fun r h => by cases h; rfl) ?_
  refine T_aload_n 0 (dk dtk_X10_init 18 rfl) rfl rfl ?_
  refine T_sipush (v := 3000) (dk dtk_X10_init 19 rfl) (by decide +kernel) ?_
  refine T_newI 271 (dk dtk_X10_init 20 rfl) rfl (Or.inl rfl) (W0_in (tp_1 (List.mem_of_getElem? (i := 82) (by decide +kernel))) rfl) rfl (by decide) (by decide) (by decide) (ops_nd (l := List.take 8 ops_260) (hfr 271 (by decide)).1 (by decide)) (Or.inl (by decide)) (ops_nr (l := List.take 8 ops_260) (hfr 271 (by decide)).2 (by decide)) (gok_i (av_c (gkr (ops_in (l := List.take 8 ops_260) hB)) av_n) (as_c (gkr (ops_in (l := List.take 8 ops_260) hB)) as_n)) ?_
  refine T_putRF 260 10 271 (dk dtk_X10_init 21 rfl) rfl kfl_X10_26 rfl (ops_in (l := List.take 9 ops_260) hB) (by decide) rfl (fun _ => ⟨rfl, rfl⟩) (fun r h => by cases h; rfl) ?_
  refine T_aload_n 0 (dk dtk_X10_init 22 rfl) rfl rfl ?_
  refine T_sipush (v := 3000) (dk dtk_X10_init 23 rfl) (by decide +kernel) ?_
  refine T_newI 272 (dk dtk_X10_init 24 rfl) rfl (Or.inl rfl) (W0_in (tp_1 (List.mem_of_getElem? (i := 82) (by decide +kernel))) rfl) rfl (by decide) (by decide) (by decide) (ops_nd (l := List.take 10 ops_260) (hfr 272 (by decide)).1 (by decide)) (Or.inl (by decide)) (ops_nr (l := List.take 10 ops_260) (hfr 272 (by decide)).2 (by decide)) (gok_i (av_c (gkr (ops_in (l := List.take 10 ops_260) hB)) av_n) (as_c (gkr (ops_in (l := List.take 10 ops_260) hB)) as_n)) ?_
  refine T_putRF 260 11 272 (dk dtk_X10_init 25 rfl) rfl kfl_X10_29 rfl (ops_in (l := List.take 11 ops_260) hB) (by decide) rfl (fun _ => ⟨rfl, rfl⟩) (fun r h => by cases h; rfl) ?_
  refine T_aload_n 0 (dk dtk_X10_init 26 rfl) rfl rfl ?_
  refine T_sipush (v := 3000) (dk dtk_X10_init 27 rfl) (by decide +kernel) ?_
  refine T_newA 273 (dk dtk_X10_init 28 rfl) (W0_in (tp_7 (List.mem_of_getElem? (i := 179) (by decide +kernel))) rfl) rfl (by decide) (by decide) (by decide) (ops_nd (l := List.take 12 ops_260) (hfr 273 (by decide)).1 (by decide)) (Or.inl (by decide)) (ops_nr (l := List.take 12 ops_260) (hfr 273 (by decide)).2 (by decide)) (gok_i (av_c (gkr (ops_in (l := List.take 12 ops_260) hB)) av_n) (as_c (gkr (ops_in (l := List.take 12 ops_260) hB)) as_n)) ?_
  refine T_putRF 260 12 273 (dk dtk_X10_init 29 rfl) rfl kfl_X10_33 rfl (ops_in (l := List.take 13 ops_260) hB) (by decide) rfl (fun _ => ⟨rfl, rfl⟩) (fun r h => by cases h; rfl) ?_
  refine T_aload_n 0 (dk dtk_X10_init 30 rfl) rfl rfl ?_
  refine T_sipush (v := 3000) (dk dtk_X10_init 31 rfl) (by decide +kernel) ?_
  refine T_newI 274 (dk dtk_X10_init 32 rfl) rfl (Or.inl rfl) (W0_in (tp_1 (List.mem_of_getElem? (i := 82) (by decide +kernel))) rfl) rfl (by decide) (by decide) (by decide) (ops_nd (l := List.take 14 ops_260) (hfr 274 (by decide)).1 (by decide)) (Or.inl (by decide)) (ops_nr (l := List.take 14 ops_260) (hfr 274 (by decide)).2 (by decide)) (gok_i (av_c (gkr (ops_in (l := List.take 14 ops_260) hB)) av_n) (as_c (gkr (ops_in (l := List.take 14 ops_260) hB)) as_n)) ?_
  refine T_putRF 260 13 274 (dk dtk_X10_init 33 rfl) rfl kfl_X10_37 rfl (ops_in (l := List.take 15 ops_260) hB) (by decide) rfl (fun _ => ⟨rfl, rfl⟩) (fun r h => by cases h; rfl) ?_
  exact T_vret (dk dtk_X10_init 34 rfl) rfl h
def ops_280 : List gop := [oN_ 287 11, oR_ 280 6 287, oN_ 288 24, oR_ 280 7 288, oN_ 289 6, oR_ 280 8 289, oN_ 290 3000, oR_ 280 9 290, oN_ 291 3000, oR_ 280 10 291, oN_ 292 3000, oR_ 280 11 292, oN_ 293 3000, oR_ 280 12 293, oN_ 294 3000, oR_ 280 13 294]
def news_280 : List Nat := [287, 288, 289, 290, 291, 292, 293, 294]
set_option maxRecDepth 100000 in
set_option maxHeartbeats 4000000 in
theorem kc_280 {G : kG} {d : Nat} {x : gd} {f : gf} {Q : gr → gd → gf → Prop} (hB : 280 ∈ f.2.1) (hfr : ∀ c ∈ news_280, c ∉ f.2.1 ∧ NR f c) (h : Q (.inl none) (xops x ops_280) (fops f ops_280)) : T (kE G) (d + 1) zk_X10_init 0 [(0, vr 280)] [] x f Q := by
  refine T_aload_n 0 (dk dtk_X10_init 0 rfl) rfl rfl ?_
  refine T_objInit (dk dtk_X10_init 1 rfl) ⟨(W0_in (tp_7 (List.mem_of_getElem? (i := 178) (by decide +kernel))) rfl), (W0_in (tp_1 (List.mem_of_getElem? (i := 34) (by decide +kernel))) rfl), (W0_in (tp_1 (List.mem_of_getElem? (i := 35) (by decide +kernel))) rfl)⟩ (by omega) (Nat.le_of_ble_eq_true rfl) ?_
  refine T_aload_n 0 (dk dtk_X10_init 2 rfl) rfl rfl ?_
  refine T_bipush (v := 11) (dk dtk_X10_init 3 rfl) (by decide +kernel) ?_
  refine T_newI 287 (dk dtk_X10_init 4 rfl) rfl (Or.inl rfl) (W0_in (tp_1 (List.mem_of_getElem? (i := 82) (by decide +kernel))) rfl) rfl (by decide) (by decide) (by decide) (ops_nd (l := List.take 0 ops_280) (hfr 287 (by decide)).1 (by decide)) (Or.inl (by decide)) (ops_nr (l := List.take 0 ops_280) (hfr 287 (by decide)).2 (by decide)) (gok_i (av_c (gkr (ops_in (l := List.take 0 ops_280) hB)) av_n) (as_c (gkr (ops_in (l := List.take 0 ops_280) hB)) as_n)) ?_
  refine T_putRF 280 6 287 (dk dtk_X10_init 5 rfl) rfl kfl_X10_11 rfl (ops_in (l := List.take 1 ops_280) hB) (by decide) rfl (fun _ => ⟨rfl, rfl⟩) (fun r h => by cases h; rfl) ?_
  refine T_aload_n 0 (dk dtk_X10_init 6 rfl) rfl rfl ?_
  refine T_bipush (v := 24) (dk dtk_X10_init 7 rfl) (by decide +kernel) ?_
  refine T_newI 288 (dk dtk_X10_init 8 rfl) rfl (Or.inl rfl) (W0_in (tp_1 (List.mem_of_getElem? (i := 82) (by decide +kernel))) rfl) rfl (by decide) (by decide) (by decide) (ops_nd (l := List.take 2 ops_280) (hfr 288 (by decide)).1 (by decide)) (Or.inl (by decide)) (ops_nr (l := List.take 2 ops_280) (hfr 288 (by decide)).2 (by decide)) (gok_i (av_c (gkr (ops_in (l := List.take 2 ops_280) hB)) av_n) (as_c (gkr (ops_in (l := List.take 2 ops_280) hB)) as_n)) ?_
  refine T_putRF 280 7 288 (dk dtk_X10_init 9 rfl) rfl kfl_X10_17 rfl (ops_in (l := List.take 3 ops_280) hB) (by decide) rfl (fun _ => ⟨rfl, rfl⟩) (fun r h => by cases h; rfl) ?_
  refine T_aload_n 0 (dk dtk_X10_init 10 rfl) rfl rfl ?_
  refine T_bipush (v := 6) (dk dtk_X10_init 11 rfl) (by decide +kernel) ?_
  refine T_newI 289 (dk dtk_X10_init 12 rfl) rfl (Or.inl rfl) (W0_in (tp_1 (List.mem_of_getElem? (i := 82) (by decide +kernel))) rfl) rfl (by decide) (by decide) (by decide) (ops_nd (l := List.take 4 ops_280) (hfr 289 (by decide)).1 (by decide)) (Or.inl (by decide)) (ops_nr (l := List.take 4 ops_280) (hfr 289 (by decide)).2 (by decide)) (gok_i (av_c (gkr (ops_in (l := List.take 4 ops_280) hB)) av_n) (as_c (gkr (ops_in (l := List.take 4 ops_280) hB)) as_n)) ?_
  refine T_putRF 280 8 289 (dk dtk_X10_init 13 rfl) rfl kfl_X10_20 rfl (ops_in (l := List.take 5 ops_280) hB) (by decide) rfl (fun _ => ⟨rfl, rfl⟩) (fun r h => by cases h; rfl) ?_
  refine T_aload_n 0 (dk dtk_X10_init 14 rfl) rfl rfl ?_
  refine T_sipush (v := 3000) (dk dtk_X10_init 15 rfl) (by decide +kernel) ?_
  refine T_newI 290 (dk dtk_X10_init 16 rfl) rfl (Or.inl rfl) (W0_in (tp_1 (List.mem_of_getElem? (i := 82) (by decide +kernel))) rfl) rfl (by decide) (by decide) (by decide) (ops_nd (l := List.take 6 ops_280) (hfr 290 (by decide)).1 (by decide)) (Or.inl (by decide)) (ops_nr (l := List.take 6 ops_280) (hfr 290 (by decide)).2 (by decide)) (gok_i (av_c (gkr (ops_in (l := List.take 6 ops_280) hB)) av_n) (as_c (gkr (ops_in (l := List.take 6 ops_280) hB)) as_n)) ?_
  refine T_putRF 280 9 290 (dk dtk_X10_init 17 rfl) rfl kfl_X10_23 rfl (ops_in (l := List.take 7 ops_280) hB) (by decide) rfl (fun _ => ⟨rfl, rfl⟩) (fun r h => by cases h; rfl) ?_
  refine T_aload_n 0 (dk dtk_X10_init 18 rfl) rfl rfl ?_
  refine T_sipush (v := 3000) (dk dtk_X10_init 19 rfl) (by decide +kernel) ?_
  refine T_newI 291 (dk dtk_X10_init 20 rfl) rfl (Or.inl rfl) (W0_in (tp_1 (List.mem_of_getElem? (i := 82) (by decide +kernel))) rfl) rfl (by decide) (by decide) (by decide) (ops_nd (l := List.take 8 ops_280) (hfr 291 (by decide)).1 (by decide)) (Or.inl (by decide)) (ops_nr (l := List.take 8 ops_280) (hfr 291 (by decide)).2 (by decide)) (gok_i (av_c (gkr (ops_in (l := List.take 8 ops_280) hB)) av_n) (as_c (gkr (ops_in (l := List.take 8 ops_280) hB)) as_n)) ?_
  refine T_putRF 280 10 291 (dk dtk_X10_init 21 rfl) rfl kfl_X10_26 rfl (ops_in (l := List.take 9 ops_280) hB) (by decide) rfl (fun _ => ⟨rfl, rfl⟩) (fun r h => by cases h; rfl) ?_
  refine T_aload_n 0 (dk dtk_X10_init 22 rfl) rfl rfl ?_
  refine T_sipush (v := 3000) (dk dtk_X10_init 23 rfl) (by decide +kernel) ?_
  refine T_newI 292 (dk dtk_X10_init 24 rfl) rfl (Or.inl rfl) (W0_in (tp_1 (List.mem_of_getElem? (i := 82) (by decide +kernel))) rfl) rfl (by decide) (by decide) (by decide) (ops_nd (l := List.take 10 ops_280) (hfr 292 (by decide)).1 (by decide)) (Or.inl (by decide)) (ops_nr (l := List.take 10 ops_280) (hfr 292 (by decide)).2 (by decide)) (gok_i (av_c (gkr (ops_in (l := List.take 10 ops_280) hB)) av_n) (as_c (gkr (ops_in (l := List.take 10 ops_280) hB)) as_n)) ?_
  refine T_putRF 280 11 292 (dk dtk_X10_init 25 rfl) rfl kfl_X10_29 rfl (ops_in (l := List.take 11 ops_280) hB) (by decide) rfl (fun _ => ⟨rfl, rfl⟩) (fun r h => by cases h; rfl) ?_
  refine T_aload_n 0 (dk dtk_X10_init 26 rfl) rfl rfl ?_
  refine T_sipush (v := 3000) (dk dtk_X10_init 27 rfl) (by decide +kernel) ?_
  refine T_newA 293 (dk dtk_X10_init 28 rfl) (W0_in (tp_7 (List.mem_of_getElem? (i := 179) (by decide +kernel))) rfl) rfl (by decide) (by decide) (by decide) (ops_nd (l := List.take 12 ops_280) (hfr 293 (by decide)).1 (by decide)) (Or.inl (by decide)) (ops_nr (l := List.take 12 ops_280) (hfr 293 (by decide)).2 (by decide)) (gok_i (av_c (gkr (ops_in (l := List.take 12 ops_280) hB)) av_n) (as_c (gkr (ops_in (l := List.take 12 ops_280) hB)) as_n)) ?_
  refine T_putRF 280 12 293 (dk dtk_X10_init 29 rfl) rfl kfl_X10_33 rfl (ops_in (l := List.take 13 ops_280) hB) (by decide) rfl (fun _ => ⟨rfl, rfl⟩) (fun r h => by cases h; rfl) ?_
  refine T_aload_n 0 (dk dtk_X10_init 30 rfl) rfl rfl ?_
  refine T_sipush (v := 3000) (dk dtk_X10_init 31 rfl) (by decide +kernel) ?_
  refine T_newI 294 (dk dtk_X10_init 32 rfl) rfl (Or.inl rfl) (W0_in (tp_1 (List.mem_of_getElem? (i := 82) (by decide +kernel))) rfl) rfl (by decide) (by decide) (by decide) (ops_nd (l := List.take 14 ops_280) (hfr 294 (by decide)).1 (by decide)) (Or.inl (by decide)) (ops_nr (l := List.take 14 ops_280) (hfr 294 (by decide)).2 (by decide)) (gok_i (av_c (gkr (ops_in (l := List.take 14 ops_280) hB)) av_n) (as_c (gkr (ops_in (l := List.take 14 ops_280) hB)) as_n)) ?_
  refine T_putRF 280 13 294 (dk dtk_X10_init 33 rfl) rfl kfl_X10_37 rfl (ops_in (l := List.take 15 ops_280) hB) (by decide) rfl (fun _ => ⟨rfl, rfl⟩) (fun r h => by cases h; rfl) ?_
  exact T_vret (dk dtk_X10_init 34 rfl) rfl h
end
section
def ops_0 : List gop := [oN_ 20 10, oN_ 21 3000, oR_ 20 0 21, oN_ 23 702, oR_ 20 2 23, oN_ 24 702, oR_ 20 3 24, oN_ 25 702, oR_ 20 4 25, oN_ 26 702, oR_ 20 5 26, oN_ 27 702, oR_ 20 6 27, oR_ 0 0 20, oN_ 40 12, oR_ 40 0 20, oN_ 42 702, oR_ 40 1 42, oN_ 43 702, oR_ 40 2 43, oN_ 44 24, oR_ 40 3 44, oN_ 45 24, oR_ 40 4 45, oN_ 46 24, oR_ 40 5 46, oN_ 48 6, oR_ 40 7 48, oN_ 50 6, oR_ 40 9 50, oR_ 0 1 40, oN_ 60 18, oN_ 80 10, oN_ 81 400, oR_ 80 0 81, oN_ 82 400, oR_ 80 1 82, oN_ 83 400, oR_ 80 2 83, oN_ 84 400, oR_ 80 3 84, oN_ 85 400, oR_ 80 4 85, oN_ 86 400, oR_ 80 5 86, oN_ 87 400, oR_ 80 6 87, oN_ 88 400, oR_ 80 7 88, oN_ 89 400, oR_ 80 8 89, oR_ 60 0 80, oN_ 62 800, oR_ 60 1 62, oN_ 63 800, oR_ 60 2 63, oN_ 65 40, oR_ 60 4 65, oN_ 68 24, oR_ 60 7 68, oN_ 69 24, oR_ 60 8 69, oN_ 72 6, oR_ 60 11 72, oN_ 73 6, oR_ 60 12 73, oN_ 76 4, oR_ 60 15 76, oN_ 78 4, oR_ 60 17 78, oR_ 0 2 60, oN_ 100 18, oR_ 100 0 20, oR_ 100 1 40, oR_ 100 2 60, oR_ 100 3 80, oN_ 109 8, oR_ 100 8 109, oN_ 111 20, oR_ 100 10 111, oN_ 112 20, oR_ 100 11 112, oN_ 113 20, oR_ 100 12 113, oN_ 115 20, oR_ 100 14 115, oN_ 116 20, oR_ 100 15 116, oN_ 117 20, oR_ 100 16 117, oR_ 0 3 100, oN_ 120 15, oR_ 120 0 60, oR_ 120 1 80, oN_ 140 7, oR_ 120 2 140, oN_ 125 228, oR_ 120 4 125, oN_ 131 84, oR_ 120 10 131, oN_ 132 84, oR_ 120 11 132, oN_ 133 84, oR_ 120 12 133, oR_ 0 4 120, oN_ 160 18, oR_ 160 0 60, oN_ 162 400, oR_ 160 1 162, oN_ 166 400, oR_ 160 5 166, oN_ 167 400, oR_ 160 6 167, oN_ 168 400, oR_ 160 7 168, oN_ 169 400, oR_ 160 8 169, oN_ 170 400, oR_ 160 9 170, oN_ 171 400, oR_ 160 10 171, oN_ 172 400, oR_ 160 11 172, oN_ 173 2400, oR_ 160 12 173, oN_ 174 6, oR_ 160 13 174, oN_ 175 36, oR_ 160 14 175, oN_ 176 36, oR_ 160 15 176, oN_ 177 144, oR_ 160 16 177, oN_ 178 36, oR_ 160 17 178, oR_ 0 5 160, oN_ 7 2, oR_ 0 6 7, oI_ 0 11 (-1), oI_ 0 12 (-1)]
def news_0 : List Nat := [20, 21, 23, 24, 25, 26, 27, 40, 42, 43, 44, 45, 46, 48, 50, 60, 80, 81, 82, 83, 84, 85, 86, 87, 88, 89, 62, 63, 65, 68, 69, 72, 73, 76, 78, 100, 109, 111, 112, 113, 115, 116, 117, 120, 140, 125, 131, 132, 133, 160, 162, 166, 167, 168, 169, 170, 171, 172, 173, 174, 175, 176, 177, 178, 7]
set_option maxRecDepth 100000 in
set_option maxHeartbeats 4000000 in
theorem kc_0 {G : kG} {d : Nat} {x : gd} {f : gf} {Q : gr → gd → gf → Prop} (hB : 0 ∈ f.2.1) (hfr : ∀ c ∈ news_0, c ∉ f.2.1 ∧ NR f c) (h : Q (.inl none) (xops x ops_0) (fops f ops_0)) : T (kE G) (d + 3) zk_X11_init 0 [(0, vr 0)] [] x f Q := by
  have fr0 : ∀ c ∈ ([20, 21, 23, 24, 25, 26, 27, 40, 42, 43, 44, 45, 46, 48, 50, 60, 80, 81, 82, 83, 84, 85, 86, 87, 88, 89, 62, 63, 65, 68, 69, 72, 73, 76, 78, 100, 109, 111, 112, 113, 115, 116, 117, 120, 140, 125, 131, 132, 133, 160, 162, 166, 167, 168, 169, 170, 171, 172, 173, 174, 175, 176, 177, 178, 7] : List Nat), c ∉ f.2.1 ∧ NR f c := hfr
  have li0 : ∀ c ∈ ([0] : List Nat), c ∈ f.2.1 := fun c hc => by rw [List.mem_singleton.mp hc]; exact hB
  obtain ⟨f0, e0⟩ : ∃ z, z = f := ⟨_, rfl⟩
  rw [← e0] at fr0 li0 ⊢
  refine T_aload_n 0 (dk dtk_X11_init 0 rfl) rfl rfl ?_
  refine T_objInit (dk dtk_X11_init 1 rfl) ⟨(W0_in (tp_1 (List.mem_of_getElem? (i := 33) (by decide +kernel))) rfl), (W0_in (tp_1 (List.mem_of_getElem? (i := 34) (by decide +kernel))) rfl), (W0_in (tp_1 (List.mem_of_getElem? (i := 35) (by decide +kernel))) rfl)⟩ (by omega) (Nat.le_of_ble_eq_true rfl) ?_
  refine T_aload_n 0 (dk dtk_X11_init 2 rfl) rfl rfl ?_
  refine T_newO 20 (dk dtk_X11_init 3 rfl) kn_X11_7 kk_20 (fr0 20 (by decide)).1 (Or.inl (by decide)) (fr0 20 (by decide)).2 (gok_i (av_c (gkr (li0 0 (by decide))) av_n) (as_c (gkr (li0 0 (by decide))) as_n)) ?_
  obtain ⟨f1, e1⟩ : ∃ z, z = fnew f0 20 ks_X9.length := ⟨_, rfl⟩
  rw [← e1]
  have fr1 : ∀ c ∈ ([21, 23, 24, 25, 26, 27, 40, 42, 43, 44, 45, 46, 48, 50, 60, 80, 81, 82, 83, 84, 85, 86, 87, 88, 89, 62, 63, 65, 68, 69, 72, 73, 76, 78, 100, 109, 111, 112, 113, 115, 116, 117, 120, 140, 125, 131, 132, 133, 160, 162, 166, 167, 168, 169, 170, 171, 172, 173, 174, 175, 176, 177, 178, 7] : List Nat), c ∉ f1.2.1 ∧ NR f1 c := by rw [e1]; exact ops_fr (l := [oN_ 20 10]) fr0 (by decide +kernel)
  have li1 : ∀ c ∈ ([0, 20] : List Nat), c ∈ f1.2.1 := by rw [e1]; exact ops_li (l := [oN_ 20 10]) li0 (by decide +kernel)
  refine T_dup (dk dtk_X11_init 4 rfl) rfl ?_
  refine T_callI [] [vr 20, vr 0] (d + 2) rfl (dk dtk_X11_init 5 rfl) kci_X11_9 rfl (by omega) (Nat.le_of_ble_eq_true rfl) (Nat.le_of_ble_eq_true rfl) (gok_i (av_c (gkr (li1 0 (by decide))) av_n) (as_c (gkr (li1 20 (by decide))) (as_c (gkr (li1 0 (by decide))) as_n))) (kc_20 (d := d + 1) (li1 20 (by decide))  (fun c hc => fr1 c ((by decide +kernel : ∀ c ∈ news_20, c ∈ ([21, 23, 24, 25, 26, 27, 40, 42, 43, 44, 45, 46, 48, 50, 60, 80, 81, 82, 83, 84, 85, 86, 87, 88, 89, 62, 63, 65, 68, 69, 72, 73, 76, 78, 100, 109, 111, 112, 113, 115, 116, 117, 120, 140, 125, 131, 132, 133, 160, 162, 166, 167, 168, 169, 170, 171, 172, 173, 174, 175, 176, 177, 178, 7] : List Nat)) c hc))  ⟨rfl, ?_⟩)
  obtain ⟨f2, e2⟩ : ∃ z, z = fops f1 ops_20 := ⟨_, rfl⟩
  rw [← e2]
  have fr2 : ∀ c ∈ ([40, 42, 43, 44, 45, 46, 48, 50, 60, 80, 81, 82, 83, 84, 85, 86, 87, 88, 89, 62, 63, 65, 68, 69, 72, 73, 76, 78, 100, 109, 111, 112, 113, 115, 116, 117, 120, 140, 125, 131, 132, 133, 160, 162, 166, 167, 168, 169, 170, 171, 172, 173, 174, 175, 176, 177, 178, 7] : List Nat), c ∉ f2.2.1 ∧ NR f2 c := by rw [e2]; exact ops_fr (l := ops_20) fr1 (by decide +kernel)
  have li2 : ∀ c ∈ ([0, 20] : List Nat), c ∈ f2.2.1 := by rw [e2]; exact ops_li (l := ops_20) li1 (by decide +kernel)
  refine T_putRF 0 0 20 (dk dtk_X11_init 6 rfl) rfl kfl_X11_10 kk_0 (li2 0 (by decide)) (by decide) rfl (fun _ => ⟨rfl, rfl⟩) (fun r h => by cases h; rfl) ?_
  obtain ⟨f3, e3⟩ : ∃ z, z = frf f2 0 0 (some 20) := ⟨_, rfl⟩
  rw [← e3]
  have fr3 : ∀ c ∈ ([40, 42, 43, 44, 45, 46, 48, 50, 60, 80, 81, 82, 83, 84, 85, 86, 87, 88, 89, 62, 63, 65, 68, 69, 72, 73, 76, 78, 100, 109, 111, 112, 113, 115, 116, 117, 120, 140, 125, 131, 132, 133, 160, 162, 166, 167, 168, 169, 170, 171, 172, 173, 174, 175, 176, 177, 178, 7] : List Nat), c ∉ f3.2.1 ∧ NR f3 c := by rw [e3]; exact ops_fr (l := [oR_ 0 0 20]) fr2 (by decide +kernel)
  have li3 : ∀ c ∈ ([0, 20] : List Nat), c ∈ f3.2.1 := by rw [e3]; exact ops_li (l := [oR_ 0 0 20]) li2 (by decide +kernel)
  have r3_0_0 : f3.1 0 0 = some 20 := by rw [e3]; rfl
  refine T_aload_n 0 (dk dtk_X11_init 7 rfl) rfl rfl ?_
  refine T_newO 40 (dk dtk_X11_init 8 rfl) kn_X11_16 kk_40 (fr3 40 (by decide)).1 (Or.inl (by decide)) (fr3 40 (by decide)).2 (gok_i (av_c (gkr (li3 0 (by decide))) av_n) (as_c (gkr (li3 0 (by decide))) as_n)) ?_
  obtain ⟨f4, e4⟩ : ∃ z, z = fnew f3 40 ks_X6.length := ⟨_, rfl⟩
  rw [← e4]
  have fr4 : ∀ c ∈ ([42, 43, 44, 45, 46, 48, 50, 60, 80, 81, 82, 83, 84, 85, 86, 87, 88, 89, 62, 63, 65, 68, 69, 72, 73, 76, 78, 100, 109, 111, 112, 113, 115, 116, 117, 120, 140, 125, 131, 132, 133, 160, 162, 166, 167, 168, 169, 170, 171, 172, 173, 174, 175, 176, 177, 178, 7] : List Nat), c ∉ f4.2.1 ∧ NR f4 c := by rw [e4]; exact ops_fr (l := [oN_ 40 12]) fr3 (by decide +kernel)
  have li4 : ∀ c ∈ ([0, 20, 40] : List Nat), c ∈ f4.2.1 := by rw [e4]; exact ops_li (l := [oN_ 40 12]) li3 (by decide +kernel)
  have r4_0_0 : f4.1 0 0 = some 20 := by rw [e4]; exact r3_0_0
  refine T_dup (dk dtk_X11_init 9 rfl) rfl ?_
  refine T_aload_n 0 (dk dtk_X11_init 10 rfl) rfl rfl ?_
  refine T_getR 0 0 20 (dk dtk_X11_init 11 rfl) kfl_X11_10 kk_0 (li4 0 (by decide)) (by decide) rfl r4_0_0 ?_
  refine T_callI [vr 20] [vr 40, vr 0] (d + 2) rfl (dk dtk_X11_init 12 rfl) kci_X11_18 rfl (by omega) (Nat.le_of_ble_eq_true rfl) (Nat.le_of_ble_eq_true rfl) (gok_i (av_c (gkr (li4 0 (by decide))) av_n) (as_c (gkr (li4 40 (by decide))) (as_c (gkr (li4 0 (by decide))) as_n))) (kc_40 (d := d + 1) (li4 40 (by decide)) (li4 20 (by decide)) (fun c hc => fr4 c ((by decide +kernel : ∀ c ∈ news_40, c ∈ ([42, 43, 44, 45, 46, 48, 50, 60, 80, 81, 82, 83, 84, 85, 86, 87, 88, 89, 62, 63, 65, 68, 69, 72, 73, 76, 78, 100, 109, 111, 112, 113, 115, 116, 117, 120, 140, 125, 131, 132, 133, 160, 162, 166, 167, 168, 169, 170, 171, 172, 173, 174, 175, 176, 177, 178, 7] : List Nat)) c hc))  ⟨rfl, ?_⟩)
  obtain ⟨f5, e5⟩ : ∃ z, z = fops f4 ops_40 := ⟨_, rfl⟩
  rw [← e5]
  have fr5 : ∀ c ∈ ([60, 80, 81, 82, 83, 84, 85, 86, 87, 88, 89, 62, 63, 65, 68, 69, 72, 73, 76, 78, 100, 109, 111, 112, 113, 115, 116, 117, 120, 140, 125, 131, 132, 133, 160, 162, 166, 167, 168, 169, 170, 171, 172, 173, 174, 175, 176, 177, 178, 7] : List Nat), c ∉ f5.2.1 ∧ NR f5 c := by rw [e5]; exact ops_fr (l := ops_40) fr4 (by decide +kernel)
  have li5 : ∀ c ∈ ([0, 20, 40] : List Nat), c ∈ f5.2.1 := by rw [e5]; exact ops_li (l := ops_40) li4 (by decide +kernel)
  have r5_0_0 : f5.1 0 0 = some 20 := by rw [e5]; exact r4_0_0
  refine T_putRF 0 1 40 (dk dtk_X11_init 13 rfl) rfl kfl_X11_21 kk_0 (li5 0 (by decide)) (by decide) rfl (fun _ => ⟨rfl, rfl⟩) (fun r h => by cases h; rfl) ?_
  obtain ⟨f6, e6⟩ : ∃ z, z = frf f5 0 1 (some 40) := ⟨_, rfl⟩
  rw [← e6]
  have fr6 : ∀ c ∈ ([60, 80, 81, 82, 83, 84, 85, 86, 87, 88, 89, 62, 63, 65, 68, 69, 72, 73, 76, 78, 100, 109, 111, 112, 113, 115, 116, 117, 120, 140, 125, 131, 132, 133, 160, 162, 166, 167, 168, 169, 170, 171, 172, 173, 174, 175, 176, 177, 178, 7] : List Nat), c ∉ f6.2.1 ∧ NR f6 c := by rw [e6]; exact ops_fr (l := [oR_ 0 1 40]) fr5 (by decide +kernel)
  have li6 : ∀ c ∈ ([0, 20, 40] : List Nat), c ∈ f6.2.1 := by rw [e6]; exact ops_li (l := [oR_ 0 1 40]) li5 (by decide +kernel)
  have r6_0_0 : f6.1 0 0 = some 20 := by rw [e6]; exact r5_0_0
  have r6_0_1 : f6.1 0 1 = some 40 := by rw [e6]; rfl
  refine T_aload_n 0 (dk dtk_X11_init 14 rfl) rfl rfl ?_
  refine T_newO 60 (dk dtk_X11_init 15 rfl) kn_X11_25 kk_60 (fr6 60 (by decide)).1 (Or.inl (by decide)) (fr6 60 (by decide)).2 (gok_i (av_c (gkr (li6 0 (by decide))) av_n) (as_c (gkr (li6 0 (by decide))) as_n)) ?_
  obtain ⟨f7, e7⟩ : ∃ z, z = fnew f6 60 ks_X0.length := ⟨_, rfl⟩
  rw [← e7]
  have fr7 : ∀ c ∈ ([80, 81, 82, 83, 84, 85, 86, 87, 88, 89, 62, 63, 65, 68, 69, 72, 73, 76, 78, 100, 109, 111, 112, 113, 115, 116, 117, 120, 140, 125, 131, 132, 133, 160, 162, 166, 167, 168, 169, 170, 171, 172, 173, 174, 175, 176, 177, 178, 7] : List Nat), c ∉ f7.2.1 ∧ NR f7 c := by rw [e7]; exact ops_fr (l := [oN_ 60 18]) fr6 (by decide +kernel)
  have li7 : ∀ c ∈ ([0, 20, 40, 60] : List Nat), c ∈ f7.2.1 := by rw [e7]; exact ops_li (l := [oN_ 60 18]) li6 (by decide +kernel)
  have r7_0_0 : f7.1 0 0 = some 20 := by rw [e7]; exact r6_0_0
  have r7_0_1 : f7.1 0 1 = some 40 := by rw [e7]; exact r6_0_1
  refine T_dup (dk dtk_X11_init 16 rfl) rfl ?_
  refine T_callI [] [vr 60, vr 0] (d + 2) rfl (dk dtk_X11_init 17 rfl) kci_X11_27 rfl (by omega) (Nat.le_of_ble_eq_true rfl) (Nat.le_of_ble_eq_true rfl) (gok_i (av_c (gkr (li7 0 (by decide))) av_n) (as_c (gkr (li7 60 (by decide))) (as_c (gkr (li7 0 (by decide))) as_n))) (kc_60 (d := d + 0) (li7 60 (by decide))  (fun c hc => fr7 c ((by decide +kernel : ∀ c ∈ news_60, c ∈ ([80, 81, 82, 83, 84, 85, 86, 87, 88, 89, 62, 63, 65, 68, 69, 72, 73, 76, 78, 100, 109, 111, 112, 113, 115, 116, 117, 120, 140, 125, 131, 132, 133, 160, 162, 166, 167, 168, 169, 170, 171, 172, 173, 174, 175, 176, 177, 178, 7] : List Nat)) c hc))  ⟨rfl, ?_⟩)
  obtain ⟨f8, e8⟩ : ∃ z, z = fops f7 ops_60 := ⟨_, rfl⟩
  rw [← e8]
  have fr8 : ∀ c ∈ ([100, 109, 111, 112, 113, 115, 116, 117, 120, 140, 125, 131, 132, 133, 160, 162, 166, 167, 168, 169, 170, 171, 172, 173, 174, 175, 176, 177, 178, 7] : List Nat), c ∉ f8.2.1 ∧ NR f8 c := by rw [e8]; exact ops_fr (l := ops_60) fr7 (by decide +kernel)
  have li8 : ∀ c ∈ ([0, 20, 40, 60, 80] : List Nat), c ∈ f8.2.1 := by rw [e8]; exact ops_li (l := ops_60) li7 (by decide +kernel)
  have r8_0_0 : f8.1 0 0 = some 20 := by rw [e8]; exact r7_0_0
  have r8_0_1 : f8.1 0 1 = some 40 := by rw [e8]; exact r7_0_1
  have r8_60_0 : f8.1 60 0 = some 80 := by rw [e8]; rfl
  refine T_putRF 0 2 60 (dk dtk_X11_init 18 rfl) rfl kfl_X11_28 kk_0 (li8 0 (by decide)) (by decide) rfl (fun _ => ⟨rfl, rfl⟩) (fun r h => by cases h; rfl) ?_
  obtain ⟨f9, e9⟩ : ∃ z, z = frf f8 0 2 (some 60) := ⟨_, rfl⟩
  rw [← e9]
  have fr9 : ∀ c ∈ ([100, 109, 111, 112, 113, 115, 116, 117, 120, 140, 125, 131, 132, 133, 160, 162, 166, 167, 168, 169, 170, 171, 172, 173, 174, 175, 176, 177, 178, 7] : List Nat), c ∉ f9.2.1 ∧ NR f9 c := by rw [e9]; exact ops_fr (l := [oR_ 0 2 60]) fr8 (by decide +kernel)
  have li9 : ∀ c ∈ ([0, 20, 40, 60, 80] : List Nat), c ∈ f9.2.1 := by rw [e9]; exact ops_li (l := [oR_ 0 2 60]) li8 (by decide +kernel)
  have r9_0_0 : f9.1 0 0 = some 20 := by rw [e9]; exact r8_0_0
  have r9_0_1 : f9.1 0 1 = some 40 := by rw [e9]; exact r8_0_1
  have r9_60_0 : f9.1 60 0 = some 80 := by rw [e9]; exact r8_60_0
  have r9_0_2 : f9.1 0 2 = some 60 := by rw [e9]; rfl
  refine T_aload_n 0 (dk dtk_X11_init 19 rfl) rfl rfl ?_
  refine T_newO 100 (dk dtk_X11_init 20 rfl) kn_X11_32 kk_100 (fr9 100 (by decide)).1 (Or.inl (by decide)) (fr9 100 (by decide)).2 (gok_i (av_c (gkr (li9 0 (by decide))) av_n) (as_c (gkr (li9 0 (by decide))) as_n)) ?_
  obtain ⟨f10, e10⟩ : ∃ z, z = fnew f9 100 ks_X7.length := ⟨_, rfl⟩
  rw [← e10]
  have fr10 : ∀ c ∈ ([109, 111, 112, 113, 115, 116, 117, 120, 140, 125, 131, 132, 133, 160, 162, 166, 167, 168, 169, 170, 171, 172, 173, 174, 175, 176, 177, 178, 7] : List Nat), c ∉ f10.2.1 ∧ NR f10 c := by rw [e10]; exact ops_fr (l := [oN_ 100 18]) fr9 (by decide +kernel)
  have li10 : ∀ c ∈ ([0, 20, 40, 60, 80, 100] : List Nat), c ∈ f10.2.1 := by rw [e10]; exact ops_li (l := [oN_ 100 18]) li9 (by decide +kernel)
  have r10_0_0 : f10.1 0 0 = some 20 := by rw [e10]; exact r9_0_0
  have r10_0_1 : f10.1 0 1 = some 40 := by rw [e10]; exact r9_0_1
  have r10_60_0 : f10.1 60 0 = some 80 := by rw [e10]; exact r9_60_0
  have r10_0_2 : f10.1 0 2 = some 60 := by rw [e10]; exact r9_0_2
  refine T_dup (dk dtk_X11_init 21 rfl) rfl ?_
  refine T_aload_n 0 (dk dtk_X11_init 22 rfl) rfl rfl ?_
  refine T_getR 0 0 20 (dk dtk_X11_init 23 rfl) kfl_X11_10 kk_0 (li10 0 (by decide)) (by decide) rfl r10_0_0 ?_
  refine T_aload_n 0 (dk dtk_X11_init 24 rfl) rfl rfl ?_
  refine T_getR 0 1 40 (dk dtk_X11_init 25 rfl) kfl_X11_21 kk_0 (li10 0 (by decide)) (by decide) rfl r10_0_1 ?_
  refine T_aload_n 0 (dk dtk_X11_init 26 rfl) rfl rfl ?_
  refine T_getR 0 2 60 (dk dtk_X11_init 27 rfl) kfl_X11_28 kk_0 (li10 0 (by decide)) (by decide) rfl r10_0_2 ?_
  refine T_callI [vr 20, vr 40, vr 60] [vr 100, vr 0] (d + 2) rfl (dk dtk_X11_init 28 rfl) kci_X11_34 rfl (by omega) (Nat.le_of_ble_eq_true rfl) (Nat.le_of_ble_eq_true rfl) (gok_i (av_c (gkr (li10 0 (by decide))) av_n) (as_c (gkr (li10 100 (by decide))) (as_c (gkr (li10 0 (by decide))) as_n))) (kc_100 (d := d + 1) (li10 100 (by decide)) (li10 20 (by decide)) (li10 40 (by decide)) (li10 60 (by decide)) (fun c hc => fr10 c ((by decide +kernel : ∀ c ∈ news_100, c ∈ ([109, 111, 112, 113, 115, 116, 117, 120, 140, 125, 131, 132, 133, 160, 162, 166, 167, 168, 169, 170, 171, 172, 173, 174, 175, 176, 177, 178, 7] : List Nat)) c hc)) r10_60_0 ⟨rfl, ?_⟩)
  obtain ⟨f11, e11⟩ : ∃ z, z = fops f10 ops_100 := ⟨_, rfl⟩
  rw [← e11]
  have fr11 : ∀ c ∈ ([120, 140, 125, 131, 132, 133, 160, 162, 166, 167, 168, 169, 170, 171, 172, 173, 174, 175, 176, 177, 178, 7] : List Nat), c ∉ f11.2.1 ∧ NR f11 c := by rw [e11]; exact ops_fr (l := ops_100) fr10 (by decide +kernel)
  have li11 : ∀ c ∈ ([0, 20, 40, 60, 80, 100] : List Nat), c ∈ f11.2.1 := by rw [e11]; exact ops_li (l := ops_100) li10 (by decide +kernel)
  have r11_0_0 : f11.1 0 0 = some 20 := by rw [e11]; exact r10_0_0
  have r11_0_1 : f11.1 0 1 = some 40 := by rw [e11]; exact r10_0_1
  have r11_60_0 : f11.1 60 0 = some 80 := by rw [e11]; exact r10_60_0
  have r11_0_2 : f11.1 0 2 = some 60 := by rw [e11]; exact r10_0_2
  refine T_putRF 0 3 100 (dk dtk_X11_init 29 rfl) rfl kfl_X11_37 kk_0 (li11 0 (by decide)) (by decide) rfl (fun _ => ⟨rfl, rfl⟩) (fun r h => by cases h; rfl) ?_
  obtain ⟨f12, e12⟩ : ∃ z, z = frf f11 0 3 (some 100) := ⟨_, rfl⟩
  rw [← e12]
  have fr12 : ∀ c ∈ ([120, 140, 125, 131, 132, 133, 160, 162, 166, 167, 168, 169, 170, 171, 172, 173, 174, 175, 176, 177, 178, 7] : List Nat), c ∉ f12.2.1 ∧ NR f12 c := by rw [e12]; exact ops_fr (l := [oR_ 0 3 100]) fr11 (by decide +kernel)
  have li12 : ∀ c ∈ ([0, 20, 40, 60, 80, 100] : List Nat), c ∈ f12.2.1 := by rw [e12]; exact ops_li (l := [oR_ 0 3 100]) li11 (by decide +kernel)
  have r12_0_0 : f12.1 0 0 = some 20 := by rw [e12]; exact r11_0_0
  have r12_0_1 : f12.1 0 1 = some 40 := by rw [e12]; exact r11_0_1
  have r12_60_0 : f12.1 60 0 = some 80 := by rw [e12]; exact r11_60_0
  have r12_0_2 : f12.1 0 2 = some 60 := by rw [e12]; exact r11_0_2
  refine T_aload_n 0 (dk dtk_X11_init 30 rfl) rfl rfl ?_
  refine T_newO 120 (dk dtk_X11_init 31 rfl) kn_X11_41 kk_120 (fr12 120 (by decide)).1 (Or.inl (by decide)) (fr12 120 (by decide)).2 (gok_i (av_c (gkr (li12 0 (by decide))) av_n) (as_c (gkr (li12 0 (by decide))) as_n)) ?_
  obtain ⟨f13, e13⟩ : ∃ z, z = fnew f12 120 ks_X5.length := ⟨_, rfl⟩
  rw [← e13]
  have fr13 : ∀ c ∈ ([140, 125, 131, 132, 133, 160, 162, 166, 167, 168, 169, 170, 171, 172, 173, 174, 175, 176, 177, 178, 7] : List Nat), c ∉ f13.2.1 ∧ NR f13 c := by rw [e13]; exact ops_fr (l := [oN_ 120 15]) fr12 (by decide +kernel)
  have li13 : ∀ c ∈ ([0, 20, 40, 60, 80, 100, 120] : List Nat), c ∈ f13.2.1 := by rw [e13]; exact ops_li (l := [oN_ 120 15]) li12 (by decide +kernel)
  have r13_0_0 : f13.1 0 0 = some 20 := by rw [e13]; exact r12_0_0
  have r13_0_1 : f13.1 0 1 = some 40 := by rw [e13]; exact r12_0_1
  have r13_60_0 : f13.1 60 0 = some 80 := by rw [e13]; exact r12_60_0
  have r13_0_2 : f13.1 0 2 = some 60 := by rw [e13]; exact r12_0_2
  refine T_dup (dk dtk_X11_init 32 rfl) rfl ?_
  refine T_aload_n 0 (dk dtk_X11_init 33 rfl) rfl rfl ?_
  refine T_getR 0 2 60 (dk dtk_X11_init 34 rfl) kfl_X11_28 kk_0 (li13 0 (by decide)) (by decide) rfl r13_0_2 ?_
  refine T_callI [vr 60] [vr 120, vr 0] (d + 2) rfl (dk dtk_X11_init 35 rfl) kci_X11_43 rfl (by omega) (Nat.le_of_ble_eq_true rfl) (Nat.le_of_ble_eq_true rfl) (gok_i (av_c (gkr (li13 0 (by decide))) av_n) (as_c (gkr (li13 120 (by decide))) (as_c (gkr (li13 0 (by decide))) as_n))) (kc_120 (d := d + 0) (li13 120 (by decide)) (li13 60 (by decide)) (fun c hc => fr13 c ((by decide +kernel : ∀ c ∈ news_120, c ∈ ([140, 125, 131, 132, 133, 160, 162, 166, 167, 168, 169, 170, 171, 172, 173, 174, 175, 176, 177, 178, 7] : List Nat)) c hc)) r13_60_0 ⟨rfl, ?_⟩)
  obtain ⟨f14, e14⟩ : ∃ z, z = fops f13 ops_120 := ⟨_, rfl⟩
  rw [← e14]
  have fr14 : ∀ c ∈ ([160, 162, 166, 167, 168, 169, 170, 171, 172, 173, 174, 175, 176, 177, 178, 7] : List Nat), c ∉ f14.2.1 ∧ NR f14 c := by rw [e14]; exact ops_fr (l := ops_120) fr13 (by decide +kernel)
  have li14 : ∀ c ∈ ([0, 20, 40, 60, 80, 100, 120] : List Nat), c ∈ f14.2.1 := by rw [e14]; exact ops_li (l := ops_120) li13 (by decide +kernel)
  have r14_0_0 : f14.1 0 0 = some 20 := by rw [e14]; exact r13_0_0
  have r14_0_1 : f14.1 0 1 = some 40 := by rw [e14]; exact r13_0_1
  have r14_60_0 : f14.1 60 0 = some 80 := by rw [e14]; exact r13_60_0
  have r14_0_2 : f14.1 0 2 = some 60 := by rw [e14]; exact r13_0_2
  refine T_putRF 0 4 120 (dk dtk_X11_init 36 rfl) rfl kfl_X11_46 kk_0 (li14 0 (by decide)) (by decide) rfl (fun _ => ⟨rfl, rfl⟩) (fun r h => by cases h; rfl) ?_
  obtain ⟨f15, e15⟩ : ∃ z, z = frf f14 0 4 (some 120) := ⟨_, rfl⟩
  rw [← e15]
  have fr15 : ∀ c ∈ ([160, 162, 166, 167, 168, 169, 170, 171, 172, 173, 174, 175, 176, 177, 178, 7] : List Nat), c ∉ f15.2.1 ∧ NR f15 c := by rw [e15]; exact ops_fr (l := [oR_ 0 4 120]) fr14 (by decide +kernel)
  have li15 : ∀ c ∈ ([0, 20, 40, 60, 80, 100, 120] : List Nat), c ∈ f15.2.1 := by rw [e15]; exact ops_li (l := [oR_ 0 4 120]) li14 (by decide +kernel)
  have r15_0_0 : f15.1 0 0 = some 20 := by rw [e15]; exact r14_0_0
  have r15_0_1 : f15.1 0 1 = some 40 := by rw [e15]; exact r14_0_1
  have r15_60_0 : f15.1 60 0 = some 80 := by rw [e15]; exact r14_60_0
  have r15_0_2 : f15.1 0 2 = some 60 := by rw [e15]; exact r14_0_2
  refine T_aload_n 0 (dk dtk_X11_init 37 rfl) rfl rfl ?_
  refine T_newO 160 (dk dtk_X11_init 38 rfl) kn_X11_50 kk_160 (fr15 160 (by decide)).1 (Or.inl (by decide)) (fr15 160 (by decide)).2 (gok_i (av_c (gkr (li15 0 (by decide))) av_n) (as_c (gkr (li15 0 (by decide))) as_n)) ?_
  obtain ⟨f16, e16⟩ : ∃ z, z = fnew f15 160 ks_X4.length := ⟨_, rfl⟩
  rw [← e16]
  have fr16 : ∀ c ∈ ([162, 166, 167, 168, 169, 170, 171, 172, 173, 174, 175, 176, 177, 178, 7] : List Nat), c ∉ f16.2.1 ∧ NR f16 c := by rw [e16]; exact ops_fr (l := [oN_ 160 18]) fr15 (by decide +kernel)
  have li16 : ∀ c ∈ ([0, 20, 40, 60, 80, 100, 120, 160] : List Nat), c ∈ f16.2.1 := by rw [e16]; exact ops_li (l := [oN_ 160 18]) li15 (by decide +kernel)
  have r16_0_0 : f16.1 0 0 = some 20 := by rw [e16]; exact r15_0_0
  have r16_0_1 : f16.1 0 1 = some 40 := by rw [e16]; exact r15_0_1
  have r16_60_0 : f16.1 60 0 = some 80 := by rw [e16]; exact r15_60_0
  have r16_0_2 : f16.1 0 2 = some 60 := by rw [e16]; exact r15_0_2
  refine T_dup (dk dtk_X11_init 39 rfl) rfl ?_
  refine T_aload_n 0 (dk dtk_X11_init 40 rfl) rfl rfl ?_
  refine T_getR 0 2 60 (dk dtk_X11_init 41 rfl) kfl_X11_28 kk_0 (li16 0 (by decide)) (by decide) rfl r16_0_2 ?_
  refine T_callI [vr 60] [vr 160, vr 0] (d + 2) rfl (dk dtk_X11_init 42 rfl) kci_X11_52 rfl (by omega) (Nat.le_of_ble_eq_true rfl) (Nat.le_of_ble_eq_true rfl) (gok_i (av_c (gkr (li16 0 (by decide))) av_n) (as_c (gkr (li16 160 (by decide))) (as_c (gkr (li16 0 (by decide))) as_n))) (kc_160 (d := d + 1) (li16 160 (by decide)) (li16 60 (by decide)) (fun c hc => fr16 c ((by decide +kernel : ∀ c ∈ news_160, c ∈ ([162, 166, 167, 168, 169, 170, 171, 172, 173, 174, 175, 176, 177, 178, 7] : List Nat)) c hc))  ⟨rfl, ?_⟩)
  obtain ⟨f17, e17⟩ : ∃ z, z = fops f16 ops_160 := ⟨_, rfl⟩
  rw [← e17]
  have fr17 : ∀ c ∈ ([7] : List Nat), c ∉ f17.2.1 ∧ NR f17 c := by rw [e17]; exact ops_fr (l := ops_160) fr16 (by decide +kernel)
  have li17 : ∀ c ∈ ([0, 20, 40, 60, 80, 100, 120, 160] : List Nat), c ∈ f17.2.1 := by rw [e17]; exact ops_li (l := ops_160) li16 (by decide +kernel)
  have r17_0_0 : f17.1 0 0 = some 20 := by rw [e17]; exact r16_0_0
  have r17_0_1 : f17.1 0 1 = some 40 := by rw [e17]; exact r16_0_1
  have r17_60_0 : f17.1 60 0 = some 80 := by rw [e17]; exact r16_60_0
  have r17_0_2 : f17.1 0 2 = some 60 := by rw [e17]; exact r16_0_2
  refine T_putRF 0 5 160 (dk dtk_X11_init 43 rfl) rfl kfl_X11_53 kk_0 (li17 0 (by decide)) (by decide) rfl (fun _ => ⟨rfl, rfl⟩) (fun r h => by cases h; rfl) ?_
  obtain ⟨f18, e18⟩ : ∃ z, z = frf f17 0 5 (some 160) := ⟨_, rfl⟩
  rw [← e18]
  have fr18 : ∀ c ∈ ([7] : List Nat), c ∉ f18.2.1 ∧ NR f18 c := by rw [e18]; exact ops_fr (l := [oR_ 0 5 160]) fr17 (by decide +kernel)
  have li18 : ∀ c ∈ ([0, 20, 40, 60, 80, 100, 120, 160] : List Nat), c ∈ f18.2.1 := by rw [e18]; exact ops_li (l := [oR_ 0 5 160]) li17 (by decide +kernel)
  have r18_0_0 : f18.1 0 0 = some 20 := by rw [e18]; exact r17_0_0
  have r18_0_1 : f18.1 0 1 = some 40 := by rw [e18]; exact r17_0_1
  have r18_60_0 : f18.1 60 0 = some 80 := by rw [e18]; exact r17_60_0
  have r18_0_2 : f18.1 0 2 = some 60 := by rw [e18]; exact r17_0_2
  refine T_aload_n 0 (dk dtk_X11_init 44 rfl) rfl rfl ?_
  refine T_iconst (v := 2) (dk dtk_X11_init 45 rfl) (by decide +kernel) ?_
  refine T_newT 7 (dk dtk_X11_init 46 rfl) (W0_in (tp_3 (List.mem_of_getElem? (i := 50) (by decide +kernel))) rfl) kk_7 (by decide) (by decide) (by decide) (fr18 7 (by decide)).1 (Or.inl (by decide)) (fr18 7 (by decide)).2 (gok_i (av_c (gkr (li18 0 (by decide))) av_n) (as_c (gkr (li18 0 (by decide))) as_n)) ?_
  obtain ⟨f19, e19⟩ : ∃ z, z = fnew f18 7 2 := ⟨_, rfl⟩
  rw [← e19]
  have fr19 : ∀ c ∈ ([] : List Nat), c ∉ f19.2.1 ∧ NR f19 c := by rw [e19]; exact ops_fr (l := [oN_ 7 2]) fr18 (by decide +kernel)
  have li19 : ∀ c ∈ ([0, 20, 40, 60, 80, 100, 120, 160, 7] : List Nat), c ∈ f19.2.1 := by rw [e19]; exact ops_li (l := [oN_ 7 2]) li18 (by decide +kernel)
  have r19_0_0 : f19.1 0 0 = some 20 := by rw [e19]; exact r18_0_0
  have r19_0_1 : f19.1 0 1 = some 40 := by rw [e19]; exact r18_0_1
  have r19_60_0 : f19.1 60 0 = some 80 := by rw [e19]; exact r18_60_0
  have r19_0_2 : f19.1 0 2 = some 60 := by rw [e19]; exact r18_0_2
  refine T_putRF 0 6 7 (dk dtk_X11_init 47 rfl) rfl kfl_X11_59 kk_0 (li19 0 (by decide)) (by decide) rfl (fun _ => ⟨rfl, rfl⟩) (fun r h => by cases h; rfl) ?_
  obtain ⟨f20, e20⟩ : ∃ z, z = frf f19 0 6 (some 7) := ⟨_, rfl⟩
  rw [← e20]
  have fr20 : ∀ c ∈ ([] : List Nat), c ∉ f20.2.1 ∧ NR f20 c := by rw [e20]; exact ops_fr (l := [oR_ 0 6 7]) fr19 (by decide +kernel)
  have li20 : ∀ c ∈ ([0, 20, 40, 60, 80, 100, 120, 160, 7] : List Nat), c ∈ f20.2.1 := by rw [e20]; exact ops_li (l := [oR_ 0 6 7]) li19 (by decide +kernel)
  have r20_0_0 : f20.1 0 0 = some 20 := by rw [e20]; exact r19_0_0
  have r20_0_1 : f20.1 0 1 = some 40 := by rw [e20]; exact r19_0_1
  have r20_60_0 : f20.1 60 0 = some 80 := by rw [e20]; exact r19_60_0
  have r20_0_2 : f20.1 0 2 = some 60 := by rw [e20]; exact r19_0_2
  refine T_aload_n 0 (dk dtk_X11_init 48 rfl) rfl rfl ?_
  refine T_iconst (v := (-1)) (dk dtk_X11_init 49 rfl) (by decide +kernel) ?_
  refine T_putI 0 11 (dk dtk_X11_init 50 rfl) kfl_X11_63 kk_0 (li20 0 (by decide)) (by decide) rfl ⟨rfl, rfl⟩ ?_
  refine T_aload_n 0 (dk dtk_X11_init 51 rfl) rfl rfl ?_
  refine T_iconst (v := (-1)) (dk dtk_X11_init 52 rfl) (by decide +kernel) ?_
  refine T_putI 0 12 (dk dtk_X11_init 53 rfl) kfl_X11_67 kk_0 (li20 0 (by decide)) (by decide) rfl ⟨rfl, rfl⟩ ?_
  have e9 : f20 = fops f ops_0 := by rw [e20, e19, e18, e17, e16, e15, e14, e13, e12, e11, e10, e9, e8, e7, e6, e5, e4, e3, e2, e1, e0]; rfl
  rw [e9]
  exact T_vret (dk dtk_X11_init 54 rfl) rfl h
end
section
/-! the class's shape while it runs: what was made, no more; rows that make a history, an explorer, a trying, rows of states and outcomes -/
def kmd (q : kP) (c : Nat) : Prop := c ∈ kl0 ∨ (q.hi = true ∧ c ∈ klH) ∨ (q.ex = true ∧ c ∈ klE) ∨ (q.t0 = true ∧ c ∈ klA) ∨ (q.t1 = true ∧ c ∈ klB) ∨ (∃ k, k < q.kn ∧ c = 1000 + k) ∨ (∃ k, k < q.o0 ∧ c = 4000 + k) ∨ ∃ k, k < q.o1 ∧ c = 7000 + k
def kU (q : kP) : Prop := kV q ∧ (∀ c ∈ q.L, kmd q c) ∧ ((q.ex = false → q.kn = 0 ∧ q.et = none) ∧ (q.t0 = false → q.o0 = 0) ∧ (q.t1 = false → q.o1 = 0)) ∧ (∀ o, q.et = some o → kiT q o) ∧ (q.kn ≤ 3000 ∧ q.o0 ≤ 3000 ∧ q.o1 ≤ 3000)
theorem kmd_L {q : kP} {c : Nat} (hu : kV q) (h : kmd q c) : c ∈ q.L := by
  rcases h with h | ⟨e, h⟩ | ⟨e, h⟩ | ⟨e, h⟩ | ⟨e, h⟩ | ⟨k, hk, rfl⟩ | ⟨k, hk, rfl⟩ | ⟨k, hk, rfl⟩
  · exact hu.1 c h
  · exact hu.2.1 e c h
  · exact hu.2.2.1 e c h
  · exact hu.2.2.2.1 e c h
  · exact hu.2.2.2.2.1 e c h
  · exact hu.2.2.2.2.2.1 k hk
  · exact hu.2.2.2.2.2.2.1 k hk
  · exact hu.2.2.2.2.2.2.2 k hk
def tOk (A B : List Nat) : Bool := A.all (fun c' => (kRa.getD c' []).all (fun r => match r with
  | none => true
  | some c => B.contains c))
theorem tOk_u {A B : List Nat} (h : tOk A B = true) {c' j c : Nat} (hc : c' ∈ A) (hj : (kRa.getD c' []).getD j none = some c) : c ∈ B := by
  have h1 := List.all_eq_true.mp h c' hc
  have hm : some c ∈ kRa.getD c' [] := by
    rw [List.getD_eq_getElem?_getD] at hj
    cases hr : (kRa.getD c' [])[j]? with
    | none => rw [hr] at hj; cases hj
    | some r => rw [hr] at hj; cases hj; exact List.mem_of_getElem? hr
  have h2 := List.all_eq_true.mp h1 _ hm
  exact List.contains_iff_mem.mp h2
theorem tOk_0 : tOk kl0 kl0 = true := by decide +kernel
theorem tOk_H : tOk klH (klH ++ kl0) = true := by decide +kernel
theorem tOk_E : tOk klE (klE ++ kl0) = true := by decide +kernel
theorem tOk_A : tOk klA (klA ++ kl0) = true := by decide +kernel
theorem tOk_B : tOk klB (klB ++ kl0) = true := by decide +kernel
theorem kRa_len : kRa.length = 300 := by decide +kernel
theorem kRa_far {c j : Nat} (h : 300 ≤ c) : (kRa.getD c []).getD j none = none := by
  have : kRa[c]? = none := List.getElem?_eq_none (by rw [kRa_len]; exact h)
  rw [List.getD_eq_getElem?_getD (l := kRa), this]; rfl
/-- what live cells hold is live -/
theorem kU_cl {q : kP} (hu : kU q) {c' j c : Nat} (hc : c' ∈ q.L) (h : kR q c' j = some c) : c ∈ q.L := by
  refine kmd_L hu.1 ?_
  have hm := hu.2.1 c' hc
  unfold kR at h
  by_cases h1 : c' = 0 ∧ j = 7
  · rw [if_pos h1] at h
    by_cases e : q.ex = true
    · rw [if_pos e] at h; cases h; exact Or.inr (Or.inr (Or.inl ⟨e, by decide⟩))
    · rw [if_neg e] at h; cases h
  rw [if_neg h1] at h
  by_cases h2 : c' = 0 ∧ j = 8
  · rw [if_pos h2] at h
    by_cases e : q.hi = true
    · rw [if_pos e] at h; cases h; exact Or.inr (Or.inl ⟨e, by decide⟩)
    · rw [if_neg e] at h; cases h
  rw [if_neg h2] at h
  by_cases h3 : c' = 7
  · rw [if_pos h3] at h
    by_cases e0 : j = 0
    · rw [if_pos e0] at h
      by_cases e : q.t0 = true
      · rw [if_pos e] at h; cases h; exact Or.inr (Or.inr (Or.inr (Or.inl ⟨e, by decide⟩)))
      · rw [if_neg e] at h; cases h
    rw [if_neg e0] at h
    by_cases e1 : j = 1
    · rw [if_pos e1] at h
      by_cases e : q.t1 = true
      · rw [if_pos e] at h; cases h; exact Or.inr (Or.inr (Or.inr (Or.inr (Or.inl ⟨e, by decide⟩))))
      · rw [if_neg e] at h; cases h
    rw [if_neg e1] at h; cases h
  rw [if_neg h3] at h
  by_cases h4 : c' = 200 ∧ j = 7
  · rw [if_pos h4] at h
    rcases hu.2.2.2.1 c h with ⟨rfl, e⟩ | ⟨rfl, e⟩
    · exact Or.inr (Or.inr (Or.inr (Or.inl ⟨e, by decide⟩)))
    · exact Or.inr (Or.inr (Or.inr (Or.inr (Or.inl ⟨e, by decide⟩))))
  rw [if_neg h4] at h
  by_cases h5 : c' = 203
  · rw [if_pos h5] at h
    by_cases e : j < q.kn
    · rw [if_pos e] at h; cases h; exact Or.inr (Or.inr (Or.inr (Or.inr (Or.inr (Or.inl ⟨j, e, rfl⟩)))))
    · rw [if_neg e] at h; cases h
  rw [if_neg h5] at h
  by_cases h6 : c' = 273
  · rw [if_pos h6] at h
    by_cases e : j < q.o0
    · rw [if_pos e] at h; cases h; exact Or.inr (Or.inr (Or.inr (Or.inr (Or.inr (Or.inr (Or.inl ⟨j, e, rfl⟩))))))
    · rw [if_neg e] at h; cases h
  rw [if_neg h6] at h
  by_cases h7 : c' = 293
  · rw [if_pos h7] at h
    by_cases e : j < q.o1
    · rw [if_pos e] at h; cases h; exact Or.inr (Or.inr (Or.inr (Or.inr (Or.inr (Or.inr (Or.inr ⟨j, e, rfl⟩))))))
    · rw [if_neg e] at h; cases h
  rw [if_neg h7] at h
  by_cases h8 : c' = 190
  · rw [if_pos h8] at h
    by_cases e : j < 13
    · rw [if_pos e] at h
      cases h
      subst h8
      have hi : q.hi = true := by
        rcases hm with g | ⟨g, -⟩ | ⟨-, g⟩ | ⟨-, g⟩ | ⟨-, g⟩ | ⟨k, -, g⟩ | ⟨k, -, g⟩ | ⟨k, -, g⟩
        · exact absurd g (by decide)
        · exact g
        · exact absurd g (by decide)
        · exact absurd g (by decide)
        · exact absurd g (by decide)
        · omega
        · omega
        · omega
      exact Or.inr (Or.inl ⟨hi, (by decide : ∀ k, k < 13 → 300 + k ∈ klH) j e⟩)
    · rw [if_neg e] at h; cases h
  rw [if_neg h8] at h
  have spl : ∀ {B : List Nat}, c ∈ B ++ kl0 → c ∈ B ∨ c ∈ kl0 := fun hh => List.mem_append.mp hh
  rcases hm with g | ⟨e, g⟩ | ⟨e, g⟩ | ⟨e, g⟩ | ⟨e, g⟩ | ⟨k, -, g⟩ | ⟨k, -, g⟩ | ⟨k, -, g⟩
  · exact Or.inl (tOk_u tOk_0 g h)
  · rcases spl (tOk_u tOk_H g h) with z | z
    · exact Or.inr (Or.inl ⟨e, z⟩)
    · exact Or.inl z
  · rcases spl (tOk_u tOk_E g h) with z | z
    · exact Or.inr (Or.inr (Or.inl ⟨e, z⟩))
    · exact Or.inl z
  · rcases spl (tOk_u tOk_A g h) with z | z
    · exact Or.inr (Or.inr (Or.inr (Or.inl ⟨e, z⟩)))
    · exact Or.inl z
  · rcases spl (tOk_u tOk_B g h) with z | z
    · exact Or.inr (Or.inr (Or.inr (Or.inr (Or.inl ⟨e, z⟩))))
    · exact Or.inl z
  · rw [kRa_far (by omega)] at h; cases h
  · rw [kRa_far (by omega)] at h; cases h
  · rw [kRa_far (by omega)] at h; cases h
theorem kU_NR {q : kP} (hu : kU q) {c : Nat} (hc : c ∉ q.L) : NR (kf q) c := fun c' h' j h => hc (kU_cl hu h' h)
theorem kU_fr {q : kP} (hu : kU q) {c : Nat} (h : ¬ kmd q c) : c ∉ (kf q).2.1 ∧ NR (kf q) c := ⟨fun hc => h (hu.2.1 c hc), kU_NR hu (fun hc => h (hu.2.1 c hc))⟩
/-- how much was made -/
def wC (q : kP) : Nat := q.kn + q.o0 + q.o1 + (cond q.hi 30 0) + (cond q.ex 30 0) + (cond q.t0 30 0) + cond q.t1 30 0
def wS (q : kP) : Nat := 228 * q.kn + 24 * q.o0 + 24 * q.o1 + (cond q.hi 400 0) + (cond q.ex 20000 0) + (cond q.t0 20000 0) + cond q.t1 20000 0
def kle (q q' : kP) : Prop := (∀ c ∈ q.L, c ∈ q'.L) ∧ ((q.hi = true → q'.hi = true) ∧ (q.ex = true → q'.ex = true) ∧ (q.t0 = true → q'.t0 = true) ∧ (q.t1 = true → q'.t1 = true)) ∧ (q.kn ≤ q'.kn ∧ q.o0 ≤ q'.o0 ∧ q.o1 ≤ q'.o1) ∧ q'.ce + wC q ≤ q.ce + wC q' ∧ q'.sl + wS q ≤ q.sl + wS q'
theorem kle_rf (q : kP) : kle q q := ⟨fun _ h => h, ⟨fun h => h, fun h => h, fun h => h, fun h => h⟩, ⟨Nat.le_refl _, Nat.le_refl _, Nat.le_refl _⟩, Nat.le_refl _, Nat.le_refl _⟩
theorem kle_tr {a b c : kP} (h : kle a b) (g : kle b c) : kle a c := by
  obtain ⟨h1, ⟨h2, h3, h4, h5⟩, ⟨h6, h7, h8⟩, h9, h10⟩ := h
  obtain ⟨g1, ⟨g2, g3, g4, g5⟩, ⟨g6, g7, g8⟩, g9, g10⟩ := g
  exact ⟨fun c hc => g1 c (h1 c hc), ⟨fun z => g2 (h2 z), fun z => g3 (h3 z), fun z => g4 (h4 z), fun z => g5 (h5 z)⟩, ⟨by omega, by omega, by omega⟩, by omega, by omega⟩
theorem kle_T {q q' : kP} {o : Nat} (h : kle q q') (ho : kiT q o) : kiT q' o := by
  rcases ho with ⟨e, g⟩ | ⟨e, g⟩
  · exact Or.inl ⟨e, h.2.1.2.2.1 g⟩
  · exact Or.inr ⟨e, h.2.1.2.2.2 g⟩
def kHi (q : kP) : kP := kmk true q.ex q.t0 q.t1 q.et q.kn q.o0 q.o1 (q.L ++ 180 :: news_180) (q.ce + 22) (q.sl + 286)
def kEx (q : kP) : kP := kmk q.hi true q.t0 q.t1 q.et q.kn q.o0 q.o1 (q.L ++ 200 :: news_200) (q.ce + 12) (q.sl + 14716)
def kT0 (q : kP) : kP := kmk q.hi q.ex true q.t1 q.et q.kn q.o0 q.o1 (q.L ++ 260 :: news_260) (q.ce + 9) (q.sl + 15055)
def kT1 (q : kP) : kP := kmk q.hi q.ex q.t0 true q.et q.kn q.o0 q.o1 (q.L ++ 280 :: news_280) (q.ce + 9) (q.sl + 15055)
def kKn (q : kP) : kP := kmk q.hi q.ex q.t0 q.t1 q.et (q.kn + 1) q.o0 q.o1 (q.L ++ [1000 + q.kn]) (q.ce + 1) (q.sl + 228)
def kO0 (q : kP) : kP := kmk q.hi q.ex q.t0 q.t1 q.et q.kn (q.o0 + 1) q.o1 (q.L ++ [4000 + q.o0]) (q.ce + 1) (q.sl + 24)
def kO1 (q : kP) : kP := kmk q.hi q.ex q.t0 q.t1 q.et q.kn q.o0 (q.o1 + 1) (q.L ++ [7000 + q.o1]) (q.ce + 1) (q.sl + 24)
def kEt (q : kP) (o : Nat) : kP := kmk q.hi q.ex q.t0 q.t1 (some o) q.kn q.o0 q.o1 q.L q.ce q.sl
section GRF
variable {E : gE} {d : Nat} {y : gy} {pc : Nat} {lv : List (Nat × gv)} {st : List gv} {x : gd} {f : gf} {Q : gr → gd → gf → Prop}
/-- a shape that looks alike where it is looked at -/
theorem T_refs {f2 : gf} (h2 : f2.2 = f.2) (hr : ∀ c ∈ f.2.1, ∀ k, (∀ ci sl, E.2.2.2.1 c = .inl (ci, sl) → k < sl.length ∧ sl.getD k false = true) → (∀ ty n, E.2.2.2.1 c = .inr (ty, n) → ty.isReference = true) → f2.1 c k = f.1 c k) (k : T E d y pc lv st x f2 Q) : T E d y pc lv st x f Q :=
  T_stepR h2 (fun p e R s m args below meth c A H locs cells slots ls ad Q9 C hP hS hl kk => by
    have e : gwl E x f2 ad = gwl E x f ad := by
      unfold gwl
      rw [show f2.2.1 = f.2.1 by rw [h2]]
      apply List.map_congr_left
      intro c hc
      have hg : gce E x f2 ad c = gce E x f ad c := by
        cases hk : E.2.2.2.1 c with
        | inl o =>
          obtain ⟨ci, sl⟩ := o
          rw [gce_obj hk, gce_obj hk]
          congr 2
          unfold gfl
          apply List.map_congr_left
          intro j hj
          by_cases hs : sl.getD j false = true
          · rw [if_pos hs, if_pos hs, hr c hc j (fun ci' sl' h' => by rw [hk] at h'; cases h'; exact ⟨List.mem_range.mp hj, hs⟩) (fun ty n h' => by rw [hk] at h'; cases h')]
          · rw [if_neg hs, if_neg hs]
        | inr a =>
          obtain ⟨ty, n⟩ := a
          rw [gce_arr hk, gce_arr hk]
          congr 3
          have hz : ty.isReference = true → ∀ j, f2.1 c j = f.1 c j := fun ht j => hr c hc j (fun ci' sl' h' => by rw [hk] at h'; cases h') (fun ty' n' h' => by rw [hk] at h'; cases h'; exact ht)
          unfold gar
          cases ty <;> first | rfl | (simp only [hz rfl])
      rw [hg]
    exact kk H locs ⟨⟨by rw [e]; exact hP.1.1, by rw [e]; exact hP.1.2⟩, hP.2⟩ hS) k
end GRF
theorem kHi_2 {q : kP} {i : Nat} {v : Option Nat} : (kf (kHi q)).2 = (frf (fops (fnew (kf q) 180 13) ops_180) 0 i v).2 := by
  show ((kHi q).L, (kHi q).ce, (kHi q).sl) = (fops (fnew (kf q) 180 13) ops_180).2
  refine Prod.ext ?_ ?_
  · rw [ops_L]
    show q.L ++ 180 :: news_180 = (q.L ++ [180]) ++ ops_180.flatMap onew
    rw [show ops_180.flatMap onew = news_180 by decide +kernel, List.append_assoc]; rfl
  · rw [ops_ct, show (ops_180.map fun o => (ocel o).1).sum = 21 by decide +kernel, show (ops_180.map fun o => (ocel o).2).sum = 273 by decide +kernel]
    exact Prod.ext (by show q.ce + 22 = q.ce + 1 + 21; omega) (by show q.sl + 286 = q.sl + 13 + 273; omega)
theorem kHi_r {q : kP} (h0 : q.hi = q.hi) (het : q.et = none ∨ True) {c k : Nat} (g1 : ∀ ci sl, kK c = .inl (ci, sl) → k < sl.length ∧ sl.getD k false = true) (g2 : ∀ ty n, kK c = .inr (ty, n) → ty.isReference = true) : (kf (kHi q)).1 c k = (frf (fops (fnew (kf q) 180 13) ops_180) 0 8 (some 180)).1 c k := by
  by_cases hm : c ∈ 180 :: news_180
  · simp only [news_180, List.mem_cons, List.not_mem_nil, or_false] at hm
    rcases hm with rfl | rfl | rfl | rfl | rfl | rfl | rfl | rfl | rfl | rfl | rfl | rfl | rfl | rfl | rfl | rfl | rfl | rfl | rfl | rfl | rfl | rfl
    · have hk : k < 13 := (g1 _ _ kk_180).1
      have hk2 : k = 0 ∨ k = 1 ∨ k = 2 ∨ k = 3 ∨ k = 4 ∨ k = 5 ∨ k = 6 ∨ k = 7 ∨ k = 8 ∨ k = 9 ∨ k = 10 ∨ k = 11 ∨ k = 12 := by omega
      rcases hk2 with rfl | rfl | rfl | rfl | rfl | rfl | rfl | rfl | rfl | rfl | rfl | rfl | rfl <;> first | rfl
    · exact absurd (g2 _ _ kk_181) (by decide)
    · exact absurd (g2 _ _ kk_182) (by decide)
    · exact absurd (g2 _ _ kk_183) (by decide)
    · exact absurd (g2 _ _ kk_184) (by decide)
    · exact absurd (g2 _ _ kk_185) (by decide)
    · exact absurd (g2 _ _ kk_186) (by decide)
    · exact absurd (g2 _ _ kk_189) (by decide)
    · show (if k < 13 then some (300 + k) else none) = (if 190 = 190 ∧ k < 13 then some (300 + k) else none)
      by_cases h13 : k < 13
      · rw [if_pos h13, if_pos ⟨rfl, h13⟩]
      · rw [if_neg h13, if_neg (fun z => h13 z.2)]
    · exact absurd (g2 _ _ (rfl : kK 300 = _)) (by decide)
    · exact absurd (g2 _ _ (rfl : kK 301 = _)) (by decide)
    · exact absurd (g2 _ _ (rfl : kK 302 = _)) (by decide)
    · exact absurd (g2 _ _ (rfl : kK 303 = _)) (by decide)
    · exact absurd (g2 _ _ (rfl : kK 304 = _)) (by decide)
    · exact absurd (g2 _ _ (rfl : kK 305 = _)) (by decide)
    · exact absurd (g2 _ _ (rfl : kK 306 = _)) (by decide)
    · exact absurd (g2 _ _ (rfl : kK 307 = _)) (by decide)
    · exact absurd (g2 _ _ (rfl : kK 308 = _)) (by decide)
    · exact absurd (g2 _ _ (rfl : kK 309 = _)) (by decide)
    · exact absurd (g2 _ _ (rfl : kK 310 = _)) (by decide)
    · exact absurd (g2 _ _ (rfl : kK 311 = _)) (by decide)
    · exact absurd (g2 _ _ (rfl : kK 312 = _)) (by decide)
  · have h1 : (fops (fnew (kf q) 180 13) ops_180).1 c k = kR q c k := by
      rw [ops_same (fun z => hm ((by decide +kernel : ∀ c ∈ ops_180.flatMap otch, c ∈ 180 :: news_180) c z))]
      exact if_neg (fun e => hm (by rw [e]; exact List.mem_cons_self))
    show kR (kHi q) c k = (if c = 0 ∧ k = 8 then some 180 else (fops (fnew (kf q) 180 13) ops_180).1 c k)
    rw [h1]
    unfold kR
    by_cases e : c = 0 ∧ k = 8
    · rw [if_pos e, if_neg (by omega), if_pos e]; rfl
    · rw [if_neg e, if_neg e, if_neg e]; rfl
theorem kEx_2 {q : kP} {i : Nat} {v : Option Nat} : (kf (kEx q)).2 = (frf (fops (fnew (kf q) 200 10) ops_200) 0 i v).2 := by
  show ((kEx q).L, (kEx q).ce, (kEx q).sl) = (fops (fnew (kf q) 200 10) ops_200).2
  refine Prod.ext ?_ ?_
  · rw [ops_L]
    show q.L ++ 200 :: news_200 = (q.L ++ [200]) ++ ops_200.flatMap onew
    rw [show ops_200.flatMap onew = news_200 by decide +kernel, List.append_assoc]; rfl
  · rw [ops_ct, show (ops_200.map fun o => (ocel o).1).sum = 11 by decide +kernel, show (ops_200.map fun o => (ocel o).2).sum = 14706 by decide +kernel]
    exact Prod.ext (by show q.ce + 12 = q.ce + 1 + 11; omega) (by show q.sl + 14716 = q.sl + 10 + 14706; omega)
theorem kEx_r {q : kP} (h0 : q.kn = 0) (het : q.et = none) {c k : Nat} (g1 : ∀ ci sl, kK c = .inl (ci, sl) → k < sl.length ∧ sl.getD k false = true) (g2 : ∀ ty n, kK c = .inr (ty, n) → ty.isReference = true) : (kf (kEx q)).1 c k = (frf (fops (fnew (kf q) 200 10) ops_200) 0 7 (some 200)).1 c k := by
  by_cases hm : c ∈ 200 :: news_200
  · simp only [news_200, List.mem_cons, List.not_mem_nil, or_false] at hm
    rcases hm with rfl | rfl | rfl | rfl | rfl | rfl | rfl | rfl | rfl | rfl | rfl | rfl
    · have hk : k < 10 := (g1 _ _ kk_200).1
      have hk2 : k = 0 ∨ k = 1 ∨ k = 2 ∨ k = 3 ∨ k = 4 ∨ k = 5 ∨ k = 6 ∨ k = 7 ∨ k = 8 ∨ k = 9 := by omega
      rcases hk2 with rfl | rfl | rfl | rfl | rfl | rfl | rfl | rfl | rfl | rfl <;> first | rfl | exact het
    · have hk : k < 15 := (g1 _ _ kk_220).1
      have hk2 : k = 0 ∨ k = 1 ∨ k = 2 ∨ k = 3 ∨ k = 4 ∨ k = 5 ∨ k = 6 ∨ k = 7 ∨ k = 8 ∨ k = 9 ∨ k = 10 ∨ k = 11 ∨ k = 12 ∨ k = 13 ∨ k = 14 := by omega
      rcases hk2 with rfl | rfl | rfl | rfl | rfl | rfl | rfl | rfl | rfl | rfl | rfl | rfl | rfl | rfl | rfl <;> first | rfl
    · have hk : k < 7 := (g1 _ _ kk_240).1
      have hk2 : k = 0 ∨ k = 1 ∨ k = 2 ∨ k = 3 ∨ k = 4 ∨ k = 5 ∨ k = 6 := by omega
      rcases hk2 with rfl | rfl | rfl | rfl | rfl | rfl | rfl <;> first | rfl
    · exact absurd (g2 _ _ kk_225) (by decide)
    · exact absurd (g2 _ _ kk_231) (by decide)
    · exact absurd (g2 _ _ kk_232) (by decide)
    · exact absurd (g2 _ _ kk_233) (by decide)
    · show (if k < q.kn then some _ else none) = none
      rw [h0, if_neg (Nat.not_lt_zero _)]
    · exact absurd (g2 _ _ kk_204) (by decide)
    · exact absurd (g2 _ _ kk_205) (by decide)
    · exact absurd (g2 _ _ kk_209) (by decide)
    · exact absurd (g2 _ _ kk_210) (by decide)
  · have h1 : (fops (fnew (kf q) 200 10) ops_200).1 c k = kR q c k := by
      rw [ops_same (fun z => hm ((by decide +kernel : ∀ c ∈ ops_200.flatMap otch, c ∈ 200 :: news_200) c z))]
      exact if_neg (fun e => hm (by rw [e]; exact List.mem_cons_self))
    show kR (kEx q) c k = (if c = 0 ∧ k = 7 then some 200 else (fops (fnew (kf q) 200 10) ops_200).1 c k)
    rw [h1]
    unfold kR
    by_cases e : c = 0 ∧ k = 7
    · rw [if_pos e, if_pos e]; rfl
    · rw [if_neg e, if_neg e, if_neg e]; rfl
theorem kT0_2 {q : kP} {i : Nat} {v : Option Nat} : (kf (kT0 q)).2 = (frf (fops (fnew (kf q) 260 14) ops_260) 7 i v).2 := by
  show ((kT0 q).L, (kT0 q).ce, (kT0 q).sl) = (fops (fnew (kf q) 260 14) ops_260).2
  refine Prod.ext ?_ ?_
  · rw [ops_L]
    show q.L ++ 260 :: news_260 = (q.L ++ [260]) ++ ops_260.flatMap onew
    rw [show ops_260.flatMap onew = news_260 by decide +kernel, List.append_assoc]; rfl
  · rw [ops_ct, show (ops_260.map fun o => (ocel o).1).sum = 8 by decide +kernel, show (ops_260.map fun o => (ocel o).2).sum = 15041 by decide +kernel]
    exact Prod.ext (by show q.ce + 9 = q.ce + 1 + 8; omega) (by show q.sl + 15055 = q.sl + 14 + 15041; omega)
theorem kT0_r {q : kP} (h0 : q.o0 = 0) (het : q.et = none ∨ True) {c k : Nat} (g1 : ∀ ci sl, kK c = .inl (ci, sl) → k < sl.length ∧ sl.getD k false = true) (g2 : ∀ ty n, kK c = .inr (ty, n) → ty.isReference = true) : (kf (kT0 q)).1 c k = (frf (fops (fnew (kf q) 260 14) ops_260) 7 0 (some 260)).1 c k := by
  by_cases hm : c ∈ 260 :: news_260
  · simp only [news_260, List.mem_cons, List.not_mem_nil, or_false] at hm
    rcases hm with rfl | rfl | rfl | rfl | rfl | rfl | rfl | rfl | rfl
    · have hk : k < 14 := (g1 _ _ (rfl : kK 260 = _)).1
      have hk2 : k = 0 ∨ k = 1 ∨ k = 2 ∨ k = 3 ∨ k = 4 ∨ k = 5 ∨ k = 6 ∨ k = 7 ∨ k = 8 ∨ k = 9 ∨ k = 10 ∨ k = 11 ∨ k = 12 ∨ k = 13 := by omega
      rcases hk2 with rfl | rfl | rfl | rfl | rfl | rfl | rfl | rfl | rfl | rfl | rfl | rfl | rfl | rfl <;> first | rfl
    · exact absurd (g2 _ _ (rfl : kK 267 = _)) (by decide)
    · exact absurd (g2 _ _ (rfl : kK 268 = _)) (by decide)
    · exact absurd (g2 _ _ (rfl : kK 269 = _)) (by decide)
    · exact absurd (g2 _ _ (rfl : kK 270 = _)) (by decide)
    · exact absurd (g2 _ _ (rfl : kK 271 = _)) (by decide)
    · exact absurd (g2 _ _ (rfl : kK 272 = _)) (by decide)
    · show (if k < q.o0 then some _ else none) = none
      rw [h0, if_neg (Nat.not_lt_zero _)]
    · exact absurd (g2 _ _ (rfl : kK 274 = _)) (by decide)
  · have h1 : (fops (fnew (kf q) 260 14) ops_260).1 c k = kR q c k := by
      rw [ops_same (fun z => hm ((by decide +kernel : ∀ c ∈ ops_260.flatMap otch, c ∈ 260 :: news_260) c z))]
      exact if_neg (fun e => hm (by rw [e]; exact List.mem_cons_self))
    show kR (kT0 q) c k = (if c = 7 ∧ k = 0 then some 260 else (fops (fnew (kf q) 260 14) ops_260).1 c k)
    rw [h1]
    by_cases e : c = 7 ∧ k = 0
    · obtain ⟨rfl, rfl⟩ := e
      rfl
    rw [if_neg e]
    by_cases e7 : c = 7
    · subst e7
      have e0 : ¬ k = 0 := fun z => e ⟨rfl, z⟩
      show (if k = 0 then some 260 else if k = 1 then (if q.t1 = true then some 280 else none) else none) = (if k = 0 then (if q.t0 = true then some 260 else none) else if k = 1 then (if q.t1 = true then some 280 else none) else none)
      rw [if_neg e0, if_neg e0]
    · unfold kR
      rw [if_neg e7, if_neg e7]; rfl
theorem kT1_2 {q : kP} {i : Nat} {v : Option Nat} : (kf (kT1 q)).2 = (frf (fops (fnew (kf q) 280 14) ops_280) 7 i v).2 := by
  show ((kT1 q).L, (kT1 q).ce, (kT1 q).sl) = (fops (fnew (kf q) 280 14) ops_280).2
  refine Prod.ext ?_ ?_
  · rw [ops_L]
    show q.L ++ 280 :: news_280 = (q.L ++ [280]) ++ ops_280.flatMap onew
    rw [show ops_280.flatMap onew = news_280 by decide +kernel, List.append_assoc]; rfl
  · rw [ops_ct, show (ops_280.map fun o => (ocel o).1).sum = 8 by decide +kernel, show (ops_280.map fun o => (ocel o).2).sum = 15041 by decide +kernel]
    exact Prod.ext (by show q.ce + 9 = q.ce + 1 + 8; omega) (by show q.sl + 15055 = q.sl + 14 + 15041; omega)
theorem kT1_r {q : kP} (h0 : q.o1 = 0) (het : q.et = none ∨ True) {c k : Nat} (g1 : ∀ ci sl, kK c = .inl (ci, sl) → k < sl.length ∧ sl.getD k false = true) (g2 : ∀ ty n, kK c = .inr (ty, n) → ty.isReference = true) : (kf (kT1 q)).1 c k = (frf (fops (fnew (kf q) 280 14) ops_280) 7 1 (some 280)).1 c k := by
  by_cases hm : c ∈ 280 :: news_280
  · simp only [news_280, List.mem_cons, List.not_mem_nil, or_false] at hm
    rcases hm with rfl | rfl | rfl | rfl | rfl | rfl | rfl | rfl | rfl
    · have hk : k < 14 := (g1 _ _ (rfl : kK 280 = _)).1
      have hk2 : k = 0 ∨ k = 1 ∨ k = 2 ∨ k = 3 ∨ k = 4 ∨ k = 5 ∨ k = 6 ∨ k = 7 ∨ k = 8 ∨ k = 9 ∨ k = 10 ∨ k = 11 ∨ k = 12 ∨ k = 13 := by omega
      rcases hk2 with rfl | rfl | rfl | rfl | rfl | rfl | rfl | rfl | rfl | rfl | rfl | rfl | rfl | rfl <;> first | rfl
    · exact absurd (g2 _ _ (rfl : kK 287 = _)) (by decide)
    · exact absurd (g2 _ _ (rfl : kK 288 = _)) (by decide)
    · exact absurd (g2 _ _ (rfl : kK 289 = _)) (by decide)
    · exact absurd (g2 _ _ (rfl : kK 290 = _)) (by decide)
    · exact absurd (g2 _ _ (rfl : kK 291 = _)) (by decide)
    · exact absurd (g2 _ _ (rfl : kK 292 = _)) (by decide)
    · show (if k < q.o1 then some _ else none) = none
      rw [h0, if_neg (Nat.not_lt_zero _)]
    · exact absurd (g2 _ _ (rfl : kK 294 = _)) (by decide)
  · have h1 : (fops (fnew (kf q) 280 14) ops_280).1 c k = kR q c k := by
      rw [ops_same (fun z => hm ((by decide +kernel : ∀ c ∈ ops_280.flatMap otch, c ∈ 280 :: news_280) c z))]
      exact if_neg (fun e => hm (by rw [e]; exact List.mem_cons_self))
    show kR (kT1 q) c k = (if c = 7 ∧ k = 1 then some 280 else (fops (fnew (kf q) 280 14) ops_280).1 c k)
    rw [h1]
    by_cases e : c = 7 ∧ k = 1
    · obtain ⟨rfl, rfl⟩ := e
      rfl
    rw [if_neg e]
    by_cases e7 : c = 7
    · subst e7
      have e0 : ¬ k = 1 := fun z => e ⟨rfl, z⟩
      show (if k = 0 then (if q.t0 = true then some 260 else none) else if k = 1 then some 280 else none) = (if k = 0 then (if q.t0 = true then some 260 else none) else if k = 1 then (if q.t1 = true then some 280 else none) else none)
      rw [if_neg e0, if_neg e0]
    · unfold kR
      rw [if_neg e7, if_neg e7]; rfl
end
section
set_option maxRecDepth 100000 in
theorem dtk_X1_clear : dck cX1_clear [(0, .aload_n 0, 1), (1, .iload_n 1, 1), (2, .putfield 7, 3), (5, .aload_n 0, 1), (6, .iload_n 2, 1), (7, .putfield 13, 3), (10, .aload_n 0, 1), (11, .iload_n 3, 1), (12, .putfield 16, 3), (15, .aload_n 0, 1), (16, .iconst 0, 1), (17, .putfield 19, 3), (20, .aload_n 0, 1), (21, .iconst 0, 1), (22, .putfield 22, 3), (25, .aload_n 0, 1), (26, .iconst 0, 1), (27, .putfield 25, 3), (30, .aload_n 0, 1), (31, .iconst 0, 1), (32, .putfield 29, 3), (35, .return_, 1)] = true := by decide +kernel
set_option maxRecDepth 100000 in
set_option maxHeartbeats 4000000 in
theorem kg_X1_clear_0 {G : kG} {q : kP} {d : Nat} {x : gd} {P : Option gv → gd → Prop} (hq : kV q) {o : Nat} (ho : kiD q o) (l1 : Int32) (l2 : Int32) (l3 : Int32)
    (h : (∀ x1 : gd, x1 = si x o 0 l1 → (∀ x2 : gd, x2 = si x1 o 1 l2 → (∀ x3 : gd, x3 = si x2 o 2 l3 → (∀ x4 : gd, x4 = si x3 o 3 0 → (∀ x5 : gd, x5 = si x4 o 4 0 → (∀ x6 : gd, x6 = si x5 o 5 0 → (∀ x7 : gd, x7 = si x6 o 6 0 → P none x7)))))))) :
    KT G q d zk_X1_clear 0 [(0, vr o), (1, vi l1), (2, vi l2), (3, vi l3)] [] x P := by
  refine T_aload_n 0 (dk dtk_X1_clear 0 rfl) rfl rfl ?_
  refine T_iload_n 1 (dk dtk_X1_clear 1 rfl) rfl rfl ?_
  obtain ⟨x1, ex1⟩ : ∃ z, z = si x o 0 l1 := ⟨_, rfl⟩
  have h := h x1 ex1
  refine T_putI o 0 (dk dtk_X1_clear 2 rfl) kfl_X1_7 (kk_D0 ho) (kl_D0 hq ho) (by decide) rfl ⟨rfl, rfl⟩ ?_
  rw [← ex1]
  refine T_aload_n 0 (dk dtk_X1_clear 3 rfl) rfl rfl ?_
  refine T_iload_n 2 (dk dtk_X1_clear 4 rfl) rfl rfl ?_
  obtain ⟨x2, ex2⟩ : ∃ z, z = si x1 o 1 l2 := ⟨_, rfl⟩
  have h := h x2 ex2
  refine T_putI o 1 (dk dtk_X1_clear 5 rfl) kfl_X1_13 (kk_D0 ho) (kl_D0 hq ho) (by decide) rfl ⟨rfl, rfl⟩ ?_
  rw [← ex2]
  refine T_aload_n 0 (dk dtk_X1_clear 6 rfl) rfl rfl ?_
  refine T_iload_n 3 (dk dtk_X1_clear 7 rfl) rfl rfl ?_
  obtain ⟨x3, ex3⟩ : ∃ z, z = si x2 o 2 l3 := ⟨_, rfl⟩
  have h := h x3 ex3
  refine T_putI o 2 (dk dtk_X1_clear 8 rfl) kfl_X1_16 (kk_D0 ho) (kl_D0 hq ho) (by decide) rfl ⟨rfl, rfl⟩ ?_
  rw [← ex3]
  refine T_aload_n 0 (dk dtk_X1_clear 9 rfl) rfl rfl ?_
  refine T_iconst (v := 0) (dk dtk_X1_clear 10 rfl) (by decide +kernel) ?_
  obtain ⟨x4, ex4⟩ : ∃ z, z = si x3 o 3 0 := ⟨_, rfl⟩
  have h := h x4 ex4
  refine T_putI o 3 (dk dtk_X1_clear 11 rfl) kfl_X1_19 (kk_D0 ho) (kl_D0 hq ho) (by decide) rfl ⟨rfl, rfl⟩ ?_
  rw [← ex4]
  refine T_aload_n 0 (dk dtk_X1_clear 12 rfl) rfl rfl ?_
  refine T_iconst (v := 0) (dk dtk_X1_clear 13 rfl) (by decide +kernel) ?_
  obtain ⟨x5, ex5⟩ : ∃ z, z = si x4 o 4 0 := ⟨_, rfl⟩
  have h := h x5 ex5
  refine T_putI o 4 (dk dtk_X1_clear 14 rfl) kfl_X1_22 (kk_D0 ho) (kl_D0 hq ho) (by decide) rfl ⟨rfl, rfl⟩ ?_
  rw [← ex5]
  refine T_aload_n 0 (dk dtk_X1_clear 15 rfl) rfl rfl ?_
  refine T_iconst (v := 0) (dk dtk_X1_clear 16 rfl) (by decide +kernel) ?_
  obtain ⟨x6, ex6⟩ : ∃ z, z = si x5 o 5 0 := ⟨_, rfl⟩
  have h := h x6 ex6
  refine T_putI o 5 (dk dtk_X1_clear 17 rfl) kfl_X1_25 (kk_D0 ho) (kl_D0 hq ho) (by decide) rfl ⟨rfl, rfl⟩ ?_
  rw [← ex6]
  refine T_aload_n 0 (dk dtk_X1_clear 18 rfl) rfl rfl ?_
  refine T_iconst (v := 0) (dk dtk_X1_clear 19 rfl) (by decide +kernel) ?_
  obtain ⟨x7, ex7⟩ : ∃ z, z = si x6 o 6 0 := ⟨_, rfl⟩
  have h := h x7 ex7
  refine T_putI o 6 (dk dtk_X1_clear 20 rfl) kfl_X1_29 (kk_D0 ho) (kl_D0 hq ho) (by decide) rfl ⟨rfl, rfl⟩ ?_
  rw [← ex7]
  exact KT_vret (dk dtk_X1_clear 21 rfl) rfl h
set_option maxRecDepth 100000 in
theorem dtk_X8_add : dck cX8_add [(0, .aload_n 0, 1), (1, .getfield 39, 3), (4, .aload_n 0, 1), (5, .getfield 9, 3), (8, .arraylength, 1), (9, .if_icmp .ge 10, 3), (12, .aload_n 0, 1), (13, .getfield 39, 3), (16, .goto 10, 3), (19, .aload_n 0, 1), (20, .getfield 9, 3), (23, .arraylength, 1), (24, .iconst 1, 1), (25, .isub, 1), (26, .istore 4, 2), (28, .aload_n 0, 1), (29, .getfield 9, 3), (32, .iload 4, 2), (34, .iload_n 1, 1), (35, .iastore, 1), (36, .aload_n 0, 1), (37, .getfield 15, 3), (40, .iload 4, 2), (42, .iload_n 2, 1), (43, .iastore, 1), (44, .aload_n 0, 1), (45, .getfield 18, 3), (48, .iload 4, 2), (50, .iload_n 3, 1), (51, .iastore, 1), (52, .aload_n 0, 1), (53, .getfield 21, 3), (56, .iload 4, 2), (58, .iconst (-1), 1), (59, .iastore, 1), (60, .aload_n 0, 1), (61, .getfield 24, 3), (64, .iload 4, 2), (66, .iconst (-1), 1), (67, .iastore, 1), (68, .aload_n 0, 1), (69, .getfield 27, 3), (72, .iload 4, 2), (74, .iconst 0, 1), (75, .iastore, 1), (76, .aload_n 0, 1), (77, .getfield 30, 3), (80, .iload 4, 2), (82, .iconst (-1), 1), (83, .iastore, 1), (84, .aload_n 0, 1), (85, .getfield 33, 3), (88, .iload 4, 2), (90, .iconst (-1), 1), (91, .iastore, 1), (92, .aload_n 0, 1), (93, .getfield 36, 3), (96, .iload 4, 2), (98, .iconst (-1), 1), (99, .iastore, 1), (100, .aload_n 0, 1), (101, .iload 4, 2), (103, .iconst 1, 1), (104, .iadd, 1), (105, .putfield 39, 3), (108, .iload 4, 2), (110, .ireturn, 1)] = true := by decide +kernel
set_option maxRecDepth 100000 in
set_option maxHeartbeats 4000000 in
theorem kg_X8_add_0 {G : kG} {q : kP} {d : Nat} {x : gd} {P : Option gv → gd → Prop} (hq : kV q) (l1 : Int32) (l2 : Int32) (l3 : Int32)
    (h : (((Int32.ofNat 400) ≤ (x.1 80 9) → KT G q d zk_X8_add 26 [(0, vr 80), (1, vi l1), (2, vi l2), (3, vi l3)] [vi ((Int32.ofNat 400) - 1)] x P) ∧ (¬ ((Int32.ofNat 400) ≤ (x.1 80 9)) → KT G q d zk_X8_add 26 [(0, vr 80), (1, vi l1), (2, vi l2), (3, vi l3)] [vi (x.1 80 9)] x P))) :
    KT G q d zk_X8_add 0 [(0, vr 80), (1, vi l1), (2, vi l2), (3, vi l3)] [] x P := by
  refine T_aload_n 0 (dk dtk_X8_add 0 rfl) rfl rfl ?_
  refine T_getI 80 9 (dk dtk_X8_add 1 rfl) kfl_X8_39 kk_80 (kl_80 hq) (by decide) rfl ?_
  refine T_aload_n 0 (dk dtk_X8_add 2 rfl) rfl rfl ?_
  refine T_getR 80 0 81 (dk dtk_X8_add 3 rfl) kfl_X8_9 kk_80 (kl_80 hq) (by decide) rfl kr_80_0 ?_
  refine T_alen 81 400 0 (v := Int32.ofNat 400) (dk dtk_X8_add 4 rfl) kk_81 (kl_81 hq) rfl rfl ?_
  refine T_icmp_ge 19 (dk dtk_X8_add 5 rfl) (by decide) (fun c1 => ?_) (fun c1 => ?_)
  · have h := h.1 c1
    refine T_aload_n 0 (dk dtk_X8_add 9 rfl) rfl rfl ?_
    refine T_getR 80 0 81 (dk dtk_X8_add 10 rfl) kfl_X8_9 kk_80 (kl_80 hq) (by decide) rfl kr_80_0 ?_
    refine T_alen 81 400 0 (v := Int32.ofNat 400) (dk dtk_X8_add 11 rfl) kk_81 (kl_81 hq) rfl rfl ?_
    refine T_iconst (v := 1) (dk dtk_X8_add 12 rfl) (by decide +kernel) ?_
    refine T_isub (dk dtk_X8_add 13 rfl) ?_
    exact h
  · have h := h.2 c1
    refine T_aload_n 0 (dk dtk_X8_add 6 rfl) rfl rfl ?_
    refine T_getI 80 9 (dk dtk_X8_add 7 rfl) kfl_X8_39 kk_80 (kl_80 hq) (by decide) rfl ?_
    refine T_goto 26 (dk dtk_X8_add 8 rfl) (by decide) ?_
    exact h
set_option maxRecDepth 100000 in
set_option maxHeartbeats 4000000 in
theorem kg_X8_add_26 {G : kG} {q : kP} {d : Nat} {x : gd} {P : Option gv → gd → Prop} (hq : kV q) (l1 : Int32) (l2 : Int32) (l3 : Int32) (s0 : Int32)
    (h : vp_in s0 400 ∧ (∀ x2 : gd, x2 = si x 81 (s0 : Int32).toNatClampNeg l1 → vp_in s0 400 ∧ (∀ x4 : gd, x4 = si x2 82 (s0 : Int32).toNatClampNeg l2 → vp_in s0 400 ∧ (∀ x6 : gd, x6 = si x4 83 (s0 : Int32).toNatClampNeg l3 → vp_in s0 400 ∧ (∀ x8 : gd, x8 = si x6 84 (s0 : Int32).toNatClampNeg (-1) → vp_in s0 400 ∧ (∀ x10 : gd, x10 = si x8 85 (s0 : Int32).toNatClampNeg (-1) → vp_in s0 400 ∧ (∀ x12 : gd, x12 = si x10 86 (s0 : Int32).toNatClampNeg 0 → vp_in s0 400 ∧ (∀ x14 : gd, x14 = si x12 87 (s0 : Int32).toNatClampNeg (-1) → vp_in s0 400 ∧ (∀ x16 : gd, x16 = si x14 88 (s0 : Int32).toNatClampNeg (-1) → vp_in s0 400 ∧ (∀ x18 : gd, x18 = si x16 89 (s0 : Int32).toNatClampNeg (-1) → (∀ x19 : gd, x19 = si x18 80 9 (s0 + 1) → P (some (vi s0)) x19))))))))))) :
    KT G q d zk_X8_add 26 [(0, vr 80), (1, vi l1), (2, vi l2), (3, vi l3)] [vi s0] x P := by
  refine T_istore (lv2 := [(4, vi s0), (0, vr 80), (1, vi l1), (2, vi l2), (3, vi l3)]) (dk dtk_X8_add 14 rfl) (by decide) rfl ?_
  refine T_aload_n 1 (dk dtk_X8_add 15 rfl) rfl rfl ?_
  refine T_getR 80 0 81 (dk dtk_X8_add 16 rfl) kfl_X8_9 kk_80 (kl_80 hq) (by decide) rfl kr_80_0 ?_
  refine T_iload 0 (dk dtk_X8_add 17 rfl) rfl ?_
  refine T_iload_n 2 (dk dtk_X8_add 18 rfl) rfl rfl ?_
  obtain ⟨h1, h⟩ := h
  obtain ⟨x2, ex2⟩ : ∃ z, z = si x 81 (s0 : Int32).toNatClampNeg l1 := ⟨_, rfl⟩
  have h := h x2 ex2
  refine T_iast 81 400 (dk dtk_X8_add 19 rfl) kk_81 (kl_81 hq) h1 ?_
  rw [← ex2]
  refine T_aload_n 1 (dk dtk_X8_add 20 rfl) rfl rfl ?_
  refine T_getR 80 1 82 (dk dtk_X8_add 21 rfl) kfl_X8_15 kk_80 (kl_80 hq) (by decide) rfl kr_80_1 ?_
  refine T_iload 0 (dk dtk_X8_add 22 rfl) rfl ?_
  refine T_iload_n 3 (dk dtk_X8_add 23 rfl) rfl rfl ?_
  obtain ⟨h3, h⟩ := h
  obtain ⟨x4, ex4⟩ : ∃ z, z = si x2 82 (s0 : Int32).toNatClampNeg l2 := ⟨_, rfl⟩
  have h := h x4 ex4
  refine T_iast 82 400 (dk dtk_X8_add 24 rfl) kk_82 (kl_82 hq) h3 ?_
  rw [← ex4]
  refine T_aload_n 1 (dk dtk_X8_add 25 rfl) rfl rfl ?_
  refine T_getR 80 2 83 (dk dtk_X8_add 26 rfl) kfl_X8_18 kk_80 (kl_80 hq) (by decide) rfl kr_80_2 ?_
  refine T_iload 0 (dk dtk_X8_add 27 rfl) rfl ?_
  refine T_iload_n 4 (dk dtk_X8_add 28 rfl) rfl rfl ?_
  obtain ⟨h5, h⟩ := h
  obtain ⟨x6, ex6⟩ : ∃ z, z = si x4 83 (s0 : Int32).toNatClampNeg l3 := ⟨_, rfl⟩
  have h := h x6 ex6
  refine T_iast 83 400 (dk dtk_X8_add 29 rfl) kk_83 (kl_83 hq) h5 ?_
  rw [← ex6]
  refine T_aload_n 1 (dk dtk_X8_add 30 rfl) rfl rfl ?_
  refine T_getR 80 3 84 (dk dtk_X8_add 31 rfl) kfl_X8_21 kk_80 (kl_80 hq) (by decide) rfl kr_80_3 ?_
  refine T_iload 0 (dk dtk_X8_add 32 rfl) rfl ?_
  refine T_iconst (v := (-1)) (dk dtk_X8_add 33 rfl) (by decide +kernel) ?_
  obtain ⟨h7, h⟩ := h
  obtain ⟨x8, ex8⟩ : ∃ z, z = si x6 84 (s0 : Int32).toNatClampNeg (-1) := ⟨_, rfl⟩
  have h := h x8 ex8
  refine T_iast 84 400 (dk dtk_X8_add 34 rfl) kk_84 (kl_84 hq) h7 ?_
  rw [← ex8]
  refine T_aload_n 1 (dk dtk_X8_add 35 rfl) rfl rfl ?_
  refine T_getR 80 4 85 (dk dtk_X8_add 36 rfl) kfl_X8_24 kk_80 (kl_80 hq) (by decide) rfl kr_80_4 ?_
  refine T_iload 0 (dk dtk_X8_add 37 rfl) rfl ?_
  refine T_iconst (v := (-1)) (dk dtk_X8_add 38 rfl) (by decide +kernel) ?_
  obtain ⟨h9, h⟩ := h
  obtain ⟨x10, ex10⟩ : ∃ z, z = si x8 85 (s0 : Int32).toNatClampNeg (-1) := ⟨_, rfl⟩
  have h := h x10 ex10
  refine T_iast 85 400 (dk dtk_X8_add 39 rfl) kk_85 (kl_85 hq) h9 ?_
  rw [← ex10]
  refine T_aload_n 1 (dk dtk_X8_add 40 rfl) rfl rfl ?_
  refine T_getR 80 5 86 (dk dtk_X8_add 41 rfl) kfl_X8_27 kk_80 (kl_80 hq) (by decide) rfl kr_80_5 ?_
  refine T_iload 0 (dk dtk_X8_add 42 rfl) rfl ?_
  refine T_iconst (v := 0) (dk dtk_X8_add 43 rfl) (by decide +kernel) ?_
  obtain ⟨h11, h⟩ := h
  obtain ⟨x12, ex12⟩ : ∃ z, z = si x10 86 (s0 : Int32).toNatClampNeg 0 := ⟨_, rfl⟩
  have h := h x12 ex12
  refine T_iast 86 400 (dk dtk_X8_add 44 rfl) kk_86 (kl_86 hq) h11 ?_
  rw [← ex12]
  refine T_aload_n 1 (dk dtk_X8_add 45 rfl) rfl rfl ?_
  refine T_getR 80 6 87 (dk dtk_X8_add 46 rfl) kfl_X8_30 kk_80 (kl_80 hq) (by decide) rfl kr_80_6 ?_
  refine T_iload 0 (dk dtk_X8_add 47 rfl) rfl ?_
  refine T_iconst (v := (-1)) (dk dtk_X8_add 48 rfl) (by decide +kernel) ?_
  obtain ⟨h13, h⟩ := h
  obtain ⟨x14, ex14⟩ : ∃ z, z = si x12 87 (s0 : Int32).toNatClampNeg (-1) := ⟨_, rfl⟩
  have h := h x14 ex14
  refine T_iast 87 400 (dk dtk_X8_add 49 rfl) kk_87 (kl_87 hq) h13 ?_
  rw [← ex14]
  refine T_aload_n 1 (dk dtk_X8_add 50 rfl) rfl rfl ?_
  refine T_getR 80 7 88 (dk dtk_X8_add 51 rfl) kfl_X8_33 kk_80 (kl_80 hq) (by decide) rfl kr_80_7 ?_
  refine T_iload 0 (dk dtk_X8_add 52 rfl) rfl ?_
  refine T_iconst (v := (-1)) (dk dtk_X8_add 53 rfl) (by decide +kernel) ?_
  obtain ⟨h15, h⟩ := h
  obtain ⟨x16, ex16⟩ : ∃ z, z = si x14 88 (s0 : Int32).toNatClampNeg (-1) := ⟨_, rfl⟩
  have h := h x16 ex16
  refine T_iast 88 400 (dk dtk_X8_add 54 rfl) kk_88 (kl_88 hq) h15 ?_
  rw [← ex16]
  refine T_aload_n 1 (dk dtk_X8_add 55 rfl) rfl rfl ?_
  refine T_getR 80 8 89 (dk dtk_X8_add 56 rfl) kfl_X8_36 kk_80 (kl_80 hq) (by decide) rfl kr_80_8 ?_
  refine T_iload 0 (dk dtk_X8_add 57 rfl) rfl ?_
  refine T_iconst (v := (-1)) (dk dtk_X8_add 58 rfl) (by decide +kernel) ?_
  obtain ⟨h17, h⟩ := h
  obtain ⟨x18, ex18⟩ : ∃ z, z = si x16 89 (s0 : Int32).toNatClampNeg (-1) := ⟨_, rfl⟩
  have h := h x18 ex18
  refine T_iast 89 400 (dk dtk_X8_add 59 rfl) kk_89 (kl_89 hq) h17 ?_
  rw [← ex18]
  refine T_aload_n 1 (dk dtk_X8_add 60 rfl) rfl rfl ?_
  refine T_iload 0 (dk dtk_X8_add 61 rfl) rfl ?_
  refine T_iconst (v := 1) (dk dtk_X8_add 62 rfl) (by decide +kernel) ?_
  refine T_iadd (dk dtk_X8_add 63 rfl) ?_
  obtain ⟨x19, ex19⟩ : ∃ z, z = si x18 80 9 (s0 + 1) := ⟨_, rfl⟩
  have h := h x19 ex19
  refine T_putI 80 9 (dk dtk_X8_add 64 rfl) kfl_X8_39 kk_80 (kl_80 hq) (by decide) rfl ⟨rfl, rfl⟩ ?_
  rw [← ex19]
  refine T_iload 0 (dk dtk_X8_add 65 rfl) rfl ?_
  exact KT_iret (dk dtk_X8_add 66 rfl) rfl rfl h
set_option maxRecDepth 100000 in
theorem dtk_X9_addByte : dck cX9_addByte [(0, .aload_n 0, 1), (1, .getfield 31, 3), (4, .sipush 3000, 3), (7, .if_icmp .ge 24, 3), (10, .aload_n 0, 1), (11, .getfield 9, 3), (14, .aload_n 0, 1), (15, .getfield 31, 3), (18, .iload_n 1, 1), (19, .i2b, 1), (20, .bastore, 1), (21, .aload_n 0, 1), (22, .dup, 1), (23, .getfield 31, 3), (26, .iconst 1, 1), (27, .iadd, 1), (28, .putfield 31, 3), (31, .return_, 1)] = true := by decide +kernel
set_option maxRecDepth 100000 in
set_option maxHeartbeats 4000000 in
theorem kg_X9_addByte_0 {G : kG} {q : kP} {d : Nat} {x : gd} {P : Option gv → gd → Prop} (hq : kV q) (l1 : Int32)
    (h : (((3000 : Int32) ≤ (x.1 20 1) → P none x) ∧ (¬ ((3000 : Int32) ≤ (x.1 20 1)) → vp_in (x.1 20 1) 3000 ∧ (∀ x3 : gd, x3 = si x 21 (x.1 20 1 : Int32).toNatClampNeg (vp_nar .byte ((l1 : Int32).toInt8.toInt32)) → (∀ x4 : gd, x4 = si x3 20 1 ((x3.1 20 1) + 1) → P none x4))))) :
    KT G q d zk_X9_addByte 0 [(0, vr 20), (1, vi l1)] [] x P := by
  refine T_aload_n 0 (dk dtk_X9_addByte 0 rfl) rfl rfl ?_
  refine T_getI 20 1 (dk dtk_X9_addByte 1 rfl) kfl_X9_31 kk_20 (kl_20 hq) (by decide) rfl ?_
  refine T_sipush (v := 3000) (dk dtk_X9_addByte 2 rfl) (by decide +kernel) ?_
  refine T_icmp_ge 31 (dk dtk_X9_addByte 3 rfl) (by decide) (fun c1 => ?_) (fun c1 => ?_)
  · have h := h.1 c1
    exact KT_vret (dk dtk_X9_addByte 17 rfl) rfl h
  · have h := h.2 c1
    refine T_aload_n 0 (dk dtk_X9_addByte 4 rfl) rfl rfl ?_
    refine T_getR 20 0 21 (dk dtk_X9_addByte 5 rfl) kfl_X9_9 kk_20 (kl_20 hq) (by decide) rfl kr_20_0 ?_
    refine T_aload_n 0 (dk dtk_X9_addByte 6 rfl) rfl rfl ?_
    refine T_getI 20 1 (dk dtk_X9_addByte 7 rfl) kfl_X9_31 kk_20 (kl_20 hq) (by decide) rfl ?_
    refine T_iload_n 1 (dk dtk_X9_addByte 8 rfl) rfl rfl ?_
    refine T_i2b (dk dtk_X9_addByte 9 rfl) ?_
    obtain ⟨h2, h⟩ := h
    obtain ⟨x3, ex3⟩ : ∃ z, z = si x 21 (x.1 20 1 : Int32).toNatClampNeg (vp_nar .byte ((l1 : Int32).toInt8.toInt32)) := ⟨_, rfl⟩
    have h := h x3 ex3
    refine T_bast 21 3000 (dk dtk_X9_addByte 10 rfl) kk_21 (kl_21 hq) h2 ?_
    rw [← ex3]
    refine T_aload_n 0 (dk dtk_X9_addByte 11 rfl) rfl rfl ?_
    refine T_dup (dk dtk_X9_addByte 12 rfl) rfl ?_
    refine T_getI 20 1 (dk dtk_X9_addByte 13 rfl) kfl_X9_31 kk_20 (kl_20 hq) (by decide) rfl ?_
    refine T_iconst (v := 1) (dk dtk_X9_addByte 14 rfl) (by decide +kernel) ?_
    refine T_iadd (dk dtk_X9_addByte 15 rfl) ?_
    obtain ⟨x4, ex4⟩ : ∃ z, z = si x3 20 1 ((x3.1 20 1) + 1) := ⟨_, rfl⟩
    have h := h x4 ex4
    refine T_putI 20 1 (dk dtk_X9_addByte 16 rfl) kfl_X9_31 kk_20 (kl_20 hq) (by decide) rfl ⟨rfl, rfl⟩ ?_
    rw [← ex4]
    exact KT_vret (dk dtk_X9_addByte 17 rfl) rfl h
set_option maxRecDepth 100000 in
theorem dtk_X9_cut : dck cX9_cut [(0, .aload_n 0, 1), (1, .iconst 0, 1), (2, .putfield 35, 3), (5, .aload_n 0, 1), (6, .iconst 1, 1), (7, .putfield 38, 3), (10, .aload_n 0, 1), (11, .iconst 0, 1), (12, .putfield 41, 3), (15, .iconst 1, 1), (16, .istore_n 1, 1), (17, .iconst 0, 1), (18, .istore_n 2, 1), (19, .iload_n 2, 1), (20, .sipush 700, 3), (23, .if_icmp .gt 99, 3), (26, .iload_n 1, 1), (27, .ifCond .eq 95, 3), (30, .aload_n 0, 1), (31, .invokevirtual 44, 3), (34, .aload_n 0, 1), (35, .getfield 35, 3), (38, .aload_n 0, 1), (39, .getfield 31, 3), (42, .if_icmp .lt 6, 3), (45, .goto 77, 3), (48, .aload_n 0, 1), (49, .getfield 19, 3), (52, .aload_n 0, 1), (53, .getfield 41, 3), (56, .aload_n 0, 1), (57, .getfield 35, 3), (60, .iastore, 1), (61, .aload_n 0, 1), (62, .getfield 22, 3), (65, .aload_n 0, 1), (66, .getfield 41, 3), (69, .aload_n 0, 1), (70, .getfield 38, 3), (73, .iastore, 1), (74, .aload_n 0, 1), (75, .getfield 15, 3), (78, .aload_n 0, 1), (79, .getfield 41, 3), (82, .aload_n 0, 1), (83, .invokevirtual 47, 3), (86, .iastore, 1), (87, .aload_n 0, 1), (88, .getfield 15, 3), (91, .aload_n 0, 1), (92, .getfield 41, 3), (95, .iaload, 1), (96, .iconst 1, 1), (97, .if_icmp .eq 7, 3), (100, .iconst 1, 1), (101, .goto 4, 3), (104, .iconst 0, 1), (105, .istore_n 1, 1), (106, .aload_n 0, 1), (107, .dup, 1), (108, .getfield 41, 3), (111, .iconst 1, 1), (112, .iadd, 1), (113, .putfield 41, 3), (116, .iinc 2 1, 3), (119, .goto (-100), 3), (122, .aload_n 0, 1), (123, .getfield 15, 3), (126, .aload_n 0, 1), (127, .getfield 41, 3), (130, .iconst 0, 1), (131, .iastore, 1), (132, .aload_n 0, 1), (133, .getfield 19, 3), (136, .aload_n 0, 1), (137, .getfield 41, 3), (140, .aload_n 0, 1), (141, .getfield 31, 3), (144, .iastore, 1), (145, .aload_n 0, 1), (146, .getfield 22, 3), (149, .aload_n 0, 1), (150, .getfield 41, 3), (153, .aload_n 0, 1), (154, .getfield 38, 3), (157, .iastore, 1), (158, .return_, 1)] = true := by decide +kernel
set_option maxRecDepth 100000 in
set_option maxHeartbeats 4000000 in
theorem kg_X9_cut_0 {G : kG} {q : kP} {d : Nat} {x : gd} {P : Option gv → gd → Prop} (hq : kV q) 
    (h : (∀ x1 : gd, x1 = si x 20 8 0 → (∀ x2 : gd, x2 = si x1 20 9 1 → (∀ x3 : gd, x3 = si x2 20 7 0 → KT G q (d + 1) zk_X9_cut 19 [(0, vr 20), (1, vi 1), (2, vi 0)] [] x3 P)))) :
    KT G q (d + 1) zk_X9_cut 0 [(0, vr 20)] [] x P := by
  refine T_aload_n 0 (dk dtk_X9_cut 0 rfl) rfl rfl ?_
  refine T_iconst (v := 0) (dk dtk_X9_cut 1 rfl) (by decide +kernel) ?_
  obtain ⟨x1, ex1⟩ : ∃ z, z = si x 20 8 0 := ⟨_, rfl⟩
  have h := h x1 ex1
  refine T_putI 20 8 (dk dtk_X9_cut 2 rfl) kfl_X9_35 kk_20 (kl_20 hq) (by decide) rfl ⟨rfl, rfl⟩ ?_
  rw [← ex1]
  refine T_aload_n 0 (dk dtk_X9_cut 3 rfl) rfl rfl ?_
  refine T_iconst (v := 1) (dk dtk_X9_cut 4 rfl) (by decide +kernel) ?_
  obtain ⟨x2, ex2⟩ : ∃ z, z = si x1 20 9 1 := ⟨_, rfl⟩
  have h := h x2 ex2
  refine T_putI 20 9 (dk dtk_X9_cut 5 rfl) kfl_X9_38 kk_20 (kl_20 hq) (by decide) rfl ⟨rfl, rfl⟩ ?_
  rw [← ex2]
  refine T_aload_n 0 (dk dtk_X9_cut 6 rfl) rfl rfl ?_
  refine T_iconst (v := 0) (dk dtk_X9_cut 7 rfl) (by decide +kernel) ?_
  obtain ⟨x3, ex3⟩ : ∃ z, z = si x2 20 7 0 := ⟨_, rfl⟩
  have h := h x3 ex3
  refine T_putI 20 7 (dk dtk_X9_cut 8 rfl) kfl_X9_41 kk_20 (kl_20 hq) (by decide) rfl ⟨rfl, rfl⟩ ?_
  rw [← ex3]
  refine T_iconst (v := 1) (dk dtk_X9_cut 9 rfl) (by decide +kernel) ?_
  refine T_istore_n (lv2 := [(1, vi 1), (0, vr 20)]) (dk dtk_X9_cut 10 rfl) rfl (by decide) rfl ?_
  refine T_iconst (v := 0) (dk dtk_X9_cut 11 rfl) (by decide +kernel) ?_
  refine T_istore_n (lv2 := [(2, vi 0), (1, vi 1), (0, vr 20)]) (dk dtk_X9_cut 12 rfl) rfl (by decide) rfl ?_
  exact T_sub [2, 1, 0] rfl h
set_option maxRecDepth 100000 in
set_option maxHeartbeats 4000000 in
theorem kg_X9_cut_19 {G : kG} {q : kP} {d : Nat} {x : gd} {P : Option gv → gd → Prop} (hq : kV q) (l1 : Int32) (l2 : Int32)
    (h : (((700 : Int32) < l2 → KT G q (d + 1) zk_X9_cut 122 [(0, vr 20)] [] x P) ∧ (¬ ((700 : Int32) < l2) → ((l1 = (0 : Int32) → KT G q (d + 1) zk_X9_cut 122 [(0, vr 20)] [] x P) ∧ (¬ (l1 = (0 : Int32)) → KT G q d zk_X9_skipBlanks 0 [(0, vr 20)] [] x (rv (fun x3 => (((x3.1 20 8) < (x3.1 20 1) → vp_in (x3.1 20 7) 702 ∧ (∀ x6 : gd, x6 = si x3 24 (x3.1 20 7 : Int32).toNatClampNeg (x3.1 20 8) → vp_in (x6.1 20 7) 702 ∧ (∀ x8 : gd, x8 = si x6 25 (x6.1 20 7 : Int32).toNatClampNeg (x6.1 20 9) → KT G q d zk_X9_cutOne 0 [(0, vr 20)] [] x8 (ri (fun r10 x9 => vp_in (x8.1 20 7) 702 ∧ (∀ x12 : gd, x12 = si x9 23 (x8.1 20 7 : Int32).toNatClampNeg r10 → vp_in (x12.1 20 7) 702 ∧ (((x12.1 23 (x12.1 20 7 : Int32).toNatClampNeg) = (1 : Int32) → (∀ x15 : gd, x15 = si x12 20 7 ((x12.1 20 7) + 1) → KT G q (d + 1) zk_X9_cut 19 [(0, vr 20), (1, vi 0), (2, vi (l2 + 1))] [] x15 P)) ∧ (¬ ((x12.1 23 (x12.1 20 7 : Int32).toNatClampNeg) = (1 : Int32)) → (∀ x16 : gd, x16 = si x12 20 7 ((x12.1 20 7) + 1) → KT G q (d + 1) zk_X9_cut 19 [(0, vr 20), (1, vi 1), (2, vi (l2 + 1))] [] x16 P))))))))) ∧ (¬ ((x3.1 20 8) < (x3.1 20 1)) → KT G q (d + 1) zk_X9_cut 122 [(0, vr 20)] [] x3 P))))))))) :
    KT G q (d + 1) zk_X9_cut 19 [(0, vr 20), (1, vi l1), (2, vi l2)] [] x P := by
  refine T_iload_n 2 (dk dtk_X9_cut 13 rfl) rfl rfl ?_
  refine T_sipush (v := 700) (dk dtk_X9_cut 14 rfl) (by decide +kernel) ?_
  refine T_icmp_gt 122 (dk dtk_X9_cut 15 rfl) (by decide) (fun c1 => ?_) (fun c1 => ?_)
  · have h := h.1 c1
    exact T_sub [0] rfl h
  · have h := h.2 c1
    refine T_iload_n 1 (dk dtk_X9_cut 16 rfl) rfl rfl ?_
    refine T_if_eq 122 (dk dtk_X9_cut 17 rfl) (by decide) (fun c2 => ?_) (fun c2 => ?_)
    · have h := h.1 c2
      exact T_sub [0] rfl h
    · have h := h.2 c2
      refine T_aload_n 0 (dk dtk_X9_cut 18 rfl) rfl rfl ?_
      refine T_sub (lv2 := [(0, vr 20), (2, vi l2)]) [0, 2] rfl ?_
      refine KC_Vv [] [] rfl (dk dtk_X9_cut 19 rfl) kcv_X9_44 rfl kk_20 rfl (kl_20 hq) (Nat.le_of_ble_eq_true rfl) (Nat.le_of_ble_eq_true rfl) (gok_i (av_c (gkr (kl_20 hq)) (av_c rfl av_n)) as_n) rfl h (fun x3 h => ?_)
      refine T_aload_n 0 (dk dtk_X9_cut 20 rfl) rfl rfl ?_
      refine T_getI 20 8 (dk dtk_X9_cut 21 rfl) kfl_X9_35 kk_20 (kl_20 hq) (by decide) rfl ?_
      refine T_aload_n 0 (dk dtk_X9_cut 22 rfl) rfl rfl ?_
      refine T_getI 20 1 (dk dtk_X9_cut 23 rfl) kfl_X9_31 kk_20 (kl_20 hq) (by decide) rfl ?_
      refine T_icmp_lt 48 (dk dtk_X9_cut 24 rfl) (by decide) (fun c4 => ?_) (fun c4 => ?_)
      · have h := h.1 c4
        refine T_aload_n 0 (dk dtk_X9_cut 26 rfl) rfl rfl ?_
        refine T_getR 20 3 24 (dk dtk_X9_cut 27 rfl) kfl_X9_19 kk_20 (kl_20 hq) (by decide) rfl kr_20_3 ?_
        refine T_aload_n 0 (dk dtk_X9_cut 28 rfl) rfl rfl ?_
        refine T_getI 20 7 (dk dtk_X9_cut 29 rfl) kfl_X9_41 kk_20 (kl_20 hq) (by decide) rfl ?_
        refine T_aload_n 0 (dk dtk_X9_cut 30 rfl) rfl rfl ?_
        refine T_getI 20 8 (dk dtk_X9_cut 31 rfl) kfl_X9_35 kk_20 (kl_20 hq) (by decide) rfl ?_
        obtain ⟨h5, h⟩ := h
        obtain ⟨x6, ex6⟩ : ∃ z, z = si x3 24 (x3.1 20 7 : Int32).toNatClampNeg (x3.1 20 8) := ⟨_, rfl⟩
        have h := h x6 ex6
        refine T_iast 24 702 (dk dtk_X9_cut 32 rfl) kk_24 (kl_24 hq) h5 ?_
        rw [← ex6]
        refine T_aload_n 0 (dk dtk_X9_cut 33 rfl) rfl rfl ?_
        refine T_getR 20 4 25 (dk dtk_X9_cut 34 rfl) kfl_X9_22 kk_20 (kl_20 hq) (by decide) rfl kr_20_4 ?_
        refine T_aload_n 0 (dk dtk_X9_cut 35 rfl) rfl rfl ?_
        refine T_getI 20 7 (dk dtk_X9_cut 36 rfl) kfl_X9_41 kk_20 (kl_20 hq) (by decide) rfl ?_
        refine T_aload_n 0 (dk dtk_X9_cut 37 rfl) rfl rfl ?_
        refine T_getI 20 9 (dk dtk_X9_cut 38 rfl) kfl_X9_38 kk_20 (kl_20 hq) (by decide) rfl ?_
        obtain ⟨h7, h⟩ := h
        obtain ⟨x8, ex8⟩ : ∃ z, z = si x6 25 (x6.1 20 7 : Int32).toNatClampNeg (x6.1 20 9) := ⟨_, rfl⟩
        have h := h x8 ex8
        refine T_iast 25 702 (dk dtk_X9_cut 39 rfl) kk_25 (kl_25 hq) h7 ?_
        rw [← ex8]
        refine T_aload_n 0 (dk dtk_X9_cut 40 rfl) rfl rfl ?_
        refine T_getR 20 2 23 (dk dtk_X9_cut 41 rfl) kfl_X9_15 kk_20 (kl_20 hq) (by decide) rfl kr_20_2 ?_
        refine T_aload_n 0 (dk dtk_X9_cut 42 rfl) rfl rfl ?_
        refine T_getI 20 7 (dk dtk_X9_cut 43 rfl) kfl_X9_41 kk_20 (kl_20 hq) (by decide) rfl ?_
        refine T_aload_n 0 (dk dtk_X9_cut 44 rfl) rfl rfl ?_
        refine KC_Vi [] [vi (x8.1 20 7), vr 23] rfl (dk dtk_X9_cut 45 rfl) kcv_X9_47 rfl kk_20 rfl (kl_20 hq) (Nat.le_of_ble_eq_true rfl) (Nat.le_of_ble_eq_true rfl) (gok_i (av_c (gkr (kl_20 hq)) (av_c rfl av_n)) (as_c rfl (as_c (gkr (kl_23 hq)) as_n))) rfl h (fun r10 x9 h => ?_)
        obtain ⟨h11, h⟩ := h
        obtain ⟨x12, ex12⟩ : ∃ z, z = si x9 23 (x8.1 20 7 : Int32).toNatClampNeg r10 := ⟨_, rfl⟩
        have h := h x12 ex12
        refine T_iast 23 702 (dk dtk_X9_cut 46 rfl) kk_23 (kl_23 hq) h11 ?_
        rw [← ex12]
        refine T_aload_n 0 (dk dtk_X9_cut 47 rfl) rfl rfl ?_
        refine T_getR 20 2 23 (dk dtk_X9_cut 48 rfl) kfl_X9_15 kk_20 (kl_20 hq) (by decide) rfl kr_20_2 ?_
        refine T_aload_n 0 (dk dtk_X9_cut 49 rfl) rfl rfl ?_
        refine T_getI 20 7 (dk dtk_X9_cut 50 rfl) kfl_X9_41 kk_20 (kl_20 hq) (by decide) rfl ?_
        obtain ⟨h13, h⟩ := h
        refine T_iald 23 702 (dk dtk_X9_cut 51 rfl) kk_23 (kl_23 hq) h13 ?_
        refine T_iconst (v := 1) (dk dtk_X9_cut 52 rfl) (by decide +kernel) ?_
        refine T_icmp_eq 104 (dk dtk_X9_cut 53 rfl) (by decide) (fun c14 => ?_) (fun c14 => ?_)
        · have h := h.1 c14
          refine T_iconst (v := 0) (dk dtk_X9_cut 56 rfl) (by decide +kernel) ?_
          refine T_istore_n (lv2 := [(1, vi 0), (0, vr 20), (2, vi l2)]) (dk dtk_X9_cut 57 rfl) rfl (by decide) rfl ?_
          refine T_aload_n 1 (dk dtk_X9_cut 58 rfl) rfl rfl ?_
          refine T_dup (dk dtk_X9_cut 59 rfl) rfl ?_
          refine T_getI 20 7 (dk dtk_X9_cut 60 rfl) kfl_X9_41 kk_20 (kl_20 hq) (by decide) rfl ?_
          refine T_iconst (v := 1) (dk dtk_X9_cut 61 rfl) (by decide +kernel) ?_
          refine T_iadd (dk dtk_X9_cut 62 rfl) ?_
          obtain ⟨x15, ex15⟩ : ∃ z, z = si x12 20 7 ((x12.1 20 7) + 1) := ⟨_, rfl⟩
          have h := h x15 ex15
          refine T_putI 20 7 (dk dtk_X9_cut 63 rfl) kfl_X9_41 kk_20 (kl_20 hq) (by decide) rfl ⟨rfl, rfl⟩ ?_
          rw [← ex15]
          refine T_iinc (v := l2 + 1) (lv2 := [(2, vi (l2 + 1)), (1, vi 0), (0, vr 20)]) 2 (dk dtk_X9_cut 64 rfl) rfl rfl (by decide) rfl ?_
          refine T_goto 19 (dk dtk_X9_cut 65 rfl) (by decide) ?_
          exact T_sub [2, 1, 0] rfl h
        · have h := h.2 c14
          refine T_iconst (v := 1) (dk dtk_X9_cut 54 rfl) (by decide +kernel) ?_
          refine T_goto 105 (dk dtk_X9_cut 55 rfl) (by decide) ?_
          refine T_istore_n (lv2 := [(1, vi 1), (0, vr 20), (2, vi l2)]) (dk dtk_X9_cut 57 rfl) rfl (by decide) rfl ?_
          refine T_aload_n 1 (dk dtk_X9_cut 58 rfl) rfl rfl ?_
          refine T_dup (dk dtk_X9_cut 59 rfl) rfl ?_
          refine T_getI 20 7 (dk dtk_X9_cut 60 rfl) kfl_X9_41 kk_20 (kl_20 hq) (by decide) rfl ?_
          refine T_iconst (v := 1) (dk dtk_X9_cut 61 rfl) (by decide +kernel) ?_
          refine T_iadd (dk dtk_X9_cut 62 rfl) ?_
          obtain ⟨x16, ex16⟩ : ∃ z, z = si x12 20 7 ((x12.1 20 7) + 1) := ⟨_, rfl⟩
          have h := h x16 ex16
          refine T_putI 20 7 (dk dtk_X9_cut 63 rfl) kfl_X9_41 kk_20 (kl_20 hq) (by decide) rfl ⟨rfl, rfl⟩ ?_
          rw [← ex16]
          refine T_iinc (v := l2 + 1) (lv2 := [(2, vi (l2 + 1)), (1, vi 1), (0, vr 20)]) 2 (dk dtk_X9_cut 64 rfl) rfl rfl (by decide) rfl ?_
          refine T_goto 19 (dk dtk_X9_cut 65 rfl) (by decide) ?_
          exact T_sub [2, 1, 0] rfl h
      · have h := h.2 c4
        refine T_goto 122 (dk dtk_X9_cut 25 rfl) (by decide) ?_
        exact T_sub [0] rfl h
set_option maxRecDepth 100000 in
set_option maxHeartbeats 4000000 in
theorem kg_X9_cut_122 {G : kG} {q : kP} {d : Nat} {x : gd} {P : Option gv → gd → Prop} (hq : kV q) 
    (h : vp_in (x.1 20 7) 702 ∧ (∀ x2 : gd, x2 = si x 23 (x.1 20 7 : Int32).toNatClampNeg 0 → vp_in (x2.1 20 7) 702 ∧ (∀ x4 : gd, x4 = si x2 24 (x2.1 20 7 : Int32).toNatClampNeg (x2.1 20 1) → vp_in (x4.1 20 7) 702 ∧ (∀ x6 : gd, x6 = si x4 25 (x4.1 20 7 : Int32).toNatClampNeg (x4.1 20 9) → P none x6)))) :
    KT G q (d + 1) zk_X9_cut 122 [(0, vr 20)] [] x P := by
  refine T_aload_n 0 (dk dtk_X9_cut 66 rfl) rfl rfl ?_
  refine T_getR 20 2 23 (dk dtk_X9_cut 67 rfl) kfl_X9_15 kk_20 (kl_20 hq) (by decide) rfl kr_20_2 ?_
  refine T_aload_n 0 (dk dtk_X9_cut 68 rfl) rfl rfl ?_
  refine T_getI 20 7 (dk dtk_X9_cut 69 rfl) kfl_X9_41 kk_20 (kl_20 hq) (by decide) rfl ?_
  refine T_iconst (v := 0) (dk dtk_X9_cut 70 rfl) (by decide +kernel) ?_
  obtain ⟨h1, h⟩ := h
  obtain ⟨x2, ex2⟩ : ∃ z, z = si x 23 (x.1 20 7 : Int32).toNatClampNeg 0 := ⟨_, rfl⟩
  have h := h x2 ex2
  refine T_iast 23 702 (dk dtk_X9_cut 71 rfl) kk_23 (kl_23 hq) h1 ?_
  rw [← ex2]
  refine T_aload_n 0 (dk dtk_X9_cut 72 rfl) rfl rfl ?_
  refine T_getR 20 3 24 (dk dtk_X9_cut 73 rfl) kfl_X9_19 kk_20 (kl_20 hq) (by decide) rfl kr_20_3 ?_
  refine T_aload_n 0 (dk dtk_X9_cut 74 rfl) rfl rfl ?_
  refine T_getI 20 7 (dk dtk_X9_cut 75 rfl) kfl_X9_41 kk_20 (kl_20 hq) (by decide) rfl ?_
  refine T_aload_n 0 (dk dtk_X9_cut 76 rfl) rfl rfl ?_
  refine T_getI 20 1 (dk dtk_X9_cut 77 rfl) kfl_X9_31 kk_20 (kl_20 hq) (by decide) rfl ?_
  obtain ⟨h3, h⟩ := h
  obtain ⟨x4, ex4⟩ : ∃ z, z = si x2 24 (x2.1 20 7 : Int32).toNatClampNeg (x2.1 20 1) := ⟨_, rfl⟩
  have h := h x4 ex4
  refine T_iast 24 702 (dk dtk_X9_cut 78 rfl) kk_24 (kl_24 hq) h3 ?_
  rw [← ex4]
  refine T_aload_n 0 (dk dtk_X9_cut 79 rfl) rfl rfl ?_
  refine T_getR 20 4 25 (dk dtk_X9_cut 80 rfl) kfl_X9_22 kk_20 (kl_20 hq) (by decide) rfl kr_20_4 ?_
  refine T_aload_n 0 (dk dtk_X9_cut 81 rfl) rfl rfl ?_
  refine T_getI 20 7 (dk dtk_X9_cut 82 rfl) kfl_X9_41 kk_20 (kl_20 hq) (by decide) rfl ?_
  refine T_aload_n 0 (dk dtk_X9_cut 83 rfl) rfl rfl ?_
  refine T_getI 20 9 (dk dtk_X9_cut 84 rfl) kfl_X9_38 kk_20 (kl_20 hq) (by decide) rfl ?_
  obtain ⟨h5, h⟩ := h
  obtain ⟨x6, ex6⟩ : ∃ z, z = si x4 25 (x4.1 20 7 : Int32).toNatClampNeg (x4.1 20 9) := ⟨_, rfl⟩
  have h := h x6 ex6
  refine T_iast 25 702 (dk dtk_X9_cut 85 rfl) kk_25 (kl_25 hq) h5 ?_
  rw [← ex6]
  exact KT_vret (dk dtk_X9_cut 86 rfl) rfl h
set_option maxRecDepth 100000 in
theorem dtk_X9_sameName : dck cX9_sameName [(0, .aload_n 0, 1), (1, .getfield 28, 3), (4, .iload_n 1, 1), (5, .iaload, 1), (6, .aload_n 0, 1), (7, .getfield 28, 3), (10, .iload_n 2, 1), (11, .iaload, 1), (12, .if_icmp .ne 18, 3), (15, .aload_n 0, 1), (16, .getfield 25, 3), (19, .iload_n 1, 1), (20, .iaload, 1), (21, .aload_n 0, 1), (22, .getfield 25, 3), (25, .iload_n 2, 1), (26, .iaload, 1), (27, .if_icmp .eq 5, 3), (30, .iconst 0, 1), (31, .ireturn, 1), (32, .iconst 0, 1), (33, .istore_n 3, 1), (34, .iload_n 3, 1), (35, .aload_n 0, 1), (36, .getfield 25, 3), (39, .iload_n 1, 1), (40, .iaload, 1), (41, .if_icmp .ge 40, 3), (44, .aload_n 0, 1), (45, .getfield 9, 3), (48, .aload_n 0, 1), (49, .getfield 19, 3), (52, .iload_n 1, 1), (53, .iaload, 1), (54, .iload_n 3, 1), (55, .iadd, 1), (56, .baload, 1), (57, .aload_n 0, 1), (58, .getfield 9, 3), (61, .aload_n 0, 1), (62, .getfield 19, 3), (65, .iload_n 2, 1), (66, .iaload, 1), (67, .iload_n 3, 1), (68, .iadd, 1), (69, .baload, 1), (70, .if_icmp .eq 5, 3), (73, .iconst 0, 1), (74, .ireturn, 1), (75, .iinc 3 1, 3), (78, .goto (-44), 3), (81, .iconst 1, 1), (82, .ireturn, 1)] = true := by decide +kernel
set_option maxRecDepth 100000 in
set_option maxHeartbeats 4000000 in
theorem kg_X9_sameName_0 {G : kG} {q : kP} {d : Nat} {x : gd} {P : Option gv → gd → Prop} (hq : kV q) (l1 : Int32) (l2 : Int32)
    (h : vp_in l1 702 ∧ vp_in l2 702 ∧ ((¬ ((x.1 27 (l1 : Int32).toNatClampNeg) = (x.1 27 (l2 : Int32).toNatClampNeg)) → P (some (vi 0)) x) ∧ ((x.1 27 (l1 : Int32).toNatClampNeg) = (x.1 27 (l2 : Int32).toNatClampNeg) → vp_in l1 702 ∧ vp_in l2 702 ∧ (((x.1 26 (l1 : Int32).toNatClampNeg) = (x.1 26 (l2 : Int32).toNatClampNeg) → KT G q d zk_X9_sameName 34 [(0, vr 20), (1, vi l1), (2, vi l2), (3, vi 0)] [] x P) ∧ (¬ ((x.1 26 (l1 : Int32).toNatClampNeg) = (x.1 26 (l2 : Int32).toNatClampNeg)) → P (some (vi 0)) x))))) :
    KT G q d zk_X9_sameName 0 [(0, vr 20), (1, vi l1), (2, vi l2)] [] x P := by
  refine T_aload_n 0 (dk dtk_X9_sameName 0 rfl) rfl rfl ?_
  refine T_getR 20 6 27 (dk dtk_X9_sameName 1 rfl) kfl_X9_28 kk_20 (kl_20 hq) (by decide) rfl kr_20_6 ?_
  refine T_iload_n 1 (dk dtk_X9_sameName 2 rfl) rfl rfl ?_
  obtain ⟨h1, h⟩ := h
  refine T_iald 27 702 (dk dtk_X9_sameName 3 rfl) kk_27 (kl_27 hq) h1 ?_
  refine T_aload_n 0 (dk dtk_X9_sameName 4 rfl) rfl rfl ?_
  refine T_getR 20 6 27 (dk dtk_X9_sameName 5 rfl) kfl_X9_28 kk_20 (kl_20 hq) (by decide) rfl kr_20_6 ?_
  refine T_iload_n 2 (dk dtk_X9_sameName 6 rfl) rfl rfl ?_
  obtain ⟨h2, h⟩ := h
  refine T_iald 27 702 (dk dtk_X9_sameName 7 rfl) kk_27 (kl_27 hq) h2 ?_
  refine T_icmp_ne 30 (dk dtk_X9_sameName 8 rfl) (by decide) (fun c3 => ?_) (fun c3 => ?_)
  · have h := h.1 c3
    refine T_iconst (v := 0) (dk dtk_X9_sameName 18 rfl) (by decide +kernel) ?_
    exact KT_iret (dk dtk_X9_sameName 19 rfl) rfl rfl h
  · have h := h.2 c3
    refine T_aload_n 0 (dk dtk_X9_sameName 9 rfl) rfl rfl ?_
    refine T_getR 20 5 26 (dk dtk_X9_sameName 10 rfl) kfl_X9_25 kk_20 (kl_20 hq) (by decide) rfl kr_20_5 ?_
    refine T_iload_n 1 (dk dtk_X9_sameName 11 rfl) rfl rfl ?_
    obtain ⟨h4, h⟩ := h
    refine T_iald 26 702 (dk dtk_X9_sameName 12 rfl) kk_26 (kl_26 hq) h4 ?_
    refine T_aload_n 0 (dk dtk_X9_sameName 13 rfl) rfl rfl ?_
    refine T_getR 20 5 26 (dk dtk_X9_sameName 14 rfl) kfl_X9_25 kk_20 (kl_20 hq) (by decide) rfl kr_20_5 ?_
    refine T_iload_n 2 (dk dtk_X9_sameName 15 rfl) rfl rfl ?_
    obtain ⟨h5, h⟩ := h
    refine T_iald 26 702 (dk dtk_X9_sameName 16 rfl) kk_26 (kl_26 hq) h5 ?_
    refine T_icmp_eq 32 (dk dtk_X9_sameName 17 rfl) (by decide) (fun c6 => ?_) (fun c6 => ?_)
    · have h := h.1 c6
      refine T_iconst (v := 0) (dk dtk_X9_sameName 20 rfl) (by decide +kernel) ?_
      refine T_istore_n (lv2 := [(3, vi 0), (0, vr 20), (1, vi l1), (2, vi l2)]) (dk dtk_X9_sameName 21 rfl) rfl (by decide) rfl ?_
      exact T_sub [1, 2, 3, 0] rfl h
    · have h := h.2 c6
      refine T_iconst (v := 0) (dk dtk_X9_sameName 18 rfl) (by decide +kernel) ?_
      exact KT_iret (dk dtk_X9_sameName 19 rfl) rfl rfl h
set_option maxRecDepth 100000 in
set_option maxHeartbeats 4000000 in
theorem kg_X9_sameName_34 {G : kG} {q : kP} {d : Nat} {x : gd} {P : Option gv → gd → Prop} (hq : kV q) (l1 : Int32) (l2 : Int32) (l3 : Int32)
    (h : vp_in l1 702 ∧ (((x.1 26 (l1 : Int32).toNatClampNeg) ≤ l3 → P (some (vi 1)) x) ∧ (¬ ((x.1 26 (l1 : Int32).toNatClampNeg) ≤ l3) → vp_in l1 702 ∧ vp_in ((x.1 24 (l1 : Int32).toNatClampNeg) + l3) 3000 ∧ vp_in l2 702 ∧ vp_in ((x.1 24 (l2 : Int32).toNatClampNeg) + l3) 3000 ∧ (((x.1 21 ((x.1 24 (l1 : Int32).toNatClampNeg) + l3 : Int32).toNatClampNeg) = (x.1 21 ((x.1 24 (l2 : Int32).toNatClampNeg) + l3 : Int32).toNatClampNeg) → KT G q d zk_X9_sameName 34 [(0, vr 20), (1, vi l1), (2, vi l2), (3, vi (l3 + 1))] [] x P) ∧ (¬ ((x.1 21 ((x.1 24 (l1 : Int32).toNatClampNeg) + l3 : Int32).toNatClampNeg) = (x.1 21 ((x.1 24 (l2 : Int32).toNatClampNeg) + l3 : Int32).toNatClampNeg)) → P (some (vi 0)) x))))) :
    KT G q d zk_X9_sameName 34 [(0, vr 20), (1, vi l1), (2, vi l2), (3, vi l3)] [] x P := by
  refine T_iload_n 3 (dk dtk_X9_sameName 22 rfl) rfl rfl ?_
  refine T_aload_n 0 (dk dtk_X9_sameName 23 rfl) rfl rfl ?_
  refine T_getR 20 5 26 (dk dtk_X9_sameName 24 rfl) kfl_X9_25 kk_20 (kl_20 hq) (by decide) rfl kr_20_5 ?_
  refine T_iload_n 1 (dk dtk_X9_sameName 25 rfl) rfl rfl ?_
  obtain ⟨h1, h⟩ := h
  refine T_iald 26 702 (dk dtk_X9_sameName 26 rfl) kk_26 (kl_26 hq) h1 ?_
  refine T_icmp_ge 81 (dk dtk_X9_sameName 27 rfl) (by decide) (fun c2 => ?_) (fun c2 => ?_)
  · have h := h.1 c2
    refine T_iconst (v := 1) (dk dtk_X9_sameName 51 rfl) (by decide +kernel) ?_
    exact KT_iret (dk dtk_X9_sameName 52 rfl) rfl rfl h
  · have h := h.2 c2
    refine T_aload_n 0 (dk dtk_X9_sameName 28 rfl) rfl rfl ?_
    refine T_getR 20 0 21 (dk dtk_X9_sameName 29 rfl) kfl_X9_9 kk_20 (kl_20 hq) (by decide) rfl kr_20_0 ?_
    refine T_aload_n 0 (dk dtk_X9_sameName 30 rfl) rfl rfl ?_
    refine T_getR 20 3 24 (dk dtk_X9_sameName 31 rfl) kfl_X9_19 kk_20 (kl_20 hq) (by decide) rfl kr_20_3 ?_
    refine T_iload_n 1 (dk dtk_X9_sameName 32 rfl) rfl rfl ?_
    obtain ⟨h3, h⟩ := h
    refine T_iald 24 702 (dk dtk_X9_sameName 33 rfl) kk_24 (kl_24 hq) h3 ?_
    refine T_iload_n 3 (dk dtk_X9_sameName 34 rfl) rfl rfl ?_
    refine T_iadd (dk dtk_X9_sameName 35 rfl) ?_
    obtain ⟨h4, h⟩ := h
    refine T_bald 21 3000 (dk dtk_X9_sameName 36 rfl) kk_21 (kl_21 hq) h4 ?_
    refine T_aload_n 0 (dk dtk_X9_sameName 37 rfl) rfl rfl ?_
    refine T_getR 20 0 21 (dk dtk_X9_sameName 38 rfl) kfl_X9_9 kk_20 (kl_20 hq) (by decide) rfl kr_20_0 ?_
    refine T_aload_n 0 (dk dtk_X9_sameName 39 rfl) rfl rfl ?_
    refine T_getR 20 3 24 (dk dtk_X9_sameName 40 rfl) kfl_X9_19 kk_20 (kl_20 hq) (by decide) rfl kr_20_3 ?_
    refine T_iload_n 2 (dk dtk_X9_sameName 41 rfl) rfl rfl ?_
    obtain ⟨h5, h⟩ := h
    refine T_iald 24 702 (dk dtk_X9_sameName 42 rfl) kk_24 (kl_24 hq) h5 ?_
    refine T_iload_n 3 (dk dtk_X9_sameName 43 rfl) rfl rfl ?_
    refine T_iadd (dk dtk_X9_sameName 44 rfl) ?_
    obtain ⟨h6, h⟩ := h
    refine T_bald 21 3000 (dk dtk_X9_sameName 45 rfl) kk_21 (kl_21 hq) h6 ?_
    refine T_icmp_eq 75 (dk dtk_X9_sameName 46 rfl) (by decide) (fun c7 => ?_) (fun c7 => ?_)
    · have h := h.1 c7
      refine T_iinc (v := l3 + 1) (lv2 := [(3, vi (l3 + 1)), (0, vr 20), (1, vi l1), (2, vi l2)]) 3 (dk dtk_X9_sameName 49 rfl) rfl rfl (by decide) rfl ?_
      refine T_goto 34 (dk dtk_X9_sameName 50 rfl) (by decide) ?_
      exact T_sub [1, 2, 3, 0] rfl h
    · have h := h.2 c7
      refine T_iconst (v := 0) (dk dtk_X9_sameName 47 rfl) (by decide +kernel) ?_
      exact KT_iret (dk dtk_X9_sameName 48 rfl) rfl rfl h
set_option maxRecDepth 100000 in
theorem dtk_X9_byteAt : dck cX9_byteAt [(0, .iload_n 1, 1), (1, .aload_n 0, 1), (2, .getfield 31, 3), (5, .if_icmp .ge 16, 3), (8, .aload_n 0, 1), (9, .getfield 9, 3), (12, .iload_n 1, 1), (13, .baload, 1), (14, .sipush 255, 3), (17, .iand, 1), (18, .goto 4, 3), (21, .iconst 0, 1), (22, .ireturn, 1)] = true := by decide +kernel
set_option maxRecDepth 100000 in
set_option maxHeartbeats 4000000 in
theorem kg_X9_byteAt_0 {G : kG} {q : kP} {d : Nat} {x : gd} {P : Option gv → gd → Prop} (hq : kV q) (l1 : Int32)
    (h : (((x.1 20 1) ≤ l1 → P (some (vi 0)) x) ∧ (¬ ((x.1 20 1) ≤ l1) → vp_in l1 3000 ∧ P (some (vi ((x.1 21 (l1 : Int32).toNatClampNeg) &&& 255))) x))) :
    KT G q d zk_X9_byteAt 0 [(0, vr 20), (1, vi l1)] [] x P := by
  refine T_iload_n 1 (dk dtk_X9_byteAt 0 rfl) rfl rfl ?_
  refine T_aload_n 0 (dk dtk_X9_byteAt 1 rfl) rfl rfl ?_
  refine T_getI 20 1 (dk dtk_X9_byteAt 2 rfl) kfl_X9_31 kk_20 (kl_20 hq) (by decide) rfl ?_
  refine T_icmp_ge 21 (dk dtk_X9_byteAt 3 rfl) (by decide) (fun c1 => ?_) (fun c1 => ?_)
  · have h := h.1 c1
    refine T_iconst (v := 0) (dk dtk_X9_byteAt 11 rfl) (by decide +kernel) ?_
    exact KT_iret (dk dtk_X9_byteAt 12 rfl) rfl rfl h
  · have h := h.2 c1
    refine T_aload_n 0 (dk dtk_X9_byteAt 4 rfl) rfl rfl ?_
    refine T_getR 20 0 21 (dk dtk_X9_byteAt 5 rfl) kfl_X9_9 kk_20 (kl_20 hq) (by decide) rfl kr_20_0 ?_
    refine T_iload_n 1 (dk dtk_X9_byteAt 6 rfl) rfl rfl ?_
    obtain ⟨h2, h⟩ := h
    refine T_bald 21 3000 (dk dtk_X9_byteAt 7 rfl) kk_21 (kl_21 hq) h2 ?_
    refine T_sipush (v := 255) (dk dtk_X9_byteAt 8 rfl) (by decide +kernel) ?_
    refine T_iand (dk dtk_X9_byteAt 9 rfl) ?_
    refine T_goto 22 (dk dtk_X9_byteAt 10 rfl) (by decide) ?_
    exact KT_iret (dk dtk_X9_byteAt 12 rfl) rfl rfl h
set_option maxRecDepth 100000 in
theorem dtk_X9_skipBlanks : dck cX9_skipBlanks [(0, .iconst 0, 1), (1, .istore_n 1, 1), (2, .aload_n 0, 1), (3, .getfield 35, 3), (6, .aload_n 0, 1), (7, .getfield 31, 3), (10, .if_icmp .ge 95, 3), (13, .aload_n 0, 1), (14, .aload_n 0, 1), (15, .getfield 35, 3), (18, .invokevirtual 51, 3), (21, .istore_n 2, 1), (22, .iload_n 2, 1), (23, .bipush 10, 2), (25, .if_icmp .ne 18, 3), (28, .aload_n 0, 1), (29, .dup, 1), (30, .getfield 38, 3), (33, .iconst 1, 1), (34, .iadd, 1), (35, .putfield 38, 3), (38, .iconst 0, 1), (39, .istore_n 1, 1), (40, .goto 52, 3), (43, .iload_n 2, 1), (44, .bipush 47, 2), (46, .if_icmp .ne 23, 3), (49, .aload_n 0, 1), (50, .aload_n 0, 1), (51, .getfield 35, 3), (54, .iconst 1, 1), (55, .iadd, 1), (56, .invokevirtual 51, 3), (59, .bipush 47, 2), (61, .if_icmp .ne 8, 3), (64, .iconst 1, 1), (65, .istore_n 1, 1), (66, .goto 26, 3), (69, .iload_n 1, 1), (70, .ifCond .ne 22, 3), (73, .iload_n 2, 1), (74, .bipush 32, 2), (76, .if_icmp .eq 16, 3), (79, .iload_n 2, 1), (80, .bipush 9, 2), (82, .if_icmp .eq 10, 3), (85, .iload_n 2, 1), (86, .bipush 13, 2), (88, .if_icmp .eq 4, 3), (91, .return_, 1), (92, .aload_n 0, 1), (93, .dup, 1), (94, .getfield 35, 3), (97, .iconst 1, 1), (98, .iadd, 1), (99, .putfield 35, 3), (102, .goto (-100), 3), (105, .return_, 1)] = true := by decide +kernel
set_option maxRecDepth 100000 in
set_option maxHeartbeats 4000000 in
theorem kg_X9_skipBlanks_0 {G : kG} {q : kP} {d : Nat} {x : gd} {P : Option gv → gd → Prop} (hq : kV q) 
    (h : KT G q (d + 1) zk_X9_skipBlanks 2 [(0, vr 20), (1, vi 0)] [] x P) :
    KT G q (d + 1) zk_X9_skipBlanks 0 [(0, vr 20)] [] x P := by
  refine T_iconst (v := 0) (dk dtk_X9_skipBlanks 0 rfl) (by decide +kernel) ?_
  refine T_istore_n (lv2 := [(1, vi 0), (0, vr 20)]) (dk dtk_X9_skipBlanks 1 rfl) rfl (by decide) rfl ?_
  exact T_sub [1, 0] rfl h
set_option maxRecDepth 100000 in
set_option maxHeartbeats 4000000 in
theorem kg_X9_skipBlanks_2 {G : kG} {q : kP} {d : Nat} {x : gd} {P : Option gv → gd → Prop} (hq : kV q) (l1 : Int32)
    (h : (((x.1 20 1) ≤ (x.1 20 8) → P none x) ∧ (¬ ((x.1 20 1) ≤ (x.1 20 8)) → KT G q d zk_X9_byteAt 0 [(0, vr 20), (1, vi (x.1 20 8))] [] x (ri (fun r3 x2 => ((¬ (r3 = (10 : Int32)) → ((¬ (r3 = (47 : Int32)) → KT G q (d + 1) zk_X9_skipBlanks 69 [(0, vr 20), (1, vi l1), (2, vi r3)] [] x2 P) ∧ (r3 = (47 : Int32) → KT G q d zk_X9_byteAt 0 [(0, vr 20), (1, vi ((x2.1 20 8) + 1))] [] x2 (ri (fun r7 x6 => ((¬ (r7 = (47 : Int32)) → KT G q (d + 1) zk_X9_skipBlanks 69 [(0, vr 20), (1, vi l1), (2, vi r3)] [] x6 P) ∧ (r7 = (47 : Int32) → (∀ x9 : gd, x9 = si x6 20 8 ((x6.1 20 8) + 1) → KT G q (d + 1) zk_X9_skipBlanks 2 [(0, vr 20), (1, vi 1)] [] x9 P)))))))) ∧ (r3 = (10 : Int32) → (∀ x10 : gd, x10 = si x2 20 9 ((x2.1 20 9) + 1) → (∀ x11 : gd, x11 = si x10 20 8 ((x10.1 20 8) + 1) → KT G q (d + 1) zk_X9_skipBlanks 2 [(0, vr 20), (1, vi 0)] [] x11 P))))))))) :
    KT G q (d + 1) zk_X9_skipBlanks 2 [(0, vr 20), (1, vi l1)] [] x P := by
  refine T_aload_n 0 (dk dtk_X9_skipBlanks 2 rfl) rfl rfl ?_
  refine T_getI 20 8 (dk dtk_X9_skipBlanks 3 rfl) kfl_X9_35 kk_20 (kl_20 hq) (by decide) rfl ?_
  refine T_aload_n 0 (dk dtk_X9_skipBlanks 4 rfl) rfl rfl ?_
  refine T_getI 20 1 (dk dtk_X9_skipBlanks 5 rfl) kfl_X9_31 kk_20 (kl_20 hq) (by decide) rfl ?_
  refine T_icmp_ge 105 (dk dtk_X9_skipBlanks 6 rfl) (by decide) (fun c1 => ?_) (fun c1 => ?_)
  · have h := h.1 c1
    exact KT_vret (dk dtk_X9_skipBlanks 57 rfl) rfl h
  · have h := h.2 c1
    refine T_aload_n 0 (dk dtk_X9_skipBlanks 7 rfl) rfl rfl ?_
    refine T_aload_n 0 (dk dtk_X9_skipBlanks 8 rfl) rfl rfl ?_
    refine T_getI 20 8 (dk dtk_X9_skipBlanks 9 rfl) kfl_X9_35 kk_20 (kl_20 hq) (by decide) rfl ?_
    refine KC_Vi [vi (x.1 20 8)] [] rfl (dk dtk_X9_skipBlanks 10 rfl) kcv_X9_51 rfl kk_20 rfl (kl_20 hq) (Nat.le_of_ble_eq_true rfl) (Nat.le_of_ble_eq_true rfl) (gok_i (av_c (gkr (kl_20 hq)) (av_c rfl av_n)) as_n) rfl h (fun r3 x2 h => ?_)
    refine T_istore_n (lv2 := [(2, vi r3), (0, vr 20), (1, vi l1)]) (dk dtk_X9_skipBlanks 11 rfl) rfl (by decide) rfl ?_
    refine T_iload_n 0 (dk dtk_X9_skipBlanks 12 rfl) rfl rfl ?_
    refine T_bipush (v := 10) (dk dtk_X9_skipBlanks 13 rfl) (by decide +kernel) ?_
    refine T_icmp_ne 43 (dk dtk_X9_skipBlanks 14 rfl) (by decide) (fun c4 => ?_) (fun c4 => ?_)
    · have h := h.1 c4
      refine T_iload_n 0 (dk dtk_X9_skipBlanks 24 rfl) rfl rfl ?_
      refine T_bipush (v := 47) (dk dtk_X9_skipBlanks 25 rfl) (by decide +kernel) ?_
      refine T_icmp_ne 69 (dk dtk_X9_skipBlanks 26 rfl) (by decide) (fun c5 => ?_) (fun c5 => ?_)
      · have h := h.1 c5
        exact T_sub [1, 2, 0] rfl h
      · have h := h.2 c5
        refine T_aload_n 1 (dk dtk_X9_skipBlanks 27 rfl) rfl rfl ?_
        refine T_aload_n 1 (dk dtk_X9_skipBlanks 28 rfl) rfl rfl ?_
        refine T_getI 20 8 (dk dtk_X9_skipBlanks 29 rfl) kfl_X9_35 kk_20 (kl_20 hq) (by decide) rfl ?_
        refine T_iconst (v := 1) (dk dtk_X9_skipBlanks 30 rfl) (by decide +kernel) ?_
        refine T_iadd (dk dtk_X9_skipBlanks 31 rfl) ?_
        refine KC_Vi [vi ((x2.1 20 8) + 1)] [] rfl (dk dtk_X9_skipBlanks 32 rfl) kcv_X9_51 rfl kk_20 rfl (kl_20 hq) (Nat.le_of_ble_eq_true rfl) (Nat.le_of_ble_eq_true rfl) (gok_i (av_c rfl (av_c (gkr (kl_20 hq)) (av_c rfl av_n))) as_n) rfl h (fun r7 x6 h => ?_)
        refine T_bipush (v := 47) (dk dtk_X9_skipBlanks 33 rfl) (by decide +kernel) ?_
        refine T_icmp_ne 69 (dk dtk_X9_skipBlanks 34 rfl) (by decide) (fun c8 => ?_) (fun c8 => ?_)
        · have h := h.1 c8
          exact T_sub [1, 2, 0] rfl h
        · have h := h.2 c8
          refine T_iconst (v := 1) (dk dtk_X9_skipBlanks 35 rfl) (by decide +kernel) ?_
          refine T_istore_n (lv2 := [(1, vi 1), (2, vi r3), (0, vr 20)]) (dk dtk_X9_skipBlanks 36 rfl) rfl (by decide) rfl ?_
          refine T_goto 92 (dk dtk_X9_skipBlanks 37 rfl) (by decide) ?_
          refine T_aload_n 2 (dk dtk_X9_skipBlanks 50 rfl) rfl rfl ?_
          refine T_dup (dk dtk_X9_skipBlanks 51 rfl) rfl ?_
          refine T_getI 20 8 (dk dtk_X9_skipBlanks 52 rfl) kfl_X9_35 kk_20 (kl_20 hq) (by decide) rfl ?_
          refine T_iconst (v := 1) (dk dtk_X9_skipBlanks 53 rfl) (by decide +kernel) ?_
          refine T_iadd (dk dtk_X9_skipBlanks 54 rfl) ?_
          obtain ⟨x9, ex9⟩ : ∃ z, z = si x6 20 8 ((x6.1 20 8) + 1) := ⟨_, rfl⟩
          have h := h x9 ex9
          refine T_putI 20 8 (dk dtk_X9_skipBlanks 55 rfl) kfl_X9_35 kk_20 (kl_20 hq) (by decide) rfl ⟨rfl, rfl⟩ ?_
          rw [← ex9]
          refine T_goto 2 (dk dtk_X9_skipBlanks 56 rfl) (by decide) ?_
          exact T_sub [2, 0] rfl h
    · have h := h.2 c4
      refine T_aload_n 1 (dk dtk_X9_skipBlanks 15 rfl) rfl rfl ?_
      refine T_dup (dk dtk_X9_skipBlanks 16 rfl) rfl ?_
      refine T_getI 20 9 (dk dtk_X9_skipBlanks 17 rfl) kfl_X9_38 kk_20 (kl_20 hq) (by decide) rfl ?_
      refine T_iconst (v := 1) (dk dtk_X9_skipBlanks 18 rfl) (by decide +kernel) ?_
      refine T_iadd (dk dtk_X9_skipBlanks 19 rfl) ?_
      obtain ⟨x10, ex10⟩ : ∃ z, z = si x2 20 9 ((x2.1 20 9) + 1) := ⟨_, rfl⟩
      have h := h x10 ex10
      refine T_putI 20 9 (dk dtk_X9_skipBlanks 20 rfl) kfl_X9_38 kk_20 (kl_20 hq) (by decide) rfl ⟨rfl, rfl⟩ ?_
      rw [← ex10]
      refine T_iconst (v := 0) (dk dtk_X9_skipBlanks 21 rfl) (by decide +kernel) ?_
      refine T_istore_n (lv2 := [(1, vi 0), (2, vi r3), (0, vr 20)]) (dk dtk_X9_skipBlanks 22 rfl) rfl (by decide) rfl ?_
      refine T_goto 92 (dk dtk_X9_skipBlanks 23 rfl) (by decide) ?_
      refine T_aload_n 2 (dk dtk_X9_skipBlanks 50 rfl) rfl rfl ?_
      refine T_dup (dk dtk_X9_skipBlanks 51 rfl) rfl ?_
      refine T_getI 20 8 (dk dtk_X9_skipBlanks 52 rfl) kfl_X9_35 kk_20 (kl_20 hq) (by decide) rfl ?_
      refine T_iconst (v := 1) (dk dtk_X9_skipBlanks 53 rfl) (by decide +kernel) ?_
      refine T_iadd (dk dtk_X9_skipBlanks 54 rfl) ?_
      obtain ⟨x11, ex11⟩ : ∃ z, z = si x10 20 8 ((x10.1 20 8) + 1) := ⟨_, rfl⟩
      have h := h x11 ex11
      refine T_putI 20 8 (dk dtk_X9_skipBlanks 55 rfl) kfl_X9_35 kk_20 (kl_20 hq) (by decide) rfl ⟨rfl, rfl⟩ ?_
      rw [← ex11]
      refine T_goto 2 (dk dtk_X9_skipBlanks 56 rfl) (by decide) ?_
      exact T_sub [2, 0] rfl h
set_option maxRecDepth 100000 in
set_option maxHeartbeats 4000000 in
theorem kg_X9_skipBlanks_69 {G : kG} {q : kP} {d : Nat} {x : gd} {P : Option gv → gd → Prop} (hq : kV q) (l1 : Int32) (l2 : Int32)
    (h : ((¬ (l1 = (0 : Int32)) → (∀ x2 : gd, x2 = si x 20 8 ((x.1 20 8) + 1) → KT G q (d + 1) zk_X9_skipBlanks 2 [(0, vr 20), (1, vi l1)] [] x2 P)) ∧ (l1 = (0 : Int32) → ((l2 = (32 : Int32) → (∀ x4 : gd, x4 = si x 20 8 ((x.1 20 8) + 1) → KT G q (d + 1) zk_X9_skipBlanks 2 [(0, vr 20), (1, vi l1)] [] x4 P)) ∧ (¬ (l2 = (32 : Int32)) → ((l2 = (9 : Int32) → (∀ x6 : gd, x6 = si x 20 8 ((x.1 20 8) + 1) → KT G q (d + 1) zk_X9_skipBlanks 2 [(0, vr 20), (1, vi l1)] [] x6 P)) ∧ (¬ (l2 = (9 : Int32)) → ((l2 = (13 : Int32) → (∀ x8 : gd, x8 = si x 20 8 ((x.1 20 8) + 1) → KT G q (d + 1) zk_X9_skipBlanks 2 [(0, vr 20), (1, vi l1)] [] x8 P)) ∧ (¬ (l2 = (13 : Int32)) → P none x))))))))) :
    KT G q (d + 1) zk_X9_skipBlanks 69 [(0, vr 20), (1, vi l1), (2, vi l2)] [] x P := by
  refine T_iload_n 1 (dk dtk_X9_skipBlanks 38 rfl) rfl rfl ?_
  refine T_if_ne 92 (dk dtk_X9_skipBlanks 39 rfl) (by decide) (fun c1 => ?_) (fun c1 => ?_)
  · have h := h.1 c1
    refine T_aload_n 0 (dk dtk_X9_skipBlanks 50 rfl) rfl rfl ?_
    refine T_dup (dk dtk_X9_skipBlanks 51 rfl) rfl ?_
    refine T_getI 20 8 (dk dtk_X9_skipBlanks 52 rfl) kfl_X9_35 kk_20 (kl_20 hq) (by decide) rfl ?_
    refine T_iconst (v := 1) (dk dtk_X9_skipBlanks 53 rfl) (by decide +kernel) ?_
    refine T_iadd (dk dtk_X9_skipBlanks 54 rfl) ?_
    obtain ⟨x2, ex2⟩ : ∃ z, z = si x 20 8 ((x.1 20 8) + 1) := ⟨_, rfl⟩
    have h := h x2 ex2
    refine T_putI 20 8 (dk dtk_X9_skipBlanks 55 rfl) kfl_X9_35 kk_20 (kl_20 hq) (by decide) rfl ⟨rfl, rfl⟩ ?_
    rw [← ex2]
    refine T_goto 2 (dk dtk_X9_skipBlanks 56 rfl) (by decide) ?_
    exact T_sub [0, 1] rfl h
  · have h := h.2 c1
    refine T_iload_n 2 (dk dtk_X9_skipBlanks 40 rfl) rfl rfl ?_
    refine T_bipush (v := 32) (dk dtk_X9_skipBlanks 41 rfl) (by decide +kernel) ?_
    refine T_icmp_eq 92 (dk dtk_X9_skipBlanks 42 rfl) (by decide) (fun c3 => ?_) (fun c3 => ?_)
    · have h := h.1 c3
      refine T_aload_n 0 (dk dtk_X9_skipBlanks 50 rfl) rfl rfl ?_
      refine T_dup (dk dtk_X9_skipBlanks 51 rfl) rfl ?_
      refine T_getI 20 8 (dk dtk_X9_skipBlanks 52 rfl) kfl_X9_35 kk_20 (kl_20 hq) (by decide) rfl ?_
      refine T_iconst (v := 1) (dk dtk_X9_skipBlanks 53 rfl) (by decide +kernel) ?_
      refine T_iadd (dk dtk_X9_skipBlanks 54 rfl) ?_
      obtain ⟨x4, ex4⟩ : ∃ z, z = si x 20 8 ((x.1 20 8) + 1) := ⟨_, rfl⟩
      have h := h x4 ex4
      refine T_putI 20 8 (dk dtk_X9_skipBlanks 55 rfl) kfl_X9_35 kk_20 (kl_20 hq) (by decide) rfl ⟨rfl, rfl⟩ ?_
      rw [← ex4]
      refine T_goto 2 (dk dtk_X9_skipBlanks 56 rfl) (by decide) ?_
      exact T_sub [0, 1] rfl h
    · have h := h.2 c3
      refine T_iload_n 2 (dk dtk_X9_skipBlanks 43 rfl) rfl rfl ?_
      refine T_bipush (v := 9) (dk dtk_X9_skipBlanks 44 rfl) (by decide +kernel) ?_
      refine T_icmp_eq 92 (dk dtk_X9_skipBlanks 45 rfl) (by decide) (fun c5 => ?_) (fun c5 => ?_)
      · have h := h.1 c5
        refine T_aload_n 0 (dk dtk_X9_skipBlanks 50 rfl) rfl rfl ?_
        refine T_dup (dk dtk_X9_skipBlanks 51 rfl) rfl ?_
        refine T_getI 20 8 (dk dtk_X9_skipBlanks 52 rfl) kfl_X9_35 kk_20 (kl_20 hq) (by decide) rfl ?_
        refine T_iconst (v := 1) (dk dtk_X9_skipBlanks 53 rfl) (by decide +kernel) ?_
        refine T_iadd (dk dtk_X9_skipBlanks 54 rfl) ?_
        obtain ⟨x6, ex6⟩ : ∃ z, z = si x 20 8 ((x.1 20 8) + 1) := ⟨_, rfl⟩
        have h := h x6 ex6
        refine T_putI 20 8 (dk dtk_X9_skipBlanks 55 rfl) kfl_X9_35 kk_20 (kl_20 hq) (by decide) rfl ⟨rfl, rfl⟩ ?_
        rw [← ex6]
        refine T_goto 2 (dk dtk_X9_skipBlanks 56 rfl) (by decide) ?_
        exact T_sub [0, 1] rfl h
      · have h := h.2 c5
        refine T_iload_n 2 (dk dtk_X9_skipBlanks 46 rfl) rfl rfl ?_
        refine T_bipush (v := 13) (dk dtk_X9_skipBlanks 47 rfl) (by decide +kernel) ?_
        refine T_icmp_eq 92 (dk dtk_X9_skipBlanks 48 rfl) (by decide) (fun c7 => ?_) (fun c7 => ?_)
        · have h := h.1 c7
          refine T_aload_n 0 (dk dtk_X9_skipBlanks 50 rfl) rfl rfl ?_
          refine T_dup (dk dtk_X9_skipBlanks 51 rfl) rfl ?_
          refine T_getI 20 8 (dk dtk_X9_skipBlanks 52 rfl) kfl_X9_35 kk_20 (kl_20 hq) (by decide) rfl ?_
          refine T_iconst (v := 1) (dk dtk_X9_skipBlanks 53 rfl) (by decide +kernel) ?_
          refine T_iadd (dk dtk_X9_skipBlanks 54 rfl) ?_
          obtain ⟨x8, ex8⟩ : ∃ z, z = si x 20 8 ((x.1 20 8) + 1) := ⟨_, rfl⟩
          have h := h x8 ex8
          refine T_putI 20 8 (dk dtk_X9_skipBlanks 55 rfl) kfl_X9_35 kk_20 (kl_20 hq) (by decide) rfl ⟨rfl, rfl⟩ ?_
          rw [← ex8]
          refine T_goto 2 (dk dtk_X9_skipBlanks 56 rfl) (by decide) ?_
          exact T_sub [0, 1] rfl h
        · have h := h.2 c7
          exact KT_vret (dk dtk_X9_skipBlanks 49 rfl) rfl h
set_option maxRecDepth 100000 in
theorem dtk_X9_cutOne : dck cX9_cutOne [(0, .aload_n 0, 1), (1, .getfield 35, 3), (4, .istore_n 1, 1), (5, .aload_n 0, 1), (6, .aload_n 0, 1), (7, .getfield 35, 3), (10, .invokevirtual 51, 3), (13, .istore_n 2, 1), (14, .iload_n 2, 1), (15, .invokestatic 55, 3), (18, .ifCond .eq 13, 3), (21, .aload_n 0, 1), (22, .invokevirtual 59, 3), (25, .aload_n 0, 1), (26, .iload_n 1, 1), (27, .invokevirtual 62, 3), (30, .ireturn, 1), (31, .iload_n 2, 1), (32, .invokestatic 65, 3), (35, .ifCond .eq 13, 3), (38, .aload_n 0, 1), (39, .invokevirtual 59, 3), (42, .aload_n 0, 1), (43, .iload_n 1, 1), (44, .invokevirtual 68, 3), (47, .ireturn, 1), (48, .aload_n 0, 1), (49, .iload_n 2, 1), (50, .aload_n 0, 1), (51, .aload_n 0, 1), (52, .getfield 35, 3), (55, .iconst 1, 1), (56, .iadd, 1), (57, .invokevirtual 51, 3), (60, .invokevirtual 71, 3), (63, .ireturn, 1)] = true := by decide +kernel
set_option maxRecDepth 100000 in
set_option maxHeartbeats 4000000 in
theorem kg_X9_cutOne_0 {G : kG} {q : kP} {d : Nat} {x : gd} {P : Option gv → gd → Prop} (hq : kV q) 
    (h : KT G q d zk_X9_byteAt 0 [(0, vr 20), (1, vi (x.1 20 8))] [] x (ri (fun r2 x1 => KT G q d zk_X9_isLetter 0 [(0, vi r2)] [] x1 (ri (fun r4 x3 => ((r4 = (0 : Int32) → KT G q d zk_X9_isDigit 0 [(0, vi r2)] [] x3 (ri (fun r7 x6 => ((r7 = (0 : Int32) → KT G q d zk_X9_byteAt 0 [(0, vr 20), (1, vi ((x6.1 20 8) + 1))] [] x6 (ri (fun r10 x9 => KT G q d zk_X9_sign 0 [(0, vr 20), (1, vi r2), (2, vi r10)] [] x9 (ri (fun r12 x11 => P (some (vi r12)) x11))))) ∧ (¬ (r7 = (0 : Int32)) → KT G q d zk_X9_passLettersAndDigits 0 [(0, vr 20)] [] x6 (rv (fun x13 => KT G q d zk_X9_wholeOrBad 0 [(0, vr 20), (1, vi (x.1 20 8))] [] x13 (ri (fun r15 x14 => P (some (vi r15)) x14))))))))) ∧ (¬ (r4 = (0 : Int32)) → KT G q d zk_X9_passLettersAndDigits 0 [(0, vr 20)] [] x3 (rv (fun x16 => KT G q d zk_X9_nameOrWord 0 [(0, vr 20), (1, vi (x.1 20 8))] [] x16 (ri (fun r18 x17 => P (some (vi r18)) x17))))))))))) :
    KT G q (d + 1) zk_X9_cutOne 0 [(0, vr 20)] [] x P := by
  refine T_aload_n 0 (dk dtk_X9_cutOne 0 rfl) rfl rfl ?_
  refine T_getI 20 8 (dk dtk_X9_cutOne 1 rfl) kfl_X9_35 kk_20 (kl_20 hq) (by decide) rfl ?_
  refine T_istore_n (lv2 := [(1, vi (x.1 20 8)), (0, vr 20)]) (dk dtk_X9_cutOne 2 rfl) rfl (by decide) rfl ?_
  refine T_aload_n 1 (dk dtk_X9_cutOne 3 rfl) rfl rfl ?_
  refine T_aload_n 1 (dk dtk_X9_cutOne 4 rfl) rfl rfl ?_
  refine T_getI 20 8 (dk dtk_X9_cutOne 5 rfl) kfl_X9_35 kk_20 (kl_20 hq) (by decide) rfl ?_
  refine KC_Vi [vi (x.1 20 8)] [] rfl (dk dtk_X9_cutOne 6 rfl) kcv_X9_51 rfl kk_20 rfl (kl_20 hq) (Nat.le_of_ble_eq_true rfl) (Nat.le_of_ble_eq_true rfl) (gok_i (av_c rfl (av_c (gkr (kl_20 hq)) av_n)) as_n) rfl h (fun r2 x1 h => ?_)
  refine T_istore_n (lv2 := [(2, vi r2), (1, vi (x.1 20 8)), (0, vr 20)]) (dk dtk_X9_cutOne 7 rfl) rfl (by decide) rfl ?_
  refine T_iload_n 0 (dk dtk_X9_cutOne 8 rfl) rfl rfl ?_
  refine KC_Si [vi r2] [] rfl (dk dtk_X9_cutOne 9 rfl) kcs_X9_55 rfl (Nat.le_of_ble_eq_true rfl) (Nat.le_of_ble_eq_true rfl) (gok_i (av_c rfl (av_c rfl (av_c (gkr (kl_20 hq)) av_n))) as_n) rfl h (fun r4 x3 h => ?_)
  refine T_if_eq 31 (dk dtk_X9_cutOne 10 rfl) (by decide) (fun c5 => ?_) (fun c5 => ?_)
  · have h := h.1 c5
    refine T_iload_n 0 (dk dtk_X9_cutOne 17 rfl) rfl rfl ?_
    refine KC_Si [vi r2] [] rfl (dk dtk_X9_cutOne 18 rfl) kcs_X9_65 rfl (Nat.le_of_ble_eq_true rfl) (Nat.le_of_ble_eq_true rfl) (gok_i (av_c rfl (av_c rfl (av_c (gkr (kl_20 hq)) av_n))) as_n) rfl h (fun r7 x6 h => ?_)
    refine T_if_eq 48 (dk dtk_X9_cutOne 19 rfl) (by decide) (fun c8 => ?_) (fun c8 => ?_)
    · have h := h.1 c8
      refine T_aload_n 2 (dk dtk_X9_cutOne 26 rfl) rfl rfl ?_
      refine T_iload_n 0 (dk dtk_X9_cutOne 27 rfl) rfl rfl ?_
      refine T_aload_n 2 (dk dtk_X9_cutOne 28 rfl) rfl rfl ?_
      refine T_aload_n 2 (dk dtk_X9_cutOne 29 rfl) rfl rfl ?_
      refine T_getI 20 8 (dk dtk_X9_cutOne 30 rfl) kfl_X9_35 kk_20 (kl_20 hq) (by decide) rfl ?_
      refine T_iconst (v := 1) (dk dtk_X9_cutOne 31 rfl) (by decide +kernel) ?_
      refine T_iadd (dk dtk_X9_cutOne 32 rfl) ?_
      refine T_sub (lv2 := []) [] rfl ?_
      refine KC_Vi [vi ((x6.1 20 8) + 1)] [vi r2, vr 20] rfl (dk dtk_X9_cutOne 33 rfl) kcv_X9_51 rfl kk_20 rfl (kl_20 hq) (Nat.le_of_ble_eq_true rfl) (Nat.le_of_ble_eq_true rfl) (gok_i av_n (as_c rfl (as_c (gkr (kl_20 hq)) as_n))) rfl h (fun r10 x9 h => ?_)
      refine KC_Vi [vi r2, vi r10] [] rfl (dk dtk_X9_cutOne 34 rfl) kcv_X9_71 rfl kk_20 rfl (kl_20 hq) (Nat.le_of_ble_eq_true rfl) (Nat.le_of_ble_eq_true rfl) (gok_i av_n as_n) rfl h (fun r12 x11 h => ?_)
      exact KT_iret (dk dtk_X9_cutOne 35 rfl) rfl rfl h
    · have h := h.2 c8
      refine T_aload_n 2 (dk dtk_X9_cutOne 20 rfl) rfl rfl ?_
      refine T_sub (lv2 := [(1, vi (x.1 20 8)), (0, vr 20)]) [1, 2] rfl ?_
      refine KC_Vv [] [] rfl (dk dtk_X9_cutOne 21 rfl) kcv_X9_59 rfl kk_20 rfl (kl_20 hq) (Nat.le_of_ble_eq_true rfl) (Nat.le_of_ble_eq_true rfl) (gok_i (av_c rfl (av_c (gkr (kl_20 hq)) av_n)) as_n) rfl h (fun x13 h => ?_)
      refine T_aload_n 1 (dk dtk_X9_cutOne 22 rfl) rfl rfl ?_
      refine T_iload_n 0 (dk dtk_X9_cutOne 23 rfl) rfl rfl ?_
      refine T_sub (lv2 := []) [] rfl ?_
      refine KC_Vi [vi (x.1 20 8)] [] rfl (dk dtk_X9_cutOne 24 rfl) kcv_X9_68 rfl kk_20 rfl (kl_20 hq) (Nat.le_of_ble_eq_true rfl) (Nat.le_of_ble_eq_true rfl) (gok_i av_n as_n) rfl h (fun r15 x14 h => ?_)
      exact KT_iret (dk dtk_X9_cutOne 25 rfl) rfl rfl h
  · have h := h.2 c5
    refine T_aload_n 2 (dk dtk_X9_cutOne 11 rfl) rfl rfl ?_
    refine T_sub (lv2 := [(1, vi (x.1 20 8)), (0, vr 20)]) [1, 2] rfl ?_
    refine KC_Vv [] [] rfl (dk dtk_X9_cutOne 12 rfl) kcv_X9_59 rfl kk_20 rfl (kl_20 hq) (Nat.le_of_ble_eq_true rfl) (Nat.le_of_ble_eq_true rfl) (gok_i (av_c rfl (av_c (gkr (kl_20 hq)) av_n)) as_n) rfl h (fun x16 h => ?_)
    refine T_aload_n 1 (dk dtk_X9_cutOne 13 rfl) rfl rfl ?_
    refine T_iload_n 0 (dk dtk_X9_cutOne 14 rfl) rfl rfl ?_
    refine T_sub (lv2 := []) [] rfl ?_
    refine KC_Vi [vi (x.1 20 8)] [] rfl (dk dtk_X9_cutOne 15 rfl) kcv_X9_62 rfl kk_20 rfl (kl_20 hq) (Nat.le_of_ble_eq_true rfl) (Nat.le_of_ble_eq_true rfl) (gok_i av_n as_n) rfl h (fun r18 x17 h => ?_)
    exact KT_iret (dk dtk_X9_cutOne 16 rfl) rfl rfl h
set_option maxRecDepth 100000 in
theorem dtk_X9_passLettersAndDigits : dck cX9_passLettersAndDigits [(0, .aload_n 0, 1), (1, .getfield 35, 3), (4, .istore_n 1, 1), (5, .aload_n 0, 1), (6, .getfield 35, 3), (9, .aload_n 0, 1), (10, .getfield 31, 3), (13, .if_icmp .ge 42, 3), (16, .aload_n 0, 1), (17, .aload_n 0, 1), (18, .getfield 35, 3), (21, .invokevirtual 51, 3), (24, .istore_n 2, 1), (25, .iload_n 2, 1), (26, .invokestatic 55, 3), (29, .ifCond .ne 13, 3), (32, .iload_n 2, 1), (33, .invokestatic 65, 3), (36, .ifCond .ne 6, 3), (39, .goto 16, 3), (42, .aload_n 0, 1), (43, .dup, 1), (44, .getfield 35, 3), (47, .iconst 1, 1), (48, .iadd, 1), (49, .putfield 35, 3), (52, .goto (-47), 3), (55, .aload_n 0, 1), (56, .getfield 25, 3), (59, .aload_n 0, 1), (60, .getfield 41, 3), (63, .aload_n 0, 1), (64, .getfield 35, 3), (67, .iload_n 1, 1), (68, .isub, 1), (69, .iastore, 1), (70, .return_, 1)] = true := by decide +kernel
set_option maxRecDepth 100000 in
set_option maxHeartbeats 4000000 in
theorem kg_X9_passLettersAndDigits_0 {G : kG} {q : kP} {d : Nat} {x : gd} {P : Option gv → gd → Prop} (hq : kV q) 
    (h : KT G q (d + 1) zk_X9_passLettersAndDigits 5 [(0, vr 20), (1, vi (x.1 20 8))] [] x P) :
    KT G q (d + 1) zk_X9_passLettersAndDigits 0 [(0, vr 20)] [] x P := by
  refine T_aload_n 0 (dk dtk_X9_passLettersAndDigits 0 rfl) rfl rfl ?_
  refine T_getI 20 8 (dk dtk_X9_passLettersAndDigits 1 rfl) kfl_X9_35 kk_20 (kl_20 hq) (by decide) rfl ?_
  refine T_istore_n (lv2 := [(1, vi (x.1 20 8)), (0, vr 20)]) (dk dtk_X9_passLettersAndDigits 2 rfl) rfl (by decide) rfl ?_
  exact T_sub [1, 0] rfl h
set_option maxRecDepth 100000 in
set_option maxHeartbeats 4000000 in
theorem kg_X9_passLettersAndDigits_5 {G : kG} {q : kP} {d : Nat} {x : gd} {P : Option gv → gd → Prop} (hq : kV q) (l1 : Int32)
    (h : (((x.1 20 1) ≤ (x.1 20 8) → vp_in (x.1 20 7) 702 ∧ (∀ x3 : gd, x3 = si x 26 (x.1 20 7 : Int32).toNatClampNeg ((x.1 20 8) - l1) → P none x3)) ∧ (¬ ((x.1 20 1) ≤ (x.1 20 8)) → KT G q d zk_X9_byteAt 0 [(0, vr 20), (1, vi (x.1 20 8))] [] x (ri (fun r5 x4 => KT G q d zk_X9_isLetter 0 [(0, vi r5)] [] x4 (ri (fun r7 x6 => ((¬ (r7 = (0 : Int32)) → (∀ x9 : gd, x9 = si x6 20 8 ((x6.1 20 8) + 1) → KT G q (d + 1) zk_X9_passLettersAndDigits 5 [(0, vr 20), (1, vi l1)] [] x9 P)) ∧ (r7 = (0 : Int32) → KT G q d zk_X9_isDigit 0 [(0, vi r5)] [] x6 (ri (fun r11 x10 => ((¬ (r11 = (0 : Int32)) → (∀ x13 : gd, x13 = si x10 20 8 ((x10.1 20 8) + 1) → KT G q (d + 1) zk_X9_passLettersAndDigits 5 [(0, vr 20), (1, vi l1)] [] x13 P)) ∧ (r11 = (0 : Int32) → vp_in (x10.1 20 7) 702 ∧ (∀ x15 : gd, x15 = si x10 26 (x10.1 20 7 : Int32).toNatClampNeg ((x10.1 20 8) - l1) → P none x15)))))))))))))) :
    KT G q (d + 1) zk_X9_passLettersAndDigits 5 [(0, vr 20), (1, vi l1)] [] x P := by
  refine T_aload_n 0 (dk dtk_X9_passLettersAndDigits 3 rfl) rfl rfl ?_
  refine T_getI 20 8 (dk dtk_X9_passLettersAndDigits 4 rfl) kfl_X9_35 kk_20 (kl_20 hq) (by decide) rfl ?_
  refine T_aload_n 0 (dk dtk_X9_passLettersAndDigits 5 rfl) rfl rfl ?_
  refine T_getI 20 1 (dk dtk_X9_passLettersAndDigits 6 rfl) kfl_X9_31 kk_20 (kl_20 hq) (by decide) rfl ?_
  refine T_icmp_ge 55 (dk dtk_X9_passLettersAndDigits 7 rfl) (by decide) (fun c1 => ?_) (fun c1 => ?_)
  · have h := h.1 c1
    refine T_aload_n 0 (dk dtk_X9_passLettersAndDigits 27 rfl) rfl rfl ?_
    refine T_getR 20 5 26 (dk dtk_X9_passLettersAndDigits 28 rfl) kfl_X9_25 kk_20 (kl_20 hq) (by decide) rfl kr_20_5 ?_
    refine T_aload_n 0 (dk dtk_X9_passLettersAndDigits 29 rfl) rfl rfl ?_
    refine T_getI 20 7 (dk dtk_X9_passLettersAndDigits 30 rfl) kfl_X9_41 kk_20 (kl_20 hq) (by decide) rfl ?_
    refine T_aload_n 0 (dk dtk_X9_passLettersAndDigits 31 rfl) rfl rfl ?_
    refine T_getI 20 8 (dk dtk_X9_passLettersAndDigits 32 rfl) kfl_X9_35 kk_20 (kl_20 hq) (by decide) rfl ?_
    refine T_iload_n 1 (dk dtk_X9_passLettersAndDigits 33 rfl) rfl rfl ?_
    refine T_isub (dk dtk_X9_passLettersAndDigits 34 rfl) ?_
    obtain ⟨h2, h⟩ := h
    obtain ⟨x3, ex3⟩ : ∃ z, z = si x 26 (x.1 20 7 : Int32).toNatClampNeg ((x.1 20 8) - l1) := ⟨_, rfl⟩
    have h := h x3 ex3
    refine T_iast 26 702 (dk dtk_X9_passLettersAndDigits 35 rfl) kk_26 (kl_26 hq) h2 ?_
    rw [← ex3]
    exact KT_vret (dk dtk_X9_passLettersAndDigits 36 rfl) rfl h
  · have h := h.2 c1
    refine T_aload_n 0 (dk dtk_X9_passLettersAndDigits 8 rfl) rfl rfl ?_
    refine T_aload_n 0 (dk dtk_X9_passLettersAndDigits 9 rfl) rfl rfl ?_
    refine T_getI 20 8 (dk dtk_X9_passLettersAndDigits 10 rfl) kfl_X9_35 kk_20 (kl_20 hq) (by decide) rfl ?_
    refine KC_Vi [vi (x.1 20 8)] [] rfl (dk dtk_X9_passLettersAndDigits 11 rfl) kcv_X9_51 rfl kk_20 rfl (kl_20 hq) (Nat.le_of_ble_eq_true rfl) (Nat.le_of_ble_eq_true rfl) (gok_i (av_c (gkr (kl_20 hq)) (av_c rfl av_n)) as_n) rfl h (fun r5 x4 h => ?_)
    refine T_istore_n (lv2 := [(2, vi r5), (0, vr 20), (1, vi l1)]) (dk dtk_X9_passLettersAndDigits 12 rfl) rfl (by decide) rfl ?_
    refine T_iload_n 0 (dk dtk_X9_passLettersAndDigits 13 rfl) rfl rfl ?_
    refine KC_Si [vi r5] [] rfl (dk dtk_X9_passLettersAndDigits 14 rfl) kcs_X9_55 rfl (Nat.le_of_ble_eq_true rfl) (Nat.le_of_ble_eq_true rfl) (gok_i (av_c rfl (av_c (gkr (kl_20 hq)) (av_c rfl av_n))) as_n) rfl h (fun r7 x6 h => ?_)
    refine T_if_ne 42 (dk dtk_X9_passLettersAndDigits 15 rfl) (by decide) (fun c8 => ?_) (fun c8 => ?_)
    · have h := h.1 c8
      refine T_aload_n 1 (dk dtk_X9_passLettersAndDigits 20 rfl) rfl rfl ?_
      refine T_dup (dk dtk_X9_passLettersAndDigits 21 rfl) rfl ?_
      refine T_getI 20 8 (dk dtk_X9_passLettersAndDigits 22 rfl) kfl_X9_35 kk_20 (kl_20 hq) (by decide) rfl ?_
      refine T_iconst (v := 1) (dk dtk_X9_passLettersAndDigits 23 rfl) (by decide +kernel) ?_
      refine T_iadd (dk dtk_X9_passLettersAndDigits 24 rfl) ?_
      obtain ⟨x9, ex9⟩ : ∃ z, z = si x6 20 8 ((x6.1 20 8) + 1) := ⟨_, rfl⟩
      have h := h x9 ex9
      refine T_putI 20 8 (dk dtk_X9_passLettersAndDigits 25 rfl) kfl_X9_35 kk_20 (kl_20 hq) (by decide) rfl ⟨rfl, rfl⟩ ?_
      rw [← ex9]
      refine T_goto 5 (dk dtk_X9_passLettersAndDigits 26 rfl) (by decide) ?_
      exact T_sub [1, 2] rfl h
    · have h := h.2 c8
      refine T_iload_n 0 (dk dtk_X9_passLettersAndDigits 16 rfl) rfl rfl ?_
      refine T_sub (lv2 := [(0, vr 20), (1, vi l1)]) [1, 2] rfl ?_
      refine KC_Si [vi r5] [] rfl (dk dtk_X9_passLettersAndDigits 17 rfl) kcs_X9_65 rfl (Nat.le_of_ble_eq_true rfl) (Nat.le_of_ble_eq_true rfl) (gok_i (av_c (gkr (kl_20 hq)) (av_c rfl av_n)) as_n) rfl h (fun r11 x10 h => ?_)
      refine T_if_ne 42 (dk dtk_X9_passLettersAndDigits 18 rfl) (by decide) (fun c12 => ?_) (fun c12 => ?_)
      · have h := h.1 c12
        refine T_aload_n 0 (dk dtk_X9_passLettersAndDigits 20 rfl) rfl rfl ?_
        refine T_dup (dk dtk_X9_passLettersAndDigits 21 rfl) rfl ?_
        refine T_getI 20 8 (dk dtk_X9_passLettersAndDigits 22 rfl) kfl_X9_35 kk_20 (kl_20 hq) (by decide) rfl ?_
        refine T_iconst (v := 1) (dk dtk_X9_passLettersAndDigits 23 rfl) (by decide +kernel) ?_
        refine T_iadd (dk dtk_X9_passLettersAndDigits 24 rfl) ?_
        obtain ⟨x13, ex13⟩ : ∃ z, z = si x10 20 8 ((x10.1 20 8) + 1) := ⟨_, rfl⟩
        have h := h x13 ex13
        refine T_putI 20 8 (dk dtk_X9_passLettersAndDigits 25 rfl) kfl_X9_35 kk_20 (kl_20 hq) (by decide) rfl ⟨rfl, rfl⟩ ?_
        rw [← ex13]
        refine T_goto 5 (dk dtk_X9_passLettersAndDigits 26 rfl) (by decide) ?_
        exact h
      · have h := h.2 c12
        refine T_goto 55 (dk dtk_X9_passLettersAndDigits 19 rfl) (by decide) ?_
        refine T_aload_n 0 (dk dtk_X9_passLettersAndDigits 27 rfl) rfl rfl ?_
        refine T_getR 20 5 26 (dk dtk_X9_passLettersAndDigits 28 rfl) kfl_X9_25 kk_20 (kl_20 hq) (by decide) rfl kr_20_5 ?_
        refine T_aload_n 0 (dk dtk_X9_passLettersAndDigits 29 rfl) rfl rfl ?_
        refine T_getI 20 7 (dk dtk_X9_passLettersAndDigits 30 rfl) kfl_X9_41 kk_20 (kl_20 hq) (by decide) rfl ?_
        refine T_aload_n 0 (dk dtk_X9_passLettersAndDigits 31 rfl) rfl rfl ?_
        refine T_getI 20 8 (dk dtk_X9_passLettersAndDigits 32 rfl) kfl_X9_35 kk_20 (kl_20 hq) (by decide) rfl ?_
        refine T_iload_n 1 (dk dtk_X9_passLettersAndDigits 33 rfl) rfl rfl ?_
        refine T_isub (dk dtk_X9_passLettersAndDigits 34 rfl) ?_
        obtain ⟨h14, h⟩ := h
        obtain ⟨x15, ex15⟩ : ∃ z, z = si x10 26 (x10.1 20 7 : Int32).toNatClampNeg ((x10.1 20 8) - l1) := ⟨_, rfl⟩
        have h := h x15 ex15
        refine T_iast 26 702 (dk dtk_X9_passLettersAndDigits 35 rfl) kk_26 (kl_26 hq) h14 ?_
        rw [← ex15]
        exact KT_vret (dk dtk_X9_passLettersAndDigits 36 rfl) rfl h
end
section
set_option maxRecDepth 100000 in
theorem dtk_X9_nameOrWord : dck cX9_nameOrWord [(0, .aload_n 0, 1), (1, .getfield 25, 3), (4, .aload_n 0, 1), (5, .getfield 41, 3), (8, .iaload, 1), (9, .bipush 12, 2), (11, .if_icmp .le 5, 3), (14, .iconst 1, 1), (15, .ireturn, 1), (16, .iconst 0, 1), (17, .istore_n 2, 1), (18, .iload_n 2, 1), (19, .bipush 32, 2), (21, .if_icmp .ge 32, 3), (24, .aload_n 0, 1), (25, .iload_n 2, 1), (26, .iload_n 1, 1), (27, .aload_n 0, 1), (28, .getfield 25, 3), (31, .aload_n 0, 1), (32, .getfield 41, 3), (35, .iaload, 1), (36, .invokevirtual 75, 3), (39, .ifCond .eq 8, 3), (42, .bipush 40, 2), (44, .iload_n 2, 1), (45, .iadd, 1), (46, .ireturn, 1), (47, .iinc 2 1, 3), (50, .goto (-32), 3), (53, .iconst 0, 1), (54, .istore_n 2, 1), (55, .iconst 0, 1), (56, .istore_n 3, 1), (57, .iload_n 3, 1), (58, .aload_n 0, 1), (59, .getfield 25, 3), (62, .aload_n 0, 1), (63, .getfield 41, 3), (66, .iaload, 1), (67, .if_icmp .ge 22, 3), (70, .iload_n 2, 1), (71, .bipush 31, 2), (73, .imul, 1), (74, .aload_n 0, 1), (75, .iload_n 1, 1), (76, .iload_n 3, 1), (77, .iadd, 1), (78, .invokevirtual 51, 3), (81, .iadd, 1), (82, .istore_n 2, 1), (83, .iinc 3 1, 3), (86, .goto (-29), 3), (89, .aload_n 0, 1), (90, .getfield 28, 3), (93, .aload_n 0, 1), (94, .getfield 41, 3), (97, .iload_n 2, 1), (98, .iastore, 1), (99, .iconst 2, 1), (100, .ireturn, 1)] = true := by decide +kernel
set_option maxRecDepth 100000 in
set_option maxHeartbeats 4000000 in
theorem kg_X9_nameOrWord_0 {G : kG} {q : kP} {d : Nat} {x : gd} {P : Option gv → gd → Prop} (hq : kV q) (l1 : Int32)
    (h : vp_in (x.1 20 7) 702 ∧ (((x.1 26 (x.1 20 7 : Int32).toNatClampNeg) ≤ (12 : Int32) → KT G q (d + 1) zk_X9_nameOrWord 18 [(0, vr 20), (1, vi l1), (2, vi 0)] [] x P) ∧ (¬ ((x.1 26 (x.1 20 7 : Int32).toNatClampNeg) ≤ (12 : Int32)) → P (some (vi 1)) x))) :
    KT G q (d + 1) zk_X9_nameOrWord 0 [(0, vr 20), (1, vi l1)] [] x P := by
  refine T_aload_n 0 (dk dtk_X9_nameOrWord 0 rfl) rfl rfl ?_
  refine T_getR 20 5 26 (dk dtk_X9_nameOrWord 1 rfl) kfl_X9_25 kk_20 (kl_20 hq) (by decide) rfl kr_20_5 ?_
  refine T_aload_n 0 (dk dtk_X9_nameOrWord 2 rfl) rfl rfl ?_
  refine T_getI 20 7 (dk dtk_X9_nameOrWord 3 rfl) kfl_X9_41 kk_20 (kl_20 hq) (by decide) rfl ?_
  obtain ⟨h1, h⟩ := h
  refine T_iald 26 702 (dk dtk_X9_nameOrWord 4 rfl) kk_26 (kl_26 hq) h1 ?_
  refine T_bipush (v := 12) (dk dtk_X9_nameOrWord 5 rfl) (by decide +kernel) ?_
  refine T_icmp_le 16 (dk dtk_X9_nameOrWord 6 rfl) (by decide) (fun c2 => ?_) (fun c2 => ?_)
  · have h := h.1 c2
    refine T_iconst (v := 0) (dk dtk_X9_nameOrWord 9 rfl) (by decide +kernel) ?_
    refine T_istore_n (lv2 := [(2, vi 0), (0, vr 20), (1, vi l1)]) (dk dtk_X9_nameOrWord 10 rfl) rfl (by decide) rfl ?_
    exact T_sub [1, 2, 0] rfl h
  · have h := h.2 c2
    refine T_iconst (v := 1) (dk dtk_X9_nameOrWord 7 rfl) (by decide +kernel) ?_
    exact KT_iret (dk dtk_X9_nameOrWord 8 rfl) rfl rfl h
set_option maxRecDepth 100000 in
set_option maxHeartbeats 4000000 in
theorem kg_X9_nameOrWord_18 {G : kG} {q : kP} {d : Nat} {x : gd} {P : Option gv → gd → Prop} (hq : kV q) (l1 : Int32) (l2 : Int32)
    (h : (((32 : Int32) ≤ l2 → KT G q (d + 1) zk_X9_nameOrWord 57 [(0, vr 20), (1, vi l1), (2, vi 0), (3, vi 0)] [] x P) ∧ (¬ ((32 : Int32) ≤ l2) → vp_in (x.1 20 7) 702 ∧ KT G q d zk_X9_isWord 0 [(0, vr 20), (1, vi l2), (2, vi l1), (3, vi (x.1 26 (x.1 20 7 : Int32).toNatClampNeg))] [] x (ri (fun r4 x3 => ((r4 = (0 : Int32) → KT G q (d + 1) zk_X9_nameOrWord 18 [(0, vr 20), (1, vi l1), (2, vi (l2 + 1))] [] x3 P) ∧ (¬ (r4 = (0 : Int32)) → P (some (vi (40 + l2))) x3))))))) :
    KT G q (d + 1) zk_X9_nameOrWord 18 [(0, vr 20), (1, vi l1), (2, vi l2)] [] x P := by
  refine T_iload_n 2 (dk dtk_X9_nameOrWord 11 rfl) rfl rfl ?_
  refine T_bipush (v := 32) (dk dtk_X9_nameOrWord 12 rfl) (by decide +kernel) ?_
  refine T_icmp_ge 53 (dk dtk_X9_nameOrWord 13 rfl) (by decide) (fun c1 => ?_) (fun c1 => ?_)
  · have h := h.1 c1
    refine T_iconst (v := 0) (dk dtk_X9_nameOrWord 30 rfl) (by decide +kernel) ?_
    refine T_istore_n (lv2 := [(2, vi 0), (0, vr 20), (1, vi l1)]) (dk dtk_X9_nameOrWord 31 rfl) rfl (by decide) rfl ?_
    refine T_iconst (v := 0) (dk dtk_X9_nameOrWord 32 rfl) (by decide +kernel) ?_
    refine T_istore_n (lv2 := [(3, vi 0), (2, vi 0), (0, vr 20), (1, vi l1)]) (dk dtk_X9_nameOrWord 33 rfl) rfl (by decide) rfl ?_
    exact T_sub [2, 3, 1, 0] rfl h
  · have h := h.2 c1
    refine T_aload_n 0 (dk dtk_X9_nameOrWord 14 rfl) rfl rfl ?_
    refine T_iload_n 2 (dk dtk_X9_nameOrWord 15 rfl) rfl rfl ?_
    refine T_iload_n 1 (dk dtk_X9_nameOrWord 16 rfl) rfl rfl ?_
    refine T_aload_n 0 (dk dtk_X9_nameOrWord 17 rfl) rfl rfl ?_
    refine T_getR 20 5 26 (dk dtk_X9_nameOrWord 18 rfl) kfl_X9_25 kk_20 (kl_20 hq) (by decide) rfl kr_20_5 ?_
    refine T_aload_n 0 (dk dtk_X9_nameOrWord 19 rfl) rfl rfl ?_
    refine T_getI 20 7 (dk dtk_X9_nameOrWord 20 rfl) kfl_X9_41 kk_20 (kl_20 hq) (by decide) rfl ?_
    obtain ⟨h2, h⟩ := h
    refine T_iald 26 702 (dk dtk_X9_nameOrWord 21 rfl) kk_26 (kl_26 hq) h2 ?_
    refine KC_Vi [vi l2, vi l1, vi (x.1 26 (x.1 20 7 : Int32).toNatClampNeg)] [] rfl (dk dtk_X9_nameOrWord 22 rfl) kcv_X9_75 rfl kk_20 rfl (kl_20 hq) (Nat.le_of_ble_eq_true rfl) (Nat.le_of_ble_eq_true rfl) (gok_i (av_c (gkr (kl_20 hq)) (av_c rfl (av_c rfl av_n))) as_n) rfl h (fun r4 x3 h => ?_)
    refine T_if_eq 47 (dk dtk_X9_nameOrWord 23 rfl) (by decide) (fun c5 => ?_) (fun c5 => ?_)
    · have h := h.1 c5
      refine T_iinc (v := l2 + 1) (lv2 := [(2, vi (l2 + 1)), (0, vr 20), (1, vi l1)]) 2 (dk dtk_X9_nameOrWord 28 rfl) rfl rfl (by decide) rfl ?_
      refine T_goto 18 (dk dtk_X9_nameOrWord 29 rfl) (by decide) ?_
      exact T_sub [1, 2, 0] rfl h
    · have h := h.2 c5
      refine T_bipush (v := 40) (dk dtk_X9_nameOrWord 24 rfl) (by decide +kernel) ?_
      refine T_iload_n 2 (dk dtk_X9_nameOrWord 25 rfl) rfl rfl ?_
      refine T_iadd (dk dtk_X9_nameOrWord 26 rfl) ?_
      exact KT_iret (dk dtk_X9_nameOrWord 27 rfl) rfl rfl h
set_option maxRecDepth 100000 in
set_option maxHeartbeats 4000000 in
theorem kg_X9_nameOrWord_57 {G : kG} {q : kP} {d : Nat} {x : gd} {P : Option gv → gd → Prop} (hq : kV q) (l1 : Int32) (l2 : Int32) (l3 : Int32)
    (h : vp_in (x.1 20 7) 702 ∧ (((x.1 26 (x.1 20 7 : Int32).toNatClampNeg) ≤ l3 → vp_in (x.1 20 7) 702 ∧ (∀ x4 : gd, x4 = si x 27 (x.1 20 7 : Int32).toNatClampNeg l2 → P (some (vi 2)) x4)) ∧ (¬ ((x.1 26 (x.1 20 7 : Int32).toNatClampNeg) ≤ l3) → KT G q d zk_X9_byteAt 0 [(0, vr 20), (1, vi (l1 + l3))] [] x (ri (fun r6 x5 => KT G q (d + 1) zk_X9_nameOrWord 57 [(0, vr 20), (1, vi l1), (2, vi ((l2 * 31) + r6)), (3, vi (l3 + 1))] [] x5 P))))) :
    KT G q (d + 1) zk_X9_nameOrWord 57 [(0, vr 20), (1, vi l1), (2, vi l2), (3, vi l3)] [] x P := by
  refine T_iload_n 3 (dk dtk_X9_nameOrWord 34 rfl) rfl rfl ?_
  refine T_aload_n 0 (dk dtk_X9_nameOrWord 35 rfl) rfl rfl ?_
  refine T_getR 20 5 26 (dk dtk_X9_nameOrWord 36 rfl) kfl_X9_25 kk_20 (kl_20 hq) (by decide) rfl kr_20_5 ?_
  refine T_aload_n 0 (dk dtk_X9_nameOrWord 37 rfl) rfl rfl ?_
  refine T_getI 20 7 (dk dtk_X9_nameOrWord 38 rfl) kfl_X9_41 kk_20 (kl_20 hq) (by decide) rfl ?_
  obtain ⟨h1, h⟩ := h
  refine T_iald 26 702 (dk dtk_X9_nameOrWord 39 rfl) kk_26 (kl_26 hq) h1 ?_
  refine T_icmp_ge 89 (dk dtk_X9_nameOrWord 40 rfl) (by decide) (fun c2 => ?_) (fun c2 => ?_)
  · have h := h.1 c2
    refine T_aload_n 0 (dk dtk_X9_nameOrWord 53 rfl) rfl rfl ?_
    refine T_getR 20 6 27 (dk dtk_X9_nameOrWord 54 rfl) kfl_X9_28 kk_20 (kl_20 hq) (by decide) rfl kr_20_6 ?_
    refine T_aload_n 0 (dk dtk_X9_nameOrWord 55 rfl) rfl rfl ?_
    refine T_getI 20 7 (dk dtk_X9_nameOrWord 56 rfl) kfl_X9_41 kk_20 (kl_20 hq) (by decide) rfl ?_
    refine T_iload_n 2 (dk dtk_X9_nameOrWord 57 rfl) rfl rfl ?_
    obtain ⟨h3, h⟩ := h
    obtain ⟨x4, ex4⟩ : ∃ z, z = si x 27 (x.1 20 7 : Int32).toNatClampNeg l2 := ⟨_, rfl⟩
    have h := h x4 ex4
    refine T_iast 27 702 (dk dtk_X9_nameOrWord 58 rfl) kk_27 (kl_27 hq) h3 ?_
    rw [← ex4]
    refine T_iconst (v := 2) (dk dtk_X9_nameOrWord 59 rfl) (by decide +kernel) ?_
    exact KT_iret (dk dtk_X9_nameOrWord 60 rfl) rfl rfl h
  · have h := h.2 c2
    refine T_iload_n 2 (dk dtk_X9_nameOrWord 41 rfl) rfl rfl ?_
    refine T_bipush (v := 31) (dk dtk_X9_nameOrWord 42 rfl) (by decide +kernel) ?_
    refine T_imul (dk dtk_X9_nameOrWord 43 rfl) ?_
    refine T_aload_n 0 (dk dtk_X9_nameOrWord 44 rfl) rfl rfl ?_
    refine T_iload_n 1 (dk dtk_X9_nameOrWord 45 rfl) rfl rfl ?_
    refine T_iload_n 3 (dk dtk_X9_nameOrWord 46 rfl) rfl rfl ?_
    refine T_iadd (dk dtk_X9_nameOrWord 47 rfl) ?_
    refine T_sub (lv2 := [(0, vr 20), (1, vi l1), (3, vi l3)]) [0, 1, 3] rfl ?_
    refine KC_Vi [vi (l1 + l3)] [vi (l2 * 31)] rfl (dk dtk_X9_nameOrWord 48 rfl) kcv_X9_51 rfl kk_20 rfl (kl_20 hq) (Nat.le_of_ble_eq_true rfl) (Nat.le_of_ble_eq_true rfl) (gok_i (av_c (gkr (kl_20 hq)) (av_c rfl (av_c rfl av_n))) (as_c rfl as_n)) rfl h (fun r6 x5 h => ?_)
    refine T_iadd (dk dtk_X9_nameOrWord 49 rfl) ?_
    refine T_istore_n (lv2 := [(2, vi ((l2 * 31) + r6)), (0, vr 20), (1, vi l1), (3, vi l3)]) (dk dtk_X9_nameOrWord 50 rfl) rfl (by decide) rfl ?_
    refine T_iinc (v := l3 + 1) (lv2 := [(3, vi (l3 + 1)), (2, vi ((l2 * 31) + r6)), (0, vr 20), (1, vi l1)]) 3 (dk dtk_X9_nameOrWord 51 rfl) rfl rfl (by decide) rfl ?_
    refine T_goto 57 (dk dtk_X9_nameOrWord 52 rfl) (by decide) ?_
    exact T_sub [2, 3, 1, 0] rfl h
set_option maxRecDepth 100000 in
theorem dtk_X9_isWord : dck cX9_isWord [(0, .iload_n 3, 1), (1, .bipush 7, 2), (3, .if_icmp .le 5, 3), (6, .iconst 0, 1), (7, .ireturn, 1), (8, .iconst 0, 1), (9, .istore 4, 2), (11, .iload 4, 2), (13, .bipush 7, 2), (15, .if_icmp .ge 49, 3), (18, .iload 4, 2), (20, .iload_n 3, 1), (21, .if_icmp .ge 14, 3), (24, .aload_n 0, 1), (25, .iload_n 2, 1), (26, .iload 4, 2), (28, .iadd, 1), (29, .invokevirtual 51, 3), (32, .goto 5, 3), (35, .bipush 32, 2), (37, .istore 5, 2), (39, .ldc 79, 2), (41, .iload_n 1, 1), (42, .bipush 7, 2), (44, .imul, 1), (45, .iload 4, 2), (47, .iadd, 1), (48, .invokevirtual 81, 3), (51, .iload 5, 2), (53, .if_icmp .eq 5, 3), (56, .iconst 0, 1), (57, .ireturn, 1), (58, .iinc 4 1, 3), (61, .goto (-50), 3), (64, .iconst 1, 1), (65, .ireturn, 1)] = true := by decide +kernel
set_option maxRecDepth 100000 in
set_option maxHeartbeats 4000000 in
theorem kg_X9_isWord_0 {G : kG} {q : kP} {d : Nat} {x : gd} {P : Option gv → gd → Prop} (hq : kV q) (l1 : Int32) (l2 : Int32) (l3 : Int32)
    (h : ((l3 ≤ (7 : Int32) → KT G q (d + 7) zk_X9_isWord 11 [(0, vr 20), (1, vi l1), (2, vi l2), (3, vi l3), (4, vi 0)] [] x P) ∧ (¬ (l3 ≤ (7 : Int32)) → P (some (vi 0)) x))) :
    KT G q (d + 7) zk_X9_isWord 0 [(0, vr 20), (1, vi l1), (2, vi l2), (3, vi l3)] [] x P := by
  refine T_iload_n 3 (dk dtk_X9_isWord 0 rfl) rfl rfl ?_
  refine T_bipush (v := 7) (dk dtk_X9_isWord 1 rfl) (by decide +kernel) ?_
  refine T_icmp_le 8 (dk dtk_X9_isWord 2 rfl) (by decide) (fun c1 => ?_) (fun c1 => ?_)
  · have h := h.1 c1
    refine T_iconst (v := 0) (dk dtk_X9_isWord 5 rfl) (by decide +kernel) ?_
    refine T_istore (lv2 := [(4, vi 0), (0, vr 20), (1, vi l1), (2, vi l2), (3, vi l3)]) (dk dtk_X9_isWord 6 rfl) (by decide) rfl ?_
    exact T_sub [1, 2, 3, 4, 0] rfl h
  · have h := h.2 c1
    refine T_iconst (v := 0) (dk dtk_X9_isWord 3 rfl) (by decide +kernel) ?_
    exact KT_iret (dk dtk_X9_isWord 4 rfl) rfl rfl h
set_option maxRecDepth 100000 in
set_option maxHeartbeats 4000000 in
theorem kg_X9_isWord_11 {G : kG} {q : kP} {d : Nat} {x : gd} {P : Option gv → gd → Prop} (hq : kV q) (l1 : Int32) (l2 : Int32) (l3 : Int32) (l4 : Int32)
    (h : (((7 : Int32) ≤ l4 → P (some (vi 1)) x) ∧ (¬ ((7 : Int32) ≤ l4) → ((l3 ≤ l4 → KT G q (d + 7) zk_X9_isWord 37 [(0, vr 20), (1, vi l1), (2, vi l2), (3, vi l3), (4, vi l4)] [vi 32] x P) ∧ (¬ (l3 ≤ l4) → KT G q (d + 6) zk_X9_byteAt 0 [(0, vr 20), (1, vi (l2 + l4))] [] x (ri (fun r4 x3 => KT G q (d + 7) zk_X9_isWord 37 [(0, vr 20), (1, vi l1), (2, vi l2), (3, vi l3), (4, vi l4)] [vi r4] x3 P))))))) :
    KT G q (d + 7) zk_X9_isWord 11 [(0, vr 20), (1, vi l1), (2, vi l2), (3, vi l3), (4, vi l4)] [] x P := by
  refine T_iload 4 (dk dtk_X9_isWord 7 rfl) rfl ?_
  refine T_bipush (v := 7) (dk dtk_X9_isWord 8 rfl) (by decide +kernel) ?_
  refine T_icmp_ge 64 (dk dtk_X9_isWord 9 rfl) (by decide) (fun c1 => ?_) (fun c1 => ?_)
  · have h := h.1 c1
    refine T_iconst (v := 1) (dk dtk_X9_isWord 34 rfl) (by decide +kernel) ?_
    exact KT_iret (dk dtk_X9_isWord 35 rfl) rfl rfl h
  · have h := h.2 c1
    refine T_iload 4 (dk dtk_X9_isWord 10 rfl) rfl ?_
    refine T_iload_n 3 (dk dtk_X9_isWord 11 rfl) rfl rfl ?_
    refine T_icmp_ge 35 (dk dtk_X9_isWord 12 rfl) (by decide) (fun c2 => ?_) (fun c2 => ?_)
    · have h := h.1 c2
      refine T_bipush (v := 32) (dk dtk_X9_isWord 19 rfl) (by decide +kernel) ?_
      exact h
    · have h := h.2 c2
      refine T_aload_n 0 (dk dtk_X9_isWord 13 rfl) rfl rfl ?_
      refine T_iload_n 2 (dk dtk_X9_isWord 14 rfl) rfl rfl ?_
      refine T_iload 4 (dk dtk_X9_isWord 15 rfl) rfl ?_
      refine T_iadd (dk dtk_X9_isWord 16 rfl) ?_
      refine KC_Vi [vi (l2 + l4)] [] rfl (dk dtk_X9_isWord 17 rfl) kcv_X9_51 rfl kk_20 rfl (kl_20 hq) (Nat.le_of_ble_eq_true rfl) (Nat.le_of_ble_eq_true rfl) (gok_i (av_c (gkr (kl_20 hq)) (av_c rfl (av_c rfl (av_c rfl (av_c rfl av_n))))) as_n) rfl h (fun r4 x3 h => ?_)
      refine T_goto 37 (dk dtk_X9_isWord 18 rfl) (by decide) ?_
      exact h
set_option maxRecDepth 100000 in
set_option maxHeartbeats 4000000 in
theorem kg_X9_isWord_37 {G : kG} {q : kP} {d : Nat} {x : gd} {P : Option gv → gd → Prop} (hq : kV q) (l1 : Int32) (l2 : Int32) (l3 : Int32) (l4 : Int32) (s0 : Int32)
    (h : vp_in ((l1 * 7) + l4) 224 ∧ (((cch 0 ((l1 * 7) + l4 : Int32).toNatClampNeg) = s0 → KT G q (d + 7) zk_X9_isWord 11 [(0, vr 20), (1, vi l1), (2, vi l2), (3, vi l3), (4, vi (l4 + 1))] [] x P) ∧ (¬ ((cch 0 ((l1 * 7) + l4 : Int32).toNatClampNeg) = s0) → P (some (vi 0)) x))) :
    KT G q (d + 7) zk_X9_isWord 37 [(0, vr 20), (1, vi l1), (2, vi l2), (3, vi l3), (4, vi l4)] [vi s0] x P := by
  refine T_istore (lv2 := [(5, vi s0), (0, vr 20), (1, vi l1), (2, vi l2), (3, vi l3), (4, vi l4)]) (dk dtk_X9_isWord 20 rfl) (by decide) rfl ?_
  refine T_ldcS 0 (by decide) (dk dtk_X9_isWord 21 rfl) rfl ?_
  refine T_iload_n 2 (dk dtk_X9_isWord 22 rfl) rfl rfl ?_
  refine T_bipush (v := 7) (dk dtk_X9_isWord 23 rfl) (by decide +kernel) ?_
  refine T_imul (dk dtk_X9_isWord 24 rfl) ?_
  refine T_iload 5 (dk dtk_X9_isWord 25 rfl) rfl ?_
  refine T_iadd (dk dtk_X9_isWord 26 rfl) ?_
  obtain ⟨h1, h⟩ := h
  refine T_chat 0 (by decide) (by rw [es_l0]; exact h1) (by rw [es_l0]; decide) (dk dtk_X9_isWord 27 rfl) kcv_X9_81 (by omega) (Nat.le_of_ble_eq_true rfl) (gok_i (av_c rfl (av_c (gkr (kl_20 hq)) (av_c rfl (av_c rfl (av_c rfl (av_c rfl av_n)))))) as_n) rfl ?_
  refine T_iload 0 (dk dtk_X9_isWord 28 rfl) rfl ?_
  refine T_icmp_eq 58 (dk dtk_X9_isWord 29 rfl) (by decide) (fun c2 => ?_) (fun c2 => ?_)
  · have h := h.1 c2
    refine T_iinc (v := l4 + 1) (lv2 := [(4, vi (l4 + 1)), (5, vi s0), (0, vr 20), (1, vi l1), (2, vi l2), (3, vi l3)]) 5 (dk dtk_X9_isWord 32 rfl) rfl rfl (by decide) rfl ?_
    refine T_goto 11 (dk dtk_X9_isWord 33 rfl) (by decide) ?_
    exact T_sub [2, 3, 4, 5, 0] rfl h
  · have h := h.2 c2
    refine T_iconst (v := 0) (dk dtk_X9_isWord 30 rfl) (by decide +kernel) ?_
    exact KT_iret (dk dtk_X9_isWord 31 rfl) rfl rfl h
set_option maxRecDepth 100000 in
theorem dtk_X9_wholeOrBad : dck cX9_wholeOrBad [(0, .aload_n 0, 1), (1, .getfield 25, 3), (4, .aload_n 0, 1), (5, .getfield 41, 3), (8, .iaload, 1), (9, .bipush 9, 2), (11, .if_icmp .le 5, 3), (14, .iconst 1, 1), (15, .ireturn, 1), (16, .iconst 0, 1), (17, .istore_n 2, 1), (18, .iconst 0, 1), (19, .istore_n 3, 1), (20, .iload_n 3, 1), (21, .aload_n 0, 1), (22, .getfield 25, 3), (25, .aload_n 0, 1), (26, .getfield 41, 3), (29, .iaload, 1), (30, .if_icmp .ge 39, 3), (33, .aload_n 0, 1), (34, .iload_n 1, 1), (35, .iload_n 3, 1), (36, .iadd, 1), (37, .invokevirtual 51, 3), (40, .istore 4, 2), (42, .iload 4, 2), (44, .invokestatic 65, 3), (47, .ifCond .ne 5, 3), (50, .iconst 1, 1), (51, .ireturn, 1), (52, .iload_n 2, 1), (53, .bipush 10, 2), (55, .imul, 1), (56, .iload 4, 2), (58, .bipush 48, 2), (60, .isub, 1), (61, .iadd, 1), (62, .istore_n 2, 1), (63, .iinc 3 1, 3), (66, .goto (-46), 3), (69, .aload_n 0, 1), (70, .getfield 28, 3), (73, .aload_n 0, 1), (74, .getfield 41, 3), (77, .iload_n 2, 1), (78, .iastore, 1), (79, .iconst 3, 1), (80, .ireturn, 1)] = true := by decide +kernel
set_option maxRecDepth 100000 in
set_option maxHeartbeats 4000000 in
theorem kg_X9_wholeOrBad_0 {G : kG} {q : kP} {d : Nat} {x : gd} {P : Option gv → gd → Prop} (hq : kV q) (l1 : Int32)
    (h : vp_in (x.1 20 7) 702 ∧ (((x.1 26 (x.1 20 7 : Int32).toNatClampNeg) ≤ (9 : Int32) → KT G q (d + 1) zk_X9_wholeOrBad 20 [(0, vr 20), (1, vi l1), (2, vi 0), (3, vi 0)] [] x P) ∧ (¬ ((x.1 26 (x.1 20 7 : Int32).toNatClampNeg) ≤ (9 : Int32)) → P (some (vi 1)) x))) :
    KT G q (d + 1) zk_X9_wholeOrBad 0 [(0, vr 20), (1, vi l1)] [] x P := by
  refine T_aload_n 0 (dk dtk_X9_wholeOrBad 0 rfl) rfl rfl ?_
  refine T_getR 20 5 26 (dk dtk_X9_wholeOrBad 1 rfl) kfl_X9_25 kk_20 (kl_20 hq) (by decide) rfl kr_20_5 ?_
  refine T_aload_n 0 (dk dtk_X9_wholeOrBad 2 rfl) rfl rfl ?_
  refine T_getI 20 7 (dk dtk_X9_wholeOrBad 3 rfl) kfl_X9_41 kk_20 (kl_20 hq) (by decide) rfl ?_
  obtain ⟨h1, h⟩ := h
  refine T_iald 26 702 (dk dtk_X9_wholeOrBad 4 rfl) kk_26 (kl_26 hq) h1 ?_
  refine T_bipush (v := 9) (dk dtk_X9_wholeOrBad 5 rfl) (by decide +kernel) ?_
  refine T_icmp_le 16 (dk dtk_X9_wholeOrBad 6 rfl) (by decide) (fun c2 => ?_) (fun c2 => ?_)
  · have h := h.1 c2
    refine T_iconst (v := 0) (dk dtk_X9_wholeOrBad 9 rfl) (by decide +kernel) ?_
    refine T_istore_n (lv2 := [(2, vi 0), (0, vr 20), (1, vi l1)]) (dk dtk_X9_wholeOrBad 10 rfl) rfl (by decide) rfl ?_
    refine T_iconst (v := 0) (dk dtk_X9_wholeOrBad 11 rfl) (by decide +kernel) ?_
    refine T_istore_n (lv2 := [(3, vi 0), (2, vi 0), (0, vr 20), (1, vi l1)]) (dk dtk_X9_wholeOrBad 12 rfl) rfl (by decide) rfl ?_
    exact T_sub [2, 3, 1, 0] rfl h
  · have h := h.2 c2
    refine T_iconst (v := 1) (dk dtk_X9_wholeOrBad 7 rfl) (by decide +kernel) ?_
    exact KT_iret (dk dtk_X9_wholeOrBad 8 rfl) rfl rfl h
set_option maxRecDepth 100000 in
set_option maxHeartbeats 4000000 in
theorem kg_X9_wholeOrBad_20 {G : kG} {q : kP} {d : Nat} {x : gd} {P : Option gv → gd → Prop} (hq : kV q) (l1 : Int32) (l2 : Int32) (l3 : Int32)
    (h : vp_in (x.1 20 7) 702 ∧ (((x.1 26 (x.1 20 7 : Int32).toNatClampNeg) ≤ l3 → vp_in (x.1 20 7) 702 ∧ (∀ x4 : gd, x4 = si x 27 (x.1 20 7 : Int32).toNatClampNeg l2 → P (some (vi 3)) x4)) ∧ (¬ ((x.1 26 (x.1 20 7 : Int32).toNatClampNeg) ≤ l3) → KT G q d zk_X9_byteAt 0 [(0, vr 20), (1, vi (l1 + l3))] [] x (ri (fun r6 x5 => KT G q d zk_X9_isDigit 0 [(0, vi r6)] [] x5 (ri (fun r8 x7 => ((¬ (r8 = (0 : Int32)) → KT G q (d + 1) zk_X9_wholeOrBad 20 [(0, vr 20), (1, vi l1), (2, vi ((l2 * 10) + (r6 - 48))), (3, vi (l3 + 1))] [] x7 P) ∧ (r8 = (0 : Int32) → P (some (vi 1)) x7))))))))) :
    KT G q (d + 1) zk_X9_wholeOrBad 20 [(0, vr 20), (1, vi l1), (2, vi l2), (3, vi l3)] [] x P := by
  refine T_iload_n 3 (dk dtk_X9_wholeOrBad 13 rfl) rfl rfl ?_
  refine T_aload_n 0 (dk dtk_X9_wholeOrBad 14 rfl) rfl rfl ?_
  refine T_getR 20 5 26 (dk dtk_X9_wholeOrBad 15 rfl) kfl_X9_25 kk_20 (kl_20 hq) (by decide) rfl kr_20_5 ?_
  refine T_aload_n 0 (dk dtk_X9_wholeOrBad 16 rfl) rfl rfl ?_
  refine T_getI 20 7 (dk dtk_X9_wholeOrBad 17 rfl) kfl_X9_41 kk_20 (kl_20 hq) (by decide) rfl ?_
  obtain ⟨h1, h⟩ := h
  refine T_iald 26 702 (dk dtk_X9_wholeOrBad 18 rfl) kk_26 (kl_26 hq) h1 ?_
  refine T_icmp_ge 69 (dk dtk_X9_wholeOrBad 19 rfl) (by decide) (fun c2 => ?_) (fun c2 => ?_)
  · have h := h.1 c2
    refine T_aload_n 0 (dk dtk_X9_wholeOrBad 41 rfl) rfl rfl ?_
    refine T_getR 20 6 27 (dk dtk_X9_wholeOrBad 42 rfl) kfl_X9_28 kk_20 (kl_20 hq) (by decide) rfl kr_20_6 ?_
    refine T_aload_n 0 (dk dtk_X9_wholeOrBad 43 rfl) rfl rfl ?_
    refine T_getI 20 7 (dk dtk_X9_wholeOrBad 44 rfl) kfl_X9_41 kk_20 (kl_20 hq) (by decide) rfl ?_
    refine T_iload_n 2 (dk dtk_X9_wholeOrBad 45 rfl) rfl rfl ?_
    obtain ⟨h3, h⟩ := h
    obtain ⟨x4, ex4⟩ : ∃ z, z = si x 27 (x.1 20 7 : Int32).toNatClampNeg l2 := ⟨_, rfl⟩
    have h := h x4 ex4
    refine T_iast 27 702 (dk dtk_X9_wholeOrBad 46 rfl) kk_27 (kl_27 hq) h3 ?_
    rw [← ex4]
    refine T_iconst (v := 3) (dk dtk_X9_wholeOrBad 47 rfl) (by decide +kernel) ?_
    exact KT_iret (dk dtk_X9_wholeOrBad 48 rfl) rfl rfl h
  · have h := h.2 c2
    refine T_aload_n 0 (dk dtk_X9_wholeOrBad 20 rfl) rfl rfl ?_
    refine T_iload_n 1 (dk dtk_X9_wholeOrBad 21 rfl) rfl rfl ?_
    refine T_iload_n 3 (dk dtk_X9_wholeOrBad 22 rfl) rfl rfl ?_
    refine T_iadd (dk dtk_X9_wholeOrBad 23 rfl) ?_
    refine KC_Vi [vi (l1 + l3)] [] rfl (dk dtk_X9_wholeOrBad 24 rfl) kcv_X9_51 rfl kk_20 rfl (kl_20 hq) (Nat.le_of_ble_eq_true rfl) (Nat.le_of_ble_eq_true rfl) (gok_i (av_c (gkr (kl_20 hq)) (av_c rfl (av_c rfl (av_c rfl av_n)))) as_n) rfl h (fun r6 x5 h => ?_)
    refine T_istore (lv2 := [(4, vi r6), (0, vr 20), (1, vi l1), (2, vi l2), (3, vi l3)]) (dk dtk_X9_wholeOrBad 25 rfl) (by decide) rfl ?_
    refine T_iload 0 (dk dtk_X9_wholeOrBad 26 rfl) rfl ?_
    refine KC_Si [vi r6] [] rfl (dk dtk_X9_wholeOrBad 27 rfl) kcs_X9_65 rfl (Nat.le_of_ble_eq_true rfl) (Nat.le_of_ble_eq_true rfl) (gok_i (av_c rfl (av_c (gkr (kl_20 hq)) (av_c rfl (av_c rfl (av_c rfl av_n))))) as_n) rfl h (fun r8 x7 h => ?_)
    refine T_if_ne 52 (dk dtk_X9_wholeOrBad 28 rfl) (by decide) (fun c9 => ?_) (fun c9 => ?_)
    · have h := h.1 c9
      refine T_iload_n 3 (dk dtk_X9_wholeOrBad 31 rfl) rfl rfl ?_
      refine T_bipush (v := 10) (dk dtk_X9_wholeOrBad 32 rfl) (by decide +kernel) ?_
      refine T_imul (dk dtk_X9_wholeOrBad 33 rfl) ?_
      refine T_iload 0 (dk dtk_X9_wholeOrBad 34 rfl) rfl ?_
      refine T_bipush (v := 48) (dk dtk_X9_wholeOrBad 35 rfl) (by decide +kernel) ?_
      refine T_isub (dk dtk_X9_wholeOrBad 36 rfl) ?_
      refine T_iadd (dk dtk_X9_wholeOrBad 37 rfl) ?_
      refine T_istore_n (lv2 := [(2, vi ((l2 * 10) + (r6 - 48))), (4, vi r6), (0, vr 20), (1, vi l1), (3, vi l3)]) (dk dtk_X9_wholeOrBad 38 rfl) rfl (by decide) rfl ?_
      refine T_iinc (v := l3 + 1) (lv2 := [(3, vi (l3 + 1)), (2, vi ((l2 * 10) + (r6 - 48))), (4, vi r6), (0, vr 20), (1, vi l1)]) 4 (dk dtk_X9_wholeOrBad 39 rfl) rfl rfl (by decide) rfl ?_
      refine T_goto 20 (dk dtk_X9_wholeOrBad 40 rfl) (by decide) ?_
      exact T_sub [3, 4, 1, 0] rfl h
    · have h := h.2 c9
      refine T_iconst (v := 1) (dk dtk_X9_wholeOrBad 29 rfl) (by decide +kernel) ?_
      exact KT_iret (dk dtk_X9_wholeOrBad 30 rfl) rfl rfl h
set_option maxRecDepth 100000 in
theorem dtk_X9_sign : dck cX9_sign [(0, .iload_n 2, 1), (1, .bipush 61, 2), (3, .if_icmp .ne 31, 3), (6, .iload_n 1, 1), (7, .bipush 61, 2), (9, .if_icmp .eq 21, 3), (12, .iload_n 1, 1), (13, .bipush 33, 2), (15, .if_icmp .eq 15, 3), (18, .iload_n 1, 1), (19, .bipush 60, 2), (21, .if_icmp .eq 9, 3), (24, .iload_n 1, 1), (25, .bipush 62, 2), (27, .if_icmp .ne 7, 3), (30, .iconst 1, 1), (31, .goto 4, 3), (34, .iconst 0, 1), (35, .istore_n 3, 1), (36, .aload_n 0, 1), (37, .getfield 25, 3), (40, .aload_n 0, 1), (41, .getfield 41, 3), (44, .iload_n 3, 1), (45, .ifCond .eq 7, 3), (48, .iconst 2, 1), (49, .goto 4, 3), (52, .iconst 1, 1), (53, .iastore, 1), (54, .aload_n 0, 1), (55, .dup, 1), (56, .getfield 35, 3), (59, .aload_n 0, 1), (60, .getfield 25, 3), (63, .aload_n 0, 1), (64, .getfield 41, 3), (67, .iaload, 1), (68, .iadd, 1), (69, .putfield 35, 3), (72, .iload_n 1, 1), (73, .lookupswitch 90 #[(33, 55), (60, 66), (61, 43), (62, 78)], 43), (116, .iload_n 3, 1), (117, .ifCond .eq 8, 3), (120, .bipush 11, 2), (122, .goto 5, 3), (125, .bipush 10, 2), (127, .ireturn, 1), (128, .iload_n 3, 1), (129, .ifCond .eq 8, 3), (132, .bipush 12, 2), (134, .goto 4, 3), (137, .iconst 1, 1), (138, .ireturn, 1), (139, .iload_n 3, 1), (140, .ifCond .eq 8, 3), (143, .bipush 14, 2), (145, .goto 5, 3), (148, .bipush 13, 2), (150, .ireturn, 1), (151, .iload_n 3, 1), (152, .ifCond .eq 8, 3), (155, .bipush 16, 2), (157, .goto 5, 3), (160, .bipush 15, 2), (162, .ireturn, 1), (163, .iload_n 1, 1), (164, .invokestatic 87, 3), (167, .ireturn, 1)] = true := by decide +kernel
set_option maxRecDepth 100000 in
set_option maxHeartbeats 4000000 in
theorem kg_X9_sign_0 {G : kG} {q : kP} {d : Nat} {x : gd} {P : Option gv → gd → Prop} (hq : kV q) (l1 : Int32) (l2 : Int32)
    (h : ((¬ (l2 = (61 : Int32)) → KT G q (d + 1) zk_X9_sign 35 [(0, vr 20), (1, vi l1)] [vi 0] x P) ∧ (l2 = (61 : Int32) → ((l1 = (61 : Int32) → KT G q (d + 1) zk_X9_sign 35 [(0, vr 20), (1, vi l1)] [vi 1] x P) ∧ (¬ (l1 = (61 : Int32)) → ((l1 = (33 : Int32) → KT G q (d + 1) zk_X9_sign 35 [(0, vr 20), (1, vi l1)] [vi 1] x P) ∧ (¬ (l1 = (33 : Int32)) → ((l1 = (60 : Int32) → KT G q (d + 1) zk_X9_sign 35 [(0, vr 20), (1, vi l1)] [vi 1] x P) ∧ (¬ (l1 = (60 : Int32)) → ((¬ (l1 = (62 : Int32)) → KT G q (d + 1) zk_X9_sign 35 [(0, vr 20), (1, vi l1)] [vi 0] x P) ∧ (l1 = (62 : Int32) → KT G q (d + 1) zk_X9_sign 35 [(0, vr 20), (1, vi l1)] [vi 1] x P))))))))))) :
    KT G q (d + 1) zk_X9_sign 0 [(0, vr 20), (1, vi l1), (2, vi l2)] [] x P := by
  refine T_iload_n 2 (dk dtk_X9_sign 0 rfl) rfl rfl ?_
  refine T_bipush (v := 61) (dk dtk_X9_sign 1 rfl) (by decide +kernel) ?_
  refine T_icmp_ne 34 (dk dtk_X9_sign 2 rfl) (by decide) (fun c1 => ?_) (fun c1 => ?_)
  · have h := h.1 c1
    refine T_iconst (v := 0) (dk dtk_X9_sign 17 rfl) (by decide +kernel) ?_
    exact T_sub [0, 1] rfl h
  · have h := h.2 c1
    refine T_iload_n 1 (dk dtk_X9_sign 3 rfl) rfl rfl ?_
    refine T_bipush (v := 61) (dk dtk_X9_sign 4 rfl) (by decide +kernel) ?_
    refine T_icmp_eq 30 (dk dtk_X9_sign 5 rfl) (by decide) (fun c2 => ?_) (fun c2 => ?_)
    · have h := h.1 c2
      refine T_iconst (v := 1) (dk dtk_X9_sign 15 rfl) (by decide +kernel) ?_
      refine T_goto 35 (dk dtk_X9_sign 16 rfl) (by decide) ?_
      exact T_sub [0, 1] rfl h
    · have h := h.2 c2
      refine T_iload_n 1 (dk dtk_X9_sign 6 rfl) rfl rfl ?_
      refine T_bipush (v := 33) (dk dtk_X9_sign 7 rfl) (by decide +kernel) ?_
      refine T_icmp_eq 30 (dk dtk_X9_sign 8 rfl) (by decide) (fun c3 => ?_) (fun c3 => ?_)
      · have h := h.1 c3
        refine T_iconst (v := 1) (dk dtk_X9_sign 15 rfl) (by decide +kernel) ?_
        refine T_goto 35 (dk dtk_X9_sign 16 rfl) (by decide) ?_
        exact T_sub [0, 1] rfl h
      · have h := h.2 c3
        refine T_iload_n 1 (dk dtk_X9_sign 9 rfl) rfl rfl ?_
        refine T_bipush (v := 60) (dk dtk_X9_sign 10 rfl) (by decide +kernel) ?_
        refine T_icmp_eq 30 (dk dtk_X9_sign 11 rfl) (by decide) (fun c4 => ?_) (fun c4 => ?_)
        · have h := h.1 c4
          refine T_iconst (v := 1) (dk dtk_X9_sign 15 rfl) (by decide +kernel) ?_
          refine T_goto 35 (dk dtk_X9_sign 16 rfl) (by decide) ?_
          exact T_sub [0, 1] rfl h
        · have h := h.2 c4
          refine T_iload_n 1 (dk dtk_X9_sign 12 rfl) rfl rfl ?_
          refine T_bipush (v := 62) (dk dtk_X9_sign 13 rfl) (by decide +kernel) ?_
          refine T_icmp_ne 34 (dk dtk_X9_sign 14 rfl) (by decide) (fun c5 => ?_) (fun c5 => ?_)
          · have h := h.1 c5
            refine T_iconst (v := 0) (dk dtk_X9_sign 17 rfl) (by decide +kernel) ?_
            exact T_sub [0, 1] rfl h
          · have h := h.2 c5
            refine T_iconst (v := 1) (dk dtk_X9_sign 15 rfl) (by decide +kernel) ?_
            refine T_goto 35 (dk dtk_X9_sign 16 rfl) (by decide) ?_
            exact T_sub [0, 1] rfl h
set_option maxRecDepth 100000 in
set_option maxHeartbeats 4000000 in
theorem kg_X9_sign_35 {G : kG} {q : kP} {d : Nat} {x : gd} {P : Option gv → gd → Prop} (hq : kV q) (l1 : Int32) (s0 : Int32)
    (h : ((s0 = (0 : Int32) → KT G q (d + 1) zk_X9_sign 53 [(0, vr 20), (1, vi l1), (3, vi s0)] [vi 1, vi (x.1 20 7), vr 26] x P) ∧ (¬ (s0 = (0 : Int32)) → KT G q (d + 1) zk_X9_sign 53 [(0, vr 20), (1, vi l1), (3, vi s0)] [vi 2, vi (x.1 20 7), vr 26] x P))) :
    KT G q (d + 1) zk_X9_sign 35 [(0, vr 20), (1, vi l1)] [vi s0] x P := by
  refine T_istore_n (lv2 := [(3, vi s0), (0, vr 20), (1, vi l1)]) (dk dtk_X9_sign 18 rfl) rfl (by decide) rfl ?_
  refine T_aload_n 1 (dk dtk_X9_sign 19 rfl) rfl rfl ?_
  refine T_getR 20 5 26 (dk dtk_X9_sign 20 rfl) kfl_X9_25 kk_20 (kl_20 hq) (by decide) rfl kr_20_5 ?_
  refine T_aload_n 1 (dk dtk_X9_sign 21 rfl) rfl rfl ?_
  refine T_getI 20 7 (dk dtk_X9_sign 22 rfl) kfl_X9_41 kk_20 (kl_20 hq) (by decide) rfl ?_
  refine T_iload_n 0 (dk dtk_X9_sign 23 rfl) rfl rfl ?_
  refine T_if_eq 52 (dk dtk_X9_sign 24 rfl) (by decide) (fun c1 => ?_) (fun c1 => ?_)
  · have h := h.1 c1
    refine T_iconst (v := 1) (dk dtk_X9_sign 27 rfl) (by decide +kernel) ?_
    exact T_sub [1, 2, 0] rfl h
  · have h := h.2 c1
    refine T_iconst (v := 2) (dk dtk_X9_sign 25 rfl) (by decide +kernel) ?_
    refine T_goto 53 (dk dtk_X9_sign 26 rfl) (by decide) ?_
    exact T_sub [1, 2, 0] rfl h
set_option maxRecDepth 100000 in
set_option maxHeartbeats 4000000 in
theorem kg_X9_sign_53 {G : kG} {q : kP} {d : Nat} {x : gd} {P : Option gv → gd → Prop} (hq : kV q) (l1 : Int32) (l3 : Int32) (s0 : Int32) (s1 : Int32)
    (h : vp_in s1 702 ∧ (∀ x2 : gd, x2 = si x 26 (s1 : Int32).toNatClampNeg s0 → vp_in (x2.1 20 7) 702 ∧ (∀ x4 : gd, x4 = si x2 20 8 ((x2.1 20 8) + (x2.1 26 (x2.1 20 7 : Int32).toNatClampNeg)) → (((l1 = 61) → ((l3 = (0 : Int32) → P (some (vi 10)) x4) ∧ (¬ (l3 = (0 : Int32)) → P (some (vi 11)) x4))) ∧ ((l1 = 33) → ((l3 = (0 : Int32) → P (some (vi 1)) x4) ∧ (¬ (l3 = (0 : Int32)) → P (some (vi 12)) x4))) ∧ ((l1 = 60) → ((l3 = (0 : Int32) → P (some (vi 13)) x4) ∧ (¬ (l3 = (0 : Int32)) → P (some (vi 14)) x4))) ∧ ((l1 = 62) → ((l3 = (0 : Int32) → P (some (vi 15)) x4) ∧ (¬ (l3 = (0 : Int32)) → P (some (vi 16)) x4))) ∧ ((∀ k ∈ [(61 : Int32), (33 : Int32), (60 : Int32), (62 : Int32)], ¬ l1 = k) → KT G q d zk_X9_singleSign 0 [(0, vi l1)] [] x4 (ri (fun r15 x14 => P (some (vi r15)) x14))))))) :
    KT G q (d + 1) zk_X9_sign 53 [(0, vr 20), (1, vi l1), (3, vi l3)] [vi s0, vi s1, vr 26] x P := by
  obtain ⟨h1, h⟩ := h
  obtain ⟨x2, ex2⟩ : ∃ z, z = si x 26 (s1 : Int32).toNatClampNeg s0 := ⟨_, rfl⟩
  have h := h x2 ex2
  refine T_iast 26 702 (dk dtk_X9_sign 28 rfl) kk_26 (kl_26 hq) h1 ?_
  rw [← ex2]
  refine T_aload_n 0 (dk dtk_X9_sign 29 rfl) rfl rfl ?_
  refine T_dup (dk dtk_X9_sign 30 rfl) rfl ?_
  refine T_getI 20 8 (dk dtk_X9_sign 31 rfl) kfl_X9_35 kk_20 (kl_20 hq) (by decide) rfl ?_
  refine T_aload_n 0 (dk dtk_X9_sign 32 rfl) rfl rfl ?_
  refine T_getR 20 5 26 (dk dtk_X9_sign 33 rfl) kfl_X9_25 kk_20 (kl_20 hq) (by decide) rfl kr_20_5 ?_
  refine T_aload_n 0 (dk dtk_X9_sign 34 rfl) rfl rfl ?_
  refine T_getI 20 7 (dk dtk_X9_sign 35 rfl) kfl_X9_41 kk_20 (kl_20 hq) (by decide) rfl ?_
  obtain ⟨h3, h⟩ := h
  refine T_iald 26 702 (dk dtk_X9_sign 36 rfl) kk_26 (kl_26 hq) h3 ?_
  refine T_iadd (dk dtk_X9_sign 37 rfl) ?_
  obtain ⟨x4, ex4⟩ : ∃ z, z = si x2 20 8 ((x2.1 20 8) + (x2.1 26 (x2.1 20 7 : Int32).toNatClampNeg)) := ⟨_, rfl⟩
  have h := h x4 ex4
  refine T_putI 20 8 (dk dtk_X9_sign 38 rfl) kfl_X9_35 kk_20 (kl_20 hq) (by decide) rfl ⟨rfl, rfl⟩ ?_
  rw [← ex4]
  refine T_iload_n 1 (dk dtk_X9_sign 39 rfl) rfl rfl ?_
  by_cases c5 : l1 = 61
  · have h := h.1 c5
    refine T_lookup 43 116 (dk dtk_X9_sign 40 rfl) (by decide +kernel) (by rw [c5]; decide +kernel) (by decide) ?_
    refine T_iload_n 2 (dk dtk_X9_sign 41 rfl) rfl rfl ?_
    refine T_if_eq 125 (dk dtk_X9_sign 42 rfl) (by decide) (fun c6 => ?_) (fun c6 => ?_)
    · have h := h.1 c6
      refine T_bipush (v := 10) (dk dtk_X9_sign 45 rfl) (by decide +kernel) ?_
      exact KT_iret (dk dtk_X9_sign 46 rfl) rfl rfl h
    · have h := h.2 c6
      refine T_bipush (v := 11) (dk dtk_X9_sign 43 rfl) (by decide +kernel) ?_
      refine T_goto 127 (dk dtk_X9_sign 44 rfl) (by decide) ?_
      exact KT_iret (dk dtk_X9_sign 46 rfl) rfl rfl h
  · have h := h.2
    by_cases c7 : l1 = 33
    · have h := h.1 c7
      refine T_lookup 55 128 (dk dtk_X9_sign 40 rfl) (by decide +kernel) (by rw [c7]; decide +kernel) (by decide) ?_
      refine T_iload_n 2 (dk dtk_X9_sign 47 rfl) rfl rfl ?_
      refine T_if_eq 137 (dk dtk_X9_sign 48 rfl) (by decide) (fun c8 => ?_) (fun c8 => ?_)
      · have h := h.1 c8
        refine T_iconst (v := 1) (dk dtk_X9_sign 51 rfl) (by decide +kernel) ?_
        exact KT_iret (dk dtk_X9_sign 52 rfl) rfl rfl h
      · have h := h.2 c8
        refine T_bipush (v := 12) (dk dtk_X9_sign 49 rfl) (by decide +kernel) ?_
        refine T_goto 138 (dk dtk_X9_sign 50 rfl) (by decide) ?_
        exact KT_iret (dk dtk_X9_sign 52 rfl) rfl rfl h
    · have h := h.2
      by_cases c9 : l1 = 60
      · have h := h.1 c9
        refine T_lookup 66 139 (dk dtk_X9_sign 40 rfl) (by decide +kernel) (by rw [c9]; decide +kernel) (by decide) ?_
        refine T_iload_n 2 (dk dtk_X9_sign 53 rfl) rfl rfl ?_
        refine T_if_eq 148 (dk dtk_X9_sign 54 rfl) (by decide) (fun c10 => ?_) (fun c10 => ?_)
        · have h := h.1 c10
          refine T_bipush (v := 13) (dk dtk_X9_sign 57 rfl) (by decide +kernel) ?_
          exact KT_iret (dk dtk_X9_sign 58 rfl) rfl rfl h
        · have h := h.2 c10
          refine T_bipush (v := 14) (dk dtk_X9_sign 55 rfl) (by decide +kernel) ?_
          refine T_goto 150 (dk dtk_X9_sign 56 rfl) (by decide) ?_
          exact KT_iret (dk dtk_X9_sign 58 rfl) rfl rfl h
      · have h := h.2
        by_cases c11 : l1 = 62
        · have h := h.1 c11
          refine T_lookup 78 151 (dk dtk_X9_sign 40 rfl) (by decide +kernel) (by rw [c11]; decide +kernel) (by decide) ?_
          refine T_iload_n 2 (dk dtk_X9_sign 59 rfl) rfl rfl ?_
          refine T_if_eq 160 (dk dtk_X9_sign 60 rfl) (by decide) (fun c12 => ?_) (fun c12 => ?_)
          · have h := h.1 c12
            refine T_bipush (v := 15) (dk dtk_X9_sign 63 rfl) (by decide +kernel) ?_
            exact KT_iret (dk dtk_X9_sign 64 rfl) rfl rfl h
          · have h := h.2 c12
            refine T_bipush (v := 16) (dk dtk_X9_sign 61 rfl) (by decide +kernel) ?_
            refine T_goto 162 (dk dtk_X9_sign 62 rfl) (by decide) ?_
            exact KT_iret (dk dtk_X9_sign 64 rfl) rfl rfl h
        · have h := h.2
          have n13 : ∀ k ∈ [(61 : Int32), (33 : Int32), (60 : Int32), (62 : Int32)], ¬ l1 = k := (gno c5 (gno c7 (gno c9 (gno c11 gno0))))
          have h := h n13
          refine T_lookup 90 163 (dk dtk_X9_sign 40 rfl) (by decide +kernel) (glk_d [(61 : Int32), (33 : Int32), (60 : Int32), (62 : Int32)] (by decide +kernel) n13) (by decide) ?_
          refine T_iload_n 1 (dk dtk_X9_sign 65 rfl) rfl rfl ?_
          refine T_sub (lv2 := []) [] rfl ?_
          refine KC_Si [vi l1] [] rfl (dk dtk_X9_sign 66 rfl) kcs_X9_87 rfl (Nat.le_of_ble_eq_true rfl) (Nat.le_of_ble_eq_true rfl) (gok_i av_n as_n) rfl h (fun r15 x14 h => ?_)
          exact KT_iret (dk dtk_X9_sign 67 rfl) rfl rfl h
set_option maxRecDepth 100000 in
theorem dtk_X9_singleSign : dck cX9_singleSign [(0, .iload_n 0, 1), (1, .lookupswitch 143 #[(40, 119), (41, 122), (42, 113), (43, 107), (44, 140), (45, 110), (47, 116), (59, 137), (91, 131), (93, 134), (123, 125), (125, 128)], 107), (108, .bipush 17, 2), (110, .ireturn, 1), (111, .bipush 18, 2), (113, .ireturn, 1), (114, .bipush 19, 2), (116, .ireturn, 1), (117, .bipush 20, 2), (119, .ireturn, 1), (120, .bipush 21, 2), (122, .ireturn, 1), (123, .bipush 22, 2), (125, .ireturn, 1), (126, .bipush 23, 2), (128, .ireturn, 1), (129, .bipush 24, 2), (131, .ireturn, 1), (132, .bipush 25, 2), (134, .ireturn, 1), (135, .bipush 26, 2), (137, .ireturn, 1), (138, .bipush 27, 2), (140, .ireturn, 1), (141, .bipush 28, 2), (143, .ireturn, 1), (144, .iconst 1, 1), (145, .ireturn, 1)] = true := by decide +kernel
set_option maxRecDepth 100000 in
set_option maxHeartbeats 4000000 in
theorem kg_X9_singleSign_0 {G : kG} {q : kP} {d : Nat} {x : gd} {P : Option gv → gd → Prop} (hq : kV q) (l0 : Int32)
    (h : (((l0 = 43) → P (some (vi 17)) x) ∧ ((l0 = 45) → P (some (vi 18)) x) ∧ ((l0 = 42) → P (some (vi 19)) x) ∧ ((l0 = 47) → P (some (vi 20)) x) ∧ ((l0 = 40) → P (some (vi 21)) x) ∧ ((l0 = 41) → P (some (vi 22)) x) ∧ ((l0 = 123) → P (some (vi 23)) x) ∧ ((l0 = 125) → P (some (vi 24)) x) ∧ ((l0 = 91) → P (some (vi 25)) x) ∧ ((l0 = 93) → P (some (vi 26)) x) ∧ ((l0 = 59) → P (some (vi 27)) x) ∧ ((l0 = 44) → P (some (vi 28)) x) ∧ ((∀ k ∈ [(43 : Int32), (45 : Int32), (42 : Int32), (47 : Int32), (40 : Int32), (41 : Int32), (123 : Int32), (125 : Int32), (91 : Int32), (93 : Int32), (59 : Int32), (44 : Int32)], ¬ l0 = k) → P (some (vi 1)) x))) :
    KT G q d zk_X9_singleSign 0 [(0, vi l0)] [] x P := by
  refine T_iload_n 0 (dk dtk_X9_singleSign 0 rfl) rfl rfl ?_
  by_cases c1 : l0 = 43
  · have h := h.1 c1
    refine T_lookup 107 108 (dk dtk_X9_singleSign 1 rfl) (by decide +kernel) (by rw [c1]; decide +kernel) (by decide) ?_
    refine T_bipush (v := 17) (dk dtk_X9_singleSign 2 rfl) (by decide +kernel) ?_
    exact KT_iret (dk dtk_X9_singleSign 3 rfl) rfl rfl h
  · have h := h.2
    by_cases c2 : l0 = 45
    · have h := h.1 c2
      refine T_lookup 110 111 (dk dtk_X9_singleSign 1 rfl) (by decide +kernel) (by rw [c2]; decide +kernel) (by decide) ?_
      refine T_bipush (v := 18) (dk dtk_X9_singleSign 4 rfl) (by decide +kernel) ?_
      exact KT_iret (dk dtk_X9_singleSign 5 rfl) rfl rfl h
    · have h := h.2
      by_cases c3 : l0 = 42
      · have h := h.1 c3
        refine T_lookup 113 114 (dk dtk_X9_singleSign 1 rfl) (by decide +kernel) (by rw [c3]; decide +kernel) (by decide) ?_
        refine T_bipush (v := 19) (dk dtk_X9_singleSign 6 rfl) (by decide +kernel) ?_
        exact KT_iret (dk dtk_X9_singleSign 7 rfl) rfl rfl h
      · have h := h.2
        by_cases c4 : l0 = 47
        · have h := h.1 c4
          refine T_lookup 116 117 (dk dtk_X9_singleSign 1 rfl) (by decide +kernel) (by rw [c4]; decide +kernel) (by decide) ?_
          refine T_bipush (v := 20) (dk dtk_X9_singleSign 8 rfl) (by decide +kernel) ?_
          exact KT_iret (dk dtk_X9_singleSign 9 rfl) rfl rfl h
        · have h := h.2
          by_cases c5 : l0 = 40
          · have h := h.1 c5
            refine T_lookup 119 120 (dk dtk_X9_singleSign 1 rfl) (by decide +kernel) (by rw [c5]; decide +kernel) (by decide) ?_
            refine T_bipush (v := 21) (dk dtk_X9_singleSign 10 rfl) (by decide +kernel) ?_
            exact KT_iret (dk dtk_X9_singleSign 11 rfl) rfl rfl h
          · have h := h.2
            by_cases c6 : l0 = 41
            · have h := h.1 c6
              refine T_lookup 122 123 (dk dtk_X9_singleSign 1 rfl) (by decide +kernel) (by rw [c6]; decide +kernel) (by decide) ?_
              refine T_bipush (v := 22) (dk dtk_X9_singleSign 12 rfl) (by decide +kernel) ?_
              exact KT_iret (dk dtk_X9_singleSign 13 rfl) rfl rfl h
            · have h := h.2
              by_cases c7 : l0 = 123
              · have h := h.1 c7
                refine T_lookup 125 126 (dk dtk_X9_singleSign 1 rfl) (by decide +kernel) (by rw [c7]; decide +kernel) (by decide) ?_
                refine T_bipush (v := 23) (dk dtk_X9_singleSign 14 rfl) (by decide +kernel) ?_
                exact KT_iret (dk dtk_X9_singleSign 15 rfl) rfl rfl h
              · have h := h.2
                by_cases c8 : l0 = 125
                · have h := h.1 c8
                  refine T_lookup 128 129 (dk dtk_X9_singleSign 1 rfl) (by decide +kernel) (by rw [c8]; decide +kernel) (by decide) ?_
                  refine T_bipush (v := 24) (dk dtk_X9_singleSign 16 rfl) (by decide +kernel) ?_
                  exact KT_iret (dk dtk_X9_singleSign 17 rfl) rfl rfl h
                · have h := h.2
                  by_cases c9 : l0 = 91
                  · have h := h.1 c9
                    refine T_lookup 131 132 (dk dtk_X9_singleSign 1 rfl) (by decide +kernel) (by rw [c9]; decide +kernel) (by decide) ?_
                    refine T_bipush (v := 25) (dk dtk_X9_singleSign 18 rfl) (by decide +kernel) ?_
                    exact KT_iret (dk dtk_X9_singleSign 19 rfl) rfl rfl h
                  · have h := h.2
                    by_cases c10 : l0 = 93
                    · have h := h.1 c10
                      refine T_lookup 134 135 (dk dtk_X9_singleSign 1 rfl) (by decide +kernel) (by rw [c10]; decide +kernel) (by decide) ?_
                      refine T_bipush (v := 26) (dk dtk_X9_singleSign 20 rfl) (by decide +kernel) ?_
                      exact KT_iret (dk dtk_X9_singleSign 21 rfl) rfl rfl h
                    · have h := h.2
                      by_cases c11 : l0 = 59
                      · have h := h.1 c11
                        refine T_lookup 137 138 (dk dtk_X9_singleSign 1 rfl) (by decide +kernel) (by rw [c11]; decide +kernel) (by decide) ?_
                        refine T_bipush (v := 27) (dk dtk_X9_singleSign 22 rfl) (by decide +kernel) ?_
                        exact KT_iret (dk dtk_X9_singleSign 23 rfl) rfl rfl h
                      · have h := h.2
                        by_cases c12 : l0 = 44
                        · have h := h.1 c12
                          refine T_lookup 140 141 (dk dtk_X9_singleSign 1 rfl) (by decide +kernel) (by rw [c12]; decide +kernel) (by decide) ?_
                          refine T_bipush (v := 28) (dk dtk_X9_singleSign 24 rfl) (by decide +kernel) ?_
                          exact KT_iret (dk dtk_X9_singleSign 25 rfl) rfl rfl h
                        · have h := h.2
                          have n13 : ∀ k ∈ [(43 : Int32), (45 : Int32), (42 : Int32), (47 : Int32), (40 : Int32), (41 : Int32), (123 : Int32), (125 : Int32), (91 : Int32), (93 : Int32), (59 : Int32), (44 : Int32)], ¬ l0 = k := (gno c1 (gno c2 (gno c3 (gno c4 (gno c5 (gno c6 (gno c7 (gno c8 (gno c9 (gno c10 (gno c11 (gno c12 gno0))))))))))))
                          have h := h n13
                          refine T_lookup 143 144 (dk dtk_X9_singleSign 1 rfl) (by decide +kernel) (glk_d [(43 : Int32), (45 : Int32), (42 : Int32), (47 : Int32), (40 : Int32), (41 : Int32), (123 : Int32), (125 : Int32), (91 : Int32), (93 : Int32), (59 : Int32), (44 : Int32)] (by decide +kernel) n13) (by decide) ?_
                          refine T_iconst (v := 1) (dk dtk_X9_singleSign 26 rfl) (by decide +kernel) ?_
                          exact KT_iret (dk dtk_X9_singleSign 27 rfl) rfl rfl h
set_option maxRecDepth 100000 in
theorem dtk_X9_isLetter : dck cX9_isLetter [(0, .iload_n 0, 1), (1, .bipush 97, 2), (3, .if_icmp .lt 9, 3), (6, .iload_n 0, 1), (7, .bipush 122, 2), (9, .if_icmp .le 15, 3), (12, .iload_n 0, 1), (13, .bipush 65, 2), (15, .if_icmp .lt 13, 3), (18, .iload_n 0, 1), (19, .bipush 90, 2), (21, .if_icmp .gt 7, 3), (24, .iconst 1, 1), (25, .goto 4, 3), (28, .iconst 0, 1), (29, .ireturn, 1)] = true := by decide +kernel
set_option maxRecDepth 100000 in
set_option maxHeartbeats 4000000 in
theorem kg_X9_isLetter_0 {G : kG} {q : kP} {d : Nat} {x : gd} {P : Option gv → gd → Prop} (hq : kV q) (l0 : Int32)
    (h : ((l0 < (97 : Int32) → KT G q d zk_X9_isLetter 12 [(0, vi l0)] [] x P) ∧ (¬ (l0 < (97 : Int32)) → ((l0 ≤ (122 : Int32) → P (some (vi 1)) x) ∧ (¬ (l0 ≤ (122 : Int32)) → KT G q d zk_X9_isLetter 12 [(0, vi l0)] [] x P))))) :
    KT G q d zk_X9_isLetter 0 [(0, vi l0)] [] x P := by
  refine T_iload_n 0 (dk dtk_X9_isLetter 0 rfl) rfl rfl ?_
  refine T_bipush (v := 97) (dk dtk_X9_isLetter 1 rfl) (by decide +kernel) ?_
  refine T_icmp_lt 12 (dk dtk_X9_isLetter 2 rfl) (by decide) (fun c1 => ?_) (fun c1 => ?_)
  · have h := h.1 c1
    exact h
  · have h := h.2 c1
    refine T_iload_n 0 (dk dtk_X9_isLetter 3 rfl) rfl rfl ?_
    refine T_bipush (v := 122) (dk dtk_X9_isLetter 4 rfl) (by decide +kernel) ?_
    refine T_icmp_le 24 (dk dtk_X9_isLetter 5 rfl) (by decide) (fun c2 => ?_) (fun c2 => ?_)
    · have h := h.1 c2
      refine T_iconst (v := 1) (dk dtk_X9_isLetter 12 rfl) (by decide +kernel) ?_
      refine T_goto 29 (dk dtk_X9_isLetter 13 rfl) (by decide) ?_
      exact KT_iret (dk dtk_X9_isLetter 15 rfl) rfl rfl h
    · have h := h.2 c2
      exact h
set_option maxRecDepth 100000 in
set_option maxHeartbeats 4000000 in
theorem kg_X9_isLetter_12 {G : kG} {q : kP} {d : Nat} {x : gd} {P : Option gv → gd → Prop} (hq : kV q) (l0 : Int32)
    (h : ((l0 < (65 : Int32) → P (some (vi 0)) x) ∧ (¬ (l0 < (65 : Int32)) → (((90 : Int32) < l0 → P (some (vi 0)) x) ∧ (¬ ((90 : Int32) < l0) → P (some (vi 1)) x))))) :
    KT G q d zk_X9_isLetter 12 [(0, vi l0)] [] x P := by
  refine T_iload_n 0 (dk dtk_X9_isLetter 6 rfl) rfl rfl ?_
  refine T_bipush (v := 65) (dk dtk_X9_isLetter 7 rfl) (by decide +kernel) ?_
  refine T_icmp_lt 28 (dk dtk_X9_isLetter 8 rfl) (by decide) (fun c1 => ?_) (fun c1 => ?_)
  · have h := h.1 c1
    refine T_iconst (v := 0) (dk dtk_X9_isLetter 14 rfl) (by decide +kernel) ?_
    exact KT_iret (dk dtk_X9_isLetter 15 rfl) rfl rfl h
  · have h := h.2 c1
    refine T_iload_n 0 (dk dtk_X9_isLetter 9 rfl) rfl rfl ?_
    refine T_bipush (v := 90) (dk dtk_X9_isLetter 10 rfl) (by decide +kernel) ?_
    refine T_icmp_gt 28 (dk dtk_X9_isLetter 11 rfl) (by decide) (fun c2 => ?_) (fun c2 => ?_)
    · have h := h.1 c2
      refine T_iconst (v := 0) (dk dtk_X9_isLetter 14 rfl) (by decide +kernel) ?_
      exact KT_iret (dk dtk_X9_isLetter 15 rfl) rfl rfl h
    · have h := h.2 c2
      refine T_iconst (v := 1) (dk dtk_X9_isLetter 12 rfl) (by decide +kernel) ?_
      refine T_goto 29 (dk dtk_X9_isLetter 13 rfl) (by decide) ?_
      exact KT_iret (dk dtk_X9_isLetter 15 rfl) rfl rfl h
set_option maxRecDepth 100000 in
theorem dtk_X9_isDigit : dck cX9_isDigit [(0, .iload_n 0, 1), (1, .bipush 48, 2), (3, .if_icmp .lt 13, 3), (6, .iload_n 0, 1), (7, .bipush 57, 2), (9, .if_icmp .gt 7, 3), (12, .iconst 1, 1), (13, .goto 4, 3), (16, .iconst 0, 1), (17, .ireturn, 1)] = true := by decide +kernel
set_option maxRecDepth 100000 in
set_option maxHeartbeats 4000000 in
theorem kg_X9_isDigit_0 {G : kG} {q : kP} {d : Nat} {x : gd} {P : Option gv → gd → Prop} (hq : kV q) (l0 : Int32)
    (h : ((l0 < (48 : Int32) → P (some (vi 0)) x) ∧ (¬ (l0 < (48 : Int32)) → (((57 : Int32) < l0 → P (some (vi 0)) x) ∧ (¬ ((57 : Int32) < l0) → P (some (vi 1)) x))))) :
    KT G q d zk_X9_isDigit 0 [(0, vi l0)] [] x P := by
  refine T_iload_n 0 (dk dtk_X9_isDigit 0 rfl) rfl rfl ?_
  refine T_bipush (v := 48) (dk dtk_X9_isDigit 1 rfl) (by decide +kernel) ?_
  refine T_icmp_lt 16 (dk dtk_X9_isDigit 2 rfl) (by decide) (fun c1 => ?_) (fun c1 => ?_)
  · have h := h.1 c1
    refine T_iconst (v := 0) (dk dtk_X9_isDigit 8 rfl) (by decide +kernel) ?_
    exact KT_iret (dk dtk_X9_isDigit 9 rfl) rfl rfl h
  · have h := h.2 c1
    refine T_iload_n 0 (dk dtk_X9_isDigit 3 rfl) rfl rfl ?_
    refine T_bipush (v := 57) (dk dtk_X9_isDigit 4 rfl) (by decide +kernel) ?_
    refine T_icmp_gt 16 (dk dtk_X9_isDigit 5 rfl) (by decide) (fun c2 => ?_) (fun c2 => ?_)
    · have h := h.1 c2
      refine T_iconst (v := 0) (dk dtk_X9_isDigit 8 rfl) (by decide +kernel) ?_
      exact KT_iret (dk dtk_X9_isDigit 9 rfl) rfl rfl h
    · have h := h.2 c2
      refine T_iconst (v := 1) (dk dtk_X9_isDigit 6 rfl) (by decide +kernel) ?_
      refine T_goto 17 (dk dtk_X9_isDigit 7 rfl) (by decide) ?_
      exact KT_iret (dk dtk_X9_isDigit 9 rfl) rfl rfl h
set_option maxRecDepth 100000 in
theorem dtk_X6_clear : dck cX6_clear [(0, .aload_n 0, 1), (1, .iconst 0, 1), (2, .putfield 39, 3), (5, .aload_n 0, 1), (6, .iconst 0, 1), (7, .putfield 43, 3), (10, .aload_n 0, 1), (11, .iconst 0, 1), (12, .putfield 46, 3), (15, .aload_n 0, 1), (16, .getfield 17, 3), (19, .iconst 0, 1), (20, .invokestatic 49, 3), (23, .aload_n 0, 1), (24, .getfield 21, 3), (27, .iconst (-1), 1), (28, .invokestatic 49, 3), (31, .return_, 1)] = true := by decide +kernel
set_option maxRecDepth 100000 in
set_option maxHeartbeats 4000000 in
theorem kg_X6_clear_0 {G : kG} {q : kP} {d : Nat} {x : gd} {P : Option gv → gd → Prop} (hq : kV q) 
    (h : (∀ x1 : gd, x1 = si x 40 6 0 → (∀ x2 : gd, x2 = si x1 40 8 0 → (∀ x3 : gd, x3 = si x2 40 10 0 → (∀ x4 : gd, x4 = sfl x3 42 0 702 → (∀ x5 : gd, x5 = sfl x4 43 (-1) 702 → P none x5)))))) :
    KT G q (d + 1) zk_X6_clear 0 [(0, vr 40)] [] x P := by
  refine T_aload_n 0 (dk dtk_X6_clear 0 rfl) rfl rfl ?_
  refine T_iconst (v := 0) (dk dtk_X6_clear 1 rfl) (by decide +kernel) ?_
  obtain ⟨x1, ex1⟩ : ∃ z, z = si x 40 6 0 := ⟨_, rfl⟩
  have h := h x1 ex1
  refine T_putI 40 6 (dk dtk_X6_clear 2 rfl) kfl_X6_39 kk_40 (kl_40 hq) (by decide) rfl ⟨rfl, rfl⟩ ?_
  rw [← ex1]
  refine T_aload_n 0 (dk dtk_X6_clear 3 rfl) rfl rfl ?_
  refine T_iconst (v := 0) (dk dtk_X6_clear 4 rfl) (by decide +kernel) ?_
  obtain ⟨x2, ex2⟩ : ∃ z, z = si x1 40 8 0 := ⟨_, rfl⟩
  have h := h x2 ex2
  refine T_putI 40 8 (dk dtk_X6_clear 5 rfl) kfl_X6_43 kk_40 (kl_40 hq) (by decide) rfl ⟨rfl, rfl⟩ ?_
  rw [← ex2]
  refine T_aload_n 0 (dk dtk_X6_clear 6 rfl) rfl rfl ?_
  refine T_iconst (v := 0) (dk dtk_X6_clear 7 rfl) (by decide +kernel) ?_
  obtain ⟨x3, ex3⟩ : ∃ z, z = si x2 40 10 0 := ⟨_, rfl⟩
  have h := h x3 ex3
  refine T_putI 40 10 (dk dtk_X6_clear 8 rfl) kfl_X6_46 kk_40 (kl_40 hq) (by decide) rfl ⟨rfl, rfl⟩ ?_
  rw [← ex3]
  refine T_aload_n 0 (dk dtk_X6_clear 9 rfl) rfl rfl ?_
  refine T_getR 40 1 42 (dk dtk_X6_clear 10 rfl) kfl_X6_17 kk_40 (kl_40 hq) (by decide) rfl kr_40_1 ?_
  refine T_iconst (v := 0) (dk dtk_X6_clear 11 rfl) (by decide +kernel) ?_
  refine KC_Sv (F := fun z => z = sfl x3 42 0 702) [vr 42, vi 0] [] rfl (dk dtk_X6_clear 12 rfl) kcs_X6_49 rfl (Nat.le_of_ble_eq_true rfl) (Nat.le_of_ble_eq_true rfl) (gok_i (av_c (gkr (kl_40 hq)) av_n) as_n) rfl (tj_fill 42 702 0 kk_42 (kl_42 hq) (by decide) ⟨rfl, none, rfl, rfl, rfl⟩) (fun x4 ex4 => ?_)
  have h := h x4 ex4
  refine T_aload_n 0 (dk dtk_X6_clear 13 rfl) rfl rfl ?_
  refine T_getR 40 2 43 (dk dtk_X6_clear 14 rfl) kfl_X6_21 kk_40 (kl_40 hq) (by decide) rfl kr_40_2 ?_
  refine T_iconst (v := (-1)) (dk dtk_X6_clear 15 rfl) (by decide +kernel) ?_
  refine T_sub (lv2 := []) [] rfl ?_
  refine KC_Sv (F := fun z => z = sfl x4 43 (-1) 702) [vr 43, vi (-1)] [] rfl (dk dtk_X6_clear 16 rfl) kcs_X6_49 rfl (Nat.le_of_ble_eq_true rfl) (Nat.le_of_ble_eq_true rfl) (gok_i av_n as_n) rfl (tj_fill 43 702 (-1) kk_43 (kl_43 hq) (by decide) ⟨rfl, none, rfl, rfl, rfl⟩) (fun x5 ex5 => ?_)
  have h := h x5 ex5
  exact KT_vret (dk dtk_X6_clear 17 rfl) rfl h
set_option maxRecDepth 100000 in
theorem dtk_X6_tellCell : dck cX6_tellCell [(0, .aload_n 0, 1), (1, .getfield 39, 3), (4, .bipush 24, 2), (6, .if_icmp .ge 43, 3), (9, .aload_n 0, 1), (10, .getfield 24, 3), (13, .aload_n 0, 1), (14, .getfield 39, 3), (17, .iload_n 1, 1), (18, .iastore, 1), (19, .aload_n 0, 1), (20, .getfield 27, 3), (23, .aload_n 0, 1), (24, .getfield 39, 3), (27, .iload_n 2, 1), (28, .iastore, 1), (29, .aload_n 0, 1), (30, .getfield 30, 3), (33, .aload_n 0, 1), (34, .getfield 39, 3), (37, .iload_n 3, 1), (38, .iastore, 1), (39, .aload_n 0, 1), (40, .dup, 1), (41, .getfield 39, 3), (44, .iconst 1, 1), (45, .iadd, 1), (46, .putfield 39, 3), (49, .return_, 1)] = true := by decide +kernel
set_option maxRecDepth 100000 in
set_option maxHeartbeats 4000000 in
theorem kg_X6_tellCell_0 {G : kG} {q : kP} {d : Nat} {x : gd} {P : Option gv → gd → Prop} (hq : kV q) (l1 : Int32) (l2 : Int32) (l3 : Int32)
    (h : (((24 : Int32) ≤ (x.1 40 6) → P none x) ∧ (¬ ((24 : Int32) ≤ (x.1 40 6)) → vp_in (x.1 40 6) 24 ∧ (∀ x3 : gd, x3 = si x 44 (x.1 40 6 : Int32).toNatClampNeg l1 → vp_in (x3.1 40 6) 24 ∧ (∀ x5 : gd, x5 = si x3 45 (x3.1 40 6 : Int32).toNatClampNeg l2 → vp_in (x5.1 40 6) 24 ∧ (∀ x7 : gd, x7 = si x5 46 (x5.1 40 6 : Int32).toNatClampNeg l3 → (∀ x8 : gd, x8 = si x7 40 6 ((x7.1 40 6) + 1) → P none x8))))))) :
    KT G q d zk_X6_tellCell 0 [(0, vr 40), (1, vi l1), (2, vi l2), (3, vi l3)] [] x P := by
  refine T_aload_n 0 (dk dtk_X6_tellCell 0 rfl) rfl rfl ?_
  refine T_getI 40 6 (dk dtk_X6_tellCell 1 rfl) kfl_X6_39 kk_40 (kl_40 hq) (by decide) rfl ?_
  refine T_bipush (v := 24) (dk dtk_X6_tellCell 2 rfl) (by decide +kernel) ?_
  refine T_icmp_ge 49 (dk dtk_X6_tellCell 3 rfl) (by decide) (fun c1 => ?_) (fun c1 => ?_)
  · have h := h.1 c1
    exact KT_vret (dk dtk_X6_tellCell 28 rfl) rfl h
  · have h := h.2 c1
    refine T_aload_n 0 (dk dtk_X6_tellCell 4 rfl) rfl rfl ?_
    refine T_getR 40 3 44 (dk dtk_X6_tellCell 5 rfl) kfl_X6_24 kk_40 (kl_40 hq) (by decide) rfl kr_40_3 ?_
    refine T_aload_n 0 (dk dtk_X6_tellCell 6 rfl) rfl rfl ?_
    refine T_getI 40 6 (dk dtk_X6_tellCell 7 rfl) kfl_X6_39 kk_40 (kl_40 hq) (by decide) rfl ?_
    refine T_iload_n 1 (dk dtk_X6_tellCell 8 rfl) rfl rfl ?_
    obtain ⟨h2, h⟩ := h
    obtain ⟨x3, ex3⟩ : ∃ z, z = si x 44 (x.1 40 6 : Int32).toNatClampNeg l1 := ⟨_, rfl⟩
    have h := h x3 ex3
    refine T_iast 44 24 (dk dtk_X6_tellCell 9 rfl) kk_44 (kl_44 hq) h2 ?_
    rw [← ex3]
    refine T_aload_n 0 (dk dtk_X6_tellCell 10 rfl) rfl rfl ?_
    refine T_getR 40 4 45 (dk dtk_X6_tellCell 11 rfl) kfl_X6_27 kk_40 (kl_40 hq) (by decide) rfl kr_40_4 ?_
    refine T_aload_n 0 (dk dtk_X6_tellCell 12 rfl) rfl rfl ?_
    refine T_getI 40 6 (dk dtk_X6_tellCell 13 rfl) kfl_X6_39 kk_40 (kl_40 hq) (by decide) rfl ?_
    refine T_iload_n 2 (dk dtk_X6_tellCell 14 rfl) rfl rfl ?_
    obtain ⟨h4, h⟩ := h
    obtain ⟨x5, ex5⟩ : ∃ z, z = si x3 45 (x3.1 40 6 : Int32).toNatClampNeg l2 := ⟨_, rfl⟩
    have h := h x5 ex5
    refine T_iast 45 24 (dk dtk_X6_tellCell 15 rfl) kk_45 (kl_45 hq) h4 ?_
    rw [← ex5]
    refine T_aload_n 0 (dk dtk_X6_tellCell 16 rfl) rfl rfl ?_
    refine T_getR 40 5 46 (dk dtk_X6_tellCell 17 rfl) kfl_X6_30 kk_40 (kl_40 hq) (by decide) rfl kr_40_5 ?_
    refine T_aload_n 0 (dk dtk_X6_tellCell 18 rfl) rfl rfl ?_
    refine T_getI 40 6 (dk dtk_X6_tellCell 19 rfl) kfl_X6_39 kk_40 (kl_40 hq) (by decide) rfl ?_
    refine T_iload_n 3 (dk dtk_X6_tellCell 20 rfl) rfl rfl ?_
    obtain ⟨h6, h⟩ := h
    obtain ⟨x7, ex7⟩ : ∃ z, z = si x5 46 (x5.1 40 6 : Int32).toNatClampNeg l3 := ⟨_, rfl⟩
    have h := h x7 ex7
    refine T_iast 46 24 (dk dtk_X6_tellCell 21 rfl) kk_46 (kl_46 hq) h6 ?_
    rw [← ex7]
    refine T_aload_n 0 (dk dtk_X6_tellCell 22 rfl) rfl rfl ?_
    refine T_dup (dk dtk_X6_tellCell 23 rfl) rfl ?_
    refine T_getI 40 6 (dk dtk_X6_tellCell 24 rfl) kfl_X6_39 kk_40 (kl_40 hq) (by decide) rfl ?_
    refine T_iconst (v := 1) (dk dtk_X6_tellCell 25 rfl) (by decide +kernel) ?_
    refine T_iadd (dk dtk_X6_tellCell 26 rfl) ?_
    obtain ⟨x8, ex8⟩ : ∃ z, z = si x7 40 6 ((x7.1 40 6) + 1) := ⟨_, rfl⟩
    have h := h x8 ex8
    refine T_putI 40 6 (dk dtk_X6_tellCell 27 rfl) kfl_X6_39 kk_40 (kl_40 hq) (by decide) rfl ⟨rfl, rfl⟩ ?_
    rw [← ex8]
    exact KT_vret (dk dtk_X6_tellCell 28 rfl) rfl h
set_option maxRecDepth 100000 in
theorem dtk_X6_tellLock : dck cX6_tellLock [(0, .aload_n 0, 1), (1, .getfield 43, 3), (4, .bipush 6, 2), (6, .if_icmp .ge 23, 3), (9, .aload_n 0, 1), (10, .getfield 33, 3), (13, .aload_n 0, 1), (14, .getfield 43, 3), (17, .iload_n 1, 1), (18, .iastore, 1), (19, .aload_n 0, 1), (20, .dup, 1), (21, .getfield 43, 3), (24, .iconst 1, 1), (25, .iadd, 1), (26, .putfield 43, 3), (29, .return_, 1)] = true := by decide +kernel
set_option maxRecDepth 100000 in
set_option maxHeartbeats 4000000 in
theorem kg_X6_tellLock_0 {G : kG} {q : kP} {d : Nat} {x : gd} {P : Option gv → gd → Prop} (hq : kV q) (l1 : Int32)
    (h : (((6 : Int32) ≤ (x.1 40 8) → P none x) ∧ (¬ ((6 : Int32) ≤ (x.1 40 8)) → vp_in (x.1 40 8) 6 ∧ (∀ x3 : gd, x3 = si x 48 (x.1 40 8 : Int32).toNatClampNeg l1 → (∀ x4 : gd, x4 = si x3 40 8 ((x3.1 40 8) + 1) → P none x4))))) :
    KT G q d zk_X6_tellLock 0 [(0, vr 40), (1, vi l1)] [] x P := by
  refine T_aload_n 0 (dk dtk_X6_tellLock 0 rfl) rfl rfl ?_
  refine T_getI 40 8 (dk dtk_X6_tellLock 1 rfl) kfl_X6_43 kk_40 (kl_40 hq) (by decide) rfl ?_
  refine T_bipush (v := 6) (dk dtk_X6_tellLock 2 rfl) (by decide +kernel) ?_
  refine T_icmp_ge 29 (dk dtk_X6_tellLock 3 rfl) (by decide) (fun c1 => ?_) (fun c1 => ?_)
  · have h := h.1 c1
    exact KT_vret (dk dtk_X6_tellLock 16 rfl) rfl h
  · have h := h.2 c1
    refine T_aload_n 0 (dk dtk_X6_tellLock 4 rfl) rfl rfl ?_
    refine T_getR 40 7 48 (dk dtk_X6_tellLock 5 rfl) kfl_X6_33 kk_40 (kl_40 hq) (by decide) rfl kr_40_7 ?_
    refine T_aload_n 0 (dk dtk_X6_tellLock 6 rfl) rfl rfl ?_
    refine T_getI 40 8 (dk dtk_X6_tellLock 7 rfl) kfl_X6_43 kk_40 (kl_40 hq) (by decide) rfl ?_
    refine T_iload_n 1 (dk dtk_X6_tellLock 8 rfl) rfl rfl ?_
    obtain ⟨h2, h⟩ := h
    obtain ⟨x3, ex3⟩ : ∃ z, z = si x 48 (x.1 40 8 : Int32).toNatClampNeg l1 := ⟨_, rfl⟩
    have h := h x3 ex3
    refine T_iast 48 6 (dk dtk_X6_tellLock 9 rfl) kk_48 (kl_48 hq) h2 ?_
    rw [← ex3]
    refine T_aload_n 0 (dk dtk_X6_tellLock 10 rfl) rfl rfl ?_
    refine T_dup (dk dtk_X6_tellLock 11 rfl) rfl ?_
    refine T_getI 40 8 (dk dtk_X6_tellLock 12 rfl) kfl_X6_43 kk_40 (kl_40 hq) (by decide) rfl ?_
    refine T_iconst (v := 1) (dk dtk_X6_tellLock 13 rfl) (by decide +kernel) ?_
    refine T_iadd (dk dtk_X6_tellLock 14 rfl) ?_
    obtain ⟨x4, ex4⟩ : ∃ z, z = si x3 40 8 ((x3.1 40 8) + 1) := ⟨_, rfl⟩
    have h := h x4 ex4
    refine T_putI 40 8 (dk dtk_X6_tellLock 15 rfl) kfl_X6_43 kk_40 (kl_40 hq) (by decide) rfl ⟨rfl, rfl⟩ ?_
    rw [← ex4]
    exact KT_vret (dk dtk_X6_tellLock 16 rfl) rfl h
set_option maxRecDepth 100000 in
theorem dtk_X6_tellThread : dck cX6_tellThread [(0, .aload_n 0, 1), (1, .getfield 46, 3), (4, .bipush 6, 2), (6, .if_icmp .ge 23, 3), (9, .aload_n 0, 1), (10, .getfield 36, 3), (13, .aload_n 0, 1), (14, .getfield 46, 3), (17, .iload_n 1, 1), (18, .iastore, 1), (19, .aload_n 0, 1), (20, .dup, 1), (21, .getfield 46, 3), (24, .iconst 1, 1), (25, .iadd, 1), (26, .putfield 46, 3), (29, .return_, 1)] = true := by decide +kernel
set_option maxRecDepth 100000 in
set_option maxHeartbeats 4000000 in
theorem kg_X6_tellThread_0 {G : kG} {q : kP} {d : Nat} {x : gd} {P : Option gv → gd → Prop} (hq : kV q) (l1 : Int32)
    (h : (((6 : Int32) ≤ (x.1 40 10) → P none x) ∧ (¬ ((6 : Int32) ≤ (x.1 40 10)) → vp_in (x.1 40 10) 6 ∧ (∀ x3 : gd, x3 = si x 50 (x.1 40 10 : Int32).toNatClampNeg l1 → (∀ x4 : gd, x4 = si x3 40 10 ((x3.1 40 10) + 1) → P none x4))))) :
    KT G q d zk_X6_tellThread 0 [(0, vr 40), (1, vi l1)] [] x P := by
  refine T_aload_n 0 (dk dtk_X6_tellThread 0 rfl) rfl rfl ?_
  refine T_getI 40 10 (dk dtk_X6_tellThread 1 rfl) kfl_X6_46 kk_40 (kl_40 hq) (by decide) rfl ?_
  refine T_bipush (v := 6) (dk dtk_X6_tellThread 2 rfl) (by decide +kernel) ?_
  refine T_icmp_ge 29 (dk dtk_X6_tellThread 3 rfl) (by decide) (fun c1 => ?_) (fun c1 => ?_)
  · have h := h.1 c1
    exact KT_vret (dk dtk_X6_tellThread 16 rfl) rfl h
  · have h := h.2 c1
    refine T_aload_n 0 (dk dtk_X6_tellThread 4 rfl) rfl rfl ?_
    refine T_getR 40 9 50 (dk dtk_X6_tellThread 5 rfl) kfl_X6_36 kk_40 (kl_40 hq) (by decide) rfl kr_40_9 ?_
    refine T_aload_n 0 (dk dtk_X6_tellThread 6 rfl) rfl rfl ?_
    refine T_getI 40 10 (dk dtk_X6_tellThread 7 rfl) kfl_X6_46 kk_40 (kl_40 hq) (by decide) rfl ?_
    refine T_iload_n 1 (dk dtk_X6_tellThread 8 rfl) rfl rfl ?_
    obtain ⟨h2, h⟩ := h
    obtain ⟨x3, ex3⟩ : ∃ z, z = si x 50 (x.1 40 10 : Int32).toNatClampNeg l1 := ⟨_, rfl⟩
    have h := h x3 ex3
    refine T_iast 50 6 (dk dtk_X6_tellThread 9 rfl) kk_50 (kl_50 hq) h2 ?_
    rw [← ex3]
    refine T_aload_n 0 (dk dtk_X6_tellThread 10 rfl) rfl rfl ?_
    refine T_dup (dk dtk_X6_tellThread 11 rfl) rfl ?_
    refine T_getI 40 10 (dk dtk_X6_tellThread 12 rfl) kfl_X6_46 kk_40 (kl_40 hq) (by decide) rfl ?_
    refine T_iconst (v := 1) (dk dtk_X6_tellThread 13 rfl) (by decide +kernel) ?_
    refine T_iadd (dk dtk_X6_tellThread 14 rfl) ?_
    obtain ⟨x4, ex4⟩ : ∃ z, z = si x3 40 10 ((x3.1 40 10) + 1) := ⟨_, rfl⟩
    have h := h x4 ex4
    refine T_putI 40 10 (dk dtk_X6_tellThread 15 rfl) kfl_X6_46 kk_40 (kl_40 hq) (by decide) rfl ⟨rfl, rfl⟩ ?_
    rw [← ex4]
    exact KT_vret (dk dtk_X6_tellThread 16 rfl) rfl h
set_option maxRecDepth 100000 in
theorem dtk_X6_isRowSize : dck cX6_isRowSize [(0, .iload_n 0, 1), (1, .iconst 1, 1), (2, .if_icmp .lt 13, 3), (5, .iload_n 0, 1), (6, .bipush 8, 2), (8, .if_icmp .gt 7, 3), (11, .iconst 1, 1), (12, .goto 4, 3), (15, .iconst 0, 1), (16, .ireturn, 1)] = true := by decide +kernel
set_option maxRecDepth 100000 in
set_option maxHeartbeats 4000000 in
theorem kg_X6_isRowSize_0 {G : kG} {q : kP} {d : Nat} {x : gd} {P : Option gv → gd → Prop} (hq : kV q) (l0 : Int32)
    (h : ((l0 < (1 : Int32) → P (some (vi 0)) x) ∧ (¬ (l0 < (1 : Int32)) → (((8 : Int32) < l0 → P (some (vi 0)) x) ∧ (¬ ((8 : Int32) < l0) → P (some (vi 1)) x))))) :
    KT G q d zk_X6_isRowSize 0 [(0, vi l0)] [] x P := by
  refine T_iload_n 0 (dk dtk_X6_isRowSize 0 rfl) rfl rfl ?_
  refine T_iconst (v := 1) (dk dtk_X6_isRowSize 1 rfl) (by decide +kernel) ?_
  refine T_icmp_lt 15 (dk dtk_X6_isRowSize 2 rfl) (by decide) (fun c1 => ?_) (fun c1 => ?_)
  · have h := h.1 c1
    refine T_iconst (v := 0) (dk dtk_X6_isRowSize 8 rfl) (by decide +kernel) ?_
    exact KT_iret (dk dtk_X6_isRowSize 9 rfl) rfl rfl h
  · have h := h.2 c1
    refine T_iload_n 0 (dk dtk_X6_isRowSize 3 rfl) rfl rfl ?_
    refine T_bipush (v := 8) (dk dtk_X6_isRowSize 4 rfl) (by decide +kernel) ?_
    refine T_icmp_gt 15 (dk dtk_X6_isRowSize 5 rfl) (by decide) (fun c2 => ?_) (fun c2 => ?_)
    · have h := h.1 c2
      refine T_iconst (v := 0) (dk dtk_X6_isRowSize 8 rfl) (by decide +kernel) ?_
      exact KT_iret (dk dtk_X6_isRowSize 9 rfl) rfl rfl h
    · have h := h.2 c2
      refine T_iconst (v := 1) (dk dtk_X6_isRowSize 6 rfl) (by decide +kernel) ?_
      refine T_goto 16 (dk dtk_X6_isRowSize 7 rfl) (by decide) ?_
      exact KT_iret (dk dtk_X6_isRowSize 9 rfl) rfl rfl h
set_option maxRecDepth 100000 in
theorem dtk_X6_judge : dck cX6_judge [(0, .iconst 0, 1), (1, .istore_n 1, 1), (2, .iload_n 1, 1), (3, .aload_n 0, 1), (4, .getfield 9, 3), (7, .getfield 55, 3), (10, .if_icmp .ge 39, 3), (13, .aload_n 0, 1), (14, .getfield 17, 3), (17, .iload_n 1, 1), (18, .iaload, 1), (19, .ifCond .ne 7, 3), (22, .iconst 0, 1), (23, .goto 8, 3), (26, .aload_n 0, 1), (27, .iload_n 1, 1), (28, .invokevirtual 58, 3), (31, .istore_n 2, 1), (32, .iload_n 2, 1), (33, .ifCond .eq 10, 3), (36, .aload_n 0, 1), (37, .iload_n 1, 1), (38, .putfield 62, 3), (41, .iload_n 2, 1), (42, .ireturn, 1), (43, .iinc 1 1, 3), (46, .goto (-44), 3), (49, .iconst 0, 1), (50, .ireturn, 1)] = true := by decide +kernel
set_option maxRecDepth 100000 in
set_option maxHeartbeats 4000000 in
theorem kg_X6_judge_0 {G : kG} {q : kP} {d : Nat} {x : gd} {P : Option gv → gd → Prop} (hq : kV q) 
    (h : KT G q (d + 1) zk_X6_judge 2 [(0, vr 40), (1, vi 0)] [] x P) :
    KT G q (d + 1) zk_X6_judge 0 [(0, vr 40)] [] x P := by
  refine T_iconst (v := 0) (dk dtk_X6_judge 0 rfl) (by decide +kernel) ?_
  refine T_istore_n (lv2 := [(1, vi 0), (0, vr 40)]) (dk dtk_X6_judge 1 rfl) rfl (by decide) rfl ?_
  exact T_sub [1, 0] rfl h
set_option maxRecDepth 100000 in
set_option maxHeartbeats 4000000 in
theorem kg_X6_judge_2 {G : kG} {q : kP} {d : Nat} {x : gd} {P : Option gv → gd → Prop} (hq : kV q) (l1 : Int32)
    (h : (((x.1 20 7) ≤ l1 → P (some (vi 0)) x) ∧ (¬ ((x.1 20 7) ≤ l1) → vp_in l1 702 ∧ ((¬ ((x.1 42 (l1 : Int32).toNatClampNeg) = (0 : Int32)) → KT G q d zk_X6_faultOf 0 [(0, vr 40), (1, vi l1)] [] x (ri (fun r5 x4 => KT G q (d + 1) zk_X6_judge 31 [(0, vr 40), (1, vi l1)] [vi r5] x4 P))) ∧ ((x.1 42 (l1 : Int32).toNatClampNeg) = (0 : Int32) → KT G q (d + 1) zk_X6_judge 31 [(0, vr 40), (1, vi l1)] [vi 0] x P))))) :
    KT G q (d + 1) zk_X6_judge 2 [(0, vr 40), (1, vi l1)] [] x P := by
  refine T_iload_n 1 (dk dtk_X6_judge 2 rfl) rfl rfl ?_
  refine T_aload_n 0 (dk dtk_X6_judge 3 rfl) rfl rfl ?_
  refine T_getR 40 0 20 (dk dtk_X6_judge 4 rfl) kfl_X6_9 kk_40 (kl_40 hq) (by decide) rfl kr_40_0 ?_
  refine T_getI 20 7 (dk dtk_X6_judge 5 rfl) kfl_X6_55 kk_20 (kl_20 hq) (by decide) rfl ?_
  refine T_icmp_ge 49 (dk dtk_X6_judge 6 rfl) (by decide) (fun c1 => ?_) (fun c1 => ?_)
  · have h := h.1 c1
    refine T_iconst (v := 0) (dk dtk_X6_judge 27 rfl) (by decide +kernel) ?_
    exact KT_iret (dk dtk_X6_judge 28 rfl) rfl rfl h
  · have h := h.2 c1
    refine T_aload_n 0 (dk dtk_X6_judge 7 rfl) rfl rfl ?_
    refine T_getR 40 1 42 (dk dtk_X6_judge 8 rfl) kfl_X6_17 kk_40 (kl_40 hq) (by decide) rfl kr_40_1 ?_
    refine T_iload_n 1 (dk dtk_X6_judge 9 rfl) rfl rfl ?_
    obtain ⟨h2, h⟩ := h
    refine T_iald 42 702 (dk dtk_X6_judge 10 rfl) kk_42 (kl_42 hq) h2 ?_
    refine T_if_ne 26 (dk dtk_X6_judge 11 rfl) (by decide) (fun c3 => ?_) (fun c3 => ?_)
    · have h := h.1 c3
      refine T_aload_n 0 (dk dtk_X6_judge 14 rfl) rfl rfl ?_
      refine T_iload_n 1 (dk dtk_X6_judge 15 rfl) rfl rfl ?_
      refine KC_Vi [vi l1] [] rfl (dk dtk_X6_judge 16 rfl) kcv_X6_58 rfl kk_40 rfl (kl_40 hq) (Nat.le_of_ble_eq_true rfl) (Nat.le_of_ble_eq_true rfl) (gok_i (av_c (gkr (kl_40 hq)) (av_c rfl av_n)) as_n) rfl h (fun r5 x4 h => ?_)
      exact h
    · have h := h.2 c3
      refine T_iconst (v := 0) (dk dtk_X6_judge 12 rfl) (by decide +kernel) ?_
      refine T_goto 31 (dk dtk_X6_judge 13 rfl) (by decide) ?_
      exact h
set_option maxRecDepth 100000 in
set_option maxHeartbeats 4000000 in
theorem kg_X6_judge_31 {G : kG} {q : kP} {d : Nat} {x : gd} {P : Option gv → gd → Prop} (hq : kV q) (l1 : Int32) (s0 : Int32)
    (h : ((s0 = (0 : Int32) → KT G q (d + 1) zk_X6_judge 2 [(0, vr 40), (1, vi (l1 + 1))] [] x P) ∧ (¬ (s0 = (0 : Int32)) → (∀ x2 : gd, x2 = si x 40 11 l1 → P (some (vi s0)) x2)))) :
    KT G q (d + 1) zk_X6_judge 31 [(0, vr 40), (1, vi l1)] [vi s0] x P := by
  refine T_istore_n (lv2 := [(2, vi s0), (0, vr 40), (1, vi l1)]) (dk dtk_X6_judge 17 rfl) rfl (by decide) rfl ?_
  refine T_iload_n 0 (dk dtk_X6_judge 18 rfl) rfl rfl ?_
  refine T_if_eq 43 (dk dtk_X6_judge 19 rfl) (by decide) (fun c1 => ?_) (fun c1 => ?_)
  · have h := h.1 c1
    refine T_iinc (v := l1 + 1) (lv2 := [(1, vi (l1 + 1)), (2, vi s0), (0, vr 40)]) 2 (dk dtk_X6_judge 25 rfl) rfl rfl (by decide) rfl ?_
    refine T_goto 2 (dk dtk_X6_judge 26 rfl) (by decide) ?_
    exact T_sub [2, 0] rfl h
  · have h := h.2 c1
    refine T_aload_n 1 (dk dtk_X6_judge 20 rfl) rfl rfl ?_
    refine T_iload_n 2 (dk dtk_X6_judge 21 rfl) rfl rfl ?_
    obtain ⟨x2, ex2⟩ : ∃ z, z = si x 40 11 l1 := ⟨_, rfl⟩
    have h := h x2 ex2
    refine T_putI 40 11 (dk dtk_X6_judge 22 rfl) kfl_X6_62 kk_40 (kl_40 hq) (by decide) rfl ⟨rfl, rfl⟩ ?_
    rw [← ex2]
    refine T_iload_n 0 (dk dtk_X6_judge 23 rfl) rfl rfl ?_
    exact KT_iret (dk dtk_X6_judge 24 rfl) rfl rfl h
end
