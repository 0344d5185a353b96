/-! making: cells that come to life -/
def znew (x : gd) (c : Nat) : gd := (fun c' => if c' = c then fun _ => 0 else x.1 c', fun c' => if c' = c then fun _ => 0 else x.2 c')
def fnew (f : gf) (c n : Nat) : gf := (fun c' k => if c' = c then none else f.1 c' k, f.2.1 ++ [c], f.2.2.1 + 1, f.2.2.2 + n)
def anew (ad : Nat → Nat) (c a : Nat) : Nat → Nat := fun c' => if c' = c then a else ad c'
def frf (f : gf) (c k : Nat) (v : Option Nat) : gf := (fun c' k' => if c' = c ∧ k' = k then v else f.1 c' k', f.2)
/-- no live cell holds c -/
def NR (f : gf) (c : Nat) : Prop := ∀ c' ∈ f.2.1, ∀ j, f.1 c' j ≠ some c
theorem rmap {ad : Nat → Nat} {c a : Nat} {r : Option Nat} (h : r ≠ some c) : r.map (anew ad c a) = r.map ad := by
  cases r with
  | none => rfl
  | some b => show some (anew ad c a b) = some (ad b); unfold anew; rw [if_neg (fun e => h (by rw [e]))]
section GMK
variable {E : gE} {d : Nat} {y z : gy} {pc : Nat} {lv : List (Nat × gv)} {st : List gv} {x : gd} {f : gf} {Q : gr → gd → gf → Prop}
theorem gce_new {ad : Nat → Nat} {c a n c' : Nat} (hne : c' ≠ c) (hn : ∀ j, f.1 c' j ≠ some c) : gce E (znew x c) (fnew f c n) (anew ad c a) c' = gce E x f ad c' := by
  have e1 : (znew x c).1 c' = x.1 c' := if_neg hne
  have e2 : (znew x c).2 c' = x.2 c' := if_neg hne
  have e3 : ∀ j, ((fnew f c n).1 c' j).map (anew ad c a) = (f.1 c' j).map ad := fun j => by
    show (if c' = c then none else f.1 c' j).map _ = _
    rw [if_neg hne]; exact rmap (hn j)
  unfold gce gfl gar
  rw [e1, e2]
  simp only [e3]
theorem gwl_new {ad : Nat → Nat} {c a n : Nat} (hc : c ∉ f.2.1) (hr : NR f c) : gwl E (znew x c) (fnew f c n) (anew ad c a) = gwl E x f ad ++ [(a, gce E (znew x c) (fnew f c n) (anew ad c a) c)] := by
  unfold gwl
  show (f.2.1 ++ [c]).map _ = _
  rw [List.map_append]
  congr 1
  · apply List.map_congr_left
    intro c' h'
    have hne : c' ≠ c := fun e => hc (e ▸ h')
    rw [gce_new hne (hr c' h'), show anew ad c a c' = ad c' from if_neg hne]
  · show [(anew ad c a c, _)] = _
    rw [show anew ad c a c = a from if_pos rfl]
theorem gad_new {ad : Nat → Nat} {c a : Nat} (h9 : c < 900 ∨ 905 ≤ c) (h : gad E ad) : gad E (anew ad c a) := fun i hi => by
  unfold anew; rw [if_neg (by omega)]; exact h i hi
theorem gex_new {ad : Nat → Nat} {c a : Nat} (hc : c ∉ f.2.1) (h9 : c < 900 ∨ 905 ≤ c) : gex f ad (anew ad c a) := ⟨fun c' h' => if_neg (fun e : c' = c => hc (e ▸ h')), fun i hi => if_neg (by omega)⟩
theorem fnew_le {c n : Nat} : gle f (fnew f c n) := ⟨fun c' h => List.mem_append_left _ h, Nat.le_succ _, Nat.le_add_right _ _⟩
theorem T_stepN {pc2 : Nat} {st2 : List gv} {c n : Nat} (hc : c ∉ f.2.1) (h9 : c < 900 ∨ 905 ≤ c) (hok : gok f.2.1 lv st2 = true)
    (h : ∀ (p : Program) (e : Env) (R : Room) (s : State) (m : MethodId) (args : Array Value) (below : List Frame) (meth : Method) (c0 : Code) (A : Nat → Prop) (H : Heap) (locs : List Loc) (cells slots : Nat) (ls : Array Slot) (ad : Nat → Nat) (Q9 : State → Prop), gC E d y p R s m args meth c0 A → gP E x f ad A H → va_S A s.heap H locs → lv_has ls y.2.2.1 (glc ad lv) → cells + 1 ≤ R.cells → slots + n ≤ R.slots →
      (∀ (a : Nat) (H2 : Heap), gP E (znew x c) (fnew f c n) (anew ad c a) A H2 → va_S A s.heap H2 locs → W p E.1 e R s m args below meth c0 H2 locs (cells + 1) (slots + n) Q9 (F0 m pc2 ls (.ref a :: st2.map (gcv ad)))) → W p E.1 e R s m args below meth c0 H locs cells slots Q9 (F0 m pc ls (st.map (gcv ad))))
    (k : T E d y pc2 lv (vr c :: st2) (znew x c) (fnew f c n) Q) : T E d y pc lv st x f Q := by
  obtain ⟨o, x', f', h1, h2, h3⟩ := k
  refine ⟨o, x', f', h1, gle_tr fnew_le h2, ?_⟩
  intro p e R s m args below meth c0 A H locs cells slots ls ad C hP hS hl hcc hss
  have b1 : f.2.2.1 + 1 ≤ f'.2.2.1 := h2.2.1
  have b2 : f.2.2.2 + n ≤ f'.2.2.2 := h2.2.2
  have hlv : lv.all (fun q => gokv f.2.1 q.2) = true := (Bool.and_eq_true _ _ ▸ hok).1
  have hrs : st2.all (gokv f.2.1) = true := (Bool.and_eq_true _ _ ▸ hok).2
  refine h p e R s m args below meth c0 A H locs cells slots ls ad _ C hP hS hl (by omega) (by omega) (fun a H2 hP2 hS2 => ?_)
  have hex : gex f ad (anew ad c a) := gex_new hc h9
  have hw := h3 p e R s m args below meth c0 A H2 locs (cells + 1) (slots + n) ls (anew ad c a) C hP2 hS2 (by rw [glc_live hex hlv]; exact hl) (by show cells + 1 + (f'.2.2.1 - (f.2.2.1 + 1)) ≤ _; omega) (by show slots + n + (f'.2.2.2 - (f.2.2.2 + n)) ≤ _; omega)
  have ev : (vr c :: st2).map (gcv (anew ad c a)) = .ref a :: st2.map (gcv ad) := by
    rw [List.map_cons, gst_live hex hrs]
    congr 1
    show Value.ref (anew ad c a c) = _
    rw [show anew ad c a c = a from if_pos rfl]
  rw [ev] at hw
  intro T9 hT X
  obtain ⟨t2, s1, s2⟩ := hw T9 hT X
  have e1 : cells + 1 + (f'.2.2.1 - (fnew f c n).2.2.1) = cells + (f'.2.2.1 - f.2.2.1) := by show cells + 1 + (f'.2.2.1 - (f.2.2.1 + 1)) = _; omega
  have e2 : slots + n + (f'.2.2.2 - (fnew f c n).2.2.2) = slots + (f'.2.2.2 - f.2.2.2) := by show slots + n + (f'.2.2.2 - (f.2.2.2 + n)) = _; omega
  rw [e1, e2] at s2
  refine ⟨t2, s1, vx_MQ_mono s2 (fun _ _ _ _ q => ?_) (fun _ _ _ q => ?_)⟩
  · obtain ⟨ad2, g1, g2⟩ := q; exact ⟨ad2, gex_tr fnew_le hex g1, g2⟩
  · obtain ⟨ad2, g1, g2⟩ := q; exact ⟨ad2, gex_tr fnew_le hex g1, g2⟩
theorem cA_eq {ty : FieldType} {s : State} {cA : ClassId} {t0 : Nat} (hK : va_K E.2.1 vwCl (gtys E) s) (hK1 : va_K E.2.1 vwCl (gtys E ++ [(cA, ty)]) s) (h0 : (gtys E)[t0]? = some (E.2.2.1 ty, ty)) : cA = E.2.2.1 ty := by
  have a := (hK1.2 (gtys E).length (cA, ty) (by rw [List.getElem?_append_right (Nat.le_refl _), Nat.sub_self]; rfl)).2
  have b := (hK.2 t0 _ h0).2
  cases ty with
  | object C =>
    obtain ⟨_, _, -, -, -, a4⟩ := a
    obtain ⟨_, _, -, -, -, b4⟩ := b
    exact Option.some.inj (a4.symm.trans b4)
  | _ => exact Option.some.inj (Eq.trans (Eq.symm a) b)
/-- an array of ints, bytes or booleans -/
theorem T_newI (c : Nat) {atype : ArrayType} {ty : FieldType} {n : Nat} {v : Int32} (hd : decode y.2.1 pc = .ok (.newarray atype, 2)) (hty : newarray.typeOf atype = ty) (ht : ty = .int ∨ ty = .byte ∨ ty = .boolean) (hw : Cond.arrayClass ty ∈ W0) (hK : E.2.2.2.1 c = .inr (ty, n)) (hv : ¬ v < 0) (hN : v.toNatClampNeg = n) (hb : n ≤ 100000) (hc : c ∉ f.2.1) (h9 : c < 900 ∨ 905 ≤ c) (hr : NR f c) (hok : gok f.2.1 lv st = true)
    (k9 : T E d y (pc + 2) lv (vr c :: st) (znew x c) (fnew f c n) Q) : T E d y pc lv (vi v :: st) x f Q := by
  refine T_stepN hc h9 hok (fun p e R s m args below meth c0 A H locs cells slots ls ad Q9 C hP hS hl h1 h2 kk => ?_) k9
  have hb2 : n * componentBytes ty ≤ 536870912 := by
    have : componentBytes ty ≤ 8 := by rcases ht with rfl | rfl | rfl <;> decide
    have := Nat.mul_le_mul hb this
    omega
  have ha : ∀ cA : ClassId, vp_cell cA (n, .inl (fun _ => 0)) = arrV cA n (fun _ => defaultValue ty) := by rcases ht with rfl | rfl | rfl <;> intro cA <;> rfl
  have h0 : ∃ t0 : Nat, (gtys E)[t0]? = some (E.2.2.1 ty, ty) := by
    rcases ht with rfl | rfl | rfl
    · exact ⟨0, rfl⟩
    · exact ⟨1, rfl⟩
    · exact ⟨2, rfl⟩
  obtain ⟨t0, h0⟩ := h0
  refine va_newa (a0 := (n, .inl (fun _ => 0))) C.1.1 C.1.2.1 (C.1.2.2.2.2 _ (hty ▸ hw)) hty C.2.2.2.1.1 hP.1.1 hP.1.2 hS C.2.2.2.2 ha hv hN hb2 h1 h2 hd (fun q cA H1 hK1 hP1 hD1 hS1 => ?_)
  have hcA := cA_eq C.2.2.2.1.1 hK1 h0
  have e9 : gce E (znew x c) (fnew f c n) (anew ad c q) c = .inl (cA, n, .inl (fun _ => 0)) := by
    rw [gce_arr hK, hcA]
    have z1 : (znew x c).1 c = fun _ => 0 := if_pos rfl
    rcases ht with rfl | rfl | rfl <;> (show Sum.inl (_, _, Sum.inl ((znew x c).1 c)) = _; rw [z1])
  refine kk q H1 ⟨⟨?_, ?_⟩, gad_new h9 hP.2⟩ hS1
  · rw [gwl_new hc hr, e9]; exact hP1
  · rw [gwl_new hc hr, e9]; exact hD1
/-- what the tables say of a class that an instruction makes -/
def gNw (own : String) (idx ci : Nat) (sl : List Bool) : Prop := ∃ (C : String) (U : u_T) (ty : Nat → FieldType), vwCl[ci]? = some (C, U, sl.length) ∧ (∀ w ∈ u_ws C U sl.length, w ∈ W0) ∧ Cond.classLink own idx C ∈ W0 ∧ Cond.instantiable C sl.length ∈ W0 ∧ Cond.initialized C ∈ W0 ∧ (∀ k, k < sl.length → parseFieldDescriptor (U k).2.2.1 = some (ty k)) ∧ ∀ j, j < sl.length → defaultValue (ty j) = if sl.getD j false = true then .null else .int 0
theorem gfl_new {ad : Nat → Nat} {c n : Nat} {sl : List Bool} : gfl (znew x c) (fnew f c n) ad c sl = (List.range sl.length).map (fun j => if sl.getD j false = true then .null else .int 0) := by
  unfold gfl
  apply List.map_congr_left
  intro j _
  have z1 : (znew x c).1 c = fun _ => 0 := if_pos rfl
  have z2 : (fnew f c n).1 c j = none := if_pos rfl
  rw [z1, z2]; rfl
theorem T_newO (c : Nat) {idx ci : Nat} {sl : List Bool} (hd : decode y.2.1 pc = .ok (.new idx, 3)) (hM : gNw y.1.cls idx ci sl) (hK : E.2.2.2.1 c = .inl (ci, sl)) (hc : c ∉ f.2.1) (h9 : c < 900 ∨ 905 ≤ c) (hr : NR f c) (hok : gok f.2.1 lv st = true)
    (k9 : T E d y (pc + 3) lv (vr c :: st) (znew x c) (fnew f c sl.length) Q) : T E d y pc lv st x f Q := by
  obtain ⟨C0, U, ty, m1, m2, m3, m4, m5, m6, m7⟩ := hM
  refine T_stepN hc h9 hok (fun p e R s m args below meth c0 A H locs cells slots ls ad Q9 C hP hS hl h1 h2 kk => ?_) k9
  refine va_new (C := C0) (T := U) (ci := ci) (fs := (List.range sl.length).map (fun j => if sl.getD j false = true then .null else .int 0)) C.1.1 C.1.2.1 C.1.2.2.2.2 m2 ty m6 C.1.2.2.2.1 (C.1.2.2.2.2 _ m3) (C.1.2.2.2.2 _ m4) (C.1.2.2.2.2 _ m5) C.2.2.2.1.1 hP.1.1 hP.1.2 hS C.2.2.2.2 m1 (fun j hj => ?_) h1 h2 hd (fun q H1 hP1 hD1 hS1 => ?_)
  · rw [m7 j hj]; unfold vp_V; rw [List.getD_eq_getElem?_getD (l := List.map _ _), List.getElem?_map, List.getElem?_range hj]; rfl
  · have e9 : gce E (znew x c) (fnew f c sl.length) (anew ad c q) c = .inr (ci, (List.range sl.length).map (fun j => if sl.getD j false = true then .null else .int 0)) := by rw [gce_obj hK, gfl_new]
    refine kk q H1 ⟨⟨?_, ?_⟩, gad_new h9 hP.2⟩ hS1
    · rw [gwl_new hc hr, e9]; exact hP1
    · rw [gwl_new hc hr, e9]; exact hD1
/-- an array of tryings -/
theorem T_newT (c : Nat) {idx n : Nat} {v : Int32} (hd : decode y.2.1 pc = .ok (.anewarray idx, 3)) (hw : Cond.classLink y.1.cls idx "ScheduleHouse$Trial" ∈ W0) (hK : E.2.2.2.1 c = .inr (.object "ScheduleHouse$Trial", n)) (hv : ¬ v < 0) (hN : v.toNatClampNeg = n) (hb : n ≤ 100000) (hc : c ∉ f.2.1) (h9 : c < 900 ∨ 905 ≤ c) (hr : NR f c) (hok : gok f.2.1 lv st = true)
    (k9 : T E d y (pc + 3) lv (vr c :: st) (znew x c) (fnew f c n) Q) : T E d y pc lv (vi v :: st) x f Q := by
  refine T_stepN hc h9 hok (fun p e R s m args below meth c0 A H locs cells slots ls ad Q9 C hP hS hl h1 h2 kk => ?_) k9
  refine va_newq C.1.1 C.1.2.1 C.1.2.2.2.1 (C.1.2.2.2.2 _ hw) C.2.2.2.1.2.1.2.2.2.1 C.2.2.2.1.1 hP.1.1 hP.1.2 hS C.2.2.2.2 hv hN (by omega) h1 h2 hd (fun q cA H1 hK1 hP1 hD1 hS1 => ?_)
  have hcA := cA_eq (t0 := 4) C.2.2.2.1.1 hK1 rfl
  have e9 : gce E (znew x c) (fnew f c n) (anew ad c q) c = .inl (cA, n, .inr (.inr (.inr (.inr (fun _ => none))))) := by
    rw [gce_arr hK, hcA]
    show Sum.inl (_, _, Sum.inr (Sum.inr (Sum.inr (Sum.inr (fun j => ((fnew f c n).1 c j).map (anew ad c q)))))) = _
    have z2 : ∀ j, (fnew f c n).1 c j = none := fun j => if_pos rfl
    simp only [z2]; rfl
  refine kk q H1 ⟨⟨?_, ?_⟩, gad_new h9 hP.2⟩ hS1
  · rw [gwl_new hc hr, e9]; exact hP1
  · rw [gwl_new hc hr, e9]; exact hD1
/-- an array of arrays of ints, empty -/
theorem T_newA (c : Nat) {idx n : Nat} {v : Int32} (hd : decode y.2.1 pc = .ok (.anewarray idx, 3)) (hw : Cond.classLink y.1.cls idx "[I" ∈ W0) (hK : E.2.2.2.1 c = .inr (.array .int, n)) (hv : ¬ v < 0) (hN : v.toNatClampNeg = n) (hb : n ≤ 100000) (hc : c ∉ f.2.1) (h9 : c < 900 ∨ 905 ≤ c) (hr : NR f c) (hok : gok f.2.1 lv st = true)
    (k9 : T E d y (pc + 3) lv (vr c :: st) (znew x c) (fnew f c n) Q) : T E d y pc lv (vi v :: st) x f Q := by
  refine T_stepN hc h9 hok (fun p e R s m args below meth c0 A H locs cells slots ls ad Q9 C hP hS hl h1 h2 kk => ?_) k9
  subst hN
  refine W.anewA (t := .int) C.1.1 C.1.2.1 C.1.2.2.2.1 (C.1.2.2.2.2 _ hw) C.2.2.2.1.2.1.2.2.2.2.2 rfl hd rfl hv (by omega) h1 h2 (fun cA kA comp f1 f2 f3 f4 => ?_)
  generalize hH1 : H.push ({ cls := cA, slots := Array.replicate v.toNatClampNeg .null, vm := .none } : Cell) = H1
  have z1 : H1.size = H.size + 1 := by rw [← hH1, Array.size_push]
  have e1 : H1[H.size]? = some (arrV cA v.toNatClampNeg (fun _ => .null)) := by rw [← hH1, Array.getElem?_push_size, ← arrV_new]
  have o1 : ∀ q : Nat, q < H.size → H1[q]? = H[q]? := fun q hq => by rw [← hH1, Array.getElem?_push, if_neg (Nat.ne_of_lt hq)]
  have hcA : cA = E.2.2.1 (.array .int) := Option.some.inj (Eq.trans (Eq.symm f1) (C.2.2.2.1.1.2 5 _ rfl).2)
  have e9 : gce E (znew x c) (fnew f c v.toNatClampNeg) (anew ad c H.size) c = .inl (cA, v.toNatClampNeg, .inr (.inr (.inr (.inr (fun _ => none))))) := by
    rw [gce_arr hK, hcA]
    show Sum.inl (_, _, Sum.inr (Sum.inr (Sum.inr (Sum.inr (fun j => ((fnew f c _).1 c j).map (anew ad c H.size)))))) = _
    have z2 : ∀ j, (fnew f c v.toNatClampNeg).1 c j = none := fun j => if_pos rfl
    simp only [z2]; rfl
  have hk : ∀ (k : Nat) (x9 : Nat × va_E), (gwl E x f ad)[k]? = some x9 → H1[x9.1]? = H[x9.1]? := fun k x9 hx => o1 x9.1 ((hP.1.1 k x9 hx).lt)
  refine kk H.size H1 ⟨⟨?_, ?_⟩, gad_new h9 hP.2⟩ ⟨Nat.le_trans hS.1 (by omega), fun x9 q1 q2 => (o1 x9 (Nat.lt_of_lt_of_le q1 hS.1)).trans (hS.2.1 x9 q1 q2), hS.2.2⟩
  · rw [gwl_new hc hr, e9]
    refine (hP.1.1.kept hk).app (fun k x9 hx => ?_)
    have hz : k < 1 := (List.getElem?_eq_some_iff.mp hx).1
    rw [show k = 0 by omega] at hx
    cases hx
    show H1[H.size]? = some (vp_cell _ _)
    rw [vp_cell_q]
    exact e1
  · rw [gwl_new hc hr, e9]; exact hP.1.2.push hP.1.1 rfl (C.2.2.2.2 _ hS.1)
/-! a reference is put -/
theorem gce_frf {ad : Nat → Nat} {c k c' : Nat} {v : Option Nat} (h : c' ≠ c) : gce E x (frf f c k v) ad c' = gce E x f ad c' := by
  have e : ∀ j, (frf f c k v).1 c' j = f.1 c' j := fun j => if_neg (fun q => h q.1)
  unfold gce gfl gar
  simp only [e]
theorem gfl_frf {ad : Nat → Nat} {c k : Nat} {v : Option Nat} {sl : List Bool} (hk : k < sl.length) (hs : sl.getD k false = true) : gfl x (frf f c k v) ad c sl = (gfl x f ad c sl).set k (va_rf (v.map ad)) := by
  apply List.ext_getElem?
  intro j
  by_cases hj : j = k
  · subst hj
    rw [List.getElem?_set_self (by rw [gfl_len]; exact hk), gfl_ref hk hs, show (frf f c j v).1 c j = v from if_pos ⟨rfl, rfl⟩]
  · rw [List.getElem?_set_ne (fun e => hj e.symm)]
    by_cases hl : j < sl.length
    · rw [gfl_at hl, gfl_at hl, show (frf f c k v).1 c j = f.1 c j from if_neg (fun q => hj q.2)]
    · rw [List.getElem?_eq_none (by rw [gfl_len]; omega), List.getElem?_eq_none (by rw [gfl_len]; omega)]
theorem T_stepR {pc2 : Nat} {st2 : List gv} {f2 : gf} (h2 : f2.2 = f.2)
    (h : ∀ (p : Program) (e : Env) (R : Room) (s : State) (m : MethodId) (args : Array Value) (below : List Frame) (meth : Method) (c : Code) (A : Nat → Prop) (H : Heap) (locs : List Loc) (cells slots : Nat) (ls : Array Slot) (ad : Nat → Nat) (Q9 : State → Prop), gC E d y p R s m args meth c A → gP E x f ad A H → va_S A s.heap H locs → lv_has ls y.2.2.1 (glc ad lv) →
      (∀ (H2 : Heap) (locs2 : List Loc), gP E x f2 ad A H2 → va_S A s.heap H2 locs2 → W p E.1 e R s m args below meth c H2 locs2 cells slots Q9 (F0 m pc2 ls (st2.map (gcv ad)))) → W p E.1 e R s m args below meth c H locs cells slots Q9 (F0 m pc ls (st.map (gcv ad))))
    (k : T E d y pc2 lv st2 x f2 Q) : T E d y pc lv st x f Q := by
  obtain ⟨o, x', f', h1, h3, h4⟩ := k
  have hg : gle f f' := by unfold gle at h3 ⊢; rw [h2] at h3; exact h3
  refine ⟨o, x', f', h1, hg, ?_⟩
  intro p e R s m args below meth c A H locs cells slots ls ad C hP hS hl hc hs
  refine h p e R s m args below meth c A H locs cells slots ls ad _ C hP hS hl (fun H2 locs2 hP2 hS2 => ?_)
  have hw := h4 p e R s m args below meth c A H2 locs2 cells slots ls ad C hP2 hS2 hl (by rw [h2]; exact hc) (by rw [h2]; exact hs)
  intro T9 hT X
  obtain ⟨t2, s1, s2⟩ := hw T9 hT X
  rw [h2] at s2
  refine ⟨t2, s1, vx_MQ_mono s2 (fun _ _ _ _ q => ?_) (fun _ _ _ q => ?_)⟩
  · obtain ⟨ad2, g1, g2⟩ := q; exact ⟨ad2, by unfold gex at g1 ⊢; rw [h2] at g1; exact g1, g2⟩
  · obtain ⟨ad2, g1, g2⟩ := q; exact ⟨ad2, by unfold gex at g1 ⊢; rw [h2] at g1; exact g1, g2⟩
theorem T_putR (c k e9 : Nat) {ci N idx : Nat} {sl : List Bool} {ty : FieldType} (hd : decode y.2.1 pc = .ok (.putfield idx, 3)) (hf : gFl y.1.cls idx ci k ty false N) (hK : E.2.2.2.1 c = .inl (ci, sl)) (hc : c ∈ f.2.1) (hk : k < sl.length) (hs : sl.getD k false = true) (hn : ∀ a : Nat, narrow ty (.ref a) = .ref a ∧ fits ty (.ref a) = true)
    (k9 : T E d y (pc + 3) lv st x (frf f c k (some e9)) Q) : T E d y pc lv (vr e9 :: vr c :: st) x f Q :=
  T_stepR (f2 := frf f c k (some e9)) rfl (fun p e R s m args below meth c0 A H locs cells slots ls ad Q9 C hP hS hl kk => by
    obtain ⟨C0, U, h1, h2, h3, h4, h5, h6, ⟨ty0, h7⟩, h8⟩ := hf
    obtain ⟨i, hi0, hi⟩ := gwl_at (E := E) (x := x) (ad := ad) hc
    rw [gce_obj hK] at hi
    have he : (gwl E x f ad).set i (ad c, .inr (ci, (gfl x f ad c sl).set k (.ref (ad e9)))) = gwl E x (frf f c k (some e9)) ad := by
      have e0 : (gfl x f ad c sl).set k (.ref (ad e9)) = gfl x (frf f c k (some e9)) ad c sl := by rw [gfl_frf hk hs]; rfl
      rw [e0, ← gce_obj (E := E) hK]
      exact gwl_set (G := fun c' => (ad c', gce E x (frf f c k (some e9)) ad c')) hi0 (gwl_one hP.1.2 hi0) (fun c' hne => by rw [gce_frf hne])
    refine va_put (C := C0) (T := U) (N := N) C.1.1 C.1.2.1 C.1.2.2.2.2 h2 ty0 h7 h8 C.1.2.2.2.1 C.2.2.2.1.1 hP.1.1 hP.1.2 hS i hi h1 k h3 (C.1.2.2.2.2 _ h4) (fun _ h => h) h6 h5 (hn _).1 (hn _).2 (by rw [gfl_len]; exact hk) hd (fun H2 locs2 hP2 hD2 hS2 => kk H2 locs2 ⟨⟨?_, ?_⟩, hP.2⟩ hS2)
    · rw [← he]; exact hP2
    · rw [← he]; exact hD2) k9
theorem T_putRF (c k e9 : Nat) {ci N idx : Nat} {sl : List Bool} {ty : FieldType} (hd : decode y.2.1 pc = .ok (.putfield idx, 3)) (hin : y.1.name = "<init>") (hf : gFl y.1.cls idx ci k ty true N) (hK : E.2.2.2.1 c = .inl (ci, sl)) (hc : c ∈ f.2.1) (hk : k < sl.length) (hs : sl.getD k false = true) (hn : ∀ a : Nat, narrow ty (.ref a) = .ref a ∧ fits ty (.ref a) = true) (hde : ∀ r : vw_C, vwCl[ci]? = some r → (r.2.1 k).1 = y.1.cls)
    (k9 : T E d y (pc + 3) lv st x (frf f c k (some e9)) Q) : T E d y pc lv (vr e9 :: vr c :: st) x f Q :=
  T_stepR (f2 := frf f c k (some e9)) rfl (fun p e R s m args below meth c0 A H locs cells slots ls ad Q9 C hP hS hl kk => by
    obtain ⟨C0, U, h1, h2, h3, h4, h5, h6, ⟨ty0, h7⟩, h8⟩ := hf
    obtain ⟨i, hi0, hi⟩ := gwl_at (E := E) (x := x) (ad := ad) hc
    rw [gce_obj hK] at hi
    have he : (gwl E x f ad).set i (ad c, .inr (ci, (gfl x f ad c sl).set k (.ref (ad e9)))) = gwl E x (frf f c k (some e9)) ad := by
      have e0 : (gfl x f ad c sl).set k (.ref (ad e9)) = gfl x (frf f c k (some e9)) ad c sl := by rw [gfl_frf hk hs]; rfl
      rw [e0, ← gce_obj (E := E) hK]
      exact gwl_set (G := fun c' => (ad c', gce E x (frf f c k (some e9)) ad c')) hi0 (gwl_one hP.1.2 hi0) (fun c' hne => by rw [gce_frf hne])
    refine va_putF (C := C0) (T := U) (N := N) C.1.1 C.1.2.1 C.1.2.2.2.2 h2 ty0 h7 h8 C.1.2.2.2.1 C.2.2.2.1.1 hP.1.1 hP.1.2 hS i hi h1 k h3 (C.1.2.2.2.2 _ h4) (fun _ h => h) h6 (by rw [C.2.1.2.2.2]; exact hin) (hde _ h1) h5 (hn _).1 (hn _).2 (by rw [gfl_len]; exact hk) hd (fun H2 locs2 hP2 hD2 hS2 => kk H2 locs2 ⟨⟨?_, ?_⟩, hP.2⟩ hS2)
    · rw [← he]; exact hP2
    · rw [← he]; exact hD2) k9
/-! arrays of references are written -/
theorem gce_arf {ad : Nat → Nat} {c k n : Nat} {v : Option Nat} {ty : FieldType} (hK : E.2.2.2.1 c = .inr (ty, n)) (ht : ty = .array .int ∨ ty = .object "ScheduleHouse$Trial") : gce E x (frf f c k v) ad c = .inl (E.2.2.1 ty, n, .inr (.inr (.inr (.inr (va_up (fun j => (f.1 c j).map ad) k (v.map ad)))))) := by
  have e : (fun j => ((frf f c k v).1 c j).map ad) = va_up (fun j => (f.1 c j).map ad) k (v.map ad) := by
    funext j
    show (if c = c ∧ j = k then v else f.1 c j).map ad = (if j = k then v.map ad else (f.1 c j).map ad)
    by_cases hj : j = k
    · rw [if_pos ⟨rfl, hj⟩, if_pos hj]
    · rw [if_neg (fun q => hj q.2), if_neg hj]
  rw [gce_arr hK]
  rcases ht with rfl | rfl <;> (show Sum.inl (_, _, Sum.inr (Sum.inr (Sum.inr (Sum.inr (fun j => ((frf f c k v).1 c j).map ad))))) = _; rw [e])
theorem T_aastT (c e9 : Nat) {n : Nat} {sl : List Bool} {i : Int32} (hd : decode y.2.1 pc = .ok (.aastore, 1)) (hK : E.2.2.2.1 c = .inr (.object "ScheduleHouse$Trial", n)) (hc : c ∈ f.2.1) (hKe : E.2.2.2.1 e9 = .inl (10, sl)) (he9 : e9 ∈ f.2.1) (hin : vp_in i n)
    (k9 : T E d y (pc + 1) lv st x (frf f c i.toNatClampNeg (some e9)) Q) : T E d y pc lv (vr e9 :: vi i :: vr c :: st) x f Q :=
  T_stepR (f2 := frf f c i.toNatClampNeg (some e9)) rfl (fun p e R s m args below meth c0 A H locs cells slots ls ad Q9 C hP hS hl kk => by
    obtain ⟨i0, hi0, hi⟩ := gwl_at (E := E) (x := x) (ad := ad) hc
    obtain ⟨j0, hj0, hj⟩ := gwl_at (E := E) (x := x) (ad := ad) he9
    rw [gce_arr hK] at hi
    rw [gce_obj hKe] at hj
    have he : (gwl E x f ad).set i0 (ad c, .inl (E.2.2.1 (.object "ScheduleHouse$Trial"), n, .inr (.inr (.inr (.inr (va_up (fun j => (f.1 c j).map ad) i.toNatClampNeg (some (ad e9)))))))) = gwl E x (frf f c i.toNatClampNeg (some e9)) ad := by
      have e0 := gce_arf (x := x) (f := f) (ad := ad) (k := i.toNatClampNeg) (v := some e9) hK (Or.inr rfl)
      rw [show (some (ad e9) : Option Nat) = (some e9).map ad from rfl, ← e0]
      exact gwl_set (G := fun c' => (ad c', gce E x (frf f c i.toNatClampNeg (some e9)) ad c')) hi0 (gwl_one hP.1.2 hi0) (fun c' hne => by rw [gce_frf hne])
    obtain ⟨r, hr, hr1⟩ : ∃ r : vw_C, vwCl[10]? = some r ∧ r.1 = "ScheduleHouse$Trial" := ⟨_, rfl, rfl⟩
    refine va_astq (r := r) C.1.1 C.1.2.1 C.2.2.2.1.1 hP.1.1 hP.1.2 hS i0 4 j0 10 hi (by rw [hr1]; rfl) hj hr hin hd (fun H2 locs2 hP2 hD2 hS2 => kk H2 locs2 ⟨⟨?_, ?_⟩, hP.2⟩ hS2)
    · rw [← he]; exact hP2
    · rw [← he]; exact hD2) k9
theorem T_aastA (c e9 : Nat) {n n9 : Nat} {i : Int32} (hd : decode y.2.1 pc = .ok (.aastore, 1)) (hK : E.2.2.2.1 c = .inr (.array .int, n)) (hc : c ∈ f.2.1) (hKe : E.2.2.2.1 e9 = .inr (.int, n9)) (he9 : e9 ∈ f.2.1) (hin : vp_in i n)
    (k9 : T E d y (pc + 1) lv st x (frf f c i.toNatClampNeg (some e9)) Q) : T E d y pc lv (vr e9 :: vi i :: vr c :: st) x f Q :=
  T_stepR (f2 := frf f c i.toNatClampNeg (some e9)) rfl (fun p e R s m args below meth c0 A H locs cells slots ls ad Q9 C hP hS hl kk => by
    obtain ⟨i0, hi0, hi⟩ := gwl_at (E := E) (x := x) (ad := ad) hc
    obtain ⟨j0, hj0, hj⟩ := gwl_at (E := E) (x := x) (ad := ad) he9
    rw [gce_arr hK] at hi
    rw [gce_arr hKe] at hj
    have hi : (gwl E x f ad)[i0]? = some (ad c, .inl (E.2.2.1 (.array .int), n, .inr (.inr (.inr (.inr (fun j => (f.1 c j).map ad)))))) := hi
    have he : (gwl E x f ad).set i0 (ad c, .inl (E.2.2.1 (.array .int), n, .inr (.inr (.inr (.inr (va_up (fun j => (f.1 c j).map ad) i.toNatClampNeg (some (ad e9)))))))) = gwl E x (frf f c i.toNatClampNeg (some e9)) ad := by
      have e0 := gce_arf (x := x) (f := f) (ad := ad) (k := i.toNatClampNeg) (v := some e9) hK (Or.inl rfl)
      rw [show (some (ad e9) : Option Nat) = (some e9).map ad from rfl, ← e0]
      exact gwl_set (G := fun c' => (ad c', gce E x (frf f c i.toNatClampNeg (some e9)) ad c')) hi0 (gwl_one hP.1.2 hi0) (fun c' hne => by rw [gce_frf hne])
    have hlt : i.toNatClampNeg < n := Nat.not_le.mp fun q => hin (Or.inr q)
    have h0 : ¬ i < 0 := fun q => hin (Or.inl q)
    obtain ⟨comp, cA, kA, p1, -, p3, p4, p5⟩ := arrayOver_specB C.2.2.2.1.2.1.2.2.2.2.2
    have hcA : cA = E.2.2.1 (.array .int) := Option.some.inj (Eq.trans (Eq.symm p5) (C.2.2.2.1.1.2 5 _ rfl).2)
    have hcp : comp = E.2.2.1 .int := Option.some.inj (Eq.trans (Eq.symm p1) (C.2.2.2.1.1.2 0 _ rfl).2)
    subst hcA
    subst hcp
    obtain ⟨-, kI, hkI, cI, hkind⟩ := (C.2.2.2.1.1.2 0 _ rfl).1 n9 (fun j => .int (x.1 e9 j))
    have hV : H[ad e9]? = some (arrV (E.2.2.1 .int) n9 (fun j => .int (x.1 e9 j))) := by have h9 := hP.1.1 j0 _ hj; exact h9
    refine W.aast C.1.1 C.1.2.1 (hP.1.1 i0 _ hi) (fun q h => by cases h) (fun h => by cases h) p3 p4 rfl hkI ⟨h0, by show _ < (arrV _ _ _).slots.size; rw [arrV_size]; exact hlt⟩ hV (fun q h => by cases h) hkI ?_ rfl rfl hd (fun H1 e1 z1 oq => ?_)
    · show s.vm.assignable (E.2.2.1 .int) (E.2.2.1 .int) = true
      unfold Vm.assignable
      rw [show (256 : Nat) = 255 + 1 from rfl, Vm.assignableAux, beq_self_eq_true, Bool.true_or]
    · refine kk H1 _ ⟨⟨?_, ?_⟩, hP.2⟩ (hS.put z1 oq (hP.1.2.2 i0 _ hi))
      · rw [← he]
        refine hP.1.1.set hP.1.2 hi ?_ oq
        show H1[ad c]? = some (vp_cell _ _)
        rw [e1]
        rw [vp_cell_q, vp_cell_q, arrV_store]
        congr 2
        funext q
        by_cases hq : q = i.toNatClampNeg
        · subst hq
          simp [updV, va_up, va_rf]
        · simp [updV, va_up, hq]
      · rw [← he]; exact hP.1.2.set hi) k9
/-! constructors -/
theorem T_objInit {c idx : Nat} (hd : decode y.2.1 pc = .ok (.invokespecial idx, 3)) (hw : Cond.methodLink y.1.cls idx Lib.objectInit ∈ W0 ∧ Cond.instanceMethod Lib.objectInit ∈ W0 ∧ Cond.code Lib.objectInit ⟨#[0xb1]⟩ 1 none ∈ W0) (hd1 : 1 ≤ d) (hcat : gsz st ≤ 8)
    (k9 : T E d y (pc + 3) lv st x f Q) : T E d y pc lv (vr c :: st) x f Q :=
  T_step (fun p e R s m args below meth c0 A H locs cells slots ls ad Q9 C hP hS hl kk => by
    have hR1 := C.2.2.1.1
    have hR2 := C.2.2.1.2
    refine W.objInit C.1.1 C.1.2.1 C.1.2.2.2.1 (C.1.2.2.2.2 _ hw.1) (C.1.2.2.2.2 _ hw.2.1) (C.1.2.2.2.2 _ hw.2.2) rfl (by rw [C.1.2.2.1]; exact hl.1) rfl hd (by omega) ?_ ?_
    · show 2 * 0 + ((st.map (gcv ad)).map fun v => v.category).sum + 12 ≤ R.locals
      rw [gsz_c]; omega
    · exact kk ls hl) k9
/-- what the tables say of a constructor -/
def gMi (own : String) (idx : Nat) (z : gy) (n : Nat) : Prop := (Cond.methodLink own idx z.1 ∈ W0 ∧ Cond.instanceMethod z.1 ∈ W0 ∧ Cond.initialized z.1.cls ∈ W0 ∧ gcw z ∈ W0) ∧ (z.1.cls ≠ "java/lang/invoke/MethodHandle" ∧ z.1.cls ≠ "java/lang/invoke/VarHandle" ∧ (parseMethodDescriptor z.1.desc).map (fun d => d.parameters.length) = some n) ∧ (plainName z.1.cls = true ∧ z.1.name = "<init>") ∧ z.2.2.1 ≤ 22 ∧ z.2.2.2 = (none, [])
/-- a call that returns, once its run is known -/
theorem T_run1 {d1 : Nat} {As : List gv} {rest : List gv} (hlt9 : gok f.2.1 lv rest = true)
    (hrun : ∀ (x1 : gd) (f1 : gf), gle f f1 → gW E d1 z 0 (glv 0 As) [] x f (.inl none) x1 f1 → ∀ (p : Program) (e : Env) (R : Room) (s : State) (m : MethodId) (args : Array Value) (below : List Frame) (meth : Method) (c : Code) (A : Nat → Prop) (H : Heap) (locs : List Loc) (cells slots : Nat) (ls : Array Slot) (ad : Nat → Nat), gC E d y p R s m args meth c A → gP E x f ad A H → va_S A s.heap H locs → lv_has ls y.2.2.1 (glc ad lv) → cells + (f1.2.2.1 - f.2.2.1) ≤ R.cells → slots + (f1.2.2.2 - f.2.2.2) ≤ R.slots →
      va_Run p E.1 e R s m args below meth c H locs cells slots (f1.2.2.1 - f.2.2.1) (f1.2.2.2 - f.2.2.2) (F0 m pc ls (st.map (gcv ad))) (rest.map (gcv ad)) (gQc E (gA f ad H.size) f ad (.inl none) x1 f1 (As.map (gcv ad)).toArray) (gA f ad H.size))
    (k : T E d1 z 0 (glv 0 As) [] x f (fun o x1 f1 => o = .inl none ∧ T E d y (pc + 3) lv rest x1 f1 Q)) : T E d y pc lv st x f Q := by
  obtain ⟨o1, x1, f1, ⟨rfl, hk⟩, hle, hw1⟩ := k
  have hlv : lv.all (fun q => gokv f.2.1 q.2) = true := (Bool.and_eq_true _ _ ▸ hlt9).1
  have hrs : rest.all (gokv f.2.1) = true := (Bool.and_eq_true _ _ ▸ hlt9).2
  obtain ⟨o, x', f', hQ, hle2, hw2⟩ := hk
  refine ⟨o, x', f', hQ, gle_tr hle hle2, ?_⟩
  intro p e R s m args below meth c A H locs cells slots ls ad C hP hS hl hc hs T9 hT X
  have a1 := hle.2.1
  have a2 := hle.2.2
  have b1 := hle2.2.1
  have b2 := hle2.2.2
  obtain ⟨v', st₀, t, T', L, h0, X', hL, e1, e2, ⟨ad1, hex, ⟨v2, ev1, ev2⟩, hP1, hF⟩, stp⟩ := hrun x1 f1 hle hw1 p e R s m args below meth c A H locs cells slots ls ad C hP hS hl (by omega) (by omega) T9 hT X
  cases ev1
  cases ev2
  have hin := gA_in (sz := H.size) hP (fun q hq => C.2.2.2.2 q (Nat.le_trans hS.1 hq))
  obtain ⟨k1, k2, k3⟩ := vx_keep h0 e1 hS (fun q _ h => hin q h) hin hL hF
  have hP2 : gP E x1 f1 ad1 A T'.heap := by rw [e1]; exact gP_w hP1 hin
  have hl2 : lv_has ls y.2.2.1 (glc ad1 lv) := by rw [glc_live hex hlv]; exact hl
  have hw3 := hw2 p e R s m args below meth c A T'.heap (locs ++ L) (cells + (f1.2.2.1 - f.2.2.1)) (slots + (f1.2.2.2 - f.2.2.2)) ls ad1 C hP2 k3 hl2 (by omega) (by omega)
  rw [gst_live hex hrs] at hw3
  rw [show cells + (f1.2.2.1 - f.2.2.1) + (f'.2.2.1 - f1.2.2.1) = cells + (f'.2.2.1 - f.2.2.1) by omega, show slots + (f1.2.2.2 - f.2.2.2) + (f'.2.2.2 - f1.2.2.2) = slots + (f'.2.2.2 - f.2.2.2) by omega] at hw3
  obtain ⟨t2, s1, s2⟩ := hw3 T' rfl X'
  refine ⟨t2, stp t2 s1, vx_MQ_mono s2 (fun _ _ _ _ q => ?_) (fun _ _ _ q => ?_)⟩
  · obtain ⟨ad2, g1, g2⟩ := q; exact ⟨ad2, gex_tr hle hex g1, g2⟩
  · obtain ⟨ad2, g1, g2⟩ := q; exact ⟨ad2, gex_tr hle hex g1, g2⟩
theorem gM_ofI {av : List gv} {x' : gd} {f' : gf} (hlt : E.1.stackTraces = false) (hy : plainName y.1.cls = true) (hfit : gsz av ≤ y.2.2.1) (h : gW E d y 0 (glv 0 av) [] x f (.inl none) x' f') (ad : Nat → Nat) (sz : Nat) :
    Met E.1 y.1 (gws y) ({ frames := d, cells := f'.2.2.1 - f.2.2.1, slots := f'.2.2.2 - f.2.2.2, locals := 41 * d }) (va_Pc (av.map (gcv ad)) (gst E x f ad sz)) (gQc E (gA f ad sz) f ad (.inl none) x' f') (f'.2.2.1 - f.2.2.1) (f'.2.2.2 - f.2.2.2) (gA f ad sz) := by
  have hM := gM_of hlt hy hfit h ad sz
  intro p e h1 h2 h3 s m args below hf happ hP hK
  obtain ⟨n, o, a1, a2, a3, hQ⟩ := hM p e h1 h2 h3 s m args below hf happ hP hK
  refine ⟨n, o, a1, a2, a3, ?_⟩
  rcases hQ with q | ⟨q, -, E0, ce, L, ⟨ad1, -, hn, -⟩, -⟩
  · exact q
  · cases hn
theorem T_callI {c idx n : Nat} (As rest : List gv) (d1 : Nat) (hst : st = As.reverse ++ vr c :: rest) (hd : decode y.2.1 pc = .ok (.invokespecial idx, 3)) (hM : gMi y.1.cls idx z n) (hn : As.length = n) (hd1 : d1 + 1 ≤ d) (hfit : gsz (vr c :: As) ≤ z.2.2.1) (hcat : gsz rest ≤ 8) (hok : gok f.2.1 lv rest = true)
    (k : T E d1 z 0 (glv 0 (vr c :: As)) [] x f (fun o x1 f1 => o = .inl none ∧ T E d y (pc + 3) lv rest x1 f1 Q)) : T E d y pc lv st x f Q := by
  obtain ⟨⟨m1, m2, m4, m5⟩, m6, ⟨m7, m10⟩, m8, m9⟩ := hM
  refine T_run1 (z := z) (d1 := d1) (As := vr c :: As) (rest := rest) hok ?_ k
  intro x1 f1 hle hw p e R s m args below meth c0 A H locs cells slots ls ad C hP hS hl hc1 hs1
  have hroom : 8 + (z.2.2.1 + 11) + 41 * d1 ≤ R.locals := by
    have hq := C.2.2.1.2
    omega
  have hstk : st.map (gcv ad) = (As.map (gcv ad)).reverse ++ Value.ref (ad c) :: rest.map (gcv ad) := by
    rw [hst, List.map_append, List.map_reverse]
    rfl
  have hz : z.2.2.2.2 = [] := by rw [m9]
  have hz1 : z.2.2.2.1 = none := by rw [m9]
  exact va_runI (As := As.map (gcv ad)) (b := ad c) (Pc := va_Pc ((vr c :: As).map (gcv ad)) (gst E x f ad H.size)) ⟨C.1.1, C.1.2.1, C.1.2.2.1, C.1.2.2.2.1, C.1.2.2.2.2⟩ (gM_ofI C.2.2.2.1.2.2.2 m7 hfit hw ad H.size)
      ⟨callB_of (bytes := z.2.1) (maxL := z.2.2.1) (ret := none) (ws' := W0) n C.1.2.2.2.2 (gwsz m5) (by rw [gws, gcw, hz, hz1]) rfl rfl (C.1.2.2.2.2 _ m4) (C.1.2.2.2.2 _ m1) m6 ⟨Nat.le_trans hd1 C.2.2.1.1, hroom⟩, m10, C.1.2.2.2.2 _ m2⟩ ⟨gst_blind, fun U hU hW => ⟨rfl, gst_in C hP hS hU hW⟩⟩ rfl (by rw [List.length_map]; exact hn) hl.1 hstk (lv_room (by rw [gsz_c]; exact hcat)) hd ⟨hc1, hs1⟩
/-- the constructor of a deed, called by a machine's (nest mates) -/
theorem T_callN {c idx n : Nat} (As rest : List gv) (d1 : Nat) (hst : st = As.reverse ++ vr c :: rest) (hd : decode y.2.1 pc = .ok (.invokespecial idx, 3)) (hown : y.1.cls = RX5) (hidx : idx = 24) (hz0 : z.1 = yX1_init) (hM : (Cond.instanceMethod z.1 ∈ W0 ∧ Cond.initialized z.1.cls ∈ W0 ∧ gcw z ∈ W0) ∧ (z.1.cls ≠ "java/lang/invoke/MethodHandle" ∧ z.1.cls ≠ "java/lang/invoke/VarHandle" ∧ (parseMethodDescriptor z.1.desc).map (fun d => d.parameters.length) = some n) ∧ (plainName z.1.cls = true ∧ z.1.name = "<init>") ∧ z.2.2.1 ≤ 22 ∧ z.2.2.2 = (none, [])) (hn : As.length = n) (hd1 : d1 + 1 ≤ d) (hfit : gsz (vr c :: As) ≤ z.2.2.1) (hcat : gsz rest ≤ 8) (hok : gok f.2.1 lv rest = true)
    (k : T E d1 z 0 (glv 0 (vr c :: As)) [] x f (fun o x1 f1 => o = .inl none ∧ T E d y (pc + 3) lv rest x1 f1 Q)) : T E d y pc lv st x f Q := by
  obtain ⟨⟨m2, m4, m5⟩, m6, ⟨m7, m10⟩, m8, m9⟩ := hM
  refine T_run1 (z := z) (d1 := d1) (As := vr c :: As) (rest := rest) hok ?_ k
  intro x1 f1 hle hw p e R s m args below meth c0 A H locs cells slots ls ad C hP hS hl hc1 hs1
  have hroom : 8 + (z.2.2.1 + 11) + 41 * d1 ≤ R.locals := by
    have hq := C.2.2.1.2
    omega
  have hstk : st.map (gcv ad) = (As.map (gcv ad)).reverse ++ Value.ref (ad c) :: rest.map (gcv ad) := by
    rw [hst, List.map_append, List.map_reverse]
    rfl
  have hz : z.2.2.2.2 = [] := by rw [m9]
  have hz1 : z.2.2.2.1 = none := by rw [m9]
  have hl9 : va_Nw (.methodLinkNest y.1.cls idx z.1 "ScheduleHouse") s := by rw [hown, hidx, hz0]; exact C.2.2.2.1.2.1.2.2.2.2.1
  exact va_runIN (As := As.map (gcv ad)) (b := ad c) (Pc := va_Pc ((vr c :: As).map (gcv ad)) (gst E x f ad H.size)) ⟨C.1.1, C.1.2.1, C.1.2.2.1, C.1.2.2.2.1, C.1.2.2.2.2⟩ (gM_ofI C.2.2.2.1.2.2.2 m7 hfit hw ad H.size)
      ⟨va_cnB (bytes := z.2.1) (maxL := z.2.2.1) (ret := none) (ws' := W0) n C.1.2.2.2.2 (gwsz m5) (by rw [gws, gcw, hz, hz1]) rfl rfl hl9 (C.1.2.2.2.2 _ m4) m6 ⟨Nat.le_trans hd1 C.2.2.1.1, hroom⟩, m10, C.1.2.2.2.2 _ m2⟩ ⟨gst_blind, fun U hU hW => ⟨rfl, gst_in C hP hS hU hW⟩⟩ rfl (by rw [List.length_map]; exact hn) hl.1 hstk (lv_room (by rw [gsz_c]; exact hcat)) hd ⟨hc1, hs1⟩
/-! thirteen rows of fourteen, made at once -/
def gcl (i : Nat) : Nat := if i = 0 then 190 else 299 + i
abbrev isG (c : Nat) : Prop := c = 190 ∨ (300 ≤ c ∧ c < 313)
def zgrid (x : gd) : gd := (fun c => if isG c then fun _ => 0 else x.1 c, fun c => if isG c then fun _ => 0 else x.2 c)
def fgrid (f : gf) : gf := (fun c k => if isG c then (if c = 190 ∧ k < 13 then some (300 + k) else none) else f.1 c k, f.2.1 ++ (List.range 14).map gcl, f.2.2.1 + 14, f.2.2.2 + 195)
def agrid (ad : Nat → Nat) (h : Nat) : Nat → Nat := fun c => if isG c then (if c = 190 then h else h + (c - 299)) else ad c
theorem gcl_G {i : Nat} (h : i < 14) : isG (gcl i) := by
  unfold isG gcl
  by_cases h0 : i = 0
  · rw [if_pos h0]; exact Or.inl rfl
  · rw [if_neg h0]; exact Or.inr (by omega)
theorem agrid_g {ad : Nat → Nat} {h i : Nat} (hi : i < 14) : agrid ad h (gcl i) = h + i := by
  unfold agrid
  rw [if_pos (gcl_G hi)]
  unfold gcl
  by_cases h0 : i = 0
  · rw [if_pos h0, if_pos rfl, h0]; rfl
  · rw [if_neg h0, if_neg (by omega)]; omega
theorem fgrid_le : gle f (fgrid f) := ⟨fun c h => List.mem_append_left _ h, Nat.le_add_right _ _, Nat.le_add_right _ _⟩
theorem va_Dapp {A : Nat → Prop} {ws : va_W} {D : va_G} {cl : List vw_C} {H : Heap} {N : Nat} {en : Nat → va_E} (hD : va_D A ws) (hP : va_P D cl ws H) (hA : ∀ q, H.size ≤ q → A q) : va_D A (ws ++ (List.range N).map (fun i => (H.size + i, en i))) := by
  have key : ∀ (k : Nat) (q : Nat × va_E), (ws ++ (List.range N).map (fun i => (H.size + i, en i)))[k]? = some q → (ws[k]? = some q ∧ q.1 < H.size) ∨ (ws.length ≤ k ∧ q.1 = H.size + (k - ws.length)) := by
    intro k q hk
    by_cases hl : k < ws.length
    · rw [List.getElem?_append_left hl] at hk
      exact Or.inl ⟨hk, (hP k q hk).lt⟩
    · rw [List.getElem?_append_right (by omega), List.getElem?_map] at hk
      cases hr : (List.range N)[k - ws.length]? with
      | none => rw [hr] at hk; cases hk
      | some j =>
        rw [hr] at hk
        obtain ⟨hlt, hj⟩ := List.getElem?_eq_some_iff.mp hr
        rw [List.getElem_range] at hj
        cases hk
        exact Or.inr ⟨by omega, by rw [← hj]⟩
  refine ⟨fun i j p q hi hj e => ?_, fun k q hk => ?_⟩
  · rcases key i p hi with ⟨a1, a2⟩ | ⟨a1, a2⟩ <;> rcases key j q hj with ⟨b1, b2⟩ | ⟨b1, b2⟩
    · exact hD.1 i j p q a1 b1 e
    · omega
    · omega
    · omega
  · rcases key k q hk with ⟨a1, a2⟩ | ⟨a1, a2⟩
    · exact hD.2 k q a1
    · rw [a2]; exact hA _ (Nat.le_add_right _ _)
theorem gce_grid {ad : Nat → Nat} {h c' : Nat} (hne : ¬ isG c') (hn : ∀ j c, isG c → f.1 c' j ≠ some c) : gce E (zgrid x) (fgrid f) (agrid ad h) c' = gce E x f ad c' := by
  have e1 : (zgrid x).1 c' = x.1 c' := if_neg hne
  have e2 : (zgrid x).2 c' = x.2 c' := if_neg hne
  have e3 : ∀ j, ((fgrid f).1 c' j).map (agrid ad h) = (f.1 c' j).map ad := fun j => by
    show (if isG c' then _ else f.1 c' j).map _ = _
    rw [if_neg hne]
    cases hr : f.1 c' j with
    | none => rfl
    | some b =>
      show some (agrid ad h b) = some (ad b)
      unfold agrid
      rw [if_neg (fun q => hn j b q hr)]
  unfold gce gfl gar
  rw [e1, e2]
  simp only [e3]
theorem gwl_grid {ad : Nat → Nat} {h : Nat} (hc : ∀ c ∈ f.2.1, ¬ isG c) (hr : ∀ c' ∈ f.2.1, ∀ j c, isG c → f.1 c' j ≠ some c) : gwl E (zgrid x) (fgrid f) (agrid ad h) = gwl E x f ad ++ (List.range 14).map (fun i => (h + i, gce E (zgrid x) (fgrid f) (agrid ad h) (gcl i))) := by
  unfold gwl
  show (f.2.1 ++ (List.range 14).map gcl).map _ = _
  rw [List.map_append]
  congr 1
  · apply List.map_congr_left
    intro c' h'
    rw [gce_grid (hc c' h') (hr c' h'), show agrid ad h c' = ad c' from if_neg (hc c' h')]
theorem cell_ext : ∀ a b : Cell, a.cls = b.cls → a.slots = b.slots → a.vm = b.vm → a.monitor = b.monitor → a.hash = b.hash → a = b
  | ⟨_, _, _, _, _⟩, ⟨_, _, _, _, _⟩, rfl, rfl, rfl, rfl, rfl => rfl
theorem outer_mh (cA : ClassId) (N h : Nat) : ∀ i, (Jvm.Free.Multi.outerC cA N h i).monitor = ({} : Monitor) ∧ (Jvm.Free.Multi.outerC cA N h i).hash = none
  | 0 => ⟨rfl, rfl⟩
  | i + 1 => outer_mh cA N h i
theorem outer_eq (cA : ClassId) (h : Nat) : Jvm.Free.Multi.outerC cA 13 h 13 = arrV cA 13 (fun j => va_rf (if j < 13 then some (h + 1 + j) else none)) := by
  obtain ⟨a1, a2, a3⟩ := Jvm.Free.Multi.outerC_facts cA 13 h 13
  obtain ⟨a4, a5⟩ := outer_mh cA 13 h 13
  refine cell_ext _ _ a1 ?_ a2 a4 a5
  apply Array.ext_getElem?
  intro j
  by_cases hj : j < 13
  · rw [Jvm.Free.Multi.outerC_slot cA 13 h 13 j hj, arrV_read _ _ hj, if_pos hj, if_pos hj]; rfl
  · rw [Array.getElem?_eq_none (by rw [a3]; omega), Array.getElem?_eq_none (by rw [arrV_size]; omega)]
theorem T_grid {idx : Nat} (hd : decode y.2.1 pc = .ok (.multianewarray idx 2, 4)) (hw : Cond.classLink y.1.cls idx "[[I" ∈ W0) (ha : Cond.arrayClass .int ∈ W0) (hK : E.2.2.2.1 190 = .inr (.array .int, 13)) (hKi : ∀ j, j < 13 → E.2.2.2.1 (300 + j) = .inr (.int, 14)) (hc : ∀ c ∈ f.2.1, ¬ isG c) (hr : ∀ c' ∈ f.2.1, ∀ j c, isG c → f.1 c' j ≠ some c) (hok : gok f.2.1 lv st = true)
    (k9 : T E d y (pc + 4) lv (vr 190 :: st) (zgrid x) (fgrid f) Q) : T E d y pc lv (vi 14 :: vi 13 :: st) x f Q := by
  obtain ⟨o, x', f', h1, h2, h3⟩ := k9
  refine ⟨o, x', f', h1, gle_tr fgrid_le h2, ?_⟩
  intro p e R s m args below meth c0 A H locs cells slots ls ad C hP hS hl hcc hss
  have b1 : f.2.2.1 + 14 ≤ f'.2.2.1 := h2.2.1
  have b2 : f.2.2.2 + 195 ≤ f'.2.2.2 := h2.2.2
  have hlv : lv.all (fun q => gokv f.2.1 q.2) = true := (Bool.and_eq_true _ _ ▸ hok).1
  have hrs : st.all (gokv f.2.1) = true := (Bool.and_eq_true _ _ ▸ hok).2
  intro T9 hT X
  have k13 : (13 : Int32).toNatClampNeg = 13 := rfl
  have k14 : (14 : Int32).toNatClampNeg = 14 := rfl
  obtain ⟨vm₁, cA, comp, hW, hfA, hfC, hO, hI, X1, stp⟩ := X.multianewarray2F (ty := .int) C.1.1 C.1.2.2.2.1 (C.1.2.2.2.2 _ hw) C.2.2.2.1.2.1.2.2.2.2.2 (C.1.2.2.2.2 _ ha) (g := F0 m pc ls ((vi 14 :: vi 13 :: st).map (gcv ad))) rfl (by rw [C.1.2.1]; exact hd) (n := 13) (k := 14) rfl (by decide) (by decide) (by decide) (by decide) (by decide) (by decide) (by decide) (by rw [k13]; omega) (by rw [k13, k14]; omega)
  rw [k13, k14] at X1 stp
  have hcA : cA = E.2.2.1 (.array .int) := Option.some.inj (Eq.trans (Eq.symm hfA) (C.2.2.2.1.1.2 5 _ rfl).2)
  have hcp : comp = E.2.2.1 .int := Option.some.inj (Eq.trans (Eq.symm hfC) (C.2.2.2.1.1.2 0 _ rfl).2)
  obtain ⟨f1, f2, -, -⟩ := Jvm.Free.Multi.fill_facts (T9.setVm vm₁) cA comp 13 14 (defaultValue .int) 13
  have fo := fun (a : Addr) (ha : a < T9.heap.size) => Jvm.Free.Multi.fill_old (T9.setVm vm₁) cA comp 13 14 (defaultValue .int) (a := a) ha 13
  have fi := fun (j : Nat) (hj : j < 13) => Jvm.Free.Multi.fill_inner (T9.setVm vm₁) cA comp 13 14 (defaultValue .int) 13 j hj
  generalize hF9 : Jvm.Free.Multi.fill (T9.setVm vm₁) cA comp 13 14 (defaultValue .int) 13 = F9 at *
  have hH : (T9.setVm vm₁).heap = H := hT
  rw [hH] at f1 f2 fo fi
  rw [hT] at fo
  have hex : gex f ad (agrid ad H.size) := ⟨fun c' h' => if_neg (hc c' h'), fun i hi => if_neg (by unfold isG; omega)⟩
  have hgad : gad E (agrid ad H.size) := fun i hi => by unfold agrid; rw [if_neg (by unfold isG; omega)]; exact hP.2 i hi
  have hAA : ∀ q : Nat, H.size ≤ q → A q := fun q hq => C.2.2.2.2 q (Nat.le_trans hS.1 hq)
  have hk : ∀ (k : Nat) (x9 : Nat × va_E), (gwl E x f ad)[k]? = some x9 → F9.heap[x9.1]? = H[x9.1]? := fun k x9 hx => fo x9.1 ((hP.1.1 k x9 hx).lt)
  have hP2 : gP E (zgrid x) (fgrid f) (agrid ad H.size) A F9.heap := by
    refine ⟨⟨?_, ?_⟩, hgad⟩
    · rw [gwl_grid hc hr]
      refine (hP.1.1.kept hk).app (fun k x9 hx => ?_)
      rw [List.getElem?_map] at hx
      cases hr9 : (List.range 14)[k]? with
      | none => rw [hr9] at hx; cases hx
      | some j =>
        rw [hr9] at hx
        have hj : j < 14 := List.mem_range.mp (List.mem_of_getElem? hr9)
        cases hx
        by_cases h0 : j = 0
        · subst h0
          have e9 : gce E (zgrid x) (fgrid f) (agrid ad H.size) (gcl 0) = .inl (cA, 13, .inr (.inr (.inr (.inr (fun j => if j < 13 then some (H.size + 1 + j) else none))))) := by
            show gce E (zgrid x) (fgrid f) (agrid ad H.size) 190 = _
            rw [gce_arr hK, hcA]
            have z2 : (fun j => ((fgrid f).1 190 j).map (agrid ad H.size)) = fun j => if j < 13 then some (H.size + 1 + j) else none := by
              funext j
              show (if isG 190 then (if 190 = 190 ∧ j < 13 then some (300 + j) else none) else f.1 190 j).map _ = _
              rw [if_pos (show isG 190 from Or.inl rfl)]
              by_cases hj : j < 13
              · rw [if_pos ⟨rfl, hj⟩, if_pos hj]
                show some (agrid ad H.size (300 + j)) = _
                have : agrid ad H.size (300 + j) = H.size + (1 + j) := by
                  have := agrid_g (ad := ad) (h := H.size) (i := 1 + j) (by omega)
                  rw [← this]; unfold gcl; rw [if_neg (by omega)]; congr 1; omega
                rw [this]; congr 1; omega
              · rw [if_neg (fun q => hj q.2), if_neg hj]; rfl
            show Sum.inl (_, _, Sum.inr (Sum.inr (Sum.inr (Sum.inr (fun j => ((fgrid f).1 190 j).map (agrid ad H.size)))))) = _
            rw [z2]
          show va_at E.2.1 vwCl (H.size + 0, gce E (zgrid x) (fgrid f) (agrid ad H.size) (gcl 0)) F9.heap
          rw [e9]
          show F9.heap[H.size + 0]? = some (vp_cell _ _)
          rw [vp_cell_q, Nat.add_zero, f2, outer_eq]
        · have e0 : gcl j = 300 + (j - 1) := by unfold gcl; rw [if_neg h0]; omega
          have e9 : gce E (zgrid x) (fgrid f) (agrid ad H.size) (gcl j) = .inl (comp, 14, .inl (fun _ => 0)) := by
            rw [e0, gce_arr (hKi (j - 1) (by omega)), hcp]
            show Sum.inl (_, _, Sum.inl ((zgrid x).1 (300 + (j - 1)))) = _
            rw [show (zgrid x).1 (300 + (j - 1)) = fun _ => 0 from if_pos (Or.inr (by omega))]
          show va_at E.2.1 vwCl (H.size + j, gce E (zgrid x) (fgrid f) (agrid ad H.size) (gcl j)) F9.heap
          rw [e9]
          show F9.heap[H.size + j]? = some (vp_cell _ _)
          rw [vp_cell_i, show H.size + j = H.size + 1 + (j - 1) by omega, fi (j - 1) (by omega)]
          congr 1
    · rw [gwl_grid hc hr]; exact va_Dapp hP.1.2 hP.1.1 hAA
  have hS2 : va_S A s.heap F9.heap locs := ⟨Nat.le_trans hS.1 (by omega), fun x9 q1 q2 => (fo x9 (Nat.lt_of_lt_of_le q1 hS.1)).trans (hS.2.1 x9 q1 q2), hS.2.2⟩
  have hw9 := h3 p e R s m args below meth c0 A F9.heap locs (cells + 14) (slots + 195) ls (agrid ad H.size) C hP2 hS2 (by rw [glc_live hex hlv]; exact hl) (by show cells + 14 + (f'.2.2.1 - (f.2.2.1 + 14)) ≤ _; omega) (by show slots + 195 + (f'.2.2.2 - (f.2.2.2 + 195)) ≤ _; omega)
  have ev : (vr 190 :: st).map (gcv (agrid ad H.size)) = .ref H.size :: st.map (gcv ad) := by
    rw [List.map_cons, gst_live hex hrs]
    congr 1
  rw [ev] at hw9
  obtain ⟨t2, s1, s2⟩ := hw9 F9 rfl (by rw [show cells + 14 = cells + 1 + 13 by omega, show slots + 195 = slots + 13 + 13 * 14 by omega]; exact X1)
  have e1 : cells + 14 + (f'.2.2.1 - (fgrid f).2.2.1) = cells + (f'.2.2.1 - f.2.2.1) := by show cells + 14 + (f'.2.2.1 - (f.2.2.1 + 14)) = _; omega
  have e2 : slots + 195 + (f'.2.2.2 - (fgrid f).2.2.2) = slots + (f'.2.2.2 - f.2.2.2) := by show slots + 195 + (f'.2.2.2 - (f.2.2.2 + 195)) = _; omega
  rw [e1, e2] at s2
  refine ⟨t2, stp t2 (by rw [hT]; exact s1), vx_MQ_mono s2 (fun _ _ _ _ q => ?_) (fun _ _ _ q => ?_)⟩
  · obtain ⟨ad2, g1, g2⟩ := q; exact ⟨ad2, gex_tr fgrid_le hex g1, g2⟩
  · obtain ⟨ad2, g1, g2⟩ := q; exact ⟨ad2, gex_tr fgrid_le hex g1, g2⟩
end GMK
