def gA (f : gf) (ad : Nat → Nat) (sz : Nat) : Nat → Prop := fun q => (∃ c ∈ f.2.1, ad c = q) ∨ sz ≤ q
def gst (E : gE) (x : gd) (f : gf) (ad : Nat → Nat) (sz : Nat) (U : State) : Prop := U.heap.size = sz ∧ gP E x f ad (fun _ => True) U.heap ∧ va_K E.2.1 vwCl (gtys E) U ∧ ev_Z E.2.2.2.2 (gA f ad sz) U U.heap ∧ ev U
theorem gst_blind {E : gE} {x : gd} {f : gf} {ad : Nat → Nat} {sz : Nat} {av : List Value} : FrameBlind (va_Pc av (gst E x f ad sz)) := by
  intro a U g mk q
  obtain ⟨q0, q1, qP, qK, qZ, qE⟩ := q
  exact ⟨q0, q1, qP, va_K.moved (u := U) (U := U.calling g mk a) (Vm.Alike.refl U.vm) qK, ev_Z_same (u := U) (U := U.calling g mk a) rfl qZ, ev_same (u := U) (U := U.calling g mk a) rfl qE⟩
def glv : Nat → List gv → List (Nat × gv)
  | _, [] => []
  | k, v :: r => (k, v) :: glv (if gis2 v = true then k + 2 else k + 1) r
theorem glv_c (ad : Nat → Nat) : ∀ (av : List gv) (k : Nat), lv_args k (av.map (gcv ad)) = glc ad (glv k av) := by
  intro av
  induction av with
  | nil => intro k; rfl
  | cons v r ih =>
    intro k
    show (k, gcv ad v) :: lv_args (if (gcv ad v).category = 2 then k + 2 else k + 1) (r.map (gcv ad)) = (k, gcv ad v) :: glc ad (glv (if gis2 v = true then k + 2 else k + 1) r)
    rw [ih]
    congr 3
    rw [← gcv_cat ad v]
    by_cases h : (gcv ad v).category = 2
    · rw [if_pos h, if_pos (by rw [h]; rfl)]
    · rw [if_neg h, if_neg (by simp [h])]
/-- words that values take -/
def gsz : List gv → Nat
  | [] => 0
  | v :: r => (if gis2 v = true then 2 else 1) + gsz r
theorem gcv_2 {ad : Nat → Nat} {v : gv} (h : gis2 v = true) : (gcv ad v).category = 2 := by
  have e := gcv_cat ad v
  rw [h] at e
  exact beq_iff_eq.mp e
theorem gsz_l (ad : Nat → Nat) : ∀ av : List gv, (lg_sl (av.map (gcv ad))).length = gsz av := by
  intro av
  induction av with
  | nil => rfl
  | cons v r ih =>
    show ((if (gcv ad v).category = 2 then [Slot.val (gcv ad v), Slot.second] else [Slot.val (gcv ad v)]) ++ lg_sl (r.map (gcv ad))).length = (if gis2 v = true then 2 else 1) + gsz r
    rw [List.length_append, ih]
    cases h : gis2 v with
    | true => rw [if_pos (gcv_2 h), if_pos rfl]; rfl
    | false => rw [if_neg (by rw [gcv_1 h]; decide), if_neg (by decide)]; rfl
theorem gsz_c (ad : Nat → Nat) : ∀ av : List gv, ((av.map (gcv ad)).map fun v => v.category).sum = gsz av := by
  intro av
  induction av with
  | nil => rfl
  | cons v r ih =>
    show (gcv ad v).category + ((r.map (gcv ad)).map fun v => v.category).sum = (if gis2 v = true then 2 else 1) + gsz r
    rw [ih]
    cases h : gis2 v with
    | true => rw [gcv_2 h, if_pos rfl]
    | false => rw [gcv_1 h, if_neg (by decide)]
theorem gP_A {E : gE} {x : gd} {f : gf} {ad : Nat → Nat} {H : Heap} {A : Nat → Prop} (sz : Nat) (h : gP E x f ad A H) : gP E x f ad (gA f ad sz) H := by
  refine ⟨⟨h.1.1, h.1.2.1, fun k q hk => ?_⟩, h.2⟩
  rw [gwl, List.getElem?_map] at hk
  cases hL : f.2.1[k]? with
  | none => rw [hL] at hk; cases hk
  | some c =>
    rw [hL] at hk
    cases hk
    exact Or.inl ⟨c, List.mem_of_getElem? hL, rfl⟩
theorem gP_w {E : gE} {x : gd} {f : gf} {ad : Nat → Nat} {H : Heap} {A B : Nat → Prop} (h : gP E x f ad A H) (hAB : ∀ q, A q → B q) : gP E x f ad B H := ⟨⟨h.1.1, h.1.2.1, fun k q hk => hAB _ (h.1.2.2 k q hk)⟩, h.2⟩
theorem gA_in {E : gE} {x : gd} {f : gf} {ad : Nat → Nat} {A : Nat → Prop} {H : Heap} {sz : Nat} (h : gP E x f ad A H) (hA : ∀ q : Nat, sz ≤ q → A q) : ∀ q, gA f ad sz q → A q := by
  intro q hq
  rcases hq with ⟨c, hc, e⟩ | hq
  · obtain ⟨i, -, hi⟩ := gwl_at (E := E) (x := x) (ad := ad) hc
    rw [← e]
    exact h.1.2.2 i _ hi
  · exact hA q hq
theorem gM_of {E : gE} {d : Nat} {y : gy} {av : List gv} {x : gd} {f : gf} {o : gr} {x' : gd} {f' : gf} (hlt : E.1.stackTraces = false) (hy : plainName y.1.cls = true) (hfit : gsz av ≤ y.2.2.1) (h : gW E d y 0 (glv 0 av) [] x f o x' f') (ad : Nat → Nat) (sz : Nat) :
    vx_Met E.1 y.1 (gws y) ({ frames := d, cells := f'.2.2.1 - f.2.2.1, slots := f'.2.2.2 - f.2.2.2, locals := 41 * d }) (va_Pc (av.map (gcv ad)) (gst E x f ad sz)) (gQc E (gA f ad sz) f ad o x' f') (gXC E (gA f ad sz) f ad o x' f') (f'.2.2.1 - f.2.2.1) (f'.2.2.2 - f.2.2.2) (gA f ad sz) := by
  have body : ∀ (p : Program) (e : Env) (s : State) (m : MethodId) (args : Array Value) (below : List Frame) (meth : Method) (c : Code) (s₁ : State), BodyLoose p E.1 y.1 (headSpec (gws y) ({ frames := d, cells := f'.2.2.1 - f.2.2.1, slots := f'.2.2.2 - f.2.2.2, locals := 41 * d })) y.2.1 y.2.2.1 y.2.2.2.1 e s m args below meth c s₁ → c.maxLocals = y.2.2.1 → c.exceptionTable.toList = tableOf y.2.2.2.2 → va_Pc (av.map (gcv ad)) (gst E x f ad sz) args s →
      W p E.1 e (headSpec (gws y) ({ frames := d, cells := f'.2.2.1 - f.2.2.1, slots := f'.2.2.2 - f.2.2.2, locals := 41 * d })).room s m args below meth c s.heap [] 0 0 (vx_MQ below (gQc E (gA f ad sz) f ad o x' f') (gXC E (gA f ad sz) f ad o x' f') args s (f'.2.2.1 - f.2.2.1) (f'.2.2.2 - f.2.2.2) (gA f ad sz)) (entryFrame m args y.2.2.1) := by
    intro p e s m args below meth c s₁ B hml hno hv
    obtain ⟨rfl, hsz, hP, hK, hZ, hE⟩ := hv
    subst hsz
    have hts := atoms_spec (ws := gws y) B.pre
    have hl := lv_entry (av.map (gcv ad)) (n := y.2.2.1) (by rw [gsz_l]; exact hfit)
    rw [glv_c] at hl
    rw [lg_entry_eq]
    have h9 := h p e ({ frames := d, cells := f'.2.2.1 - f.2.2.1, slots := f'.2.2.2 - f.2.2.2, locals := 41 * d }) s m (av.map (gcv ad)).toArray below meth c (gA f ad s.heap.size) s.heap [] 0 0 _ ad
      ⟨⟨B.exec, B.bytes, hml, findClass_of_methodNamed B.named, fun w hw => hts w (List.mem_cons_of_mem _ hw)⟩, ⟨B.returns, B.notSynchronized, hno, (name_of_methodNamed B.named B.method).1⟩, ⟨Nat.le_refl _, Nat.le_refl _⟩, ⟨hK, hE, hZ, hlt⟩, fun q hq => Or.inr hq⟩ (gP_A _ hP) va_S.rf hl (by rw [Nat.zero_add]; exact Nat.le_refl _) (by rw [Nat.zero_add]; exact Nat.le_refl _)
    rw [Nat.zero_add, Nat.zero_add] at h9
    exact h9
  cases hh : y.2.2.2.2 with
  | nil =>
    refine vx_ofW (cc := y.2.1) (maxL := y.2.2.1) (ret := y.2.2.2.1) (ws' := W0) hy (by rw [gws, gcw, hh]) ?_
    intro p e s m args below meth c s₁ B hml hno hv
    refine body p e s m args below meth c s₁ B hml ?_ hv
    rw [hh]
    cases hc : c.exceptionTable.toList with
    | nil => rfl
    | cons a b => exact (hno a (by rw [hc]; exact List.mem_cons_self)).elim
  | cons a b =>
    refine vx_ofWH (cc := y.2.1) (maxL := y.2.2.1) (ret := y.2.2.2.1) (hh := a :: b) (ws' := W0) hy (by rw [gws, gcw, hh]) ?_
    intro p e s m args below meth c s₁ B hml hv
    have hm : Cond.codeWith y.1 y.2.1 y.2.2.1 y.2.2.2.1 (a :: b) ∈ gws y := by rw [gws, gcw, hh]; exact List.mem_cons_self
    exact body p e s m args below meth c s₁ B hml (by rw [hh]; exact vx_table (x := y.1) B (atoms_spec (ws := gws y) B.pre _ hm)) hv
/-- references that are live -/
def gokv (L : List Nat) (v : gv) : Bool := match v with
  | .inr (.inr (some c)) => L.elem c || decide (900 ≤ c ∧ c < 905)
  | _ => true
def gok (L : List Nat) (lv : List (Nat × gv)) (st : List gv) : Bool := lv.all (fun q => gokv L q.2) && st.all (gokv L)
theorem gcv_live {f : gf} {ad ad' : Nat → Nat} (h : gex f ad ad') {v : gv} (hv : gokv f.2.1 v = true) : gcv ad' v = gcv ad v := by
  rcases v with a | a | a
  · rfl
  · rfl
  · cases a with
    | none => rfl
    | some c =>
      show Value.ref _ = Value.ref _
      have hv : (f.2.1.elem c || decide (900 ≤ c ∧ c < 905)) = true := hv
      rw [Bool.or_eq_true] at hv
      rcases hv with hv | hv
      · rw [h.1 c (List.elem_iff.mp hv)]
      · have q := of_decide_eq_true hv
        have e := h.2 (c - 900) (by omega)
        rw [show 900 + (c - 900) = c by omega] at e
        rw [e]
theorem glc_live {f : gf} {ad ad' : Nat → Nat} (h : gex f ad ad') {lv : List (Nat × gv)} (hv : lv.all (fun q => gokv f.2.1 q.2) = true) : glc ad' lv = glc ad lv := by
  apply List.map_congr_left
  intro q hq
  rw [gcv_live h (List.all_eq_true.mp hv q hq)]
theorem gst_live {f : gf} {ad ad' : Nat → Nat} (h : gex f ad ad') {st : List gv} (hv : st.all (gokv f.2.1) = true) : st.map (gcv ad') = st.map (gcv ad) := by
  apply List.map_congr_left
  intro q hq
  rw [gcv_live h (List.all_eq_true.mp hv q hq)]
/-- what goes on behind a call -/
def gthen (E : gE) (d : Nat) (y : gy) (pc : Nat) (lv : List (Nat × gv)) (st : List gv) (Q : gr → gd → gf → Prop) (o : gr) (x : gd) (f : gf) : Prop := match o with
  | .inl v => T E d y pc lv (v.toList ++ st) x f Q
  | .inr X => Q (.inr X) x f
/-- what the tables say of a call of an instance's method, of a static one -/
def gMv (own : String) (idx : Nat) (z : gy) (n : Nat) : Prop := (Cond.methodLink own idx z.1 ∈ W0 ∧ Cond.instanceMethod z.1 ∈ W0 ∧ Cond.selects z.1.cls z.1 z.1 ∈ W0 ∧ Cond.initialized z.1.cls ∈ W0 ∧ gcw z ∈ W0) ∧ (z.1.cls ≠ "java/lang/invoke/MethodHandle" ∧ z.1.cls ≠ "java/lang/invoke/VarHandle" ∧ (parseMethodDescriptor z.1.desc).map (fun d => d.parameters.length) = some n) ∧ plainName z.1.cls = true ∧ z.2.2.1 ≤ 22
def gMs (own : String) (idx : Nat) (z : gy) (n : Nat) : Prop := (Cond.methodLink own idx z.1 ∈ W0 ∧ Cond.static z.1 ∈ W0 ∧ Cond.initialized z.1.cls ∈ W0 ∧ gcw z ∈ W0) ∧ (z.1.cls ≠ "java/lang/invoke/MethodHandle" ∧ z.1.cls ≠ "java/lang/invoke/VarHandle" ∧ (parseMethodDescriptor z.1.desc).map (fun d => d.parameters.length) = some n) ∧ plainName z.1.cls = true ∧ z.2.2.1 ≤ 22
theorem gwsz {z : gy} (h : gcw z ∈ W0) : GoodIn W0 (gws z) := by
  intro w hw
  rcases List.mem_cons.mp hw with e | hw
  · rw [e]; exact W0_good _ h
  · exact W0_good _ hw
theorem vx_MQ_mono {below : List Frame} {Qc Qc' : Array Value → State → Outcome → State → Prop} {XC XC' : String → State → State → Prop} {a : Array Value} {s : State} {mc ms : Nat} {free : Addr → Prop} {t : State} (h : vx_MQ below Qc XC a s mc ms free t) (h1 : ∀ a st o t, Qc a st o t → Qc' a st o t) (h2 : ∀ E st t, XC E st t → XC' E st t) : vx_MQ below Qc' XC' a s mc ms free t := by
  obtain ⟨o, e1, e2, e3⟩ := h
  refine ⟨o, e1, e2, ?_⟩
  rcases e3 with ⟨q1, q2⟩ | ⟨q, q1, E, ce, L, q2, q3⟩
  · exact Or.inl ⟨h1 _ _ _ _ q1, q2⟩
  · exact Or.inr ⟨q, q1, E, ce, L, h2 _ _ _ q2, q3⟩
section GRC
variable {E : gE} {d : Nat} {y : gy} {pc : Nat} {lv : List (Nat × gv)} {st : List gv} {x : gd} {f : gf} {Q : gr → gd → gf → Prop}
/-- a call, once its run is known -/
theorem T_run {z : gy} {d1 : Nat} {As : List gv} {rest : List gv} (hno : ∀ z ∈ tableOf y.2.2.2.2, covers z pc = false) (hlt9 : gok f.2.1 lv rest = true)
    (hrun : ∀ (o : gr) (x1 : gd) (f1 : gf), gle f f1 → gW E d1 z 0 (glv 0 As) [] x f o x1 f1 → ∀ (p : Program) (e : Env) (R : Room) (s : State) (m : MethodId) (args : Array Value) (below : List Frame) (meth : Method) (c : Code) (A : Nat → Prop) (H : Heap) (locs : List Loc) (cells slots : Nat) (ls : Array Slot) (ad : Nat → Nat), gC E d y p R s m args meth c A → gP E x f ad A H → va_S A s.heap H locs → lv_has ls y.2.2.1 (glc ad lv) → cells + (f1.2.2.1 - f.2.2.1) ≤ R.cells → slots + (f1.2.2.2 - f.2.2.2) ≤ R.slots →
      vx_Run p E.1 e R s m args below meth c H locs cells slots (f1.2.2.1 - f.2.2.1) (f1.2.2.2 - f.2.2.2) (F0 m pc ls (st.map (gcv ad))) (rest.map (gcv ad)) (gQc E (gA f ad H.size) f ad o x1 f1 (As.map (gcv ad)).toArray) (gXC E (gA f ad H.size) f ad o x1 f1) (gA f ad H.size))
    (k : T E d1 z 0 (glv 0 As) [] x f (gthen E d y (pc + 3) lv rest Q)) : T E d y pc lv st x f Q := by
  obtain ⟨o1, x1, f1, hk, hle, hw1⟩ := k
  have hlv : lv.all (fun q => gokv f.2.1 q.2) = true := (Bool.and_eq_true _ _ ▸ hlt9).1
  have hrs : rest.all (gokv f.2.1) = true := (Bool.and_eq_true _ _ ▸ hlt9).2
  cases o1 with
  | inl v =>
    obtain ⟨o, x', f', hQ, hle2, hw2⟩ := hk
    refine ⟨o, x', f', hQ, gle_tr hle hle2, ?_⟩
    intro p e R s m args below meth c A H locs cells slots ls ad C hP hS hl hc hs T9 hT X
    have a1 := hle.2.1
    have a2 := hle.2.2
    have b1 := hle2.2.1
    have b2 := hle2.2.2
    rcases hrun _ x1 f1 hle hw1 p e R s m args below meth c A H locs cells slots ls ad C hP hS hl (by omega) (by omega) T9 hT X with ⟨v', st₀, t, T', L, h0, X', hL, e1, e2, ⟨ad1, hex, ⟨v2, ev1, ev2⟩, hP1, hF⟩, stp⟩ | ⟨q, st₀, t, T', L, X0, ce, h0, X', hL, e1, e2, ⟨ad1, hex, hn, -⟩, -⟩
    · cases ev1
      cases ev2
      have hin := gA_in (sz := H.size) hP (fun q hq => C.2.2.2.2 q (Nat.le_trans hS.1 hq))
      obtain ⟨k1, k2, k3⟩ := vx_keep h0 e1 hS (fun q _ h => hin q h) hin hL hF
      have hP2 : gP E x1 f1 ad1 A T'.heap := by rw [e1]; exact gP_w hP1 hin
      have hl2 : lv_has ls y.2.2.1 (glc ad1 lv) := by rw [glc_live hex hlv]; exact hl
      have hw3 := hw2 p e R s m args below meth c A T'.heap (locs ++ L) (cells + (f1.2.2.1 - f.2.2.1)) (slots + (f1.2.2.2 - f.2.2.2)) ls ad1 C hP2 k3 hl2 (by omega) (by omega)
      rw [List.map_append, gst_live hex hrs] at hw3
      have hv : (v.toList).map (gcv ad1) = (v.map (gcv ad1)).toList := by cases v <;> rfl
      rw [hv] at hw3
      rw [show cells + (f1.2.2.1 - f.2.2.1) + (f'.2.2.1 - f1.2.2.1) = cells + (f'.2.2.1 - f.2.2.1) by omega, show slots + (f1.2.2.2 - f.2.2.2) + (f'.2.2.2 - f1.2.2.2) = slots + (f'.2.2.2 - f.2.2.2) by omega] at hw3
      obtain ⟨t2, s1, s2⟩ := hw3 T' rfl X'
      refine ⟨t2, stp t2 s1, vx_MQ_mono s2 (fun _ _ _ _ q => ?_) (fun _ _ _ q => ?_)⟩
      · obtain ⟨ad2, g1, g2⟩ := q; exact ⟨ad2, gex_tr hle hex g1, g2⟩
      · obtain ⟨ad2, g1, g2⟩ := q; exact ⟨ad2, gex_tr hle hex g1, g2⟩
    · cases hn
  | inr X1 =>
    refine ⟨.inr X1, x1, f1, hk, hle, ?_⟩
    intro p e R s m args below meth c A H locs cells slots ls ad C hP hS hl hc hs T9 hT X
    rcases hrun _ x1 f1 hle hw1 p e R s m args below meth c A H locs cells slots ls ad C hP hS hl hc hs T9 hT X with ⟨v', st₀, t, T', L, h0, X', hL, e1, e2, ⟨ad1, hex, ⟨v2, ev1, -⟩, -⟩, -⟩ | ⟨q, st₀, t, T', L, X0, ce, h0, X', hL, e1, e2, ⟨ad1, hex, hn, hP1, hF⟩, hce, hcv, hcl, stp⟩
    · cases ev1
    · cases hn
      have hin := gA_in (sz := H.size) hP (fun q hq => C.2.2.2.2 q (Nat.le_trans hS.1 hq))
      obtain ⟨k1, k2, k3⟩ := vx_keep h0 e1 hS (fun q _ h => hin q h) hin hL hF
      have hP2 : gP E x1 f1 ad1 A T'.heap := by rw [e1]; exact gP_w hP1 hin
      have hw3 := vx_out (p := p) (l := E.1) (e := e) (R := R) (m := m) (args := args) (below := below) (c := c) (cells := cells + (f1.2.2.1 - f.2.2.1)) (slots := slots + (f1.2.2.2 - f.2.2.2)) (free := A) (Qc := gQc E A f ad (.inr X1) x1 f1) (XC := gXC E A f ad (.inr X1) x1 f1) (ls := ls) (rest := rest.map (gcv ad)) (pc := pc) (mc := cells + (f1.2.2.1 - f.2.2.1)) (ms := slots + (f1.2.2.2 - f.2.2.2)) (fun z hz => hno z (by rw [← C.2.1.2.2.1]; exact hz)) C.2.1.2.1 (H := T'.heap) (by rw [e1]; exact hce) hcv hcl (fun t ht _ => ⟨ad1, hex, rfl, by rw [ht]; exact hP2, k3.F ht⟩) k3.2.2 (Nat.le_refl _) (Nat.le_refl _)
      obtain ⟨t2, s1, s2⟩ := hw3 T' rfl X'
      exact ⟨t2, stp.trans s1, s2⟩
theorem gst_in {ad : Nat → Nat} {A : Nat → Prop} {H : Heap} {locs : List Loc} {p : Program} {R : Room} {s U : State} {m : MethodId} {args : Array Value} {meth : Method} {c : Code} (C : gC E d y p R s m args meth c A) (hP : gP E x f ad A H) (hS : va_S A s.heap H locs) (hU : U.heap = H) (hW : s.WarmedH U.vm) : gst E x f ad H.size U := by
  subst hU
  exact ⟨rfl, gP_w hP (fun _ _ => trivial), va_K.moved hW.alike C.2.2.2.1.1, ev_Z_warm hW (ev_Z_down C.2.2.2.1.2.2.1 hS (gA_in hP (fun q hq => C.2.2.2.2 q (Nat.le_trans hS.1 hq)))), ev_warm hW C.2.2.2.1.2.1⟩
theorem T_callV {z : gy} {c ci idx n : Nat} {sl : List Bool} (As rest : List gv) (d1 : Nat) (hst : st = As.reverse ++ vr c :: rest) (hd : decode y.2.1 pc = .ok (.invokevirtual idx, 3)) (hM : gMv y.1.cls idx z n) (hn : As.length = n) (hK : E.2.2.2.1 c = .inl (ci, sl)) (hcl : (vwCl[ci]?).map (fun r => r.1) = some z.1.cls) (hc : c ∈ f.2.1) (hd1 : d1 + 1 ≤ d)
    (hfit : gsz (vr c :: As) ≤ z.2.2.1) (hcat : gsz rest ≤ 8) (hok : gok f.2.1 lv rest = true) (hno : ∀ z ∈ tableOf y.2.2.2.2, covers z pc = false) (k : T E d1 z 0 (glv 0 (vr c :: As)) [] x f (gthen E d y (pc + 3) lv rest Q)) : T E d y pc lv st x f Q := by
  obtain ⟨⟨m1, m2, m3, m4, m5⟩, m6, m7, m8⟩ := hM
  refine T_run (z := z) (d1 := d1) (As := vr c :: As) (rest := rest) hno hok ?_ k
  intro o x1 f1 hle hw p e R s m args below meth c0 A H locs cells slots ls ad C hP hS hl hc1 hs1
  obtain ⟨i, hi0, hi⟩ := gwl_at (E := E) (x := x) (ad := ad) hc
  rw [gce_obj hK] at hi
  have hr9 : ∃ r : vw_C, vwCl[ci]? = some r ∧ r.1 = z.1.cls := by
    cases h9 : vwCl[ci]? with
    | none => rw [h9] at hcl; cases hcl
    | some r => rw [h9] at hcl; exact ⟨r, rfl, Option.some.inj hcl⟩
  obtain ⟨r, hr1, hr2⟩ := hr9
  have hrec := va_recv C.2.2.2.1.1 hP.1.1 hr1 hi
  rw [hr2] at hrec
  have hG : GoodIn W0 (wsV y.1.cls idx z.1.cls z.1 (gws z)) := by
    intro w hw
    rcases List.mem_append.mp hw with h | h
    · refine W0_good w ?_
      simp only [List.mem_cons, List.not_mem_nil, or_false] at h
      rcases h with rfl | rfl | rfl | rfl
      · exact m1
      · exact m2
      · exact m3
      · exact m4
    · exact gwsz m5 w h
  have hroom : 8 + (z.2.2.1 + 11) + 41 * d1 ≤ R.locals := by
    have hq := C.2.2.1.2
    omega
  have hstk : st.map (gcv ad) = (As.map (gcv ad)).reverse ++ Value.ref (ad c) :: rest.map (gcv ad) := by
    rw [hst, List.map_append, List.map_reverse]
    rfl
  cases hz : z.2.2.2.2 with
  | nil =>
    exact vx_runV (As := As.map (gcv ad)) (C := z.1.cls) (b := ad c) (Pc := va_Pc ((vr c :: As).map (gcv ad)) (gst E x f ad H.size)) ⟨C.1.1, C.1.2.1, C.1.2.2.1, C.1.2.2.2.1, C.1.2.2.2.2⟩ (gM_of C.2.2.2.1.2.2.2 m7 hfit hw ad H.size)
      (cwV (bytes := z.2.1) (maxL := z.2.2.1) (ret := z.2.2.2.1) (ws' := W0) n C.1.2.2.2.2 hG (by rw [gws, gcw, hz]) rfl rfl ⟨rfl, m6⟩ ⟨Nat.le_trans hd1 C.2.2.1.1, hroom⟩) ⟨gst_blind, hrec, fun U hU hW => ⟨rfl, gst_in C hP hS hU hW⟩⟩ rfl (by rw [List.length_map]; exact hn) hl.1 hstk (lv_room (by rw [gsz_c]; exact hcat)) hd ⟨hc1, hs1⟩
  | cons a9 b9 =>
    exact vx_runVX (hh := a9 :: b9) (As := As.map (gcv ad)) (C := z.1.cls) (b := ad c) (Pc := va_Pc ((vr c :: As).map (gcv ad)) (gst E x f ad H.size)) ⟨C.1.1, C.1.2.1, C.1.2.2.1, C.1.2.2.2.1, C.1.2.2.2.2⟩ (gM_of C.2.2.2.1.2.2.2 m7 hfit hw ad H.size)
      (vx_cwVW (bytes := z.2.1) (maxL := z.2.2.1) (ret := z.2.2.2.1) (hh := a9 :: b9) (ws' := W0) n C.1.2.2.2.2 hG (by rw [gws, gcw, hz]) rfl rfl ⟨rfl, m6⟩ ⟨Nat.le_trans hd1 C.2.2.1.1, hroom⟩) ⟨gst_blind, hrec, fun U hU hW => ⟨rfl, gst_in C hP hS hU hW⟩⟩ rfl (by rw [List.length_map]; exact hn) hl.1 hstk (lv_room (by rw [gsz_c]; exact hcat)) hd ⟨hc1, hs1⟩
theorem T_callS {z : gy} {idx n : Nat} (As rest : List gv) (d1 : Nat) (hst : st = As.reverse ++ rest) (hd : decode y.2.1 pc = .ok (.invokestatic idx, 3)) (hM : gMs y.1.cls idx z n) (hn : As.length = n) (hd1 : d1 + 1 ≤ d)
    (hfit : gsz As ≤ z.2.2.1) (hcat : gsz rest ≤ 8) (hok : gok f.2.1 lv rest = true) (hno : ∀ z ∈ tableOf y.2.2.2.2, covers z pc = false) (k : T E d1 z 0 (glv 0 As) [] x f (gthen E d y (pc + 3) lv rest Q)) : T E d y pc lv st x f Q := by
  obtain ⟨⟨m1, m2, m4, m5⟩, m6, m7, m8⟩ := hM
  refine T_run (z := z) (d1 := d1) (As := As) (rest := rest) hno hok ?_ k
  intro o x1 f1 hle hw p e R s m args below meth c0 A H locs cells slots ls ad C hP hS hl hc1 hs1
  have hroom : 8 + (z.2.2.1 + 11) + 41 * d1 ≤ R.locals := by
    have hq := C.2.2.1.2
    omega
  have hstk : st.map (gcv ad) = (As.map (gcv ad)).reverse ++ rest.map (gcv ad) := by
    rw [hst, List.map_append, List.map_reverse]
  cases hz : z.2.2.2.2 with
  | nil =>
    exact vx_runS (As := As.map (gcv ad)) (Pc := va_Pc (As.map (gcv ad)) (gst E x f ad H.size)) ⟨C.1.1, C.1.2.1, C.1.2.2.1, C.1.2.2.2.1, C.1.2.2.2.2⟩ (gM_of C.2.2.2.1.2.2.2 m7 hfit hw ad H.size)
      ⟨callB_of (bytes := z.2.1) (maxL := z.2.2.1) (ret := z.2.2.2.1) (ws' := W0) n C.1.2.2.2.2 (gwsz m5) (by rw [gws, gcw, hz]) rfl rfl (C.1.2.2.2.2 _ m4) (C.1.2.2.2.2 _ m1) m6 ⟨Nat.le_trans hd1 C.2.2.1.1, hroom⟩, C.1.2.2.2.2 _ m2⟩ ⟨gst_blind, fun U hU hW => ⟨rfl, gst_in C hP hS hU hW⟩⟩ rfl (by rw [List.length_map]; exact hn) hl.1 hstk (lv_room (by rw [gsz_c]; exact hcat)) hd ⟨hc1, hs1⟩
  | cons a9 b9 =>
    have hG : GoodIn W0 (va_wsS y.1.cls idx z.1 (gws z)) := by
      intro w hw
      rcases List.mem_append.mp hw with h | h
      · refine W0_good w ?_
        simp only [List.mem_cons, List.not_mem_nil, or_false] at h
        rcases h with rfl | rfl | rfl
        · exact m1
        · exact m2
        · exact m4
      · exact gwsz m5 w h
    exact vx_runSX (hh := a9 :: b9) (As := As.map (gcv ad)) (Pc := va_Pc (As.map (gcv ad)) (gst E x f ad H.size)) ⟨C.1.1, C.1.2.1, C.1.2.2.1, C.1.2.2.2.1, C.1.2.2.2.2⟩ (gM_of C.2.2.2.1.2.2.2 m7 hfit hw ad H.size)
      (vx_cwSW (bytes := z.2.1) (maxL := z.2.2.1) (ret := z.2.2.2.1) (hh := a9 :: b9) (ws' := W0) n C.1.2.2.2.2 hG (by rw [gws, gcw, hz]) rfl rfl m6 ⟨Nat.le_trans hd1 C.2.2.1.1, hroom⟩) ⟨gst_blind, fun U hU hW => ⟨rfl, gst_in C hP hS hU hW⟩⟩ rfl (by rw [List.length_map]; exact hn) hl.1 hstk (lv_room (by rw [gsz_c]; exact hcat)) hd ⟨hc1, hs1⟩
end GRC
