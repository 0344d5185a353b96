/-! the law's helpers: the class's world, and beside it the cell 299 (a long) -/
def wE (E : gE) : gE := (E.1, E.2.1, E.2.2.1, fun c => if c = 299 then .inr (.long, 1) else E.2.2.2.1 c, E.2.2.2.2)
theorem wE_k {E : gE} {c : Nat} (h : ¬ c = 299) : (wE E).2.2.2.1 c = E.2.2.2.1 c := if_neg h
theorem wE_9 {E : gE} : (wE E).2.2.2.1 299 = .inr (.long, 1) := by
  show (if (299 : Nat) = 299 then (.inr (.long, 1) : gk) else E.2.2.2.1 299) = _
  exact if_pos rfl
def fo (f : gf) : gf := (f.1, f.2.1 ++ [299], f.2.2)
def fO (f : gf) : gf := (f.1, [299], f.2.2)
/-- two worlds apart -/
def gdis (f1 : gf) (ad1 : Nat → Nat) (f2 : gf) (ad2 : Nat → Nat) : Prop := ∀ c ∈ f1.2.1, ∀ c' ∈ f2.2.1, ad1 c ≠ ad2 c'
theorem gwl_in {E : gE} {x : gd} {f : gf} {ad : Nat → Nat} {k : Nat} {q : Nat × va_E} (h : (gwl E x f ad)[k]? = some q) : ∃ c, f.2.1[k]? = some c ∧ q = (ad c, gce E x f ad c) := by
  rw [gwl, List.getElem?_map] at h
  cases hc : f.2.1[k]? with
  | none => rw [hc] at h; cases h
  | some c => rw [hc] at h; cases h; exact ⟨c, rfl, rfl⟩
/-- behind a call: the other world stands, and stays apart -/
theorem keep2 {E1 E2 : gE} {x2 y1 : gd} {f1 f2 g1 : gf} {ad1 ad2 b1 : Nat → Nat} {A : Nat → Prop} {H H2 : Heap} (hP2 : gP E2 x2 f2 ad2 A H) (hd : gdis f1 ad1 f2 ad2) (hk : ∀ q : Nat, q < H.size → ¬ gA f1 ad1 H.size q → H2[q]? = H[q]?) (hP1 : gP E1 y1 g1 b1 (gA f1 ad1 H.size) H2) : gP E2 x2 f2 ad2 A H2 ∧ gdis g1 b1 f2 ad2 := by
  have lt : ∀ c ∈ f2.2.1, ad2 c < H.size := fun c hc => by
    obtain ⟨i, -, hi⟩ := gwl_at (E := E2) (x := x2) (ad := ad2) hc
    exact (hP2.1.1 i _ hi).lt
  refine ⟨⟨⟨hP2.1.1.kept (fun k q hq => ?_), hP2.1.2⟩, hP2.2⟩, fun c hc c' hc' e => ?_⟩
  · obtain ⟨c, hc, rfl⟩ := gwl_in hq
    have hc := List.mem_of_getElem? hc
    refine hk _ (lt c hc) (fun z => ?_)
    rcases z with ⟨c1, h1, e1⟩ | z
    · exact hd c1 h1 c hc e1
    · have := lt c hc
      omega
  · obtain ⟨i, -, hi⟩ := gwl_at (E := E1) (x := y1) (ad := b1) hc
    have hA := hP1.1.2.2 i _ hi
    have l2 := lt c' hc'
    rcases hA with ⟨c1, h1, e1⟩ | z
    · exact hd c1 h1 c' hc' (e1.trans e)
    · have z : H.size ≤ b1 c := z
      omega
theorem gce_ag {E E' : gE} {x y : gd} {f g : gf} {ad bd : Nat → Nat} {c : Nat} (hk : E'.2.2.2.1 c = E.2.2.2.1 c) (ha : E'.2.2.1 = E.2.2.1) (h1 : y.1 c = x.1 c) (h2 : y.2 c = x.2 c) (hr : ∀ j, (g.1 c j).map bd = (f.1 c j).map ad) : gce E' y g bd c = gce E x f ad c := by
  unfold gce gfl gar
  rw [hk, ha, h1, h2]
  simp only [hr]
theorem gwl_ag {E E' : gE} {x y : gd} {f g : gf} {ad bd : Nat → Nat} (hL : g.2.1 = f.2.1) (hk : ∀ c ∈ f.2.1, E'.2.2.2.1 c = E.2.2.2.1 c) (ha : E'.2.2.1 = E.2.2.1) (h1 : ∀ c ∈ f.2.1, y.1 c = x.1 c) (h2 : ∀ c ∈ f.2.1, y.2 c = x.2 c) (hd : ∀ c ∈ f.2.1, bd c = ad c) (hr : ∀ c ∈ f.2.1, ∀ j, (g.1 c j).map bd = (f.1 c j).map ad) : gwl E' y g bd = gwl E x f ad := by
  unfold gwl
  rw [hL]
  apply List.map_congr_left
  intro c hc
  rw [hd c hc, gce_ag (hk c hc) ha (h1 c hc) (h2 c hc) (hr c hc)]
/-- the two parts of it -/
theorem fo_sp {E : gE} {x : gd} {f : gf} {ad : Nat → Nat} {A : Nat → Prop} {H : Heap} (hn : 299 ∉ f.2.1) (h : gP (wE E) x (fo f) ad A H) : gP E x f ad A H ∧ gP (wE E) x (fO f) ad A H ∧ gdis f ad (fO f) ad := by
  obtain ⟨⟨hP, hD⟩, hg⟩ := h
  have e1 : gwl (wE E) x (fo f) ad = gwl (wE E) x f ad ++ gwl (wE E) x (fO f) ad := by
    unfold gwl
    show (f.2.1 ++ [299]).map _ = _
    rw [List.map_append]; rfl
  have e2 : gwl (wE E) x f ad = gwl E x f ad := gwl_ag rfl (fun c hc => wE_k (fun e : c = 299 => hn (e ▸ hc))) rfl (fun _ _ => rfl) (fun _ _ => rfl) (fun _ _ => rfl) (fun _ _ _ => rfl)
  rw [e1, e2] at hP hD
  have l1 : ∀ (k : Nat) (q : Nat × va_E), (gwl E x f ad)[k]? = some q → (gwl E x f ad ++ gwl (wE E) x (fO f) ad)[k]? = some q := fun k q hk => by
    rw [List.getElem?_append_left (List.getElem?_eq_some_iff.mp hk).1]; exact hk
  have l2 : ∀ (k : Nat) (q : Nat × va_E), (gwl (wE E) x (fO f) ad)[k]? = some q → (gwl E x f ad ++ gwl (wE E) x (fO f) ad)[(gwl E x f ad).length + k]? = some q := fun k q hk => by
    rw [List.getElem?_append_right (Nat.le_add_right _ _), Nat.add_sub_cancel_left]; exact hk
  refine ⟨⟨⟨fun k q hk => hP k q (l1 k q hk), ⟨fun i j p q hi hj e => hD.1 i j p q (l1 i p hi) (l1 j q hj) e, fun k q hk => hD.2 k q (l1 k q hk)⟩⟩, hg⟩, ⟨⟨fun k q hk => hP _ q (l2 k q hk), ⟨fun i j p q hi hj e => ?_, fun k q hk => hD.2 _ q (l2 k q hk)⟩⟩, hg⟩, fun c hc c' hc' e => ?_⟩
  · have := hD.1 _ _ p q (l2 i p hi) (l2 j q hj) e
    omega
  · obtain ⟨i, -, hi⟩ := gwl_at (E := E) (x := x) (ad := ad) hc
    obtain ⟨j, -, hj⟩ := gwl_at (E := wE E) (x := x) (f := fO f) (ad := ad) hc'
    have := hD.1 _ _ _ _ (l1 i _ hi) (l2 j _ hj) e
    have := (List.getElem?_eq_some_iff.mp hi).1
    omega
theorem fo_gl {E : gE} {x : gd} {f : gf} {ad : Nat → Nat} {A : Nat → Prop} {H : Heap} (hn : 299 ∉ f.2.1) (h1 : gP E x f ad A H) (h2 : gP (wE E) x (fO f) ad A H) (hd : gdis f ad (fO f) ad) : gP (wE E) x (fo f) ad A H := by
  have e1 : gwl (wE E) x (fo f) ad = gwl (wE E) x f ad ++ gwl (wE E) x (fO f) ad := by
    unfold gwl
    show (f.2.1 ++ [299]).map _ = _
    rw [List.map_append]; rfl
  have e2 : gwl (wE E) x f ad = gwl E x f ad := gwl_ag rfl (fun c hc => wE_k (fun e : c = 299 => hn (e ▸ hc))) rfl (fun _ _ => rfl) (fun _ _ => rfl) (fun _ _ => rfl) (fun _ _ _ => rfl)
  refine ⟨⟨?_, ?_⟩, h1.2⟩
  · rw [e1, e2]; exact h1.1.1.app h2.1.1
  · rw [e1, e2]
    refine h1.1.2.app h2.1.2 (fun i j p q hi hj e => ?_)
    obtain ⟨c, hc, rfl⟩ := gwl_in hi
    obtain ⟨c', hc', rfl⟩ := gwl_in hj
    exact hd c (List.mem_of_getElem? hc) c' (List.mem_of_getElem? hc') e
/-- what a call leaves of the cell 299 -/
def xo (x x1 : gd) : gd := (x1.1, fun c => if c = 299 then x.2 299 else x1.2 c)
def ao (ad ad1 : Nat → Nat) : Nat → Nat := fun c => if c = 299 then ad 299 else ad1 c
theorem fo_mv {E : gE} {x x1 : gd} {f f1 : gf} {ad ad1 : Nat → Nat} {A A1 : Nat → Prop} {H : Heap} (hn1 : 299 ∉ f1.2.1) (hr1 : NR f1 299) (h1 : gP E x1 f1 ad1 A1 H) (hA : ∀ q, A1 q → A q) (h2 : gP (wE E) x (fO f) ad A H) (hd : gdis f1 ad1 (fO f) ad) : gP (wE E) (xo x x1) (fo f1) (ao ad ad1) A H := by
  have ne : ∀ c ∈ f1.2.1, ¬ c = 299 := fun c hc e => hn1 (e ▸ hc)
  have e1 : gwl E (xo x x1) f1 (ao ad ad1) = gwl E x1 f1 ad1 := gwl_ag rfl (fun _ _ => rfl) rfl (fun _ _ => rfl) (fun c hc => if_neg (ne c hc)) (fun c hc => if_neg (ne c hc)) (fun c hc j => by
    cases hr : f1.1 c j with
    | none => rfl
    | some b =>
      show some (ao ad ad1 b) = some (ad1 b)
      rw [show ao ad ad1 b = ad1 b from if_neg (fun e => hr1 c hc j (by rw [hr, e]))])
  have e2 : gwl (wE E) (xo x x1) (fO f1) (ao ad ad1) = gwl (wE E) x (fO f) ad := by
    show [(ao ad ad1 299, gce (wE E) (xo x x1) (fO f1) (ao ad ad1) 299)] = [(ad 299, gce (wE E) x (fO f) ad 299)]
    rw [show ao ad ad1 299 = ad 299 from if_pos rfl, gce_arr (n := 1) (ty := .long) wE_9, gce_arr (n := 1) (ty := .long) wE_9]
    show [(ad 299, Sum.inl (_, 1, Sum.inr (Sum.inl ((xo x x1).2 299))))] = [(ad 299, Sum.inl (_, 1, Sum.inr (Sum.inl (x.2 299))))]
    rw [show (xo x x1).2 299 = x.2 299 by show (if (299 : Nat) = 299 then x.2 299 else x1.2 299) = _; exact if_pos rfl]
  have hg : gad E (ao ad ad1) := fun i hi => by
    show (if 900 + i = 299 then ad 299 else ad1 (900 + i)) = _
    rw [if_neg (by omega)]; exact h1.2 i hi
  refine fo_gl hn1 ⟨⟨by rw [e1]; exact h1.1.1, by rw [e1]; exact ⟨h1.1.2.1, fun k q hk => hA _ (h1.1.2.2 k q hk)⟩⟩, hg⟩ ⟨⟨by rw [e2]; exact h2.1.1, by rw [e2]; exact h2.1.2⟩, hg⟩ (fun c hc c' hc' e => ?_)
  have : c' = 299 := List.mem_singleton.mp hc'
  subst this
  rw [show ao ad ad1 c = ad1 c from if_neg (ne c hc), show ao ad ad1 299 = ad 299 from if_pos rfl] at e
  exact hd c hc 299 (List.mem_singleton.mpr rfl) e
/-- an exception finds its handler -/
def gCat (y : gy) (pc : Nat) (X : String) (e9 : ExceptionTableEntry) : Prop := (∃ pre suf, tableOf y.2.2.2.2 = pre ++ e9 :: suf ∧ ∀ z ∈ pre, z.catchType ≠ 0 ∧ ∃ nm, Cond.classLink y.1.cls z.catchType nm ∈ W0 ∧ (X, nm) ∈ ev_no) ∧ covers e9 pc = true ∧ e9.catchType ≠ 0 ∧ Cond.classLink y.1.cls e9.catchType X ∈ W0 ∧ Cond.castable X X ∈ ev_tab
def gHs (y : gy) (hpc i ln : Nat) : Prop := (∃ n3 : Fin 4, (n3 : Nat) = i ∧ ln = 1 ∧ decode y.2.1 hpc = .ok (.astore_n n3, 1)) ∨ (ln = 2 ∧ decode y.2.1 hpc = .ok (.astore i, 2))
def gtry (E : gE) (d : Nat) (y : gy) (pc : Nat) (lv : List (Nat × gv)) (rest : List gv) (Q : gr → gd → gf → Prop) (x : gd) (o : gr) (x1 : gd) (f1 : gf) : Prop := (299 ∉ f1.2.1 ∧ NR f1 299) ∧ match o with
  | .inl v => (∃ r : Int32, v = some (vi r)) ∧ T (wE E) d y (pc + 3) lv (v.toList ++ rest) (xo x x1) (fo f1) Q
  | .inr X => ∃ (e9 : ExceptionTableEntry) (i ln : Nat), gCat y pc X e9 ∧ gHs y e9.handlerPc i ln ∧ i < y.2.2.1 ∧ gst1 i lv = lv ∧ T (wE E) d y (e9.handlerPc + ln) lv [] (xo x x1) (fo f1) Q
section GTR
variable {E : gE} {d : Nat} {y : gy} {pc : Nat} {lv : List (Nat × gv)} {st : List gv} {x : gd} {f : gf} {Q : gr → gd → gf → Prop}
theorem T_tryF {z : gy} {c ci idx n : Nat} {sl : List Bool} (As rest : List gv) (d1 : Nat) (hst : st = As.reverse ++ vr c :: rest) (hd : decode y.2.1 pc = .ok (.invokevirtual idx, 3)) (hM : gMv y.1.cls idx z n) (hn : As.length = n) (hK : E.2.2.2.1 c = .inl (ci, sl)) (hcl : (vwCl[ci]?).map (fun r => r.1) = some z.1.cls) (hc : c ∈ f.2.1) (hd1 : d1 + 1 ≤ d)
    (hfit : gsz (vr c :: As) ≤ z.2.2.1) (hcat : gsz rest ≤ 8) (hok : gok (fo f).2.1 lv rest = true) (hz : z.2.2.2.2 = []) (hn9 : 299 ∉ f.2.1)
    (k : T E d1 z 0 (glv 0 (vr c :: As)) [] x f (gtry E d y pc lv rest Q x)) : T (wE E) d y pc lv st x (fo f) Q := by
  obtain ⟨⟨m1, m2, m3, m4, m5⟩, m6, m7, m8⟩ := hM
  obtain ⟨o1, x1, f1, ⟨⟨hn1, hr1⟩, hk⟩, hle, hw1⟩ := k
  have hlv : lv.all (fun q => gokv (fo f).2.1 q.2) = true := (Bool.and_eq_true _ _ ▸ hok).1
  have hrs : rest.all (gokv (fo f).2.1) = true := (Bool.and_eq_true _ _ ▸ hok).2
  have hlo : gle (fo f) (fo f1) := ⟨fun c hc => by
    rcases List.mem_append.mp hc with h | h
    · exact List.mem_append_left _ (hle.1 c h)
    · exact List.mem_append_right _ h, hle.2⟩
  have hrun : ∀ (p : Program) (e : Env) (R : Room) (s : State) (m : MethodId) (args : Array Value) (below : List Frame) (meth : Method) (c0 : Code) (A : Nat → Prop) (H : Heap) (locs : List Loc) (cells slots : Nat) (ls : Array Slot) (ad : Nat → Nat), gC (wE E) d y p R s m args meth c0 A → gP E x f ad A H → va_S A s.heap H locs → lv_has ls y.2.2.1 (glc ad lv) → cells + (f1.2.2.1 - f.2.2.1) ≤ R.cells → slots + (f1.2.2.2 - f.2.2.2) ≤ R.slots →
      vx_Run p E.1 e R s m args below meth c0 H locs cells slots (f1.2.2.1 - f.2.2.1) (f1.2.2.2 - f.2.2.2) (F0 m pc ls (st.map (gcv ad))) (rest.map (gcv ad)) (gQc E (gA f ad H.size) f ad o1 x1 f1 ((vr c :: As).map (gcv ad)).toArray) (gXC E (gA f ad H.size) f ad o1 x1 f1) (gA f ad H.size) := by
    intro p e R s m args below meth c0 A H locs cells slots ls ad C0 hP hS hl hc1 hs1
    have C : gC E d y p R s m args meth c0 A := C0
    obtain ⟨i, hi0, hi⟩ := gwl_at (E := E) (x := x) (ad := ad) hc
    rw [gce_obj hK] at hi
    have hr9 : ∃ r : vw_C, vwCl[ci]? = some r ∧ r.1 = z.1.cls := by
      cases h9 : vwCl[ci]? with
      | none => rw [h9] at hcl; cases hcl
      | some r => rw [h9] at hcl; exact ⟨r, rfl, Option.some.inj hcl⟩
    obtain ⟨r, hr1, hr2⟩ := hr9
    have hrec := va_recv C.2.2.2.1.1 hP.1.1 hr1 hi
    rw [hr2] at hrec
    have hG : GoodIn W0 (wsV y.1.cls idx z.1.cls z.1 (gws z)) := by
      intro w hw
      rcases List.mem_append.mp hw with h | h
      · refine W0_good w ?_
        simp only [List.mem_cons, List.not_mem_nil, or_false] at h
        rcases h with rfl | rfl | rfl | rfl
        · exact m1
        · exact m2
        · exact m3
        · exact m4
      · exact gwsz m5 w h
    have hroom : 8 + (z.2.2.1 + 11) + 41 * d1 ≤ R.locals := by
      have hq := C.2.2.1.2
      omega
    have hstk : st.map (gcv ad) = (As.map (gcv ad)).reverse ++ Value.ref (ad c) :: rest.map (gcv ad) := by
      rw [hst, List.map_append, List.map_reverse]
      rfl
    exact vx_runV (As := As.map (gcv ad)) (C := z.1.cls) (b := ad c) (Pc := va_Pc ((vr c :: As).map (gcv ad)) (gst E x f ad H.size)) ⟨C.1.1, C.1.2.1, C.1.2.2.1, C.1.2.2.2.1, C.1.2.2.2.2⟩ (gM_of C.2.2.2.1.2.2.2 m7 hfit hw1 ad H.size)
      (cwV (bytes := z.2.1) (maxL := z.2.2.1) (ret := z.2.2.2.1) (ws' := W0) n C.1.2.2.2.2 hG (by rw [gws, gcw, hz]) rfl rfl ⟨rfl, m6⟩ ⟨Nat.le_trans hd1 C.2.2.1.1, hroom⟩) ⟨gst_blind, hrec, fun U hU hW => ⟨rfl, gst_in C hP hS hU hW⟩⟩ rfl (by rw [List.length_map]; exact hn) hl.1 hstk (lv_room (by rw [gsz_c]; exact hcat)) hd ⟨hc1, hs1⟩
  have exo : ∀ {ad ad1 : Nat → Nat}, gex f ad ad1 → gex (fo f) ad (ao ad ad1) := fun {ad ad1} hex => ⟨fun c hc => by
    rcases List.mem_append.mp hc with h | h
    · show (if c = 299 then ad 299 else ad1 c) = ad c
      rw [if_neg (fun e : c = 299 => hn9 (e ▸ h))]; exact hex.1 c h
    · rw [List.mem_singleton.mp h]; exact if_pos rfl, fun i hi => by
    show (if 900 + i = 299 then ad 299 else ad1 (900 + i)) = _
    rw [if_neg (by omega)]; exact hex.2 i hi⟩
  cases o1 with
  | inl v =>
    obtain ⟨⟨r9, hr9⟩, o, x', f', hQ, hle2, hw2⟩ := hk
    refine ⟨o, x', f', hQ, gle_tr hlo hle2, ?_⟩
    intro p e R s m args below meth c0 A H locs cells slots ls ad C hPo hS hl hc hs T9 hT X
    obtain ⟨hP, hPO, hdis⟩ := fo_sp hn9 hPo
    have a1 := hle.2.1
    have a2 := hle.2.2
    have b1 : f1.2.2.1 ≤ f'.2.2.1 := hle2.2.1
    have b2 : f1.2.2.2 ≤ f'.2.2.2 := hle2.2.2
    have hc : cells + (f'.2.2.1 - f.2.2.1) ≤ R.cells := hc
    have hs : slots + (f'.2.2.2 - f.2.2.2) ≤ R.slots := hs
    rcases hrun p e R s m args below meth c0 A H locs cells slots ls ad C hP hS hl (by omega) (by omega) T9 hT X with ⟨v', st₀, t, T', L, h0, X', hL, e1, e2, ⟨ad1, hex, ⟨v2, ev1, ev2⟩, hP1, hF⟩, stp⟩ | ⟨q, st₀, t, T', L, X0, ce, h0, X', hL, e1, e2, ⟨ad1, hex, hn, -⟩, -⟩
    · cases ev1
      cases ev2
      have hin := gA_in (sz := H.size) hP (fun q hq => C.2.2.2.2 q (Nat.le_trans hS.1 hq))
      obtain ⟨k1, k2, k3⟩ := vx_keep h0 e1 hS (fun q _ h => hin q h) hin hL hF
      rw [← e1] at hP1
      obtain ⟨kp1, kp2⟩ := keep2 hPO hdis k2 hP1
      have hP2 : gP (wE E) (xo x x1) (fo f1) (ao ad ad1) A T'.heap := fo_mv hn1 hr1 hP1 hin kp1 kp2
      have hexo := exo hex
      have hl2 : lv_has ls y.2.2.1 (glc (ao ad ad1) lv) := by rw [glc_live hexo hlv]; exact hl
      have hw3 := hw2 p e R s m args below meth c0 A T'.heap (locs ++ L) (cells + (f1.2.2.1 - f.2.2.1)) (slots + (f1.2.2.2 - f.2.2.2)) ls (ao ad ad1) C hP2 k3 hl2 (by show _ + (f'.2.2.1 - f1.2.2.1) ≤ _; omega) (by show _ + (f'.2.2.2 - f1.2.2.2) ≤ _; omega)
      rw [List.map_append, gst_live hexo hrs] at hw3
      have hv : (v.toList).map (gcv (ao ad ad1)) = (v.map (gcv ad1)).toList := by rw [hr9]; rfl
      rw [hv] at hw3
      rw [show cells + (f1.2.2.1 - f.2.2.1) + (f'.2.2.1 - (fo f1).2.2.1) = cells + (f'.2.2.1 - (fo f).2.2.1) by show cells + (f1.2.2.1 - f.2.2.1) + (f'.2.2.1 - f1.2.2.1) = cells + (f'.2.2.1 - f.2.2.1); omega, show slots + (f1.2.2.2 - f.2.2.2) + (f'.2.2.2 - (fo f1).2.2.2) = slots + (f'.2.2.2 - (fo f).2.2.2) by show slots + (f1.2.2.2 - f.2.2.2) + (f'.2.2.2 - f1.2.2.2) = slots + (f'.2.2.2 - f.2.2.2); omega] at hw3
      obtain ⟨t2, s1, s2⟩ := hw3 T' rfl X'
      refine ⟨t2, stp t2 s1, vx_MQ_mono s2 (fun _ _ _ _ q => ?_) (fun _ _ _ q => ?_)⟩
      · obtain ⟨ad2, g1, g2⟩ := q; exact ⟨ad2, gex_tr hlo hexo g1, g2⟩
      · obtain ⟨ad2, g1, g2⟩ := q; exact ⟨ad2, gex_tr hlo hexo g1, g2⟩
    · cases hn
  | inr X1 =>
    obtain ⟨e9, i3, ln, ⟨⟨pre, suf, htab, hpass⟩, hcov, h0c, hlink, hcast⟩, hhs, hn3, h9, o, x', f', hQ, hle2, hw2⟩ := hk
    refine ⟨o, x', f', hQ, gle_tr hlo hle2, ?_⟩
    intro p e R s m args below meth c0 A H locs cells slots ls ad C hPo hS hl hc hs T9 hT X
    obtain ⟨hP, hPO, hdis⟩ := fo_sp hn9 hPo
    have a1 := hle.2.1
    have a2 := hle.2.2
    have b1 : f1.2.2.1 ≤ f'.2.2.1 := hle2.2.1
    have b2 : f1.2.2.2 ≤ f'.2.2.2 := hle2.2.2
    have hc : cells + (f'.2.2.1 - f.2.2.1) ≤ R.cells := hc
    have hs : slots + (f'.2.2.2 - f.2.2.2) ≤ R.slots := hs
    rcases hrun p e R s m args below meth c0 A H locs cells slots ls ad C hP hS hl (by omega) (by omega) T9 hT X with ⟨v', st₀, t, T', L, h0, X', hL, e1, e2, ⟨ad1, hex, ⟨v2, ev1, -⟩, -⟩, -⟩ | ⟨q, st₀, t, T', L, X0, ce, h00, X', hL, e1, e2, ⟨ad1, hex, hn, hP1, hF⟩, hce, hcv, hcl, stp⟩
    · cases ev1
    · cases hn
      have hin := gA_in (sz := H.size) hP (fun q hq => C.2.2.2.2 q (Nat.le_trans hS.1 hq))
      obtain ⟨k1, k2, k3⟩ := vx_keep h00 e1 hS (fun q _ h => hin q h) hin hL hF
      rw [← e1] at hP1
      obtain ⟨kp1, kp2⟩ := keep2 hPO hdis k2 hP1
      have hP2 : gP (wE E) (xo x x1) (fo f1) (ao ad ad1) A T'.heap := fo_mv hn1 hr1 hP1 hin kp1 kp2
      have hexo := exo hex
      have hl2 : lv_has ls y.2.2.1 (glc (ao ad ad1) lv) := by rw [glc_live hexo hlv]; exact hl
      have hw3 := fun (ls2 : Array Slot) (hl3 : lv_has ls2 y.2.2.1 (glc (ao ad ad1) lv)) => hw2 p e R s m args below meth c0 A T'.heap (locs ++ L) (cells + (f1.2.2.1 - f.2.2.1)) (slots + (f1.2.2.2 - f.2.2.2)) ls2 (ao ad ad1) C hP2 k3 hl3 (by show _ + (f'.2.2.1 - f1.2.2.1) ≤ _; omega) (by show _ + (f'.2.2.2 - f1.2.2.2) ≤ _; omega)
      rw [show cells + (f1.2.2.1 - f.2.2.1) + (f'.2.2.1 - (fo f1).2.2.1) = cells + (f'.2.2.1 - (fo f).2.2.1) by show cells + (f1.2.2.1 - f.2.2.1) + (f'.2.2.1 - f1.2.2.1) = cells + (f'.2.2.1 - f.2.2.1); omega, show slots + (f1.2.2.2 - f.2.2.2) + (f'.2.2.2 - (fo f1).2.2.2) = slots + (f'.2.2.2 - (fo f).2.2.2) by show slots + (f1.2.2.2 - f.2.2.2) + (f'.2.2.2 - f1.2.2.2) = slots + (f'.2.2.2 - f.2.2.2); omega] at hw3
      have hfl : (i3, Value.ref q) :: (glc (ao ad ad1) lv).filter (fun q => !(q.1 == i3) && !(q.1 + 1 == i3 && q.2.category == 2)) = (i3, Value.ref q) :: glc (ao ad ad1) lv := by
        have := gst1_c (ad := ao ad ad1) (i := i3) (v := vi 0) (lv := lv) rfl
        rw [h9] at this
        have h5 := (List.cons.inj this).2
        rw [h5]; rfl
      have hdrop : ∀ ls2, lv_has ls2 y.2.2.1 ((i3, Value.ref q) :: glc (ao ad ad1) lv) → lv_has ls2 y.2.2.1 (glc (ao ad ad1) lv) := fun ls2 hl3 => ⟨hl3.1, hl3.2.1, fun z hz => hl3.2.2 z (List.mem_cons_of_mem _ hz)⟩
      have hwh : W p E.1 e R s m args below meth c0 T'.heap (locs ++ L) (cells + (f1.2.2.1 - f.2.2.1)) (slots + (f1.2.2.2 - f.2.2.2)) (vx_MQ below (gQc (wE E) A (fo f1) (ao ad ad1) o x' f') (gXC (wE E) A (fo f1) (ao ad ad1) o x' f') args s (cells + (f'.2.2.1 - (fo f).2.2.1)) (slots + (f'.2.2.2 - (fo f).2.2.2)) A) (F0 m e9.handlerPc ls [.ref q]) := by
        rcases hhs with ⟨n3, hi3, rfl, hd2⟩ | ⟨rfl, hd2⟩
        · exact lv_astore_n (x := q) C.1.1 C.1.2.1 hd2 hi3 hl2 hn3 hfl (fun ls2 hl3 => hw3 ls2 (hdrop ls2 hl3))
        · exact lv_astore (x := q) C.1.1 C.1.2.1 hd2 hl2 hn3 hfl (fun ls2 hl3 => hw3 ls2 (hdrop ls2 hl3))
      have hcat9 := vx_catch (own := y.1.cls) (name := X1) (E := X1) (ce := ce) (q := q) (pc := pc) (ls := ls) (rest := rest.map (gcv ad)) C.1.2.2.2.1 pre e9 suf (by rw [C.2.1.2.2.1, htab]) (fun z hz => Or.inr (by obtain ⟨q1, nm, q2, q3⟩ := hpass z hz; exact ⟨q1, nm, C.1.2.2.2.2 _ q2, C.2.2.2.1.2.1.2.2.1 (X1, nm) q3⟩)) hcov h0c (C.1.2.2.2.2 _ hlink) (show (Cond.castable X1 X1).before args s = true from C.2.2.2.1.2.1.2.1 (.castable X1 X1) hcast) (by rw [e1]; exact hce) hcv hcl hwh
      obtain ⟨t2, s1, s2⟩ := hcat9 T' rfl X'
      refine ⟨t2, stp.trans s1, vx_MQ_mono s2 (fun _ _ _ _ q => ?_) (fun _ _ _ q => ?_)⟩
      · obtain ⟨ad2, g1, g2⟩ := q; exact ⟨ad2, gex_tr hlo hexo g1, g2⟩
      · obtain ⟨ad2, g1, g2⟩ := q; exact ⟨ad2, gex_tr hlo hexo g1, g2⟩
end GTR
theorem n299 {q : kP} (hu : kU q) : 299 ∉ q.L := fun h => kmd_no (q := q) (c := 299) (by decide) (fun _ => by decide) (fun _ => by decide) (fun _ => by decide) (fun _ => by decide) (by omega) (by omega) (by omega) (hu.2.1 299 h)
/-- how much a call makes: what its shape says, and an exception -/
def kst (q q1 : kP) : Prop := q1.ce + wC q ≤ q.ce + wC q1 + 1 ∧ q1.sl + wS q ≤ q.sl + wS q1 + 6
theorem kst_rf (q : kP) : kst q q := ⟨by omega, by omega⟩
theorem kst_th (q : kP) : kst q (kTh q) := ⟨by show q.ce + 1 + wC q ≤ q.ce + wC q + 1; omega, by show q.sl + 6 + wS q ≤ q.sl + wS q + 6; omega⟩
theorem kst_le {q q1 : kP} (h : kle q q1) : kst q q1 := ⟨by have := h.2.2.2.1; omega, by have := h.2.2.2.2; omega⟩
theorem HOI_1 {x y : gd} {q : kP} (e : y.1 = x.1) (hu : kU q) (h : HOI x q) : HOI y q := HOI_mk (kle_rf q) hu (fun c k _ => by rw [e]) h
def wq (q : kP) (P : Int32 → gd → kP → Prop) : gr → gd → gf → Prop := fun o x f => ∃ (r : Int32) (q1 : kP), o = .inl (some (vi r)) ∧ f = fo (kf q1) ∧ kU q1 ∧ kst q q1 ∧ HOI x q1 ∧ P r x q1
def okk (x : gd) (n : Int32) : Prop := 1 ≤ n.toInt ∧ n.toInt ≤ 8 ∧ (x.1 20 1).toInt + n.toInt ≤ 3000
