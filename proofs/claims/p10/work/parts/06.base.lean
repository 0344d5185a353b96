/-! ===== the machine over numbered cells: T d y pc lv st x f Q says that the method y, at pc, comes to an end of which Q holds ===== -/
noncomputable def W0 : List Cond := lw_tbl.filter goodWord
theorem W0_in {w : Cond} (h : w ∈ lw_tbl) (hg : goodWord w = true) : w ∈ W0 := List.mem_filter.mpr ⟨h, hg⟩
theorem W0_good : GoodIn W0 W0 := fun w h => ⟨h, good_of_word (List.mem_filter.mp h).2⟩
/-- values: an int, a long, a cell by its number, null -/
abbrev gv : Type := Int32 ⊕ (Int64 ⊕ Option Nat)
abbrev vi (x : Int32) : gv := .inl x
abbrev vl (x : Int64) : gv := .inr (.inl x)
abbrev vr (c : Nat) : gv := .inr (.inr (some c))
abbrev vn : gv := .inr (.inr none)
def gcv (ad : Nat → Nat) (v : gv) : Value := match v with
  | .inl x => .int x
  | .inr (.inl x) => .long x
  | .inr (.inr none) => .null
  | .inr (.inr (some c)) => .ref (ad c)
/-- kinds of cells: an object of a class (by its place in vwCl; which slots are references), an array -/
abbrev gk : Type := (Nat × List Bool) ⊕ (FieldType × Nat)
/-- data: ints, longs of each cell -/
abbrev gd : Type := (Nat → Nat → Int32) × (Nat → Nat → Int64)
/-- shape: references, live cells, how many cells and slots were made -/
abbrev gf : Type := (Nat → Nat → Option Nat) × List Nat × Nat × Nat
/-- what stays: the launch, classes, array classes, kinds, where the lists of words lie (cells 900, 901; their bytes: 902, 903; 904 what a String's index is told by) -/
abbrev gE : Type := Launch × va_G × (FieldType → ClassId) × (Nat → gk) × (Nat → Nat)
/-- a method: name, code, locals, answer's type, handlers -/
abbrev gy : Type := MethodName × ByteArray × Nat × Option FieldType × List (Nat × Nat × Nat × Nat)
/-- an end: an answer, or an exception's class -/
abbrev gr : Type := Option gv ⊕ String
def gtl : List FieldType := [.int, .byte, .boolean, .long, .object "ScheduleHouse$Trial", .array .int]
def gtys (E : gE) : List (ClassId × FieldType) := gtl.map (fun ty => (E.2.2.1 ty, ty))
def gar (x : gd) (f : gf) (ad : Nat → Nat) (c : Nat) (ty : FieldType) : (Nat → Int32) ⊕ (Nat → Int64) ⊕ (Nat → UInt32) ⊕ (Nat → UInt64) ⊕ (Nat → Option Nat) := match ty with
  | .long => .inr (.inl (x.2 c))
  | .array _ => .inr (.inr (.inr (.inr (fun j => (f.1 c j).map ad))))
  | .object _ => .inr (.inr (.inr (.inr (fun j => (f.1 c j).map ad))))
  | _ => .inl (x.1 c)
def gfl (x : gd) (f : gf) (ad : Nat → Nat) (c : Nat) (sl : List Bool) : List Value := (List.range sl.length).map (fun j => if sl.getD j false = true then va_rf ((f.1 c j).map ad) else .int (x.1 c j))
def gce (E : gE) (x : gd) (f : gf) (ad : Nat → Nat) (c : Nat) : va_E := match E.2.2.2.1 c with
  | .inl o => .inr (o.1, gfl x f ad c o.2)
  | .inr a => .inl (E.2.2.1 a.1, a.2, gar x f ad c a.1)
def gwl (E : gE) (x : gd) (f : gf) (ad : Nat → Nat) : va_W := f.2.1.map (fun c => (ad c, gce E x f ad c))
def gad (E : gE) (ad : Nat → Nat) : Prop := ∀ i, i < 5 → ad (900 + i) = E.2.2.2.2 i
def gP (E : gE) (x : gd) (f : gf) (ad : Nat → Nat) (A : Nat → Prop) (H : Heap) : Prop := (va_P E.2.1 vwCl (gwl E x f ad) H ∧ va_D A (gwl E x f ad)) ∧ gad E ad
def gcw (y : gy) : Cond := match y.2.2.2.2 with
  | [] => .code y.1 y.2.1 y.2.2.1 y.2.2.2.1
  | h :: t => .codeWith y.1 y.2.1 y.2.2.1 y.2.2.2.1 (h :: t)
noncomputable def gws (y : gy) : List Cond := gcw y :: W0
def gC (E : gE) (d : Nat) (y : gy) (p : Program) (R : Room) (s : State) (m : MethodId) (args : Array Value) (meth : Method) (c : Code) (A : Nat → Prop) : Prop :=
  (p.tables.exec = Jvm.exec ∧ c.code = y.2.1 ∧ c.maxLocals = y.2.2.1 ∧ s.vm.findClass y.1.cls = some m.cls ∧ (∀ w ∈ W0, w.before args s = true)) ∧ (meth.sig.returnType = y.2.2.2.1 ∧ meth.locks = false ∧ c.exceptionTable.toList = tableOf y.2.2.2.2 ∧ meth.name = y.1.name) ∧ (d ≤ R.frames ∧ 41 * d ≤ R.locals) ∧ (va_K E.2.1 vwCl (gtys E) s ∧ ev s ∧ ev_Z E.2.2.2.2 A s s.heap ∧ E.1.stackTraces = false) ∧ ∀ q : Nat, s.heap.size ≤ q → A q
/-- addresses go on: those of live cells, and of the lists of words, stay -/
def gex (f : gf) (ad ad' : Nat → Nat) : Prop := (∀ c ∈ f.2.1, ad' c = ad c) ∧ ∀ i, i < 5 → ad' (900 + i) = ad (900 + i)
theorem gex_rf (f : gf) (ad : Nat → Nat) : gex f ad ad := ⟨fun _ _ => rfl, fun _ _ => rfl⟩
def gQc (E : gE) (A : Nat → Prop) (f0 : gf) (ad0 : Nat → Nat) (o : gr) (x : gd) (f : gf) : Array Value → State → Outcome → State → Prop := fun _ st oc t =>
  ∃ ad : Nat → Nat, gex f0 ad0 ad ∧ (∃ v : Option gv, o = .inl v ∧ oc = .returned (v.map (gcv ad))) ∧ gP E x f ad A t.heap ∧ va_F A st t
def gXC (E : gE) (A : Nat → Prop) (f0 : gf) (ad0 : Nat → Nat) (o : gr) (x : gd) (f : gf) : String → State → State → Prop := fun X st t => ∃ ad : Nat → Nat, gex f0 ad0 ad ∧ o = .inr X ∧ gP E x f ad A t.heap ∧ va_F A st t
def glc (ad : Nat → Nat) (lv : List (Nat × gv)) : List (Nat × Value) := lv.map (fun q => (q.1, gcv ad q.2))
/-- the method, at pc, runs to the end o with the memory x', f' -/
def gW (E : gE) (d : Nat) (y : gy) (pc : Nat) (lv : List (Nat × gv)) (st : List gv) (x : gd) (f : gf) (o : gr) (x' : gd) (f' : gf) : Prop :=
  ∀ (p : Program) (e : Env) (R : Room) (s : State) (m : MethodId) (args : Array Value) (below : List Frame) (meth : Method) (c : Code) (A : Nat → Prop) (H : Heap) (locs : List Loc) (cells slots : Nat) (ls : Array Slot) (ad : Nat → Nat),
    gC E d y p R s m args meth c A → gP E x f ad A H → va_S A s.heap H locs → lv_has ls y.2.2.1 (glc ad lv) → cells + (f'.2.2.1 - f.2.2.1) ≤ R.cells → slots + (f'.2.2.2 - f.2.2.2) ≤ R.slots →
    W p E.1 e R s m args below meth c H locs cells slots (vx_MQ below (gQc E A f ad o x' f') (gXC E A f ad o x' f') args s (cells + (f'.2.2.1 - f.2.2.1)) (slots + (f'.2.2.2 - f.2.2.2)) A) (F0 m pc ls (st.map (gcv ad)))
/-- what grows: live cells, counts -/
def gle (f f' : gf) : Prop := (∀ c ∈ f.2.1, c ∈ f'.2.1) ∧ f.2.2.1 ≤ f'.2.2.1 ∧ f.2.2.2 ≤ f'.2.2.2
theorem gle_rf (f : gf) : gle f f := ⟨fun _ h => h, Nat.le_refl _, Nat.le_refl _⟩
theorem gle_tr {f g h : gf} (a : gle f g) (b : gle g h) : gle f h := ⟨fun c hc => b.1 c (a.1 c hc), Nat.le_trans a.2.1 b.2.1, Nat.le_trans a.2.2 b.2.2⟩
theorem gex_tr {f g : gf} {a b c : Nat → Nat} (h : gle f g) (h1 : gex f a b) (h2 : gex g b c) : gex f a c := ⟨fun q hq => (h2.1 q (h.1 q hq)).trans (h1.1 q hq), fun i hi => (h2.2 i hi).trans (h1.2 i hi)⟩
/-- WP -/
def T (E : gE) (d : Nat) (y : gy) (pc : Nat) (lv : List (Nat × gv)) (st : List gv) (x : gd) (f : gf) (Q : gr → gd → gf → Prop) : Prop :=
  ∃ (o : gr) (x' : gd) (f' : gf), Q o x' f' ∧ gle f f' ∧ gW E d y pc lv st x f o x' f'
theorem T_mono {E : gE} {d : Nat} {y : gy} {pc : Nat} {lv : List (Nat × gv)} {st : List gv} {x : gd} {f : gf} {Q Q' : gr → gd → gf → Prop} (h : T E d y pc lv st x f Q) (hq : ∀ o x' f', Q o x' f' → Q' o x' f') : T E d y pc lv st x f Q' := by
  obtain ⟨o, x', f', h1, h2, h3⟩ := h
  exact ⟨o, x', f', hq o x' f' h1, h2, h3⟩
section GR
variable {E : gE} {d : Nat} {y : gy} {pc : Nat} {lv : List (Nat × gv)} {st : List gv} {x : gd} {f : gf} {Q : gr → gd → gf → Prop}
/-- a step that leaves the memory as it is -/
theorem T_step {pc2 : Nat} {lv2 : List (Nat × gv)} {st2 : List gv}
    (h : ∀ (p : Program) (e : Env) (R : Room) (s : State) (m : MethodId) (args : Array Value) (below : List Frame) (meth : Method) (c : Code) (A : Nat → Prop) (H : Heap) (locs : List Loc) (cells slots : Nat) (ls : Array Slot) (ad : Nat → Nat) (Q9 : State → Prop), gC E d y p R s m args meth c A → gP E x f ad A H → va_S A s.heap H locs → lv_has ls y.2.2.1 (glc ad lv) →
      (∀ ls2, lv_has ls2 y.2.2.1 (glc ad lv2) → W p E.1 e R s m args below meth c H locs cells slots Q9 (F0 m pc2 ls2 (st2.map (gcv ad)))) → W p E.1 e R s m args below meth c H locs cells slots Q9 (F0 m pc ls (st.map (gcv ad))))
    (k : T E d y pc2 lv2 st2 x f Q) : T E d y pc lv st x f Q := by
  obtain ⟨o, x', f', h1, h2, h3⟩ := k
  refine ⟨o, x', f', h1, h2, ?_⟩
  intro p e R s m args below meth c A H locs cells slots ls ad C hP hS hl hc hs
  exact h p e R s m args below meth c A H locs cells slots ls ad _ C hP hS hl (fun ls2 hl2 => h3 p e R s m args below meth c A H locs cells slots ls2 ad C hP hS hl2 hc hs)
end GR
