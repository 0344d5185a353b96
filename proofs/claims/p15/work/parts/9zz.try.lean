theorem tr_rowq9 {q : kP} {o i : Nat} (hq : kV q) (ho : kiT q o) (hi : i < oN q o) : ∃ c, (kf q).1 (o + 13) i = some c ∧ kK c = .inr (.int, 24) ∧ c ∈ (kf q).2.1 ∧ 4000 ≤ c ∧ ((o = 260 ∧ c = 4000 + i) ∨ (o = 280 ∧ c = 7000 + i)) := sorry
section KTR
variable {G : kG} {q : kP} {d o : Nat} {x x0 y z : gd} {F : Int32 → gd → Prop} {Fv : gd → Prop}
theorem kt_valueOfq9 (hq : kV q) (ho : kiT q o) (i c : Int32) (hT : TO x q o) (hi : 0 ≤ i.toInt ∧ i.toInt < (x.1 o 3).toInt) (hc : 0 ≤ c.toInt ∧ c.toInt < 24) (h : ∀ r, F r x) : KT G q d zk_X10_valueOf 0 [(0, vr o), (1, vi i), (2, vi c)] [] x (ri F) := sorry
theorem kt_sameq9 (hq : kV q) (ho : kiT q o) {p : Nat} (hp : kiT q p) (n : Int32) (h24 : n.toInt ≤ 24) (hT : TO x q o) (hU : TO x q p) (h : ∀ r, gbool r → F r x) : KT G q (d + 1) zk_X10_sameOutcomes 0 [(0, vr o), (1, vr p), (2, vi n)] [] x (ri F) := sorry
end KTR

def sOuq9 (o c k : Nat) : Prop := (c = o ∧ k = 3) ∨ c = o + 14 ∨ ((o = 260 ∧ 4000 ≤ c ∧ c < 7000) ∨ (o = 280 ∧ 7000 ≤ c))
section KMD
variable {G : kG} {q : kP} {d : Nat} {x x0 y z : gd} {o : Nat} {F : Int32 → gd → Prop} {Fv : gd → Prop} {Fm : gd → kP → Prop} {X : String → gd → kP → Prop}
theorem kt_insertq9 (hu : kU q) (ho : kiT q o) {a n : Nat} (ka : kK a = .inr (.int, n)) (ma : a ∈ (kf q).2.1) (hn : 24 ≤ n) (l1 l3 : Int32) (hT : TO x q o) (h1 : 0 ≤ l1.toInt ∧ l1.toInt ≤ (x.1 o 3).toInt) (h3 : 0 ≤ l3.toInt ∧ l3.toInt ≤ 24) (h : ∀ y q1, kU q1 → kle q q1 → q1.et = q.et → fm (sOuq9 o) x y → TO y q1 o → Fm y q1) : KM G q (d + 2) zk_X10_insertOutcome 0 [(0, vr o), (1, vi l1), (2, vr a), (3, vi l3)] [] x (rm q Fm) X := sorry
theorem kt_addOutcomeq9 (hu : kU q) (ho : kiT q o) {a n : Nat} (ka : kK a = .inr (.int, n)) (ma : a ∈ (kf q).2.1) (hn : 24 ≤ n) (l2 : Int32) (hT : TO x q o) (h2 : 0 ≤ l2.toInt ∧ l2.toInt ≤ 24) (h : ∀ y q1, kU q1 → kle q q1 → q1.et = q.et → fm (sOuq9 o) x y → TO y q1 o → Fm y q1) : KM G q (d + 3) zk_X10_addOutcome 0 [(0, vr o), (1, vr a), (2, vi l2)] [] x (rm q Fm) X := sorry
end KMD

def sWdq9 (o c k : Nat) : Prop := sQu o c k ∨ c = o + 7 ∨ (c = o ∧ k = 3) ∨ c = o + 14 ∨ ((o = 260 ∧ 4000 ≤ c ∧ c < 7000) ∨ (o = 280 ∧ 7000 ≤ c))
/-- all that a trying changes -/
def sExq9 (o c k : Nat) : Prop := (200 ≤ c ∧ c ≤ 259) ∨ (o ≤ c ∧ c ≤ o + 14) ∨ (1000 ≤ c ∧ c < 4000) ∨ ((o = 260 ∧ 4000 ≤ c ∧ c < 7000) ∨ (o = 280 ∧ 7000 ≤ c)) ∨ (c = 60 ∧ k = 5) ∨ c = 65
section KAL
variable {G : kG} {q q0 q1 : kP} {d : Nat} {x x0 y z : gd} {o : Nat} {F : Int32 → gd → Prop} {Fv : gd → Prop} {Fm : gd → kP → Prop} {X : String → gd → kP → Prop}
theorem sWd_Cq9 (hO : o = 260 ∨ o = 280) (f : fm (sWdq9 o) x y) : agC x y ∧ agM 220 x y := sorry
theorem XI_wq9 (hO : o = 260 ∨ o = 280) (f : fm (sWdq9 o) x y) (hz : TZ y o) (ht : TO y q1 o) (hk : q.kn ≤ q1.kn) (h : XI x q o) (h3 : q.kn ≤ 3000) : XI y q1 o := sorry
theorem XI_qq9 (hO : o = 260 ∨ o = 280) (f : fm (sQu o) x y) (h : XI x q o) (h3 : q.kn ≤ 3000) : XI y q o := sorry
theorem kx_addStateq9 (hu : kU q) (he : q.ex = true) (ho : kiT q o) (ht : q.et = some o) (hX : XI x q o) (hM : MM x 220) (a b l : Int32) (ha : a = -1 ∨ (0 ≤ a.toInt ∧ a.toInt < (x.1 o 0).toInt)) (h : ∀ y q1, kU q1 → kle q q1 → q1.et = q.et → fm (sKe o) x y → XI y q1 o → (x.1 o 0).toInt ≤ (y.1 o 0).toInt → (∀ s k : Nat, (s : Int) < (x.1 o 0).toInt → y.1 (1000 + s) k = x.1 (1000 + s) k) → Fm y q1) : KM G q (d + 4) zk_X2_addState 0 [(0, vr 200), (1, vi a), (2, vi b), (3, vi l)] [] x (rm q Fm) X := sorry
end KAL

def sViq9 (o c k : Nat) : Prop := (c = o ∧ (k = 2 ∨ k = 3 ∨ k = 5)) ∨ c = o + 7 ∨ c = o + 14 ∨ ((o = 260 ∧ 4000 ≤ c ∧ c < 7000) ∨ (o = 280 ∧ 7000 ≤ c)) ∨ (c = 60 ∧ k = 5) ∨ c = 65
section KTY
variable {G : kG} {q q0 q1 : kP} {d : Nat} {x x0 y z : gd} {o : Nat} {F : Int32 → gd → Prop} {Fv : gd → Prop} {Fm : gd → kP → Prop} {X : String → gd → kP → Prop}
/-- what looking at a state keeps: the machine, what was told of the trying -/
def VIq9 (x0 x : gd) (q : kP) (o : Nat) : Prop := fm (sViq9 o) x0 x ∧ MM x 220 ∧ TZ x o ∧ TO x q o
theorem VI_stq9 (hO : o = 260 ∨ o = 280) (h : VIq9 x0 x q o) (f : fm (fun c k => (c = o ∧ (k = 2 ∨ k = 5)) ∨ (c = 60 ∧ k = 5) ∨ c = 65) x y) : VIq9 x0 y q o := sorry
theorem VI_fiq9 (hO : o = 260 ∨ o = 280) (h : VIq9 x0 x q o) (f : fm (fun c k => c = o + 7) x y) (hz : TZ y o) : VIq9 x0 y q o := sorry
theorem VI_ouq9 (hO : o = 260 ∨ o = 280) (h : VIq9 x0 x q o) (f : fm (sOuq9 o) x y) (ht : TO y q1 o) : VIq9 x0 y q1 o := sorry
theorem VI_0q9 (hO : o = 260 ∨ o = 280) (h : VIq9 x0 x q o) : x.1 o 0 = x0.1 o 0 ∧ (∀ c k, 60 ≤ c → c < 90 → ¬ (c = 60 ∧ k = 5) → c ≠ 65 → x.1 c k = x0.1 c k) := sorry
theorem kx_inspectEndq9 (hu : kU q) (he : q.ex = true) (ho : kiT q o) (ht : q.et = some o) (hV : VIq9 x0 x q o) (s : Int32) (hs : 0 ≤ s.toInt ∧ s.toInt < (x.1 o 0).toInt) (h : ∀ y q1, kU q1 → kle q q1 → q1.et = q.et → VIq9 x0 y q1 o → Fm y q1) : KM G q (d + 4) zk_X2_inspectEnd 0 [(0, vr 200), (1, vi s)] [] x (rm q Fm) X := sorry
theorem kx_inspectq9 (hu : kU q) (he : q.ex = true) (ho : kiT q o) (ht : q.et = some o) (hM : MM x 220) (hz : TZ x o) (hT : TO x q o) (s : Int32) (hs : 0 ≤ s.toInt ∧ s.toInt < (x.1 o 0).toInt) (h : ∀ y q1, kU q1 → kle q q1 → q1.et = q.et → VIq9 x y q1 o → Fm y q1) : KM G q (d + 5) zk_X2_inspect 0 [(0, vr 200), (1, vi s)] [] x (rm q Fm) X := sorry
end KTY

section KXP
variable {G : kG} {q q0 q1 : kP} {d : Nat} {x x0 y z : gd} {o : Nat} {F : Int32 → gd → Prop} {Fv : gd → Prop} {Fm : gd → kP → Prop} {X : String → gd → kP → Prop}
theorem ex_25q9 {c k : Nat} (h : c = 225) : sExq9 o c k := sorry
theorem ex_Liq9 {c k : Nat} (h : sLi 220 c k) : sExq9 o c k := sorry
theorem ex_Inq9 {c k : Nat} (h : sIn o c k) : sExq9 o c k := sorry
theorem ex_Viq9 {c k : Nat} (h : sViq9 o c k) : sExq9 o c k := sorry
theorem ex_Mkq9 {c k : Nat} (h : sMk 220 c k) : sExq9 o c k := sorry
theorem ex_Keq9 {c k : Nat} (h : sKe o c k) : sExq9 o c k := sorry
theorem ex_Trq9 {c k : Nat} (h : sTr o c k) : sExq9 o c k := sorry
theorem ex_Req9 {c k : Nat} (h : sRe 220 c k) : sExq9 o c k := sorry
theorem wd_Viq9 {c k : Nat} (h : sViq9 o c k) : sWdq9 o c k := sorry
theorem LK_Viq9 (hO : o = 260 ∨ o = 280) {s : Nat} (hs : s < 3000) (hk : KR x s) (f : fm (sViq9 o) x y) (h : LK x s) : LK y s := sorry
theorem c13_Viq9 (hO : o = 260 ∨ o = 280) (f : fm (sViq9 o) x y) : y.1 220 13 = x.1 220 13 := sorry
/-- the choices of one state -/
theorem kx_innerq9 (he : q.ex = true) (ho : kiT q o) (l i : Int32) {k : Nat} (ei : i.toInt = k) (hk3 : k < 3000) (N : Int32) (hN : N.toInt ≤ 84)
    (again : ∀ (q2 : kP) (t : gd), kU q2 → kle q q2 → q2.et = some o → fm (sExq9 o) x t → XI t q2 o → KM G q2 (d + 6) zk_X2_explore 49 [(0, vr 200), (2, vi l), (4, vi (i + 1))] [] t (rm q Fm) X) :
    ∀ (n j : Nat) (i2 : Int32) (q2 : kP) (t : gd), i2.toInt = j → N.toInt - j ≤ n → kU q2 → kle q q2 → q2.et = some o → fm (sExq9 o) x t → XI t q2 o → LK t k → t.1 220 13 = N → (k : Int) < (t.1 o 0).toInt → KM G q2 (d + 6) zk_X2_explore 95 [(0, vr 200), (2, vi l), (4, vi i), (5, vi i2)] [] t (rm q Fm) X := sorry
theorem kx_outerq9 (he : q.ex = true) (ho : kiT q o) (l : Int32) (h : ∀ y q1, kU q1 → kle q q1 → q1.et = some o → fm (sExq9 o) x y → TZ y o → TO y q1 o → Fm y q1) :
    ∀ (m k : Nat) (i : Int32) (q9 : kP) (v : gd), i.toInt = k → 3000 - (k : Int) ≤ m → kU q9 → kle q q9 → q9.et = some o → fm (sExq9 o) x v → XI v q9 o → KM G q9 (d + 6) zk_X2_explore 49 [(0, vr 200), (2, vi l), (4, vi i)] [] v (rm q Fm) X := sorry
theorem kx_exploreq9 (hu : kU q) (he : q.ex = true) (ho : kiT q o) (hC : CO x) (w l : Int32) (hw : w = 0 ∨ w = 1) (h : ∀ y q1, kU q1 → kle q q1 → q1.et = some o → fm (sExq9 o) x y → TZ y o → TO y q1 o → Fm y q1) : KM G q (d + 6) zk_X2_explore 0 [(0, vr 200), (1, vi w), (2, vi l), (3, vr o)] [] x (rm q Fm) X := sorry
end KXP

def sNwq9 (c k : Nat) : Prop := (180 ≤ c ∧ c < 260) ∨ (300 ≤ c ∧ c < 1000)
section KHO
variable {G : kG} {q q0 q1 : kP} {d : Nat} {x x0 y z : gd} {o : Nat} {F : Int32 → gd → Prop} {Fv : gd → Prop} {P : Option gv → gd → Prop} {X : String → gd → Prop}
theorem HOI_mkq9 (hl : kle q q1) (hu1 : kU q1) (f : fm sNwq9 x y) (h : HOI x q) : HOI y q1 := sorry
theorem HOI_exq9 (hl : kle q q1) (hu1 : kU q1) (ho : kiT q o) (f : fm (sExq9 o) x y) (hz : TZ y o) (ht : TO y q1 o) (hC : CO x) (h : HOI x q) : HOI y q1 := sorry
end KHO

section KAD
variable {G : kG} {q : kP} {d : Nat} {x y z : gd} {F : Int32 → gd → Prop} {Fv : gd → Prop} {Fm : gd → kP → Prop} {X : String → gd → kP → Prop} {C : gCo} {M : gMa} {T : gTy} {nl w n s o : Nat}
theorem kx_addState3q9 (hu : kU q) (he : q.ex = true) (ho : kiT q o) (ht : q.et = some o) (hX : XI x q o) (hM : MM x 220) (hK : CK x C) (hN : NC C) (en : (x.1 60 9).toInt = (nl : Nat)) (g : KMm x 220 C M) (qi : MIv C w M) (qc : MCn C nl M) (qn : NBm M) (hT : KX3 C nl w x o T) (a b l : Int32) {A B lim : Nat} (ha : (a = -1 ∧ T.1.length = 0) ∨ (a.toInt = (A : Nat) ∧ A < T.1.length ∧ b.toInt = (B : Nat))) (el : l.toInt = (lim : Nat)) (hl3 : lim ≤ 3000) (h : ∀ y q1, kU q1 → kle q q1 → q1.et = q.et → fm (sKe o) x y → XI y q1 o → (∀ s k : Nat, (s : Int) < (x.1 o 0).toInt → y.1 (1000 + s) k = x.1 (1000 + s) k) → KX3 C nl w y o (adS lim A B T M) → Fm y q1) : KM G q (d + 4) zk_X2_addState 0 [(0, vr 200), (1, vi a), (2, vi b), (3, vi l)] [] x (rm q Fm) X := sorry
end KAD

/-- the locks that a thread holds, of the first n -/
def hdNq9 (M : gMa) (t : Nat) : Nat → Int32
  | 0 => 0
  | n + 1 => if (M.2.1 n).1 = t + 1 then hdNq9 M t n ||| ((1 : Int32) <<< (Int32.ofNat n &&& 31)) else hdNq9 M t n
/-- a thread's access narrows what is held at a cell -/
def caTq9 (C : gCo) (w nl : Nat) (M : gMa) (t c : Nat) (v : Int32) : Int32 := if canM C w M t ∧ soM C (M.2.2 t) ≤ 4 ∧ (lkI C M t).1 = 0 ∧ (lkI C M t).2.toNatClampNeg = c then v &&& hdNq9 M t nl else v
/-- a thread's take comes behind the locks that it holds -/
def tkTq9 (C : gCo) (w nl : Nat) (M : gMa) (t a : Nat) (v : Int32) : Int32 := if canM C w M t ∧ soM C (M.2.2 t) = 5 ∧ ¬ a = obM C (M.2.2 t).2.2.1 ∧ (hdNq9 M t nl >>> (Int32.ofNat a &&& 31)) &&& 1 = 1 then v ||| ((1 : Int32) <<< (Int32.ofNat (obM C (M.2.2 t).2.2.1) &&& 31)) else v
def cmTq9 (C : gCo) (w nl : Nat) (M : gMa) (c : Nat) : Nat → Int32 → Int32
  | 0, v => v
  | t + 1, v => caTq9 C w nl M t c (cmTq9 C w nl M c t v)
def cbTq9 (C : gCo) (w nl : Nat) (M : gMa) (a : Nat) : Nat → Int32 → Int32
  | 0, v => v
  | t + 1, v => tkTq9 C w nl M t a (cbTq9 C w nl M a t v)
/-- some thread goes and can do nothing -/
def idMq9 (C : gCo) (w : Nat) (M : gMa) : Prop := ∃ t, t < C.2.1.length ∧ (M.2.2 t).1 = 1 ∧ ¬ canM C w M t
/-- rows of values: the first that differs decides -/
def ltRq9 : List Int32 → List Int32 → Bool
  | a :: r, b :: s => if a = b then ltRq9 r s else decide (a < b)
  | _, _ => false
def inRq9 (r : List Int32) : List (List Int32) → List (List Int32)
  | [] => [r]
  | s :: L => if s = r then s :: L else if ltRq9 r s = true then r :: s :: L else s :: inRq9 r L
def roMq9 (C : gCo) (M : gMa) : List Int32 := (List.range C.2.2.1.length).map M.1
abbrev gLoq9 := Nat × Nat × Nat × (Nat → Int32) × (Nat → Int32) × List (List Int32)
noncomputable def loMq9 (C : gCo) (w nl : Nat) (M : gMa) (l : gLoq9) : gLoq9 := (l.1 + (if chM C w M = [] then 1 else 0), l.2.1 + (@ite Nat (idMq9 C w M) (Classical.propDecidable _) 1 0), l.2.2.1 + (chM C w M).length, fun c => cmTq9 C w nl M c C.2.1.length (l.2.2.2.1 c), fun a => cbTq9 C w nl M a C.2.1.length (l.2.2.2.2.1 a), if chM C w M = [] then inRq9 (roMq9 C M) l.2.2.2.2.2 else l.2.2.2.2.2)
def lo0q9 (nl : Nat) : gLoq9 := (0, 0, 0, fun _ => ((1 : Int32) <<< (Int32.ofNat nl &&& 31)) - 1, fun _ => 0, [])
noncomputable def loSq9 (C : gCo) (w nl : Nat) (T : gTy) : Nat → gLoq9
  | 0 => lo0q9 nl
  | k + 1 => match T.1[k]? with
    | some p => loMq9 C w nl p.1 (loSq9 C w nl T k)
    | none => loSq9 C w nl T k
section PLO
variable {C : gCo} {M : gMa} {w nl k : Nat} {T T' : gTy} {r s u : List Int32} {L : List (List Int32)}
theorem loS_goq9 {p : gMa × Nat × Nat} (h : T.1[k]? = some p) : loSq9 C w nl T (k + 1) = loMq9 C w nl p.1 (loSq9 C w nl T k) := sorry
theorem loS_Tq9 : ∀ {k : Nat}, (∀ s, s < k → T'.1[s]? = T.1[s]?) → loSq9 C w nl T' k = loSq9 C w nl T k := sorry
theorem ltR_irrq9 : ∀ r : List Int32, ltRq9 r r = false := sorry
theorem ltR_trq9 : ∀ {r s u : List Int32}, ltRq9 r s = true → ltRq9 s u = true → ltRq9 r u = true := sorry
/-- one goes before the other, where they are as long and differ -/
theorem ltR_totq9 : ∀ {r s : List Int32}, r.length = s.length → ¬ r = s → ltRq9 r s = true ∨ ltRq9 s r = true := sorry
/-- rows in order, none twice -/
def soRq9 (L : List (List Int32)) : Prop := L.Pairwise (fun r s => ltRq9 r s = true)
theorem inR_memq9 (h : soRq9 L) (m : r ∈ L) : inRq9 r L = L := sorry
theorem inR_atq9 : ∀ {L : List (List Int32)} {k : Nat}, k ≤ L.length → (∀ i s, i < k → L[i]? = some s → ltRq9 s r = true) → (∀ i s, k ≤ i → L[i]? = some s → ltRq9 r s = true) → inRq9 r L = L.take k ++ r :: L.drop k := sorry
theorem inR_inq9 {t : List Int32} : t ∈ inRq9 r L ↔ t = r ∨ t ∈ L := sorry
theorem inR_soq9 (hl : ∀ s ∈ L, s.length = r.length) (h : soRq9 L) : soRq9 (inRq9 r L) := sorry
theorem inR_lenq9 (h : ∀ s ∈ L, s.length = k) (hr : r.length = k) : ∀ s ∈ inRq9 r L, s.length = k := sorry
/-- rows in order are fixed by which there are -/
theorem soR_eqq9 : ∀ {L K : List (List Int32)}, soRq9 L → soRq9 K → (∀ r, r ∈ L ↔ r ∈ K) → L = K := sorry
/-- outcomes of any of the first states: in order, as long as there are cells -/
theorem loS_soq9 : ∀ k, soRq9 (loSq9 C w nl T k).2.2.2.2.2 ∧ ∀ r ∈ (loSq9 C w nl T k).2.2.2.2.2, r.length = C.2.2.1.length := sorry
theorem inR_nq9 (L : List (List Int32)) : (inRq9 r L).length ≤ L.length + 1 := sorry
end PLO

def orwq9 (o i : Nat) : Nat := if o = 260 then 4000 + i else 7000 + i
/-- the outcomes that are kept, in order -/
def OUoq9 (x : gd) (o : Nat) (L : List (List Int32)) : Prop := (x.1 o 3).toInt = (L.length : Nat) ∧ ∀ i r, L[i]? = some r → ∀ c v, r[c]? = some v → x.1 (orwq9 o (x.1 (o + 14) i).toInt.toNat) c = v
/-- with places that there are -/
def OUiq9 (x : gd) (o : Nat) (L : List (List Int32)) : Prop := ∀ i, i < L.length → (x.1 (o + 14) i).toInt.toNat < 3000
def OUkq9 (x : gd) (o : Nat) (L : List (List Int32)) : Prop := OUoq9 x o L ∧ OUiq9 x o L
section KOU
variable {G : kG} {q q1 : kP} {d : Nat} {x x0 y z : gd} {o : Nat} {F : Int32 → gd → Prop} {Fv : gd → Prop} {Fm : gd → kP → Prop} {X : String → gd → kP → Prop} {C : gCo} {M : gMa} {T w nl : Nat} {L : List (List Int32)} {r s : List Int32}
theorem orw_geq9 (i : Nat) : 4000 ≤ orwq9 o i := sorry
theorem orw_ownq9 (hO : o = 260 ∨ o = 280) {i : Nat} (h : i < 3000) : ((o = 260 ∧ 4000 ≤ orwq9 o i ∧ orwq9 o i < 7000) ∨ (o = 280 ∧ 7000 ≤ orwq9 o i)) := sorry
/-- rows stay where their own are left -/
theorem OUk_gq9 (e3 : y.1 o 3 = x.1 o 3) (e14 : ∀ k, y.1 (o + 14) k = x.1 (o + 14) k) (er : ∀ i k, i < 3000 → y.1 (orwq9 o i) k = x.1 (orwq9 o i) k) (h : OUkq9 x o L) : OUkq9 y o L := sorry
theorem orw_neq9 {i j : Nat} (h : ¬ i = j) : ¬ orwq9 o i = orwq9 o j := sorry
theorem tr_row2q9 {i : Nat} (hq : kV q) (ho : kiT q o) (hi : i < oN q o) : (kf q).1 (o + 13) i = some (orwq9 o i) ∧ kK (orwq9 o i) = .inr (.int, 24) ∧ orwq9 o i ∈ (kf q).2.1 := sorry
theorem kh_heldByq9 (hq : kV q) (ho : kiM q o) (hM : MM x o) (g : KMm x o C M) (en : (x.1 60 9).toInt = (nl : Nat)) (t : Int32) (et : t.toInt = T) (hT : T < 6) (h : F (hdNq9 M T nl) x) : KT G q (d + 1) zk_X5_heldBy 0 [(0, vr o), (1, vi t)] [] x (ri F) := sorry
theorem kt_addTake3q9 (hq : kV q) (ho : kiT q o) (a : Int32) {B : Nat} (hB : B < 6) (h : ∀ y, fm (fun c k => c = o + 9) x y → (∀ k, k < 6 → y.1 (o + 9) k = if ¬ k = B ∧ (a >>> (Int32.ofNat k &&& 31)) &&& 1 = 1 then x.1 (o + 9) k ||| ((1 : Int32) <<< (Int32.ofNat B &&& 31)) else x.1 (o + 9) k) → Fv y) : KT G q d zk_X10_addTake 0 [(0, vr o), (1, vi a), (2, vi (Int32.ofNat B))] [] x (rv Fv) := sorry
theorem ltR_atq9 : ∀ {k : Nat} {r s : List Int32} {a b : Int32}, r.take k = s.take k → r[k]? = some a → s[k]? = some b → ¬ a = b → ltRq9 r s = decide (a < b) := sorry
theorem kt_order3q9 (hq : kV q) (ho : kiT q o) {a b na nb : Nat} (ka : kK a = .inr (.int, na)) (ma : a ∈ (kf q).2.1) (kb : kK b = .inr (.int, nb)) (mb : b ∈ (kf q).2.1) (n : Int32) {N : Nat} (en : n.toInt = N) (hN : N ≤ 24) (hna : 24 ≤ na) (hnb : 24 ≤ nb) (lr : r.length = N) (ls : s.length = N) (hr : ∀ c v, r[c]? = some v → x.1 a c = v) (hs : ∀ c v, s[c]? = some v → x.1 b c = v) (h0 : r = s → F 0 x) (h1 : ltRq9 s r = true → F 1 x) (hm : ltRq9 r s = true → F (-1) x) : KT G q d zk_X10_order 0 [(0, vr a), (1, vr b), (2, vi n)] [] x (ri F) := sorry
theorem kt_insert3q9 (hu : kU q) (ho : kiT q o) {a n : Nat} (ka : kK a = .inr (.int, n)) (ma : a ∈ (kf q).2.1) (hn : 24 ≤ n) (a4 : a < 4000) (l1 l3 : Int32) (hT : TO x q o) {K N : Nat} (eK : l1.toInt = K) (h1 : (K : Int) ≤ (x.1 o 3).toInt) (eN : l3.toInt = N) (h3 : N ≤ 24) (hL : OUkq9 x o L) (hlt : L.length < 3000) (lr : r.length = N) (hr : ∀ c v, r[c]? = some v → x.1 a c = v) (h : ∀ y q1, kU q1 → kle q q1 → q1.et = q.et → fm (sOuq9 o) x y → TO y q1 o → OUkq9 y o (L.take K ++ r :: L.drop K) → Fm y q1) : KM G q (d + 2) zk_X10_insertOutcome 0 [(0, vr o), (1, vi l1), (2, vr a), (3, vi l3)] [] x (rm q Fm) X := sorry
theorem kt_addOutcome3q9 (hu : kU q) (ho : kiT q o) {a n : Nat} (ka : kK a = .inr (.int, n)) (ma : a ∈ (kf q).2.1) (hn : 24 ≤ n) (a4 : a < 4000) (l2 : Int32) (hT : TO x q o) {N : Nat} (eN : l2.toInt = N) (h2 : N ≤ 24) (hL : OUkq9 x o L) (hlt : L.length < 3000) (hso : soRq9 L) (hll : ∀ t ∈ L, t.length = N) (lr : r.length = N) (hr : ∀ c v, r[c]? = some v → x.1 a c = v) (h : ∀ y q1, kU q1 → kle q q1 → q1.et = q.et → fm (sOuq9 o) x y → TO y q1 o → OUkq9 y o (inRq9 r L) → Fm y q1) : KM G q (d + 3) zk_X10_addOutcome 0 [(0, vr o), (1, vr a), (2, vi l2)] [] x (rm q Fm) X := sorry
end KOU

/-- what a thread's act tells of locks held -/
def LTxq9 (x y : gd) (o : Nat) (C : gCo) (w nl : Nat) (M : gMa) (t : Nat) : Prop := (∀ c, c < 24 → y.1 (o + 8) c = caTq9 C w nl M t c (x.1 (o + 8) c)) ∧ (∀ a, a < 6 → y.1 (o + 9) a = tkTq9 C w nl M t a (x.1 (o + 9) a)) ∧ y.1 o 4 = x.1 o 4
section KIN
variable {G : kG} {q : kP} {d : Nat} {x y z : gd} {o : Nat} {F : Int32 → gd → Prop} {Fv : gd → Prop} {C : gCo} {M : gMa} {T w nl : Nat}
theorem LTx_fq9 (e : ∀ c k, c = o + 8 ∨ c = o + 9 ∨ (c = o ∧ k = 4) → z.1 c k = y.1 c k) (h : LTxq9 x y o C w nl M T) : LTxq9 x z o C w nl M T := sorry
theorem kh_inspectActq9 (hq : kV q) (he : q.ex = true) (ho : kiT q o) (ht : q.et = some o) (hM : MM x 220) (hK : CK x C) (hN : NC C) (hX : NXc C) (hX3 : NX3 C) (g : KMm x 220 C M) (wy : x.1 220 3 = Int32.ofNat w) (w01 : w = 0 ∨ w = 1) (t : Int32) (et : t.toInt = T) (hT : T < C.2.1.length) (hcan : canM C w M T) (h9 : x.1 209 T = -1) (en : (x.1 60 9).toInt = (nl : Nat)) (h : ∀ y, fm (sI1 o T) x y → ACx y C w M T → LTxq9 x y o C w nl M T → Fv y) : KT G q (d + 4) zk_X2_inspectAct 0 [(0, vr 200), (1, vi t)] [] x (rv Fv) := sorry
end KIN

/-- what all threads' acts tell of locks held, and whether one is idle -/
def LAxq9 (x y : gd) (o : Nat) (C : gCo) (w nl : Nat) (M : gMa) : Prop := (∀ c, c < 24 → y.1 (o + 8) c = cmTq9 C w nl M c C.2.1.length (x.1 (o + 8) c)) ∧ (∀ a, a < 6 → y.1 (o + 9) a = cbTq9 C w nl M a C.2.1.length (x.1 (o + 9) a)) ∧ ((idMq9 C w M ∧ y.1 o 4 = x.1 o 4 + 1) ∨ (¬ idMq9 C w M ∧ y.1 o 4 = x.1 o 4))
/-- the same of the first k -/
def LBxq9 (x y : gd) (o : Nat) (C : gCo) (w nl : Nat) (M : gMa) (k : Nat) (l : Int32) : Prop := (∀ c, c < 24 → y.1 (o + 8) c = cmTq9 C w nl M c k (x.1 (o + 8) c)) ∧ (∀ a, a < 6 → y.1 (o + 9) a = cbTq9 C w nl M a k (x.1 (o + 9) a)) ∧ y.1 o 4 = x.1 o 4 ∧ (¬ l = 0 ↔ ∃ t, t < k ∧ (M.2.2 t).1 = 1 ∧ ¬ canM C w M t)
section KIB
variable {G : kG} {q : kP} {d : Nat} {x y z : gd} {o : Nat} {F : Int32 → gd → Prop} {Fv : gd → Prop} {C : gCo} {M : gMa} {T w nl k : Nat} {l l' : Int32}
theorem LBx_fq9 (e : ∀ c k, c = o + 8 ∨ c = o + 9 ∨ (c = o ∧ k = 4) → z.1 c k = y.1 c k) (h : LBxq9 x y o C w nl M k l) : LBxq9 x z o C w nl M k l := sorry
/-- a thread that can do nothing -/
theorem LBx_nq9 (h : LBxq9 x y o C w nl M k l) (hn : ¬ canM C w M k) (hl : ¬ l' = 0 ↔ (¬ l = 0 ∨ (M.2.2 k).1 = 1)) : LBxq9 x y o C w nl M (k + 1) l' := sorry
/-- a thread's act -/
theorem LBx_aq9 (h : LBxq9 x y o C w nl M k l) (hc : canM C w M k) (hl : LTxq9 y z o C w nl M k) : LBxq9 x z o C w nl M (k + 1) l := sorry
theorem kh_inspectActsq9 (hq : kV q) (he : q.ex = true) (ho : kiT q o) (ht : q.et = some o) (hM : MM x 220) (hK : CK x C) (hN : NC C) (hX : NXc C) (hX3 : NX3 C) (g : KMm x 220 C M) (wy : x.1 220 3 = Int32.ofNat w) (w01 : w = 0 ∨ w = 1) (hL : LSk x 220) (hc : kchL x 220 (chM C w M)) (en : (x.1 60 9).toInt = (nl : Nat)) (h : ∀ y, fm (sIn o) x y → (∀ t, t < C.2.1.length → ACx y C w M t) → LAxq9 x y o C w nl M → Fv y) : KT G q (d + 5) zk_X2_inspectActs 0 [(0, vr 200)] [] x (rv Fv) := sorry
end KIB

/-- an end is noted -/
def KExq9 (x y : gd) (o : Nat) (C : gCo) (M : gMa) (L : List (List Int32)) : Prop := y.1 o 2 = x.1 o 2 + 1 ∧ y.1 o 5 = x.1 o 5 ∧ OUkq9 y o (inRq9 (roMq9 C M) L)
/-- choices are added, an end is noted where none is -/
def KIxq9 (x y : gd) (o : Nat) (C : gCo) (w : Nat) (M : gMa) (L : List (List Int32)) : Prop := y.1 o 5 = x.1 o 5 + x.1 220 13 ∧ ((chM C w M = [] ∧ y.1 o 2 = x.1 o 2 + 1 ∧ OUkq9 y o (inRq9 (roMq9 C M) L)) ∨ (¬ chM C w M = [] ∧ y.1 o 2 = x.1 o 2 ∧ OUkq9 y o L))
section KLO
variable {G : kG} {q q1 : kP} {d : Nat} {x x0 y z : gd} {o : Nat} {F : Int32 → gd → Prop} {Fv : gd → Prop} {Fm : gd → kP → Prop} {X : String → gd → kP → Prop} {C : gCo} {M : gMa} {T w n m : Nat} {s : Int32} {D D' : Nat → Prop} {L : List (List Int32)}
theorem OUk_fq9 (e3 : y.1 o 3 = x.1 o 3) (e14 : ∀ k, y.1 (o + 14) k = x.1 (o + 14) k) (er : ∀ c k, 4000 ≤ c → y.1 c k = x.1 c k) (h : OUkq9 x o L) : OUkq9 y o L := sorry
theorem KEx_fq9 (e : ∀ c k, (c = o ∧ (k = 2 ∨ k = 3 ∨ k = 5)) ∨ c = o + 14 ∨ 4000 ≤ c → z.1 c k = y.1 c k) (h : KExq9 x y o C M L) : KExq9 x z o C M L := sorry
theorem KIx_fq9 (e : ∀ c k, (c = o ∧ (k = 2 ∨ k = 3 ∨ k = 5)) ∨ c = o + 14 ∨ 4000 ≤ c → z.1 c k = y.1 c k) (h : KIxq9 x y o C w M L) : KIxq9 x z o C w M L := sorry
/-- a row's values are the cells' -/
theorem ro_atq9 {c : Nat} {v : Int32} (h : (roMq9 C M)[c]? = some v) : c < C.2.2.1.length ∧ v = M.1 c := sorry
/-- looking at a state keeps the machine -/
theorem KM_Viq9 (hO : o = 260 ∨ o = 280) (hM : MM x0 220) (hK : CK x0 C) (f : fm (sViq9 o) x0 x) (g : KMm x0 220 C M) : CK x C ∧ KMm x 220 C M := sorry
theorem kh_inspectEndq9 (hu : kU q) (he : q.ex = true) (ho : kiT q o) (ht : q.et = some o) (hM0 : MM x0 220) (hK0 : CK x0 C) (hN : NC C) (hq2 : NCq C) (g0 : KMm x0 220 C M) (hV : VIq9 x0 x q o) (s : Int32) (hs : 0 ≤ s.toInt ∧ s.toInt < (x.1 o 0).toInt) (he0 : chM C w M = []) (hFA : FAs x0 x o s (fD C w M 4)) (hL : OUkq9 x o L) (hlt : L.length < 3000) (hso : soRq9 L) (hll : ∀ t ∈ L, t.length = C.2.2.1.length) (h : ∀ y q1, kU q1 → kle q q1 → q1.et = q.et → VIq9 x0 y q1 o → FAs x0 y o s (fD C w M 9) → KExq9 x y o C M L → Fm y q1) : KM G q (d + 4) zk_X2_inspectEnd 0 [(0, vr 200), (1, vi s)] [] x (rm q Fm) X := sorry
theorem kh_inspectq9 (hu : kU q) (he : q.ex = true) (ho : kiT q o) (ht : q.et = some o) (hM : MM x 220) (hK : CK x C) (hN : NC C) (hq2 : NCq C) (g : KMm x 220 C M) (hc : (x.1 220 13).toInt = ((chM C w M).length : Nat)) (hac : ∀ t, t < C.2.1.length → ACx x C w M t) (hz : TZ x o) (hT : TO x q o) (s : Int32) (hs : 0 ≤ s.toInt ∧ s.toInt < (x.1 o 0).toInt) (hL : OUkq9 x o L) (hlt : L.length < 3000) (hso : soRq9 L) (hll : ∀ t ∈ L, t.length = C.2.2.1.length) (h : ∀ y q1, kU q1 → kle q q1 → q1.et = q.et → VIq9 x y q1 o → FAs x y o s (fD C w M 11) → KIxq9 x y o C w M L → Fm y q1) : KM G q (d + 5) zk_X2_inspect 0 [(0, vr 200), (1, vi s)] [] x (rm q Fm) X := sorry
end KLO

def sKXq9 (o c k : Nat) : Prop := c = 225 ∨ (c = 220 ∧ (k = 13 ∨ k = 14)) ∨ (231 ≤ c ∧ c ≤ 233) ∨ c = 209 ∨ c = 210 ∨ c = 240 ∨ (c = o ∧ 2 ≤ k ∧ k ≤ 5) ∨ c = o + 7 ∨ c = o + 8 ∨ c = o + 9 ∨ c = o + 14 ∨ ((o = 260 ∧ 4000 ≤ c ∧ c < 7000) ∨ (o = 280 ∧ 7000 ≤ c)) ∨ (c = 60 ∧ k = 5) ∨ c = 65
section PEX
variable {C : gCo} {M : gMa} {T T' : gTy} {w lim s i n m k : Nat} {x7 y7 : Nat → Int32}
end PEX
/-- where what is told of all states lies -/
def sOvq9 (o c k : Nat) : Prop := (c = o ∧ 2 ≤ k ∧ k ≤ 5) ∨ c = o + 7 ∨ c = o + 8 ∨ c = o + 9 ∨ c = o + 14 ∨ 4000 ≤ c
def SOvq9 (o : Nat) (x y : gd) : Prop := ∀ c k, sOvq9 o c k → y.1 c k = x.1 c k
def KLoq9 (x : gd) (o : Nat) (l : gLoq9) : Prop := (x.1 o 2).toInt = (l.1 : Nat) ∧ (x.1 o 4).toInt = (l.2.1 : Nat) ∧ (x.1 o 5).toInt = (l.2.2.1 : Nat) ∧ (∀ c, c < 24 → x.1 (o + 8) c = l.2.2.2.1 c) ∧ (∀ a, a < 6 → x.1 (o + 9) a = l.2.2.2.2.1 a) ∧ OUkq9 x o l.2.2.2.2.2
/-- how many they may be -/
def BLoq9 (l : gLoq9) (k : Nat) : Prop := l.1 ≤ k ∧ l.2.1 ≤ k ∧ l.2.2.1 ≤ 84 * k ∧ l.2.2.2.2.2.length ≤ k
section KLOX
variable {G : kG} {q : kP} {d : Nat} {x y z : gd} {o k : Nat} {Fv : gd → Prop} {C : gCo} {M : gMa} {nl w : Nat} {l : gLoq9}
theorem kt_clear3q9 (hq : kV q) (ho : kiT q o) (hN : oN q o ≤ 3000) (l : Int32) (h : ∀ y, fm (sTr o) x y → y.1 o 0 = 0 → y.1 o 3 = 0 → y.1 o 1 = 0 → TZ y o → TO y q o → (∀ k, k < 6 → y.1 o k = 0) → (∀ c, c < 24 → y.1 (o + 8) c = l) → (∀ a, a < 6 → y.1 (o + 9) a = 0) → Fv y) : KT G q (d + 1) zk_X10_clear 0 [(0, vr o), (1, vi l)] [] x (rv Fv) := sorry
theorem KLo_fq9 (e : SOvq9 o x y) (h : KLoq9 x o l) : KLoq9 y o l := sorry
theorem BLo_nextq9 (h : BLoq9 l k) (h84 : (chM C w M).length ≤ 84) : BLoq9 (loMq9 C w nl M l) (k + 1) := sorry
/-- a state is looked at: its acts, then the rest -/
theorem KLo_nextq9 (hk : k < 3000) (hb : BLoq9 l k) (h84 : (chM C w M).length ≤ 84) (h : KLoq9 x o l) (ha : LAxq9 x y o C w nl M) (e2 : y.1 o 2 = x.1 o 2) (e5 : y.1 o 5 = x.1 o 5) (n13 : (y.1 220 13).toInt = ((chM C w M).length : Nat)) (hi : KIxq9 y z o C w M l.2.2.2.2.2) (e4 : z.1 o 4 = y.1 o 4) (e8 : ∀ k, z.1 (o + 8) k = y.1 (o + 8) k) (e9 : ∀ k, z.1 (o + 9) k = y.1 (o + 9) k) : KLoq9 z o (loMq9 C w nl M l) := sorry
end KLOX
section KEXP
variable {G : kG} {q q0 q1 : kP} {d : Nat} {x x0 y z : gd} {o : Nat} {F : Int32 → gd → Prop} {Fv : gd → Prop} {Fm : gd → kP → Prop} {X : String → gd → kP → Prop} {C : gCo} {M : gMa} {T : gTy} {nl w lim : Nat} {S : Nat → Nat → Prop}
theorem KX3_Sq9 (hO : o = 260 ∨ o = 280) (hK : CK x C) (f : fm S x y) (hs : ∀ c k, S c k → sKXq9 o c k) (h3 : T.1.length ≤ 3000) (h : KX3 C nl w x o T) : KX3 C nl w y o T := sorry
theorem J3_Sq9 (hO : o = 260 ∨ o = 280) (f : fm S x y) (hs : ∀ c k, S c k → sKXq9 o c k) (h : J3 C nl w x) : J3 C nl w y := sorry
theorem kx_25q9 {c k : Nat} (h : c = 225) : sKXq9 o c k := sorry
theorem kx_Liq9 {c k : Nat} (h : sLi 220 c k) : sKXq9 o c k := sorry
theorem kx_Inq9 {c k : Nat} (h : sIn o c k) : sKXq9 o c k := sorry
theorem kx_Viq9 {c k : Nat} (h : sViq9 o c k) : sKXq9 o c k := sorry
theorem kx_Mkq9 {c k : Nat} (h : sMk 220 c k) : sKXq9 o c k := sorry
/-- the choices of one state -/
theorem kx_inner3q9 (he : q.ex = true) (ho : kiT q o) (hN : NC C) (hX : NXc C) (hX3 : NX3 C) (hLk : LkN C nl) (w01 : w = 0 ∨ w = 1) (l i : Int32) {k : Nat} (ei : i.toInt = k) (hk3 : k < 3000) (el : l.toInt = (lim : Nat)) (hl3 : lim ≤ 3000) {p : gMa × Nat × Nat} (hp : T.1[k]? = some p) (l84 : (chM C w p.1).length ≤ 84) {x7 : gd}
    (again : ∀ (q2 : kP) (t : gd), kU q2 → kle q q2 → q2.et = some o → fm (sExq9 o) x t → XI t q2 o → J3 C nl w t → KX3 C nl w t o (onS C w lim k p.1 (chM C w p.1).length T) → SOvq9 o x7 t → KM G q2 (d + 6) zk_X2_explore 49 [(0, vr 200), (2, vi l), (4, vi (i + 1))] [] t (rm q Fm) X) :
    ∀ (n j : Nat) (i2 : Int32) (q2 : kP) (t : gd), i2.toInt = j → (chM C w p.1).length - j ≤ n → j ≤ (chM C w p.1).length → kU q2 → kle q q2 → q2.et = some o → fm (sExq9 o) x t → XI t q2 o → J3 C nl w t → kchL t 220 (chM C w p.1) → KX3 C nl w t o (onS C w lim k p.1 j T) → SOvq9 o x7 t → KM G q2 (d + 6) zk_X2_explore 95 [(0, vr 200), (2, vi l), (4, vi i), (5, vi i2)] [] t (rm q Fm) X := sorry
end KEXP

section KALL
variable {G : kG} {q q0 q1 : kP} {d : Nat} {x x0 y z : gd} {o : Nat} {F : Int32 → gd → Prop} {Fv : gd → Prop} {Fm : gd → kP → Prop} {X : String → gd → kP → Prop} {C : gCo} {M : gMa} {T : gTy} {nl w lim : Nat}
theorem kx_outer3q9 (he : q.ex = true) (ho : kiT q o) (hN : NC C) (hX : NXc C) (hX3 : NX3 C) (hLk : LkN C nl) (hq2 : NCq C) (w01 : w = 0 ∨ w = 1) (l : Int32) (el : l.toInt = (lim : Nat)) (hl3 : lim ≤ 3000) (h : ∀ y q1, kU q1 → kle q q1 → q1.et = some o → fm (sExq9 o) x y → TZ y o → TO y q1 o → J3 C nl w y → KX3 C nl w y o (tryM C w lim) → FN3 C w (y.1 (o + 7)) (tryM C w lim) (tryM C w lim).1.length → KLoq9 y o (loSq9 C w nl (tryM C w lim) (tryM C w lim).1.length) → Fm y q1) :
    ∀ (m k : Nat) (i : Int32) (q9 : kP) (v : gd) (T : gTy), i.toInt = k → 3000 - (k : Int) ≤ m → k ≤ T.1.length → kU q9 → kle q q9 → q9.et = some o → fm (sExq9 o) x v → XI v q9 o → J3 C nl w v → KX3 C nl w v o T → FN3 C w (v.1 (o + 7)) T k → KLoq9 v o (loSq9 C w nl T k) → BLoq9 (loSq9 C w nl T k) k → bfS C w lim (3001 - k) k T = tryM C w lim → KM G q9 (d + 6) zk_X2_explore 49 [(0, vr 200), (2, vi l), (4, vi i)] [] v (rm q Fm) X := sorry
theorem kx_explore3q9 (hu : kU q) (he : q.ex = true) (ho : kiT q o) (hC : CO x) (hK : CK x C) (hN : NC C) (hX : NXc C) (hX3 : NX3 C) (hLk : LkN C nl) (hq2 : NCq C) (en : (x.1 60 9).toInt = (nl : Nat)) (w01 : w = 0 ∨ w = 1) (l : Int32) (el : l.toInt = (lim : Nat)) (hl1 : 1 ≤ lim) (hl3 : lim ≤ 3000) (h : ∀ y q1, kU q1 → kle q q1 → q1.et = some o → fm (sExq9 o) x y → TZ y o → TO y q1 o → J3 C nl w y → KX3 C nl w y o (tryM C w lim) → FN3 C w (y.1 (o + 7)) (tryM C w lim) (tryM C w lim).1.length → KLoq9 y o (loSq9 C w nl (tryM C w lim) (tryM C w lim).1.length) → Fm y q1) : KM G q (d + 6) zk_X2_explore 0 [(0, vr 200), (1, vi (Int32.ofNat w)), (2, vi l), (3, vr o)] [] x (rm q Fm) X := sorry
end KALL

/-- what a trying has told -/
def TRoq9 (C : gCo) (w : Nat) (x : gd) (o : Nat) (T : gTy) : Prop := ((x.1 o 0).toInt = (T.1.length : Nat) ∧ x.1 o 1 = if T.2 = true then 1 else 0) ∧ PA3 x o T ∧ FN3 C w (x.1 (o + 7)) T T.1.length
section KSH
variable {G : kG} {q : kP} {d : Nat} {x y z : gd} {o : Nat} {F : Int32 → gd → Prop} {Fv : gd → Prop} {P : Option gv → gd → Prop} {X : String → gd → Prop} {C : gCo} {T : gTy} {nl w n : Nat} {c : Nat → Nat}
theorem TRo_ofq9 (h : KX3 C nl w x o T) (g : FN3 C w (x.1 (o + 7)) T T.1.length) : TRoq9 C w x o T := sorry
theorem TRo_fq9 (e0 : y.1 o 0 = x.1 o 0) (e1 : y.1 o 1 = x.1 o 1) (e : ∀ c k, c = o + 7 ∨ c = o + 10 ∨ c = o + 11 ∨ c = o + 12 → y.1 c k = x.1 c k) (h : TRoq9 C w x o T) : TRoq9 C w y o T := sorry
end KSH

section KSW
variable {G : kG} {q : kP} {d : Nat} {x y z : gd} {o : Nat} {F : Int32 → gd → Prop} {Fv : gd → Prop} {P : Option gv → gd → Prop} {X : String → gd → Prop} {C : gCo} {T : gTy} {nl w n : Nat} {c : Nat → Nat}
theorem kh_showq9 {Tw : Nat → gTy} (hq : kV q) (hH : HOI x q) (l1 l2 : Int32) (hT : ∀ w, (w = 0 ∨ w = 1) → ¬ x.1 (260 + 20 * w) 0 = 0 → (CK x C ∧ GC C ∧ NX3 C) ∧ TRoq9 C w x (260 + 20 * w) (Tw w) ∧ TW C w (Tw w)) (hA : ¬ ((l1 = 0 ∨ l1 = 1) ∧ 0 ≤ l2.toInt ∧ l2.toInt < 11) → X iAE x) (hS : ∀ w, (w = 0 ∨ w = 1) → l1 = Int32.ofNat w → 0 ≤ l2.toInt → l2.toInt < 11 → (x.1 (260 + 20 * w) 0 = 0 ∨ (¬ x.1 (260 + 20 * w) 0 = 0 ∧ ∀ s, fsF C w (Tw w) l2.toInt.toNat s → 400 < (pth (Tw w) s).length)) → X iSE x) (hP : ∀ w s y, (w = 0 ∨ w = 1) → l1 = Int32.ofNat w → 0 ≤ l2.toInt → l2.toInt < 11 → ¬ x.1 (260 + 20 * w) 0 = 0 → fsF C w (Tw w) l2.toInt.toNat s → (pth (Tw w) s).length ≤ 400 → HOI y q → fm sRn x y → (∀ c, (∀ k v, (pth (Tw w) s)[k]? = some v → c k = v) → KRun C w (pth (Tw w) s).length c y) → y.1 0 10 = 1 → P (some (vi (Int32.ofNat (pth (Tw w) s).length))) y) : KE G q (d + 7) zk_X11_show 0 [(0, vr 0), (1, vi l1), (2, vi l2)] [] x P X := sorry
end KSW

/-- the outcomes that are kept, in any order -/
def OUmq9 (y : gd) (W : Nat) (L : List (List Int32)) : Prop := ∃ K : List (List Int32), (y.1 123 W).toInt = (K.length : Nat) ∧ K.length = L.length ∧ (∀ r, r ∈ K ↔ r ∈ L) ∧ (∀ i r, K[i]? = some r → ∀ c v, r[c]? = some v → y.1 129 (72000 * W + 24 * i + c) = v) ∧ (∀ i r, K[i]? = some r → ∀ c, r.length ≤ c → c < 24 → y.1 129 (72000 * W + 24 * i + c) = 0) ∧ K.Pairwise (fun a b => ¬ a = b)
/-- the outcomes as they are told -/
def OUsq9 (y : gd) (W : Nat) (L : List (List Int32)) : Prop := (y.1 123 W).toInt = (L.length : Nat) ∧ L.length ≤ 3000 ∧ ∀ i r, L[i]? = some r → r.length ≤ 24 ∧ (∀ c v, r[c]? = some v → y.1 129 (72000 * W + 24 * i + c) = v) ∧ ∀ c, r.length ≤ c → c < 24 → y.1 129 (72000 * W + 24 * i + c) = 0
section MOU
variable {G : mG} {d D : Nat} {x z a y : gd} {F : Int32 → gd → Prop} {Fv : gd → Prop} {C : gCo} {M : gMa} {w T nl : Nat} {L : List (List Int32)} {r : List Int32}
theorem OUm_fq9 {W : Nat} (e3 : y.1 123 = x.1 123) (e9 : y.1 129 = x.1 129) (h : OUmq9 x W L) : OUmq9 y W L := sorry
theorem sp_locksOf3q9 (t : Int32) (et : t.toInt = T) (hT : T < 6) (en : (z.1 0 24).toInt = (nl : Nat)) (n6 : nl ≤ 6) (e71 : ∀ l, l < nl → z.1 71 l = Int32.ofNat (M.2.1 l).1 - 1 ∧ (M.2.1 l).1 ≤ 6) (h : F (hdNq9 M T nl) z) : MT G d z_locksOf 0 [(0, vr 0), (1, vi t)] [] z (ri F) := sorry
theorem t72eq9 {w i c : Int32} {W I c' : Nat} (wv : vp_in w 2) (eW : w.toNatClampNeg = W) (ei : i.toInt = I) (i1 : I < 3000) (ec : c.toInt = c') (c1 : c' < 24) : (72000 * w + 24 * i + c).toNatClampNeg = 72000 * W + 24 * I + c' := sorry
theorem inR_newq9 (h : soRq9 L) (hl : ∀ s ∈ L, s.length = r.length) (n : ¬ r ∈ L) : (inRq9 r L).length = L.length + 1 := sorry
theorem sp_addOutcome3q9 (w : Int32) (wv : vp_in w 2) {W N : Nat} (eW : w.toNatClampNeg = W) (o1 : L.length < 3000) (h23 : (z.1 0 23).toInt = (N : Nat)) (hN : N ≤ 24) (hso : soRq9 L) (hll : ∀ t ∈ L, t.length = N) (lr : r.length = N) (hr : ∀ c v, r[c]? = some v → z.1 70 c = v) (hr0 : ∀ c, N ≤ c → c < 24 → z.1 70 c = 0) (hL : OUmq9 z W L) (h : ∀ z', md [] [123, 129] z z' → ow W z z' → 0 ≤ (z'.1 123 W).toInt → (z'.1 123 W).toInt ≤ (z.1 123 W).toInt + 1 → OUmq9 z' W (inRq9 r L) → (∀ v, ¬ v = W → v < 2 → ∀ j, j < 72000 → z'.1 129 (72000 * v + j) = z.1 129 (72000 * v + j)) → Fv z') : MT G d z_addOutcome 0 [(0, vr 0), (1, vi w)] [] z (rv Fv) := sorry
end MOU

/-- a thread's take of lock b behind lock a -/
def tkPq9 (C : gCo) (w nl : Nat) (M : gMa) (t a b : Nat) : Prop := canM C w M t ∧ soM C (M.2.2 t) = 5 ∧ ¬ a = obM C (M.2.2 t).2.2.1 ∧ (hdNq9 M t nl >>> (Int32.ofNat a &&& 31)) &&& 1 = 1 ∧ b = obM C (M.2.2 t).2.2.1
def tkEq9 (C : gCo) (w nl : Nat) (M : gMa) (k a b : Nat) : Prop := ∃ t, t < k ∧ tkPq9 C w nl M t a b
def LE1q9 (C : gCo) (w : Nat) (M : gMa) (L : List (List Int32)) (z y : gd) (W : Nat) : Prop := (chM C w M = [] ∧ y.1 122 W = z.1 122 W + 1 ∧ OUmq9 y W (inRq9 (roMq9 C M) L)) ∨ (¬ chM C w M = [] ∧ y.1 122 W = z.1 122 W ∧ OUmq9 y W L)
/-- the other way's are left -/
def LW2q9 (z y : gd) (W : Nat) : Prop := ∀ v, v < 2 → ¬ v = W → y.1 122 v = z.1 122 v ∧ y.1 124 v = z.1 124 v ∧ y.1 125 v = z.1 125 v ∧ (∀ c, c < 24 → y.1 127 (24 * v + c) = z.1 127 (24 * v + c)) ∧ (∀ k, k < 36 → y.1 128 (36 * v + k) = z.1 128 (36 * v + k)) ∧ ∀ j, j < 72000 → y.1 129 (72000 * v + j) = z.1 129 (72000 * v + j)
def LZ0q9 (L : List (List Int32)) (n : Int32) (z y : gd) (W : Nat) : Prop := y.1 122 W = z.1 122 W ∧ y.1 124 W = z.1 124 W ∧ y.1 125 W = z.1 125 W + n ∧ y.1 127 = z.1 127 ∧ y.1 128 = z.1 128 ∧ OUmq9 y W L ∧ LW2q9 z y W
def LZ1q9 (C : gCo) (w : Nat) (M : gMa) (L : List (List Int32)) (n : Int32) (z y : gd) (W : Nat) : Prop := LE1q9 C w M L z y W ∧ y.1 124 W = z.1 124 W ∧ y.1 125 W = z.1 125 W + n ∧ y.1 127 = z.1 127 ∧ y.1 128 = z.1 128 ∧ LW2q9 z y W
def LZdq9 (C : gCo) (w : Nat) (M : gMa) (L : List (List Int32)) (n : Int32) (z y : gd) (W : Nat) : Prop := LE1q9 C w M L z y W ∧ ((idMq9 C w M ∧ y.1 124 W = z.1 124 W + 1) ∨ (¬ idMq9 C w M ∧ y.1 124 W = z.1 124 W)) ∧ y.1 125 W = z.1 125 W + n ∧ LW2q9 z y W
/-- k threads' acts are seen, of the next one commons if c, and takes behind the first j locks -/
def LZ3q9 (C : gCo) (w nl : Nat) (M : gMa) (L : List (List Int32)) (n : Int32) (z y : gd) (W k k' j : Nat) : Prop := LZdq9 C w M L n z y W ∧ (∀ c, c < 24 → y.1 127 (24 * W + c) = cmTq9 C w nl M c k' (z.1 127 (24 * W + c))) ∧ ∀ a, a < 6 → ∀ b, b < 6 → (¬ y.1 128 (36 * W + 6 * a + b) = 0 ↔ (¬ z.1 128 (36 * W + 6 * a + b) = 0 ∨ tkEq9 C w nl M (if a < j then k + 1 else k) a b))
def LZ2q9 (C : gCo) (w nl : Nat) (M : gMa) (L : List (List Int32)) (n : Int32) (z y : gd) (W k : Nat) : Prop := LZ3q9 C w nl M L n z y W k k 0
/-- nothing of it is touched -/
def eqLq9 (y y' : gd) : Prop := ∀ c, c = 122 ∨ c = 123 ∨ c = 124 ∨ c = 125 ∨ c = 127 ∨ c = 128 ∨ c = 129 → y'.1 c = y.1 c
section MLS
variable {C : gCo} {w nl : Nat} {M : gMa} {L : List (List Int32)} {n : Int32} {z y y' : gd} {W k k' j : Nat}
theorem eqL_rq9 (m : md rL rA y y') : eqLq9 y y' := sorry
theorem eqL_6q9 (m : md [] [126] y y') : eqLq9 y y' := sorry
theorem LW2_fq9 (e : eqLq9 y y') (h : LW2q9 z y W) : LW2q9 z y' W := sorry
theorem LE1_fq9 (e : eqLq9 y y') (h : LE1q9 C w M L z y W) : LE1q9 C w M L z y' W := sorry
theorem LZ0_fq9 (e : eqLq9 y y') (h : LZ0q9 L n z y W) : LZ0q9 L n z y' W := sorry
theorem LZ1_fq9 (e : eqLq9 y y') (h : LZ1q9 C w M L n z y W) : LZ1q9 C w M L n z y' W := sorry
theorem LZ3_fq9 (e : eqLq9 y y') (h : LZ3q9 C w nl M L n z y W k k' j) : LZ3q9 C w nl M L n z y' W k k' j := sorry
/-- a state with choices -/
theorem LZ0_1q9 (hc : ¬ chM C w M = []) (h : LZ0q9 L n z y W) : LZ1q9 C w M L n z y W := sorry
theorem tkE_upq9 {a b : Nat} : tkEq9 C w nl M (k + 1) a b ↔ tkEq9 C w nl M k a b ∨ tkPq9 C w nl M k a b := sorry
/-- locks beyond those that there are aren't held -/
theorem hd_hiq9 {t a : Nat} (ha : a < 6) : ∀ n, n ≤ a → (hdNq9 M t n >>> (Int32.ofNat a &&& 31)) &&& 1 = 0 := sorry
/-- a thread without an act adds nothing -/
theorem LZ2_nq9 (hn : ¬ canM C w M k) (h : LZ2q9 C w nl M L n z y W k) : LZ2q9 C w nl M L n z y W (k + 1) := sorry
/-- no more takes: the thread is done -/
theorem LZ3_endq9 (h : LZ3q9 C w nl M L n z y W k (k + 1) j) (hj : ∀ a b, j ≤ a → a < 6 → b < 6 → ¬ tkPq9 C w nl M k a b) : LZ2q9 C w nl M L n z y W (k + 1) := sorry
/-- the next lock: nothing is taken behind it -/
theorem LZ3_noq9 (h : LZ3q9 C w nl M L n z y W k k' j) (hj : ∀ b, b < 6 → ¬ tkPq9 C w nl M k j b) : LZ3q9 C w nl M L n z y W k k' (j + 1) := sorry
/-- the next lock: one is taken behind it -/
theorem LZ3_yesq9 {B : Nat} (W2 : W < 2) (hj6 : j < 6) (hB : B < 6) (ey : y' = si y 128 (36 * W + 6 * j + B) 1) (h : LZ3q9 C w nl M L n z y W k k' j) (hj : ∀ b, b < 6 → (tkPq9 C w nl M k j b ↔ b = B)) : LZ3q9 C w nl M L n z y' W k k' (j + 1) := sorry
/-- a thread's access, or none -/
theorem LZ2_cq9 (h : LZ2q9 C w nl M L n z y W k) (W2 : W < 2) (e : ∀ c, ¬ c = 127 → y'.1 c = y.1 c) (e7 : ∀ j, (∀ c, c < 24 → ¬ j = 24 * W + c) → y'.1 127 j = y.1 127 j) (hc : ∀ c, c < 24 → y'.1 127 (24 * W + c) = caTq9 C w nl M k c (y.1 127 (24 * W + c))) : LZ3q9 C w nl M L n z y' W k (k + 1) 0 := sorry
/-- what the model holds of all states -/
def MLoq9 (y : gd) (W : Nat) (l : gLoq9) : Prop := (y.1 122 W).toInt = (l.1 : Nat) ∧ (y.1 124 W).toInt = (l.2.1 : Nat) ∧ (y.1 125 W).toInt = (l.2.2.1 : Nat) ∧ (∀ c, c < 24 → y.1 127 (24 * W + c) = l.2.2.2.1 c) ∧ (∀ a, a < 6 → ∀ b, b < 6 → (¬ y.1 128 (36 * W + 6 * a + b) = 0 ↔ (l.2.2.2.2.1 a >>> (Int32.ofNat b &&& 31)) &&& 1 = 1)) ∧ OUmq9 y W l.2.2.2.2.2
theorem cb_bitq9 {a b : Nat} {v : Int32} (hb : b < 6) (ho : ∀ t, soM C (M.2.2 t) = 5 → canM C w M t → obM C (M.2.2 t).2.2.1 < 6) : ∀ k, ((cbTq9 C w nl M a k v >>> (Int32.ofNat b &&& 31)) &&& 1 = 1 ↔ ((v >>> (Int32.ofNat b &&& 31)) &&& 1 = 1 ∨ tkEq9 C w nl M k a b)) := sorry
theorem MLo_nextq9 {l : gLoq9} (hk : k < 3000) (hb : BLoq9 l k) (h84 : (chM C w M).length ≤ 84) (ho : ∀ t, soM C (M.2.2 t) = 5 → canM C w M t → obM C (M.2.2 t).2.2.1 < 6) (n84 : n.toInt = ((chM C w M).length : Nat)) (h : MLoq9 z W l) (g : LZ2q9 C w nl M l.2.2.2.2.2 n z y W C.2.1.length) : MLoq9 y W (loMq9 C w nl M l) := sorry
end MLS

section LO3
variable {G : mG} {d D : Nat} {x z a : gd} {F : Int32 → gd → Prop} {Fv : gd → Prop} {C : gCo} {Ma : gMa} {wn : Nat}
theorem lkI_m9q9 {T : Nat} (h : ¬ (lkI C Ma T).1 = 0) : (lkI C Ma T).2 = -1 := sorry
theorem sp_one3q9 (v : Int32) {P : Prop} (hv : ¬ v = 0 ↔ P) (h : ∀ r : Int32, ((P ∧ r = 1) ∨ (¬ P ∧ r = 0)) → F r x) : MT G d z_one 0 [(0, vi v)] [] x (ri F) := sorry
theorem sp_look3q9 {M : Int} {nl : Nat} {L : List (List Int32)} (hN : NC C) (hX : NXc C) (hq2 : NCq C) (w01 : wn = 0 ∨ wn = 1) (w s : Int32) (wv : vp_in w 2) (am : AM C wn Ma a) (hz0 : ∀ c, C.2.2.1.length ≤ c → Ma.1 c = 0) (l26 : (a.1 0 26).toInt = (C.2.2.2.1.length : Nat)) (l27 : (a.1 0 27).toInt = (C.2.2.2.2.length : Nat)) (e : eqS (Sl a) a z) (s0 : 0 ≤ s.toInt) (s1 : s.toInt < M) (hf : fnd z w.toNatClampNeg M) (o0 : 0 ≤ (z.1 123 w.toNatClampNeg).toInt) (o1 : (z.1 123 w.toNatClampNeg).toInt < 3000) (en : (a.1 0 24).toInt = (nl : Nat)) (hL : OUmq9 z w.toNatClampNeg L) (hlt : L.length < 3000) (hso : soRq9 L) (hll : ∀ t ∈ L, t.length = C.2.2.1.length) (hD : 5 ≤ D) (h : ∀ z', LKI z a w.toNatClampNeg M ((z.1 123 w.toNatClampNeg).toInt + 1) z' → FAm z z' w.toNatClampNeg s (fD C wn Ma 11) → LZ2q9 C wn nl Ma L (a.1 0 84) z z' w.toNatClampNeg C.2.1.length → Fv z') : MT G D z_look 0 [(0, vr 0), (1, vi w), (2, vi s)] [] z (rv Fv) := sorry
end LO3

/-- the other way's are left, also whether it is partly -/
def LW3q9 (z y : gd) (W : Nat) : Prop := LW2q9 z y W ∧ ∀ v, v < 2 → ¬ v = W → y.1 121 v = z.1 121 v
section MFG
variable {G : mG} {d : Nat} {z y y' u : gd} {Fv : gd → Prop} {W nl : Nat}
theorem LW2_trq9 (a : LW2q9 z y W) (b : LW2q9 y y' W) : LW2q9 z y' W := sorry
theorem LW3_trq9 (a : LW3q9 z y W) (b : LW3q9 y y' W) : LW3q9 z y' W := sorry
theorem LW3_eq9 (e : ∀ c, c = 121 ∨ c = 122 ∨ c = 124 ∨ c = 125 ∨ c = 127 ∨ c = 128 ∨ c = 129 → y.1 c = z.1 c) : LW3q9 z y W := sorry
/-- a cell of the way itself is written -/
theorem LW3_siq9 {c j : Nat} {x : Int32} (hW : W < 2) (h : ((c = 120 ∨ c = 121 ∨ c = 122 ∨ c = 123 ∨ c = 124 ∨ c = 125) ∧ j = W) ∨ c = 126 ∨ (c = 127 ∧ ∃ i, i < 24 ∧ j = 24 * W + i) ∨ (c = 128 ∧ ∃ i, i < 36 ∧ j = 36 * W + i)) : LW3q9 z (si z c j x) W := sorry
theorem sp_forgetTrying3q9 (w : Int32) (wv : vp_in w 2) (eW : w.toNatClampNeg = W) (en : (z.1 0 24).toInt = (nl : Nat)) (h : ∀ z', md [] [120, 121, 122, 123, 124, 125, 126, 127, 128] z z' → ow W z z' → z'.1 120 W = 0 → z'.1 121 W = 0 → z'.1 123 W = 0 → (∀ f : Nat, f < 11 → z'.1 126 (11 * W + f) = -1) → MLoq9 z' W (lo0q9 nl) → LW3q9 z z' W → Fv z') : MT G d z_forgetTrying 0 [(0, vr 0), (1, vi w)] [] z (rv Fv) := sorry
/-- what stays of it: all but the rows -/
def MLcq9 (y : gd) (W : Nat) (l : gLoq9) : Prop := (y.1 122 W).toInt = (l.1 : Nat) ∧ (y.1 124 W).toInt = (l.2.1 : Nat) ∧ (y.1 125 W).toInt = (l.2.2.1 : Nat) ∧ (∀ c, c < 24 → y.1 127 (24 * W + c) = l.2.2.2.1 c) ∧ (∀ a, a < 6 → ∀ b, b < 6 → (¬ y.1 128 (36 * W + 6 * a + b) = 0 ↔ (l.2.2.2.2.1 a >>> (Int32.ofNat b &&& 31)) &&& 1 = 1)) ∧ OUsq9 y W l.2.2.2.2.2
theorem MLc_ofq9 {l : gLoq9} (e : ∀ c, c = 122 ∨ c = 123 ∨ c = 124 ∨ c = 125 ∨ c = 127 ∨ c = 128 → y'.1 c = y.1 c) (hs : OUsq9 y' W l.2.2.2.2.2) (h : MLoq9 y W l) : MLcq9 y' W l := sorry
theorem MLo_fq9 {l : gLoq9} (e : eqLq9 y y') (h : MLoq9 y W l) : MLoq9 y' W l := sorry
end MFG

/-- rows of 24 from row B on -/
def RWmq9 (u : gd) (B : Nat) (Q : List (List Int32)) : Prop := ∀ i r, Q[i]? = some r → r.length = 24 ∧ ∀ c v, r[c]? = some v → u.1 129 (24 * (B + i) + c) = v
/-- what stays while rows change places: u holds P, of the rows that Q has -/
def SQmq9 (z u : gd) (W : Nat) (Q P : List (List Int32)) : Prop := md [] [129] z u ∧ (∀ j, (j < 72000 * W ∨ 72000 * W + 72000 ≤ j) → u.1 129 j = z.1 129 j) ∧ RWmq9 u (3000 * W) P ∧ P.length = Q.length ∧ (∀ r, r ∈ P ↔ r ∈ Q) ∧ P.Pairwise (fun a b => ¬ a = b)
/-- the first c places of rows m, m + 1 are changed -/
def SWiq9 (u v : gd) (B m c : Nat) : Prop := (∀ t, ¬ (24 * (B + m) ≤ t ∧ t < 24 * (B + m) + 48) → v.1 129 t = u.1 129 t) ∧ (∀ t, t < 24 → v.1 129 (24 * (B + m) + t) = if t < c then u.1 129 (24 * (B + (m + 1)) + t) else u.1 129 (24 * (B + m) + t)) ∧ (∀ t, t < 24 → v.1 129 (24 * (B + (m + 1)) + t) = if t < c then u.1 129 (24 * (B + m) + t) else u.1 129 (24 * (B + (m + 1)) + t))
section MSO
variable {G : mG} {d : Nat} {z u u' v x7 : gd} {F : Int32 → gd → Prop} {Fv : gd → Prop} {B m c I W : Nat} {A Bs R Q P : List (List Int32)} {a r s : List Int32}
theorem li_lastq9 {α : Type} : ∀ {m : Nat} {l : List α}, l.length = m + 1 → ∃ A a, l = A ++ [a] ∧ A.length = m := by
  intro m
  induction m with
  | zero =>
    intro l h
    cases l with
    | nil => cases h
    | cons b l =>
      cases l with
      | nil => exact ⟨[], b, rfl, rfl⟩
      | cons e l => cases h
  | succ m ih =>
    intro l h
    cases l with
    | nil => cases h
    | cons b l =>
      obtain ⟨A, a, e, hA⟩ := ih (l := l) (Nat.succ.inj h)
      exact ⟨b :: A, a, by rw [e]; rfl, by rw [List.length_cons, hA]⟩
theorem t24eq9 {i c : Int32} {I c' : Nat} (ei : i.toInt = I) (i1 : I < 6000) (ec : c.toInt = c') (c1 : c' < 24) : (24 * i + c).toNatClampNeg = 24 * I + c' := by
  have k2 : (24 : Int32).toInt = 24 := rfl
  have m2 : (24 * i).toInt = 24 * i.toInt := by rw [t_mul (by rw [k2]; omega) (by rw [k2]; omega), k2]
  rw [t_cl, t_add (by omega) (by omega), m2]; omega
theorem sp_isLess3q9 (a b : Int32) {A A' : Nat} (ea : a.toInt = A) (a1 : A < 6000) (eb : b.toInt = A') (b1 : A' < 6000) (lr : r.length = 24) (ls : s.length = 24) (hr : ∀ c v, r[c]? = some v → z.1 129 (24 * A + c) = v) (hs : ∀ c v, s[c]? = some v → z.1 129 (24 * A' + c) = v) (h0 : ¬ ltRq9 r s = true → F 0 z) (h1 : ltRq9 r s = true → F 1 z) : MT G d z_isLess 0 [(0, vr 0), (1, vi a), (2, vi b)] [] z (ri F) := by
  have k1 : (1 : Int32).toInt = 1 := rfl
  have k24 : (24 : Int32).toInt = 24 := rfl
  have loop : ∀ (n c' : Nat) (c : Int32), c.toInt = c' → 24 - c' ≤ n → c' ≤ 24 → r.take c' = s.take c' → MT G d z_isLess 2 [(0, vr 0), (1, vi a), (2, vi b), (3, vi c)] [] z (ri F) := by
    intro n
    have fin : ∀ (c' : Nat) (c : Int32), c.toInt = c' → c' ≤ 24 → r.take c' = s.take c' → (24 : Int32) ≤ c → ri F (some (vi 0)) z := by
      intro c' c ec hc ht q
      rw [t_le, k24] at q
      rw [List.take_of_length_le (by omega), List.take_of_length_le (by omega)] at ht
      exact ri_i (h0 (by rw [ht, ltR_irrq9]; decide))
    induction n with
    | zero =>
      intro c' c ec hn hc ht
      exact sg_isLess_2 _ _ _ ⟨fun q => fin c' c ec hc ht q, fun q => absurd (t_le.mpr (by rw [k24]; omega)) q⟩
    | succ n ih =>
      intro c' c ec hn hc ht
      refine sg_isLess_2 _ _ _ ⟨fun q => fin c' c ec hc ht q, fun q => ?_⟩
      rw [t_le, k24] at q
      have hc2 : c' < 24 := by omega
      have ci : (c + 1).toInt = ((c' + 1 : Nat) : Int) := by rw [t_add (by omega) (by omega), k1, ec]; rfl
      have va := t24 (i := a) (c := c) (by omega) (by omega) (by omega) (by omega)
      have vb := t24 (i := b) (c := c) (by omega) (by omega) (by omega) (by omega)
      obtain ⟨u, hu⟩ : ∃ u, r[c']? = some u := ⟨_, List.getElem?_eq_getElem (by omega)⟩
      obtain ⟨v, hv⟩ : ∃ v, s[c']? = some v := ⟨_, List.getElem?_eq_getElem (by omega)⟩
      rw [t24eq9 ea a1 ec hc2, t24eq9 eb b1 ec hc2, hr c' u hu, hs c' v hv]
      refine ⟨va, vb, fun e => ih (c' + 1) _ ci (by omega) hc2 (by rw [List.take_succ, List.take_succ, ht, hu, hv, e]), fun ne => ⟨va, vb, fun le => ri_i (h0 ?_), fun nle => ri_i (h1 ?_)⟩⟩
      · rw [ltR_atq9 ht hu hv ne, decide_eq_true_iff]
        rw [t_le] at le
        rw [t_lt]; omega
      · rw [ltR_atq9 ht hu hv ne]
        rw [t_le] at nle
        exact decide_eq_true (by rw [t_lt]; omega)
  exact sg_isLess_0 _ _ (loop 24 0 0 rfl (by omega) (by omega) rfl)
theorem SWi_goq9 (h : SWiq9 u v B m c) (hc : c < 24) (e : x7 = si (si v 129 (24 * (B + (m + 1)) + c) (v.1 129 (24 * (B + m) + c))) 129 (24 * (B + m) + c) (v.1 129 (24 * (B + (m + 1)) + c))) : SWiq9 u x7 B m (c + 1) := by
  obtain ⟨h1, h2, h3⟩ := h
  have g : ∀ t, x7.1 129 t = if t = 24 * (B + m) + c then v.1 129 (24 * (B + (m + 1)) + c) else if t = 24 * (B + (m + 1)) + c then v.1 129 (24 * (B + m) + c) else v.1 129 t := by
    intro t
    rw [e, si_get]
    by_cases e1 : t = 24 * (B + m) + c
    · rw [if_pos ⟨rfl, e1⟩, if_pos e1]
    · rw [if_neg (fun q => e1 q.2), if_neg e1, si_get]
      by_cases e2 : t = 24 * (B + (m + 1)) + c
      · rw [if_pos ⟨rfl, e2⟩, if_pos e2]
      · rw [if_neg (fun q => e2 q.2), if_neg e2]
  refine ⟨fun t ht => ?_, fun t ht => ?_, fun t ht => ?_⟩
  · rw [g, if_neg (by clear h1 h2 h3 g; omega), if_neg (by clear h1 h2 h3 g; omega)]; exact h1 t ht
  · rw [g]
    by_cases e1 : t = c
    · rw [e1, if_pos rfl, if_pos (Nat.lt_succ_self _), h3 c hc, if_neg (Nat.lt_irrefl _)]
    · rw [if_neg (by clear h1 h2 h3 g; omega), if_neg (by clear h1 h2 h3 g; omega), h2 t ht]
      by_cases c2 : t < c
      · rw [if_pos c2, if_pos (Nat.lt_succ_of_lt c2)]
      · rw [if_neg c2, if_neg (by clear h1 h2 h3 g; omega)]
  · rw [g]
    by_cases e1 : t = c
    · rw [e1, if_neg (by clear h1 h2 h3 g; omega), if_pos rfl, if_pos (Nat.lt_succ_self _), h2 c hc, if_neg (Nat.lt_irrefl _)]
    · rw [if_neg (by clear h1 h2 h3 g; omega), if_neg (by clear h1 h2 h3 g; omega), h3 t ht]
      by_cases c2 : t < c
      · rw [if_pos c2, if_pos (Nat.lt_succ_of_lt c2)]
      · rw [if_neg c2, if_neg (by clear h1 h2 h3 g; omega)]
/-- two rows change places -/
theorem ms_swapq9 (w Bi i j : Int32) (hB : B + m + 1 < 6000) (ej : j.toInt = ((B + (m + 1) : Nat) : Int)) (hF : ∀ v, md [] [129] u v → SWiq9 u v B m 24 → MT G (d + 1) z_sortOutcomes 25 [(0, vr 0), (1, vi w), (2, vi Bi), (3, vi i), (4, vi (j + -1))] [] v (rv Fv)) : MT G (d + 1) z_sortOutcomes 47 [(0, vr 0), (1, vi w), (2, vi Bi), (3, vi i), (4, vi j), (5, vi 0)] [] u (rv Fv) := by
  have k1 : (1 : Int32).toInt = 1 := rfl
  have k24 : (24 : Int32).toInt = 24 := rfl
  have ej1 : (j - 1).toInt = ((B + m : Nat) : Int) := by rw [t_sub (by omega) (by omega), k1, ej]; push_cast; omega
  have loop : ∀ (n c' : Nat) (c : Int32) (v : gd), c.toInt = c' → 24 - c' ≤ n → c' ≤ 24 → md [] [129] u v → SWiq9 u v B m c' → MT G (d + 1) z_sortOutcomes 47 [(0, vr 0), (1, vi w), (2, vi Bi), (3, vi i), (4, vi j), (5, vi c)] [] v (rv Fv) := by
    intro n
    have fin : ∀ (c' : Nat) (c : Int32) (v : gd), c.toInt = c' → c' ≤ 24 → md [] [129] u v → SWiq9 u v B m c' → (24 : Int32) ≤ c → MT G (d + 1) z_sortOutcomes 25 [(0, vr 0), (1, vi w), (2, vi Bi), (3, vi i), (4, vi (j + -1))] [] v (rv Fv) := by
      intro c' c v ec hc mv sv q
      rw [t_le, k24] at q
      have e : c' = 24 := by omega
      rw [e] at sv
      exact hF v mv sv
    induction n with
    | zero =>
      intro c' c v ec hn hc mv sv
      exact sg_sortOutcomes_47 _ _ _ _ _ ⟨fun q => fin c' c v ec hc mv sv q, fun q => absurd (t_le.mpr (by rw [k24]; omega)) q⟩
    | succ n ih =>
      intro c' c v ec hn hc mv sv
      refine sg_sortOutcomes_47 _ _ _ _ _ ⟨fun q => fin c' c v ec hc mv sv q, fun q => ?_⟩
      rw [t_le, k24] at q
      have hc2 : c' < 24 := by omega
      have ci : (c + 1).toInt = ((c' + 1 : Nat) : Int) := by rw [t_add (by omega) (by omega), k1, ec]; rfl
      have va := t24 (i := j) (c := c) (by omega) (by omega) (by omega) (by omega)
      have vb := t24 (i := j - 1) (c := c) (by omega) (by omega) (by omega) (by omega)
      rw [t24eq9 ej (by omega) ec hc2, t24eq9 ej1 (by omega) ec hc2]
      refine ⟨va, vb, va, fun x5 e5 => ⟨vb, fun y7 e7 => ?_⟩⟩
      have m5 := md_a v 129 (24 * (B + (m + 1)) + c') (v.1 129 (24 * (B + m) + c')) (by decide)
      rw [← e5] at m5
      have m7 := md_a x5 129 (24 * (B + m) + c') (v.1 129 (24 * (B + (m + 1)) + c')) (by decide)
      rw [← e7] at m7
      exact ih (c' + 1) (c + 1) y7 ci (by omega) hc2 (md_tr (md_tr (L3 := []) (A3 := [129]) mv m5 rfl rfl) m7 rfl rfl) (SWi_goq9 sv hc2 (by rw [e7, e5]))
  exact loop 24 0 0 u rfl (by omega) (by omega) (md_w (md_rf u) (by decide) (by decide)) ⟨fun _ _ => rfl, fun t _ => by rw [if_neg (Nat.not_lt_zero _)], fun t _ => by rw [if_neg (Nat.not_lt_zero _)]⟩
theorem RWm_swapq9 (hA : A.length = m) (h : RWmq9 u B (A ++ a :: r :: R)) (g : SWiq9 u v B m 24) : RWmq9 v B (A ++ r :: a :: R) := by
  obtain ⟨v1, v2, v3⟩ := g
  have ga : (A ++ a :: r :: R)[m]? = some a := by rw [List.getElem?_append_right (by omega), hA, Nat.sub_self]; rfl
  have gr : (A ++ a :: r :: R)[m + 1]? = some r := by rw [List.getElem?_append_right (by omega), hA, show m + 1 - m = 1 by omega]; rfl
  obtain ⟨la, ha⟩ := h m a ga
  obtain ⟨lr, hr⟩ := h (m + 1) r gr
  intro x rr hx
  by_cases x1 : x = m
  · rw [x1, List.getElem?_append_right (by omega), hA, Nat.sub_self] at hx
    have er : r = rr := Option.some.inj hx
    rw [← er]
    refine ⟨lr, fun t o ho => ?_⟩
    have tl := gt_lt ho
    rw [lr] at tl
    rw [x1, v2 t tl, if_pos tl]; exact hr t o ho
  · by_cases x2 : x = m + 1
    · rw [x2, List.getElem?_append_right (by omega), hA, show m + 1 - m = 1 by omega] at hx
      have er : a = rr := Option.some.inj hx
      rw [← er]
      refine ⟨la, fun t o ho => ?_⟩
      have tl := gt_lt ho
      rw [la] at tl
      rw [x2, v3 t tl, if_pos tl]; exact ha t o ho
    · have hx2 : (A ++ a :: r :: R)[x]? = some rr := by
        by_cases x3 : x < m
        · rw [List.getElem?_append_left (by omega)] at hx ⊢; exact hx
        · rw [List.getElem?_append_right (by omega), hA] at hx ⊢
          obtain ⟨o, eo⟩ : ∃ o, x - m = o + 1 + 1 := ⟨x - m - 2, by omega⟩
          rw [eo] at hx ⊢
          exact hx
      obtain ⟨l9, h9⟩ := h x rr hx2
      refine ⟨l9, fun t o ho => ?_⟩
      have tl := gt_lt ho
      rw [l9] at tl
      rw [v1 _ (by clear v1 v2 v3 h9 ha hr h; omega)]; exact h9 t o ho
theorem sw_memq9 {e : List Int32} : e ∈ A ++ r :: a :: R ↔ e ∈ A ++ a :: r :: R := by
  rw [List.mem_append, List.mem_append, List.mem_cons, List.mem_cons, List.mem_cons, List.mem_cons]
  constructor
  · rintro (y | y | y | y)
    · exact Or.inl y
    · exact Or.inr (Or.inr (Or.inl y))
    · exact Or.inr (Or.inl y)
    · exact Or.inr (Or.inr (Or.inr y))
  · rintro (y | y | y | y)
    · exact Or.inl y
    · exact Or.inr (Or.inr (Or.inl y))
    · exact Or.inr (Or.inl y)
    · exact Or.inr (Or.inr (Or.inr y))
theorem sw_ndq9 (h : (A ++ a :: r :: R).Pairwise (fun a b => ¬ a = b)) : (A ++ r :: a :: R).Pairwise (fun a b => ¬ a = b) := by
  obtain ⟨d1, d2, d3⟩ := List.pairwise_append.mp h
  obtain ⟨d4, d5⟩ := List.pairwise_cons.mp d2
  obtain ⟨d6, d7⟩ := List.pairwise_cons.mp d5
  have ne : ¬ r = a := fun e => d4 r (List.mem_cons_self ..) e.symm
  refine List.pairwise_append.mpr ⟨d1, List.pairwise_cons.mpr ⟨fun b hb => ?_, List.pairwise_cons.mpr ⟨fun b hb => d4 b (List.mem_cons_of_mem _ hb), d7⟩⟩, fun x hx b hb => d3 x hx b ?_⟩
  · rcases List.mem_cons.mp hb with y | y
    · rw [y]; exact ne
    · exact d6 b y
  · rcases List.mem_cons.mp hb with y | y
    · rw [y]; exact List.mem_cons_of_mem _ (List.mem_cons_self ..)
    · rcases List.mem_cons.mp y with y | y
      · rw [y]; exact List.mem_cons_self ..
      · exact List.mem_cons_of_mem _ (List.mem_cons_of_mem _ y)
theorem SQm_swapq9 (W3 : m + 1 < 3000) (hA : A.length = m) (h : SQmq9 z u W Q (A ++ a :: r :: R)) (mv : md [] [129] u v) (g : SWiq9 u v (3000 * W) m 24) : SQmq9 z v W Q (A ++ r :: a :: R) := by
  obtain ⟨q1, q2, q3, q4, q5, q6⟩ := h
  refine ⟨md_tr q1 mv rfl rfl, fun t ht => ?_, RWm_swapq9 hA q3 g, ?_, fun e => by rw [← q5 e]; exact sw_memq9, sw_ndq9 q6⟩
  · rw [g.1 t (by clear q2 q3 q5 q6 g; omega)]; exact q2 t ht
  · rw [← q4, List.length_append, List.length_append]; rfl
theorem ms_nxtq9 (hl : A.length + Bs.length = I) (hs : soRq9 (A ++ Bs)) (hb : ∀ b ∈ Bs, ltRq9 r b = true) (ha : ∀ a ∈ A, ltRq9 a r = true) : soRq9 ((A ++ r :: (Bs ++ R)).take (I + 1)) := by
  have e : (A ++ r :: (Bs ++ R)).take (I + 1) = A ++ r :: Bs := by
    rw [show A ++ r :: (Bs ++ R) = (A ++ r :: Bs) ++ R by rw [List.append_assoc]; rfl]
    rw [List.take_append_of_le_length (by rw [List.length_append, List.length_cons]; omega), List.take_of_length_le (by rw [List.length_append, List.length_cons]; omega)]
  rw [e]
  obtain ⟨h1, h2, h3⟩ := List.pairwise_append.mp hs
  refine List.pairwise_append.mpr ⟨h1, List.pairwise_cons.mpr ⟨hb, h2⟩, fun a ha9 b hb9 => ?_⟩
  rcases List.mem_cons.mp hb9 with q | q
  · rw [q]; exact ha a ha9
  · exact h3 a ha9 b q
/-- a row goes down to its place -/
theorem ms_inq9 (w Bi i : Int32) {B0 : Nat} (e0 : 3000 * W = B0) (W2 : B0 ≤ 3000) (b1 : Bi.toInt = (B0 : Nat)) (hI : I < 3000) (hF : ∀ v P, SQmq9 z v W Q P → soRq9 (P.take (I + 1)) → MT G (d + 1) z_sortOutcomes 10 [(0, vr 0), (1, vi w), (2, vi Bi), (3, vi (i + 1))] [] v (rv Fv)) : ∀ (m : Nat) (A : List (List Int32)) (r : List Int32) (Bs R : List (List Int32)) (u : gd) (j : Int32), A.length = m → m + Bs.length = I → j.toInt = ((B0 + m : Nat) : Int) → SQmq9 z u W Q (A ++ r :: (Bs ++ R)) → soRq9 (A ++ Bs) → (∀ b ∈ Bs, ltRq9 r b = true) → MT G (d + 1) z_sortOutcomes 25 [(0, vr 0), (1, vi w), (2, vi Bi), (3, vi i), (4, vi j)] [] u (rv Fv) := by
  have k1 : (1 : Int32).toInt = 1 := rfl
  intro m
  induction m with
  | zero =>
    intro A r Bs R u j hA hl ej kp hs hb
    have eA : A = [] := List.eq_nil_of_length_eq_zero hA
    have ej0 : j.toInt = (B0 : Nat) := ej
    exact sg_sortOutcomes_25 _ _ _ _ ⟨fun _ => hF u _ kp (ms_nxtq9 (by rw [hA]; exact hl) hs hb (fun a ha => by rw [eA] at ha; cases ha)), fun q => absurd (t_le.mpr (by rw [ej0, b1]; exact Int.le_refl _)) q⟩
  | succ m ihm =>
    intro A r Bs R u j hA hl ej kp hs hb
    have eji : j.toInt = (B0 : Int) + m + 1 := by rw [ej]; exact Int.natCast_add B0 (m + 1)
    have mI : m + 1 ≤ I := by rw [← hl]; exact Nat.le_add_right _ _
    refine sg_sortOutcomes_25 _ _ _ _ ⟨fun q => ?_, fun q => ?_⟩
    · rw [t_le, eji, b1] at q
      exact absurd q (by clear kp hs hb hF ihm; omega)
    obtain ⟨A', a, eA, lA'⟩ := li_lastq9 hA
    have eP : A ++ r :: (Bs ++ R) = A' ++ a :: r :: (Bs ++ R) := by rw [eA, List.append_assoc]; rfl
    have kp2 := kp
    rw [eP] at kp2
    have q3 := kp2.2.2.1
    rw [e0] at q3
    have q6 := kp2.2.2.2.2.2
    have ga : (A' ++ a :: r :: (Bs ++ R))[m]? = some a := by rw [List.getElem?_append_right (Nat.le_of_eq lA'), lA', Nat.sub_self]; rfl
    have gr : (A' ++ a :: r :: (Bs ++ R))[m + 1]? = some r := by rw [List.getElem?_append_right (by rw [lA']; exact Nat.le_succ _), lA', Nat.add_sub_cancel_left]; rfl
    obtain ⟨la, ha⟩ := q3 m a ga
    obtain ⟨lr, hr⟩ := q3 (m + 1) r gr
    have ej1 : (j - 1).toInt = ((B0 + m : Nat) : Int) := by
      rw [t_sub (by rw [eji, k1]; clear kp kp2 q3 hs hb hF ihm hr ha; omega) (by rw [eji, k1]; clear kp kp2 q3 hs hb hF ihm hr ha; omega), k1, eji, Int.natCast_add]
      exact Int.add_sub_cancel _ _
    have ejm : (j + -1).toInt = ((B0 + m : Nat) : Int) := by
      rw [t_add (by rw [eji, tm1]; clear kp kp2 q3 hs hb hF ihm hr ha; omega) (by rw [eji, tm1]; clear kp kp2 q3 hs hb hF ihm hr ha; omega), tm1, eji, Int.natCast_add]
      exact Int.add_neg_cancel_right _ _
    have ne : ¬ r = a := fun e => (List.pairwise_cons.mp (List.pairwise_append.mp q6).2.1).1 r (List.mem_cons_self ..) e.symm
    have hs' : soRq9 (A' ++ a :: Bs) := by rw [eA, List.append_assoc] at hs; exact hs
    have b6 : B0 + (m + 1) < 6000 := by clear kp kp2 q3 hs hb hF ihm hr ha; omega
    have b5 : B0 + m < 6000 := Nat.lt_of_succ_lt b6
    refine sp_isLess3q9 (A := B0 + (m + 1)) (A' := B0 + m) j (j - 1) ej b6 ej1 b5 lr la hr ha (fun nl => ⟨fun _ => ?_, fun z9 => absurd rfl z9⟩) (fun lt => ⟨fun z9 => absurd z9 (by decide), fun _ => ?_⟩)
    · have lar : ltRq9 a r = true := (ltR_totq9 (by rw [lr, la]) ne).resolve_left nl
      refine hF u _ kp (ms_nxtq9 (by rw [hA]; exact hl) hs hb (fun b hb9 => ?_))
      rw [eA] at hb9
      rcases List.mem_append.mp hb9 with y | y
      · exact ltR_trq9 ((List.pairwise_append.mp hs').2.2 b y a (List.mem_cons_self ..)) lar
      · rw [List.mem_singleton.mp y]; exact lar
    · refine ms_swapq9 (B := B0) (m := m) w Bi i j b6 ej (fun v mv sv => ihm A' r (a :: Bs) R v (j + -1) lA' (by rw [List.length_cons, ← hl]; exact (Nat.add_right_comm m 1 Bs.length).symm) ejm (SQm_swapq9 (Nat.lt_of_le_of_lt mI hI) lA' kp2 mv (by rw [e0]; exact sv)) hs' (fun b hb9 => ?_))
      rcases List.mem_cons.mp hb9 with y | y
      · rw [y]; exact lt
      · exact hb b y
theorem soR_1q9 : ∀ Q : List (List Int32), soRq9 (Q.take 1)
  | [] => List.Pairwise.nil
  | q :: Q => by
    rw [List.take_succ_cons, List.take_zero]
    exact List.pairwise_singleton _ _
theorem sp_sortOutcomes3q9 (w : Int32) (wv : vp_in w 2) (eW : w.toNatClampNeg = W) (eO : (z.1 123 W).toInt = (Q.length : Nat)) (o1 : Q.length ≤ 3000) (hQ : RWmq9 z (3000 * W) Q) (nd : Q.Pairwise (fun a b => ¬ a = b)) (h : ∀ z' S, SQmq9 z z' W Q S → soRq9 S → Fv z') : MT G (d + 1) z_sortOutcomes 0 [(0, vr 0), (1, vi w)] [] z (rv Fv) := by
  have k1 : (1 : Int32).toInt = 1 := rfl
  have tv := vp_in_iff.mp wv
  have W2 : W < 2 := by rw [← eW]; exact vp_lt wv
  have cw : w.toInt = (W : Nat) := by rw [t_cl] at eW; clear eO hQ nd h; omega
  obtain ⟨Bi, eB⟩ : ∃ B, B = 3000 * w := ⟨_, rfl⟩
  obtain ⟨B0, e0⟩ : ∃ B0, 3000 * W = B0 := ⟨_, rfl⟩
  have b13 : Bi.toInt = (B0 : Nat) ∧ B0 ≤ 3000 := by
    rcases (show W = 0 ∨ W = 1 by clear eO hQ nd h; omega) with c | c
    · have w0 : w = 0 := t_eq.mpr (by rw [cw, c]; rfl)
      rw [eB, ← e0, c, w0]; decide
    · have w1 : w = 1 := t_eq.mpr (by rw [cw, c]; rfl)
      rw [eB, ← e0, c, w1]; decide
  obtain ⟨b1, b3⟩ := b13
  obtain ⟨O, hO⟩ : ∃ O, O = z.1 123 W := ⟨_, rfl⟩
  rw [← hO] at eO
  obtain ⟨q, eq⟩ : ∃ q, q = Q.length := ⟨_, rfl⟩
  rw [← eq] at eO o1
  have bo : (Bi + O).toInt = (B0 : Int) + q := by rw [t_add (by rw [b1, eO]; clear hQ nd h; omega) (by rw [b1, eO]; clear hQ nd h; omega), b1, eO]
  have y123 : ∀ {y : gd} {P : List (List Int32)}, SQmq9 z y W Q P → y.1 123 w.toNatClampNeg = O := fun kp => by rw [kp.1.2.1 123 (by decide) (by decide), eW, hO]
  have lP : ∀ {y : gd} {P : List (List Int32)}, SQmq9 z y W Q P → P.length = q := fun kp => by rw [kp.2.2.2.1, eq]
  have p10 : ∀ (n I : Nat) (P : List (List Int32)) (y : gd) (i : Int32), 1 ≤ I → I ≤ 3001 → i.toInt = (B0 : Int) + I → q - I ≤ n → SQmq9 z y W Q P → soRq9 (P.take I) → MT G (d + 1) z_sortOutcomes 10 [(0, vr 0), (1, vi w), (2, vi Bi), (3, vi i)] [] y (rv Fv) := by
    intro n
    have fin : ∀ (I : Nat) (P : List (List Int32)) (y : gd) (i : Int32), i.toInt = (B0 : Int) + I → SQmq9 z y W Q P → soRq9 (P.take I) → Bi + O ≤ i → rv Fv none y := by
      intro I P y i ei kp hs c
      rw [t_le, bo, ei] at c
      have l := lP kp
      rw [List.take_of_length_le (by rw [l]; clear kp hs hQ nd h; omega)] at hs
      exact rv_i (h y P kp hs)
    induction n with
    | zero =>
      intro I P y i I1 I3 ei hn kp hs
      refine sg_sortOutcomes_10 _ _ _ ⟨wv, ?_⟩
      rw [y123 kp]
      exact ⟨fun c => fin I P y i ei kp hs c, fun c => absurd (t_le.mpr (by rw [bo, ei]; clear kp hs hQ nd h fin; omega)) c⟩
    | succ n ih =>
      intro I P y i I1 I3 ei hn kp hs
      refine sg_sortOutcomes_10 _ _ _ ⟨wv, ?_⟩
      rw [y123 kp]
      refine ⟨fun c => fin I P y i ei kp hs c, fun c => ?_⟩
      rw [t_le, bo, ei] at c
      have hI : I < q := by clear kp hs hQ nd h fin ih; omega
      have l := lP kp
      have ii : (i + 1).toInt = (B0 : Int) + (I + 1 : Nat) := by
        rw [t_add (by rw [ei, k1]; clear kp hs hQ nd h fin ih; omega) (by rw [ei, k1]; clear kp hs hQ nd h fin ih; omega), k1, ei, Int.add_assoc]; rfl
      have hIP : I < P.length := by rw [l]; exact hI
      obtain ⟨r, hr⟩ : ∃ r, P.drop I = r :: P.drop (I + 1) := ⟨_, List.drop_eq_getElem_cons hIP⟩
      have eP : P = P.take I ++ r :: ([] ++ P.drop (I + 1)) := by
        rw [List.nil_append, ← hr, List.take_append_drop]
      refine ms_inq9 w Bi i (B0 := B0) e0 b3 b1 (I := I) (by clear kp hs hQ nd h fin ih; omega) (fun v P' kp' hs' => ih (I + 1) P' v (i + 1) (Nat.le_add_left _ _) (by clear kp hs hQ nd h fin ih kp' hs'; omega) ii (by clear kp hs hQ nd h fin ih kp' hs'; omega) kp' hs') I (P.take I) r [] (P.drop (I + 1)) y i (by rw [List.length_take]; exact Nat.min_eq_left (Nat.le_of_lt hIP)) rfl (by rw [ei]; exact (Int.natCast_add _ _).symm) (by rw [← eP]; exact kp) (by rw [List.append_nil]; exact hs) (fun b hb => by cases hb)
  refine sg_sortOutcomes_0 _ ?_
  rw [← eB]
  exact p10 q 1 Q z (Bi + 1) (Nat.le_refl _) (by decide) (by rw [t_add (by rw [b1, k1]; clear hQ nd h; omega) (by rw [b1, k1]; clear hQ nd h; omega), k1, b1]; rfl) (Nat.sub_le _ _) ⟨md_w (md_rf z) (by decide) (by decide), fun _ _ => rfl, hQ, rfl, fun _ => Iff.rfl, nd⟩ (soR_1q9 Q)
end MSO

/-- a row with the places that are beyond all cells -/
def pdRq9 (r : List Int32) : List Int32 := r ++ List.replicate (24 - r.length) 0
section PDR
variable {z y y' : gd} {W N c : Nat} {r s : List Int32} {L Q S : List (List Int32)}
theorem pd_lenq9 (h : r.length ≤ 24) : (pdRq9 r).length = 24 := by
  unfold pdRq9
  rw [List.length_append, List.length_replicate]; omega
theorem pd_loq9 (h : c < r.length) : (pdRq9 r)[c]? = r[c]? := by
  unfold pdRq9
  exact List.getElem?_append_left h
theorem pd_hiq9 (h1 : r.length ≤ c) (h2 : c < 24) : (pdRq9 r)[c]? = some 0 := by
  unfold pdRq9
  rw [List.getElem?_append_right h1, List.getElem?_replicate, if_pos (by omega)]
theorem ltR_appq9 : ∀ {r s t : List Int32}, r.length = s.length → ltRq9 r s = true → ltRq9 (r ++ t) (s ++ t) = true := by
  intro r
  induction r with
  | nil => intro s t h1 h2; cases s <;> exact absurd h2 (by simp [ltRq9])
  | cons a r ih =>
    intro s t h1 h2
    cases s with
    | nil => cases h1
    | cons b s =>
      show ltRq9 (a :: (r ++ t)) (b :: (s ++ t)) = true
      rw [ltRq9] at h2 ⊢
      by_cases e : a = b
      · rw [if_pos e] at h2 ⊢
        exact ih (Nat.succ.inj h1) h2
      · rw [if_neg e] at h2 ⊢
        exact h2
theorem ltR_pdq9 (h : r.length = s.length) (g : ltRq9 r s = true) : ltRq9 (pdRq9 r) (pdRq9 s) = true := by
  unfold pdRq9
  rw [h]
  exact ltR_appq9 h g
theorem pd_injq9 (h : r.length = s.length) (g : pdRq9 r = pdRq9 s) : r = s := by
  unfold pdRq9 at g
  exact List.append_inj_left g h
theorem OUm_sortq9 (h : OUmq9 y W L) (so : soRq9 L) (hl : ∀ r ∈ L, r.length = N) (n24 : N ≤ 24) (l3 : L.length ≤ 3000) : ∃ Q : List (List Int32), (y.1 123 W).toInt = (Q.length : Nat) ∧ Q.length ≤ 3000 ∧ RWmq9 y (3000 * W) Q ∧ Q.Pairwise (fun a b => ¬ a = b) ∧ ∀ y' S, SQmq9 y y' W Q S → soRq9 S → OUsq9 y' W L := by
  obtain ⟨K, K1, K2, K3, K4, K5, K6⟩ := h
  have kl : ∀ r ∈ K, r.length = N := fun r hr => hl r ((K3 r).mp hr)
  refine ⟨K.map pdRq9, by rw [List.length_map]; exact K1, by rw [List.length_map, K2]; exact l3, fun i r' hr' => ?_, ?_, fun y' S sq ss => ?_⟩
  · rw [List.getElem?_map] at hr'
    cases hk : K[i]? with
    | none => rw [hk] at hr'; cases hr'
    | some r =>
      rw [hk] at hr'
      have er : pdRq9 r = r' := Option.some.inj hr'
      have lr := kl r (List.mem_of_getElem? hk)
      rw [← er]
      refine ⟨pd_lenq9 (by omega), fun c v hv => ?_⟩
      have cl := gt_lt hv
      rw [pd_lenq9 (by omega)] at cl
      rw [show 24 * (3000 * W + i) + c = 72000 * W + 24 * i + c by omega]
      by_cases c1 : c < r.length
      · rw [pd_loq9 c1] at hv; exact K4 i r hk c v hv
      · rw [pd_hiq9 (by omega) cl] at hv
        rw [K5 i r hk c (by omega) cl]; exact Option.some.inj hv
  · rw [List.pairwise_map]
    exact List.Pairwise.imp_of_mem (fun ha hb h e => h (pd_injq9 (by rw [kl _ ha, kl _ hb]) e)) K6
  · have eS : S = L.map pdRq9 := by
      refine soR_eqq9 ss ?_ (fun r => ?_)
      · unfold soRq9
        rw [List.pairwise_map]
        exact List.Pairwise.imp_of_mem (fun ha hb h => ltR_pdq9 (by rw [hl _ ha, hl _ hb]) h) so
      · rw [sq.2.2.2.2.1 r, List.mem_map, List.mem_map]
        exact ⟨fun ⟨a, h1, h2⟩ => ⟨a, (K3 a).mp h1, h2⟩, fun ⟨a, h1, h2⟩ => ⟨a, (K3 a).mpr h1, h2⟩⟩
    refine ⟨by rw [sq.1.2.1 123 (by decide) (by decide), K1, K2], l3, fun i r hr => ?_⟩
    have lr := hl r (List.mem_of_getElem? hr)
    obtain ⟨-, g⟩ := sq.2.2.1 i (pdRq9 r) (by rw [eS, List.getElem?_map, hr]; rfl)
    have e : ∀ c, 24 * (3000 * W + i) + c = 72000 * W + 24 * i + c := fun c => by omega
    exact ⟨by omega, fun c v hv => by rw [← e c]; exact g c v (by rw [pd_loq9 (gt_lt hv)]; exact hv), fun c c1 c2 => by rw [← e c]; exact g c 0 (pd_hiq9 c1 c2)⟩
theorem LW3_sqq9 (W2 : W < 2) (h : SQmq9 z y W Q S) : LW3q9 z y W := by
  have e : ∀ c, c = 121 ∨ c = 122 ∨ c = 124 ∨ c = 125 ∨ c = 127 ∨ c = 128 → y.1 c = z.1 c := fun c hc => by
    rcases hc with e | e | e | e | e | e <;> rw [e] <;> exact h.1.2.1 _ (by decide) (by decide)
  exact ⟨fun v v1 v2 => ⟨by rw [e 122 (by omega)], by rw [e 124 (by omega)], by rw [e 125 (by omega)], fun c _ => by rw [e 127 (by omega)], fun k _ => by rw [e 128 (by omega)], fun j hj => h.2.1 _ (by omega)⟩, fun v _ _ => by rw [e 121 (by omega)]⟩
end PDR

/-- what is told of all states, the other way's left -/
def TKxq9 (z9 : gd) (C : gCo) (nl wn W : Nat) (T : gTy) (y : gd) : Prop := MLoq9 y W (loSq9 C wn nl T T.1.length) ∧ BLoq9 (loSq9 C wn nl T T.1.length) T.1.length ∧ LW3q9 z9 y W
def TJoq9 (C : gCo) (nl wn : Nat) (A : Nat → gd) (W : Nat) (T : gTy) (y : gd) : Prop := (∀ s p, T.1[s]? = some p → AM C wn p.1 (A s) ∧ MCn C nl p.1 ∧ NBm p.1) ∧ FN3 C wn (fun f => y.1 126 (11 * W + f)) T T.1.length ∧ (y.1 121 W = if T.2 = true then 1 else 0) ∧ ∀ s9 p9, T.1[s9]? = some p9 → 0 < s9 → (y.1 130 (3000 * W + s9)).toInt = (p9.2.1 : Nat) ∧ (y.1 131 (3000 * W + s9)).toInt = (p9.2.2 : Nat)
def TJeq9 (z9 : gd) (C : gCo) (nl wn W : Nat) (T : gTy) (y : gd) : Prop := MLcq9 y W (loSq9 C wn nl T T.1.length) ∧ LW3q9 z9 y W
/-- a lock that is taken is one of those that there are -/
theorem ob_ltq9 {C : gCo} {nl w : Nat} {M : gMa} (hLk : LkN C nl) (n6 : nl ≤ 6) (t : Nat) (h5 : soM C (M.2.2 t) = 5) (_ : canM C w M t) : obM C (M.2.2 t).2.2.1 < 6 := by
  have w0 : (M.2.2 t).2.2.2.1 = 0 := by
    by_cases w0 : (M.2.2 t).2.2.2.1 = 0
    · exact w0
    · unfold soM at h5; rw [if_neg w0] at h5; omega
  unfold soM at h5
  rw [if_pos w0] at h5
  cases hs : C.1[(M.2.2 t).2.2.1]? with
  | none =>
    unfold stN at h5
    rw [hs] at h5
    exact absurd h5 (by decide)
  | some st =>
    have e := stN_is hs
    rw [e] at h5
    have := hLk _ st hs (by omega) (by omega)
    unfold obM
    rw [e]; omega
/-- what the memory tells of a trying's states -/
def TJq9 (z9 : gd) (C : gCo) (nl wn : Nat) (A : Nat → gd) (W : Nat) (T : gTy) (y : gd) : Prop := (∀ s p, T.1[s]? = some p → AM C wn p.1 (A s) ∧ MCn C nl p.1 ∧ NBm p.1) ∧ FN3 C wn (fun f => y.1 126 (11 * W + f)) T T.1.length ∧ (y.1 121 W = if T.2 = true then 1 else 0) ∧ (∀ s p, T.1[s]? = some p → 0 < s → (y.1 130 (3000 * W + s)).toInt = (p.2.1 : Nat) ∧ (y.1 131 (3000 * W + s)).toInt = (p.2.2 : Nat)) ∧ TKxq9 z9 C nl wn W T y
theorem TJ_fq9 {z9 : gd} {C : gCo} {nl wn W : Nat} {A : Nat → gd} {T : gTy} {y y' : gd} (e1 : y'.1 121 = y.1 121) (e2 : y'.1 126 = y.1 126) (e3 : y'.1 130 = y.1 130) (e4 : y'.1 131 = y.1 131) (e5 : eqLq9 y y') (h : TJq9 z9 C nl wn A W T y) : TJq9 z9 C nl wn A W T y' := by
  obtain ⟨h1, h2, h3, h4, h5, h6, h7⟩ := h
  exact ⟨h1, by rw [e2]; exact h2, by rw [e1]; exact h3, by rw [e3, e4]; exact h4, MLo_fq9 e5 h5, h6, LW2_fq9 e5 h7.1, fun v h1 h2 => by rw [e1]; exact h7.2 v h1 h2⟩
theorem TJ_miq9 {z9 : gd} {C : gCo} {nl wn W : Nat} {A : Nat → gd} {T : gTy} {y y' : gd} {L B : List Nat} (m : mi L B y y') (hN : [121, 126, 130, 131, 122, 123, 124, 125, 127, 128, 129].all (fun k => !B.elem k) = true) (h : TJq9 z9 C nl wn A W T y) : TJq9 z9 C nl wn A W T y' := by
  have g := fun k (h0 : k ≠ 0) hk => m.2 k h0 (all_no hN k hk)
  exact TJ_fq9 (g 121 (by decide) (by decide)) (g 126 (by decide) (by decide)) (g 130 (by decide) (by decide)) (g 131 (by decide) (by decide)) (fun c hc => by rcases hc with e | e | e | e | e | e | e <;> rw [e] <;> exact g _ (by decide) (by decide)) h
/-- a state is added to a trying: what the memory tells of it, but the findings -/
theorem TJ_adq9 {z9 : gd} {C : gCo} {nl wn W k i : Nat} {A A' : Nat → gd} {T : gTy} {y y' y2 : gd} {M : gMa} {v : Int32} (h : TJq9 z9 C nl wn A W T y) (hA : ∀ s, ¬ s = T.1.length → A' s = A s) (am : AM C wn M (A' T.1.length)) (mc : MCn C nl M) (nb : NBm M) (e121 : y2.1 121 = y.1 121) (e126 : y'.1 126 = y.1 126) (e130 : ∀ s, ¬ s = T.1.length → y2.1 130 (3000 * W + s) = y.1 130 (3000 * W + s)) (e131 : ∀ s, ¬ s = T.1.length → y2.1 131 (3000 * W + s) = y.1 131 (3000 * W + s)) (f130 : (y2.1 130 (3000 * W + T.1.length)).toInt = (k : Nat)) (f131 : (y2.1 131 (3000 * W + T.1.length)).toInt = (i : Nat)) (ev : v.toInt = (T.1.length : Nat)) (fa : FAm y' y2 W v (fD C wn M 11)) (hLk : LkN C nl) (n6 : nl ≤ 6) (h3k : T.1.length < 3000) (h84 : (chM C wn M).length ≤ 84) {n : Int32} (n84 : n.toInt = ((chM C wn M).length : Nat)) (eL : eqLq9 y y') (e121y : y'.1 121 = y.1 121) (lz : LZ2q9 C wn nl M (loSq9 C wn nl T T.1.length).2.2.2.2.2 n y' y2 W C.2.1.length) : TJq9 z9 C nl wn A' W (T.1 ++ [(M, k, i)], T.2) y2 := by
  obtain ⟨h1, h2, h3, h4, h5, h6, h7⟩ := h
  have cs : ∀ s p, ((T.1 ++ [(M, k, i)], T.2) : gTy).1[s]? = some p → (¬ s = T.1.length ∧ T.1[s]? = some p) ∨ (s = T.1.length ∧ p = (M, k, i)) := by
    intro s p hp
    have hp : (T.1 ++ [(M, k, i)])[s]? = some p := hp
    by_cases c : s < T.1.length
    · rw [List.getElem?_append_left c] at hp
      exact Or.inl ⟨by omega, hp⟩
    · have hl := gt_lt hp
      rw [List.length_append, List.length_singleton] at hl
      have es : s = T.1.length := by omega
      rw [es, List.getElem?_append_right (Nat.le_refl _), Nat.sub_self] at hp
      exact Or.inr ⟨es, (Option.some.inj hp).symm⟩
  have hl : ((T.1 ++ [(M, k, i)], T.2) : gTy).1.length = T.1.length + 1 := by
    show (T.1 ++ _).length = _
    rw [List.length_append, List.length_singleton]
  have pre : ∀ s, s < T.1.length → ((T.1 ++ [(M, k, i)], T.2) : gTy).1[s]? = T.1[s]? := fun s hs => by
    show (T.1 ++ [(M, k, i)])[s]? = _
    exact List.getElem?_append_left hs
  have last : ((T.1 ++ [(M, k, i)], T.2) : gTy).1[T.1.length]? = some (M, k, i) := by
    show (T.1 ++ [(M, k, i)])[T.1.length]? = _
    rw [List.getElem?_append_right (Nat.le_refl _), Nat.sub_self]; rfl
  have elo : loSq9 C wn nl (T.1 ++ [(M, k, i)], T.2) (T.1.length + 1) = loMq9 C wn nl M (loSq9 C wn nl T T.1.length) := by rw [loS_goq9 last, loS_Tq9 pre]
  refine ⟨fun s p hp => ?_, ?_, by rw [e121]; exact h3, fun s p hp s0 => ?_, ?_, ?_, ?_⟩
  · rcases cs s p hp with ⟨c1, c2⟩ | ⟨c1, c2⟩
    · rw [hA s c1]; exact h1 s p c2
    · rw [c1, c2]; exact ⟨am, mc, nb⟩
  · rw [hl]
    refine FN3_next (x7 := fun f => y'.1 126 (11 * W + f)) (p := (M, k, i)) ev ?_ (FN3_T (T := T) (fun s hs => ?_) (by rw [e126]; exact h2)) fa
    · show (T.1 ++ [(M, k, i)])[T.1.length]? = _
      rw [List.getElem?_append_right (Nat.le_refl _), Nat.sub_self]; rfl
    · show (T.1 ++ [(M, k, i)])[s]? = _
      exact List.getElem?_append_left hs
  · rcases cs s p hp with ⟨c1, c2⟩ | ⟨c1, c2⟩
    · rw [e130 s c1, e131 s c1]; exact h4 s p c2 s0
    · rw [c1, c2]; exact ⟨f130, f131⟩
  · rw [hl, elo]
    exact MLo_nextq9 h3k h6 h84 (ob_ltq9 hLk n6) n84 (MLo_fq9 eL h5) lz
  · rw [hl, elo]
    exact BLo_nextq9 h6 h84
  · exact ⟨LW2_trq9 (LW2_fq9 eL h7.1) lz.1.2.2.2, fun v v1 v2 => by rw [e121]; exact h7.2 v v1 v2⟩
section TRY3
variable {G : mG} {d D : Nat} {x z a : gd} {F : Int32 → gd → Prop} {Fv : gd → Prop} {C : gCo} {nl wn lim : Nat}
theorem sp_tryAll3q9 (gc : GC C) (hq2 : NCq C) (hLk : LkN C nl) (n6 : nl ≤ 6) (l24 : C.2.2.1.length ≤ 24) (w01n : wn = 0 ∨ wn = 1) (w l : Int32) (ewn : w = Int32.ofNat wn) (wv : vp_in w 2) (cp : CP z) (hKz : MK z C) (l26 : (z.1 0 26).toInt = (C.2.2.2.1.length : Nat)) (l27 : (z.1 0 27).toInt = (C.2.2.2.2.length : Nat)) (en : (z.1 0 24).toInt = (nl : Nat)) (hw : z.1 0 68 = w) (el : l.toInt = (lim : Nat)) (l1 : 1 ≤ l.toInt) (l3 : l.toInt ≤ 3000) (hD : 7 ≤ D) (h : ∀ (A : Nat → gd) (y : gd), (tryM C wn lim).1.length ≤ 3000 → TI z w.toNatClampNeg A (tryM C wn lim).1.length y → TJoq9 C nl wn A w.toNatClampNeg (tryM C wn lim) y → TJeq9 z C nl wn w.toNatClampNeg (tryM C wn lim) y → Fv y) : MT G D z_tryAll 0 [(0, vr 0), (1, vi w), (2, vi l)] [] z (rv Fv) := by
  obtain ⟨D, rfl⟩ : ∃ D', D = D' + 2 := ⟨D - 2, by omega⟩
  have n6L := n6
  have hN := gc.1
  have hX := gc.2.1
  have l6 := gc.2.2
  have b1n : vp_nar .boolean 1 = 1 := by decide
  have k0 : (0 : Int32).toInt = 0 := rfl
  have k1 : (1 : Int32).toInt = 1 := rfl
  have k24 : (240 : Int32).toInt = 240 := rfl
  have k40 : (4096 : Int32).toInt = 4096 := rfl
  have k3 : (3000 : Int32).toInt = 3000 := rfl
  have nb1 : ¬ vp_nar .boolean 1 = 0 := by decide
  obtain ⟨W, eW⟩ : ∃ W, W = w.toNatClampNeg := ⟨_, rfl⟩
  have W2 : W < 2 := by rw [eW]; exact vp_lt wv
  have wb := vp_in_iff.mp wv
  have cw := cl_i wb.1
  rw [← eW] at h cw
  have e32 : w32 W = w := by
    unfold w32
    by_cases q : W = 0
    · rw [if_pos q]; exact t_eq.mpr (by rw [k0]; omega)
    · rw [if_neg q]; exact t_eq.mpr (by rw [k1]; omega)
  have w01 : w = 0 ∨ w = 1 := by rw [← e32]; exact w32_01 W
  obtain ⟨a0, am0, av0, e68, pa0, st0, b0, mb0, first⟩ := start_exM cp hKz hN hX w01n w ewn w01
  -- a row unpacked
  have unp : ∀ (A : Nat → gd) (M f : Nat) (y : gd) (i : Int32) (Fq : gd → Prop), M ≤ 3000 → f < M → i.toInt = f → TI z W A M y → (∀ y', TI z W A M y' → md [] uA y y' → eqS (Sl (A f)) (A f) y' → Fq y') → MT G (D + 1) z_unpack 0 [(0, vr 0), (1, vr 133), (2, vi (240 * i))] [] y (rv Fq) := by
    intro A M f y i Fq hM hf hi q hq
    have b1 : (240 * i).toInt = 240 * i.toInt := by rw [t_mul (by rw [k24]; omega) (by rw [k24]; omega), k24]
    have cb : (240 * i).toNatClampNeg = 240 * f := by have := cl_i (a := 240 * i) (by omega); omega
    refine sp_unpack (Or.inl rfl) mk_133 ml_133 (240 * i) (by omega) (by omega) (by omega) (fun y' m' r' => ?_)
    rw [cb] at r'
    have q' := TI_mi q (mi_of m') rfl rfl rfl
    obtain ⟨p1, p2⟩ := q.2.2.2.2.2.2.2.2 f hf
    have rr := (q.2.2.2.2.2.2.1 f hf).2
    have av := (q.2.2.2.2.2.2.1 f hf).1.1
    refine hq y' q' m' (un_eq ?_ ?_ (fun t ht => ((av.1).2 t ht).2.2.2.1) (fun k hk => by rw [r' k hk, rr k hk]))
    · exact prE_tr (prE_sy p1) (prE_mi (prE_rf z) q'.1 rfl rfl)
    · rw [q'.1.1 68 (by decide), p2]
  have p320 : ∀ (A : Nat → gd) (T : gTy) (y : gd), T = tryM C wn lim → T.1.length ≤ 3000 → TI z W A T.1.length y → TJq9 z C nl wn A W T y → MT G (D + 2) z_tryAll 320 [(0, vr 0), (1, vi w)] [] y (rv Fv) := by
    intro A T y eT hM q qj
    subst eT
    have bl := qj.2.2.2.2.2.1.2.2.2
    obtain ⟨Q, Q1, Q2, Q3, Q4, Q5⟩ := OUm_sortq9 (qj.2.2.2.2.1.2.2.2.2.2) (loS_soq9 _).1 (loS_soq9 _).2 l24 (by omega)
    refine sg_tryAll_320 _ (sp_sortOutcomes3q9 (Q := Q) w wv eW.symm Q1 Q2 Q3 Q4 (fun y' S sq so => rv_i ?_))
    have m' := sq.1
    exact h A y' hM (TI_mi q (mi_of m') rfl rfl rfl) ⟨qj.1, by rw [m'.2.1 126 (by decide) (by decide)]; exact qj.2.1, by rw [m'.2.1 121 (by decide) (by decide)]; exact qj.2.2.1, by rw [m'.2.1 130 (by decide) (by decide), m'.2.1 131 (by decide) (by decide)]; exact qj.2.2.2.1⟩ ⟨MLc_ofq9 (fun c hc => by rcases hc with e | e | e | e | e | e <;> rw [e] <;> exact m'.2.1 _ (by decide) (by decide)) (Q5 y' S sq so) qj.2.2.2.2.1, LW3_trq9 qj.2.2.2.2.2.2 (LW3_sqq9 W2 sq)⟩
  have p75 : ∀ (n : Nat) (A : Nat → gd) (T : gTy) (y : gd) (f : Int32), 0 ≤ f.toInt → f.toInt ≤ 3000 → 3000 - f.toInt ≤ n → 1 ≤ T.1.length → (T.1.length : Int) ≤ l.toInt → TI z W A T.1.length y → TJq9 z C nl wn A W T y → (y.1 121 W = 0 → hcR y T.1.length) → bfS C wn lim (3001 - f.toNatClampNeg) f.toNatClampNeg T = tryM C wn lim → MT G (D + 2) z_tryAll 75 [(0, vr 0), (1, vi w), (2, vi l), (4, vi f)] [] y (rv Fv) := by
    intro n
    induction n with
    | zero =>
      intro A T y f f0 f3 hn M1 Ml q qj hs hb
      obtain ⟨M, eM⟩ : ∃ M, M = T.1.length := ⟨_, rfl⟩
      have e120 := q.2.2.1
      have cf0 := cl_i f0
      rw [← eM] at e120 M1 Ml
      refine sg_tryAll_75 _ _ _ ⟨wv, ?_⟩
      rw [← eW, e120]
      exact ⟨fun _ => p320 A T y ((bfS_end (List.getElem?_eq_none (by omega))).symm.trans hb) (by omega) q qj, fun c => absurd (t_le.mpr (by rw [ofN (by omega)]; omega)) c⟩
    | succ n ih =>
      intro A T y f f0 f3 hn M1 Ml q qj hs hb
      obtain ⟨M, eM⟩ : ∃ M, M = T.1.length := ⟨_, rfl⟩
      have e120 := q.2.2.1
      have cf0 := cl_i f0
      rw [← eM] at e120 M1 Ml
      refine sg_tryAll_75 _ _ _ ⟨wv, ?_⟩
      rw [← eW, e120]
      refine ⟨fun c => p320 A T y ((bfS_end (List.getElem?_eq_none (by rw [t_le, ofN (by omega)] at c; omega))).symm.trans hb) (by omega) q qj, fun c => ⟨wv, fun np => p320 A T y ((bfS_p ?_ _ _).symm.trans hb) (by omega) q qj, fun np => ?_⟩⟩
      · apply Classical.byContradiction
        intro c9
        have := qj.2.2.1
        rw [if_neg c9] at this
        exact np this
      rw [t_le, ofN (by omega)] at c
      have hs := hs np
      have cf := cl_i f0
      obtain ⟨fn, efn⟩ : ∃ fn, fn = f.toNatClampNeg := ⟨_, rfl⟩
      rw [← efn] at cf hb
      have fM : fn < T.1.length := by omega
      obtain ⟨p, hp⟩ : ∃ p, T.1[fn]? = some p := ⟨_, List.getElem?_eq_getElem fM⟩
      rw [show 3001 - fn = (3000 - fn) + 1 by omega, bfS_go hp] at hb
      obtain ⟨amf, mcf, nbf⟩ := qj.1 fn p hp
      have fi : (f + 1).toInt = f.toInt + 1 := by rw [t_add (by omega) (by omega), k1]
      have fi1 : (f + 1).toNatClampNeg = fn + 1 := by have := cl_i (a := f + 1) (by omega); omega
      refine unp A T.1.length fn y f _ (by omega) fM (by omega) q (fun y5 q5 m5 eq5 => ?_)
      have avf := (q5.2.2.2.2.2.2.1 fn (by omega)).1.1
      refine MT_up (by omega) (MTv_mono (avf.2.2.2.2.2 G y5 eq5) (fun y6 g6 => ?_))
      have q6 := TI_mi q5 (mi_of g6.2) rfl rfl rfl
      have e84 : y6.1 0 84 = (A fn).1 0 84 := g6.1 0 84 (Or.inr (Or.inl ⟨rfl, rfl⟩))
      have hs6 := hcR_mi (mi_of g6.2) rfl (hcR_mi (mi_of m5) rfl hs)
      have qj6 := TJ_miq9 (mi_of g6.2) rfl (TJ_miq9 (mi_of m5) rfl qj)
      have c84 := avf.2.2.2.2.1
      have c840 := avf.2.2.2.1
      obtain ⟨C84, eC⟩ : ∃ C, C = (A fn).1 0 84 := ⟨_, rfl⟩
      have eL := AM_n amf
      rw [e84, ← eC]
      rw [← eC] at c84 c840 eL
      -- the choices of this state
      have p122 : ∀ (m : Nat) (A2 : Nat → gd) (u : gd) (i : Int32), 0 ≤ i.toInt → i.toInt ≤ C84.toInt → C84.toInt - i.toInt ≤ m → ((onS C wn lim fn p.1 i.toNatClampNeg T).1.length : Int) ≤ l.toInt → A2 fn = A fn → TI z W A2 (onS C wn lim fn p.1 i.toNatClampNeg T).1.length u → TJq9 z C nl wn A2 W (onS C wn lim fn p.1 i.toNatClampNeg T) u → (u.1 121 W = 0 → hcR u (onS C wn lim fn p.1 i.toNatClampNeg T).1.length) → MT G (D + 2) z_tryAll 122 [(0, vr 0), (1, vi w), (2, vi l), (4, vi f), (5, vi C84), (6, vi i)] [] u (rv Fv) := by
        intro m
        induction m with
        | zero =>
          intro A2 u i i0 iC hm ml ea qu quj hu
          have ci := cl_i i0
          have pre := (onS_pre (C := C) (w := wn) (lim := lim) (M := p.1) fM fn i.toNatClampNeg).2
          exact sg_tryAll_122 _ _ _ _ _ ⟨fun _ => ih A2 _ u (f + 1) (by omega) (by omega) (by omega) (by omega) ml qu quj hu (by rw [fi1, show 3001 - (fn + 1) = 3000 - fn by omega, show i.toNatClampNeg = (chM C wn p.1).length by omega]; exact hb), fun c => absurd (t_le.mpr (by omega)) c⟩
        | succ m ihm =>
          intro A2 u i i0 iC hm ml ea qu quj hu
          have ci := cl_i i0
          obtain ⟨j, ej⟩ : ∃ j, j = i.toNatClampNeg := ⟨_, rfl⟩
          obtain ⟨pr1, pre⟩ := onS_pre (C := C) (w := wn) (lim := lim) (M := p.1) fM fn j
          rw [← ej] at ml qu quj hu ci
          obtain ⟨T2, eT2⟩ : ∃ T2, T2 = onS C wn lim fn p.1 j T := ⟨_, rfl⟩
          rw [← eT2] at pr1 pre ml qu quj hu
          have nxt : onS C wn lim fn p.1 (chM C wn p.1).length T = T2 → MT G (D + 2) z_tryAll 75 [(0, vr 0), (1, vi w), (2, vi l), (4, vi (f + 1))] [] u (rv Fv) := fun e9 => ih A2 T2 u (f + 1) (by omega) (by omega) (by omega) (by omega) ml qu quj hu (by rw [fi1, show 3001 - (fn + 1) = 3000 - fn by omega, ← e9]; exact hb)
          refine sg_tryAll_122 _ _ _ _ _ ⟨fun c => nxt (by rw [t_le] at c; rw [eT2, show j = (chM C wn p.1).length by omega]), fun c => ⟨wv, ?_⟩⟩
          rw [t_le] at c
          rw [← eW]
          have e121u := quj.2.2.1
          refine ⟨fun np => nxt (by
            have pt : (onS C wn lim fn p.1 j T).2 = true := by
              apply Classical.byContradiction
              intro c9
              rw [← eT2] at c9
              rw [if_neg c9] at e121u
              exact np e121u
            rw [eT2]
            exact onS_stop pt _ (by omega)), fun np => ?_⟩
          have hu := hu np
          have pf : ¬ (onS C wn lim fn p.1 j T).2 = true := fun z9 => by
            rw [← eT2] at z9
            rw [if_pos z9] at e121u
            rw [e121u] at np
            exact absurd np (by decide)
          have jl : j < (chM C wn p.1).length := by omega
          obtain ⟨ch, hch⟩ : ∃ ch, (chM C wn p.1)[j]? = some ch := ⟨_, List.getElem?_eq_getElem jl⟩
          have hgo := onS_go (lim := lim) (k := fn) pf hch
          rw [← eT2] at hgo
          obtain ⟨M2, eM2⟩ : ∃ M2, M2 = T2.1.length := ⟨_, rfl⟩
          have fm : fn < M2 := by omega
          have m1 : 1 ≤ M2 := by omega
          rw [← eM2] at ml qu hu
          have iv : vp_in i 200 := by rw [vp_in_iff]; omega
          have ii : (i + 1).toInt = i.toInt + 1 := by rw [t_add (by omega) (by omega), k1]
          have ii1 : (i + 1).toNatClampNeg = j + 1 := by have := cl_i (a := i + 1) (by omega); omega
          refine unp A2 M2 fn u f _ (by omega) fm (by omega) qu (fun u4 q4 m4' eq4 => ?_)
          rw [ea] at eq4
          refine MT_up (by omega) (MTv_mono (avf.2.2.2.2.2 G u4 eq4) (fun u5 g5 => ?_))
          have q5' := TI_mi q4 (mi_of g5.2) rfl rfl rfl
          have hu5 := hcR_mi (mi_of g5.2) rfl (hcR_mi (mi_of m4') rfl hu)
          have quj5 := TJ_miq9 (mi_of g5.2) rfl (TJ_miq9 (mi_of m4') rfl quj)
          have p5' : u5.1 121 W = 0 := by rw [g5.2.2.1 121 (by decide) (by decide), m4'.2.1 121 (by decide) (by decide)]; exact np
          have lt84 : ((i.toNatClampNeg : Nat) : Int) < ((A fn).1 0 84).toInt := by rw [← eC]; omega
          obtain ⟨b, a', rb, wyb, mmb, trb, am', fb, mb⟩ := st_exM gc w01n amf (i := i.toNatClampNeg) (by rw [← ej]; exact hch)
          have av' := am'.1
          have cmem := List.mem_of_getElem? hch
          have lbI : (C.2.2.1.length : Int) < 2147483648 := by omega
          have mc' : MCn C nl (doM C wn p.1 ch) := MCn_do hN hX hLk lbI l6 mcf amf.2.2.2.1 cmem
          have nb' : NBm (doM C wn p.1 ch) := NBm_do nbf
          obtain ⟨u86, u87, u88, _, _⟩ := avf.2.2.1 i.toNatClampNeg lt84
          have e86 := g5.1 _ _ (Or.inr u86)
          have e87 := g5.1 _ _ (Or.inr u87)
          have e88 := g5.1 _ _ (Or.inr u88)
          have el5 : eqS (Sl (A fn)) (A fn) u5 := eqS_w (Sl_Sm _) g5.1
          rw [e86, e87, e88]
          -- the state come to: is it new?
          have p206 : ∀ v : gd, eqS (Sl b) b v → md rL rA u5 v → MT G (D + 2) z_tryAll 206 [(0, vr 0), (1, vi w), (2, vi l), (4, vi f), (5, vi C84), (6, vi i)] [] v (rv Fv) := by
            intro v ev mv
            have qv := TI_mi q5' (mi_of mv) rfl rfl rfl
            have hv := hcR_mi (mi_of mv) rfl hu5
            have qvj := TJ_miq9 (mi_of mv) rfl quj5
            have pv0 : v.1 121 W = 0 := by rw [mv.2.1 121 (by decide) (by decide)]; exact p5'
            have kept : ∀ s, s < T2.1.length → ((∀ k, k < 222 → v.1 133 (240 * s + k) = pv b k) ↔ ∃ p9, T2.1[s]? = some p9 ∧ p9.1 = doM C wn p.1 ch) := fun s hs9 => row_kept hN l24 l6 n6 (A := A2) (fun s p9 h9 => ⟨(qvj.1 s p9 h9).1.2.2.1, (qvj.1 s p9 h9).2⟩) (fun s hs8 => (qv.2.2.2.2.2.2.1 s (by omega)).2) mmb mc' nb' (fun t ht => (rb.2 t ht).2.2.2.1) hs9
            have e120 := qv.2.2.1
            have oM := ofN (M := M2) (by omega)
            refine sg_tryAll_206 _ _ _ _ _ (sp_seek3 w wv (m := M2) (by rw [← eW, e120, oM]) (by omega) hv.1 hv.2 (fun t ht => by rw [cA ev (c := 80) (n := 6) (by decide) ht]; exact (rb.2 t ht).2.2.2.1) (fun r v1 mv1 lo alt => ⟨wv, ?_⟩))
            rw [← eW, e120] at alt
            have cM : (Int32.ofNat M2).toNatClampNeg = M2 := by have := cl_i (a := Int32.ofNat M2) (by omega); omega
            have mv1' : mi [136] [133, 134, 135] v v1 := mi_of mv1
            have qv1j := TJ_miq9 mv1' rfl qvj
            have e120' : v1.1 120 W = Int32.ofNat M2 := by rw [mv1.2.1 120 (by decide) (by decide), e120]
            have e121' : v1.1 121 W = 0 := by rw [mv1.2.1 121 (by decide) (by decide)]; exact pv0
            -- the rows before stay
            have qv1 : TI z W A2 M2 v1 := by
              obtain ⟨t1, t2, t3, t4, t5, t6, t7, t8, t9⟩ := qv
              have g := fun k (h0 : k ≠ 0) hk => mv1.2.1 k h0 hk
              refine ⟨mi_tr t1 (mi_of mv1) rfl rfl, ow_tr t2 (ow_mi (mi_of mv1) rfl), e120', by rw [g 123 (by decide) (by decide)]; exact t4, by rw [g 123 (by decide) (by decide)]; exact t5, ?_, fun s hs2 => ⟨?_, fun k hk => ?_⟩, t8, t9⟩
              · unfold fnd
                rw [g 126 (by decide) (by decide)]
                exact t6
              · have r9 := (t7 s hs2).1
                unfold TN at r9 ⊢
                rw [g 130 (by decide) (by decide), g 131 (by decide) (by decide), g 132 (by decide) (by decide)]
                exact r9
              · rw [lo _ (by omega)]
                exact (t7 s hs2).2 k hk
            rw [← eW, e120']
            have nx : ∀ (A3 : Nat → gd) (T3 : gTy) (u : gd), adS lim fn j T2 (doM C wn p.1 ch) = T3 → (T3.1.length : Int) ≤ l.toInt → A3 fn = A fn → TI z W A3 T3.1.length u → TJq9 z C nl wn A3 W T3 u → (u.1 121 W = 0 → hcR u T3.1.length) → MT G (D + 2) z_tryAll 122 [(0, vr 0), (1, vi w), (2, vi l), (4, vi f), (5, vi C84), (6, vi (i + 1))] [] u (rv Fv) := fun A3 T3 u eT3 h2 h4 h5 h5j h6 => by
              have e9 : onS C wn lim fn p.1 (i + 1).toNatClampNeg T = T3 := by rw [ii1, hgo]; exact eT3
              exact ihm A3 u (i + 1) (by omega) (by omega) (by omega) (by rw [e9]; exact h2) h4 (by rw [e9]; exact h5) (by rw [e9]; exact h5j) (by rw [e9]; exact h6)
            rcases alt with ⟨er, row, hsn, hcn, hno⟩ | ⟨s9, r0, r1, hso, hco, hyes⟩
            rotate_left
            · have old : ∃ q ∈ T2.1, q.1 = doM C wn p.1 ch := kept_old kept (s := s9) (by omega) (fun k hk => by rw [hyes k hk]; exact pv_eq ev hk)
              refine ⟨fun _ => nx A2 T2 v1 (adS_old old) (by rw [← eM2]; exact ml) ea (by rw [← eM2]; exact qv1) qv1j (fun _ => by rw [← eM2]; exact ⟨hso, hco⟩), fun er => ?_⟩
              rw [er, oM] at r1
              omega
            have new : ¬ ∃ q ∈ T2.1, q.1 = doM C wn p.1 ch := kept_new kept (fun s hs9 h9 => hno s (by omega) (fun k hk => by rw [h9 k hk]; exact (pv_eq ev hk).symm))
            refine ⟨fun ne => absurd er ne, fun _ => ⟨fun nl' => ?_, fun el' => ⟨wv, fun v18 e18 => ?_⟩⟩⟩
            rotate_left
            · -- the limit
              have m18 := md_a v1 121 W (vp_nar .boolean 1) (by decide)
              rw [← e18] at m18
              have e121n : v18.1 121 W = 1 := by rw [e18, si_get, if_pos ⟨rfl, rfl⟩]; exact b1n
              have full : lim ≤ T2.1.length := by
                rw [er] at el'
                have := t_eq.mp el'
                rw [oM] at this
                omega
              obtain ⟨g1, g2, g3, g4, g5k, g6k, g7k⟩ := qv1j
              refine nx A2 (T2.1, true) v18 (adS_full new full) (by show (T2.1.length : Int) ≤ _; rw [← eM2]; exact ml) ea (by show TI z W A2 T2.1.length v18; rw [← eM2]; exact TI_mi qv1 (mi_of m18) rfl rfl rfl) ⟨g1, ?_, ?_, ?_, ?_, ?_, ?_⟩ (fun q9 => ?_)
              · rw [m18.2.1 126 (by decide) (by decide)]; exact FN3_T (T := T2) (fun _ _ => rfl) g2
              · exact e121n
              · rw [m18.2.1 130 (by decide) (by decide), m18.2.1 131 (by decide) (by decide)]; exact g4
              · show MLoq9 v18 W (loSq9 C wn nl (T2.1, true) T2.1.length)
                rw [show loSq9 C wn nl (T2.1, true) T2.1.length = loSq9 C wn nl T2 T2.1.length from loS_Tq9 (fun _ _ => rfl)]
                exact MLo_fq9 (fun c hc => by rcases hc with e | e | e | e | e | e | e <;> rw [e] <;> exact m18.2.1 _ (by decide) (by decide)) g5k
              · show BLoq9 (loSq9 C wn nl (T2.1, true) T2.1.length) T2.1.length
                rw [show loSq9 C wn nl (T2.1, true) T2.1.length = loSq9 C wn nl T2 T2.1.length from loS_Tq9 (fun _ _ => rfl)]
                exact g6k
              · exact LW3_trq9 g7k (by rw [e18]; exact LW3_siq9 W2 (Or.inl ⟨by omega, rfl⟩))
              · rw [e121n] at q9
                exact absurd q9 (by decide)
            -- a new state
            have Ml' : (M2 : Int) < l.toInt := by
              by_cases q9 : (M2 : Int) = l.toInt
              · exact absurd (by rw [er]; exact t_eq.mpr (by rw [oM]; exact q9)) nl'
              · omega
            have rv2 := tmul (k := 3000) (K := 3000) (N := 6000) (n := 3000) (i := r) rfl wv (by rw [er, oM]; omega) (by rw [er, oM]; omega) (by omega) (by omega) (by omega)
            have fv2 := tmul (k := 3000) (K := 3000) (N := 6000) (n := 3000) (i := f) rfl wv f0 (by omega) (by omega) (by omega) (by omega)
            rw [← eW, ← efn] at fv2
            rw [← eW, er, cM] at rv2
            rw [er, rv2.2, fv2.2]
            refine ⟨rv2.1, fun v7 e7 => ⟨rv2.1, fun v9 e9 => ⟨fv2.1, rv2.1, fun v12 e12 => ⟨wv, wv, fun v15 e15 => ?_⟩⟩⟩⟩
            have m7 := md_a v1 130 (3000 * W + M2) f (by decide)
            rw [← e7] at m7
            have m9 := md_a v7 131 (3000 * W + M2) i (by decide)
            rw [← e9] at m9
            have m12 := md_a v9 132 (3000 * W + M2) (v9.1 132 (3000 * W + fn) + 1) (by decide)
            rw [← e12] at m12
            have f120 : v12.1 120 W = Int32.ofNat M2 := by rw [m12.2.1 120 (by decide) (by decide), m9.2.1 120 (by decide) (by decide), m7.2.1 120 (by decide) (by decide), e120']
            rw [f120] at e15
            have m15 := md_a v12 120 W (Int32.ofNat M2 + 1) (by decide)
            rw [← e15] at m15
            have MM : md [] [120, 130, 131, 132] v1 v15 := md_tr (md_tr (L3 := []) (A3 := [130, 131, 132]) (md_tr (L3 := []) (A3 := [130, 131]) m7 m9 rfl rfl) m12 rfl rfl) m15 rfl rfl
            have o12 : ow W v1 v15 := by
              refine ow_tr (y := v12) (ow_tr (y := v9) (ow_tr (y := v7) ?_ ?_) ?_) ?_
              · rw [e7]; exact ow_si W2 (Or.inr (Or.inr ⟨Or.inl rfl, M2, by omega, rfl⟩))
              · rw [e9]; exact ow_si W2 (Or.inr (Or.inr ⟨Or.inr (Or.inl rfl), M2, by omega, rfl⟩))
              · rw [e12]; exact ow_si W2 (Or.inr (Or.inr ⟨Or.inr (Or.inr rfl), M2, by omega, rfl⟩))
              · rw [e15]; exact ow_si W2 (Or.inl ⟨Or.inl rfl, rfl⟩)
            have g120 : v15.1 120 W = Int32.ofNat (M2 + 1) := by
              rw [e15, si_get, if_pos ⟨rfl, rfl⟩]
              refine t_eq.mpr ?_
              rw [t_add (by omega) (by omega), oM, k1, ofN (by omega)]; omega
            have h130 : ∀ s : Nat, ¬ s = M2 → v15.1 130 (3000 * W + s) = v1.1 130 (3000 * W + s) := fun s hs2 => by rw [e15, si_cell (by decide), e12, si_cell (by decide), e9, si_cell (by decide), e7, si_ne 130 _ (by omega)]
            have h131 : ∀ s : Nat, ¬ s = M2 → v15.1 131 (3000 * W + s) = v1.1 131 (3000 * W + s) := fun s hs2 => by rw [e15, si_cell (by decide), e12, si_cell (by decide), e9, si_ne 131 _ (by omega), e7, si_cell (by decide)]
            have h132 : ∀ s : Nat, ¬ s = M2 → v15.1 132 (3000 * W + s) = v1.1 132 (3000 * W + s) := fun s hs2 => by rw [e15, si_cell (by decide), e12, si_ne 132 _ (by omega), e9, si_cell (by decide), e7, si_cell (by decide)]
            have i130 : v15.1 130 (3000 * W + M2) = f := by rw [e15, si_cell (by decide), e12, si_cell (by decide), e9, si_cell (by decide), e7, si_get, if_pos ⟨rfl, rfl⟩]
            have i131 : v15.1 131 (3000 * W + M2) = i := by rw [e15, si_cell (by decide), e12, si_cell (by decide), e9, si_get, if_pos ⟨rfl, rfl⟩]
            have i132 : v15.1 132 (3000 * W + M2) = v1.1 132 (3000 * W + fn) + 1 := by rw [e15, si_cell (by decide), e12, si_get, if_pos ⟨rfl, rfl⟩, e9, si_cell (by decide), e7, si_cell (by decide)]
            have j133 : v15.1 133 = v1.1 133 := MM.2.1 133 (by decide) (by decide)
            obtain ⟨A3, eA3⟩ : ∃ A3 : Nat → gd, A3 = fun s => if s = M2 then a' else A2 s := ⟨_, rfl⟩
            have A3n : ∀ s : Nat, ¬ s = M2 → A3 s = A2 s := fun s hs2 => by rw [eA3]; simp only [if_neg hs2]
            have A3m : A3 M2 = a' := by rw [eA3]; simp only [if_pos]
            have eva : eqS (Sl a') a' v := sl_sw mb ev
            -- the chain of far stays small
            have farb : ∀ s : Nat, s < M2 → 0 ≤ (v1.1 132 (3000 * W + s)).toInt ∧ (v1.1 132 (3000 * W + s)).toInt ≤ s := by
              intro s
              induction s using Nat.strongRecOn with
              | ind s ihs =>
                intro hs2
                obtain ⟨_, t2, t3, t4⟩ := (qv1.2.2.2.2.2.2.1 s hs2).1
                refine ⟨t2, ?_⟩
                by_cases q9 : s = 0
                · have := t3 q9; omega
                · obtain ⟨p, p1, p2, p3, _⟩ := t4 (by omega)
                  have := (ihs p p1 (by omega)).2
                  omega
            have ff := farb fn fm
            have j132 : (v15.1 132 (3000 * W + M2)).toInt = (v1.1 132 (3000 * W + fn)).toInt + 1 := by rw [i132, t_add (by omega) (by omega), k1]
            have q15 : TI z W A3 (M2 + 1) v15 := by
              obtain ⟨t1, t2, t3, t4, t5, t6, t7, t8, t9⟩ := qv1
              refine ⟨mi_tr t1 (mi_of MM) rfl rfl, ow_tr t2 o12, g120, by rw [MM.2.1 123 (by decide) (by decide)]; exact t4, by rw [MM.2.1 123 (by decide) (by decide)]; omega, ?_, fun s hs2 => ?_, ?_, fun s hs2 => ?_⟩
              · unfold fnd at t6 ⊢
                rw [MM.2.1 126 (by decide) (by decide)]
                exact fun g hg => (t6 g hg).imp id (fun w => by omega)
              · by_cases q9 : s = M2
                · rw [q9]
                  refine ⟨⟨by rw [A3m]; exact av', by omega, fun z9 => by omega, fun _ => ⟨fn, fm, by rw [i130]; omega, ?_, by rw [i131]; exact i0, ?_, ?_⟩⟩, fun k hk => ?_⟩
                  · rw [h132 fn (by omega)]; exact j132
                  · rw [i131, A3n fn (by omega), ea, ← eC]; omega
                  · rw [i131, A3n fn (by omega), ea, A3m]; exact ⟨b, trb, fb⟩
                  · rw [A3m, j133, row k hk]; exact pv_eq eva hk
                · obtain ⟨⟨u1, u2, u3, u4⟩, u5'⟩ := t7 s (by omega)
                  refine ⟨⟨by rw [A3n s q9]; exact u1, by rw [h132 s q9]; exact u2, by rw [h132 s q9]; exact u3, fun z9 => ?_⟩, fun k hk => by rw [A3n s q9, j133]; exact u5' k hk⟩
                  obtain ⟨p, p1, p2, p3, p4, p5, p6⟩ := u4 z9
                  refine ⟨p, p1, by rw [h130 s q9]; exact p2, by rw [h132 s q9, h132 p (by omega)]; exact p3, by rw [h131 s q9]; exact p4, by rw [h131 s q9, A3n p (by omega)]; exact p5, by rw [h131 s q9, A3n p (by omega), A3n s q9]; exact p6⟩
              · rw [A3n 0 (by omega)]; exact t8
              · by_cases q9 : s = M2
                · rw [q9, A3m]
                  have pz : prE z v := prE_mi (prE_rf z) qv.1 rfl rfl
                  have pav : prE a' v := prE_eqS eva
                  refine ⟨prE_tr pz (prE_sy pav), ?_⟩
                  rw [← cF eva (k := 68) (by decide), qv.1.1 68 (by decide)]
                · rw [A3n s q9]; exact t9 s (by omega)
            have e15s : eqS (Sl a') a' v15 := eqS_mi eva (mi_tr (L3 := [136]) (A3 := [133, 134, 135, 120, 130, 131, 132]) (mi_of mv1) (mi_of MM) rfl rfl) rfl rfl (Sl_Sm a')
            have o15 := q15.2.2.2.1
            have o15b : (v15.1 123 W).toInt ≤ M2 := by rw [MM.2.1 123 (by decide) (by decide)]; exact qv1.2.2.2.2.1
            have eqv15 : eqLq9 v1 v15 := fun c hc => by rcases hc with e | e | e | e | e | e | e <;> rw [e] <;> exact MM.2.1 _ (by decide) (by decide)
            have pa' : prE z a' := by have := (q15.2.2.2.2.2.2.2.2 M2 (by omega)).1; rw [A3m] at this; exact this
            refine sp_look3q9 hN hX hq2 w01n w (Int32.ofNat M2) wv am' mc'.1 (by rw [pa'.1 26 (by decide)]; exact l26) (by rw [pa'.1 27 (by decide)]; exact l27) e15s (by omega) (M := ((M2 + 1 : Nat) : Int)) (by omega) (by rw [← eW]; exact q15.2.2.2.2.2.1) (by rw [← eW]; exact o15) (by rw [← eW]; omega) (nl := nl) (L := (loSq9 C wn nl T2 T2.1.length).2.2.2.2.2) (by rw [pa'.1 24 (by decide)]; exact en) (by rw [← eW]; exact (MLo_fq9 eqv15 qv1j.2.2.2.2.1).2.2.2.2.2) (by have := qv1j.2.2.2.2.2.1.2.2.2; omega) (loS_soq9 _).1 (loS_soq9 _).2 (by omega) (fun v16 k16 fa16 lz16 => ?_)
            rw [← eW] at k16 fa16 lz16
            obtain ⟨n1, n2, n3, n4, n5, n6⟩ := k16
            have g := fun k (h0 : k ≠ 0) hk => n1.2 k h0 hk
            have hl3 : ((T2.1 ++ [(doM C wn p.1 ch, fn, j)], T2.2) : gTy).1.length = M2 + 1 := by
              show (T2.1 ++ _).length = _
              rw [List.length_append, List.length_singleton, ← eM2]
            refine nx A3 (T2.1 ++ [(doM C wn p.1 ch, fn, j)], T2.2) v16 (adS_new new (by omega)) (by rw [hl3]; omega) (by rw [A3n fn (by omega)]; exact ea) ?_ ?_ (fun _ => ?_)
            rotate_left
            · refine TJ_adq9 (y' := v15) (v := Int32.ofNat M2) qv1j (fun s hs9 => A3n s (by omega)) (by rw [← eM2, A3m]; exact am') mc' nb' ?_ (MM.2.1 126 (by decide) (by decide)) (fun s hs9 => ?_) (fun s hs9 => ?_) ?_ ?_ (by rw [oM, eM2]) fa16 hLk n6L (by omega) (by have := AM_n am'; have := am'.1.2.2.2.2.1; omega) (AM_n am') eqv15 (MM.2.1 121 (by decide) (by decide)) lz16
              · rw [g 121 (by decide) (by decide), MM.2.1 121 (by decide) (by decide)]
              · rw [g 130 (by decide) (by decide)]; exact h130 s (by omega)
              · rw [g 131 (by decide) (by decide)]; exact h131 s (by omega)
              · rw [← eM2, g 130 (by decide) (by decide), i130]; omega
              · rw [← eM2, g 131 (by decide) (by decide), i131]; omega
            rotate_left
            · rw [hl3]
              obtain ⟨t1, t2, t3, t4, t5, t6, t7, t8, t9⟩ := q15
              refine ⟨mi_tr t1 n1 rfl rfl, ow_tr t2 n3, by rw [g 120 (by decide) (by decide)]; exact t3, n5, by omega, n4, fun s hs2 => ?_, t8, t9⟩
              have r9 := t7 s hs2
              unfold TR TN at r9 ⊢
              rw [g 130 (by decide) (by decide), g 131 (by decide) (by decide), g 132 (by decide) (by decide), g 133 (by decide) (by decide)]
              exact r9
            · rw [hl3]
              refine hcR_f (y := v1) ?_ ?_ (fun s k _ _ => ?_) ⟨by push_cast; exact hsn, hcn⟩
              · rw [g 134 (by decide) (by decide), MM.2.1 134 (by decide) (by decide)]
              · rw [g 135 (by decide) (by decide), MM.2.1 135 (by decide) (by decide)]
              · rw [g 133 (by decide) (by decide), j133]
          refine ⟨iv, fun cl => ⟨iv, iv, ?_⟩, fun cl => ⟨iv, iv, ?_⟩⟩
          · exact MT_up (by omega) (MTv_mono (trb.1 cl G u5 el5) (fun v q9 => p206 v q9.1 q9.2.1))
          · exact MT_up (by omega) (MTv_mono (trb.2 cl G u5 el5) (fun v q9 => p206 v q9.1 q9.2))
      have z00 : (0 : Int32).toNatClampNeg = 0 := rfl
      exact p122 84 A y6 0 (by decide) (by rw [k0]; omega) (by rw [k0]; omega) (by rw [z00]; show (T.1.length : Int) ≤ _; rw [← eM]; exact Ml) rfl (by rw [z00]; exact q6) (by rw [z00]; exact qj6) (fun _ => by rw [z00]; exact hs6)
  -- the beginning
  refine sg_tryAll_0 _ _ (sp_forgetTrying3q9 (W := W) w wv eW.symm en (fun y1 m1 o1 n120 n121 n123 nf ml1 lw1 => ?_))
  have loop : ∀ (n : Nat) (y : gd) (i : Int32), 0 ≤ i.toInt → i.toInt ≤ 4096 → 4096 - i.toInt ≤ n → md [] [135] y1 y → (∀ k : Nat, (k : Int) < i.toInt → y.1 135 k = -1) → MT G (D + 2) z_tryAll 7 [(0, vr 0), (1, vi w), (2, vi l), (3, vi i)] [] y (rv Fv) := by
    have last : ∀ y : gd, md [] [135] y1 y → (∀ k : Nat, k < 4096 → y.1 135 k = -1) → MT G (D + 1) z_setFirst 0 [(0, vr 0)] [] y (rv (fun x2 => MT G (D + 1) z_seek 0 [(0, vr 0), (1, vi w)] [] x2 (ri (fun r4 x3 => vp_in w 2 ∧ (∀ x6 : gd, x6 = si x3 120 (w : Int32).toNatClampNeg 1 → vp_in (3000 * w) 6000 ∧ (∀ x8 : gd, x8 = si x6 130 (3000 * w : Int32).toNatClampNeg (-1) → vp_in (3000 * w) 6000 ∧ (∀ x10 : gd, x10 = si x8 132 (3000 * w : Int32).toNatClampNeg 0 → MT G (D + 1) z_look 0 [(0, vr 0), (1, vi w), (2, vi 0)] [] x10 (rv (fun x11 => MT G (D + 2) z_tryAll 75 [(0, vr 0), (1, vi w), (2, vi l), (4, vi 0)] [] x11 (rv Fv))))))))))  := by
      intro y my hh
      have mzy : mi [] [120, 121, 122, 123, 124, 125, 126, 127, 128, 135] z y := mi_tr (mi_of m1) (mi_of my) rfl rfl
      have py : prE z y := prE_mi (prE_rf z) mzy rfl rfl
      have wy' : y.1 0 68 = w := by rw [mzy.1 68 (by decide)]; exact hw
      refine MTv_mono (first G (D + 1) y (by omega) py wy') (fun y2 g2 => ?_)
      have e2 : eqS (Sl a0) a0 y2 := sl_sw mb0 g2.1
      have y120 : y2.1 120 W = 0 := by rw [g2.2.2.1 120 (by decide) (by decide), my.2.1 120 (by decide) (by decide)]; exact n120
      have y121 : y2.1 121 W = 0 := by rw [g2.2.2.1 121 (by decide) (by decide), my.2.1 121 (by decide) (by decide)]; exact n121
      have y123 : y2.1 123 W = 0 := by rw [g2.2.2.1 123 (by decide) (by decide), my.2.1 123 (by decide) (by decide)]; exact n123
      have y126 : ∀ f : Nat, f < 11 → y2.1 126 (11 * W + f) = -1 := fun f hf => by rw [g2.2.2.1 126 (by decide) (by decide), my.2.1 126 (by decide) (by decide)]; exact nf f hf
      have y135 : y2.1 135 = y.1 135 := g2.2.2.1 135 (by decide) (by decide)
      refine sp_seek3 w wv (m := 0) (by rw [← eW, y120]; rfl) (by omega) ⟨fun k hk => Or.inl (by rw [y135]; exact hh k hk), fun s hs2 => by omega⟩ (fun s hs2 => absurd hs2 (Nat.not_lt_zero _)) (fun t ht => by rw [cA e2 (c := 80) (n := 6) (by decide) ht]; exact (av0.1.2 t ht).2.2.2.1) (fun r y3 m3 lo alt => ⟨wv, fun y6 e6 => ?_⟩)
      rcases alt with ⟨er, row, hsn, hcn, -⟩ | ⟨s9, r0, _⟩
      rotate_left
      · exact absurd r0 (Nat.not_lt_zero _)
      have bw : (3000 * w).toInt = 3000 * w.toInt := by rw [t_mul (by rw [k3]; omega) (by rw [k3]; omega), k3]
      have bv : vp_in (3000 * w) 6000 := by rw [vp_in_iff]; omega
      have cb : (3000 * w).toNatClampNeg = 3000 * W + 0 := by have := cl_i (a := 3000 * w) (by omega); omega
      rw [cb]
      rw [← eW] at e6
      refine ⟨bv, fun y8 e8 => ⟨bv, fun y10 e10 => ?_⟩⟩
      have m6 := md_a y3 120 W 1 (by decide)
      rw [← e6] at m6
      have m8 := md_a y6 130 (3000 * W + 0) (-1) (by decide)
      rw [← e8] at m8
      have m10 := md_a y8 132 (3000 * W + 0) 0 (by decide)
      rw [← e10] at m10
      have MM : md [] [120, 130, 132] y3 y10 := md_tr (md_tr (L3 := []) (A3 := [120, 130]) m6 m8 rfl rfl) m10 rfl rfl
      have o310 : ow W y3 y10 := by
        refine ow_tr (y := y8) (ow_tr (y := y6) ?_ ?_) ?_
        · rw [e6]; exact ow_si W2 (Or.inl ⟨Or.inl rfl, rfl⟩)
        · rw [e8]; exact ow_si W2 (Or.inr (Or.inr ⟨Or.inl rfl, 0, by omega, rfl⟩))
        · rw [e10]; exact ow_si W2 (Or.inr (Or.inr ⟨Or.inr (Or.inr rfl), 0, by omega, rfl⟩))
      have oz3 : ow W z y3 := ow_tr (ow_tr (ow_tr o1 (ow_mi (mi_of my) rfl)) (ow_mi (mi_of g2.2) rfl)) (ow_mi (mi_of m3) rfl)
      have mz10 : mi tL tA' z y10 := mi_tr (mi_tr (L3 := tL) (A3 := tA') (mi_tr (L3 := tL) (A3 := tA') mzy (mi_of g2.2) rfl rfl) (mi_of m3) rfl rfl) (mi_of MM) rfl rfl
      have h132 : y10.1 132 (3000 * W + 0) = 0 := by rw [e10, si_get, if_pos ⟨rfl, rfl⟩]
      have h120 : y10.1 120 W = Int32.ofNat 1 := by rw [m10.2.1 120 (by decide) (by decide), m8.2.1 120 (by decide) (by decide), e6, si_get, if_pos ⟨rfl, rfl⟩]; rfl
      have h123 : y10.1 123 W = 0 := by rw [MM.2.1 123 (by decide) (by decide), m3.2.1 123 (by decide) (by decide)]; exact y123
      have h126 : fnd y10 W 1 := fun f hf => Or.inl (by rw [MM.2.1 126 (by decide) (by decide), m3.2.1 126 (by decide) (by decide)]; exact y126 f hf)
      have q10 : TI z W (fun _ => a0) 1 y10 := by
        refine ⟨mz10, ow_tr oz3 o310, h120, by rw [h123]; decide, by rw [h123]; decide, h126, fun s hs2 => ⟨⟨av0, ?_, fun _ => ?_, fun z9 => by omega⟩, fun k hk => ?_⟩, by rw [e32]; exact st0, fun s hs2 => ⟨pa0, by rw [hw]; exact e68⟩⟩
        · rw [show s = 0 by omega, h132]; decide
        · rw [show s = 0 by omega, h132]; rfl
        · rw [show s = 0 by omega, MM.2.1 133 (by decide) (by decide)]
          exact (row k hk).trans (pv_eq e2 hk)
      have eL10 : ∀ c, c = 122 ∨ c = 123 ∨ c = 124 ∨ c = 125 ∨ c = 127 ∨ c = 128 ∨ c = 129 → y10.1 c = y1.1 c := fun c hc => by
        rw [show y10.1 c = y3.1 c by rcases hc with e | e | e | e | e | e | e <;> rw [e] <;> exact MM.2.1 _ (by decide) (by decide), show y3.1 c = y2.1 c by rcases hc with e | e | e | e | e | e | e <;> rw [e] <;> exact m3.2.1 _ (by decide) (by decide), show y2.1 c = y.1 c by rcases hc with e | e | e | e | e | e | e <;> rw [e] <;> exact g2.2.2.1 _ (by decide) (by decide)]
        rcases hc with e | e | e | e | e | e | e <;> rw [e] <;> exact my.2.1 _ (by decide) (by decide)
      have ml10 : MLoq9 y10 W (lo0q9 nl) := MLo_fq9 eL10 ml1
      have n840 := AM_n am0
      have c840 : ((chM C wn (fsM C)).length : Nat) ≤ 84 := by have := am0.1.2.2.2.2.1; omega
      have e121z : ∀ v, v < 2 → ¬ v = W → y10.1 121 v = z.1 121 v := fun v v1 v2 => by
        rw [MM.2.1 121 (by decide) (by decide), m3.2.1 121 (by decide) (by decide), g2.2.2.1 121 (by decide) (by decide), my.2.1 121 (by decide) (by decide)]
        exact lw1.2 v v1 v2
      have e10s : eqS (Sl a0) a0 y10 := eqS_mi e2 (mi_tr (L3 := [136]) (A3 := [133, 134, 135, 120, 130, 132]) (mi_of m3) (mi_of MM) rfl rfl) rfl rfl (Sl_Sm a0)
      refine sp_look3q9 hN hX hq2 w01n w 0 wv am0 (MCn_fs (C := C) (nl := nl)).1 (by rw [pa0.1 26 (by decide)]; exact l26) (by rw [pa0.1 27 (by decide)]; exact l27) e10s (by decide) (M := 1) (by decide) (by rw [← eW]; exact h126) (by rw [← eW, h123]; decide) (by rw [← eW, h123]; decide) (nl := nl) (L := []) (by rw [pa0.1 24 (by decide)]; exact en) (by rw [← eW]; exact ml10.2.2.2.2.2) (by decide) List.Pairwise.nil (fun t ht => by cases ht) (by omega) (fun y11 k11 fa11 lz11 => ?_)
      rw [← eW] at k11 fa11 lz11
      obtain ⟨n1, n2, n3, n4, n5, n6⟩ := k11
      rw [h123, k0] at n6
      have g := fun k (h0 : k ≠ 0) hk => n1.2 k h0 hk
      have e121e : y11.1 121 W = 0 := by rw [g 121 (by decide) (by decide), MM.2.1 121 (by decide) (by decide), m3.2.1 121 (by decide) (by decide)]; exact y121
      have y126' : ∀ f : Nat, f < 11 → y10.1 126 (11 * W + f) = -1 := fun f hf => by rw [MM.2.1 126 (by decide) (by decide), m3.2.1 126 (by decide) (by decide)]; exact y126 f hf
      have one : ∀ (s : Nat) (p : gMa × Nat × Nat), (([(fsM C, 0, 0)], false) : gTy).1[s]? = some p → s = 0 ∧ p = (fsM C, 0, 0) := fun s p hp => by
        cases s with
        | zero => exact ⟨rfl, (Option.some.inj hp).symm⟩
        | succ s => exact nomatch hp
      refine p75 3000 (fun _ => a0) ([(fsM C, 0, 0)], false) y11 0 (by decide) (by decide) (by decide) (Nat.le_refl 1) (by show ((1 : Nat) : Int) ≤ _; omega) ?_ ⟨fun s p hp => ?_, ?_, e121e, fun s p hp s0 => ?_, ?_, ?_, ?_⟩ (fun _ => ?_) rfl
      rotate_left
      · rw [(one s p hp).2]; exact ⟨am0, MCn_fs, NBm_fs⟩
      · exact FN3_next (k := 0) (x7 := fun f => y10.1 126 (11 * W + f)) (p := (fsM C, 0, 0)) rfl rfl (fun f hf => Or.inl ⟨y126' f hf, fun s p hs => absurd hs (Nat.not_lt_zero _)⟩) fa11
      · rw [(one s p hp).1] at s0; exact absurd s0 (Nat.lt_irrefl _)
      · show MLoq9 y11 W (loMq9 C wn nl (fsM C) (lo0q9 nl))
        exact MLo_nextq9 (k := 0) (by omega) ⟨Nat.le_refl _, Nat.le_refl _, Nat.le_refl _, Nat.le_refl _⟩ c840 (ob_ltq9 hLk n6L) n840 ml10 lz11
      · show BLoq9 (loMq9 C wn nl (fsM C) (lo0q9 nl)) (0 + 1)
        exact BLo_nextq9 ⟨Nat.le_refl _, Nat.le_refl _, Nat.le_refl _, Nat.le_refl _⟩ c840
      · exact ⟨LW2_trq9 (LW2_fq9 (y := y1) eL10 lw1.1) lz11.1.2.2.2, fun v v1 v2 => by rw [g 121 (by decide) (by decide)]; exact e121z v v1 v2⟩
      rotate_left
      · obtain ⟨t1, t2, t3, t4, t5, t6, t7, t8, t9⟩ := q10
        refine ⟨mi_tr t1 n1 rfl rfl, ow_tr t2 n3, by rw [g 120 (by decide) (by decide)]; exact t3, n5, by show _ ≤ ((1 : Nat) : Int); omega, n4, fun s hs2 => ?_, t8, t9⟩
        have r9 := t7 s hs2
        unfold TR TN at r9 ⊢
        rw [g 130 (by decide) (by decide), g 131 (by decide) (by decide), g 132 (by decide) (by decide), g 133 (by decide) (by decide)]
        exact r9
      · refine hcR_f (y := y3) ?_ ?_ (fun s k _ _ => ?_) ⟨hsn, hcn⟩
        · rw [g 134 (by decide) (by decide), MM.2.1 134 (by decide) (by decide)]
        · rw [g 135 (by decide) (by decide), MM.2.1 135 (by decide) (by decide)]
        · rw [g 133 (by decide) (by decide), MM.2.1 133 (by decide) (by decide)]
    intro n
    induction n with
    | zero =>
      intro y i i0 i1 hn my hh
      exact sg_tryAll_7 _ _ _ ⟨fun _ => last y my (fun k hk => hh k (by omega)), fun c => absurd (t_le.mpr (by rw [k40]; omega)) c⟩
    | succ n ih =>
      intro y i i0 i1 hn my hh
      refine sg_tryAll_7 _ _ _ ⟨fun c => last y my (fun k hk => hh k (by rw [t_le, k40] at c; omega)), fun c => ?_⟩
      rw [t_le, k40] at c
      have ci := cl_i i0
      have ii : (i + 1).toInt = i.toInt + 1 := by rw [t_add (by omega) (by omega), k1]
      refine ⟨by rw [vp_in_iff]; omega, fun y13 e13 => ?_⟩
      have m13 := md_a y 135 i.toNatClampNeg (-1) (by decide)
      rw [← e13] at m13
      refine ih y13 (i + 1) (by omega) (by omega) (by omega) (md_tr my m13 rfl rfl) (fun k hk => ?_)
      rw [e13, si_get]
      by_cases q : (135 : Nat) = 135 ∧ k = i.toNatClampNeg
      · rw [if_pos q]
      · rw [if_neg q]; exact hh k (by omega)
  exact loop 4096 y1 0 (by decide) (by decide) (by decide) (md_w (md_rf y1) (by decide) (by decide)) (fun k hk => by rw [k0] at hk; omega)
end TRY3

def TYoq9 (C : gCo) (wn : Nat) (z : gd) (T : gTy) : Prop := (z.1 120 wn).toInt = (T.1.length : Nat) ∧ T.1.length ≤ 3000 ∧ FN3 C wn (fun f => z.1 126 (11 * wn + f)) T T.1.length ∧ ∀ s p, T.1[s]? = some p → (s = 0 → (z.1 132 (3000 * wn + s)).toInt = 0) ∧ (0 < s → (z.1 130 (3000 * wn + s)).toInt = (p.2.1 : Nat) ∧ (z.1 131 (3000 * wn + s)).toInt = (p.2.2 : Nat) ∧ (z.1 132 (3000 * wn + s)).toInt = (z.1 132 (3000 * wn + p.2.1)).toInt + 1)
section TYC
variable {C : gCo} {wn nl : Nat} {z y : gd} {T : gTy}
theorem TYo_fq9 (e1 : y.1 120 = z.1 120) (e2 : y.1 126 = z.1 126) (e3 : y.1 130 = z.1 130) (e4 : y.1 131 = z.1 131) (e5 : y.1 132 = z.1 132) (h : TYoq9 C wn z T) : TYoq9 C wn y T := by
  unfold TYoq9 at h ⊢
  rw [e1, e2, e3, e4, e5]
  exact h
theorem TYo_miq9 {L A : List Nat} (m : mi L A z y) (hA : [120, 126, 130, 131, 132].all (fun k => !A.elem k) = true) (h : TYoq9 C wn z T) : TYoq9 C wn y T := by
  have g := fun k (h0 : k ≠ 0) hk => m.2 k h0 (all_no hA k hk)
  exact TYo_fq9 (g 120 (by decide) (by decide)) (g 126 (by decide) (by decide)) (g 130 (by decide) (by decide)) (g 131 (by decide) (by decide)) (g 132 (by decide) (by decide)) h
theorem TYo_owq9 {W : Nat} (hW : TW C wn T) (hw : wn < 2) (ne : ¬ wn = W) (o : ow W z y) (h : TYoq9 C wn z T) : TYoq9 C wn y T := by
  obtain ⟨o1, -, o3, o4⟩ := o wn hw ne
  obtain ⟨h1, h2, h3, h4⟩ := h
  refine ⟨by rw [o1]; exact h1, h2, FN3_c (fun f hf => o3 f hf) h3, fun s p hp => ?_⟩
  have hs := gt_lt hp
  obtain ⟨a, b⟩ := h4 s p hp
  obtain ⟨e1, e2, e3⟩ := o4 s (by omega)
  refine ⟨fun z0 => by rw [e3]; exact a z0, fun s0 => ?_⟩
  have lt := ((hW s p hp).2 s0).1
  rw [e1, e2, e3, (o4 p.2.1 (by omega)).2.2]
  exact b s0
theorem TYo_ofq9 {A : Nat → gd} {z0 : gd} (hM : T.1.length ≤ 3000) (ti : TI z0 wn A T.1.length z) (tj : TJoq9 C nl wn A wn T z) : TYoq9 C wn z T := by
  obtain ⟨-, -, t3, -, -, -, t7, -, -⟩ := ti
  obtain ⟨-, j2, -, j4⟩ := tj
  refine ⟨by rw [t3, ofN hM], hM, j2, fun s p hp => ?_⟩
  obtain ⟨-, -, n3, n4⟩ := (t7 s (gt_lt hp)).1
  refine ⟨n3, fun s0 => ?_⟩
  obtain ⟨b1, b2⟩ := j4 s p hp s0
  obtain ⟨q, q1, q2, q3, -⟩ := n4 s0
  have eq : q = p.2.1 := by omega
  rw [eq] at q3
  exact ⟨b1, b2, q3⟩
/-- how far a state is -/
theorem TYo_dq9 (hW : TW C wn T) (h : TYoq9 C wn z T) : ∀ n s p, s ≤ n → T.1[s]? = some p → (z.1 132 (3000 * wn + s)).toInt = ((pth T s).length : Nat) := by
  intro n
  induction n with
  | zero =>
    intro s p hs hp
    have e : s = 0 := by omega
    subst e
    exact (h.2.2.2 0 p hp).1 rfl
  | succ n ih =>
    intro s p hs hp
    by_cases s0 : s = 0
    · subst s0
      exact (h.2.2.2 0 p hp).1 rfl
    · obtain ⟨a2, a3, a4⟩ := (h.2.2.2 s p hp).2 (by omega)
      obtain ⟨hl, p', ch, h1, h2, h3⟩ := (hW s p hp).2 (by omega)
      rw [a4, ih p.2.1 p' (by omega) h1, pth_s hW (by omega) hp, List.length_append, List.length_singleton]
      rfl
end TYC
section RFK
variable {G : mG} {d D : Nat} {z : gd} {F : Int32 → gd → Prop}
end RFK
section TSW
variable {G : mG} {d D : Nat} {x z a : gd} {F : Int32 → gd → Prop} {Fv : gd → Prop} {C : gCo}
theorem sc_showq9 {Tw : Nat → gTy} (q : MI z) (gc : GC C) (hK : ¬ z.1 0 66 = 0 → MK z C) (w f : Int32) (hT : ∀ wn, (wn = 0 ∨ wn = 1) → ¬ z.1 119 wn = 0 → TYoq9 C wn z (Tw wn) ∧ TW C wn (Tw wn)) (hD : 8 ≤ D) (h01 : ¬ ((w = 0 ∨ w = 1) ∧ 0 ≤ f.toInt ∧ f.toInt < 11) → ∀ z', rfK 1 z z' → F 0 z') (h02 : ((w = 0 ∨ w = 1) ∧ 0 ≤ f.toInt ∧ f.toInt < 11) → ¬ shG C Tw z w f → ∀ z', rfK 2 z z' → F 0 z') (h1 : ∀ (wn s : Nat) z', (wn = 0 ∨ wn = 1) → w = Int32.ofNat wn → 0 ≤ f.toInt → f.toInt < 11 → ¬ z.1 119 wn = 0 → fsF C wn (Tw wn) f.toInt.toNat s → (pth (Tw wn) s).length ≤ 400 → HistC C wn z' → mi (0 :: 67 :: 68 :: dL) (138 :: dA) z z' → z'.1 0 0 = 0 → z'.1 0 67 = 1 → (z'.1 0 94).toInt = ((pth (Tw wn) s).length : Nat) → (∀ k v, (pth (Tw wn) s)[k]? = some v → c96 z' k = v) → F (z'.1 0 94) z') : MT G D z_show 0 [(0, vr 0), (1, vi w), (2, vi f)] [] z (ri F) := by
  obtain ⟨D, rfl⟩ : ∃ D', D = D' + 1 := ⟨D - 1, by omega⟩
  have k0 : (0 : Int32).toInt = 0 := rfl
  have k1 : (1 : Int32).toInt = 1 := rfl
  have km1 : (-1 : Int32).toInt = -1 := rfl
  have k4 : (400 : Int32).toInt = 400 := rfl
  refine sg_show_0 _ _ (fun y e => ?_)
  have hy := z0_s e
  have no : ∀ wn : Nat, (wn = 0 ∨ wn = 1) → w = Int32.ofNat wn → 0 ≤ f.toInt → f.toInt < 11 → ¬ shG C Tw z w f → ∀ y', rfK 2 z y' → ri F (some (vi 0)) y' := fun wn w01 ew f0 f1 hn y' m => ri_i (h02 ⟨by rcases w01 with e9 | e9 <;> rw [ew, e9]; exact Or.inl rfl; exact Or.inr rfl, f0, f1⟩ hn y' m)
  have qy := (MI_0 hy.1 q).1
  have g119 : y.1 119 = z.1 119 := hy.1.2 119 (by decide) (by simp)
  have p75 : ∀ wn : Nat, (wn = 0 ∨ wn = 1) → w = Int32.ofNat wn → vp_in w 2 → 0 ≤ f.toInt → f.toInt < 11 → ∀ s b : Int32, (b = 0 → ¬ y.1 119 wn = 0 ∧ ∃ S : Nat, s.toInt = (S : Nat) ∧ fsF C wn (Tw wn) f.toInt.toNat S) → (¬ b = 0 → ¬ shG C Tw z w f) → MT G (D + 1) z_show 75 [(0, vr 0), (1, vi w), (3, vi s)] [vi b, vr 0] y (ri F) := by
    intro wn w01 ew wv f0 f1 s b hb hb2
    refine sg_show_75 _ _ _ (sc_refk b 2 hy (by decide) (fun b0 => ⟨fun q => absurd rfl q, fun _ => ?_⟩) (fun nb y' m => ⟨fun _ => no wn w01 ew f0 f1 (hb2 nb) y' m, fun q => absurd q (by decide)⟩))
    obtain ⟨tr, S, es, hfs⟩ := hb b0
    obtain ⟨W, eW⟩ : ∃ W, W = w.toNatClampNeg := ⟨_, rfl⟩
    have eWn : W = wn := by rw [eW, ew]; rcases w01 with e9 | e9 <;> rw [e9] <;> rfl
    have tz : ¬ z.1 119 wn = 0 := by rw [← g119]; exact tr
    obtain ⟨tyz, hTW⟩ := hT wn w01 tz
    obtain ⟨T, eT⟩ : ∃ T, T = Tw wn := ⟨_, rfl⟩
    have h1 := fun z' => h1 wn S z' w01 ew f0 f1 tz hfs
    rw [← eT] at tyz hTW hfs h1
    have ty : TYoq9 C wn y T := TYo_miq9 hy.1 rfl tyz
    obtain ⟨p9, hp9, -⟩ := id hfs
    have hc : ¬ y.1 0 66 = 0 := (qy.2.2.2 wn (by omega) tr).1
    have cp := qy.2.1 hc
    have hKz := hK (by rw [← hy.1.1 66 (by decide)]; exact hc)
    have b3 := ty.2.1
    have sS := gt_lt hp9
    have ix : ∀ (c : Int32) (c' : Nat), c.toInt = (c' : Nat) → c' < T.1.length → vp_in (3000 * w + c) 6000 ∧ (3000 * w + c).toNatClampNeg = 3000 * wn + c' := fun c c' ec c1 => by
      have := tmul (k := 3000) (K := 3000) (N := 6000) (n := 3000) (i := c) rfl wv (by omega) (by omega) (by omega) (by omega) (by omega)
      have cc := t_cl c
      rw [← eW, eWn] at this
      rw [show c.toNatClampNeg = c' by omega] at this
      exact this
    obtain ⟨sv, se⟩ := ix s S es sS
    have dS := TYo_dq9 hTW ty S S p9 (Nat.le_refl _) hp9
    obtain ⟨N, eN⟩ : ∃ N, N = y.1 132 (3000 * w + s).toNatClampNeg := ⟨_, rfl⟩
    have dN : N.toInt = ((pth T S).length : Nat) := by rw [eN, se]; exact dS
    rw [← eN]
    -- the run gone again
    have loop : (pth T S).length ≤ 400 → ∀ (m : Nat) (u : gd) (k : Nat) (i : Int32), i.toInt = (k : Nat) → k ≤ (pth T S).length → (pth T S).length - k ≤ m → HistC C wn u → (u.1 0 94).toInt = (k : Nat) → (∀ j v, (pth T S)[j]? = some v → (u.1 138 j).toInt = (v : Nat)) → (∀ j v, j < k → (pth T S)[j]? = some v → c96 u j = v) → u.1 0 67 = 1 → mi (67 :: 68 :: dL) (138 :: dA) y u → MT G (D + 1) z_show 186 [(0, vr 0), (4, vi N), (5, vi i)] [] u (ri F) := by
      intro N4
      have end' : ∀ (u : gd) (k : Nat), k = (pth T S).length → HistC C wn u → (u.1 0 94).toInt = (k : Nat) → (∀ j v, j < k → (pth T S)[j]? = some v → c96 u j = v) → u.1 0 67 = 1 → mi (67 :: 68 :: dL) (138 :: dA) y u → ri F (some (vi (u.1 0 94))) u := fun u k ek hu u94 u96 u67 mu => ri_i (h1 u N4 hu (mi_tr hy.1 mu rfl rfl) (by rw [mu.1 0 (by decide)]; exact hy.2) u67 (by rw [u94, ek]) (fun j v hj => u96 j v (by rw [ek]; exact gt_lt hj) hj))
      intro m
      induction m with
      | zero =>
        intro u k i ei hk hm hu u94 u138 u96 u67 mu
        exact sg_show_186 _ _ ⟨fun _ => end' u k (by omega) hu u94 u96 u67 mu, fun c => absurd (t_le.mpr (by omega)) c⟩
      | succ m ih =>
        intro u k i ei hk hm hu u94 u138 u96 u67 mu
        refine sg_show_186 _ _ ⟨fun c => end' u k (by rw [t_le] at c; omega) hu u94 u96 u67 mu, fun c => ?_⟩
        rw [t_le] at c
        have kl : k < (pth T S).length := by omega
        have ci : i.toNatClampNeg = k := by rw [t_cl, ei]; rfl
        refine ⟨by rw [vp_in_iff]; omega, ?_⟩
        rw [ci]
        have hg := List.getElem?_eq_getElem kl
        obtain ⟨v, ev⟩ : ∃ v, v = (pth T S)[k] := ⟨_, rfl⟩
        rw [← ev] at hg
        have e138 := u138 k v hg
        -- the choice is one of those that there are
        obtain ⟨c9, hc9⟩ : ∃ c9 : Nat → Nat, ∀ j v, (pth T S)[j]? = some v → c9 j = v := ⟨fun j => ((pth T S)[j]?).getD 0, fun j v hj => congrArg (fun z : Option Nat => z.getD 0) hj⟩
        obtain ⟨-, r2⟩ := pth_run hTW S S p9 (Nat.le_refl _) hp9 c9 hc9
        have rE : runM C wn c9 k = runM C wn (c96 u) k := runM_cg (fun j hj => by
          have hgj := List.getElem?_eq_getElem (show j < (pth T S).length by omega)
          rw [hc9 j _ hgj, u96 j _ hj hgj])
        have lt := r2 k kl
        rw [hc9 k v hg, rE] at lt
        have e84 := HistC_n hu
        have ek : (u.1 0 94).toInt.toNat = k := by rw [u94]; rfl
        rw [ek] at e84
        have ii : (i + 1).toInt = ((k + 1 : Nat) : Int) := by rw [t_add (by omega) (by omega), k1, ei]; rfl
        refine sc_more gc hu (by omega) _ (by omega) (by omega) (by omega) (fun u' hu' df => ?_)
        obtain ⟨mm, e94, e96, e96b⟩ := df
        have cu : (u.1 0 94).toNatClampNeg = k := by rw [t_cl]; exact ek
        rw [cu] at e96 e96b
        refine ih u' (k + 1) (i + 1) ii kl (by omega) hu' (by rw [e94, u94]; push_cast; rfl) (fun j v hj => by rw [mm.2 138 (by decide) (by decide)]; exact u138 j v hj) (fun j v9 hj hv => ?_) (by rw [mm.1 67 (by decide)]; exact u67) (mi_tr mu mm rfl rfl)
        show (u'.1 96 j).toNatClampNeg = v9
        by_cases cj : j = k
        · rw [cj, e96, t_cl]
          rw [cj, hg] at hv
          have hv := Option.some.inj hv
          rw [e138, hv]; rfl
        · rw [e96b j cj]
          exact u96 j v9 (by omega) hv
    -- the way back to the first state
    have back : (pth T S).length ≤ 400 → ∀ (n : Nat) (u : gd) (c i : Int32) (U : Nat) (pU : gMa × Nat × Nat) (r : List Nat), i.toInt = (n : Int) - 1 → c.toInt = (U : Nat) → T.1[U]? = some pU → (pth T U).length = n → pth T S = pth T U ++ r → mi [] [138] y u → (∀ j v, r[j]? = some v → (u.1 138 (n + j)).toInt = (v : Nat)) → MT G (D + 1) z_show 135 [(0, vr 0), (1, vi w), (3, vi c), (4, vi N), (5, vi i)] [] u (ri F) := by
      intro N4 n
      induction n with
      | zero =>
        intro u c i U pU r ei ec hU hl hr mu hu
        have e0 : pth T U = [] := List.eq_nil_of_length_eq_zero hl
        rw [e0, List.nil_append] at hr
        refine sg_show_135 _ _ _ _ ⟨fun _ => ?_, fun cc => absurd (t_lt.mpr (by rw [k0]; omega)) cc⟩
        rw [ew]
        refine sc_startRun gc (CP_mi mu rfl rfl cp) (MK_mi mu rfl rfl (MK_mi hy.1 rfl rfl hKz)) w01 (by omega) (fun u' hh sf => ?_)
        obtain ⟨mm, f94, -, f67, f68⟩ := sf
        refine loop N4 (pth T S).length u' 0 0 rfl (Nat.zero_le _) (by omega) hh (by rw [f94]; rfl) (fun j v hj => ?_) (fun j v hj => absurd hj (Nat.not_lt_zero _)) f67 (mi_tr mu mm rfl rfl)
        rw [mm.2 138 (by decide) (by decide)]
        rw [hr] at hj
        have := hu j v hj
        rw [Nat.zero_add] at this
        exact this
      | succ n ih =>
        intro u c i U pU r ei ec hU hl hr mu hu
        have hlen : (pth T S).length = (n + 1) + r.length := by rw [hr, List.length_append, hl]
        have U0 : 0 < U := by
          apply Classical.byContradiction
          intro c9
          rw [show U = 0 by omega, pth_0] at hl
          cases hl
        have UL := gt_lt hU
        obtain ⟨a2, a3, a4⟩ := (ty.2.2.2 U pU hU).2 U0
        obtain ⟨hlt, p', ch, g1, g2, g3⟩ := (hTW U pU hU).2 U0
        have ps := pth_s hTW U0 hU
        push_cast at ei
        refine sg_show_135 _ _ _ _ ⟨fun cc => ?_, fun cc => ?_⟩
        · rw [t_lt, k0] at cc; exfalso; omega
        obtain ⟨cv, ce⟩ := ix c U ec UL
        have ci : i.toNatClampNeg = n := by rw [t_cl, ei]; omega
        have lv : vp_in i 400 := by rw [vp_in_iff]; omega
        refine ⟨cv, lv, fun v ev => ⟨cv, ?_⟩⟩
        rw [ce, ci] at ev
        rw [ce]
        have mv := md_a u 138 n (u.1 131 (3000 * wn + U)) (by decide)
        rw [← ev] at mv
        have g130 : v.1 130 = y.1 130 := by rw [mv.2.1 130 (by decide) (by decide), mu.2 130 (by decide) (by decide)]
        have g131 : u.1 131 = y.1 131 := mu.2 131 (by decide) (by decide)
        rw [g131] at ev
        rw [g130]
        obtain ⟨j9, ej⟩ : ∃ j, j = i + (-1) := ⟨_, rfl⟩
        have ji : j9.toInt = (n : Int) - 1 := by rw [ej, t_add (by rw [km1]; omega) (by rw [km1]; omega), km1]; omega
        rw [← ej]
        clear ej
        have hl' : (pth T pU.2.1).length = n := by rw [ps, List.length_append, List.length_singleton] at hl; omega
        refine ih v _ j9 pU.2.1 p' (pU.2.2 :: r) ji a2 g1 hl' (by rw [hr, ps, List.append_assoc]; rfl) (mi_tr mu (mi_of mv) rfl rfl) (fun j v9 hj => ?_)
        cases j with
        | zero =>
          have hj : pU.2.2 = v9 := Option.some.inj hj
          rw [Nat.add_zero, ev, si_get, if_pos ⟨rfl, rfl⟩, ← hj]
          exact a3
        | succ j =>
          have hj : r[j]? = some v9 := hj
          have := hu j v9 hj
          rw [ev, si_ne 138 _ (by omega), show n + (j + 1) = n + 1 + j by omega]
          exact this
    have p106 : ∀ b : Int32, (b = 0 → (pth T S).length ≤ 400) → (¬ b = 0 → ¬ (pth T S).length ≤ 400) → MT G (D + 1) z_show 106 [(0, vr 0), (1, vi w), (3, vi s)] [vi b, vr 0] y (ri F) := by
      intro b hb hb2
      refine sg_show_106 _ _ _ (sc_refk b 2 hy (by decide) (fun b0 => ⟨fun _ => ⟨sv, ?_⟩, fun q => absurd rfl q⟩) (fun nb y' m => ⟨fun q => absurd q (by decide), fun _ => no wn w01 ew f0 f1 (fun hg => hb2 nb ?_) y' m⟩))
      · rw [← eN]
        have N4 := hb b0
        obtain ⟨j, ej⟩ : ∃ j, j = N - 1 := ⟨_, rfl⟩
        have ji : j.toInt = ((pth T S).length : Int) - 1 := by rw [ej, t_sub (by rw [k1]; omega) (by rw [k1]; omega), k1, dN]
        rw [← ej]
        exact back N4 (pth T S).length y s j S p9 [] ji es hp9 rfl (List.append_nil _).symm ⟨fun _ _ => rfl, fun _ _ _ => rfl⟩ (fun j v hj => nomatch hj)
      · obtain ⟨wn', s', a1, a2, -, -, -, a6, a7⟩ := hg
        have e1 := wn_eq a1 w01 a2 ew
        rw [e1, ← eT] at a6 a7
        rw [fsF_u hfs a6]; exact a7
    exact ⟨sv, fun c => p106 0 (fun _ => by rw [t_le, k4] at c; omega) (fun z => absurd rfl z), fun c => p106 1 (fun q => absurd q (by decide)) (fun _ z9 => c (t_le.mpr (by rw [k4]; omega)))⟩
  have p63 : ∀ wn : Nat, (wn = 0 ∨ wn = 1) → w = Int32.ofNat wn → vp_in w 2 → 0 ≤ f.toInt → f.toInt < 11 → ∀ s : Int32, (s = -1 → ¬ shG C Tw z w f) → (¬ s = -1 → ¬ y.1 119 wn = 0 ∧ ∃ S : Nat, s.toInt = (S : Nat) ∧ fsF C wn (Tw wn) f.toInt.toNat S) → MT G (D + 1) z_show 63 [(0, vr 0), (1, vi w)] [vi s] y (ri F) := fun wn w01 ew wv f0 f1 s hs hs2 => sg_show_63 _ _ ⟨fun ne => p75 wn w01 ew wv f0 f1 s 0 (fun _ => hs2 ne) (fun z => absurd rfl z), fun e9 => p75 wn w01 ew wv f0 f1 s 1 (fun q => absurd q (by decide)) (fun _ => hs e9)⟩
  have p30 : ∀ b : Int32, (b = 0 → (vp_in w 2 ∧ (w = 0 ∨ w = 1)) ∧ 0 ≤ f.toInt ∧ f.toInt < 11) → (¬ b = 0 → ¬ ((w = 0 ∨ w = 1) ∧ 0 ≤ f.toInt ∧ f.toInt < 11)) → MT G (D + 1) z_show 30 [(0, vr 0), (1, vi w), (2, vi f)] [vi b, vr 0] y (ri F) := by
    intro b hb hb2
    refine sg_show_30 _ _ _ (sc_refk b 1 hy (by decide) (fun b0 => ⟨fun _ => ?_, fun q => absurd rfl q⟩) (fun nb y' m => ⟨fun q => absurd q (by decide), fun _ => ri_i (h01 (hb2 nb) y' m)⟩))
    obtain ⟨⟨wv, hw⟩, f0, f1⟩ := hb b0
    obtain ⟨wn, w01, ew, ewn⟩ := w_nat hw
    obtain ⟨fv, fe⟩ := t11 wv f0 f1
    rw [ewn]
    refine ⟨wv, fun t0 => p63 wn w01 ew wv f0 f1 _ (fun _ hg => ?_) (fun z => absurd rfl z), fun tr => ⟨fv, p63 wn w01 ew wv f0 f1 _ (fun e1 hg => ?_) (fun ne => ⟨tr, ?_⟩)⟩⟩
    · obtain ⟨wn', s', a1, a2, -, -, a5, -⟩ := hg
      rw [wn_eq a1 w01 a2 ew, ← g119] at a5
      exact a5 t0
    · rw [fe, ewn] at e1
      obtain ⟨wn', s', a1, a2, -, -, -, ⟨p9, c1, c2, -⟩, -⟩ := hg
      have e2 := wn_eq a1 w01 a2 ew
      rw [e2] at c1 c2
      have ty : TYoq9 C wn y (Tw wn) := TYo_miq9 hy.1 rfl (hT wn w01 (by rw [← g119]; exact tr)).1
      have cf := t_cl f
      rcases ty.2.2.1 f.toInt.toNat (by omega) with ⟨-, g2⟩ | ⟨s9, p8, -, g2, -⟩
      · exact g2 s' p9 (gt_lt c1) c1 c2
      · have g2 : (y.1 126 (11 * wn + f.toNatClampNeg)).toInt = (s9 : Nat) := g2
        rw [e1, km1] at g2; omega
    · rw [fe, ewn] at ne ⊢
      have ty : TYoq9 C wn y (Tw wn) := TYo_miq9 hy.1 rfl (hT wn w01 (by rw [← g119]; exact tr)).1
      rcases ty.2.2.1 f.toInt.toNat (by omega) with ⟨g1, -⟩ | ⟨s9, p8, g1, g2, g3, g4, g5⟩
      · exact absurd g1 ne
      · exact ⟨s9, g2, p8, g3, g4, g5⟩
  refine sp_in _ _ _ ⟨fun c1 => p30 1 (fun q => absurd q (by decide)) (fun _ hg => ?_), fun c1 => sp_in _ _ _ ⟨fun c2 => p30 0 (fun _ => ⟨w_in (bi_ne.mp c1), f_in (bi_ne.mp c2)⟩) (fun z => absurd rfl z), fun c2 => p30 1 (fun q => absurd q (by decide)) (fun _ hg => ?_)⟩⟩
  · refine bi_eq.mp c1 ?_
    rcases hg.1 with e9 | e9 <;> rw [e9]
    · exact ⟨by decide, by decide⟩
    · exact ⟨by decide, by decide⟩
  · refine bi_eq.mp c2 ⟨t_le.mpr (by rw [k0]; exact hg.2.1), t_le.mpr ?_⟩
    have k10 : (10 : Int32).toInt = 10 := rfl
    have := hg.2.2
    rw [k10]; omega
end TSW

/-- what stays of all states' -/
def TYxq9 (C : gCo) (wn : Nat) (z : gd) (T : gTy) : Prop := (z.1 121 wn = if T.2 = true then 1 else 0) ∧ MLcq9 z wn (loSq9 C wn (z.1 0 24).toInt.toNat T T.1.length)
def TYcq9 (C : gCo) (wn : Nat) (z : gd) (T : gTy) : Prop := TYoq9 C wn z T ∧ TYxq9 C wn z T
theorem TYx_fq9 {C : gCo} {wn : Nat} {z y : gd} {T : gTy} (e0 : y.1 0 24 = z.1 0 24) (e : ∀ c, c = 121 ∨ c = 122 ∨ c = 123 ∨ c = 124 ∨ c = 125 ∨ c = 127 ∨ c = 128 ∨ c = 129 → y.1 c = z.1 c) (h : TYxq9 C wn z T) : TYxq9 C wn y T := by
  unfold TYxq9 MLcq9 OUsq9 at h ⊢
  rw [e0, e 121 (by omega), e 122 (by omega), e 123 (by omega), e 124 (by omega), e 125 (by omega), e 127 (by omega), e 128 (by omega), e 129 (by omega)]
  exact h
theorem TYx_miq9 {C : gCo} {wn : Nat} {z y : gd} {T : gTy} {L A : List Nat} (m : mi L A z y) (hL : [24].all (fun k => !L.elem k) = true) (hA : [121, 122, 123, 124, 125, 127, 128, 129].all (fun k => !A.elem k) = true) (h : TYxq9 C wn z T) : TYxq9 C wn y T := by
  have g := fun k (h0 : k ≠ 0) hk => m.2 k h0 (all_no hA k hk)
  refine TYx_fq9 (m.1 24 (all_no hL 24 (by decide))) (fun c hc => ?_) h
  rcases hc with e | e | e | e | e | e | e | e <;> rw [e] <;> exact g _ (by decide) (by decide)
theorem TYc_miq9 {C : gCo} {wn : Nat} {z y : gd} {T : gTy} {L A : List Nat} (m : mi L A z y) (hL : [24].all (fun k => !L.elem k) = true) (hA : [120, 126, 130, 131, 132, 121, 122, 123, 124, 125, 127, 128, 129].all (fun k => !A.elem k) = true) (h : TYcq9 C wn z T) : TYcq9 C wn y T := ⟨TYo_miq9 m (all_sub hA rfl) h.1, TYx_miq9 m hL (all_sub hA rfl) h.2⟩
/-- one way's trying leaves the other's -/
theorem TYx_owq9 {C : gCo} {wn W : Nat} {z y : gd} {T : gTy} (hw : wn < 2) (ne : ¬ wn = W) (e0 : y.1 0 24 = z.1 0 24) (o : ow W z y) (l : LW3q9 z y W) (h : TYxq9 C wn z T) : TYxq9 C wn y T := by
  obtain ⟨h1, h2, h3, h4, h5, h6, h7⟩ := h
  obtain ⟨l1, l2, l3, l4, l5, l6⟩ := l.1 wn hw ne
  have o3 := (o wn hw ne).2.1
  refine ⟨by rw [l.2 wn hw ne]; exact h1, ?_⟩
  unfold MLcq9
  rw [e0, l1, l2, l3]
  refine ⟨h2, h3, h4, fun c hc => by rw [l4 c hc]; exact h5 c hc, fun a ha b hb => ?_, by rw [o3]; exact h7.1, h7.2.1, fun i r hr => ?_⟩
  rotate_left
  · obtain ⟨g1, g2, g3⟩ := h7.2.2 i r hr
    have hi := gt_lt hr
    have h3 := h7.2.1
    have e : ∀ c, c < 24 → y.1 129 (72000 * wn + 24 * i + c) = z.1 129 (72000 * wn + 24 * i + c) := fun c hc => by
      have := l6 (24 * i + c) (by omega)
      rw [show 72000 * wn + (24 * i + c) = 72000 * wn + 24 * i + c by omega] at this
      exact this
    exact ⟨g1, fun c v hv => by rw [e c (by have := gt_lt hv; omega)]; exact g2 c v hv, fun c c1 c2 => by rw [e c c2]; exact g3 c c1 c2⟩
  rw [show 36 * wn + 6 * a + b = 36 * wn + (6 * a + b) by omega, l5 (6 * a + b) (by omega), show 36 * wn + (6 * a + b) = 36 * wn + 6 * a + b by omega]
  exact h6 a ha b hb
section TAT
variable {G : mG} {d D : Nat} {x z a : gd} {F : Int32 → gd → Prop} {Fv : gd → Prop} {C : gCo} {nl wr : Nat}
theorem sc_attemptq9 (q : MI z) (gc : GC C) (hK : ¬ z.1 0 66 = 0 → MK z C ∧ NCq C ∧ LkN C nl ∧ nl ≤ 6 ∧ C.2.2.1.length ≤ 24 ∧ (z.1 0 26).toInt = (C.2.2.2.1.length : Nat) ∧ (z.1 0 27).toInt = (C.2.2.2.2.length : Nat) ∧ (z.1 0 24).toInt = (nl : Nat)) (hH : ¬ z.1 0 67 = 0 → HistC C wr z) (w l : Int32) (hD : 8 ≤ D) (h01 : z.1 0 66 = 0 → ∀ z', rfK 1 z z' → F 0 z') (h02 : ¬ z.1 0 66 = 0 → ¬ ((w = 0 ∨ w = 1) ∧ 1 ≤ l.toInt ∧ l.toInt ≤ 3000) → ∀ z', rfK 2 z z' → F 0 z') (h1 : ∀ (wn lim : Nat) z', (wn = 0 ∨ wn = 1) → w = Int32.ofNat wn → l.toInt = (lim : Nat) → 1 ≤ lim → lim ≤ 3000 → ¬ z.1 0 66 = 0 → PM z z' → z'.1 0 0 = 0 → (z'.1 0 67 = z.1 0 67 ∧ z'.1 0 94 = z.1 0 94 ∧ z'.1 96 = z.1 96 ∧ (¬ z.1 0 67 = 0 → HistC C wr z')) → TYcq9 C wn z' (tryM C wn lim) → ¬ z'.1 119 wn = 0 → (∀ w', ¬ w' = wn → z'.1 119 w' = z.1 119 w') → ow wn z z' → LW3q9 z z' wn → F (z'.1 120 w.toNatClampNeg) z') : MT G D z_attempt 0 [(0, vr 0), (1, vi w), (2, vi l)] [] z (ri F) := by
  obtain ⟨D, rfl⟩ : ∃ D', D = D' + 1 := ⟨D - 1, by omega⟩
  have k0 : (0 : Int32).toInt = 0 := rfl
  have k1 : (1 : Int32).toInt = 1 := rfl
  have k3 : (3000 : Int32).toInt = 3000 := rfl
  have z0' : (0 : Int32).toNatClampNeg = 0 := rfl
  refine sg_attempt_0 _ _ (fun y e => ?_)
  have hy := z0_s e
  have b1n : ¬ vp_nar .boolean 1 = 0 := by decide
  have y66 : y.1 0 66 = z.1 0 66 := hy.1.1 66 (by decide)
  have y67 : y.1 0 67 = z.1 0 67 := hy.1.1 67 (by decide)
  have hHy : ¬ y.1 0 67 = 0 → HistC C wr y := fun h9 => HistC_0 hy.1 (hH (by rw [← y67]; exact h9))
  have qy := (MI_0 hy.1 q).1
  have y2 : y.1 0 2 = z.1 0 2 := hy.1.1 2 (by decide)
  have p51 : ¬ y.1 0 66 = 0 → ∀ b : Int32, (b = 0 → (vp_in w 2 ∧ (w = 0 ∨ w = 1)) ∧ 1 ≤ l.toInt ∧ l.toInt ≤ 3000) → (¬ b = 0 → ¬ ((w = 0 ∨ w = 1) ∧ 1 ≤ l.toInt ∧ l.toInt ≤ 3000)) → MT G (D + 1) z_attempt 51 [(0, vr 0), (1, vi w), (2, vi l)] [vi b, vr 0] y (ri F) := by
    intro hc b hb hb2
    refine sg_attempt_51 _ _ _ (sc_refk b 2 hy (by decide) (fun b0 => ⟨fun _ => ?_, fun q => absurd rfl q⟩) (fun nb y' m => ⟨fun q => absurd q (by decide), fun _ => ri_i (h02 (by rw [← y66]; exact hc) (hb2 nb) y' m)⟩))
    obtain ⟨⟨wv, w01⟩, l1, l3⟩ := hb b0
    obtain ⟨wn, w01n, ew, ewn⟩ := w_nat w01
    obtain ⟨lim, elm⟩ : ∃ lim : Nat, l.toInt = lim := ⟨l.toInt.toNat, by omega⟩
    have hcz : ¬ z.1 0 66 = 0 := by rw [← y66]; exact hc
    obtain ⟨hKz, hq2, hLk, n6, l24, l26, l27, en⟩ := hK hcz
    have h1 := fun z' => h1 wn lim z' w01n ew elm (by omega) (by omega) hcz
    obtain ⟨W, eW⟩ : ∃ W, W = w.toNatClampNeg := ⟨_, rfl⟩
    have W2 : W < 2 := by rw [eW]; exact vp_lt wv
    have eWn : W = wn := by rw [eW]; exact ewn
    have cp := qy.2.1 hc
    -- the trying itself; u: behind the state kept
    have p81 : ∀ u : gd, mi [136] [136] y u → (¬ y.1 0 67 = 0 → ∀ i : Nat, i < 222 → u.1 136 i = pv y i) → MT G (D + 1) z_attempt 81 [(0, vr 0), (1, vi w), (2, vi l), (3, vi (y.1 0 68))] [] u (ri F) := by
      intro u mu ru
      refine sg_attempt_81 _ _ _ (fun u1 e1 => ?_)
      have m1 := md_f u 68 w
      rw [← e1] at m1
      have h168 : u1.1 0 68 = w := by rw [e1, si_get, if_pos ⟨rfl, rfl⟩]
      have myu1 : mi [68, 136] [136] y u1 := mi_tr mu (mi_of m1) rfl rfl
      refine sp_tryAll3q9 gc hq2 hLk n6 l24 w01n w l ew wv (CP_mi myu1 rfl rfl cp) (MK_mi myu1 rfl rfl (MK_mi hy.1 rfl rfl hKz)) (by rw [myu1.1 26 (by decide), hy.1.1 26 (by decide)]; exact l26) (by rw [myu1.1 27 (by decide), hy.1.1 27 (by decide)]; exact l27) (by rw [myu1.1 24 (by decide), hy.1.1 24 (by decide)]; exact en) h168 elm l1 l3 (by omega) (fun A v hM ti tj te => ⟨wv, fun v4 e4 v5 e5 => ?_⟩)
      rw [← eW] at ti tj e4 te
      have te : TJeq9 u1 C nl wn wn (tryM C wn lim) v := by rw [eWn] at te; exact te
      obtain ⟨M, eM⟩ : ∃ M, M = (tryM C wn lim).1.length := ⟨_, rfl⟩
      have tyc0 : TYoq9 C wn v (tryM C wn lim) := by rw [eWn] at ti tj; exact TYo_ofq9 hM ti tj
      rw [← eM] at hM ti
      have m4 := md_a v 119 W (vp_nar .boolean 1) (by decide)
      rw [← e4] at m4
      have m5 := md_f v4 68 (y.1 0 68)
      rw [← e5] at m5
      have h5 : v5.1 0 68 = y.1 0 68 := by rw [e5, si_get, if_pos ⟨rfl, rfl⟩]
      have mv5 : mi [68] [119] v v5 := mi_tr (mi_of m4) (mi_of m5) rfl rfl
      have my5 : mi (68 :: tL) (119 :: 136 :: tA') y v5 := mi_tr (mi_tr (L3 := 68 :: tL) (A3 := 136 :: tA') myu1 ti.1 rfl rfl) mv5 rfl rfl
      have pr5 : prE y v5 := prE_mi (prE_rf y) my5 rfl rfl
      have tyW : TY v5 W := TY_mi mv5 rfl rfl (TY_TI hM ti)
      have tyc5 : TYoq9 C wn v5 (tryM C wn lim) := TYo_miq9 mv5 rfl tyc0
      have v24 : v.1 0 24 = z.1 0 24 := by rw [ti.1.1 24 (by decide), myu1.1 24 (by decide), hy.1.1 24 (by decide)]
      have tyx0 : TYxq9 C wn v (tryM C wn lim) := by
        refine ⟨by rw [eWn] at tj; exact tj.2.2.1, ?_⟩
        rw [v24, en]
        exact te.1
      have tyx5 : TYxq9 C wn v5 (tryM C wn lim) := TYx_miq9 mv5 rfl rfl tyx0
      have la : LW3q9 z y wn := LW3_eq9 (fun c hc => by rcases hc with e | e | e | e | e | e | e <;> rw [e] <;> exact hy.1.2 _ (by decide) (by simp))
      have lb : LW3q9 y u1 wn := LW3_eq9 (fun c hc => by rcases hc with e | e | e | e | e | e | e <;> rw [e] <;> exact myu1.2 _ (by decide) (by decide))
      have lc : LW3q9 v v5 wn := LW3_eq9 (fun c hc => by rcases hc with e | e | e | e | e | e | e <;> rw [e] <;> exact mv5.2 _ (by decide) (by decide))
      have lw5 : LW3q9 z v5 wn := LW3_trq9 (LW3_trq9 (LW3_trq9 la lb) te.2) lc
      have e119w : ¬ v5.1 119 wn = 0 := by rw [m5.2.1 119 (by decide) (by decide), e4, ← eWn, si_get, if_pos ⟨rfl, rfl⟩]; exact b1n
      have g119 : y.1 119 = z.1 119 := hy.1.2 119 (by decide) (by simp)
      have v0 : v5.1 0 0 = 0 := by rw [my5.1 0 (by decide)]; exact hy.2
      have owz : ow wn z y := ow_mi hy.1 rfl
      have ow5 : ow W y v5 := ow_tr (ow_tr (ow_mi myu1 rfl) ti.2.1) (ow_mi mv5 rfl)
      have e119 : ∀ w' : Nat, ¬ w' = W → v5.1 119 w' = y.1 119 w' := fun w' hw' => by
        rw [m5.2.1 119 (by decide) (by decide), e4, si_ne 119 w' hw', ti.1.2 119 (by decide) (by decide), myu1.2 119 (by decide) (by decide)]
      have tys : ∀ w' : Nat, w' < 2 → ¬ v5.1 119 w' = 0 → ¬ v5.1 0 66 = 0 ∧ TY v5 w' := by
        intro w' hw' hn
        refine ⟨by rw [my5.1 66 (by decide)]; exact hc, ?_⟩
        by_cases q9 : w' = W
        · rw [q9]; exact tyW
        · rw [e119 w' q9] at hn
          exact TY_ow hw' q9 ow5 pr5 (qy.2.2.2 w' hw' hn).2
      have g5 : G0 v5 := G0_mi my5 rfl rfl qy.1
      have cp5 : CP v5 := CP_mi my5 rfl rfl cp
      have o119 : ∀ w', ¬ w' = wn → v5.1 119 w' = z.1 119 w' := fun w' hw' => by rw [← g119]; exact e119 w' (by rw [eWn]; exact hw')
      have owy : ow wn z v5 := ow_tr owz (by rw [← eWn]; exact ow5)
      refine ⟨fun n67 => ⟨wv, ri_i (h1 v5 (PM_0 hy.1 ⟨⟨g5, fun _ => cp5, fun q9 => absurd n67 q9, tys⟩, my5.1 2 (by decide), fun k hk => my5.1 k (all_no (M := mfL) rfl k hk), fun c hc => my5.2 c (mfA_0 c hc) (all_no (M := mfA) rfl c hc)⟩) v0 ⟨by rw [my5.1 67 (by decide)]; exact y67, by rw [my5.1 94 (by decide)]; exact hy.1.1 94 (by decide), by rw [my5.2 96 (by decide) (by decide)]; exact hy.1.2 96 (by decide) (by simp), fun h9 => absurd (show z.1 0 67 = 0 by rw [← y67, ← my5.1 67 (by decide)]; exact n67) h9⟩ ⟨tyc5, tyx5⟩ e119w o119 owy lw5)⟩, fun h67 => ?_⟩
      rw [my5.1 67 (by decide)] at h67
      obtain ⟨s, n, q1, q2, q3, q4, q5, q6, q7⟩ := hHy h67
      have av := (q2 n (Nat.le_refl _)).1
      have el : eqS (Sl (s n)) (s n) y := eqS_w (Sl_Sm _) q4
      have r136 : ∀ i : Nat, i < 222 → v5.1 136 (0 + i) = pv (s n) i := fun i hi => by
        rw [Nat.zero_add, m5.2.1 136 (by decide) (by decide), m4.2.1 136 (by decide) (by decide), ti.1.2 136 (by decide) (by decide), m1.2.1 136 (by decide) (by decide), ru h67 i hi]
        exact pv_eq el hi
      refine sp_unpack (Or.inr rfl) mk_136 ml_136 0 (by decide) (by decide) (by decide) (fun v8 m8 r8 => ?_)
      rw [z0'] at r8
      have e8 : eqS (Sl (s n)) (s n) v8 := by
        refine un_eq ?_ ?_ (fun t ht => (av.1.2 t ht).2.2.2.1) (fun i hi => by rw [r8 i hi, r136 i hi])
        · exact prE_tr (prE_eqS el) (prE_mi pr5 (mi_of m8) rfl rfl)
        · rw [m8.1 68 (by decide), h5, cF el (by decide)]
      refine MT_up (by omega) (MTv_mono (av.2.2.2.2.2 G v8 e8) (fun v9 g9 => ⟨wv, ri_i ?_⟩))
      have m59 : mi [82, 84, 88, 89, 90, 91, 92, 93] [70, 71, 72, 73, 74, 75, 76, 77, 78, 79, 80, 81, 82, 84, 86, 87, 88] v5 v9 := mi_tr (mi_of m8) (mi_of g9.2) rfl rfl
      have my9 : mi (68 :: tL) (119 :: 136 :: tA') y v9 := mi_tr my5 m59 rfl rfl
      have h9 : v9.1 0 68 = y.1 0 68 := by rw [m59.1 68 (by decide)]; exact h5
      have c9 : c96 v9 = c96 y := by unfold c96; rw [my9.2 96 (by decide) (by decide)]
      have histc : HistC C wr v9 := ⟨s, n, by rw [my9.1 94 (by decide)]; exact q1, by rw [c9]; exact q2, by rw [c9, my9.2 96 (by decide) (by decide)]; exact q3, g9.1, by rw [h9]; exact St_pr (prE_mi (prE_rf y) my9 rfl rfl) q5, by rw [h9]; exact q6, HA_mi my9 rfl rfl q7⟩
      have hist : Hist v9 := HistC_H histc
      refine h1 v9 (PM_0 hy.1 ⟨⟨G0_mi my9 rfl rfl qy.1, fun _ => CP_mi my9 rfl rfl cp, fun _ => ⟨by rw [my9.1 66 (by decide)]; exact hc, hist⟩, fun w' hw' hn => ?_⟩, my9.1 2 (by decide), fun k hk => my9.1 k (all_no (M := mfL) rfl k hk), fun c hc => my9.2 c (mfA_0 c hc) (all_no (M := mfA) rfl c hc)⟩) (by rw [m59.1 0 (by decide)]; exact v0) ⟨by rw [my9.1 67 (by decide)]; exact y67, by rw [my9.1 94 (by decide)]; exact hy.1.1 94 (by decide), by rw [my9.2 96 (by decide) (by decide)]; exact hy.1.2 96 (by decide) (by simp), fun _ => histc⟩ ⟨TYo_miq9 m59 rfl tyc5, TYx_miq9 m59 rfl rfl tyx5⟩ (by rw [m59.2 119 (by decide) (by decide)]; exact e119w) (fun w' hw' => by rw [m59.2 119 (by decide) (by decide)]; exact o119 w' hw') (ow_tr owy (ow_mi m59 rfl)) (LW3_trq9 lw5 (LW3_eq9 (fun c hc => by rcases hc with e | e | e | e | e | e | e <;> rw [e] <;> exact m59.2 _ (by decide) (by decide))))
      rw [m59.2 119 (by decide) (by decide)] at hn
      exact ⟨by rw [my9.1 66 (by decide)]; exact hc, TY_mi m59 rfl rfl (tys w' hw' hn).2⟩
    refine ⟨fun n67 => p81 y ⟨fun _ _ => rfl, fun _ _ _ => rfl⟩ (fun q => absurd n67 q), fun h67 => ?_⟩
    obtain ⟨s, n, q1, q2, q3, q4, q5, q6, q7⟩ := hHy h67
    refine sp_pack (Or.inr rfl) mk_136 ml_136 0 (by decide) (by decide) (by decide) (fun t ht => by rw [cA q4 (c := 80) (n := 6) (by decide) ht]; exact ((q2 n (Nat.le_refl _)).1.1.2 t ht).2.2.2.1) (fun u mu _ ru _ => p81 u (mi_of mu) (fun _ i hi => ?_))
    have := ru i hi
    rw [z0', Nat.zero_add] at this
    exact this
  have p18 : ∀ b : Int32, (b = 0 → ¬ y.1 0 66 = 0) → (¬ b = 0 → y.1 0 66 = 0) → MT G (D + 1) z_attempt 18 [(0, vr 0), (1, vi w), (2, vi l)] [vi b, vr 0] y (ri F) := by
    intro b hb hb9
    refine sg_attempt_18 _ _ _ (sc_refk b 1 hy (by decide) (fun b0 => ⟨fun q => absurd rfl q, fun _ => sp_in _ _ _ ⟨fun c1 => p51 (hb b0) 1 (fun q => absurd q (by decide)) (fun _ z9 => ?_), fun c1 => sp_in _ _ _ ⟨fun c2 => p51 (hb b0) 0 (fun _ => ⟨w_in (bi_ne.mp c1), ?_⟩) (fun z9 => absurd rfl z9), fun c2 => p51 (hb b0) 1 (fun q => absurd q (by decide)) (fun _ z9 => ?_)⟩⟩⟩) (fun nb y' m => ⟨fun _ => ri_i (h01 (by rw [← y66]; exact hb9 nb) y' m), fun q => absurd q (by decide)⟩))
    · refine bi_eq.mp c1 ?_
      rcases z9.1 with e9 | e9 <;> rw [e9]
      · exact ⟨by decide, by decide⟩
      · exact ⟨by decide, by decide⟩
    rotate_left
    · exact bi_eq.mp c2 ⟨t_le.mpr (by rw [k1]; exact z9.2.1), t_le.mpr (by rw [k3]; exact z9.2.2)⟩
    obtain ⟨a1, a2⟩ := bi_ne.mp c2
    rw [t_le, k1] at a1
    rw [t_le, k3] at a2
    exact ⟨a1, a2⟩
  exact ⟨fun c => p18 0 (fun _ => c) (fun z9 => absurd rfl z9), fun c => p18 1 (fun q => absurd q (by decide)) (fun _ => c)⟩
end TAT

def rdMq9 (C : gCo) (wr : Nat) (z z' : gd) : Prop := PM z z' ∧ (z'.1 0 67 = z.1 0 67 ∧ z'.1 0 94 = z.1 0 94 ∧ z'.1 96 = z.1 96) ∧ z'.1 119 = z.1 119 ∧ (HistC C wr z → HistC C wr z') ∧ ∀ w T, TYcq9 C w z T → TYcq9 C w z' T
section RDM
variable {C : gCo} {wr : Nat} {z y u : gd}
theorem rd_miq9 {L A : List Nat} (m : mi L A z y) (hL : stL.all (fun k => !L.elem k) = true) (hA : (129 :: 121 :: 122 :: 123 :: 124 :: 125 :: 127 :: 128 :: stA).all (fun k => !A.elem k) = true) (q : MI z) : rdMq9 C wr z y := ⟨PM_mi m hL (all_sub hA rfl) q, ⟨m.1 67 (all_no hL 67 (by decide)), m.1 94 (all_no hL 94 (by decide)), m.2 96 (by decide) (all_no hA 96 (by decide))⟩, m.2 119 (by decide) (all_no hA 119 (by decide)), fun h => HistC_mi m (all_sub hL rfl) (all_sub hA rfl) h, fun w T h => TYc_miq9 m (all_sub hL rfl) (all_sub hA rfl) h⟩
theorem rd_0q9 (m : mi [0] [] z y) (q : MI z) : rdMq9 C wr z y := rd_miq9 m rfl rfl q
theorem rd_oq9 {L A : List Nat} (m : mi L A z y) (hL : stL.all (fun k => !L.elem k) = true) (hA : [129, 121, 122, 124, 125, 127, 128, 2, 6, 7, 8, 36, 37, 38, 51, 52, 54, 55, 56, 57, 58, 59, 60, 61, 62, 64, 65, 66, 70, 71, 72, 73, 74, 75, 76, 77, 78, 79, 80, 81, 82, 86, 87, 88, 96, 98, 99, 100, 103, 106, 107, 119, 120, 123, 126, 130, 131, 132].all (fun k => !A.elem k) = true) (o : oA y) (q : MI z) : rdMq9 C wr z y := ⟨MI_o m hL (all_sub hA rfl) o q, ⟨m.1 67 (all_no hL 67 (by decide)), m.1 94 (all_no hL 94 (by decide)), m.2 96 (by decide) (all_no hA 96 (by decide))⟩, m.2 119 (by decide) (all_no hA 119 (by decide)), fun h => HistC_mi m (all_sub hL rfl) (all_sub hA rfl) h, fun w T h => TYc_miq9 m (all_sub hL rfl) (all_sub hA rfl) h⟩
theorem rd_trq9 (m : mi [0] [] z y) (p : rdMq9 C wr y u) : rdMq9 C wr z u := by
  obtain ⟨p1, ⟨p2, p3, p4⟩, p5, p6, p7⟩ := p
  refine ⟨PM_0 m p1, ⟨?_, ?_, ?_⟩, ?_, fun h => p6 (HistC_0 m h), fun w T h => p7 w T (TYc_miq9 m rfl rfl h)⟩
  · rw [p2, m.1 67 (by decide)]
  · rw [p3, m.1 94 (by decide)]
  · rw [p4, m.2 96 (by decide) (by simp)]
  · rw [p5, m.2 119 (by decide) (by simp)]
end RDM
section RDX
variable {G : mG} {d D : Nat} {x z a : gd} {F : Int32 → gd → Prop} {Fv : gd → Prop} {C : gCo} {wr : Nat}
theorem sr_fault2q9 (q : MI z) (w : Int32) (h : ∀ r z', rdMq9 C wr z z' → F r z') : MT G (D + 1) z_fault_ 0 [(0, vr 0), (1, vi w)] [] z (ri F) := by
  refine sg_fault__0 _ (fun y e => ?_)
  have hy := z0_s e
  have p20 : ∀ b : Int32, MT G (D + 1) z_fault_ 20 [(0, vr 0), (1, vi w)] [vi b, vr 0] y (ri F) := fun b => sg_fault__20 _ _ (sp_ref b 1 hy (by decide) (fun _ => ⟨fun _ => ⟨fun _ => ri_i (h _ y (rd_0q9 hy.1 q)), fun _ => ri_i (h _ y (rd_0q9 hy.1 q))⟩, fun q => absurd rfl q⟩) (fun _ y' m => ⟨fun q => absurd q (by decide), fun _ => ri_i (h _ y' (rd_0q9 m q))⟩))
  exact sp_in _ _ _ ⟨fun _ => p20 0, fun _ => p20 1⟩
theorem sr_countq9 (q : MI z) (w : Int32) (h : ∀ r z', rdMq9 C wr z z' → ((¬ (0 ≤ w.toInt ∧ w.toInt ≤ 4) → z'.1 0 0 = 1) ∧ ((0 ≤ w.toInt ∧ w.toInt ≤ 4) → z'.1 0 0 = 0 ∧ cntM z w r)) → F r z') : MT G (D + 1) z_count 0 [(0, vr 0), (1, vi w)] [] z (ri F) := by
  have k0 : (0 : Int32).toInt = 0 := rfl
  have k1 : (1 : Int32).toInt = 1 := rfl
  have k2 : (2 : Int32).toInt = 2 := rfl
  have k3 : (3 : Int32).toInt = 3 := rfl
  have k4 : (4 : Int32).toInt = 4 := rfl
  refine sg_count_0 _ (fun y e => ?_)
  have hy := z0_s e
  have f := fun k (hk : ¬ k = 0) => hy.1.1 k (fun z => hk (List.mem_singleton.mp z))
  have ok : (0 ≤ w.toInt ∧ w.toInt ≤ 4) → ∀ r, cntM z w r → ri F (some (vi r)) y := fun hw r hr => ri_i (h _ y (rd_0q9 hy.1 q) ⟨fun z => absurd hw z, fun _ => ⟨hy.2, hr⟩⟩)
  have p20 : ∀ b : Int32, (b = 0 → 0 ≤ w.toInt ∧ w.toInt ≤ 4) → (¬ b = 0 → ¬ (0 ≤ w.toInt ∧ w.toInt ≤ 4)) → MT G (D + 1) z_count 20 [(0, vr 0), (1, vi w)] [vi b, vr 0] y (ri F) := by
    intro b hb hb2
    refine sg_count_20 _ _ (sp_refuses b 1 hy.2 (by decide) (fun c => ⟨fun _ => ?_, fun q => absurd rfl q⟩) (fun c => ⟨fun q => absurd q (by decide), fun _ => ri_i (h _ _ (rd_0q9 (mi_tr hy.1 (mi_of (md_f y 0 1)) rfl rfl) q) ⟨fun _ => by rw [si_get, if_pos ⟨rfl, rfl⟩], fun z => absurd z (hb2 c)⟩)⟩))
    have hw := hb c
    rw [f 23 (by decide), f 24 (by decide), f 25 (by decide), f 26 (by decide), f 27 (by decide)]
    refine ⟨fun n0 => ⟨fun n1 => ⟨fun n2 => ⟨fun n3 => ok hw _ ?_, fun e3 => ok hw _ (Or.inr (Or.inr (Or.inr (Or.inl ⟨e3, rfl⟩))))⟩, fun e2 => ok hw _ (Or.inr (Or.inr (Or.inl ⟨e2, rfl⟩)))⟩, fun e1 => ok hw _ (Or.inr (Or.inl ⟨e1, rfl⟩))⟩, fun e0 => ok hw _ (Or.inl ⟨e0, rfl⟩)⟩
    refine Or.inr (Or.inr (Or.inr (Or.inr ⟨?_, rfl⟩)))
    rw [t_eq, k0] at n0
    rw [t_eq, k1] at n1
    rw [t_eq, k2] at n2
    rw [t_eq, k3] at n3
    rw [t_eq, k4]
    omega
  refine sp_in _ _ _ ⟨fun c => p20 0 (fun _ => ?_) (fun z => absurd rfl z), fun c => p20 1 (fun z => absurd z (by decide)) (fun _ z => ?_)⟩
  · obtain ⟨c1, c2⟩ := bi_ne.mp c
    rw [t_le, k0] at c1
    rw [t_le, k4] at c2
    exact ⟨c1, c2⟩
  · refine bi_eq.mp c ⟨t_le.mpr ?_, t_le.mpr ?_⟩
    · rw [k0]; exact z.1
    · rw [k4]; exact z.2
theorem sr_runq9 (q : MI z) (w : Int32) (hD : 4 ≤ D) (h : ∀ r z', rdMq9 C wr z z' → F r z') : MT G D z_run 0 [(0, vr 0), (1, vi w)] [] z (ri F) := by
  obtain ⟨D, rfl⟩ : ∃ D', D = D' + 3 := ⟨D - 3, by omega⟩
  have k0 : (0 : Int32).toInt = 0 := rfl
  have k1 : (1 : Int32).toInt = 1 := rfl
  refine sg_run_0 _ (fun y e => ?_)
  have hy := z0_s e
  have no : ∀ y', mi [0] [] z y' → ri F (some (vi 0)) y' := fun y' m => ri_i (h 0 y' (rd_0q9 m q))
  have ok : ∀ r, ri F (some (vi r)) y := fun r => ri_i (h r y (rd_0q9 hy.1 q))
  have qy := (MI_0 hy.1 q).1
  refine sp_noRun hy (fun hr => ⟨fun q => absurd rfl q, fun _ => ?_⟩) (fun y' m => ⟨fun _ => no y' m, fun q => absurd q (by decide)⟩)
  obtain ⟨cp, ⟨a1, a2, a3, a4, a5⟩, rt⟩ := RS_of qy hr
  have b25 := cp.1.2.2.2.2.2.1
  have av : ∀ i : Int32, 0 ≤ i.toInt → i.toInt < (y.1 0 96).toInt → vp_in i 400 ∧ aA y i.toNatClampNeg := fun i i0 i1 => ⟨by rw [vp_in_iff]; omega, a4 _ (by have := cl_i i0; omega)⟩
  have p125 : ∀ (n : Nat) (s b : Int32), 0 ≤ b.toInt → (y.1 0 96).toInt - b.toInt ≤ n → MT G (D + 3) z_run 125 [(0, vr 0), (2, vi s), (3, vi b)] [] y (ri F) := by
    intro n
    induction n with
    | zero =>
      intro s b b0 hn
      exact sg_run_125 _ _ ⟨fun _ => ok _, fun c => absurd (t_le.mpr (by omega)) c⟩
    | succ n ih =>
      intro s b b0 hn
      refine sg_run_125 _ _ ⟨fun _ => ok _, fun c => ?_⟩
      rw [t_le] at c
      have bi' : (b + 1).toInt = b.toInt + 1 := by rw [t_add (by omega) (by omega), k1]
      have p136 : ∀ (m : Nat) (s i : Int32), 0 ≤ i.toInt → b.toInt - i.toInt ≤ m → MT G (D + 3) z_run 136 [(0, vr 0), (2, vi s), (3, vi b), (4, vi i)] [] y (ri F) := by
        intro m
        induction m with
        | zero =>
          intro s i i0 hm
          exact sg_run_136 _ _ _ ⟨fun _ => ih _ _ (by omega) (by omega), fun c => absurd (t_le.mpr (by omega)) c⟩
        | succ m ihm =>
          intro s i i0 hm
          refine sg_run_136 _ _ _ ⟨fun _ => ih _ _ (by omega) (by omega), fun c2 => ?_⟩
          rw [t_le] at c2
          have ii : (i + 1).toInt = i.toInt + 1 := by rw [t_add (by omega) (by omega), k1]
          exact sp_isRace _ _ (av i i0 (by omega)).1 (av b b0 (by omega)).1 (av i i0 (by omega)).2 (fun r => sp_one _ (fun r2 => ihm _ _ (by omega) (by omega)))
      exact p136 b.toInt.toNat s 0 (by decide) (by rw [k0]; omega)
  have p171 : ∀ (n : Nat) (s b : Int32), 0 ≤ b.toInt → (y.1 0 96).toInt - b.toInt ≤ n → MT G (D + 3) z_run 171 [(0, vr 0), (2, vi s), (3, vi b)] [] y (ri F) := by
    intro n
    induction n with
    | zero =>
      intro s b b0 hn
      exact sg_run_171 _ _ ⟨fun _ => ok _, fun c => absurd (t_le.mpr (by omega)) c⟩
    | succ n ih =>
      intro s b b0 hn
      refine sg_run_171 _ _ ⟨fun _ => ok _, fun c => ?_⟩
      rw [t_le] at c
      have bi' : (b + 1).toInt = b.toInt + 1 := by rw [t_add (by omega) (by omega), k1]
      have p205 : ∀ v : Int32, MT G (D + 3) z_run 205 [(0, vr 0), (3, vi b)] [vi v, vi s] y (ri F) := fun v => sg_run_205 _ _ _ (sp_one _ (fun r => ih _ _ (by omega) (by omega)))
      have bv := (av b b0 (by omega)).1
      exact ⟨bv, fun _ => p205 _, fun _ => ⟨bv, fun _ => p205 _, fun _ => p205 _⟩⟩
  have p220 : ∀ (n : Nat) (s b : Int32), 0 ≤ b.toInt → (y.1 0 25).toInt - b.toInt ≤ n → MT G (D + 3) z_run 220 [(0, vr 0), (2, vi s), (3, vi b)] [] y (ri F) := by
    intro n
    induction n with
    | zero =>
      intro s b b0 hn
      exact sg_run_220 _ _ ⟨fun _ => ok _, fun c => absurd (t_le.mpr (by omega)) c⟩
    | succ n ih =>
      intro s b b0 hn
      refine sg_run_220 _ _ ⟨fun _ => ok _, fun c => ?_⟩
      rw [t_le] at c
      have bi' : (b + 1).toInt = b.toInt + 1 := by rw [t_add (by omega) (by omega), k1]
      exact ⟨by rw [vp_in_iff]; omega, ih _ _ (by omega) (by omega)⟩
  have p111 : ∀ v : Int32, MT G (D + 3) z_run 111 [(0, vr 0)] [vi v] y (ri F) := fun v => sg_run_111 _ (sp_one _ (fun r => ok _))
  have p28 : ∀ b : Int32, MT G (D + 3) z_run 28 [(0, vr 0), (1, vi w)] [vi b, vr 0] y (ri F) := fun b => sg_run_28 _ _ (sp_ref b 2 hy (by decide) (fun _ => ⟨fun _ => ⟨fun _ => ok _, fun _ => ok _, fun _ => ok _, fun _ => ⟨fun _ => p111 _, fun _ => p111 _⟩, fun _ => sp_isStuck b25 (fun r => sp_one _ (fun r => ok _)), fun _ => p125 400 0 0 (by decide) (by rw [k0]; omega), fun _ => p171 400 0 0 (by decide) (by rw [k0]; omega), fun _ => p220 6 0 0 (by decide) (by rw [k0]; omega)⟩, fun q => absurd rfl q⟩) (fun _ y' m => ⟨fun q => absurd q (by decide), fun _ => no y' m⟩))
  exact sp_in _ _ _ ⟨fun _ => p28 _, fun _ => p28 _⟩
theorem sr_cellq9 (q : MI z) (c : Int32) (hD : 3 ≤ D) (h : ∀ r z', rdMq9 C wr z z' → F r z') : MT G D z_cell 0 [(0, vr 0), (1, vi c)] [] z (ri F) := by
  obtain ⟨D, rfl⟩ : ∃ D', D = D' + 2 := ⟨D - 2, by omega⟩
  refine sg_cell_0 _ (fun y e => ?_)
  have hy := z0_s e
  have no : ∀ y', mi [0] [] z y' → ri F (some (vi 0)) y' := fun y' m => ri_i (h 0 y' (rd_0q9 m q))
  have ok : ∀ r, ri F (some (vi r)) y := fun r => ri_i (h r y (rd_0q9 hy.1 q))
  have qy := (MI_0 hy.1 q).1
  refine sp_noRun hy (fun hr => ⟨fun q => absurd rfl q, fun _ => ?_⟩) (fun y' m => ⟨fun _ => no y' m, fun q => absurd q (by decide)⟩)
  obtain ⟨cp, _, _⟩ := RS_of qy hr
  have g := cp.1
  have p32 : ∀ b : Int32, (b = 0 → 0 ≤ c.toInt ∧ c.toInt < (y.1 0 23).toInt) → MT G (D + 2) z_cell 32 [(0, vr 0), (1, vi c)] [vi b, vr 0] y (ri F) := fun b hb => sg_cell_32 _ _ (sp_ref b 2 hy (by decide) (fun b0 => ⟨fun _ => ⟨by rw [vp_in_iff]; have := hb b0; have := g.2.1; omega, ok _⟩, fun q => absurd rfl q⟩) (fun _ y' m => ⟨fun q => absurd q (by decide), fun _ => no y' m⟩))
  exact sp_in _ _ _ ⟨fun cc => p32 0 (fun _ => in_lt (bi_ne.mp cc) g.1), fun _ => p32 1 (fun q => absurd q (by decide))⟩
theorem sr_seenq9 (q : MI z) (t c : Int32) (hD : 3 ≤ D) (h : ∀ r z', rdMq9 C wr z z' → F r z') : MT G D z_seen 0 [(0, vr 0), (1, vi t), (2, vi c)] [] z (ri F) := by
  obtain ⟨D, rfl⟩ : ∃ D', D = D' + 2 := ⟨D - 2, by omega⟩
  refine sg_seen_0 _ _ (fun y e => ?_)
  have hy := z0_s e
  have no : ∀ y', mi [0] [] z y' → ri F (some (vi 0)) y' := fun y' m => ri_i (h 0 y' (rd_0q9 m q))
  have ok : ∀ r, ri F (some (vi r)) y := fun r => ri_i (h r y (rd_0q9 hy.1 q))
  have qy := (MI_0 hy.1 q).1
  refine sp_noRun hy (fun hr => ⟨fun q => absurd rfl q, fun _ => ?_⟩) (fun y' m => ⟨fun _ => no y' m, fun q => absurd q (by decide)⟩)
  obtain ⟨cp, _, rt⟩ := RS_of qy hr
  have g := cp.1
  have p46 : ∀ b : Int32, (b = 0 → (0 ≤ t.toInt ∧ t.toInt < (y.1 0 25).toInt) ∧ 0 ≤ c.toInt ∧ c.toInt < (y.1 0 23).toInt) → MT G (D + 2) z_seen 46 [(0, vr 0), (1, vi t), (2, vi c)] [vi b, vr 0] y (ri F) := fun b hb => sg_seen_46 _ _ _ (sp_ref b 2 hy (by decide) (fun b0 => ⟨fun _ => by
    obtain ⟨b1, b2⟩ := hb b0
    have g2 := g.2.1
    have g6 := g.2.2.2.2.2.1
    have tv : vp_in t 6 := by rw [vp_in_iff]; omega
    exact sp_see t c tv (by rw [vp_in_iff]; omega) (rt _ (vt tv)).2.2.2 (fun r => ok r), fun q => absurd rfl q⟩) (fun _ y' m => ⟨fun q => absurd q (by decide), fun _ => no y' m⟩))
  exact sp_in _ _ _ ⟨fun _ => p46 1 (fun q => absurd q (by decide)), fun c1 => sp_in _ _ _ ⟨fun c2 => p46 0 (fun _ => ⟨in_lt (bi_ne.mp c1) g.2.2.2.2.1, in_lt (bi_ne.mp c2) g.1⟩), fun _ => p46 1 (fun q => absurd q (by decide))⟩⟩
theorem sr_lockq9 (q : MI z) (l w : Int32) (hD : 3 ≤ D) (h : ∀ r z', rdMq9 C wr z z' → F r z') : MT G D z_lock 0 [(0, vr 0), (1, vi l), (2, vi w)] [] z (ri F) := by
  obtain ⟨D, rfl⟩ : ∃ D', D = D' + 2 := ⟨D - 2, by omega⟩
  have k0 : (0 : Int32).toInt = 0 := rfl
  have k1 : (1 : Int32).toInt = 1 := rfl
  refine sg_lock_0 _ _ (fun y e => ?_)
  have hy := z0_s e
  have no : ∀ y', mi [0] [] z y' → ri F (some (vi 0)) y' := fun y' m => ri_i (h 0 y' (rd_0q9 m q))
  have ok : ∀ r, ri F (some (vi r)) y := fun r => ri_i (h r y (rd_0q9 hy.1 q))
  have qy := (MI_0 hy.1 q).1
  refine sp_noRun hy (fun hr => ⟨fun q => absurd rfl q, fun _ => ?_⟩) (fun y' m => ⟨fun _ => no y' m, fun q => absurd q (by decide)⟩)
  obtain ⟨cp, _, rt⟩ := RS_of qy hr
  have g := cp.1
  have g6 := g.2.2.2.2.2.1
  have g24 := g.2.2.2.1
  have p55 : vp_in l 6 → ∀ (n : Nat) (s t : Int32), 0 ≤ t.toInt → (y.1 0 25).toInt - t.toInt ≤ n → MT G (D + 2) z_lock 55 [(0, vr 0), (1, vi l), (2, vi w), (3, vi s), (4, vi t)] [] y (ri F) := by
    intro lv n
    induction n with
    | zero =>
      intro s t t0 hn
      exact sg_lock_55 _ _ _ _ ⟨fun _ => ⟨fun _ => ⟨fun _ => ok _, fun _ => ⟨lv, ok _⟩⟩, fun _ => ⟨lv, ok _⟩⟩, fun c => absurd (t_le.mpr (by omega)) c⟩
    | succ n ih =>
      intro s t t0 hn
      refine sg_lock_55 _ _ _ _ ⟨fun _ => ⟨fun _ => ⟨fun _ => ok _, fun _ => ⟨lv, ok _⟩⟩, fun _ => ⟨lv, ok _⟩⟩, fun c => ?_⟩
      rw [t_le] at c
      have tv : vp_in t 6 := by rw [vp_in_iff]; omega
      have ti : (t + 1).toInt = t.toInt + 1 := by rw [t_add (by omega) (by omega), k1]
      have r := rt _ (vt tv)
      have p97 : ∀ v : Int32, MT G (D + 2) z_lock 97 [(0, vr 0), (1, vi l), (2, vi w), (4, vi t)] [vi v, vi s] y (ri F) := fun v => sg_lock_97 _ _ _ _ _ (sp_one _ (fun r => ih _ _ (by omega) (by omega)))
      exact ⟨tv, fun _ => p97 _, fun _ => ⟨tv, by rw [vp_in_iff]; exact ⟨r.1, r.2.1⟩, fun _ => p97 _, fun _ => p97 _⟩⟩
  have p41 : ∀ b : Int32, (b = 0 → 0 ≤ l.toInt ∧ l.toInt < (y.1 0 24).toInt) → MT G (D + 2) z_lock 41 [(0, vr 0), (1, vi l), (2, vi w)] [vi b, vr 0] y (ri F) := fun b hb => sg_lock_41 _ _ _ (sp_ref b 2 hy (by decide) (fun b0 => ⟨fun _ => p55 (by rw [vp_in_iff]; have := hb b0; omega) 6 0 0 (by decide) (by rw [k0]; omega), fun q => absurd rfl q⟩) (fun _ y' m => ⟨fun q => absurd q (by decide), fun _ => no y' m⟩))
  exact sp_in _ _ _ ⟨fun _ => p41 1 (fun q => absurd q (by decide)), fun c1 => sp_in _ _ _ ⟨fun _ => p41 0 (fun _ => in_lt (bi_ne.mp c1) g.2.2.1), fun _ => p41 1 (fun q => absurd q (by decide))⟩⟩
theorem sr_threadq9 (q : MI z) (t w : Int32) (hD : 3 ≤ D) (h : ∀ r z', rdMq9 C wr z z' → F r z') : MT G D z_thread 0 [(0, vr 0), (1, vi t), (2, vi w)] [] z (ri F) := by
  obtain ⟨D, rfl⟩ : ∃ D', D = D' + 2 := ⟨D - 2, by omega⟩
  refine sg_thread_0 _ _ (fun y e => ?_)
  have hy := z0_s e
  have no : ∀ y', mi [0] [] z y' → ri F (some (vi 0)) y' := fun y' m => ri_i (h 0 y' (rd_0q9 m q))
  have ok : ∀ r, ri F (some (vi r)) y := fun r => ri_i (h r y (rd_0q9 hy.1 q))
  have qy := (MI_0 hy.1 q).1
  refine sp_noRun hy (fun hr => ⟨fun q => absurd rfl q, fun _ => ?_⟩) (fun y' m => ⟨fun _ => no y' m, fun q => absurd q (by decide)⟩)
  obtain ⟨cp, _, rt⟩ := RS_of qy hr
  have g := cp.1
  have g6 := g.2.2.2.2.2.1
  have p41 : ∀ b : Int32, (b = 0 → 0 ≤ t.toInt ∧ t.toInt < (y.1 0 25).toInt) → MT G (D + 2) z_thread 41 [(0, vr 0), (1, vi t), (2, vi w)] [vi b, vr 0] y (ri F) := by
    intro b hb
    refine sg_thread_41 _ _ _ (sp_ref b 2 hy (by decide) (fun b0 => ⟨fun _ => ?_, fun q => absurd rfl q⟩) (fun _ y' m => ⟨fun q => absurd q (by decide), fun _ => no y' m⟩))
    have tv : vp_in t 6 := by rw [vp_in_iff]; have := hb b0; omega
    have r := rt _ (vt tv)
    have av : vp_in (y.1 74 t.toNatClampNeg) 1500 := by rw [vp_in_iff]; exact ⟨r.1, r.2.1⟩
    exact ⟨fun _ => ⟨fun _ => ⟨fun _ => ⟨fun _ => ⟨tv, fun _ => ok _, fun _ => ⟨tv, av, ok _⟩⟩, fun _ => sp_knownOf t tv av (fun r => sp_ones _ (fun r => ok _))⟩, fun _ => ⟨tv, ok _⟩⟩, fun _ => ⟨tv, ok _⟩⟩, fun _ => ⟨tv, ok _⟩⟩
  exact sp_in _ _ _ ⟨fun _ => p41 1 (fun q => absurd q (by decide)), fun c1 => sp_in _ _ _ ⟨fun _ => p41 0 (fun _ => in_lt (bi_ne.mp c1) g.2.2.2.2.1), fun _ => p41 1 (fun q => absurd q (by decide))⟩⟩
theorem sr_localq9 (q : MI z) (t i : Int32) (hD : 3 ≤ D) (h : ∀ r z', rdMq9 C wr z z' → F r z') : MT G D z_local 0 [(0, vr 0), (1, vi t), (2, vi i)] [] z (ri F) := by
  obtain ⟨D, rfl⟩ : ∃ D', D = D' + 2 := ⟨D - 2, by omega⟩
  have k0 : (0 : Int32).toInt = 0 := rfl
  have k1 : (1 : Int32).toInt = 1 := rfl
  have k8 : (8 : Int32).toInt = 8 := rfl
  refine sg_local_0 _ _ (fun y e => ?_)
  have hy := z0_s e
  have no : ∀ y', mi [0] [] z y' → ri F (some (vi 0)) y' := fun y' m => ri_i (h 0 y' (rd_0q9 m q))
  have ok : ∀ r, ri F (some (vi r)) y := fun r => ri_i (h r y (rd_0q9 hy.1 q))
  have qy := (MI_0 hy.1 q).1
  refine sp_noRun hy (fun hr => ⟨fun q => absurd rfl q, fun _ => ?_⟩) (fun y' m => ⟨fun _ => no y' m, fun q => absurd q (by decide)⟩)
  obtain ⟨cp, _, rt⟩ := RS_of qy hr
  have g := cp.1
  have g6 := g.2.2.2.2.2.1
  have p53 : vp_in t 6 → ∀ (n : Nat) (m s k : Int32), 0 ≤ k.toInt → 8 - k.toInt ≤ n → MT G (D + 2) z_local 53 [(0, vr 0), (1, vi t), (2, vi i), (3, vi m), (4, vi s), (5, vi k)] [] y (ri F) := by
    intro tv n
    have tb := vp_in_iff.mp tv
    have last : MT G (D + 1) z_refuses 0 [(0, vr 0), (1, vi 1), (2, vi 2)] [] y (ri (fun r3 x2 => ri F (some (vi 0)) x2)) := sp_ref 1 2 hy (by decide) (fun q => absurd q (by decide)) (fun _ y' m => no y' m)
    induction n with
    | zero =>
      intro m s k k0' hn
      exact sg_local_53 _ _ _ _ _ ⟨fun _ => last, fun c => absurd (t_le.mpr (by rw [k8]; omega)) c⟩
    | succ n ih =>
      intro m s k k0' hn
      refine sg_local_53 _ _ _ _ _ ⟨fun _ => last, fun c => ?_⟩
      rw [t_le, k8] at c
      have ki : (k + 1).toInt = k.toInt + 1 := by rw [t_add (by omega) (by omega), k1]
      refine ⟨fun _ => ih _ _ _ (by omega) (by omega), fun _ => ⟨fun _ => ih _ _ _ (by omega) (by omega), fun _ => ⟨?_, ok _⟩⟩⟩
      have m9 : (8 * t).toInt = 8 * t.toInt := by rw [t_mul (by rw [k8]; omega) (by rw [k8]; omega), k8]
      rw [vp_in_iff, t_add (by omega) (by omega), m9]; omega
  have p32 : ∀ b : Int32, (b = 0 → 0 ≤ t.toInt ∧ t.toInt < (y.1 0 25).toInt) → MT G (D + 2) z_local 32 [(0, vr 0), (1, vi t), (2, vi i)] [vi b, vr 0] y (ri F) := by
    intro b hb
    refine sg_local_32 _ _ _ (sp_ref b 2 hy (by decide) (fun b0 => ⟨fun _ => ?_, fun q => absurd rfl q⟩) (fun _ y' m => ⟨fun q => absurd q (by decide), fun _ => no y' m⟩))
    have tv : vp_in t 6 := by rw [vp_in_iff]; have := hb b0; omega
    have r := rt _ (vt tv)
    exact sp_knownOf t tv (by rw [vp_in_iff]; exact ⟨r.1, r.2.1⟩) (fun r => p53 tv 8 r 0 0 (by decide) (by decide))
  exact sp_in _ _ _ ⟨fun c1 => p32 0 (fun _ => in_lt (bi_ne.mp c1) g.2.2.2.2.1), fun _ => p32 1 (fun q => absurd q (by decide))⟩
theorem sr_actq9 (q : MI z) (a w : Int32) (hD : 3 ≤ D) (h : ∀ r z', rdMq9 C wr z z' → F r z') : MT G D z_act 0 [(0, vr 0), (1, vi a), (2, vi w)] [] z (ri F) := by
  obtain ⟨D, rfl⟩ : ∃ D', D = D' + 2 := ⟨D - 2, by omega⟩
  refine sg_act_0 _ _ (fun y e => ?_)
  have hy := z0_s e
  have no : ∀ y', mi [0] [] z y' → ri F (some (vi 0)) y' := fun y' m => ri_i (h 0 y' (rd_0q9 m q))
  have ok : ∀ r, ri F (some (vi r)) y := fun r => ri_i (h r y (rd_0q9 hy.1 q))
  have qy := (MI_0 hy.1 q).1
  refine sp_noRun hy (fun hr => ⟨fun q => absurd rfl q, fun _ => ?_⟩) (fun y' m => ⟨fun _ => no y' m, fun q => absurd q (by decide)⟩)
  obtain ⟨cp, ⟨a1, a2, a3, _⟩, rt⟩ := RS_of qy hr
  have p41 : ∀ b : Int32, (b = 0 → 0 ≤ a.toInt ∧ a.toInt < (y.1 0 96).toInt) → MT G (D + 2) z_act 41 [(0, vr 0), (1, vi a), (2, vi w)] [vi b, vr 0] y (ri F) := by
    intro b hb
    refine sg_act_41 _ _ _ (sp_ref b 2 hy (by decide) (fun b0 => ⟨fun _ => ?_, fun q => absurd rfl q⟩) (fun _ y' m => ⟨fun q => absurd q (by decide), fun _ => no y' m⟩))
    have av : vp_in a 400 := by rw [vp_in_iff]; have := hb b0; omega
    exact ⟨fun _ => ⟨fun _ => ⟨fun _ => ⟨fun _ => ⟨av, ok _⟩, fun _ => ⟨av, ok _⟩⟩, fun _ => ⟨av, ok _⟩⟩, fun _ => ⟨av, ok _⟩⟩, fun _ => ⟨av, ok _⟩⟩
  exact sp_in _ _ _ ⟨fun _ => p41 1 (fun q => absurd q (by decide)), fun c1 => sp_in _ _ _ ⟨fun _ => p41 0 (fun _ => in_lt (bi_ne.mp c1) a1), fun _ => p41 1 (fun q => absurd q (by decide))⟩⟩
theorem sr_beforeq9 (q : MI z) (a b : Int32) (hD : 3 ≤ D) (h : ∀ r z', rdMq9 C wr z z' → F r z') : MT G D z_before 0 [(0, vr 0), (1, vi a), (2, vi b)] [] z (ri F) := by
  obtain ⟨D, rfl⟩ : ∃ D', D = D' + 2 := ⟨D - 2, by omega⟩
  refine sg_before_0 _ _ (fun y e => ?_)
  have hy := z0_s e
  have no : ∀ y', mi [0] [] z y' → ri F (some (vi 0)) y' := fun y' m => ri_i (h 0 y' (rd_0q9 m q))
  have ok : ∀ r, ri F (some (vi r)) y := fun r => ri_i (h r y (rd_0q9 hy.1 q))
  have qy := (MI_0 hy.1 q).1
  refine sp_noRun hy (fun hr => ⟨fun q => absurd rfl q, fun _ => ?_⟩) (fun y' m => ⟨fun _ => no y' m, fun q => absurd q (by decide)⟩)
  obtain ⟨cp, ⟨a1, a2, a3, _⟩, rt⟩ := RS_of qy hr
  have p46 : ∀ v : Int32, (v = 0 → (0 ≤ a.toInt ∧ a.toInt < (y.1 0 96).toInt) ∧ 0 ≤ b.toInt ∧ b.toInt < (y.1 0 96).toInt) → MT G (D + 2) z_before 46 [(0, vr 0), (1, vi a), (2, vi b)] [vi v, vr 0] y (ri F) := by
    intro v hv
    refine sg_before_46 _ _ _ (sp_ref v 2 hy (by decide) (fun v0 => ⟨fun q => absurd rfl q, fun _ => ?_⟩) (fun _ y' m => ⟨fun _ => no y' m, fun q => absurd q (by decide)⟩))
    have hh := hv v0
    exact sp_isSooner a b (by rw [vp_in_iff]; omega) (by rw [vp_in_iff]; omega) (fun r => ⟨fun _ => ok _, fun _ => ok _⟩)
  exact sp_in _ _ _ ⟨fun _ => p46 1 (fun q => absurd q (by decide)), fun c1 => sp_in _ _ _ ⟨fun c2 => p46 0 (fun _ => ⟨in_lt (bi_ne.mp c1) a1, in_lt (bi_ne.mp c2) a1⟩), fun _ => p46 1 (fun q => absurd q (by decide))⟩⟩
theorem sr_raceq9 (q : MI z) (i w : Int32) (hD : 4 ≤ D) (h : ∀ r z', rdMq9 C wr z z' → F r z') : MT G D z_race 0 [(0, vr 0), (1, vi i), (2, vi w)] [] z (ri F) := by
  obtain ⟨D, rfl⟩ : ∃ D', D = D' + 3 := ⟨D - 3, by omega⟩
  have k0 : (0 : Int32).toInt = 0 := rfl
  have k1 : (1 : Int32).toInt = 1 := rfl
  refine sg_race_0 _ _ (fun y e => ?_)
  have hy := z0_s e
  have no : ∀ y', mi [0] [] z y' → ri F (some (vi 0)) y' := fun y' m => ri_i (h 0 y' (rd_0q9 m q))
  have ok : ∀ r, ri F (some (vi r)) y := fun r => ri_i (h r y (rd_0q9 hy.1 q))
  have qy := (MI_0 hy.1 q).1
  refine sp_noRun hy (fun hr => ⟨fun _ => ?_, fun q => absurd rfl q⟩) (fun y' m => ⟨fun q => absurd q (by decide), fun _ => no y' m⟩)
  obtain ⟨cp, ⟨a1, a2, a3, a4, a5⟩, rt⟩ := RS_of qy hr
  have av : ∀ i : Int32, 0 ≤ i.toInt → i.toInt < (y.1 0 96).toInt → vp_in i 400 ∧ aA y i.toNatClampNeg := fun i i0 i1 => ⟨by rw [vp_in_iff]; omega, a4 _ (by have := cl_i i0; omega)⟩
  have p90 : MT G (D + 3) z_race 90 [(0, vr 0)] [] y (ri F) := sg_race_90 (sp_ref 1 2 hy (by decide) (fun q => absurd q (by decide)) (fun _ y' m => no y' m))
  have p19 : ∀ (n : Nat) (s b : Int32), 0 ≤ b.toInt → (y.1 0 96).toInt - b.toInt ≤ n → MT G (D + 3) z_race 19 [(0, vr 0), (1, vi i), (2, vi w), (3, vi s), (4, vi b)] [] y (ri F) := by
    intro n
    induction n with
    | zero =>
      intro s b b0 hn
      exact sg_race_19 _ _ _ _ ⟨fun _ => p90, fun c => absurd (t_le.mpr (by omega)) c⟩
    | succ n ih =>
      intro s b b0 hn
      refine sg_race_19 _ _ _ _ ⟨fun _ => p90, fun c => ?_⟩
      rw [t_le] at c
      have bi' : (b + 1).toInt = b.toInt + 1 := by rw [t_add (by omega) (by omega), k1]
      have p40 : ∀ (m : Nat) (s k : Int32), 0 ≤ k.toInt → b.toInt - k.toInt ≤ m → MT G (D + 3) z_race 40 [(0, vr 0), (1, vi i), (2, vi w), (3, vi s), (4, vi b), (5, vi k)] [] y (ri F) := by
        intro m
        induction m with
        | zero =>
          intro s k k0' hm
          exact sg_race_40 _ _ _ _ _ ⟨fun _ => ih _ _ (by omega) (by omega), fun c => absurd (t_le.mpr (by omega)) c⟩
        | succ m ihm =>
          intro s k k0' hm
          refine sg_race_40 _ _ _ _ _ ⟨fun _ => ih _ _ (by omega) (by omega), fun c2 => ?_⟩
          rw [t_le] at c2
          have ki : (k + 1).toInt = k.toInt + 1 := by rw [t_add (by omega) (by omega), k1]
          exact sp_isRace _ _ (av k k0' (by omega)).1 (av b b0 (by omega)).1 (av k k0' (by omega)).2 (fun r => ⟨fun _ => ihm _ _ (by omega) (by omega), fun _ => ⟨fun _ => ihm _ _ (by omega) (by omega), fun _ => ⟨fun _ => ok _, fun _ => ok _⟩⟩⟩)
      exact sp_in _ _ _ ⟨fun _ => p90, fun _ => p40 b.toInt.toNat s 0 (by decide) (by rw [k0]; omega)⟩
  exact p19 400 0 0 (by decide) (by rw [k0]; omega)
theorem sr_choiceq9 (q : MI z) (hH : ¬ z.1 0 67 = 0 → HistC C wr z) (i w : Int32) (hD : 4 ≤ D) (h : ∀ r z', rdMq9 C wr z z' → F r z') : MT G D z_choice 0 [(0, vr 0), (1, vi i), (2, vi w)] [] z (ri F) := by
  obtain ⟨D, rfl⟩ : ∃ D', D = D' + 2 := ⟨D - 2, by omega⟩
  refine sg_choice_0 _ _ (fun y e => ?_)
  have hy := z0_s e
  have no : ∀ y', mi [0] [] z y' → ri F (some (vi 0)) y' := fun y' m => ri_i (h 0 y' (rd_0q9 m q))
  have ok : ∀ r, ri F (some (vi r)) y := fun r => ri_i (h r y (rd_0q9 hy.1 q))
  have qy := (MI_0 hy.1 q).1
  refine sp_noRun hy (fun hr => ⟨fun q => absurd rfl q, fun _ => ?_⟩) (fun y' m => ⟨fun _ => no y' m, fun q => absurd q (by decide)⟩)
  have hc := (qy.2.2.1 hr).1
  have hhy := HistC_0 hy.1 (hH (by rw [← hy.1.1 67 (by decide)]; exact hr))
  obtain ⟨s, n, q1, q2, q3, q4, q5, q6, q7⟩ := hhy
  have av := (q2 n (Nat.le_refl _)).1
  have e84 : y.1 0 84 = (s n).1 0 84 := q4 0 84 (Or.inr (Or.inl ⟨rfl, rfl⟩))
  have c0 := av.2.2.2.1
  have c84 := av.2.2.2.2.1
  have p41 : ∀ b : Int32, (b = 0 → 0 ≤ i.toInt ∧ i.toInt < (y.1 0 84).toInt) → MT G (D + 2) z_choice 41 [(0, vr 0), (1, vi i), (2, vi w)] [vi b, vr 0] y (ri F) := by
    intro b hb
    refine sg_choice_41 _ _ _ (sp_ref b 2 hy (by decide) (fun b0 => ⟨fun _ => ?_, fun q => absurd rfl q⟩) (fun _ y' m => ⟨fun q => absurd q (by decide), fun _ => no y' m⟩))
    have hi := hb b0
    rw [e84] at hi
    have ci := cl_i hi.1
    have iv : vp_in i 200 := by rw [vp_in_iff]; omega
    obtain ⟨u86, u87, u88, ⟨t0, t6⟩, co⟩ := av.2.2.1 i.toNatClampNeg (by omega)
    have e86 := q4 _ _ (Or.inr u86)
    have e87 := q4 _ _ (Or.inr u87)
    rw [e86, e87]
    have tv : vp_in ((s n).1 86 i.toNatClampNeg) 6 := by rw [vp_in_iff]; exact ⟨t0, t6⟩
    have r := (av.1.2 _ (vt tv))
    have a74 : vp_in (y.1 74 ((s n).1 86 i.toNatClampNeg).toNatClampNeg) 1500 := by
      rw [cA q4 (c := 74) (n := 6) (by decide) (vt tv), vp_in_iff]
      exact ⟨r.1.1, r.1.2.1⟩
    refine ⟨iv, iv, fun _ => ⟨fun c => ⟨fun _ => ⟨fun _ => ⟨fun _ => ⟨iv, ok _⟩, fun _ => sp_sortOf _ tv a74 (ok _)⟩, fun _ => ok _⟩, fun _ => ?_⟩, fun c => ⟨fun _ => ok _, fun _ => ⟨fun _ => ⟨fun _ => ok _, fun _ => ⟨?_, ok _⟩⟩, fun _ => ok _⟩⟩⟩, fun _ => ok _⟩
    · have g := co.resolve_right (fun w => by rw [c] at w; exact absurd w.1 (by decide))
      refine sp_lookAt av q4 _ tv g.2.1 (by omega) (fun y' x' e' m' _ _ _ => ri_i (h _ y' ?_))
      have mm := mi_of m'
      have cy : c96 y' = c96 y := by unfold c96; rw [mm.2 96 (by decide) (by decide)]
      have histc : HistC C wr y' := ⟨s, n, by rw [mm.1 94 (by decide)]; exact q1, by rw [cy]; exact q2, by rw [cy, mm.2 96 (by decide) (by decide)]; exact q3, e', by rw [mm.1 68 (by decide)]; exact St_pr (prE_mi (prE_rf y) mm rfl rfl) q5, by rw [mm.1 68 (by decide)]; exact q6, HA_mi mm rfl rfl q7⟩
      have p := MI_new mm rfl rfl hc (HistC_H histc) qy
      exact rd_trq9 hy.1 ⟨p, ⟨mm.1 67 (by decide), mm.1 94 (by decide), mm.2 96 (by decide) (by decide)⟩, mm.2 119 (by decide) (by decide), fun _ => histc, fun w T h => TYc_miq9 mm rfl rfl h⟩
    · have g := co.resolve_left (fun w => c w.1)
      have r8 := r.2.2.2.1
      exact (t10 tv (i := (s n).1 87 i.toNatClampNeg) g.1 (by omega)).1
  exact sp_in _ _ _ ⟨fun _ => p41 1 (fun q => absurd q (by decide)), fun c1 => sp_in _ _ _ ⟨fun _ => p41 0 (fun _ => in_lt (bi_ne.mp c1) (by rw [e84]; exact c0)), fun _ => p41 1 (fun q => absurd q (by decide))⟩⟩
theorem sr_triedq9 (q : MI z) (w v : Int32) (hD : 3 ≤ D) (h : ∀ r z', rdMq9 C wr z z' → F r z') : MT G D z_tried 0 [(0, vr 0), (1, vi w), (2, vi v)] [] z (ri F) := by
  obtain ⟨D, rfl⟩ : ∃ D', D = D' + 1 := ⟨D - 1, by omega⟩
  refine sg_tried_0 _ _ (fun y e => ?_)
  have hy := z0_s e
  have no : ∀ y', mi [0] [] z y' → ri F (some (vi 0)) y' := fun y' m => ri_i (h 0 y' (rd_0q9 m q))
  have ok : ∀ r, ri F (some (vi r)) y := fun r => ri_i (h r y (rd_0q9 hy.1 q))
  have p42 : vp_in w 2 → ∀ b : Int32, MT G (D + 1) z_tried 42 [(0, vr 0), (1, vi w), (2, vi v)] [vi b, vr 0] y (ri F) := fun wv b => sg_tried_42 _ _ _ (sp_ref b 2 hy (by decide) (fun _ => ⟨fun q => absurd rfl q, fun _ => ⟨wv, fun _ => ⟨fun _ => ⟨fun _ => ⟨fun _ => ⟨fun _ => ⟨fun _ => ⟨wv, ok _⟩, fun _ => ⟨wv, ok _⟩⟩, fun _ => ⟨wv, ok _⟩⟩, fun _ => ⟨wv, ok _⟩⟩, fun _ => ⟨wv, sp_one _ (fun r => ok r)⟩⟩, fun _ => ⟨wv, ok _⟩⟩, fun _ => ok _⟩⟩) (fun _ y' m => ⟨fun _ => no y' m, fun q => absurd q (by decide)⟩))
  have p20 : ∀ b : Int32, (b = 0 → vp_in w 2) → MT G (D + 1) z_tried 20 [(0, vr 0), (1, vi w), (2, vi v)] [vi b, vr 0] y (ri F) := fun b hb => sg_tried_20 _ _ _ (sp_ref b 1 hy (by decide) (fun b0 => ⟨fun q => absurd rfl q, fun _ => sp_in _ _ _ ⟨fun _ => p42 (hb b0) _, fun _ => p42 (hb b0) _⟩⟩) (fun _ y' m => ⟨fun _ => no y' m, fun q => absurd q (by decide)⟩))
  exact sp_in _ _ _ ⟨fun c => p20 0 (fun _ => (w_in (bi_ne.mp c)).1), fun _ => p20 1 (fun q => absurd q (by decide))⟩
theorem sr_outcomeq9 (q : MI z) (w i c : Int32) (hD : 3 ≤ D) (h : ∀ r z', rdMq9 C wr z z' → F r z') : MT G D z_outcome 0 [(0, vr 0), (1, vi w), (2, vi i), (3, vi c)] [] z (ri F) := by
  obtain ⟨D, rfl⟩ : ∃ D', D = D' + 1 := ⟨D - 1, by omega⟩
  refine sg_outcome_0 _ _ _ (fun y e => ?_)
  have hy := z0_s e
  have no : ∀ y', mi [0] [] z y' → ri F (some (vi 0)) y' := fun y' m => ri_i (h 0 y' (rd_0q9 m q))
  have ok : ∀ r, ri F (some (vi r)) y := fun r => ri_i (h r y (rd_0q9 hy.1 q))
  have qy := (MI_0 hy.1 q).1
  have p72 : ∀ b : Int32, (b = 0 → vp_in w 2 ∧ (0 ≤ i.toInt ∧ i.toInt < 3000) ∧ 0 ≤ c.toInt ∧ c.toInt < 24) → MT G (D + 1) z_outcome 72 [(0, vr 0), (1, vi w), (2, vi i), (3, vi c)] [vi b, vr 0] y (ri F) := fun b hb => sg_outcome_72 _ _ _ _ (sp_ref b 2 hy (by decide) (fun b0 => ⟨fun _ => ⟨t72 (hb b0).1 (hb b0).2.1.1 (hb b0).2.1.2 (hb b0).2.2.1 (hb b0).2.2.2, ok _⟩, fun q => absurd rfl q⟩) (fun _ y' m => ⟨fun q => absurd q (by decide), fun _ => no y' m⟩))
  have p20 : ∀ b : Int32, (b = 0 → vp_in w 2) → MT G (D + 1) z_outcome 20 [(0, vr 0), (1, vi w), (2, vi i), (3, vi c)] [vi b, vr 0] y (ri F) := by
    intro b hb
    refine sg_outcome_20 _ _ _ _ (sp_ref b 1 hy (by decide) (fun b0 => ⟨fun q => absurd rfl q, fun _ => ?_⟩) (fun _ y' m => ⟨fun _ => no y' m, fun q => absurd q (by decide)⟩))
    have wv := hb b0
    refine ⟨wv, fun _ => p72 1 (fun q => absurd q (by decide)), fun tr => ⟨wv, ?_⟩⟩
    obtain ⟨hc, A, t1, t2, t3, t4, t5, _⟩ := qy.2.2.2 _ (vp_lt wv) tr
    have g := (qy.2.1 hc).1
    refine sp_in _ _ _ ⟨fun _ => p72 1 (fun q => absurd q (by decide)), fun c1 => sp_in _ _ _ ⟨fun c2 => p72 0 (fun _ => ?_), fun _ => p72 1 (fun q => absurd q (by decide))⟩⟩
    have a1 := in_lt (bi_ne.mp c1) t4
    have a2 := in_lt (bi_ne.mp c2) g.1
    have g2 := g.2.1
    exact ⟨wv, ⟨a1.1, by omega⟩, a2.1, by omega⟩
  exact sp_in _ _ _ ⟨fun cc => p20 0 (fun _ => (w_in (bi_ne.mp cc)).1), fun _ => p20 1 (fun q => absurd q (by decide))⟩
theorem sr_findingq9 (q : MI z) (w f : Int32) (hD : 3 ≤ D) (h : ∀ r z', rdMq9 C wr z z' → F r z') : MT G D z_finding 0 [(0, vr 0), (1, vi w), (2, vi f)] [] z (ri F) := by
  obtain ⟨D, rfl⟩ : ∃ D', D = D' + 1 := ⟨D - 1, by omega⟩
  refine sg_finding_0 _ _ (fun y e => ?_)
  have hy := z0_s e
  have no : ∀ y', mi [0] [] z y' → ri F (some (vi 0)) y' := fun y' m => ri_i (h 0 y' (rd_0q9 m q))
  have ok : ∀ r, ri F (some (vi r)) y := fun r => ri_i (h r y (rd_0q9 hy.1 q))
  have qy := (MI_0 hy.1 q).1
  have p63 : vp_in w 2 → ∀ s : Int32, (s = -1 ∨ (0 ≤ s.toInt ∧ s.toInt < 3000)) → MT G (D + 1) z_finding 63 [(0, vr 0), (1, vi w)] [vi s] y (ri F) := fun wv s hs => sg_finding_63 _ _ ⟨fun ne => ⟨(tmul (k := 3000) (K := 3000) (N := 6000) (n := 3000) rfl wv (hs.resolve_left ne).1 (hs.resolve_left ne).2 (by omega) (by omega) (by omega)).1, ok _⟩, fun _ => ok _⟩
  have p30 : ∀ b : Int32, (b = 0 → vp_in w 2 ∧ 0 ≤ f.toInt ∧ f.toInt < 11) → MT G (D + 1) z_finding 30 [(0, vr 0), (1, vi w), (2, vi f)] [vi b, vr 0] y (ri F) := by
    intro b hb
    refine sg_finding_30 _ _ _ (sp_ref b 1 hy (by decide) (fun b0 => ⟨fun _ => ?_, fun q => absurd rfl q⟩) (fun _ y' m => ⟨fun q => absurd q (by decide), fun _ => no y' m⟩))
    obtain ⟨wv, f0, f1⟩ := hb b0
    obtain ⟨fv, fe⟩ := t11 wv f0 f1
    refine ⟨wv, fun _ => p63 wv _ (Or.inl rfl), fun tr => ⟨fv, p63 wv _ ?_⟩⟩
    obtain ⟨hc, A, t1, t2, t3, t4, t5, t6, t7⟩ := qy.2.2.2 _ (vp_lt wv) tr
    rw [fe]
    exact (t7 f.toNatClampNeg (by have := cl_i f0; omega)).imp id (fun w => by omega)
  exact sp_in _ _ _ ⟨fun _ => p30 1 (fun q => absurd q (by decide)), fun c1 => sp_in _ _ _ ⟨fun c2 => p30 0 (fun _ => ⟨(w_in (bi_ne.mp c1)).1, f_in (bi_ne.mp c2)⟩), fun _ => p30 1 (fun q => absurd q (by decide))⟩⟩
theorem sr_commonq9 (q : MI z) (w c : Int32) (hD : 3 ≤ D) (h : ∀ r z', rdMq9 C wr z z' → F r z') : MT G D z_common 0 [(0, vr 0), (1, vi w), (2, vi c)] [] z (ri F) := by
  obtain ⟨D, rfl⟩ : ∃ D', D = D' + 1 := ⟨D - 1, by omega⟩
  have k0 : (0 : Int32).toInt = 0 := rfl
  refine sg_common_0 _ _ (fun y e => ?_)
  have hy := z0_s e
  have no : ∀ y', mi [0] [] z y' → ri F (some (vi 0)) y' := fun y' m => ri_i (h 0 y' (rd_0q9 m q))
  have ok : ∀ r, ri F (some (vi r)) y := fun r => ri_i (h r y (rd_0q9 hy.1 q))
  have qy := (MI_0 hy.1 q).1
  have p47 : vp_in w 2 → ∀ b : Int32, (b = 0 → (0 : Int32) ≤ c ∧ c ≤ y.1 0 23 - 1) → MT G (D + 1) z_common 47 [(0, vr 0), (1, vi w), (2, vi c)] [vi b, vr 0] y (ri F) := by
    intro wv b hb
    refine sg_common_47 _ _ _ (sp_ref b 2 hy (by decide) (fun b0 => ⟨fun _ => ⟨wv, fun _ => ok _, fun tr => ⟨?_, ok _⟩⟩, fun q => absurd rfl q⟩) (fun _ y' m => ⟨fun q => absurd q (by decide), fun _ => no y' m⟩))
    obtain ⟨hc, _⟩ := qy.2.2.2 _ (vp_lt wv) tr
    have g := (qy.2.1 hc).1
    have a2 := in_lt (hb b0) g.1
    have g2 := g.2.1
    exact (tmul (k := 24) (K := 24) (N := 48) (n := 24) rfl wv a2.1 (by omega) (by omega) (by omega) (by omega)).1
  have p20 : ∀ b : Int32, (b = 0 → vp_in w 2) → MT G (D + 1) z_common 20 [(0, vr 0), (1, vi w), (2, vi c)] [vi b, vr 0] y (ri F) := fun b hb => sg_common_20 _ _ _ (sp_ref b 1 hy (by decide) (fun b0 => ⟨fun q => absurd rfl q, fun _ => sp_in _ _ _ ⟨fun c2 => p47 (hb b0) 0 (fun _ => bi_ne.mp c2), fun _ => p47 (hb b0) 1 (fun q => absurd q (by decide))⟩⟩) (fun _ y' m => ⟨fun _ => no y' m, fun q => absurd q (by decide)⟩))
  exact sp_in _ _ _ ⟨fun cc => p20 0 (fun _ => (w_in (bi_ne.mp cc)).1), fun _ => p20 1 (fun q => absurd q (by decide))⟩
theorem sr_alikeq9 (q : MI z) (h : ∀ r z', rdMq9 C wr z z' → F r z') : MT G d z_alike 0 [(0, vr 0)] [] z (ri F) := by
  have k0 : (0 : Int32).toInt = 0 := rfl
  have k1 : (1 : Int32).toInt = 1 := rfl
  have k24 : (24 : Int32).toInt = 24 := rfl
  have k72 : (72000 : Int32).toInt = 72000 := rfl
  have z0' : (0 : Int32).toNatClampNeg = 0 := rfl
  have v0 : vp_in 0 2 := vp_in_iff.mpr (by decide)
  have v1 : vp_in 1 2 := vp_in_iff.mpr (by decide)
  refine sg_alike_0 (fun y e => ?_)
  have hy := z0_s e
  have ok : ∀ r, ri F (some (vi r)) y := fun r => ri_i (h r y (rd_0q9 hy.1 q))
  have qy := (MI_0 hy.1 q).1
  refine ⟨v0, fun _ => ok _, fun tr => ⟨v1, fun _ => ok _, fun _ => ⟨v0, fun _ => ok _, fun _ => ⟨v1, fun _ => ⟨v0, v1, fun _ => ?_, fun _ => ok _⟩, fun _ => ok _⟩⟩⟩⟩
  obtain ⟨hc, A, t1, t2, t3, t4, t5, _⟩ := qy.2.2.2 _ (vp_lt v0) tr
  obtain ⟨O, eO⟩ : ∃ O, O = y.1 123 (0 : Int32).toNatClampNeg := ⟨_, rfl⟩
  rw [← eO] at t4 t5
  have bO : (24 * O).toInt = 24 * O.toInt := by rw [t_mul (by rw [k24]; omega) (by rw [k24]; omega), k24]
  have loop : ∀ (n : Nat) (i : Int32), 0 ≤ i.toInt → 72000 - i.toInt ≤ n → MT G d z_alike 62 [(0, vr 0), (1, vi i)] [] y (ri F) := by
    intro n
    induction n with
    | zero =>
      intro i i0 hn
      refine sg_alike_62 _ ⟨v0, ?_⟩
      rw [← eO]
      exact ⟨fun _ => ok _, fun c => absurd (t_le.mpr (by omega)) c⟩
    | succ n ih =>
      intro i i0 hn
      refine sg_alike_62 _ ⟨v0, ?_⟩
      rw [← eO]
      refine ⟨fun _ => ok _, fun c => ?_⟩
      rw [t_le, bO] at c
      have ii : (i + 1).toInt = i.toInt + 1 := by rw [t_add (by omega) (by omega), k1]
      exact ⟨by rw [vp_in_iff]; omega, by rw [vp_in_iff, t_add (by omega) (by omega), k72]; omega, fun _ => ih _ (by omega) (by omega), fun _ => ok _⟩
  exact loop 72000 0 (by decide) (by decide)
theorem sr_ringq9 (q : MI z) (w : Int32) (hD : 3 ≤ D) (h : ∀ r z', rdMq9 C wr z z' → F r z') : MT G D z_ring 0 [(0, vr 0), (1, vi w)] [] z (ri F) := by
  obtain ⟨D, rfl⟩ : ∃ D', D = D' + 1 := ⟨D - 1, by omega⟩
  have k0 : (0 : Int32).toInt = 0 := rfl
  have k1 : (1 : Int32).toInt = 1 := rfl
  have k6 : (6 : Int32).toInt = 6 := rfl
  have k36 : (36 : Int32).toInt = 36 := rfl
  refine sg_ring_0 _ (fun y e => ?_)
  have hy := z0_s e
  have no : ∀ y', mi [0] [] z y' → ri F (some (vi 0)) y' := fun y' m => ri_i (h 0 y' (rd_0q9 m q))
  have qy := (MI_0 hy.1 q).1
  have p20 : ∀ b : Int32, (b = 0 → vp_in w 2) → MT G (D + 1) z_ring 20 [(0, vr 0), (1, vi w)] [vi b, vr 0] y (ri F) := by
    intro b hb
    refine sg_ring_20 _ _ (sp_ref b 1 hy (by decide) (fun b0 => ⟨fun q => absurd rfl q, fun _ => ⟨hb b0, fun tr => ?_, fun _ => no y hy.1⟩⟩) (fun _ y' m => ⟨fun _ => no y' m, fun q => absurd q (by decide)⟩))
    have wv := hb b0
    have wb := vp_in_iff.mp wv
    obtain ⟨hc, _⟩ := qy.2.2.2 _ (vp_lt wv) tr
    have g := (qy.2.1 hc).1
    have g6 := g.2.2.2.1
    have g60 := g.2.2.1
    obtain ⟨N, eN⟩ : ∃ N, N = y.1 0 24 := ⟨_, rfl⟩
    rw [← eN] at g6 g60
    have fin : ∀ (u : gd) (r : Int32), mi [] [139] y u → ri F (some (vi r)) u := fun u r mu => ri_i (h r u (by
      have p := rd_miq9 (C := C) (wr := wr) mu rfl rfl qy
      exact rd_trq9 hy.1 p))
    have f24 : ∀ u : gd, mi [] [139] y u → u.1 0 24 = N := fun u mu => by rw [mu.1 24 (by decide), eN]
    have st : ∀ (u u2 : gd) (j : Nat) (v : Int32), mi [] [139] y u → u2 = si u 139 j v → mi [] [139] y u2 := fun u u2 j v mu e2 => by
      have m := md_a u 139 j v (by decide)
      rw [← e2] at m
      exact mi_tr mu (mi_of m) rfl rfl
    have p42 : ∀ (n : Nat) (u : gd) (r l : Int32), mi [] [139] y u → 0 ≤ l.toInt → N.toInt - l.toInt ≤ n → MT G (D + 1) z_ring 42 [(0, vr 0), (1, vi w), (2, vi r), (3, vi l)] [] u (ri F) := by
      intro n
      induction n with
      | zero =>
        intro u r l mu l0 hn
        exact sg_ring_42 _ _ _ ⟨fun _ => fin u r mu, fun c => absurd (t_le.mpr (by rw [f24 u mu]; omega)) c⟩
      | succ n ih =>
        intro u r l mu l0 hn
        refine sg_ring_42 _ _ _ ⟨fun _ => fin u r mu, fun c => ?_⟩
        rw [t_le, f24 u mu] at c
        have lv : vp_in l 6 := by rw [vp_in_iff]; omega
        have li : (l + 1).toInt = l.toInt + 1 := by rw [t_add (by omega) (by omega), k1]
        have p79 : ∀ (m : Nat) (u : gd) (k : Int32), mi [] [139] y u → 1 ≤ k.toInt → N.toInt + 1 - k.toInt ≤ m → MT G (D + 1) z_ring 79 [(0, vr 0), (1, vi w), (2, vi r), (3, vi l), (4, vi k)] [] u (ri F) := by
          have last : ∀ u : gd, mi [] [139] y u → vp_in l 6 ∧ (((u.1 139 l.toNatClampNeg) ≤ (0 : Int32) → MT G (D + 1) z_ring 42 [(0, vr 0), (1, vi w), (2, vi r), (3, vi (l + 1))] [] u (ri F)) ∧ (¬ ((u.1 139 l.toNatClampNeg) ≤ (0 : Int32)) → ((r = (0 : Int32) → vp_in l 6 ∧ MT G (D + 1) z_ring 42 [(0, vr 0), (1, vi w), (2, vi (u.1 139 l.toNatClampNeg)), (3, vi (l + 1))] [] u (ri F)) ∧ (¬ (r = (0 : Int32)) → vp_in l 6 ∧ ((r ≤ (u.1 139 l.toNatClampNeg) → MT G (D + 1) z_ring 42 [(0, vr 0), (1, vi w), (2, vi r), (3, vi (l + 1))] [] u (ri F)) ∧ (¬ (r ≤ (u.1 139 l.toNatClampNeg)) → vp_in l 6 ∧ MT G (D + 1) z_ring 42 [(0, vr 0), (1, vi w), (2, vi (u.1 139 l.toNatClampNeg)), (3, vi (l + 1))] [] u (ri F))))))) := by
            intro u mu
            have nx : ∀ r : Int32, MT G (D + 1) z_ring 42 [(0, vr 0), (1, vi w), (2, vi r), (3, vi (l + 1))] [] u (ri F) := fun r => ih u r (l + 1) mu (by omega) (by omega)
            exact ⟨lv, fun _ => nx _, fun _ => ⟨fun _ => ⟨lv, nx _⟩, fun _ => ⟨lv, fun _ => nx _, fun _ => ⟨lv, nx _⟩⟩⟩⟩
          intro m
          induction m with
          | zero =>
            intro u k mu k1' hm
            exact sg_ring_79 _ _ _ _ ⟨fun _ => last u mu, fun q => absurd (t_lt.mpr (by rw [f24 u mu]; omega)) q⟩
          | succ m ihm =>
            intro u k mu k1' hm
            refine sg_ring_79 _ _ _ _ ⟨fun _ => last u mu, fun q => ?_⟩
            rw [t_lt, f24 u mu] at q
            have ki : (k + 1).toInt = k.toInt + 1 := by rw [t_add (by omega) (by omega), k1]
            have p91 : ∀ (p : Nat) (u : gd) (i : Int32), mi [] [139] y u → 0 ≤ i.toInt → N.toInt - i.toInt ≤ p → MT G (D + 1) z_ring 91 [(0, vr 0), (1, vi w), (2, vi r), (3, vi l), (4, vi k), (5, vi i)] [] u (ri F) := by
              intro p
              induction p with
              | zero =>
                intro u i mu i0 hp
                exact sg_ring_91 _ _ _ _ _ ⟨fun _ => ihm u (k + 1) mu (by omega) (by omega), fun q => absurd (t_le.mpr (by rw [f24 u mu]; omega)) q⟩
              | succ p ihp =>
                intro u i mu i0 hp
                refine sg_ring_91 _ _ _ _ _ ⟨fun _ => ihm u (k + 1) mu (by omega) (by omega), fun q2 => ?_⟩
                rw [t_le, f24 u mu] at q2
                have iv : vp_in i 6 := by rw [vp_in_iff]; omega
                have ii : (i + 1).toInt = i.toInt + 1 := by rw [t_add (by omega) (by omega), k1]
                have p144 : ∀ (s : Nat) (u : gd) (v j : Int32), mi [] [139] y u → 0 ≤ j.toInt → N.toInt - j.toInt ≤ s → MT G (D + 1) z_ring 144 [(0, vr 0), (1, vi w), (2, vi r), (3, vi l), (4, vi k), (5, vi i), (6, vi v), (7, vi j)] [] u (ri F) := by
                  intro s
                  induction s with
                  | zero =>
                    intro u v j mu j0 hs
                    exact sg_ring_144 _ _ _ _ _ _ _ ⟨fun _ => ihp u (i + 1) mu (by omega) (by omega), fun q => absurd (t_le.mpr (by rw [f24 u mu]; omega)) q⟩
                  | succ s ihs =>
                    intro u v j mu j0 hs
                    refine sg_ring_144 _ _ _ _ _ _ _ ⟨fun _ => ihp u (i + 1) mu (by omega) (by omega), fun q3 => ⟨fun _ => ihp u (i + 1) mu (by omega) (by omega), fun _ => ?_⟩⟩
                    rw [t_le, f24 u mu] at q3
                    have jv : vp_in j 6 := by rw [vp_in_iff]; omega
                    have ji : (j + 1).toInt = j.toInt + 1 := by rw [t_add (by omega) (by omega), k1]
                    have a1 : (36 * w).toInt = 36 * w.toInt := by rw [t_mul (by rw [k36]; omega) (by rw [k36]; omega), k36]
                    have a2 : (6 * i).toInt = 6 * i.toInt := by rw [t_mul (by rw [k6]; omega) (by rw [k6]; omega), k6]
                    have a3 : (36 * w + 6 * i).toInt = 36 * w.toInt + 6 * i.toInt := by rw [t_add (by omega) (by omega), a1, a2]
                    refine ⟨by rw [vp_in_iff, t_add (by omega) (by omega), a3]; omega, fun _ => ihs u v (j + 1) mu (by omega) (by omega), fun _ => ⟨jv, fun _ => ihs u v (j + 1) mu (by omega) (by omega), fun _ => ⟨jv, fun u8 e8 => ihs u8 v (j + 1) (st u u8 _ _ mu e8) (by omega) (by omega)⟩⟩⟩
                have go : ∀ v : Int32, MT G (D + 1) z_ring 144 [(0, vr 0), (1, vi w), (2, vi r), (3, vi l), (4, vi k), (5, vi i), (6, vi v), (7, vi 0)] [] u (ri F) := fun v => p144 6 u v 0 mu (by decide) (by rw [k0]; omega)
                exact ⟨fun _ => ⟨iv, fun _ => go _, fun _ => go _⟩, fun _ => ⟨fun _ => go _, fun _ => go _⟩⟩
            exact p91 6 u 0 mu (by decide) (by rw [k0]; omega)
        have p53 : ∀ (m : Nat) (u : gd) (k : Int32), mi [] [139] y u → 0 ≤ k.toInt → N.toInt - k.toInt ≤ m → MT G (D + 1) z_ring 53 [(0, vr 0), (1, vi w), (2, vi r), (3, vi l), (4, vi k)] [] u (ri F) := by
          intro m
          induction m with
          | zero =>
            intro u k mu k0' hm
            exact sg_ring_53 _ _ _ _ ⟨fun _ => p79 6 u 1 mu (by decide) (by rw [k1]; omega), fun q => absurd (t_le.mpr (by rw [f24 u mu]; omega)) q⟩
          | succ m ihm =>
            intro u k mu k0' hm
            refine sg_ring_53 _ _ _ _ ⟨fun _ => p79 6 u 1 mu (by decide) (by rw [k1]; omega), fun q => ?_⟩
            rw [t_le, f24 u mu] at q
            have ki : (k + 1).toInt = k.toInt + 1 := by rw [t_add (by omega) (by omega), k1]
            exact ⟨by rw [vp_in_iff]; omega, fun u3 e3 => ihm u3 (k + 1) (st u u3 _ _ mu e3) (by omega) (by omega)⟩
        exact p53 6 u 0 mu (by decide) (by rw [k0]; omega)
    exact p42 6 y 0 0 ⟨fun _ _ => rfl, fun _ _ _ => rfl⟩ (by decide) (by rw [k0]; omega)
  exact sp_in _ _ _ ⟨fun cc => p20 0 (fun _ => (w_in (bi_ne.mp cc)).1), fun _ => p20 1 (fun q => absurd q (by decide))⟩
theorem sr_linearq9 (q : MI z) (k : Int32) (hD : 5 ≤ D) (h : ∀ r z', rdMq9 C wr z z' → F r z') : MT G D z_linear 0 [(0, vr 0), (1, vi k)] [] z (ri F) := by
  obtain ⟨D, rfl⟩ : ∃ D', D = D' + 2 := ⟨D - 2, by omega⟩
  have k1 : (1 : Int32).toInt = 1 := rfl
  refine sg_linear_0 _ (fun y e => ?_)
  have hy := z0_s e
  have no : ∀ y', mi [0] [] z y' → ri F (some (vi 0)) y' := fun y' m => ri_i (h 0 y' (rd_0q9 m q))
  have qy := (MI_0 hy.1 q).1
  refine sp_noRun hy (fun hr => ⟨fun q => absurd rfl q, fun _ => ?_⟩) (fun y' m => ⟨fun _ => no y' m, fun q => absurd q (by decide)⟩)
  obtain ⟨hc, s, n, q1, q2, q3, q4, q5, q6, ha⟩ := qy.2.2.1 hr
  have end' : ∀ (r : Int32) (u : gd), mi [107, 116] [109, 110, 111, 112, 113, 114, 115, 116, 118] y u → oA u → ri F (some (vi r)) u := fun r u m o => ri_i (h r u (by
    have p := rd_oq9 (C := C) (wr := wr) m rfl rfl o qy
    exact rd_trq9 hy.1 p))
  have p57 : ∀ (c : Int32), c.toInt ≤ 400 → ∀ (m : Nat) (u : gd) (i : Int32), mi [107, 116] [109, 110, 111, 112, 113, 114, 115, 116, 118] y u → oA u → 0 ≤ i.toInt → c.toInt + 1 - i.toInt ≤ m → MT G (D + 2) z_linear 57 [(0, vr 0), (1, vi k), (2, vi c), (3, vi i)] [] u (ri F) := by
    intro c c4 m
    induction m with
    | zero =>
      intro u i mu ou i0 hm
      exact sg_linear_57 _ _ _ ⟨fun _ => end' _ u mu ou, fun q => absurd (t_lt.mpr (by omega)) q⟩
    | succ m ih =>
      intro u i mu ou i0 hm
      refine sg_linear_57 _ _ _ ⟨fun _ => end' _ u mu ou, fun q => ?_⟩
      rw [t_lt] at q
      have ii : (i + 1).toInt = i.toInt + 1 := by rw [t_add (by omega) (by omega), k1]
      refine sp_takeCalls (HA_mi mu rfl rfl ha) ou i (fun r v mv ov v0 v1 _ => sp_isLinear k v0 v1 (by omega) (fun r2 w mw => ?_))
      have ow' : oA w := oA_md mw (by decide) ov
      have myw : mi [107, 116] [109, 110, 111, 112, 113, 114, 115, 116, 118] y w := mi_tr (mi_tr (L3 := [107, 116]) (A3 := [109, 110, 111, 112, 113, 114, 115, 116, 118]) mu mv rfl rfl) (mi_of mw) rfl rfl
      exact ⟨fun _ => ih w (i + 1) myw ow' (by omega) (by omega), fun _ => end' _ w myw ow'⟩
  have p27 : ∀ b : Int32, MT G (D + 2) z_linear 27 [(0, vr 0), (1, vi k)] [vi b, vr 0] y (ri F) := by
    intro b
    refine sg_linear_27 _ _ (sp_ref b 2 hy (by decide) (fun _ => ⟨fun _ => ?_, fun q => absurd rfl q⟩) (fun _ y' m => ⟨fun q => absurd q (by decide), fun _ => no y' m⟩))
    refine sp_takeCalls ha qy.1.2.2.2.2.2 1000 (fun r v mv ov v0 v1 r4 => ⟨fun _ => ?_, fun _ => ?_⟩)
    · exact p57 r r4 _ v 1 (mi_w mv (by decide) (by decide)) ov (by decide) (Int.self_le_toNat _)
    · exact end' _ v (mi_w mv (by decide) (by decide)) ov
  exact sp_in _ _ _ ⟨fun _ => p27 0, fun _ => p27 1⟩
end RDX

section KFA
variable {G : kG} {q q0 q1 : kP} {d : Nat} {x x0 y z : gd} {o : Nat} {F : Int32 → gd → Prop} {Fv : gd → Prop} {P : Option gv → gd → Prop} {X : String → gd → Prop}
theorem kz_outcomeq9 (hq : kV q) (hH : HOI x q) (l1 l2 l3 : Int32) (hA : X iAE x) (hO : X iOE x) (hP : ∀ r y, HOI y q → KF x y → P (some (vi r)) y) : KE G q (d + 7) zk_X11_outcome 0 [(0, vr 0), (1, vi l1), (2, vi l2), (3, vi l3)] [] x P X := by
  have here : ∀ r, P (some (vi r)) x := fun r => hP r x hH KF_rf
  have k0 : (0 : Int32).toInt = 0 := rfl
  refine kg_X11_outcome_0 hq l1 l2 l3 (kz_way hq l1 hA (fun hw => kz_was hq hH l1 hw ⟨fun _ => kg_X11_outcome_26 hq l1 l2 l3 _ _ (kz_ix hq l2 0 hO (fun h0 h1 => ?_)), fun c => absurd rfl c⟩ (fun o e7 ho hz ht hC hp => ⟨fun c => absurd c (by decide), fun _ => ⟨way_in hw, fun u6 e6 => ⟨o, by rw [e6, e7], ho, kg_X11_outcome_26 hq l1 l2 l3 _ _ (kz_ix hq l2 _ hO (fun h0 h1 => kz_ix hq l3 _ hO (fun g0 g1 => ⟨way_in hw, fun u4 e4 => ⟨o, by rw [e4, e7], ho, kt_valueOfq9 hq ho l2 l3 ht ⟨h0, h1⟩ (by have := hC.1.1; omega) (fun r => here r)⟩⟩)))⟩⟩⟩)))
  rw [k0] at h1; omega
theorem kz_alikeq9 (hq : kV q) (hH : HOI x q) (hP : ∀ r y, HOI y q → KF x y → P (some (vi r)) y) : KT G q (d + 2) zk_X11_alike 0 [(0, vr 0)] [] x P := by
  have here : ∀ r, P (some (vi r)) x := fun r => hP r x hH KF_rf
  refine kg_X11_alike_0 hq (kz_was hq hH 0 (Or.inl rfl) ⟨fun _ => here _, fun c => absurd rfl c⟩ (fun o e0 ho hz ht hC hp => ⟨fun c => absurd c (by decide), fun _ => kz_was hq hH 1 (Or.inr rfl) ⟨fun _ => here _, fun c => absurd rfl c⟩ (fun o2 e1 ho2 hz2 ht2 hC2 hp2 => ⟨fun c => absurd c (by decide), fun _ => ⟨way_in (Or.inl rfl), fun u8 e8 => ⟨o, by rw [e8, e0], ho, fun _ => here _, fun _ => ⟨way_in (Or.inr rfl), fun u13 e13 => ⟨o2, by rw [e13, e1], ho2, fun _ => ⟨way_in (Or.inl rfl), fun u18 e18 => ⟨way_in (Or.inr rfl), fun u20 e20 => ⟨o2, by rw [e20, e1], ho2, o, by rw [e18, e0], ho, ?_⟩⟩⟩, fun _ => here _⟩⟩⟩⟩⟩)⟩))
  exact kt_sameq9 hq ho ho2 _ hC.1.1.2 ht ht2 (fun r _ => ⟨fun _ => here _, fun _ => here _⟩)
end KFA

section KBG
variable {G : kG} {q q0 q1 : kP} {d : Nat} {x x0 y z : gd} {o : Nat} {P : Option gv → gd → kP → Prop} {X : String → gd → kP → Prop}
theorem kz_linearq9 (hu : kU q) (hH : HOI x q) (l : Int32) (hS : X iSE x q) (hA : X iAE x q) (hP : ∀ r y q1, kU q1 → kle q q1 → HOI y q1 → KF x y → P (some (vi r)) y q1) : KM G q (d + 18) zk_X11_linear 0 [(0, vr 0), (1, vi l)] [] x P X := by
  have p56 : ∀ (q1 : kP) (y : gd), kU q1 → kle q q1 → HOI y q1 → JN y → q1.hi = true → KF x y → KM G q1 (d + 18) zk_X11_linear 56 [(0, vr 0), (1, vi l)] [] y P X := by
    intro q1 y hu1 hl1 hH1 hJ hh el
    refine kg_X11_linear_56 (d := d + 11) hu1 l (fun u1 e1 => ⟨by rw [e1, k08_t hh], hh, kh_take (d := d + 16) hu1.1 hh hJ (fun z fz hc u3 e3 => ⟨by rw [e3, k08_t hh], hh, kh_fewest hu1.1 hh l hc.1 (fun r w fw => ?_)⟩)⟩)
    have f : fm sNwq9 y w := fm_tr (fm_w fz (fun c k q => by unfold sHi at q; unfold sNwq9; omega)) (fm_w fw (fun c k q => by unfold sHl at q; unfold sNwq9; omega))
    have hw := HOI_mkq9 (kle_rf q1) hu1 f hH1
    have e20 : KF x w := KF_tr el (KF_fm f (fun c k q => by unfold sNwq9 at q; omega))
    exact ⟨fun _ => hP _ w q1 hu1 hl1 hw e20, fun _ => hP _ w q1 hu1 hl1 hw e20⟩
  refine kg_X11_linear_0 (d := d + 11) hu l (kz_run hu.1 hH hS (fun hR => ⟨fun _ => kg_X11_linear_13 hu hA, fun _ => ⟨fun _ => ⟨fun _ u5 e5 => ⟨fun hn => ⟨k08_n (by rw [← e5, hn]), fun q8 x9 e8 e9 hu8 hl8 => ?_⟩, fun c7 h7 => p56 q x hu (kle_rf q) hH hR.2.2 (k08_s (e5.symm.trans h7)) KF_rf⟩, fun _ => hP _ x q hu (kle_rf q) hH KF_rf⟩, fun _ => kg_X11_linear_13 hu hA⟩⟩))
  have f9 : fm sNwq9 x x9 := by
    rw [e9]
    refine fm_new (fun c hc k => ?_)
    have := (by decide +kernel : ∀ c ∈ 180 :: ops_180.flatMap xtch, (180 ≤ c ∧ c < 260) ∨ (300 ≤ c ∧ c < 1000)) c hc
    exact this
  exact p56 q8 x9 hu8 hl8 (HOI_mkq9 hl8 hu8 f9 hH) (JN_o (fun c k a b => f9 c k (by unfold sNwq9; omega)) hR.2.2) (by rw [e8]; rfl) (KF_fm f9 (fun c k q => by unfold sNwq9 at q; omega))
theorem kz_attemptq9 (hu : kU q) (hH : HOI x q) (l1 l2 : Int32) (hS : X iSE x q) (hA : X iAE x q) (hP : ∀ r y q1, kU q1 → kle q q1 → HOI y q1 → KF x y → P (some (vi r)) y q1) : KM G q (d + 7) zk_X11_attempt 0 [(0, vr 0), (1, vi l1), (2, vi l2)] [] x P X := by
  refine kg_X11_attempt_0 hu l1 l2 (kz_comp hu.1 hH hS (fun _ hC => kz_way hu.1 l1 hA (fun hw => ?_)))
  have hv := way_in hw
  have p75 : ∀ (q1 : kP) (y : gd) (o : Nat), kU q1 → kle q q1 → HOI y q1 → CO y → q1.ex = true → (kf q1).1 7 l1.toNatClampNeg = some o → KF x y → KM G q1 (d + 7) zk_X11_attempt 75 [(0, vr 0), (1, vi l1), (2, vi l2)] [] y P X := by
    intro q1 y o hu1 hl1 hH1 hC1 he eo el
    have ho := k7_T eo
    refine kg_X11_attempt_75 hu1 l1 l2 (fun u1 e1 => ⟨hv, fun u3 e3 => ⟨o, by rw [e3, eo], ho, by rw [e1, k07_t he], he, kx_exploreq9 hu1 he ho hC1 l1 l2 hw (fun z q7 hu7 hl7 et7 fz hz ht => ⟨hv, fun u9 e9 => ⟨o, by rw [e9, k7_le hl7 eo], kle_T hl7 ho, ?_⟩⟩)⟩⟩)
    have hO := iT_O ho
    exact hP _ z q7 hu7 (kle_tr hl1 hl7) (HOI_exq9 hl7 hu7 ho fz hz ht hC1 hH1) (KF_tr el (KF_fm fz (fun c k q => by unfold sExq9 at q; omega)))
  have p53 : ∀ (q1 : kP) (y : gd), kU q1 → kle q q1 → HOI y q1 → CO y → q1.ex = true → KF x y → KM G q1 (d + 7) zk_X11_attempt 53 [(0, vr 0), (1, vi l1), (2, vi l2)] [] y P X := by
    intro q1 y hu1 hl1 hH1 hC1 he el
    refine kg_X11_attempt_53 hu1 l1 l2 ⟨hv, fun u2 e2 => ⟨fun hn => ⟨hv, fun i0 => ?_, fun i1 => ?_⟩, fun c4 h4 => p75 q1 y c4 hu1 hl1 hH1 hC1 he (by rw [← e2, h4]) el⟩⟩
    · rw [i0, hn] at e2
      refine ⟨k7_n0 e2.symm, fun q5 x6 e5 e6 hu5 hl5 => ?_⟩
      have f6 : fm (fun c k => 260 ≤ c ∧ c ≤ 260 + 14) y x6 := by
        rw [e6]
        exact fm_new (fun c hc k => (by decide +kernel : ∀ c ∈ 260 :: ops_260.flatMap xtch, 260 ≤ c ∧ c ≤ 260 + 14) c hc)
      refine p75 q5 x6 260 hu5 (kle_tr hl1 hl5) (HOI_Tn (Or.inl rfl) f6 (by rw [e6]; rfl) (by rw [e6]; rfl) hl5 hu5 hH1) (CO_fm hC1 (fun c k hc => f6 c k (by omega))) (hl5.2.1.2.1 he) ?_ (KF_tr el (KF_fm f6 (fun c k q => by omega)))
      rw [i0, e5]; rfl
    · rw [i1, hn] at e2
      refine ⟨k7_n1 e2.symm, fun q5 x6 e5 e6 hu5 hl5 => ?_⟩
      have f6 : fm (fun c k => 280 ≤ c ∧ c ≤ 280 + 14) y x6 := by
        rw [e6]
        exact fm_new (fun c hc k => (by decide +kernel : ∀ c ∈ 280 :: ops_280.flatMap xtch, 280 ≤ c ∧ c ≤ 280 + 14) c hc)
      refine p75 q5 x6 280 hu5 (kle_tr hl1 hl5) (HOI_Tn (Or.inr rfl) f6 (by rw [e6]; rfl) (by rw [e6]; rfl) hl5 hu5 hH1) (CO_fm hC1 (fun c k hc => f6 c k (by omega))) (hl5.2.1.2.1 he) ?_ (KF_tr el (KF_fm f6 (fun c k q => by omega)))
      rw [i1, e5]; rfl
  refine ⟨fun _ => kg_X11_attempt_20 hu hA, fun _ => ⟨fun _ u5 e5 => ⟨fun hn => ⟨k07_n (by rw [← e5, hn]), fun q8 x9 e8 e9 hu8 hl8 => ?_⟩, fun c7 h7 => p53 q x hu (kle_rf q) hH hC (k07_s (e5.symm.trans h7)) KF_rf⟩, fun _ => kg_X11_attempt_20 hu hA⟩⟩
  have f9 : fm sNwq9 x x9 := by
    rw [e9]
    refine fm_new (fun c hc k => ?_)
    exact (by decide +kernel : ∀ c ∈ 200 :: ops_200.flatMap xtch, (180 ≤ c ∧ c < 260) ∨ (300 ≤ c ∧ c < 1000)) c hc
  exact p53 q8 x9 hu8 hl8 (HOI_mkq9 hl8 hu8 f9 hH) (CO_fm hC (fun c k hc => f9 c k (by unfold sNwq9; omega))) (by rw [e8]; rfl) (KF_fm f9 (fun c k q => by unfold sNwq9 at q; omega))
end KBG

/-- what a trying changes, with what is made for it -/
def sAtq9 (o c k : Nat) : Prop := (180 ≤ c ∧ c < 260) ∨ (o ≤ c ∧ c ≤ o + 14) ∨ (300 ≤ c ∧ c < 4000) ∨ ((o = 260 ∧ 4000 ≤ c ∧ c < 7000) ∨ (o = 280 ∧ 7000 ≤ c)) ∨ (c = 60 ∧ k = 5) ∨ c = 65
/-- what stays of all states' -/
def KLcq9 (x : gd) (o : Nat) (l : gLoq9) : Prop := (x.1 o 2).toInt = (l.1 : Nat) ∧ (x.1 o 4).toInt = (l.2.1 : Nat) ∧ (x.1 o 5).toInt = (l.2.2.1 : Nat) ∧ (∀ c, c < 24 → x.1 (o + 8) c = l.2.2.2.1 c) ∧ (∀ a, a < 6 → x.1 (o + 9) a = l.2.2.2.2.1 a) ∧ OUkq9 x o l.2.2.2.2.2
def TL3q9 (C : gCo) (w : Nat) (x : gd) (o : Nat) (T : gTy) : Prop := KLcq9 x o (loSq9 C w (x.1 60 9).toInt.toNat T T.1.length)
def TR3q9 (C : gCo) (w : Nat) (x : gd) (o : Nat) (T : gTy) : Prop := TRoq9 C w x o T ∧ TL3q9 C w x o T
theorem TL3_fq9 {C : gCo} {w o : Nat} {x y : gd} {T : gTy} (hO : o = 260 ∨ o = 280) (e9 : y.1 60 9 = x.1 60 9) (e : ∀ c k, (c = o ∧ 2 ≤ k ∧ k ≤ 5) ∨ c = o + 8 ∨ c = o + 9 ∨ c = o + 14 ∨ ((o = 260 ∧ 4000 ≤ c ∧ c < 7000) ∨ (o = 280 ∧ 7000 ≤ c)) → y.1 c k = x.1 c k) (h : TL3q9 C w x o T) : TL3q9 C w y o T := by
  obtain ⟨h1, h2, h3, h4, h5, h6⟩ := h
  unfold TL3q9
  rw [e9]
  exact ⟨by rw [e _ _ (by omega)]; exact h1, by rw [e _ _ (by omega)]; exact h2, by rw [e _ _ (by omega)]; exact h3, fun c hc => by rw [e _ _ (by omega)]; exact h4 c hc, fun a ha => by rw [e _ _ (by omega)]; exact h5 a ha, OUk_gq9 (e _ _ (by omega)) (fun k => e _ _ (by omega)) (fun i k hi => e _ _ (by have := orw_ownq9 hO hi; omega)) h6⟩
theorem TR3_fq9 {C : gCo} {w o : Nat} {x y : gd} {T : gTy} (hO : o = 260 ∨ o = 280) (e9 : y.1 60 9 = x.1 60 9) (e : ∀ c k, (c = o ∧ k ≤ 5) ∨ (o + 7 ≤ c ∧ c ≤ o + 12) ∨ c = o + 14 ∨ ((o = 260 ∧ 4000 ≤ c ∧ c < 7000) ∨ (o = 280 ∧ 7000 ≤ c)) → y.1 c k = x.1 c k) (h : TR3q9 C w x o T) : TR3q9 C w y o T := ⟨TRo_fq9 (e _ _ (by omega)) (e _ _ (by omega)) (fun c k hc => e _ _ (by omega)) h.1, TL3_fq9 hO e9 (fun c k hc => e _ _ (by omega)) h.2⟩
section KAT
variable {G : kG} {q : kP} {d : Nat} {x y z : gd} {o : Nat} {P : Option gv → gd → kP → Prop} {X : String → gd → kP → Prop} {C : gCo} {nl : Nat}
theorem kh_attemptq9 (hu : kU q) (hH : HOI x q) (l1 l2 : Int32) (hK : ¬ x.1 0 9 = 0 → CK x C ∧ NC C ∧ NXc C ∧ NX3 C ∧ LkN C nl ∧ NCq C ∧ (x.1 60 9).toInt = (nl : Nat)) (hS : x.1 0 9 = 0 → X iSE x q) (hA : ¬ x.1 0 9 = 0 → ¬ ((l1 = 0 ∨ l1 = 1) ∧ 1 ≤ l2.toInt ∧ l2.toInt ≤ 3000) → X iAE x q) (hP : ∀ (w lim : Nat) y q1, (w = 0 ∨ w = 1) → l1 = Int32.ofNat w → l2.toInt = (lim : Nat) → 1 ≤ lim → lim ≤ 3000 → ¬ x.1 0 9 = 0 → kU q1 → kle q q1 → HOI y q1 → KF x y → fm (sAtq9 (260 + 20 * w)) x y → TR3q9 C w y (260 + 20 * w) (tryM C w lim) → P (some (vi (y.1 (260 + 20 * w) 0))) y q1) : KM G q (d + 7) zk_X11_attempt 0 [(0, vr 0), (1, vi l1), (2, vi l2)] [] x P X := by
  have k1 : (1 : Int32).toInt = 1 := rfl
  have k3 : (3000 : Int32).toInt = 3000 := rfl
  refine kg_X11_attempt_0 hu l1 l2 (kf_comp hu.1 hH hS (fun c9 hC => kf_way hu.1 l1 (fun z => hA c9 (fun z2 => z z2.1)) (fun hw => ?_)))
  obtain ⟨hKx, hN, hXc, hX3, hLk, hq2, en⟩ := hK c9
  have hv := way_in hw
  obtain ⟨w, w01, ew, ewn⟩ := w_nat hw
  refine ⟨fun c => kg_X11_attempt_20 hu (hA c9 (fun z => ?_)), fun c1 => ⟨fun c3 => ?_, fun c => kg_X11_attempt_20 hu (hA c9 (fun z => ?_))⟩⟩
  · rw [t_lt, k1] at c; omega
  rotate_left
  · rw [t_le, k3] at c; omega
  rw [t_lt, k1] at c1
  rw [t_le, k3] at c3
  obtain ⟨lim, el⟩ : ∃ lim : Nat, l2.toInt = lim := ⟨l2.toInt.toNat, by omega⟩
  have b1 : 1 ≤ lim := by omega
  have b3 : lim ≤ 3000 := by omega
  have hP := fun y q1 => hP w lim y q1 w01 ew el b1 b3 c9
  clear hA hS hK
  have p75 : ∀ (q1 : kP) (y : gd), kU q1 → kle q q1 → HOI y q1 → CO y → q1.ex = true → (kf q1).1 7 w = some (260 + 20 * w) → KF x y → fm (sAtq9 (260 + 20 * w)) x y → KM G q1 (d + 7) zk_X11_attempt 75 [(0, vr 0), (1, vi l1), (2, vi l2)] [] y P X := by
    intro q1 y hu1 hl1 hH1 hC1 he eo elf fy
    have ho := k7_T eo
    have ac : agC x y := fun c k hc => fy c k (by unfold sAtq9; omega)
    refine kg_X11_attempt_75 hu1 l1 l2 (fun u1 e1 => ⟨hv, fun u3 e3 => ⟨260 + 20 * w, by rw [e3, ewn, eo], ho, by rw [e1, k07_t he], he, ?_⟩⟩)
    rw [ew]
    refine kx_explore3q9 hu1 he ho hC1 (CK_f hKx ac) hN hXc hX3 hLk hq2 (by rw [ac 60 9 (by omega)]; exact en) w01 l2 el b1 b3 (fun z q7 hu7 hl7 et7 fz hz ht hJ hT hF hLo => ⟨by rw [← ew]; exact hv, fun u9 e9 => ⟨260 + 20 * w, by rw [e9, ← ew, ewn, k7_le hl7 eo], kle_T hl7 ho, ?_⟩⟩)
    exact hP z q7 hu7 (kle_tr hl1 hl7) (HOI_exq9 hl7 hu7 ho fz hz ht hC1 hH1) (KF_tr elf (KF_fm fz (fun c k q => by unfold sExq9 at q; omega))) (fm_tr fy (fm_w fz (fun c k q => by unfold sExq9 at q; unfold sAtq9; omega))) ⟨TRo_ofq9 hT hF, by
      have e9 : (z.1 60 9).toInt.toNat = nl := by rw [hJ.2.2]; rfl
      unfold TL3q9
      rw [e9]
      exact ⟨hLo.1, hLo.2.1, hLo.2.2.1, hLo.2.2.2.1, hLo.2.2.2.2.1, hLo.2.2.2.2.2⟩⟩
  have p53 : ∀ (q1 : kP) (y : gd), kU q1 → kle q q1 → HOI y q1 → CO y → q1.ex = true → KF x y → fm (sAtq9 (260 + 20 * w)) x y → KM G q1 (d + 7) zk_X11_attempt 53 [(0, vr 0), (1, vi l1), (2, vi l2)] [] y P X := by
    intro q1 y hu1 hl1 hH1 hC1 he elf fy
    refine kg_X11_attempt_53 hu1 l1 l2 ⟨hv, fun u2 e2 => ⟨fun hn => ⟨hv, fun i0 => ?_, fun i1 => ?_⟩, fun c4 h4 => ?_⟩⟩
    · have w0 : w = 0 := by rw [i0] at ewn; exact ewn.symm
      rw [i0, hn] at e2
      refine ⟨k7_n0 e2.symm, fun q5 x6 e5 e6 hu5 hl5 => ?_⟩
      have f6 : fm (fun c k => 260 ≤ c ∧ c ≤ 260 + 14) y x6 := by
        rw [e6]
        exact fm_new (fun c hc k => (by decide +kernel : ∀ c ∈ 260 :: ops_260.flatMap xtch, 260 ≤ c ∧ c ≤ 260 + 14) c hc)
      refine p75 q5 x6 hu5 (kle_tr hl1 hl5) (HOI_Tn (Or.inl rfl) f6 (by rw [e6]; rfl) (by rw [e6]; rfl) hl5 hu5 hH1) (CO_fm hC1 (fun c k hc => f6 c k (by omega))) (hl5.2.1.2.1 he) ?_ (KF_tr elf (KF_fm f6 (fun c k q => by omega))) (fm_tr fy (fm_w f6 (fun c k q => by unfold sAtq9; omega)))
      rw [w0, e5]; rfl
    · have w1 : w = 1 := by rw [i1] at ewn; exact ewn.symm
      rw [i1, hn] at e2
      refine ⟨k7_n1 e2.symm, fun q5 x6 e5 e6 hu5 hl5 => ?_⟩
      have f6 : fm (fun c k => 280 ≤ c ∧ c ≤ 280 + 14) y x6 := by
        rw [e6]
        exact fm_new (fun c hc k => (by decide +kernel : ∀ c ∈ 280 :: ops_280.flatMap xtch, 280 ≤ c ∧ c ≤ 280 + 14) c hc)
      refine p75 q5 x6 hu5 (kle_tr hl1 hl5) (HOI_Tn (Or.inr rfl) f6 (by rw [e6]; rfl) (by rw [e6]; rfl) hl5 hu5 hH1) (CO_fm hC1 (fun c k hc => f6 c k (by omega))) (hl5.2.1.2.1 he) ?_ (KF_tr elf (KF_fm f6 (fun c k q => by omega))) (fm_tr fy (fm_w f6 (fun c k q => by unfold sAtq9; omega)))
      rw [w1, e5]; rfl
    · rw [h4, ewn] at e2
      have eo := (k7_w e2.symm).2
      exact p75 q1 y hu1 hl1 hH1 hC1 he (by rw [← e2, eo]) elf fy
  intro u5 e5
  refine ⟨fun hn => ⟨k07_n (by rw [← e5, hn]), fun q8 x9 e8 e9 hu8 hl8 => ?_⟩, fun c7 h7 => p53 q x hu (kle_rf q) hH hC (k07_s (e5.symm.trans h7)) KF_rf (fm_rf _ _)⟩
  have f9 : fm sNwq9 x x9 := by
    rw [e9]
    refine fm_new (fun c hc k => ?_)
    exact (by decide +kernel : ∀ c ∈ 200 :: ops_200.flatMap xtch, (180 ≤ c ∧ c < 260) ∨ (300 ≤ c ∧ c < 1000)) c hc
  exact p53 q8 x9 hu8 hl8 (HOI_mkq9 hl8 hu8 f9 hH) (CO_fm hC (fun c k hc => f9 c k (by unfold sNwq9; omega))) (by rw [e8]; rfl) (KF_fm f9 (fun c k q => by unfold sNwq9 at q; omega)) (fm_w f9 (fun c k q => by unfold sNwq9 at q; unfold sAtq9; omega))
end KAT

section KFR
variable {x y : gd} {q : kP} {o : Nat} {C : gCo} {T : gTy} {w n : Nat} {c : Nat → Nat}
/-- a trying leaves the run -/
theorem KRun_atq9 (hO : o = 260 ∨ o = 280) (hK : CK x C) (f : fm (sAtq9 o) x y) (r : KRun C w n c x) : KRun C w n c y := KRun_f hK (fun c k hc => f c k (by unfold sAtq9; omega)) (fun c k h1 h2 => f c k (by unfold sAtq9; omega)) r
/-- a run leaves the tryings -/
theorem TR3_rnq9 (hO : o = 260 ∨ o = 280) (f : fm sRn x y) (h : TR3q9 C w x o T) : TR3q9 C w y o T := TR3_fq9 hO (f _ _ (by unfold sRn; omega)) (fun c k hc => f _ _ (by unfold sRn; omega)) h
/-- one way's trying leaves the other's -/
theorem TR3_atq9 {p : Nat} (hO : o = 260 ∨ o = 280) (hp : p = 260 ∨ p = 280) (ne : ¬ o = p) (f : fm (sAtq9 p) x y) (h : TR3q9 C w x o T) : TR3q9 C w y o T := TR3_fq9 hO (f _ _ (by unfold sAtq9; omega)) (fun c k hc => f _ _ (by unfold sAtq9; omega)) h
end KFR

def sRdq9 (c k : Nat) : Prop := (c = 120 ∧ k = 14) ∨ (180 ≤ c ∧ c < 260) ∨ (300 ≤ c ∧ c < 1000) ∨ (c = 60 ∧ k = 5) ∨ c = 65
def KRdq9 (x y : gd) : Prop := fm sRdq9 x y
section KRX
variable {x y z : gd} {q : kP} {C : gCo} {w n o : Nat} {c : Nat → Nat} {T : gTy}
theorem KR_rfq9 : KRdq9 x x := fm_rf _ _
theorem KR_KFq9 (f : KRdq9 x y) : KF x y := KF_fm f (fun c k q => by unfold sRdq9 at q; omega)
theorem KR_xq9 (e : y.1 = x.1) : KRdq9 x y := fun c k _ => by rw [e]
theorem KRun_rdq9 (f : KRdq9 x y) (hK : CK x C) (hR : RUN y) (r : KRun C w n c x) : KRun C w n c y := by
  obtain ⟨r1, ⟨r2, r3, r4⟩, ⟨r5, r6⟩, r7, r8⟩ := r
  have g : ∀ c k, ¬ sRdq9 c k → y.1 c k = x.1 c k := f
  refine ⟨hR, ⟨KMm_ag (Or.inl rfl) r1.1 hK (g _ _ (by unfold sRdq9; omega)) (g _ _ (by unfold sRdq9; omega)) (g _ _ (by unfold sRdq9; omega)) (fun k hk => g _ _ (by unfold sRdq9; omega)) (fun k => g _ _ (by unfold sRdq9; omega)) r2, r3, kchL_ag (g _ _ (by unfold sRdq9; omega)) (fun c k h => g _ _ (by unfold sRdq9; omega)) r4⟩, ⟨r5, by rw [g _ _ (by unfold sRdq9; omega)]; exact r6⟩, by rw [g _ _ (by unfold sRdq9; omega)]; exact r7, fun k hk => by rw [g 162 k (by unfold sRdq9; omega)]; exact r8 k hk⟩
theorem TR3_rdq9 (hO : o = 260 ∨ o = 280) (f : KRdq9 x y) (h : TR3q9 C w x o T) : TR3q9 C w y o T := by
  have g : ∀ c k, ¬ sRdq9 c k → y.1 c k = x.1 c k := f
  exact TR3_fq9 hO (g _ _ (by unfold sRdq9; omega)) (fun c k hc => g _ _ (by unfold sRdq9; omega)) h
end KRX
section KFR8
variable {G : kG} {q q0 q1 : kP} {d : Nat} {x x0 y z : gd} {o : Nat} {F : Int32 → gd → Prop} {Fv : gd → Prop} {P : Option gv → gd → Prop} {X : String → gd → Prop}
theorem kr_faultq9 (hq : kV q) (hH : HOI x q) (l : Int32) (hO : X iOE x) (hP : ∀ r y, HOI y q → KRdq9 x y → P (some (vi r)) y) : KE G q (d + 6) zk_X11_fault 0 [(0, vr 0), (1, vi l)] [] x P X := by
  have p19 : KE G q (d + 6) zk_X11_fault 19 [(0, vr 0), (1, vi l)] [] x P X := kg_X11_fault_19 hq l ⟨fun _ => hP _ x hH KR_rfq9, fun _ => hP _ x hH KR_rfq9⟩
  exact kg_X11_fault_0 hq l ⟨fun _ => p19, fun _ => ⟨fun _ => p19, fun _ => hO⟩⟩
theorem kr_choiceq9 (hq : kV q) (hH : HOI x q) (l1 l2 : Int32) (hS : X iSE x) (hO : X iOE x) (hP : ∀ r y, HOI y q → KRdq9 x y → P (some (vi r)) y) : KE G q (d + 7) zk_X11_choice 0 [(0, vr 0), (1, vi l1), (2, vi l2)] [] x P X := by
  have here : ∀ r, P (some (vi r)) x := fun r => hP r x hH KR_rfq9
  have hm : kiM q 120 := Or.inl rfl
  refine kg_X11_choice_0 hq l1 l2 (kz_run hq hH hS (fun hR => kz_ix hq l1 _ hO (fun h0 h1 => kz_what hq l2 5 hO ?_)))
  obtain ⟨hM, hL, hJ⟩ := hR
  have b84 := hL.1
  have v84 : vp_in l1 84 := by rw [vp_in_iff]; omega
  obtain ⟨T, e1, e2, e3⟩ := hL.2 l1.toInt.toNat (by omega)
  have hT6 := MM_6 hM.1 e2
  obtain ⟨hA, -⟩ := hM.2.2 T e2
  have e1 : (x.1 131 l1.toInt.toNat).toInt = T := e1
  have e3 : (x.1 132 l1.toInt.toNat = -1 ∧ rg x 120 T 0 = 1) ∨ ∃ J : Nat, (x.1 132 l1.toInt.toNat).toInt = J ∧ (J : Int) < (rg x 120 T 7).toInt := e3
  rw [t_cl]
  refine ⟨v84, v84, fun _ => here _, fun _ => ⟨fun _ => here _, fun _ => here _⟩, fun _ => ⟨fun _ => here _, fun _ => kp_sortOf hq hm hM.1 hM.2.1 _ e1 hT6 hA (fun _ => here _) (fun _ => here _)⟩, fun _ => ⟨fun c => ?_, fun _ => km_objectOf hq hm hM _ e1 e2 (fun r y f _ => hP r y (HOI_run (fm_w f (fun c k => rn_Lk)) (RUN_Lk f ⟨hM, hL, hJ⟩) hH) (fm_w f (fun c k q => by unfold sLk at q; unfold sRdq9; omega)))⟩, fun _ => ⟨v84, here _⟩⟩
  rcases e3 with e | ⟨J, ej, hJ7⟩
  · exact absurd e.1 c
  · exact kp_lateCell hq hm hM.1 hM.2.1 _ _ e1 hT6 ej (by have := hA.2.1; omega) (here _)
theorem kr_runqq9 (hq : kV q) (hH : HOI x q) (l : Int32) (hS : X iSE x) (hO : X iOE x) (hP : ∀ r y, HOI y q → KRdq9 x y → P (some (vi r)) y) : KE G q (d + 7) zk_X11_run 0 [(0, vr 0), (1, vi l)] [] x P X := by
  have here : ∀ r, P (some (vi r)) x := fun r => hP r x hH KR_rfq9
  have hm : kiM q 120 := Or.inl rfl
  exact kg_X11_run_0 hq l (kz_run hq hH hS (fun hR => kz_what hq l 8 hO ⟨fun _ => here _, fun _ => here _, fun _ => here _, fun _ => ⟨fun _ => here _, fun _ => here _⟩, fun _ => km_isStuck hq hm hR.1 (fun r => ⟨fun _ => here _, fun _ => here _⟩), fun _ => kj_races hq hR.2.2 (fun r => here r), fun _ => here _, fun _ => km_allLate hq hm hR.1 (fun r => here r)⟩))
theorem kr_cellq9 (hq : kV q) (hH : HOI x q) (l : Int32) (hS : X iSE x) (hO : X iOE x) (hP : ∀ r y, HOI y q → KRdq9 x y → P (some (vi r)) y) : KE G q (d + 7) zk_X11_cell 0 [(0, vr 0), (1, vi l)] [] x P X :=
  kg_X11_cell_0 hq l (kz_run hq hH hS (fun hR => kz_ix hq l _ hO (fun h0 h1 => ⟨by have := hR.1.1.1.1; rw [vp_in_iff]; omega, hP _ x hH KR_rfq9⟩)))
theorem kr_seenq9 (hq : kV q) (hH : HOI x q) (l1 l2 : Int32) (hS : X iSE x) (hO : X iOE x) (hP : ∀ r y, HOI y q → KRdq9 x y → P (some (vi r)) y) : KE G q (d + 7) zk_X11_seen 0 [(0, vr 0), (1, vi l1), (2, vi l2)] [] x P X := by
  have hm : kiM q 120 := Or.inl rfl
  refine kg_X11_seen_0 hq l1 l2 (kz_run hq hH hS (fun hR => kz_ix hq l1 _ hO (fun h0 h1 => kz_ix hq l2 _ hO (fun g0 g1 => ?_))))
  have hT : ((l1.toInt.toNat : Nat) : Int) < (x.1 60 10).toInt := by omega
  exact kp_seenBy hq hm hR.1.1 hR.1.2.1 l1 l2 (T := l1.toInt.toNat) (by omega) (MM_6 hR.1.1 hT) (hR.1.2.2 _ hT).1 (by have := hR.1.1.1.1; omega) (fun r => hP r x hH KR_rfq9)
theorem kr_lockq9 (hq : kV q) (hH : HOI x q) (l1 l2 : Int32) (hS : X iSE x) (hO : X iOE x) (hP : ∀ r y, HOI y q → KRdq9 x y → P (some (vi r)) y) : KE G q (d + 7) zk_X11_lock 0 [(0, vr 0), (1, vi l1), (2, vi l2)] [] x P X := by
  have hm : kiM q 120 := Or.inl rfl
  exact kg_X11_lock_0 hq l1 l2 (kz_run hq hH hS (fun hR => kz_ix hq l1 _ hO (fun h0 h1 => kz_what hq l2 3 hO ⟨fun _ => kp_holder hq hm hR.1.1 hR.1.2.1 l1 h0 h1 (fun r => hP r x hH KR_rfq9), fun _ => kp_often hq hm hR.1.1 hR.1.2.1 l1 h0 h1 (fun r => hP r x hH KR_rfq9), fun _ => kp_waiters hq hm hR.1.1 hR.1.2.1 l1 (fun r r14 => hP r14 x hH KR_rfq9)⟩)))
theorem kr_threadq9 (hq : kV q) (hH : HOI x q) (l1 l2 : Int32) (hS : X iSE x) (hO : X iOE x) (hP : ∀ r y, HOI y q → KRdq9 x y → P (some (vi r)) y) : KE G q (d + 7) zk_X11_thread 0 [(0, vr 0), (1, vi l1), (2, vi l2)] [] x P X := by
  have hm : kiM q 120 := Or.inl rfl
  refine kg_X11_thread_0 hq l1 l2 (kz_run hq hH hS (fun hR => kz_ix hq l1 _ hO (fun h0 h1 => kz_what hq l2 5 hO ?_)))
  have hT : ((l1.toInt.toNat : Nat) : Int) < (x.1 60 10).toInt := by omega
  have eT : l1.toInt = ((l1.toInt.toNat : Nat) : Int) := by omega
  have hT6 := MM_6 hR.1.1 hT
  have hA := (hR.1.2.2 _ hT).1
  exact ⟨fun _ => kp_get hq hm hR.1.1 hR.1.2.1 l1 0 (K := 0) eT rfl hT6 (by omega) (hP _ x hH KR_rfq9), fun _ => kp_get hq hm hR.1.1 hR.1.2.1 l1 1 (K := 1) eT rfl hT6 (by omega) (hP _ x hH KR_rfq9), fun _ => kp_get hq hm hR.1.1 hR.1.2.1 l1 7 (K := 7) eT rfl hT6 (by omega) (hP _ x hH KR_rfq9), fun _ => kp_known hq hm hR.1.1 hR.1.2.1 l1 eT hT6 hA (fun r _ _ => hP r x hH KR_rfq9), fun _ => kp_lineOf hq hm hR.1.1 hR.1.2.1 l1 eT hT6 hA (fun r => hP r x hH KR_rfq9)⟩
theorem kr_localq9 (hq : kV q) (hH : HOI x q) (l1 l2 : Int32) (hS : X iSE x) (hO : X iOE x) (hP : ∀ r y, HOI y q → KRdq9 x y → P (some (vi r)) y) : KE G q (d + 7) zk_X11_local 0 [(0, vr 0), (1, vi l1), (2, vi l2)] [] x P X := by
  have hm : kiM q 120 := Or.inl rfl
  have k8 : (8 : Int32).toInt = 8 := rfl
  refine kg_X11_local_0 hq l1 l2 (kz_run hq hH hS (fun hR => kz_ix hq l1 _ hO (fun h0 h1 => ?_)))
  have hT : ((l1.toInt.toNat : Nat) : Int) < (x.1 60 10).toInt := by omega
  have eT : l1.toInt = ((l1.toInt.toNat : Nat) : Int) := by omega
  have hT6 := MM_6 hR.1.1 hT
  have hA := (hR.1.2.2 _ hT).1
  refine kp_known hq hm hR.1.1 hR.1.2.1 l1 eT hT6 hA (fun r r0 r8 => kz_ix hq l2 r hO (fun g0 g1 => kp_get hq hm hR.1.1 hR.1.2.1 l1 (8 + l2) (K := 8 + l2.toInt.toNat) eT ?_ hT6 (by omega) (hP _ x hH KR_rfq9)))
  rw [t_add (by rw [k8]; omega) (by rw [k8]; omega), k8]; omega
theorem kr_actq9 (hq : kV q) (hH : HOI x q) (l1 l2 : Int32) (hS : X iSE x) (hO : X iOE x) (hP : ∀ r y, HOI y q → KRdq9 x y → P (some (vi r)) y) : KE G q (d + 7) zk_X11_act 0 [(0, vr 0), (1, vi l1), (2, vi l2)] [] x P X := by
  have here : ∀ r, P (some (vi r)) x := fun r => hP r x hH KR_rfq9
  refine kg_X11_act_0 hq l1 l2 (kz_run hq hH hS (fun hR => kz_ix hq l1 _ hO (fun h0 h1 => kz_what hq l2 5 hO ?_)))
  have v : vp_in l1 400 := by have := hR.2.2.1; rw [vp_in_iff]; omega
  exact ⟨fun _ => ⟨v, here _⟩, fun _ => ⟨v, here _⟩, fun _ => ⟨v, here _⟩, fun _ => ⟨v, here _⟩, fun _ => ⟨v, here _⟩⟩
theorem kr_beforeq9 (hq : kV q) (hH : HOI x q) (l1 l2 : Int32) (hS : X iSE x) (hO : X iOE x) (hP : ∀ r y, gbool r → HOI y q → KRdq9 x y → P (some (vi r)) y) : KE G q (d + 7) zk_X11_before 0 [(0, vr 0), (1, vi l1), (2, vi l2)] [] x P X := by
  exact kg_X11_before_0 hq l1 l2 (kz_run hq hH hS (fun hR => kz_ix hq l1 _ hO (fun h0 h1 => kz_ix hq l2 _ hO (fun g0 g1 => kj_isBefore hq hR.2.2 l1 l2 (A := l1.toInt.toNat) (B := l2.toInt.toNat) (by omega) (by omega) (by omega) (by omega) (fun r gr => ⟨gr, hP r x gr hH KR_rfq9⟩)))))
theorem kr_raceq9 (hq : kV q) (hH : HOI x q) (l1 l2 : Int32) (hS : X iSE x) (hO : X iOE x) (hP : ∀ r y, HOI y q → KRdq9 x y → P (some (vi r)) y) : KE G q (d + 7) zk_X11_race 0 [(0, vr 0), (1, vi l1), (2, vi l2)] [] x P X :=
  kg_X11_race_0 hq l1 l2 (kz_run hq hH hS (fun hR => kj_races hq hR.2.2 (fun r => kz_ix hq l1 _ hO (fun h0 h1 => kz_what hq l2 2 hO (kj_laterOfRace hq hR.2.2 l1 (fun r7 hr7 => ⟨fun _ => kj_earlierOfRace hq hR.2.2 l1 r7 hr7 (fun r => hP r x hH KR_rfq9), fun _ => hP _ x hH KR_rfq9⟩))))))
theorem kr_triedq9 (hq : kV q) (hH : HOI x q) (l1 l2 : Int32) (hA : X iAE x) (hO : X iOE x) (hP : ∀ r y, HOI y q → KRdq9 x y → P (some (vi r)) y) : KE G q (d + 7) zk_X11_tried 0 [(0, vr 0), (1, vi l1), (2, vi l2)] [] x P X := by
  have here : ∀ r, P (some (vi r)) x := fun r => hP r x hH KR_rfq9
  exact kg_X11_tried_0 hq l1 l2 (kz_way hq l1 hA (fun hw => kz_what hq l2 6 hO (kz_was hq hH l1 hw ⟨fun c => absurd rfl c, fun _ => here _⟩ (fun o e7 ho hz ht hC hp => ⟨fun _ => ⟨way_in hw, fun u7 e => ⟨o, by rw [e, e7], ho, fun _ => here _, fun _ => ⟨fun _ => here _, fun _ => here _⟩, fun _ => here _, fun _ => here _, fun _ => here _, fun _ => here _⟩⟩, fun _ => here _⟩))))
theorem kr_outcomeq9 (hq : kV q) (hH : HOI x q) (l1 l2 l3 : Int32) (hA : X iAE x) (hO : X iOE x) (hP : ∀ r y, HOI y q → KRdq9 x y → P (some (vi r)) y) : KE G q (d + 7) zk_X11_outcome 0 [(0, vr 0), (1, vi l1), (2, vi l2), (3, vi l3)] [] x P X := by
  have here : ∀ r, P (some (vi r)) x := fun r => hP r x hH KR_rfq9
  have k0 : (0 : Int32).toInt = 0 := rfl
  refine kg_X11_outcome_0 hq l1 l2 l3 (kz_way hq l1 hA (fun hw => kz_was hq hH l1 hw ⟨fun _ => kg_X11_outcome_26 hq l1 l2 l3 _ _ (kz_ix hq l2 0 hO (fun h0 h1 => ?_)), fun c => absurd rfl c⟩ (fun o e7 ho hz ht hC hp => ⟨fun c => absurd c (by decide), fun _ => ⟨way_in hw, fun u6 e6 => ⟨o, by rw [e6, e7], ho, kg_X11_outcome_26 hq l1 l2 l3 _ _ (kz_ix hq l2 _ hO (fun h0 h1 => kz_ix hq l3 _ hO (fun g0 g1 => ⟨way_in hw, fun u4 e4 => ⟨o, by rw [e4, e7], ho, kt_valueOfq9 hq ho l2 l3 ht ⟨h0, h1⟩ (by have := hC.1.1; omega) (fun r => here r)⟩⟩)))⟩⟩⟩)))
  rw [k0] at h1; omega
theorem kr_findingq9 (hq : kV q) (hH : HOI x q) (l1 l2 : Int32) (hA : X iAE x) (hP : ∀ r y, HOI y q → KRdq9 x y → P (some (vi r)) y) : KE G q (d + 7) zk_X11_finding 0 [(0, vr 0), (1, vi l1), (2, vi l2)] [] x P X := by
  have here : ∀ r, P (some (vi r)) x := fun r => hP r x hH KR_rfq9
  refine kg_X11_finding_0 hq l1 l2 (kz_way hq l1 hA (fun hw => kz_fnd hq l2 hA (fun h0 h1 => kz_first hq hH l1 l2 hw h0 h1 ⟨fun c => absurd rfl c, fun _ => here _⟩ (fun r o e7 ho hz hC hr => ⟨fun c => ⟨way_in hw, fun u7 e => ⟨o, by rw [e, e7], ho, ?_, here _⟩⟩, fun _ => here _⟩))))
  rcases hr with e | e
  · exact absurd e c
  · have := hz.1; rw [vp_in_iff]; omega
theorem kr_commonq9 (hq : kV q) (hH : HOI x q) (l1 l2 : Int32) (hA : X iAE x) (hO : X iOE x) (hP : ∀ r y, HOI y q → KRdq9 x y → P (some (vi r)) y) : KE G q (d + 7) zk_X11_common 0 [(0, vr 0), (1, vi l1), (2, vi l2)] [] x P X := by
  have here : ∀ r, P (some (vi r)) x := fun r => hP r x hH KR_rfq9
  refine kg_X11_common_0 hq l1 l2 (kz_way hq l1 hA (fun hw => ?_))
  have p23 : ∀ s0 : Int32, s0.toInt ≤ 24 → KE G q (d + 7) zk_X11_common 23 [(0, vr 0), (1, vi l1), (2, vi l2)] [vi s0, vi l2] x P X := fun s0 hs0 => kg_X11_common_23 hq l1 l2 s0 l2 (kz_ix hq l2 s0 hO (fun g0 g1 => kz_was hq hH l1 hw ⟨fun _ => here _, fun c => absurd rfl c⟩ (fun o e7 ho hz ht hC hp => ⟨fun c => absurd c (by decide), fun _ => ⟨way_in hw, fun u6 e6 => ⟨o, by rw [e6, e7], ho, by rw [vp_in_iff]; omega, here _⟩⟩⟩)))
  exact ⟨fun _ => p23 _ (by decide), fun c => p23 _ (hH.2.1 c).1.1.2⟩
theorem kr_ringq9 (hq : kV q) (hH : HOI x q) (l1 : Int32) (hA : X iAE x) (hP : ∀ r y, HOI y q → KRdq9 x y → P (some (vi r)) y) : KE G q (d + 7) zk_X11_ring 0 [(0, vr 0), (1, vi l1)] [] x P X := by
  have here : ∀ r, P (some (vi r)) x := fun r => hP r x hH KR_rfq9
  exact kg_X11_ring_0 hq l1 (kz_way hq l1 hA (fun hw => kz_was hq hH l1 hw ⟨fun _ => here _, fun c => absurd rfl c⟩ (fun o e7 ho hz ht hC hp => ⟨fun c => absurd c (by decide), fun _ => ⟨way_in hw, fun u6 e6 => ⟨o, by rw [e6, e7], ho, kt_ring hq ho (fun r => here r)⟩⟩⟩)))
theorem kr_alikeq9 (hq : kV q) (hH : HOI x q) (hP : ∀ r y, HOI y q → KRdq9 x y → P (some (vi r)) y) : KT G q (d + 2) zk_X11_alike 0 [(0, vr 0)] [] x P := by
  have here : ∀ r, P (some (vi r)) x := fun r => hP r x hH KR_rfq9
  refine kg_X11_alike_0 hq (kz_was hq hH 0 (Or.inl rfl) ⟨fun _ => here _, fun c => absurd rfl c⟩ (fun o e0 ho hz ht hC hp => ⟨fun c => absurd c (by decide), fun _ => kz_was hq hH 1 (Or.inr rfl) ⟨fun _ => here _, fun c => absurd rfl c⟩ (fun o2 e1 ho2 hz2 ht2 hC2 hp2 => ⟨fun c => absurd c (by decide), fun _ => ⟨way_in (Or.inl rfl), fun u8 e8 => ⟨o, by rw [e8, e0], ho, fun _ => here _, fun _ => ⟨way_in (Or.inr rfl), fun u13 e13 => ⟨o2, by rw [e13, e1], ho2, fun _ => ⟨way_in (Or.inl rfl), fun u18 e18 => ⟨way_in (Or.inr rfl), fun u20 e20 => ⟨o2, by rw [e20, e1], ho2, o, by rw [e18, e0], ho, ?_⟩⟩⟩, fun _ => here _⟩⟩⟩⟩⟩)⟩))
  exact kt_sameq9 hq ho ho2 _ hC.1.1.2 ht ht2 (fun r _ => ⟨fun _ => here _, fun _ => here _⟩)
end KFR8
section KFR9
variable {G : kG} {q q0 q1 : kP} {d : Nat} {x x0 y z : gd} {o : Nat} {P : Option gv → gd → kP → Prop} {X : String → gd → kP → Prop}
theorem kr_linearq9 (hu : kU q) (hH : HOI x q) (l : Int32) (hS : X iSE x q) (hA : X iAE x q) (hP : ∀ r y q1, kU q1 → kle q q1 → HOI y q1 → KRdq9 x y → P (some (vi r)) y q1) : KM G q (d + 18) zk_X11_linear 0 [(0, vr 0), (1, vi l)] [] x P X := by
  have p56 : ∀ (q1 : kP) (y : gd), kU q1 → kle q q1 → HOI y q1 → JN y → q1.hi = true → KRdq9 x y → KM G q1 (d + 18) zk_X11_linear 56 [(0, vr 0), (1, vi l)] [] y P X := by
    intro q1 y hu1 hl1 hH1 hJ hh el
    refine kg_X11_linear_56 (d := d + 11) hu1 l (fun u1 e1 => ⟨by rw [e1, k08_t hh], hh, kh_take (d := d + 16) hu1.1 hh hJ (fun z fz hc u3 e3 => ⟨by rw [e3, k08_t hh], hh, kh_fewest hu1.1 hh l hc.1 (fun r w fw => ?_)⟩)⟩)
    have f : fm sNwq9 y w := fm_tr (fm_w fz (fun c k q => by unfold sHi at q; unfold sNwq9; omega)) (fm_w fw (fun c k q => by unfold sHl at q; unfold sNwq9; omega))
    have hw := HOI_mkq9 (kle_rf q1) hu1 f hH1
    have e20 : KRdq9 x w := fm_tr el (fm_w f (fun c k q => by unfold sNwq9 at q; unfold sRdq9; omega))
    exact ⟨fun _ => hP _ w q1 hu1 hl1 hw e20, fun _ => hP _ w q1 hu1 hl1 hw e20⟩
  refine kg_X11_linear_0 (d := d + 11) hu l (kz_run hu.1 hH hS (fun hR => ⟨fun _ => kg_X11_linear_13 hu hA, fun _ => ⟨fun _ => ⟨fun _ u5 e5 => ⟨fun hn => ⟨k08_n (by rw [← e5, hn]), fun q8 x9 e8 e9 hu8 hl8 => ?_⟩, fun c7 h7 => p56 q x hu (kle_rf q) hH hR.2.2 (k08_s (e5.symm.trans h7)) KR_rfq9⟩, fun _ => hP _ x q hu (kle_rf q) hH KR_rfq9⟩, fun _ => kg_X11_linear_13 hu hA⟩⟩))
  have f9 : fm sNwq9 x x9 := by
    rw [e9]
    refine fm_new (fun c hc k => ?_)
    have := (by decide +kernel : ∀ c ∈ 180 :: ops_180.flatMap xtch, (180 ≤ c ∧ c < 260) ∨ (300 ≤ c ∧ c < 1000)) c hc
    exact this
  exact p56 q8 x9 hu8 hl8 (HOI_mkq9 hl8 hu8 f9 hH) (JN_o (fun c k a b => f9 c k (by unfold sNwq9; omega)) hR.2.2) (by rw [e8]; rfl) (fm_w f9 (fun c k q => by unfold sNwq9 at q; unfold sRdq9; omega))
end KFR9

def TRwq9 (C : gCo) (lm : Nat → Nat) (x w : gd) : Prop := ∀ wn, (wn = 0 ∨ wn = 1) → (x.1 (260 + 20 * wn) 0 = 0 ∧ w.1 119 wn = 0) ∨ (¬ x.1 (260 + 20 * wn) 0 = 0 ∧ ¬ w.1 119 wn = 0 ∧ TR3q9 C wn x (260 + 20 * wn) (tryM C wn (lm wn)) ∧ TYcq9 C wn w (tryM C wn (lm wn)))
def JHq9 (C : gCo) (wr n : Nat) (lm : Nat → Nat) (x w : gd) : Prop := TXs x w ∧ (((x.1 0 9 = 0 ∧ w.1 0 66 = 0 ∧ z5 w) ∧ ZR x ∧ ZM w ∧ C = ([], [], [], [], [])) ∨ (JC C x w ∧ RNw C wr n x w ∧ TRwq9 C lm x w))
def JR3q9 (x w : gd) : Prop := ∃ (C : gCo) (wr n : Nat) (lm : Nat → Nat), JHq9 C wr n lm x w
section JN3
variable {C : gCo} {wr n : Nat} {lm : Nat → Nat} {x y w w' : gd} {q : kP} {l l1 l2 : Int32}
theorem JH_gcq9 (h : JHq9 C wr n lm x w) (hH : HOI x q) : GC C ∧ NX3 C := by
  obtain ⟨-, ⟨-, -, -, e⟩ | ⟨j, -, -⟩⟩ := h
  · rw [e]; exact ⟨GC_0, NX3_0⟩
  · have := JC_C (hH.2.1 j.1.1) j
    exact ⟨this.1, this.2.1⟩
theorem JH_9q9 (h : JHq9 C wr n lm x w) : x.1 0 9 = 0 ↔ w.1 0 66 = 0 := by
  obtain ⟨-, ⟨a, -⟩ | ⟨j, -⟩⟩ := h
  · exact ⟨fun _ => a.2.1, fun _ => a.1⟩
  · exact ⟨fun z => absurd z j.1.1, fun z => absurd (z.symm.trans j.1.2.1) (by decide)⟩
theorem JH_10q9 (h : JHq9 C wr n lm x w) : x.1 0 10 = 0 ↔ w.1 0 67 = 0 := by
  obtain ⟨-, ⟨-, z, m, -⟩ | ⟨-, r, -⟩⟩ := h
  · exact ⟨fun _ => m.1, fun _ => z.1⟩
  · rcases r with ⟨a, b⟩ | ⟨a, b, -⟩
    · exact ⟨fun _ => b, fun _ => a⟩
    · exact ⟨fun z => absurd z a, fun z => absurd z b⟩
theorem JH_Kq9 (h : JHq9 C wr n lm x w) (h9 : ¬ x.1 0 9 = 0) : JC C x w := by
  obtain ⟨-, ⟨a, -⟩ | ⟨j, -⟩⟩ := h
  · exact absurd a.1 h9
  · exact j
theorem JH_Rq9 (h : JHq9 C wr n lm x w) (h10 : ¬ x.1 0 10 = 0) : JC C x w ∧ KRun C wr n (c96 w) x ∧ HistC C wr w ∧ (w.1 0 94).toInt = (n : Nat) := by
  obtain ⟨-, ⟨-, z, -⟩ | ⟨j, r, -⟩⟩ := h
  · exact absurd z.1 h10
  · rcases r with ⟨a, -⟩ | ⟨-, -, r⟩
    · exact absurd a h10
    · exact ⟨j, r⟩
/-- as many choices -/
theorem JH_84q9 (h : JHq9 C wr n lm x w) (h10 : ¬ x.1 0 10 = 0) : x.1 120 13 = w.1 0 84 := by
  obtain ⟨-, r, hh, e94⟩ := JH_Rq9 h h10
  have e1 : (x.1 120 13).toInt = ((chM C wr (runM C wr (c96 w) n)).length : Nat) := r.2.1.2.2.1
  have e2 := HistC_n hh
  have en : (w.1 0 94).toInt.toNat = n := by rw [e94]; rfl
  rw [en] at e2
  rw [t_eq, e1, e2]
theorem JH_Tq9 (h : JHq9 C wr n lm x w) : ∀ wn, (wn = 0 ∨ wn = 1) → (x.1 (260 + 20 * wn) 0 = 0 ↔ w.1 119 wn = 0) ∧ (¬ x.1 (260 + 20 * wn) 0 = 0 → JC C x w ∧ TR3q9 C wn x (260 + 20 * wn) (tryM C wn (lm wn)) ∧ TYcq9 C wn w (tryM C wn (lm wn))) := by
  intro wn w01
  obtain ⟨-, ⟨-, z, m, -⟩ | ⟨j, -, t⟩⟩ := h
  · have e1 := z.2 (260 + 20 * wn) (by omega)
    have e2 : w.1 119 wn = 0 := by rcases w01 with e | e <;> rw [e]; exact m.2.1; exact m.2.2
    exact ⟨⟨fun _ => e2, fun _ => e1⟩, fun z9 => absurd e1 z9⟩
  · rcases t wn w01 with ⟨a, b⟩ | ⟨a, b, c⟩
    · exact ⟨⟨fun _ => b, fun _ => a⟩, fun z9 => absurd a z9⟩
    · exact ⟨⟨fun z9 => absurd z9 a, fun z9 => absurd z9 b⟩, fun _ => ⟨j, c⟩⟩
/-- calls that only look -/
theorem JQ_rdq9 (h : JHq9 C wr n lm x w) (hH : HOI y q) (k : KRdq9 x y) (m : rdMq9 C wr w w') : JR3q9 y w' := by
  have g : ∀ c k, ¬ sRdq9 c k → y.1 c k = x.1 c k := k
  have kf := KR_KFq9 k
  obtain ⟨p, ⟨m67, m94, m96⟩, m119, mh, mt⟩ := m
  have e10 : y.1 0 10 = x.1 0 10 := g _ _ (by unfold sRdq9; omega)
  have eo : ∀ o, (o = 260 ∨ o = 280) → y.1 o 0 = x.1 o 0 := fun o hO => g _ _ (by unfold sRdq9; omega)
  have ec : c96 w' = c96 w := by unfold c96; rw [m96]
  refine ⟨C, wr, n, lm, TXs_k h.1 kf p, ?_⟩
  rcases h.2 with ⟨⟨a1, a2, a3⟩, z, m, e⟩ | ⟨j, r, t⟩
  · refine Or.inl ⟨⟨by rw [kf.2.1]; exact a1, ?_, z5_k a3 p⟩, ⟨by rw [e10]; exact z.1, fun o hO => by rw [eo o hO]; exact z.2 o hO⟩, ⟨by rw [m67]; exact m.1, by rw [m119]; exact m.2.1, by rw [m119]; exact m.2.2⟩, e⟩
    rw [p.2.2.1 66 (by decide)]; exact a2
  · refine Or.inr ⟨JC_k j kf p, ?_, fun wn w01 => ?_⟩
    · rcases r with ⟨r1, r2⟩ | ⟨r1, r2, r3, r4, r5⟩
      · exact Or.inl ⟨by rw [e10]; exact r1, by rw [m67]; exact r2⟩
      · have y10 : ¬ y.1 0 10 = 0 := by rw [e10]; exact r1
        exact Or.inr ⟨y10, by rw [m67]; exact r2, by rw [ec]; exact KRun_rdq9 k j.2.1 (hH.2.2.1 y10) r3, mh r4, by rw [m94]; exact r5⟩
    · rcases t wn w01 with ⟨t1, t2⟩ | ⟨t1, t2, t3, t4⟩
      · exact Or.inl ⟨by rw [eo _ (by omega)]; exact t1, by rw [m119]; exact t2⟩
      · exact Or.inr ⟨by rw [eo _ (by omega)]; exact t1, by rw [m119]; exact t2, TR3_rdq9 (by omega) k t3, mt wn _ t4⟩
/-- calls that make a run, or do choices -/
theorem JQ_runq9 {wr' n' : Nat} (h : JHq9 C wr n lm x w) (h9 : ¬ x.1 0 9 = 0) (f : fm sRn x y) (p : PM w w') (e119 : w'.1 119 = w.1 119) (ty : ∀ wn T, TYcq9 C wn w T → TYcq9 C wn w' T) (r : KRun C wr' n' (c96 w') y) (h10 : ¬ y.1 0 10 = 0) (hh : HistC C wr' w') (h67 : ¬ w'.1 0 67 = 0) (h94 : (w'.1 0 94).toInt = (n' : Nat)) : JR3q9 y w' := by
  have kf := rn_20 f
  have eo : ∀ o, (o = 260 ∨ o = 280) → y.1 o 0 = x.1 o 0 := fun o hO => f _ _ (by unfold sRn; omega)
  refine ⟨C, wr', n', lm, TXs_k h.1 kf p, Or.inr ?_⟩
  rcases h.2 with ⟨⟨a1, -⟩, -⟩ | ⟨j, -, t⟩
  · exact absurd a1 h9
  · refine ⟨JC_k j kf p, Or.inr ⟨h10, h67, r, hh, h94⟩, fun wn w01 => ?_⟩
    rcases t wn w01 with ⟨t1, t2⟩ | ⟨t1, t2, t3, t4⟩
    · exact Or.inl ⟨by rw [eo _ (by omega)]; exact t1, by rw [e119]; exact t2⟩
    · exact Or.inr ⟨by rw [eo _ (by omega)]; exact t1, by rw [e119]; exact t2, TR3_rnq9 (by omega) f t3, ty wn _ t4⟩
/-- what the model's calls leave: refused, or a run -/
def rnMq9 (C : gCo) (wr n : Nat) (w w' : gd) : Prop := PM w w' ∧ w'.1 119 = w.1 119 ∧ (∀ wn T, TYcq9 C wn w T → TYcq9 C wn w' T) ∧ HistC C wr w' ∧ ¬ w'.1 0 67 = 0 ∧ (w'.1 0 94).toInt = (n : Nat)
theorem rnM_ofq9 {L A : List Nat} {wr' n' : Nat} (m : mi L A w w') (hL : [24].all (fun k => !L.elem k) = true) (hA : [119, 120, 126, 130, 131, 132, 121, 122, 123, 124, 125, 127, 128, 129].all (fun k => !A.elem k) = true) (p : PM w w') (hh : HistC C wr' w') (h67 : ¬ w'.1 0 67 = 0) (h94 : (w'.1 0 94).toInt = (n' : Nat)) : rnMq9 C wr' n' w w' := ⟨p, m.2 119 (by decide) (all_no hA 119 (by decide)), fun wn T h => TYc_miq9 m hL (all_sub hA rfl) h, hh, h67, h94⟩
def ansKq9 (E1 E2 : Prop) (S : Int32 → gd → Prop) (x : gd) (r9 : Int32) (y : gd) : Prop := (E1 ∧ r9 = 1 ∧ KRdq9 x y) ∨ (E2 ∧ r9 = 2 ∧ KRdq9 x y) ∨ (¬ E1 ∧ ¬ E2 ∧ r9 = 0 ∧ ∃ r : Int32, y.2 299 (0 : Int32).toNatClampNeg = r.toInt64 ∧ S r y)
def ansMq9 (C : gCo) (wr : Nat) (E1 E2 : Prop) (S : Int32 → gd → Prop) (w : gd) (r : Int32) (w' : gd) : Prop := MI w' ∧ ((E1 ∧ w'.1 0 0 = 1 ∧ rdMq9 C wr w w') ∨ (E2 ∧ w'.1 0 0 = 2 ∧ rdMq9 C wr w w') ∨ (¬ E1 ∧ ¬ E2 ∧ w'.1 0 0 = 0 ∧ S r w'))
theorem ans_eqq9 {E1 E2 E1' E2' : Prop} {S S' : Int32 → gd → Prop} {r9 r : Int32} (h : JHq9 C wr n lm x w) (hH : HOI y q) (e1 : E1 ↔ E1') (e2 : E2 ↔ E2') (e3 : E1 → ¬ E2) (k : ansKq9 E1 E2 S x r9 y) (m : ansMq9 C wr E1' E2' S' w r w') (js : ¬ E1 → ¬ E2 → ∀ r', S r' y → S' r w' → JR3q9 y w' ∧ r' = r) : JR3q9 y w' ∧ ansE r9 r y w' := by
  obtain ⟨-, m⟩ := m
  rcases k with ⟨k1, k2, k3⟩ | ⟨k1, k2, k3⟩ | ⟨k1, k2, k3, r', k4, k5⟩
  · rcases m with ⟨m1, m2, m3⟩ | ⟨m1, m2, m3⟩ | ⟨m1, m2, m3, m4⟩
    · exact ⟨JQ_rdq9 h hH k3 m3, Or.inr ⟨by rw [k2]; decide, by rw [m2, k2]⟩⟩
    · exact absurd (e2.mpr m1) (e3 k1)
    · exact absurd (e1.mp k1) m1
  · rcases m with ⟨m1, m2, m3⟩ | ⟨m1, m2, m3⟩ | ⟨m1, m2, m3, m4⟩
    · exact absurd k1 (e3 (e1.mpr m1))
    · exact ⟨JQ_rdq9 h hH k3 m3, Or.inr ⟨by rw [k2]; decide, by rw [m2, k2]⟩⟩
    · exact absurd (e2.mp k1) m2
  · rcases m with ⟨m1, m2, m3⟩ | ⟨m1, m2, m3⟩ | ⟨m1, m2, m3, m4⟩
    · exact absurd (e1.mpr m1) k1
    · exact absurd (e2.mpr m1) k2
    · obtain ⟨j1, j2⟩ := js k1 k2 r' k5 m4
      exact ⟨j1, Or.inl ⟨k3, m3, by rw [k4, j2]⟩⟩
theorem JR3_84q9 (h : JR3q9 y w') (h10 : ¬ y.1 0 10 = 0) : y.1 120 13 = w'.1 0 84 := by
  obtain ⟨C, wr, n, lm, h⟩ := h
  exact JH_84q9 h h10
theorem JR3_94q9 (h : JR3q9 y w') (h10 : ¬ y.1 0 10 = 0) : y.1 160 2 = w'.1 0 94 := by
  obtain ⟨C, wr, n, lm, h⟩ := h
  obtain ⟨-, r, -, e⟩ := JH_Rq9 h h10
  rw [t_eq, e]
  exact r.2.2.2.1
def sChq9 (x : gd) (r : Int32) (y : gd) : Prop := r = x.1 120 13 ∧ KRdq9 x y
def tChq9 (C : gCo) (wr : Nat) (w : gd) (r : Int32) (w' : gd) : Prop := r = w.1 0 84 ∧ rdMq9 C wr w w'
theorem ja_choicesq9 {r9 r : Int32} (h : JHq9 C wr n lm x w) (hH : HOI y q) (k : ansKq9 (e1Ch x) False (sChq9 x) x r9 y) (m : ansMq9 C wr (f1Ch w) False (tChq9 C wr w) w r w') : JR3q9 y w' ∧ ansE r9 r y w' :=
  ans_eqq9 h hH (JH_10q9 h) Iff.rfl (fun _ z => z) k m (fun c _ r' s t => ⟨JQ_rdq9 h hH s.2 t.2, by rw [s.1, t.1, JH_84q9 h c]⟩)
def tBgq9 (C : gCo) (w : gd) (l r : Int32) (w' : gd) : Prop := r = w'.1 0 84 ∧ ∃ wn : Nat, (wn = 0 ∨ wn = 1) ∧ l = Int32.ofNat wn ∧ rnMq9 C wn 0 w w'
theorem ja_beginq9 {r9 r : Int32} (h : JHq9 C wr n lm x w) (hH : HOI y q) (k : ansKq9 (e1Bg x) (e2Bg x l) (sBg C x l) x r9 y) (m : ansMq9 C wr (f1Bg w) (f2Bg w l) (tBgq9 C w l) w r w') : JR3q9 y w' ∧ ansE r9 r y w' := by
  have e9 := JH_9q9 h
  refine ans_eqq9 h hH e9 ⟨fun z => ⟨fun a => z.1 (e9.mpr a), z.2⟩, fun z => ⟨fun a => z.1 (e9.mp a), z.2⟩⟩ (fun a z => z.1 a) k m (fun c _ r' s t => ?_)
  obtain ⟨s1, wn, k2, k3, k4, k5, k6⟩ := s
  obtain ⟨t1, wn', m2, m3, m4⟩ := t
  have e := wn_eq m2 k2 m3 k3
  subst e
  obtain ⟨p, e119, ty, hh, h67, h94⟩ := m4
  have y10 : ¬ y.1 0 10 = 0 := by rw [k6]; decide
  have j := JQ_runq9 h c k4 p e119 ty (k5 _) y10 hh h67 h94
  exact ⟨j, by rw [s1, t1, JR3_84q9 j y10]⟩
def tGoq9 (C : gCo) (wr n : Nat) (w : gd) (l r : Int32) (w' : gd) : Prop := r = w'.1 0 84 ∧ rnMq9 C wr (n + 1) w w' ∧ c96 w' n = l.toNatClampNeg ∧ rwE (c96 w') (c96 w) n
theorem ja_goq9 {r9 r : Int32} (h : JHq9 C wr n lm x w) (hH : HOI y q) (k : ansKq9 (e1Go n x) (e2Go n x l) (sGo C wr n (c96 w) x l) x r9 y) (m : ansMq9 C wr (f1Go w) (f2Go w l) (tGoq9 C wr n w l) w r w') : JR3q9 y w' ∧ ansE r9 r y w' := by
  have co : okGo n x ↔ okGm w := by
    by_cases c : x.1 0 10 = 0
    · exact ⟨fun z => absurd c z.1, fun z => absurd ((JH_10q9 h).mp c) z.1⟩
    · have e94 := (JH_Rq9 h c).2.2.2
      have c' : ¬ w.1 0 67 = 0 := fun z => c ((JH_10q9 h).mpr z)
      exact ⟨fun z => ⟨c', by have := z.2; omega⟩, fun z => ⟨c, by have := z.2; omega⟩⟩
  refine ans_eqq9 h hH ⟨fun a b => a (co.mpr b), fun a b => a (co.mp b)⟩ ⟨fun z => ⟨co.mp z.1, by rw [← JH_84q9 h z.1.1]; exact z.2⟩, fun z => ⟨co.mpr z.1, by rw [JH_84q9 h (co.mpr z.1).1]; exact z.2⟩⟩ (fun a z => a z.1) k m (fun c _ r' s t => ?_)
  have c := Classical.not_not.mp c
  obtain ⟨s1, k2, k3, k4⟩ := s
  obtain ⟨t1, m2, m3, m4⟩ := t
  obtain ⟨p, e119, ty, hh, h67, h94⟩ := m2
  have y10 : ¬ y.1 0 10 = 0 := by rw [k4]; exact c.1
  have j := JQ_runq9 h (JH_Rq9 h c.1).1.1.1 k2 p e119 ty (KRun_cg (fun j hj => by
    by_cases cj : j = n
    · rw [cj, upf_eq, m3]
    · rw [upf_ne cj, m4 j (by omega)]) k3) y10 hh h67 h94
  exact ⟨j, by rw [s1, t1, JR3_84q9 j y10]⟩
def tDrq9 (C : gCo) (wr n : Nat) (w : gd) (l1 l2 r : Int32) (w' : gd) : Prop := r.toInt = ((drS C wr l2.toInt.toNat l1 (c96 w) n).2 : Int) - n ∧ rnMq9 C wr (drS C wr l2.toInt.toNat l1 (c96 w) n).2 w w' ∧ rwE (c96 w') (drS C wr l2.toInt.toNat l1 (c96 w) n).1 (drS C wr l2.toInt.toNat l1 (c96 w) n).2
theorem ja_drawq9 {r9 r : Int32} (h : JHq9 C wr n lm x w) (hH : HOI y q) (k : ansKq9 (e1Ch x) (e2Dr x l2) (sDr C wr n (c96 w) x l1 l2) x r9 y) (m : ansMq9 C wr (f1Ch w) (f2Dr w l2) (tDrq9 C wr n w l1 l2) w r w') : JR3q9 y w' ∧ ansE r9 r y w' := by
  have e9 := JH_10q9 h
  refine ans_eqq9 h hH e9 ⟨fun z => ⟨fun a => z.1 (e9.mpr a), z.2⟩, fun z => ⟨fun a => z.1 (e9.mp a), z.2⟩⟩ (fun a z => z.1 a) k m (fun c _ r' s t => ?_)
  obtain ⟨s1, k2, k3, k4⟩ := s
  obtain ⟨t1, m2, m3⟩ := t
  obtain ⟨p, e119, ty, hh, h67, h94⟩ := m2
  exact ⟨JQ_runq9 h (JH_Rq9 h c).1.1.1 k2 p e119 ty (KRun_cg (fun j hj => (m3 j hj).symm) k3) (by rw [k4]; exact c) hh h67 h94, by rw [t_eq, s1, t1]⟩
def tAgq9 (C : gCo) (wr : Nat) (w : gd) (l r : Int32) (w' : gd) : Prop := r = w'.1 0 84 ∧ rnMq9 C wr l.toInt.toNat w w' ∧ c96 w' = c96 w
theorem ja_againq9 {r9 r : Int32} (h : JHq9 C wr n lm x w) (hH : HOI y q) (k : ansKq9 (e1Ch x) (e2Ag n x l) (sAg C wr (c96 w) x l) x r9 y) (m : ansMq9 C wr (f1Ch w) (f2Ag w l) (tAgq9 C wr w l) w r w') : JR3q9 y w' ∧ ansE r9 r y w' := by
  have e9 := JH_10q9 h
  refine ans_eqq9 h hH e9 ⟨fun z => ⟨fun a => z.1 (e9.mpr a), by rw [(JH_Rq9 h z.1).2.2.2]; exact z.2⟩, fun z => ⟨fun a => z.1 (e9.mp a), by rw [← (JH_Rq9 h (fun a => z.1 (e9.mp a))).2.2.2]; exact z.2⟩⟩ (fun a z => z.1 a) k m (fun c _ r' s t => ?_)
  obtain ⟨s1, k2, k3, k4⟩ := s
  obtain ⟨t1, m2, m3⟩ := t
  obtain ⟨p, e119, ty, hh, h67, h94⟩ := m2
  have y10 : ¬ y.1 0 10 = 0 := by rw [k4]; decide
  have j := JQ_runq9 h (JH_Rq9 h c).1.1.1 k2 p e119 ty (by rw [m3]; exact k3) y10 hh h67 h94
  exact ⟨j, by rw [s1, t1, JR3_84q9 j y10]⟩
def tShq9 (C : gCo) (lm : Nat → Nat) (w : gd) (l1 l2 r : Int32) (w' : gd) : Prop := r = w'.1 0 94 ∧ ∃ wn s : Nat, ((wn = 0 ∨ wn = 1) ∧ l1 = Int32.ofNat wn ∧ ¬ w.1 119 wn = 0 ∧ fsF C wn (twM C lm wn) l2.toInt.toNat s) ∧ rnMq9 C wn (pth (twM C lm wn) s).length w w' ∧ ∀ k v, (pth (twM C lm wn) s)[k]? = some v → c96 w' k = v
theorem ja_showq9 {r9 r : Int32} (h : JHq9 C wr n lm x w) (hH : HOI y q) (k : ansKq9 (e1Sh l1 l2) (e2Sh C lm x l1 l2) (sSh C lm x l1 l2) x r9 y) (m : ansMq9 C wr (e1Sh l1 l2) (f2Sh C lm w l1 l2) (tShq9 C lm w l1 l2) w r w') : JR3q9 y w' ∧ ansE r9 r y w' := by
  have tt := JH_Tq9 h
  have co : shK C (twM C lm) x l1 l2 ↔ shG C (twM C lm) w l1 l2 := ⟨fun ⟨wn, s, a1, a2, a3, a4, a5, a6⟩ => ⟨wn, s, a1, a2, a3, a4, fun z => a5 ((tt wn a1).1.mpr z), a6⟩, fun ⟨wn, s, a1, a2, a3, a4, a5, a6⟩ => ⟨wn, s, a1, a2, a3, a4, fun z => a5 ((tt wn a1).1.mp z), a6⟩⟩
  refine ans_eqq9 h hH Iff.rfl ⟨fun z => ⟨z.1, fun a => z.2 (co.mpr a)⟩, fun z => ⟨z.1, fun a => z.2 (co.mp a)⟩⟩ (fun a z => a z.1) k m (fun c _ r' s t => ?_)
  obtain ⟨s1, wn, s, ⟨a1, a2, a5, a6⟩, k2, k3, k4⟩ := s
  obtain ⟨t1, wn', s', ⟨b1, b2, b5, b6⟩, m2, m3⟩ := t
  have e := wn_eq b1 a1 b2 a2
  subst e
  have e2 := fsF_u b6 a6
  subst e2
  obtain ⟨p, e119, ty, hh, h67, h94⟩ := m2
  have y10 : ¬ y.1 0 10 = 0 := by rw [k4]; decide
  have j := JQ_runq9 h ((tt _ a1).2 a5).1.1.1 k2 p e119 ty (k3 _ m3) y10 hh h67 h94
  exact ⟨j, by rw [s1, t1, JR3_94q9 j y10]⟩
def sAqq9 (C : gCo) (x : gd) (l1 l2 r : Int32) (y : gd) : Prop := ∃ wn lim : Nat, ((wn = 0 ∨ wn = 1) ∧ l1 = Int32.ofNat wn ∧ l2.toInt = (lim : Nat)) ∧ r = y.1 (260 + 20 * wn) 0 ∧ KF x y ∧ fm (sAtq9 (260 + 20 * wn)) x y ∧ TR3q9 C wn y (260 + 20 * wn) (tryM C wn lim)
def tAqq9 (C : gCo) (wr : Nat) (w : gd) (l1 l2 r : Int32) (w' : gd) : Prop := ∃ wn lim : Nat, ((wn = 0 ∨ wn = 1) ∧ l1 = Int32.ofNat wn ∧ l2.toInt = (lim : Nat)) ∧ r = w'.1 120 wn ∧ PM w w' ∧ (w'.1 0 67 = w.1 0 67 ∧ w'.1 0 94 = w.1 0 94 ∧ w'.1 96 = w.1 96 ∧ (¬ w.1 0 67 = 0 → HistC C wr w')) ∧ TYcq9 C wn w' (tryM C wn lim) ∧ ¬ w'.1 119 wn = 0 ∧ (∀ v, ¬ v = wn → w'.1 119 v = w.1 119 v) ∧ ow wn w w' ∧ LW3q9 w w' wn
theorem ja_attemptq9 {r9 r : Int32} (h : JHq9 C wr n lm x w) (hH : HOI y q) (k : ansKq9 (e1Bg x) (e2At x l1 l2) (sAqq9 C x l1 l2) x r9 y) (m : ansMq9 C wr (f1Bg w) (f2At w l1 l2) (tAqq9 C wr w l1 l2) w r w') : JR3q9 y w' ∧ ansE r9 r y w' := by
  have e9 := JH_9q9 h
  refine ans_eqq9 h hH e9 ⟨fun z => ⟨fun a => z.1 (e9.mpr a), z.2⟩, fun z => ⟨fun a => z.1 (e9.mp a), z.2⟩⟩ (fun a z => z.1 a) k m (fun c _ r' s t => ?_)
  obtain ⟨wn, lim, ⟨a1, a2, a3⟩, s1, k2, k3, k4⟩ := s
  obtain ⟨wn', lim', ⟨b1, b2, b3⟩, t1, p, ⟨m67, m94, m96, mh⟩, mt, mf, mo, ow9, lw9⟩ := t
  have e := wn_eq b1 a1 b2 a2
  subst e
  have e2 : lim' = lim := by omega
  subst e2
  have ec : c96 w' = c96 w := by unfold c96; rw [m96]
  have e10 : y.1 0 10 = x.1 0 10 := k3 _ _ (by unfold sAtq9; omega)
  refine ⟨⟨C, wr, n, upf lm wn' lim', TXs_k h.1 k2 p, Or.inr ?_⟩, by rw [s1, t1, t_eq, k4.1.1.1, mt.1.1]⟩
  rcases h.2 with ⟨⟨c1, -⟩, -⟩ | ⟨j, r, t⟩
  · exact absurd c1 c
  · refine ⟨JC_k j k2 p, ?_, fun v v01 => ?_⟩
    · rcases r with ⟨r1, r2⟩ | ⟨r1, r2, r3, r4, r5⟩
      · exact Or.inl ⟨by rw [e10]; exact r1, by rw [m67]; exact r2⟩
      · exact Or.inr ⟨by rw [e10]; exact r1, by rw [m67]; exact r2, by rw [ec]; exact KRun_atq9 (by omega) j.2.1 k3 r3, mh r2, by rw [m94]; exact r5⟩
    · by_cases cv : v = wn'
      · rw [cv, upf_eq]
        refine Or.inr ⟨fun z9 => ?_, mf, k4, mt⟩
        have e9 := k4.1.1.1
        rw [z9] at e9
        have k0 : (0 : Int32).toInt = 0 := rfl
        have := tryM_1 (C := C) (w := wn') (lim := lim')
        omega
      · rw [upf_ne cv]
        have eo : y.1 (260 + 20 * v) 0 = x.1 (260 + 20 * v) 0 := k3 _ _ (by unfold sAtq9; omega)
        rcases t v v01 with ⟨t1, t2⟩ | ⟨t1, t2, t3, t4⟩
        · exact Or.inl ⟨by rw [eo]; exact t1, by rw [mo v cv]; exact t2⟩
        · exact Or.inr ⟨by rw [eo]; exact t1, by rw [mo v cv]; exact t2, TR3_atq9 (by omega) (by omega) (by omega) k3 t3, ⟨TYo_owq9 TW_try (by omega) cv ow9 t4.1, TYx_owq9 (by omega) cv (p.2.2.1 24 (by decide)) ow9 lw9 t4.2⟩⟩
/-- calls that forget -/
theorem JR3_zq9 (h : JR x w) (z : ZR x) (m : ZM w) : JR3q9 x w := by
  obtain ⟨h1, h2⟩ := h
  rcases h2 with h2 | ⟨a1, a2, a3, a4, a5, a6, a7, C, c1, c2, c3⟩
  · exact ⟨_, 0, 0, fun _ => 0, h1, Or.inl ⟨h2, z, m, rfl⟩⟩
  · refine ⟨C, 0, 0, fun _ => 0, h1, Or.inr ⟨⟨⟨a1, a2, a3, a4, a5, a6, a7⟩, c1, c2, c3⟩, Or.inl ⟨z.1, m.1⟩, fun wn w01 => Or.inl ⟨z.2 _ (by omega), ?_⟩⟩⟩
    rcases w01 with e | e <;> rw [e]
    · exact m.2.1
    · exact m.2.2
theorem JH_Jq9 (h : JHq9 C wr n lm x w) : JR x w := by
  obtain ⟨h1, h2⟩ := h
  refine ⟨h1, ?_⟩
  rcases h2 with ⟨a, -⟩ | ⟨⟨a, b⟩, -⟩
  · exact Or.inl a
  · obtain ⟨a1, a2, a3, a4, a5, a6, a7⟩ := a
    exact Or.inr ⟨a1, a2, a3, a4, a5, a6, a7, C, b⟩
theorem JR3_xq9 {x1 : gd} (e : x1.1 = x.1) (h : JR3q9 x w) : JR3q9 x1 w := by
  obtain ⟨C, wr, n, lm, h⟩ := h
  obtain ⟨x1a, x1b⟩ := x1
  have e : x1a = x.1 := e
  subst e
  exact ⟨C, wr, n, lm, h⟩
end JN3

section SMC
variable {G : mG} {d D : Nat} {x w : gd} {F : Int32 → gd → Prop} {C : gCo} {wr n : Nat} {lm : Nat → Nat} {q : kP}
theorem JH_Mq9 (h : JHq9 C wr n lm x w) (h67 : ¬ w.1 0 67 = 0) : ¬ w.1 0 66 = 0 ∧ HistC C wr w ∧ (w.1 0 94).toInt = (n : Nat) := sorry
theorem an_1q9 {E1 E2 : Prop} {S : Int32 → gd → Prop} {w' : gd} {r : Int32} (hm : MI w) (e : E1) (m : rfK 1 w w') : ansMq9 C wr E1 E2 S w r w' := sorry
theorem an_2q9 {E1 E2 : Prop} {S : Int32 → gd → Prop} {w' : gd} {r : Int32} (hm : MI w) (e : E2) (m : rfK 2 w w') : ansMq9 C wr E1 E2 S w r w' := sorry
theorem an_3q9 {E1 E2 : Prop} {S : Int32 → gd → Prop} {w' : gd} {r : Int32} (p : MI w') (e1 : ¬ E1) (e2 : ¬ E2) (e0 : w'.1 0 0 = 0) (s : S r w') : ansMq9 C wr E1 E2 S w r w' := sorry
theorem ma_choicesq9 (hm : MI w) (hD : 3 ≤ D) (hF : ∀ r w', ansMq9 C wr (f1Ch w) False (tChq9 C wr w) w r w' → F r w') : MT G D z_choices 0 [(0, vr 0)] [] w (ri F) := sorry
theorem ma_beginq9 (h : JHq9 C wr n lm x w) (hH : HOI x q) (hm : MI w) (l : Int32) (hD : 7 ≤ D) (hF : ∀ r w', ansMq9 C wr (f1Bg w) (f2Bg w l) (tBgq9 C w l) w r w' → F r w') : MT G D z_begin 0 [(0, vr 0), (1, vi l)] [] w (ri F) := sorry
theorem ma_goq9 (h : JHq9 C wr n lm x w) (hH : HOI x q) (hm : MI w) (l : Int32) (hD : 7 ≤ D) (hF : ∀ r w', ansMq9 C wr (f1Go w) (f2Go w l) (tGoq9 C wr n w l) w r w' → F r w') : MT G D z_go 0 [(0, vr 0), (1, vi l)] [] w (ri F) := sorry
theorem ma_drawq9 (h : JHq9 C wr n lm x w) (hH : HOI x q) (hm : MI w) (l1 l2 : Int32) (hD : 7 ≤ D) (hF : ∀ r w', ansMq9 C wr (f1Ch w) (f2Dr w l2) (tDrq9 C wr n w l1 l2) w r w' → F r w') : MT G D z_draw 0 [(0, vr 0), (1, vi l1), (2, vi l2)] [] w (ri F) := sorry
theorem ma_againq9 (h : JHq9 C wr n lm x w) (hm : MI w) (l : Int32) (hD : 7 ≤ D) (hF : ∀ r w', ansMq9 C wr (f1Ch w) (f2Ag w l) (tAgq9 C wr w l) w r w' → F r w') : MT G D z_again 0 [(0, vr 0), (1, vi l)] [] w (ri F) := sorry
theorem ma_showq9 (h : JHq9 C wr n lm x w) (hH : HOI x q) (hm : MI w) (l1 l2 : Int32) (hD : 8 ≤ D) (hF : ∀ r w', ansMq9 C wr (e1Sh l1 l2) (f2Sh C lm w l1 l2) (tShq9 C lm w l1 l2) w r w' → F r w') : MT G D z_show 0 [(0, vr 0), (1, vi l1), (2, vi l2)] [] w (ri F) := sorry
theorem ma_attemptq9 (h : JHq9 C wr n lm x w) (hH : HOI x q) (hm : MI w) (l1 l2 : Int32) (hD : 8 ≤ D) (hF : ∀ r w', ansMq9 C wr (f1Bg w) (f2At w l1 l2) (tAqq9 C wr w l1 l2) w r w' → F r w') : MT G D z_attempt 0 [(0, vr 0), (1, vi l1), (2, vi l2)] [] w (ri F) := sorry
end SMC
section KQC
variable {G : kG} {q : kP} {d : Nat} {x w : gd} {P : Option gv → gd → Prop} {X : String → gd → Prop} {C : gCo} {wr n : Nat} {lm : Nat → Nat}
theorem ka_choicesq9 (hq : kV q) (hH : HOI x q) (hX1 : e1Ch x → X iSE x) (hP : ¬ e1Ch x → ¬ False → ∀ r y, HOI y q → sChq9 x r y → P (some (vi r)) y) : KE G q (d + 7) zk_X11_choices 0 [(0, vr 0)] [] x P X := sorry
theorem ka_beginq9 (h : JHq9 C wr n lm x w) (hq : kV q) (hH : HOI x q) (l1 : Int32) (hX1 : e1Bg x → X iSE x) (hX2 : e2Bg x l1 → X iAE x) (hP : ¬ e1Bg x → ¬ e2Bg x l1 → ∀ r y, HOI y q → sBg C x l1 r y → P (some (vi r)) y) : KE G q (d + 7) zk_X11_begin 0 [(0, vr 0), (1, vi l1)] [] x P X := sorry
theorem ka_goq9 (h : JHq9 C wr n lm x w) (hq : kV q) (hH : HOI x q) (l1 : Int32) (hX1 : e1Go n x → X iSE x) (hX2 : e2Go n x l1 → X iOE x) (hP : ¬ e1Go n x → ¬ e2Go n x l1 → ∀ r y, HOI y q → sGo C wr n (c96 w) x l1 r y → P (some (vi r)) y) : KE G q (d + 7) zk_X11_go 0 [(0, vr 0), (1, vi l1)] [] x P X := sorry
theorem ka_drawq9 (h : JHq9 C wr n lm x w) (hq : kV q) (hH : HOI x q) (l1 l2 : Int32) (hX1 : e1Ch x → X iSE x) (hX2 : e2Dr x l2 → X iAE x) (hP : ¬ e1Ch x → ¬ e2Dr x l2 → ∀ r y, HOI y q → sDr C wr n (c96 w) x l1 l2 r y → P (some (vi r)) y) : KE G q (d + 7) zk_X11_draw 0 [(0, vr 0), (1, vi l1), (2, vi l2)] [] x P X := sorry
theorem ka_againq9 (h : JHq9 C wr n lm x w) (hq : kV q) (hH : HOI x q) (l1 : Int32) (hX1 : e1Ch x → X iSE x) (hX2 : e2Ag n x l1 → X iAE x) (hP : ¬ e1Ch x → ¬ e2Ag n x l1 → ∀ r y, HOI y q → sAg C wr (c96 w) x l1 r y → P (some (vi r)) y) : KE G q (d + 7) zk_X11_again 0 [(0, vr 0), (1, vi l1)] [] x P X := sorry
theorem ka_showq9 (h : JHq9 C wr n lm x w) (hq : kV q) (hH : HOI x q) (l1 l2 : Int32) (hX1 : e1Sh l1 l2 → X iAE x) (hX2 : e2Sh C lm x l1 l2 → X iSE x) (hP : ¬ e1Sh l1 l2 → ¬ e2Sh C lm x l1 l2 → ∀ r y, HOI y q → sSh C lm x l1 l2 r y → P (some (vi r)) y) : KE G q (d + 7) zk_X11_show 0 [(0, vr 0), (1, vi l1), (2, vi l2)] [] x P X := sorry
end KQC
section KQM
variable {G : kG} {q : kP} {d : Nat} {x w : gd} {P : Option gv → gd → kP → Prop} {X : String → gd → kP → Prop} {C : gCo} {wr n : Nat} {lm : Nat → Nat}
theorem ka_attemptq9 (h : JHq9 C wr n lm x w) (hu : kU q) (hH : HOI x q) (l1 l2 : Int32) (hX1 : e1Bg x → X iSE x q) (hX2 : e2At x l1 l2 → X iAE x q) (hP : ¬ e1Bg x → ¬ e2At x l1 l2 → ∀ r y q1, kU q1 → kle q q1 → HOI y q1 → sAqq9 C x l1 l2 r y → P (some (vi r)) y q1) : KM G q (d + 7) zk_X11_attempt 0 [(0, vr 0), (1, vi l1), (2, vi l2)] [] x P X := sorry
end KQM

section RST
variable {G : mG} {d D : Nat} {x z w a : gd} {F : Int32 → gd → Prop} {C : gCo} {M : gMa} {wr n : Nat} {lm : Nat → Nat} {q : kP}
def sCeq9 (C : gCo) (wr n : Nat) (c : Nat → Nat) (x : gd) (l r : Int32) (y : gd) : Prop := r = (runM C wr c n).1 l.toInt.toNat ∧ KRdq9 x y
def tCeq9 (C : gCo) (wr n : Nat) (w : gd) (l r : Int32) (w' : gd) : Prop := r = (runM C wr (c96 w) n).1 l.toInt.toNat ∧ rdMq9 C wr w w'
def sSeq9 (C : gCo) (wr n : Nat) (c : Nat → Nat) (x : gd) (l1 l2 r : Int32) (y : gd) : Prop := r = seM (runM C wr c n) l1.toInt.toNat l2.toInt.toNat ∧ KRdq9 x y
def tSeq9 (C : gCo) (wr n : Nat) (w : gd) (l1 l2 r : Int32) (w' : gd) : Prop := r = seM (runM C wr (c96 w) n) l1.toInt.toNat l2.toInt.toNat ∧ rdMq9 C wr w w'
theorem ma_cellq9 (h : JHq9 C wr n lm x w) (hH : HOI x q) (hm : MI w) (l : Int32) (hD : 3 ≤ D) (hF : ∀ r w', ansMq9 C wr (f1Ch w) (f2Ce w l) (tCeq9 C wr n w l) w r w' → F r w') : MT G D z_cell 0 [(0, vr 0), (1, vi l)] [] w (ri F) := sorry
theorem ma_seenq9 (h : JHq9 C wr n lm x w) (hH : HOI x q) (hm : MI w) (t c : Int32) (hD : 3 ≤ D) (hF : ∀ r w', ansMq9 C wr (f1Ch w) (f2Se w t c) (tSeq9 C wr n w t c) w r w' → F r w') : MT G D z_seen 0 [(0, vr 0), (1, vi t), (2, vi c)] [] w (ri F) := sorry
end RST
section KRS
variable {G : kG} {q : kP} {d : Nat} {x y w w' : gd} {P : Option gv → gd → Prop} {X : String → gd → Prop} {C : gCo} {wr n : Nat} {lm : Nat → Nat}
theorem ka_cellq9 (h : JHq9 C wr n lm x w) (hq : kV q) (hH : HOI x q) (l1 : Int32) (hX1 : e1Ch x → X iSE x) (hX2 : e2Ce x l1 → X iOE x) (hP : ¬ e1Ch x → ¬ e2Ce x l1 → ∀ r y, HOI y q → sCeq9 C wr n (c96 w) x l1 r y → P (some (vi r)) y) : KE G q (d + 7) zk_X11_cell 0 [(0, vr 0), (1, vi l1)] [] x P X := sorry
theorem ka_seenq9 (h : JHq9 C wr n lm x w) (hq : kV q) (hH : HOI x q) (l1 l2 : Int32) (hX1 : e1Ch x → X iSE x) (hX2 : e2Se x l1 l2 → X iOE x) (hP : ¬ e1Ch x → ¬ e2Se x l1 l2 → ∀ r y, HOI y q → sSeq9 C wr n (c96 w) x l1 l2 r y → P (some (vi r)) y) : KE G q (d + 7) zk_X11_seen 0 [(0, vr 0), (1, vi l1), (2, vi l2)] [] x P X := sorry
theorem ja_cellq9 {l r9 r : Int32} (h : JHq9 C wr n lm x w) (hH : HOI y q) (k : ansKq9 (e1Ch x) (e2Ce x l) (sCeq9 C wr n (c96 w) x l) x r9 y) (m : ansMq9 C wr (f1Ch w) (f2Ce w l) (tCeq9 C wr n w l) w r w') : JR3q9 y w' ∧ ansE r9 r y w' := sorry
theorem ja_seenq9 {l1 l2 r9 r : Int32} (h : JHq9 C wr n lm x w) (hH : HOI y q) (k : ansKq9 (e1Ch x) (e2Se x l1 l2) (sSeq9 C wr n (c96 w) x l1 l2) x r9 y) (m : ansMq9 C wr (f1Ch w) (f2Se w l1 l2) (tSeq9 C wr n w l1 l2) w r w') : JR3q9 y w' ∧ ansE r9 r y w' := sorry
end KRS

def sFiq9 (C : gCo) (lm : Nat → Nat) (x : gd) (l1 l2 r : Int32) (y : gd) : Prop := fdV (fun v => ¬ x.1 (260 + 20 * v) 0 = 0) C lm l1 l2 r ∧ KRdq9 x y
def tFiq9 (C : gCo) (lm : Nat → Nat) (wr : Nat) (w : gd) (l1 l2 r : Int32) (w' : gd) : Prop := fdV (fun v => ¬ w.1 119 v = 0) C lm l1 l2 r ∧ rdMq9 C wr w w'
section KFI
variable {G : kG} {q : kP} {d : Nat} {x y w w' : gd} {P : Option gv → gd → Prop} {X : String → gd → Prop} {C : gCo} {wr n : Nat} {lm : Nat → Nat}
theorem ja_findingq9 {l1 l2 r9 r : Int32} (h : JHq9 C wr n lm x w) (hH : HOI y q) (k : ansKq9 (e1Sh l1 l2) False (sFiq9 C lm x l1 l2) x r9 y) (m : ansMq9 C wr (e1Sh l1 l2) False (tFiq9 C lm wr w l1 l2) w r w') : JR3q9 y w' ∧ ansE r9 r y w' := sorry
theorem ka_findingq9 (h : JHq9 C wr n lm x w) (hq : kV q) (hH : HOI x q) (l1 l2 : Int32) (hX1 : e1Sh l1 l2 → X iAE x) (hP : ¬ e1Sh l1 l2 → ¬ False → ∀ r y, HOI y q → sFiq9 C lm x l1 l2 r y → P (some (vi r)) y) : KE G q (d + 7) zk_X11_finding 0 [(0, vr 0), (1, vi l1), (2, vi l2)] [] x P X := sorry
end KFI
section MFI
variable {G : mG} {d D : Nat} {x w : gd} {F : Int32 → gd → Prop} {C : gCo} {wr n : Nat} {lm : Nat → Nat} {q : kP}
theorem ma_findingq9 (h : JHq9 C wr n lm x w) (hH : HOI x q) (hm : MI w) (l1 l2 : Int32) (hD : 3 ≤ D) (hF : ∀ r w', ansMq9 C wr (e1Sh l1 l2) False (tFiq9 C lm wr w l1 l2) w r w' → F r w') : MT G D z_finding 0 [(0, vr 0), (1, vi l1), (2, vi l2)] [] w (ri F) := sorry
end MFI

section LOC
variable {sl r : List Nat} {a k : Nat}
end LOC
def sLoq9 (C : gCo) (wr n : Nat) (c : Nat → Nat) (x : gd) (l1 l2 r : Int32) (y : gd) : Prop := r = ((runM C wr c n).2.2 l1.toInt.toNat).2.2.2.2.2.2.2 l2.toInt.toNat ∧ KRdq9 x y
def tLoq9 (C : gCo) (wr n : Nat) (w : gd) (l1 l2 r : Int32) (w' : gd) : Prop := r = ((runM C wr (c96 w) n).2.2 l1.toInt.toNat).2.2.2.2.2.2.2 l2.toInt.toNat ∧ rdMq9 C wr w w'
section KLO
variable {G : kG} {q : kP} {d : Nat} {x y w w' : gd} {P : Option gv → gd → Prop} {X : String → gd → Prop} {C : gCo} {wr n : Nat} {lm : Nat → Nat}
/-- a thread stands at a step that there is -/
theorem JH_stq9 (h : JHq9 C wr n lm x w) (hH : HOI x q) (h10 : ¬ x.1 0 10 = 0) {t : Nat} (ht : (t : Int) < (x.1 60 10).toInt) : ∃ st, C.1[((runM C wr (c96 w) n).2.2 t).2.2.1]? = some st ∧ stN C ((runM C wr (c96 w) n).2.2 t).2.2.1 = st := sorry
theorem ka_localq9 (h : JHq9 C wr n lm x w) (hq : kV q) (hH : HOI x q) (l1 l2 : Int32) (hX1 : e1Ch x → X iSE x) (hX2 : e2Lo C wr n (c96 w) x l1 l2 → X iOE x) (hP : ¬ e1Ch x → ¬ e2Lo C wr n (c96 w) x l1 l2 → ∀ r y, HOI y q → sLoq9 C wr n (c96 w) x l1 l2 r y → P (some (vi r)) y) : KE G q (d + 7) zk_X11_local 0 [(0, vr 0), (1, vi l1), (2, vi l2)] [] x P X := sorry
theorem ja_localq9 {l1 l2 r9 r : Int32} (h : JHq9 C wr n lm x w) (hH : HOI y q) (k : ansKq9 (e1Ch x) (e2Lo C wr n (c96 w) x l1 l2) (sLoq9 C wr n (c96 w) x l1 l2) x r9 y) (m : ansMq9 C wr (f1Ch w) (f2Lo C wr n w l1 l2) (tLoq9 C wr n w l1 l2) w r w') : JR3q9 y w' ∧ ansE r9 r y w' := sorry
end KLO
section MLO
variable {G : mG} {d D : Nat} {x w : gd} {F : Int32 → gd → Prop} {C : gCo} {wr n : Nat} {lm : Nat → Nat} {q : kP}
theorem ma_localq9 (h : JHq9 C wr n lm x w) (hH : HOI x q) (hm : MI w) (t i : Int32) (hD : 3 ≤ D) (hF : ∀ r w', ansMq9 C wr (f1Ch w) (f2Lo C wr n w t i) (tLoq9 C wr n w t i) w r w' → F r w') : MT G D z_local 0 [(0, vr 0), (1, vi t), (2, vi i)] [] w (ri F) := sorry
end MLO

def sCiq9 (C : gCo) (wr n : Nat) (c : Nat → Nat) (x : gd) (l1 l2 r : Int32) (y : gd) : Prop := chR C wr n c l1 l2 r ∧ KRdq9 x y
def tCiq9 (C : gCo) (wr n : Nat) (w : gd) (l1 l2 r : Int32) (w' : gd) : Prop := chR C wr n (c96 w) l1 l2 r ∧ rdMq9 C wr w w'
section PCH
variable {C : gCo} {w T : Nat} {M : gMa} {ch : gCh}
end PCH
section KCI
variable {G : kG} {q : kP} {d : Nat} {x y w w' : gd} {Fv : gd → Prop} {P : Option gv → gd → Prop} {X : String → gd → Prop} {C : gCo} {wr n : Nat} {lm : Nat → Nat}
theorem ka_choiceq9 (h : JHq9 C wr n lm x w) (hq : kV q) (hH : HOI x q) (l1 l2 : Int32) (hX1 : e1Ch x → X iSE x) (hX2 : e2Ci x l1 l2 → X iOE x) (hP : ¬ e1Ch x → ¬ e2Ci x l1 l2 → ∀ r y, HOI y q → sCiq9 C wr n (c96 w) x l1 l2 r y → P (some (vi r)) y) : KE G q (d + 7) zk_X11_choice 0 [(0, vr 0), (1, vi l1), (2, vi l2)] [] x P X := sorry
theorem ja_choiceq9 {l1 l2 r9 r : Int32} (h : JHq9 C wr n lm x w) (hH : HOI y q) (k : ansKq9 (e1Ch x) (e2Ci x l1 l2) (sCiq9 C wr n (c96 w) x l1 l2) x r9 y) (m : ansMq9 C wr (f1Ch w) (f2Ci w l1 l2) (tCiq9 C wr n w l1 l2) w r w') : JR3q9 y w' ∧ ansE r9 r y w' := sorry
end KCI
section MCI
variable {G : mG} {d D : Nat} {x w : gd} {F : Int32 → gd → Prop} {C : gCo} {wr n : Nat} {lm : Nat → Nat} {q : kP}
theorem ma_choiceq9 (h : JHq9 C wr n lm x w) (hH : HOI x q) (hm : MI w) (i k : Int32) (hD : 4 ≤ D) (hF : ∀ r w', ansMq9 C wr (f1Ch w) (f2Ci w i k) (tCiq9 C wr n w i k) w r w' → F r w') : MT G D z_choice 0 [(0, vr 0), (1, vi i), (2, vi k)] [] w (ri F) := sorry
end MCI

/-- the number that tried(way, what) tells -/
noncomputable def trNq9 (C : gCo) (nl wn : Nat) (T : gTy) (k : Nat) : Nat := match k with
  | 0 => T.1.length
  | 1 => if T.2 = true then 1 else 0
  | 2 => (loSq9 C wn nl T T.1.length).1
  | 3 => (loSq9 C wn nl T T.1.length).2.2.2.2.2.length
  | 4 => (loSq9 C wn nl T T.1.length).2.1
  | _ => (loSq9 C wn nl T T.1.length).2.2.1
abbrev e1Trq9 (l1 _l2 : Int32) : Prop := ¬ (l1 = 0 ∨ l1 = 1)
abbrev e2Trq9 (l1 l2 : Int32) : Prop := (l1 = 0 ∨ l1 = 1) ∧ ¬ (0 ≤ l2.toInt ∧ l2.toInt < 6)
def trVq9 (tr : Nat → Prop) (C : gCo) (nl : Nat) (lm : Nat → Nat) (l1 l2 r : Int32) : Prop := ∃ wn : Nat, (wn = 0 ∨ wn = 1) ∧ l1 = Int32.ofNat wn ∧ ((tr wn ∧ r.toInt = (trNq9 C nl wn (twM C lm wn) l2.toInt.toNat : Nat)) ∨ (¬ tr wn ∧ r = 0))
def sTdq9 (C : gCo) (lm : Nat → Nat) (x : gd) (l1 l2 r : Int32) (y : gd) : Prop := trVq9 (fun v => ¬ x.1 (260 + 20 * v) 0 = 0) C (x.1 60 9).toInt.toNat lm l1 l2 r ∧ KRdq9 x y
def tTdq9 (C : gCo) (lm : Nat → Nat) (wr : Nat) (w : gd) (l1 l2 r : Int32) (w' : gd) : Prop := trVq9 (fun v => ¬ w.1 119 v = 0) C (w.1 0 24).toInt.toNat lm l1 l2 r ∧ rdMq9 C wr w w'
theorem trV_eqq9 {tr tr' : Nat → Prop} {C : gCo} {nl nl' : Nat} {lm : Nat → Nat} {l1 l2 r r' : Int32} (e : ∀ v, (v = 0 ∨ v = 1) → (tr v ↔ tr' v)) (en : ∀ v, (v = 0 ∨ v = 1) → tr v → nl = nl') (h : trVq9 tr C nl lm l1 l2 r) (g : trVq9 tr' C nl' lm l1 l2 r') : r = r' := sorry
/-- the locks held at all accesses -/
abbrev e2Coq9 (x : gd) (l1 l2 : Int32) : Prop := (l1 = 0 ∨ l1 = 1) ∧ ¬ (¬ x.1 0 9 = 0 ∧ 0 ≤ l2.toInt ∧ l2.toInt < (x.1 60 6).toInt)
abbrev f2Coq9 (w : gd) (l1 l2 : Int32) : Prop := (l1 = 0 ∨ l1 = 1) ∧ ¬ (0 ≤ l2.toInt ∧ l2.toInt < (w.1 0 23).toInt)
def coVq9 (tr : Nat → Prop) (C : gCo) (nl : Nat) (lm : Nat → Nat) (l1 l2 r : Int32) : Prop := ∃ wn : Nat, (wn = 0 ∨ wn = 1) ∧ l1 = Int32.ofNat wn ∧ ((tr wn ∧ r = (loSq9 C wn nl (twM C lm wn) (twM C lm wn).1.length).2.2.2.1 l2.toInt.toNat) ∨ (¬ tr wn ∧ r = ((1 : Int32) <<< (Int32.ofNat nl &&& 31)) - 1))
def sCoq9 (C : gCo) (lm : Nat → Nat) (x : gd) (l1 l2 r : Int32) (y : gd) : Prop := coVq9 (fun v => ¬ x.1 (260 + 20 * v) 0 = 0) C (x.1 60 9).toInt.toNat lm l1 l2 r ∧ KRdq9 x y
def tCoq9 (C : gCo) (lm : Nat → Nat) (wr : Nat) (w : gd) (l1 l2 r : Int32) (w' : gd) : Prop := coVq9 (fun v => ¬ w.1 119 v = 0) C (w.1 0 24).toInt.toNat lm l1 l2 r ∧ rdMq9 C wr w w'
theorem coV_eqq9 {tr tr' : Nat → Prop} {C : gCo} {nl : Nat} {lm : Nat → Nat} {l1 l2 r r' : Int32} (e : ∀ v, (v = 0 ∨ v = 1) → (tr v ↔ tr' v)) (h : coVq9 tr C nl lm l1 l2 r) (g : coVq9 tr' C nl lm l1 l2 r') : r = r' := sorry
section KTD
variable {G : kG} {q : kP} {d : Nat} {x y w w' : gd} {P : Option gv → gd → Prop} {X : String → gd → Prop} {C : gCo} {wr n : Nat} {lm : Nat → Nat}
theorem JH_trq9 (h : JHq9 C wr n lm x w) (v : Nat) (v01 : v = 0 ∨ v = 1) : (¬ x.1 (260 + 20 * v) 0 = 0) ↔ (¬ w.1 119 v = 0) := sorry
theorem ja_triedq9 {l1 l2 r9 r : Int32} (h : JHq9 C wr n lm x w) (hH : HOI y q) (k : ansKq9 (e1Trq9 l1 l2) (e2Trq9 l1 l2) (sTdq9 C lm x l1 l2) x r9 y) (m : ansMq9 C wr (e1Trq9 l1 l2) (e2Trq9 l1 l2) (tTdq9 C lm wr w l1 l2) w r w') : JR3q9 y w' ∧ ansE r9 r y w' := sorry
theorem ka_triedq9 (h : JHq9 C wr n lm x w) (hq : kV q) (hH : HOI x q) (l1 l2 : Int32) (hX1 : e1Trq9 l1 l2 → X iAE x) (hX2 : e2Trq9 l1 l2 → X iOE x) (hP : ¬ e1Trq9 l1 l2 → ¬ e2Trq9 l1 l2 → ∀ r y, HOI y q → sTdq9 C lm x l1 l2 r y → P (some (vi r)) y) : KE G q (d + 7) zk_X11_tried 0 [(0, vr 0), (1, vi l1), (2, vi l2)] [] x P X := sorry
theorem JH_23q9 (h : JHq9 C wr n lm x w) : (¬ x.1 0 9 = 0 ∧ x.1 60 6 = w.1 0 23 ∧ x.1 60 9 = w.1 0 24) ∨ (x.1 0 9 = 0 ∧ w.1 0 23 = 0) := sorry
theorem co_iffq9 {l1 l2 : Int32} (h : JHq9 C wr n lm x w) : e2Coq9 x l1 l2 ↔ f2Coq9 w l1 l2 := sorry
theorem ja_commonq9 {l1 l2 r9 r : Int32} (h : JHq9 C wr n lm x w) (hH : HOI y q) (k : ansKq9 (e1Trq9 l1 l2) (e2Coq9 x l1 l2) (sCoq9 C lm x l1 l2) x r9 y) (m : ansMq9 C wr (e1Trq9 l1 l2) (f2Coq9 w l1 l2) (tCoq9 C lm wr w l1 l2) w r w') : JR3q9 y w' ∧ ansE r9 r y w' := sorry
theorem ka_commonq9 (h : JHq9 C wr n lm x w) (hq : kV q) (hH : HOI x q) (l1 l2 : Int32) (hX1 : e1Trq9 l1 l2 → X iAE x) (hX2 : e2Coq9 x l1 l2 → X iOE x) (hP : ¬ e1Trq9 l1 l2 → ¬ e2Coq9 x l1 l2 → ∀ r y, HOI y q → sCoq9 C lm x l1 l2 r y → P (some (vi r)) y) : KE G q (d + 7) zk_X11_common 0 [(0, vr 0), (1, vi l1), (2, vi l2)] [] x P X := sorry
end KTD
section MTD
variable {G : mG} {d D : Nat} {x w : gd} {F : Int32 → gd → Prop} {C : gCo} {wr n : Nat} {lm : Nat → Nat} {q : kP}
theorem ma_triedq9 (h : JHq9 C wr n lm x w) (hH : HOI x q) (hm : MI w) (l1 l2 : Int32) (hD : 3 ≤ D) (hF : ∀ r w', ansMq9 C wr (e1Trq9 l1 l2) (e2Trq9 l1 l2) (tTdq9 C lm wr w l1 l2) w r w' → F r w') : MT G D z_tried 0 [(0, vr 0), (1, vi l1), (2, vi l2)] [] w (ri F) := sorry
theorem ma_commonq9 (h : JHq9 C wr n lm x w) (hH : HOI x q) (hm : MI w) (l1 l2 : Int32) (hD : 3 ≤ D) (hF : ∀ r w', ansMq9 C wr (e1Trq9 l1 l2) (f2Coq9 w l1 l2) (tCoq9 C lm wr w l1 l2) w r w' → F r w') : MT G D z_common 0 [(0, vr 0), (1, vi l1), (2, vi l2)] [] w (ri F) := sorry
end MTD

def wk9q9 (E : Nat → Nat → Prop) (a : Nat) : Nat → Nat → Prop
  | 0, c => c = a
  | n + 1, c => ∃ b, b < 6 ∧ wk9q9 E a n b ∧ E b c
/-- come to first behind k steps -/
def fs9q9 (E : Nat → Nat → Prop) (a k c : Nat) : Prop := wk9q9 E a k c ∧ ∀ m, 1 ≤ m → m < k → ¬ wk9q9 E a m c
/-- the shortest ring through a; 0: none -/
def rgFq9 (E : Nat → Nat → Prop) (a k : Nat) : Prop := (k = 0 ∧ ∀ m, 1 ≤ m → m ≤ 6 → ¬ wk9q9 E a m a) ∨ (1 ≤ k ∧ k ≤ 6 ∧ fs9q9 E a k a)
def rgSq9 (E : Nat → Nat → Prop) (n k : Nat) : Prop := (k = 0 ∧ ∀ a, a < n → rgFq9 E a 0) ∨ (1 ≤ k ∧ k ≤ 6 ∧ (∃ a, a < n ∧ rgFq9 E a k) ∧ ∀ a, a < n → ∀ j, rgFq9 E a j → j = 0 ∨ k ≤ j)
section PRG
variable {E : Nat → Nat → Prop} {a b c k m n nl s r : Nat}
theorem rgF_uq9 (h : rgFq9 E a k) (g : rgFq9 E a m) : k = m := sorry
theorem rgS_uq9 (h : rgSq9 E n k) (g : rgSq9 E n m) : k = m := sorry
theorem rgS_0q9 : rgSq9 E 0 0 := sorry
theorem rgS_nextq9 (h : rgSq9 E n s) (g : rgFq9 E n r) : (r = 0 → rgSq9 E (n + 1) s) ∧ (¬ r = 0 → s = 0 → rgSq9 E (n + 1) r) ∧ (¬ r = 0 → ¬ s = 0 → s ≤ r → rgSq9 E (n + 1) s) ∧ (¬ r = 0 → ¬ s = 0 → r < s → rgSq9 E (n + 1) r) := sorry
theorem phpq9 : ∀ (n k : Nat) (f : Nat → Nat), (∀ i, i < k → f i < n) → (∀ i j, i < k → j < k → f i = f j → i = j) → k ≤ n := sorry
theorem fs9_uq9 (hk : 1 ≤ k) (hm : 1 ≤ m) (h : fs9q9 E a k c) (g : fs9q9 E a m c) : k = m := sorry
/-- where one comes first behind k steps, one came elsewhere first behind each fewer -/
theorem fs9_preq9 (hE : ∀ a b, a < 6 → E a b → a < nl ∧ b < nl) : ∀ k c, fs9q9 E a k c → ∀ m, 1 ≤ m → m ≤ k → ∃ b, b < nl ∧ fs9q9 E a m b := sorry
theorem fs9_leq9 (hE : ∀ a b, a < 6 → E a b → a < nl ∧ b < nl) (h : fs9q9 E a k c) : k ≤ nl := sorry
/-- the first of those that there are -/
theorem wk9_firstq9 {P : Nat → Prop} : ∀ n, 1 ≤ n → P n → ∃ k, 1 ≤ k ∧ k ≤ n ∧ P k ∧ ∀ m, 1 ≤ m → m < k → ¬ P m := sorry
theorem rgF_noneq9 (hE : ∀ a b, a < 6 → E a b → a < nl ∧ b < nl) (h : ∀ m, 1 ≤ m → m ≤ nl → ¬ wk9q9 E a m a) : rgFq9 E a 0 := sorry
/-- locks that there are not close no ring -/
theorem rgS_6q9 (n6 : nl ≤ 6) (hE : ∀ a b, a < 6 → E a b → a < nl ∧ b < nl) (h : rgSq9 E nl k) : rgSq9 E 6 k := sorry
theorem or_bitq9 (u v j : Int32) : ((u ||| v) >>> j) &&& 1 = 1 ↔ ((u >>> j) &&& 1 = 1 ∨ (v >>> j) &&& 1 = 1) := sorry
end PRG
section KRG
variable {G : kG} {q : kP} {d : Nat} {x : gd} {o : Nat} {F : Int32 → gd → Prop} {E : Nat → Nat → Prop} {A : Nat}
theorem kt_ringFrom3q9 (hq : kV q) (ho : kiT q o) (hE : ∀ a, a < 6 → ∀ b, b < 6 → ((x.1 (o + 9) a >>> (Int32.ofNat b &&& 31)) &&& 1 = 1 ↔ E a b)) (a : Int32) (ea : a.toInt = A) (hA : A < 6) (h : ∀ r : Int32, ∀ k : Nat, r.toInt = k → rgFq9 E A k → F r x) : KT G q d zk_X10_ringFrom 0 [(0, vr o), (1, vi a)] [] x (ri F) := sorry
theorem kt_ring3q9 (hq : kV q) (ho : kiT q o) (hE : ∀ a, a < 6 → ∀ b, b < 6 → ((x.1 (o + 9) a >>> (Int32.ofNat b &&& 31)) &&& 1 = 1 ↔ E a b)) (h : ∀ r : Int32, ∀ k : Nat, r.toInt = k → rgSq9 E 6 k → F r x) : KT G q (d + 1) zk_X10_shortestRing 0 [(0, vr o)] [] x (ri F) := sorry
end KRG

/-- a lock's way from l, behind K levels -/
def Rv9q9 (E : Nat → Nat → Prop) (l : Nat) (u : gd) (c K : Nat) : Prop := (u.1 139 c = 0 ∧ ∀ m, 1 ≤ m → m ≤ K → ¬ wk9q9 E l m c) ∨ ∃ t : Nat, 1 ≤ t ∧ (u.1 139 c).toInt = t ∧ fs9q9 E l t c
/-- the same within level k, where the first i are gone through -/
def Rm9q9 (E : Nat → Nat → Prop) (l : Nat) (u : gd) (c k i : Nat) : Prop := (u.1 139 c = 0 ∧ (∀ m, 1 ≤ m → m < k → ¬ wk9q9 E l m c) ∧ ∀ a, a < i → fs9q9 E l (k - 1) a → ¬ E a c) ∨ ∃ t : Nat, 1 ≤ t ∧ (u.1 139 c).toInt = t ∧ fs9q9 E l t c
section MRG
variable {G : mG} {d D : Nat} {y u u' : gd} {F : Int32 → gd → Prop} {E : Nat → Nat → Prop} {l c k i K nl v : Nat}
theorem Rm_fq9 (e : u'.1 139 c = u.1 139 c) (h : Rm9q9 E l u c k i) : Rm9q9 E l u' c k i := sorry
theorem Rv_mq9 (h : Rv9q9 E l u c K) : Rm9q9 E l u c (K + 1) 0 := sorry
theorem Rm_vq9 (hE : ∀ a b, a < 6 → E a b → a < nl ∧ b < nl) (h : Rm9q9 E l u c (K + 1) nl) : Rv9q9 E l u c (K + 1) := sorry
/-- one that is not gone out from -/
theorem Rm_noq9 (hn : ¬ fs9q9 E l (k - 1) i ∨ ¬ E i c) (h : Rm9q9 E l u c k i) : Rm9q9 E l u c k (i + 1) := sorry
/-- which are gone out from -/
theorem Rm_atq9 (hk : 2 ≤ k) (h : Rm9q9 E l u c k i) : (u.1 139 c).toInt = ((k - 1 : Nat) : Int) ↔ fs9q9 E l (k - 1) c := sorry
theorem sp_ring42q9 (w : Int32) (wv : vp_in w 2) (eW : w.toNatClampNeg = v) (en : (y.1 0 24).toInt = (nl : Nat)) (n6 : nl ≤ 6) (hEm : ∀ a, a < 6 → ∀ b, b < 6 → (¬ y.1 128 (36 * v + 6 * a + b) = 0 ↔ E a b)) (hE : ∀ a b, a < 6 → E a b → a < nl ∧ b < nl) (h : ∀ (u : gd) (r : Int32) (s : Nat), mi [] [139] y u → r.toInt = s → rgSq9 E nl s → F r u) : MT G (D + 1) z_ring 42 [(0, vr 0), (1, vi w), (2, vi 0), (3, vi 0)] [] y (ri F) := sorry
end MRG
/-- which lock was taken behind which -/
def Ec9q9 (C : gCo) (nl wn : Nat) (T : gTy) (a b : Nat) : Prop := b < 6 ∧ ((loSq9 C wn nl T T.1.length).2.2.2.2.1 a >>> (Int32.ofNat b &&& 31)) &&& 1 = 1
theorem lo_inq9 {C : gCo} {nl w : Nat} {T : gTy} (hLk : LkN C nl) (n6 : nl ≤ 6) : ∀ k a b, a < 6 → b < 6 → ((loSq9 C w nl T k).2.2.2.2.1 a >>> (Int32.ofNat b &&& 31)) &&& 1 = 1 → a < nl ∧ b < nl := sorry
abbrev e1Rgq9 (l1 : Int32) : Prop := ¬ (l1 = 0 ∨ l1 = 1)
def rgVq9 (tr : Nat → Prop) (C : gCo) (nl : Nat) (lm : Nat → Nat) (l1 r : Int32) : Prop := ∃ wn : Nat, (wn = 0 ∨ wn = 1) ∧ l1 = Int32.ofNat wn ∧ ((tr wn ∧ ∃ k : Nat, r.toInt = k ∧ rgSq9 (Ec9q9 C nl wn (twM C lm wn)) 6 k) ∨ (¬ tr wn ∧ r = 0))
def sRgq9 (C : gCo) (lm : Nat → Nat) (x : gd) (l1 r : Int32) (y : gd) : Prop := rgVq9 (fun v => ¬ x.1 (260 + 20 * v) 0 = 0) C (x.1 60 9).toInt.toNat lm l1 r ∧ KRdq9 x y
def tRgq9 (C : gCo) (lm : Nat → Nat) (wr : Nat) (w : gd) (l1 r : Int32) (w' : gd) : Prop := rgVq9 (fun v => ¬ w.1 119 v = 0) C (w.1 0 24).toInt.toNat lm l1 r ∧ rdMq9 C wr w w'
theorem rgV_eqq9 {tr tr' : Nat → Prop} {C : gCo} {nl nl' : Nat} {lm : Nat → Nat} {l1 r r' : Int32} (e : ∀ v, (v = 0 ∨ v = 1) → (tr v ↔ tr' v)) (en : ∀ v, (v = 0 ∨ v = 1) → tr v → nl = nl') (h : rgVq9 tr C nl lm l1 r) (g : rgVq9 tr' C nl' lm l1 r') : r = r' := sorry
section KRC
variable {G : kG} {q : kP} {d : Nat} {x y w w' : gd} {P : Option gv → gd → Prop} {X : String → gd → Prop} {C : gCo} {wr n : Nat} {lm : Nat → Nat}
theorem ja_ringq9 {l1 r9 r : Int32} (h : JHq9 C wr n lm x w) (hH : HOI y q) (k : ansKq9 (e1Rgq9 l1) False (sRgq9 C lm x l1) x r9 y) (m : ansMq9 C wr (e1Rgq9 l1) False (tRgq9 C lm wr w l1) w r w') : JR3q9 y w' ∧ ansE r9 r y w' := sorry
theorem ka_ringq9 (h : JHq9 C wr n lm x w) (hq : kV q) (hH : HOI x q) (l1 : Int32) (hX1 : e1Rgq9 l1 → X iAE x) (hP : ¬ e1Rgq9 l1 → ¬ False → ∀ r y, HOI y q → sRgq9 C lm x l1 r y → P (some (vi r)) y) : KE G q (d + 7) zk_X11_ring 0 [(0, vr 0), (1, vi l1)] [] x P X := sorry
end KRC
section MRC9
variable {G : mG} {d D : Nat} {x w : gd} {F : Int32 → gd → Prop} {C : gCo} {wr n : Nat} {lm : Nat → Nat} {q : kP}
theorem ma_ringq9 (h : JHq9 C wr n lm x w) (hH : HOI x q) (hm : MI w) (l1 : Int32) (hD : 3 ≤ D) (hF : ∀ r w', ansMq9 C wr (e1Rgq9 l1) False (tRgq9 C lm wr w l1) w r w' → F r w') : MT G D z_ring 0 [(0, vr 0), (1, vi l1)] [] w (ri F) := sorry
end MRC9

noncomputable def ouLq9 (C : gCo) (nl : Nat) (lm : Nat → Nat) (v : Nat) : List (List Int32) := (loSq9 C v nl (twM C lm v) (twM C lm v).1.length).2.2.2.2.2
/-- there is such an outcome, such a cell -/
def okOq9 (tr : Nat → Prop) (C : gCo) (nl : Nat) (nc : Int) (lm : Nat → Nat) (l1 l2 l3 : Int32) : Prop := ∃ v : Nat, (v = 0 ∨ v = 1) ∧ l1 = Int32.ofNat v ∧ tr v ∧ (0 ≤ l2.toInt ∧ l2.toInt < ((ouLq9 C nl lm v).length : Nat)) ∧ 0 ≤ l3.toInt ∧ l3.toInt < nc
abbrev e1Ouq9 (l1 : Int32) : Prop := ¬ (l1 = 0 ∨ l1 = 1)
abbrev e2Ouq9 (C : gCo) (lm : Nat → Nat) (x : gd) (l1 l2 l3 : Int32) : Prop := (l1 = 0 ∨ l1 = 1) ∧ ¬ okOq9 (fun v => ¬ x.1 (260 + 20 * v) 0 = 0) C (x.1 60 9).toInt.toNat (x.1 60 6).toInt lm l1 l2 l3
abbrev f2Ouq9 (C : gCo) (lm : Nat → Nat) (w : gd) (l1 l2 l3 : Int32) : Prop := (l1 = 0 ∨ l1 = 1) ∧ ¬ okOq9 (fun v => ¬ w.1 119 v = 0) C (w.1 0 24).toInt.toNat (w.1 0 23).toInt lm l1 l2 l3
def ouVq9 (C : gCo) (nl : Nat) (lm : Nat → Nat) (l1 l2 l3 r : Int32) : Prop := ∃ v : Nat, (v = 0 ∨ v = 1) ∧ l1 = Int32.ofNat v ∧ ∃ r0, (ouLq9 C nl lm v)[l2.toInt.toNat]? = some r0 ∧ r0[l3.toInt.toNat]? = some r
def sOcq9 (C : gCo) (lm : Nat → Nat) (x : gd) (l1 l2 l3 r : Int32) (y : gd) : Prop := ouVq9 C (x.1 60 9).toInt.toNat lm l1 l2 l3 r ∧ KRdq9 x y
def tOcq9 (C : gCo) (lm : Nat → Nat) (wr : Nat) (w : gd) (l1 l2 l3 r : Int32) (w' : gd) : Prop := ouVq9 C (w.1 0 24).toInt.toNat lm l1 l2 l3 r ∧ rdMq9 C wr w w'
theorem ouV_eqq9 {C : gCo} {nl : Nat} {lm : Nat → Nat} {l1 l2 l3 r r' : Int32} (h : ouVq9 C nl lm l1 l2 l3 r) (g : ouVq9 C nl lm l1 l2 l3 r') : r = r' := by
  obtain ⟨v, a1, a2, r0, a3, a4⟩ := h
  obtain ⟨v', b1, b2, r1, b3, b4⟩ := g
  have ew := wn_eq b1 a1 b2 a2
  subst ew
  rw [a3] at b3
  cases Option.some.inj b3
  rw [a4] at b4
  exact Option.some.inj b4
/-- both ways were tried wholly, and what then -/
def alQq9 (tr : Nat → Prop) (C : gCo) (lm : Nat → Nat) : Prop := tr 0 ∧ tr 1 ∧ ¬ (twM C lm 0).2 = true ∧ ¬ (twM C lm 1).2 = true
def alVq9 (tr : Nat → Prop) (C : gCo) (nl : Nat) (lm : Nat → Nat) (r : Int32) : Prop := (¬ alQq9 tr C lm ∧ r = -1) ∨ (alQq9 tr C lm ∧ ((ouLq9 C nl lm 0 = ouLq9 C nl lm 1 ∧ r = 1) ∨ (¬ ouLq9 C nl lm 0 = ouLq9 C nl lm 1 ∧ r = 0)))
theorem alV_eqq9 {tr tr' : Nat → Prop} {C : gCo} {nl nl' : Nat} {lm : Nat → Nat} {r r' : Int32} (e : alQq9 tr C lm ↔ alQq9 tr' C lm) (en : alQq9 tr C lm → nl = nl') (h : alVq9 tr C nl lm r) (g : alVq9 tr' C nl' lm r') : r = r' := by
  rcases h with ⟨h1, h2⟩ | ⟨h1, h2⟩
  · rcases g with ⟨g1, g2⟩ | ⟨g1, g2⟩
    · rw [h2, g2]
    · exact absurd (e.mpr g1) h1
  · rcases g with ⟨g1, g2⟩ | ⟨g1, g2⟩
    · exact absurd (e.mp h1) g1
    · rw [← en h1] at g2
      rcases h2 with ⟨a1, a2⟩ | ⟨a1, a2⟩ <;> rcases g2 with ⟨b1, b2⟩ | ⟨b1, b2⟩
      · rw [a2, b2]
      · exact absurd a1 b1
      · exact absurd b1 a1
      · rw [a2, b2]
section KOC
variable {G : kG} {q : kP} {d : Nat} {x y w w' : gd} {o p : Nat} {F : Int32 → gd → Prop} {P : Option gv → gd → Prop} {X : String → gd → Prop} {C : gCo} {wr n : Nat} {lm : Nat → Nat} {L K : List (List Int32)}
theorem JH_9vq9 (h : JHq9 C wr n lm x w) (v : Nat) (v01 : v = 0 ∨ v = 1) (tr : ¬ x.1 (260 + 20 * v) 0 = 0) : x.1 60 6 = w.1 0 23 ∧ x.1 60 9 = w.1 0 24 := ⟨((JH_Tq9 h v v01).2 tr).1.1.2.2.1, ((JH_Tq9 h v v01).2 tr).1.1.2.2.2.1⟩
theorem ok_iffq9 {l1 l2 l3 : Int32} (h : JHq9 C wr n lm x w) : e2Ouq9 C lm x l1 l2 l3 ↔ f2Ouq9 C lm w l1 l2 l3 := by
  have g : okOq9 (fun v => ¬ x.1 (260 + 20 * v) 0 = 0) C (x.1 60 9).toInt.toNat (x.1 60 6).toInt lm l1 l2 l3 ↔ okOq9 (fun v => ¬ w.1 119 v = 0) C (w.1 0 24).toInt.toNat (w.1 0 23).toInt lm l1 l2 l3 := by
    constructor
    · rintro ⟨v, a, b, c, e⟩
      obtain ⟨f1, f2⟩ := JH_9vq9 h v a c
      rw [f1, f2] at e
      exact ⟨v, a, b, (JH_trq9 h v a).mp c, e⟩
    · rintro ⟨v, a, b, c, e⟩
      have c' := (JH_trq9 h v a).mpr c
      obtain ⟨f1, f2⟩ := JH_9vq9 h v a c'
      rw [← f1, ← f2] at e
      exact ⟨v, a, b, c', e⟩
  exact ⟨fun z => ⟨z.1, fun z2 => z.2 (g.mpr z2)⟩, fun z => ⟨z.1, fun z2 => z.2 (g.mp z2)⟩⟩
theorem ja_outcomeq9 {l1 l2 l3 r9 r : Int32} (h : JHq9 C wr n lm x w) (hH : HOI y q) (k : ansKq9 (e1Ouq9 l1) (e2Ouq9 C lm x l1 l2 l3) (sOcq9 C lm x l1 l2 l3) x r9 y) (m : ansMq9 C wr (e1Ouq9 l1) (f2Ouq9 C lm w l1 l2 l3) (tOcq9 C lm wr w l1 l2 l3) w r w') : JR3q9 y w' ∧ ansE r9 r y w' :=
  ans_eqq9 h hH Iff.rfl (ok_iffq9 h) (fun a z => a z.1) k m (fun c1 c2 r' s t => ⟨JQ_rdq9 h hH s.2 t.2, by
    have hk : okOq9 (fun v => ¬ x.1 (260 + 20 * v) 0 = 0) C (x.1 60 9).toInt.toNat (x.1 60 6).toInt lm l1 l2 l3 := Classical.byContradiction (fun z => c2 ⟨Classical.byContradiction c1, z⟩)
    obtain ⟨v, a, -, c, -⟩ := hk
    have t1 := t.1
    rw [← (JH_9vq9 h v a c).2] at t1
    exact ouV_eqq9 s.1 t1⟩)
theorem kt_value3q9 (hq : kV q) (ho : kiT q o) (i c : Int32) (hT : TO x q o) (hi : 0 ≤ i.toInt ∧ i.toInt < (x.1 o 3).toInt) (hc : 0 ≤ c.toInt ∧ c.toInt < 24) (h : F (x.1 (orwq9 o (x.1 (o + 14) i.toInt.toNat).toInt.toNat) c.toInt.toNat) x) : KT G q d zk_X10_valueOf 0 [(0, vr o), (1, vi i), (2, vi c)] [] x (ri F) := by
  obtain ⟨⟨b0, b1, b2⟩, hO⟩ := hT
  obtain ⟨o0, o1⟩ := hO i.toInt.toNat (by omega)
  refine kg_X10_valueOf_0 hq ho _ _ ⟨by rw [vp_in_iff]; omega, ?_⟩
  rw [t_cl i]
  refine ⟨by rw [vp_in_iff]; omega, fun u3 e3 => ?_⟩
  obtain ⟨r1, r2, r3⟩ := tr_row2q9 (i := (x.1 (o + 14) i.toInt.toNat).toInt.toNat) hq ho (by omega)
  rw [t_cl, r1] at e3
  exact ⟨_, e3, r2, r3, by rw [vp_in_iff]; omega, by rw [t_cl c]; exact ri_i h⟩
theorem JH_ouq9 (h : JHq9 C wr n lm x w) {v : Nat} (v01 : v = 0 ∨ v = 1) (nz : ¬ x.1 (260 + 20 * v) 0 = 0) : OUkq9 x (260 + 20 * v) (ouLq9 C (x.1 60 9).toInt.toNat lm v) ∧ ∀ r ∈ ouLq9 C (x.1 60 9).toInt.toNat lm v, (r.length : Int) = (x.1 60 6).toInt := by
  obtain ⟨⟨-, cs, -⟩, ⟨-, -, -, -, -, -, s6⟩, -⟩ := (JH_Tq9 h v v01).2 nz
  refine ⟨s6, fun r hr => ?_⟩
  have := (loS_soq9 (C := C) (w := v) (nl := (x.1 60 9).toInt.toNat) (T := twM C lm v) (twM C lm v).1.length).2 r hr
  rw [this]
  exact (cs.2.2.1.1).symm
theorem ka_outcomeq9 (h : JHq9 C wr n lm x w) (hq : kV q) (hH : HOI x q) (l1 l2 l3 : Int32) (hX1 : e1Ouq9 l1 → X iAE x) (hX2 : e2Ouq9 C lm x l1 l2 l3 → X iOE x) (hP : ¬ e1Ouq9 l1 → ¬ e2Ouq9 C lm x l1 l2 l3 → ∀ r y, HOI y q → sOcq9 C lm x l1 l2 l3 r y → P (some (vi r)) y) : KE G q (d + 7) zk_X11_outcome 0 [(0, vr 0), (1, vi l1), (2, vi l2), (3, vi l3)] [] x P X := by
  have k0 : (0 : Int32).toInt = 0 := rfl
  refine kg_X11_outcome_0 hq l1 l2 l3 (kf_way hq l1 (fun z => hX1 z) (fun hw => ?_))
  obtain ⟨v, w01, ew, ewn⟩ := w_nat hw
  have vq : ∀ v', (v' = 0 ∨ v' = 1) → l1 = Int32.ofNat v' → v' = v := fun v' h1 h2 => wn_eq h1 w01 h2 ew
  refine kh_was (w := v) hq hH l1 w01 ew (fun c0 => ⟨fun _ => kg_X11_outcome_26 hq l1 l2 l3 _ _ (kh_ix hq l2 0 (fun _ => hX2 ⟨hw, ?_⟩) (fun a b => ?_)), fun c => absurd rfl c⟩) (fun e7 ho hz hC nz => ⟨fun c => absurd c (by decide), fun _ => ⟨way_in hw, fun u6 e6 => ⟨260 + 20 * v, by rw [e6, ewn, e7], ho, ?_⟩⟩⟩)
  · rintro ⟨v', a, b, c, -⟩
    rw [vq v' a b] at c
    exact c c0
  · rw [k0] at b; omega
  obtain ⟨⟨⟨s1, s2⟩, s3⟩, s4⟩ := JH_ouq9 h w01 nz
  have hT := (hH.2.2.2 (260 + 20 * v) (by omega)).1.1
  have c6 := hC.1.1
  refine kg_X11_outcome_26 hq l1 l2 l3 _ _ (kh_ix hq l2 _ (fun hn => hX2 ⟨hw, ?_⟩) (fun h0 h1 => kh_ix hq l3 _ (fun hn => hX2 ⟨hw, ?_⟩) (fun g0 g1 => ⟨way_in hw, fun u4 e4 => ⟨260 + 20 * v, by rw [e4, ewn, e7], ho, kt_value3q9 hq ho l2 l3 hT ⟨h0, h1⟩ (by omega) ?_⟩⟩)))
  · rintro ⟨v', a, b, c, e, -⟩
    rw [vq v' a b] at e
    exact hn (by rw [s1]; exact e)
  · rintro ⟨v', a, b, c, -, e⟩
    exact hn e
  obtain ⟨r0, hr0⟩ : ∃ r0, (ouLq9 C (x.1 60 9).toInt.toNat lm v)[l2.toInt.toNat]? = some r0 := ⟨_, List.getElem?_eq_getElem (by omega)⟩
  have l0 := s4 r0 (List.mem_of_getElem? hr0)
  obtain ⟨u, hu⟩ : ∃ u, r0[l3.toInt.toNat]? = some u := ⟨_, List.getElem?_eq_getElem (by omega)⟩
  rw [s2 _ r0 hr0 _ u hu]
  refine hP (fun z => z hw) (fun z => z.2 ⟨v, w01, ew, nz, ⟨h0, by rw [← s1]; exact h1⟩, g0, g1⟩) u x hH ⟨⟨v, w01, ew, r0, hr0, hu⟩, KR_rfq9⟩
theorem kt_same3q9 (hq : kV q) (ho : kiT q o) (hp : kiT q p) (m : Int32) {N : Nat} (em : m.toInt = N) (hN : N ≤ 24) (hT : TO x q o) (hU : TO x q p) (hL : OUkq9 x o L) (hK : OUkq9 x p K) (lL : ∀ r ∈ L, r.length = N) (lK : ∀ r ∈ K, r.length = N) (h0 : ¬ L = K → F 0 x) (h1 : L = K → F 1 x) : KT G q (d + 1) zk_X10_sameOutcomes 0 [(0, vr o), (1, vr p), (2, vi m)] [] x (ri F) := by
  obtain ⟨⟨b0, b1, b2⟩, hO⟩ := hT
  obtain ⟨⟨c0, c1, c2⟩, hO2⟩ := hU
  obtain ⟨⟨L1, L2⟩, L3⟩ := hL
  obtain ⟨⟨K1, K2⟩, K3⟩ := hK
  refine kg_X10_sameOutcomes_0 hq ho hp _ ⟨fun eq => ?_, fun ne => ri_i (h0 (fun z => ne (t_eq.mpr (by rw [L1, K1, z]))))⟩
  rw [t_eq] at eq
  have eqn : L.length = K.length := by omega
  have loop : ∀ (j k : Nat) (i : Int32), i.toInt = k → L.length - k ≤ j → L.take k = K.take k → KT G q (d + 1) zk_X10_sameOutcomes 15 [(0, vr o), (1, vr p), (2, vi m), (3, vi i)] [] x (ri F) := by
    intro j
    have fin : ∀ (k : Nat) (i : Int32), i.toInt = k → L.take k = K.take k → x.1 o 3 ≤ i → ri F (some (vi 1)) x := by
      intro k i ei ht c
      rw [t_le] at c
      rw [List.take_of_length_le (by omega), List.take_of_length_le (by omega)] at ht
      exact ri_i (h1 ht)
    induction j with
    | zero =>
      intro k i ei hn ht
      refine kg_X10_sameOutcomes_15 hq ho hp _ _ ⟨fun c => fin k i ei ht c, fun c => ?_⟩
      rw [t_le] at c; omega
    | succ j ih =>
      intro k i ei hn ht
      refine kg_X10_sameOutcomes_15 hq ho hp _ _ ⟨fun c => fin k i ei ht c, fun c => ?_⟩
      rw [t_le] at c
      have ei1 : (i + 1).toInt = ((k + 1 : Nat) : Int) := by rw [t_add (by show _ ≤ _ + (1 : Int); omega) (by show _ + (1 : Int) ≤ _; omega), ei]; rfl
      have v1 : vp_in i 3000 := by rw [vp_in_iff]; omega
      have eI : i.toNatClampNeg = k := by rw [t_cl, ei]; rfl
      have kl : k < L.length := by omega
      obtain ⟨o0, o1⟩ := hO k (by omega)
      obtain ⟨p0, p1⟩ := hO2 k (by omega)
      obtain ⟨r, hr⟩ : ∃ r, L[k]? = some r := ⟨_, List.getElem?_eq_getElem kl⟩
      obtain ⟨s, hs⟩ : ∃ s, K[k]? = some s := ⟨_, List.getElem?_eq_getElem (by omega)⟩
      rw [eI]
      refine ⟨v1, by rw [vp_in_iff]; omega, fun u4 e4 => ⟨v1, by rw [vp_in_iff]; omega, fun u7 e7 => ?_⟩⟩
      obtain ⟨r1, r2, r3⟩ := tr_row2q9 (i := (x.1 (o + 14) k).toInt.toNat) hq ho (by omega)
      obtain ⟨s1, s2, s3⟩ := tr_row2q9 (i := (x.1 (p + 14) k).toInt.toNat) hq hp (by omega)
      rw [t_cl, r1] at e4
      rw [t_cl, s1] at e7
      have ne0 : ¬ r = s → ¬ L = K := fun ne z => ne (by rw [z, hs] at hr; exact (Option.some.inj hr).symm)
      have dif : ∀ {a b : List Int32}, ltRq9 a b = true → ¬ a = b := fun g z => by rw [z, ltR_irrq9] at g; cases g
      exact ⟨_, e4, r2, r3, _, e7, s2, s3, kt_order3q9 hq ho r2 r3 s2 s3 m em hN (Nat.le_refl _) (Nat.le_refl _) (lL r (List.mem_of_getElem? hr)) (lK s (List.mem_of_getElem? hs)) (L2 k r hr) (K2 k s hs) (fun e => ⟨fun _ => ih (k + 1) _ ei1 (by omega) (by rw [List.take_succ, List.take_succ, ht, hr, hs, e]), fun z => absurd rfl z⟩) (fun g => ⟨fun z => absurd z (by decide), fun _ => ri_i (h0 (ne0 (fun z => dif g z.symm)))⟩) (fun g => ⟨fun z => absurd z (by decide), fun _ => ri_i (h0 (ne0 (dif g)))⟩)⟩
  exact loop L.length 0 _ rfl (by omega) rfl
theorem ka_alikeq9 (h : JHq9 C wr n lm x w) (hq : kV q) (hH : HOI x q) (hP : ∀ r y, HOI y q → KRdq9 x y → alVq9 (fun v => ¬ x.1 (260 + 20 * v) 0 = 0) C (x.1 60 9).toInt.toNat lm r → P (some (vi r)) y) : KT G q (d + 2) zk_X11_alike 0 [(0, vr 0)] [] x P := by
  have go : ∀ r, alVq9 (fun v => ¬ x.1 (260 + 20 * v) 0 = 0) C (x.1 60 9).toInt.toNat lm r → P (some (vi r)) x := fun r hr => hP r x hH KR_rfq9 hr
  have e07 : (0 : Int32).toNatClampNeg = 0 := rfl
  have e17 : (1 : Int32).toNatClampNeg = 1 := rfl
  have pt : ∀ v, (v = 0 ∨ v = 1) → ¬ x.1 (260 + 20 * v) 0 = 0 → (x.1 (260 + 20 * v) 1 = 0 ↔ ¬ (twM C lm v).2 = true) := fun v v01 nz => by
    obtain ⟨-, ⟨⟨⟨-, t1⟩, -, -⟩, -⟩, -⟩ := (JH_Tq9 h v v01).2 nz
    have t1 : x.1 (260 + 20 * v) 1 = if (twM C lm v).2 = true then 1 else 0 := t1
    by_cases c : (twM C lm v).2 = true
    · rw [if_pos c] at t1
      rw [t1]; exact ⟨fun z => absurd z (by decide), fun z => absurd c z⟩
    · rw [if_neg c] at t1
      rw [t1]; exact ⟨fun _ => c, fun _ => rfl⟩
  refine kg_X11_alike_0 hq (kh_was (w := 0) hq hH 0 (Or.inl rfl) rfl (fun c0 => ⟨fun _ => go _ (Or.inl ⟨fun z => z.1 c0, rfl⟩), fun c => absurd rfl c⟩) (fun e0 ho hz hC nz => ⟨fun c => absurd c (by decide), fun _ => kh_was (w := 1) hq hH 1 (Or.inr rfl) rfl (fun c0 => ⟨fun _ => go _ (Or.inl ⟨fun z => z.2.1 c0, rfl⟩), fun c => absurd rfl c⟩) (fun e1 ho2 hz2 hC2 nz2 => ⟨fun c => absurd c (by decide), fun _ => ⟨way_in (Or.inl rfl), fun u8 e8 => ⟨260 + 20 * 0, by rw [e8, e07, e0], ho, fun n1 => go _ (Or.inl ⟨fun z => n1 ((pt 0 (Or.inl rfl) nz).mpr z.2.2.1), rfl⟩), fun q1 => ⟨way_in (Or.inr rfl), fun u13 e13 => ⟨260 + 20 * 1, by rw [e13, e17, e1], ho2, fun q2 => ⟨way_in (Or.inl rfl), fun u18 e18 => ⟨way_in (Or.inr rfl), fun u20 e20 => ⟨260 + 20 * 1, by rw [e20, e17, e1], ho2, 260 + 20 * 0, by rw [e18, e07, e0], ho, ?_⟩⟩⟩, fun n1 => go _ (Or.inl ⟨fun z => n1 ((pt 1 (Or.inr rfl) nz2).mpr z.2.2.2), rfl⟩)⟩⟩⟩⟩⟩)⟩))
  have c6 := hC.1.1
  have aq : alQq9 (fun v => ¬ x.1 (260 + 20 * v) 0 = 0) C lm := ⟨nz, nz2, (pt 0 (Or.inl rfl) nz).mp q1, (pt 1 (Or.inr rfl) nz2).mp q2⟩
  obtain ⟨a1, a2⟩ := JH_ouq9 h (Or.inl rfl) nz
  obtain ⟨b1, b2⟩ := JH_ouq9 h (Or.inr rfl) nz2
  exact kt_same3q9 hq ho ho2 (x.1 60 6) (N := (x.1 60 6).toInt.toNat) (by omega) (by omega) (hH.2.2.2 260 (Or.inl rfl)).1.1 (hH.2.2.2 280 (Or.inr rfl)).1.1 a1 b1 (fun r hr => by have := a2 r hr; omega) (fun r hr => by have := b2 r hr; omega) (fun ne => ⟨fun _ => go _ (Or.inr ⟨aq, Or.inr ⟨ne, rfl⟩⟩), fun z => absurd rfl z⟩) (fun e => ⟨fun z => absurd z (by decide), fun _ => go _ (Or.inr ⟨aq, Or.inl ⟨e, rfl⟩⟩)⟩)
end KOC
section MOC
variable {G : mG} {d D : Nat} {x w : gd} {F : Int32 → gd → Prop} {C : gCo} {wr n : Nat} {lm : Nat → Nat} {q : kP}
theorem JH_ousq9 (h : JHq9 C wr n lm x w) {v : Nat} (v01 : v = 0 ∨ v = 1) (tr : ¬ w.1 119 v = 0) : OUsq9 w v (ouLq9 C (w.1 0 24).toInt.toNat lm v) ∧ ∀ r ∈ ouLq9 C (w.1 0 24).toInt.toNat lm v, (r.length : Int) = (w.1 0 23).toInt := by
  have nz := (JH_trq9 h v v01).mpr tr
  obtain ⟨f1, f2⟩ := JH_9vq9 h v v01 nz
  obtain ⟨-, -, ⟨-, -, -, -, -, -, -, y3⟩⟩ := (JH_Tq9 h v v01).2 nz
  have := (JH_ouq9 h v01 nz).2
  rw [f1, f2] at this
  exact ⟨y3, this⟩
theorem ma_outcomeq9 (h : JHq9 C wr n lm x w) (hH : HOI x q) (hm : MI w) (l1 l2 l3 : Int32) (hD : 3 ≤ D) (hF : ∀ r w', ansMq9 C wr (e1Ouq9 l1) (f2Ouq9 C lm w l1 l2 l3) (tOcq9 C lm wr w l1 l2 l3) w r w' → F r w') : MT G D z_outcome 0 [(0, vr 0), (1, vi l1), (2, vi l2), (3, vi l3)] [] w (ri F) := by
  obtain ⟨D, rfl⟩ : ∃ D', D = D' + 1 := ⟨D - 1, by omega⟩
  have k0 : (0 : Int32).toInt = 0 := rfl
  have k1 : (1 : Int32).toInt = 1 := rfl
  refine sg_outcome_0 _ _ _ (fun y e => ?_)
  have hy := z0_s e
  have qy := (MI_0 hy.1 hm).1
  have gy : ∀ c, ¬ c = 0 → y.1 c = w.1 c := fun c hc => hy.1.2 c hc (by simp)
  have y23 : y.1 0 23 = w.1 0 23 := hy.1.1 23 (by decide)
  have p72 : vp_in l1 2 → (l1 = 0 ∨ l1 = 1) → ∀ b : Int32, (b = 0 → okOq9 (fun v => ¬ w.1 119 v = 0) C (w.1 0 24).toInt.toNat (w.1 0 23).toInt lm l1 l2 l3) → (¬ b = 0 → ¬ okOq9 (fun v => ¬ w.1 119 v = 0) C (w.1 0 24).toInt.toNat (w.1 0 23).toInt lm l1 l2 l3) → MT G (D + 1) z_outcome 72 [(0, vr 0), (1, vi l1), (2, vi l2), (3, vi l3)] [vi b, vr 0] y (ri F) := by
    intro wv hw b hb hb2
    refine sg_outcome_72 _ _ _ _ (sc_refk b 2 hy (by decide) (fun b0 => ⟨fun _ => ?_, fun q => absurd rfl q⟩) (fun nb y' m => ⟨fun q => absurd q (by decide), fun _ => ri_i (hF _ y' (an_2q9 hm ⟨hw, hb2 nb⟩ m))⟩))
    have hk := hb b0
    obtain ⟨v, v01, ev, tr, ⟨i0, i1⟩, j0, j1⟩ := id hk
    obtain ⟨⟨s1, s2, s3⟩, s4⟩ := JH_ousq9 h v01 tr
    have v6 : l1.toNatClampNeg = v := by rcases v01 with e9 | e9 <;> rw [ev, e9] <;> rfl
    obtain ⟨r0, hr0⟩ : ∃ r0, (ouLq9 C (w.1 0 24).toInt.toNat lm v)[l2.toInt.toNat]? = some r0 := ⟨_, List.getElem?_eq_getElem (by omega)⟩
    have l0 := s4 r0 (List.mem_of_getElem? hr0)
    obtain ⟨g1, g2, -⟩ := s3 _ r0 hr0
    obtain ⟨u, hu⟩ : ∃ u, r0[l3.toInt.toNat]? = some u := ⟨_, List.getElem?_eq_getElem (by omega)⟩
    rw [t72eq9 wv v6 (i := l2) (I := l2.toInt.toNat) (c := l3) (c' := l3.toInt.toNat) (by omega) (by omega) (by omega) (by omega), gy 129 (by omega), g2 _ u hu]
    exact ⟨t72 wv (by omega) (by omega) (by omega) (by omega), ri_i (hF _ y (an_3q9 qy (fun z => z hw) (fun z => z.2 hk) hy.2 ⟨⟨v, v01, ev, r0, hr0, hu⟩, rd_0q9 hy.1 hm⟩))⟩
  have p20 : ∀ b : Int32, (b = 0 → vp_in l1 2 ∧ (l1 = 0 ∨ l1 = 1)) → (¬ b = 0 → e1Ouq9 l1) → MT G (D + 1) z_outcome 20 [(0, vr 0), (1, vi l1), (2, vi l2), (3, vi l3)] [vi b, vr 0] y (ri F) := by
    intro b hb hb2
    refine sg_outcome_20 _ _ _ _ (sc_refk b 1 hy (by decide) (fun b0 => ⟨fun q => absurd rfl q, fun _ => ?_⟩) (fun nb y' m => ⟨fun _ => ri_i (hF _ y' (an_1q9 hm (hb2 nb) m)), fun q => absurd q (by decide)⟩))
    obtain ⟨wv, hw⟩ := hb b0
    obtain ⟨v, w01, ew, ewn⟩ := w_nat hw
    have vq : ∀ v', (v' = 0 ∨ v' = 1) → l1 = Int32.ofNat v' → v' = v := fun v' h1 h2 => wn_eq h1 w01 h2 ew
    rw [ewn, gy 119 (by omega), gy 123 (by omega), y23]
    refine ⟨wv, fun t0 => p72 wv hw 1 (fun z => absurd z (by decide)) (fun _ => ?_), fun tr => ⟨wv, ?_⟩⟩
    · rintro ⟨v', a, b', c, -⟩
      rw [vq v' a b'] at c
      exact c t0
    obtain ⟨⟨s1, s2, s3⟩, s4⟩ := JH_ousq9 h w01 tr
    have c23 : 0 ≤ (w.1 0 23).toInt ∧ (w.1 0 23).toInt ≤ 24 := by
      have nz := (JH_trq9 h v w01).mpr tr
      have hx := ((JH_Tq9 h v w01).2 nz).1.1.1
      rw [← (JH_9vq9 h v w01 nz).1]
      exact (hH.2.1 hx).1.1
    have m1 : (w.1 123 v - 1).toInt = (w.1 123 v).toInt - 1 := by rw [t_sub (by rw [k1]; omega) (by rw [k1]; omega), k1]
    have m2 : (w.1 0 23 - 1).toInt = (w.1 0 23).toInt - 1 := by rw [t_sub (by rw [k1]; omega) (by rw [k1]; omega), k1]
    refine sp_in _ _ _ ⟨fun c => p72 wv hw 1 (fun z => absurd z (by decide)) (fun _ => ?_), fun c => ?_⟩
    · rintro ⟨v', a, b', -, e, -⟩
      rw [vq v' a b'] at e
      refine bi_eq.mp c ?_
      rw [t_le, t_le, k0, m1]
      omega
    have c1 := bi_ne.mp c
    rw [t_le, t_le, k0, m1] at c1
    rw [y23]
    refine sp_in _ _ _ ⟨fun c => p72 wv hw 0 (fun _ => ⟨v, w01, ew, tr, by omega, ?_⟩) (fun z => absurd rfl z), fun c => p72 wv hw 1 (fun z => absurd z (by decide)) (fun _ => ?_)⟩
    · have c2 := bi_ne.mp c
      rw [t_le, t_le, k0, m2] at c2
      omega
    · rintro ⟨v', a, b', -, -, e⟩
      refine bi_eq.mp c ?_
      rw [t_le, t_le, k0, m2]
      omega
  refine sp_in _ _ _ ⟨fun c => p20 0 (fun _ => w_in (bi_ne.mp c)) (fun z => absurd rfl z), fun c => p20 1 (fun q => absurd q (by decide)) (fun _ hg => bi_eq.mp c ?_)⟩
  rcases hg with e9 | e9 <;> rw [e9]
  · exact ⟨by decide, by decide⟩
  · exact ⟨by decide, by decide⟩
/-- rows of both ways: all the same, or one place where they differ -/
theorem ou_sameq9 {L K : List (List Int32)} {N : Nat} (hL : OUsq9 w 0 L) (hK : OUsq9 w 1 K) (e : L.length = K.length) (lL : ∀ r ∈ L, r.length = N) (lK : ∀ r ∈ K, r.length = N) (g : ∀ j, j < 24 * L.length → w.1 129 j = w.1 129 (72000 + j)) : L = K := by
  refine List.ext_getElem? (fun i => ?_)
  by_cases hi : i < L.length
  · obtain ⟨r, hr⟩ : ∃ r, L[i]? = some r := ⟨_, List.getElem?_eq_getElem hi⟩
    obtain ⟨s, hs⟩ : ∃ s, K[i]? = some s := ⟨_, List.getElem?_eq_getElem (by omega)⟩
    obtain ⟨a1, a2, -⟩ := hL.2.2 i r hr
    obtain ⟨b1, b2, -⟩ := hK.2.2 i s hs
    have lr := lL r (List.mem_of_getElem? hr)
    have ls := lK s (List.mem_of_getElem? hs)
    rw [hr, hs]
    congr 1
    refine List.ext_getElem? (fun c => ?_)
    by_cases hc : c < N
    · obtain ⟨u, hu⟩ : ∃ u, r[c]? = some u := ⟨_, List.getElem?_eq_getElem (by omega)⟩
      obtain ⟨v, hv⟩ : ∃ v, s[c]? = some v := ⟨_, List.getElem?_eq_getElem (by omega)⟩
      rw [hu, hv]
      have p := a2 c u hu
      have q := b2 c v hv
      have gg := g (24 * i + c) (by omega)
      rw [show 72000 * 0 + 24 * i + c = 24 * i + c by omega] at p
      rw [show 72000 * 1 + 24 * i + c = 72000 + (24 * i + c) by omega] at q
      rw [← p, ← q, gg]
    · rw [List.getElem?_eq_none (by omega), List.getElem?_eq_none (by omega)]
  · rw [List.getElem?_eq_none (by omega), List.getElem?_eq_none (by omega)]
theorem ou_diffq9 {L : List (List Int32)} {j : Nat} (hL : OUsq9 w 0 L) (hK : OUsq9 w 1 L) (hj : j < 24 * L.length) : w.1 129 j = w.1 129 (72000 + j) := by
  obtain ⟨i, c, ej, hc⟩ : ∃ i c, j = 24 * i + c ∧ c < 24 := ⟨j / 24, j % 24, by omega, Nat.mod_lt _ (by decide)⟩
  obtain ⟨r, hr⟩ : ∃ r, L[i]? = some r := ⟨_, List.getElem?_eq_getElem (by omega)⟩
  obtain ⟨a1, a2, a3⟩ := hL.2.2 i r hr
  obtain ⟨b1, b2, b3⟩ := hK.2.2 i r hr
  have e0 : 72000 * 0 + 24 * i + c = j := by omega
  have e1 : 72000 * 1 + 24 * i + c = 72000 + j := by omega
  by_cases cr : c < r.length
  · obtain ⟨u, hu⟩ : ∃ u, r[c]? = some u := ⟨_, List.getElem?_eq_getElem cr⟩
    have p := a2 c u hu
    have q := b2 c u hu
    rw [e0] at p
    rw [e1] at q
    rw [p, q]
  · have p := a3 c (by omega) hc
    have q := b3 c (by omega) hc
    rw [e0] at p
    rw [e1] at q
    rw [p, q]
theorem ma_alikeq9 (h : JHq9 C wr n lm x w) (hH : HOI x q) (hm : MI w) (hF : ∀ r w', w'.1 0 0 = 0 → rdMq9 C wr w w' → MI w' → alVq9 (fun v => ¬ w.1 119 v = 0) C (w.1 0 24).toInt.toNat lm r → F r w') : MT G D z_alike 0 [(0, vr 0)] [] w (ri F) := by
  have k0 : (0 : Int32).toInt = 0 := rfl
  have k1 : (1 : Int32).toInt = 1 := rfl
  have k24 : (24 : Int32).toInt = 24 := rfl
  have k72 : (72000 : Int32).toInt = 72000 := rfl
  have e07 : (0 : Int32).toNatClampNeg = 0 := rfl
  have e17 : (1 : Int32).toNatClampNeg = 1 := rfl
  have v0 : vp_in (0 : Int32) 2 := by rw [vp_in_iff]; decide
  have v1 : vp_in (1 : Int32) 2 := by rw [vp_in_iff]; decide
  refine sg_alike_0 (fun y e => ?_)
  have hy := z0_s e
  have qy := (MI_0 hy.1 hm).1
  have gy : ∀ c, ¬ c = 0 → y.1 c = w.1 c := fun c hc => hy.1.2 c hc (by simp)
  have go : ∀ r, alVq9 (fun v => ¬ w.1 119 v = 0) C (w.1 0 24).toInt.toNat lm r → ri F (some (vi r)) y := fun r hr => ri_i (hF r y hy.2 (rd_0q9 hy.1 hm) qy hr)
  rw [e07, e17, gy 119 (by omega), gy 121 (by omega), gy 123 (by omega)]
  have pt : ∀ v, (v = 0 ∨ v = 1) → ¬ w.1 119 v = 0 → (w.1 121 v = 0 ↔ ¬ (twM C lm v).2 = true) := fun v v01 tr => by
    obtain ⟨-, y1, -⟩ := ((JH_Tq9 h v v01).2 ((JH_trq9 h v v01).mpr tr)).2.2
    have y1 : w.1 121 v = if (twM C lm v).2 = true then 1 else 0 := y1
    by_cases c : (twM C lm v).2 = true
    · rw [if_pos c] at y1
      rw [y1]; exact ⟨fun z => absurd z (by decide), fun z => absurd c z⟩
    · rw [if_neg c] at y1
      rw [y1]; exact ⟨fun _ => c, fun _ => rfl⟩
  refine ⟨v0, fun c0 => go _ (Or.inl ⟨fun z => z.1 c0, rfl⟩), fun t0 => ⟨v1, fun c1 => go _ (Or.inl ⟨fun z => z.2.1 c1, rfl⟩), fun t1 => ⟨v0, fun n0 => go _ (Or.inl ⟨fun z => n0 ((pt 0 (Or.inl rfl) t0).mpr z.2.2.1), rfl⟩), fun q0 => ⟨v1, fun q1 => ⟨v0, v1, fun eq => ?_, fun ne => ?_⟩, fun n1 => go _ (Or.inl ⟨fun z => n1 ((pt 1 (Or.inr rfl) t1).mpr z.2.2.2), rfl⟩)⟩⟩⟩⟩
  rotate_left
  · have aq : alQq9 (fun v => ¬ w.1 119 v = 0) C lm := ⟨t0, t1, (pt 0 (Or.inl rfl) t0).mp q0, (pt 1 (Or.inr rfl) t1).mp q1⟩
    refine go _ (Or.inr ⟨aq, Or.inr ⟨fun z => ne ?_, rfl⟩⟩)
    rw [t_eq, (JH_ousq9 h (Or.inl rfl) t0).1.1, (JH_ousq9 h (Or.inr rfl) t1).1.1, z]
  have aq : alQq9 (fun v => ¬ w.1 119 v = 0) C lm := ⟨t0, t1, (pt 0 (Or.inl rfl) t0).mp q0, (pt 1 (Or.inr rfl) t1).mp q1⟩
  obtain ⟨a1, a2⟩ := JH_ousq9 h (Or.inl rfl) t0
  obtain ⟨b1, b2⟩ := JH_ousq9 h (Or.inr rfl) t1
  obtain ⟨L, eL⟩ : ∃ L, L = ouLq9 C (w.1 0 24).toInt.toNat lm 0 := ⟨_, rfl⟩
  obtain ⟨K, eK⟩ : ∃ K, K = ouLq9 C (w.1 0 24).toInt.toNat lm 1 := ⟨_, rfl⟩
  have no : ¬ L = K → ri F (some (vi 0)) y := fun z => go _ (Or.inr ⟨aq, Or.inr ⟨by rw [← eL, ← eK]; exact z, rfl⟩⟩)
  have yes : L = K → ri F (some (vi 1)) y := fun z => go _ (Or.inr ⟨aq, Or.inl ⟨by rw [← eL, ← eK]; exact z, rfl⟩⟩)
  rw [← eL] at a1 a2
  rw [← eK] at b1 b2
  rw [t_eq, a1.1, b1.1] at eq
  have eqn : L.length = K.length := by omega
  have l3 := a1.2.1
  have o0 := a1.1
  obtain ⟨O, hO⟩ : ∃ O, O = w.1 123 0 := ⟨_, rfl⟩
  rw [← hO] at o0
  have o24 : (24 * O).toInt = 24 * (L.length : Nat) := by rw [t_mul (by rw [k24]; omega) (by rw [k24]; omega), k24, o0]
  have y123 : y.1 123 (0 : Int32).toNatClampNeg = O := by rw [gy 123 (by omega), e07, hO]
  have loop : ∀ (m k : Nat) (i : Int32), i.toInt = k → 24 * L.length - k ≤ m → (∀ j, j < k → w.1 129 j = w.1 129 (72000 + j)) → MT G D z_alike 62 [(0, vr 0), (1, vi i)] [] y (ri F) := by
    intro m
    have fin : ∀ (k : Nat) (i : Int32), i.toInt = k → (∀ j, j < k → w.1 129 j = w.1 129 (72000 + j)) → 24 * O ≤ i → ri F (some (vi 1)) y := by
      intro k i ei hk c
      rw [t_le, o24] at c
      exact yes (ou_sameq9 (N := (w.1 0 23).toInt.toNat) a1 b1 eqn (fun r hr => by have := a2 r hr; omega) (fun r hr => by have := b2 r hr; omega) (fun j hj => hk j (by omega)))
    induction m with
    | zero =>
      intro k i ei hn hk
      refine sg_alike_62 _ ⟨v0, ?_⟩
      rw [y123]
      exact ⟨fun c => fin k i ei hk c, fun c => absurd (t_le.mpr (by rw [o24]; clear hk; omega)) c⟩
    | succ m ih =>
      intro k i ei hn hk
      refine sg_alike_62 _ ⟨v0, ?_⟩
      rw [y123]
      refine ⟨fun c => fin k i ei hk c, fun c => ?_⟩
      rw [t_le, o24] at c
      have kl : k < 24 * L.length := by clear hk; omega
      have ii : (i + 1).toInt = ((k + 1 : Nat) : Int) := by clear hk; rw [t_add (by omega) (by omega), k1, ei]; rfl
      have i7 : (72000 + i).toInt = ((72000 + k : Nat) : Int) := by clear hk; rw [t_add (by rw [k72]; omega) (by rw [k72]; omega), k72, ei]; push_cast; rfl
      have c1 : i.toNatClampNeg = k := by rw [t_cl, ei]; rfl
      have c2 : (72000 + i).toNatClampNeg = 72000 + k := by rw [t_cl, i7]; rfl
      rw [c1, c2, gy 129 (by omega)]
      refine ⟨by clear hk; rw [vp_in_iff]; omega, by clear hk; rw [vp_in_iff, i7]; push_cast; omega, fun e9 => ih (k + 1) _ ii (by clear hk; omega) (fun j hj => ?_), fun ne => no (fun z => ne ?_)⟩
      · by_cases ej : j = k
        · rw [ej]; exact e9
        · exact hk j (by clear hk; omega)
      · rw [← z] at b1
        exact ou_diffq9 a1 b1 kl
  exact loop (24 * L.length) 0 0 rfl (by omega) (fun j hj => absurd hj (Nat.not_lt_zero _))
theorem ja_alikeq9 {r9 r : Int32} {y w' : gd} {C : gCo} {wr n : Nat} {lm : Nat → Nat} {x w : gd} {q : kP} (h : JHq9 C wr n lm x w) (hH : HOI y q) (k : KRdq9 x y) (ka : alVq9 (fun v => ¬ x.1 (260 + 20 * v) 0 = 0) C (x.1 60 9).toInt.toNat lm r9) (m : rdMq9 C wr w w') (ma : alVq9 (fun v => ¬ w.1 119 v = 0) C (w.1 0 24).toInt.toNat lm r) : JR3q9 y w' ∧ r9 = r :=
  ⟨JQ_rdq9 h hH k m, alV_eqq9 ⟨fun z => ⟨(JH_trq9 h 0 (Or.inl rfl)).mp z.1, (JH_trq9 h 1 (Or.inr rfl)).mp z.2.1, z.2.2⟩, fun z => ⟨(JH_trq9 h 0 (Or.inl rfl)).mpr z.1, (JH_trq9 h 1 (Or.inr rfl)).mpr z.2.1, z.2.2⟩⟩ (fun z => by rw [(JH_9vq9 h 0 (Or.inl rfl) z.1).2]) ka ma⟩
end MOC

