/-! the class's world -/
def ks_X0 : List Bool := [true, true, true, false, true, false, false, true, true, false, false, true, true, false, false, true, false, true]
def ks_X1 : List Bool := [false, false, false, false, false, false, false]
def ks_X2 : List Bool := [true, true, true, true, true, false, false, true, true, true]
def ks_X3 : List Bool := [true, true, true, true, true, true, false, false, true, true, false, false, false]
def ks_X4 : List Bool := [true, true, false, false, false, true, true, true, true, true, true, true, true, true, true, true, true, true]
def ks_X5 : List Bool := [true, true, true, false, true, false, false, false, false, false, true, true, true, false, false]
def ks_X6 : List Bool := [true, true, true, true, true, true, false, true, false, true, false, false]
def ks_X7 : List Bool := [true, true, true, true, false, false, false, false, true, false, true, true, true, false, true, true, true, false]
def ks_X8 : List Bool := [true, true, true, true, true, true, true, true, true, false]
def ks_X9 : List Bool := [true, false, true, true, true, true, true, false, false, false]
def ks_X10 : List Bool := [false, false, false, false, false, false, true, true, true, true, true, true, true, true]
def ks_X11 : List Bool := [true, true, true, true, true, true, true, true, true, false, false, false, false]
def kKa : List gk := [.inl (11, ks_X11), .inr (.int, 0), .inr (.int, 0), .inr (.int, 0), .inr (.int, 0), .inr (.int, 0), .inr (.int, 0), .inr ((.object "ScheduleHouse$Trial"), 2), .inr (.int, 0), .inr (.int, 0), .inr (.int, 0), .inr (.int, 0), .inr (.int, 0), .inr (.int, 0), .inr (.int, 0), .inr (.int, 0), .inr (.int, 0), .inr (.int, 0), .inr (.int, 0), .inr (.int, 0), .inl (9, ks_X9), .inr (.byte, 3000), .inr (.int, 0), .inr (.int, 702), .inr (.int, 702), .inr (.int, 702), .inr (.int, 702), .inr (.int, 702), .inr (.int, 0), .inr (.int, 0), .inr (.int, 0), .inr (.int, 0), .inr (.int, 0), .inr (.int, 0), .inr (.int, 0), .inr (.int, 0), .inr (.int, 0), .inr (.int, 0), .inr (.int, 0), .inr (.int, 0), .inl (6, ks_X6), .inr (.int, 0), .inr (.int, 702), .inr (.int, 702), .inr (.int, 24), .inr (.int, 24), .inr (.int, 24), .inr (.int, 0), .inr (.int, 6), .inr (.int, 0), .inr (.int, 6), .inr (.int, 0), .inr (.int, 0), .inr (.int, 0), .inr (.int, 0), .inr (.int, 0), .inr (.int, 0), .inr (.int, 0), .inr (.int, 0), .inr (.int, 0), .inl (0, ks_X0), .inr (.int, 0), .inr (.int, 800), .inr (.int, 800), .inr (.int, 0), .inr (.int, 40), .inr (.int, 0), .inr (.int, 0), .inr (.int, 24), .inr (.boolean, 24), .inr (.int, 0), .inr (.int, 0), .inr (.int, 6), .inr (.boolean, 6), .inr (.int, 0), .inr (.int, 0), .inr (.int, 4), .inr (.int, 0), .inr (.int, 4), .inr (.int, 0), .inl (8, ks_X8), .inr (.int, 400), .inr (.int, 400), .inr (.int, 400), .inr (.int, 400), .inr (.int, 400), .inr (.int, 400), .inr (.int, 400), .inr (.int, 400), .inr (.int, 400), .inr (.int, 0), .inr (.int, 0), .inr (.int, 0), .inr (.int, 0), .inr (.int, 0), .inr (.int, 0), .inr (.int, 0), .inr (.int, 0), .inr (.int, 0), .inr (.int, 0), .inl (7, ks_X7), .inr (.int, 0), .inr (.int, 0), .inr (.int, 0), .inr (.int, 0), .inr (.int, 0), .inr (.int, 0), .inr (.int, 0), .inr (.int, 0), .inr (.int, 8), .inr (.int, 0), .inr (.int, 20), .inr (.int, 20), .inr (.int, 20), .inr (.int, 0), .inr (.int, 20), .inr (.int, 20), .inr (.int, 20), .inr (.int, 0), .inr (.int, 0), .inl (5, ks_X5), .inr (.int, 0), .inr (.int, 0), .inr (.int, 0), .inr (.int, 0), .inr (.int, 228), .inr (.int, 0), .inr (.int, 0), .inr (.int, 0), .inr (.int, 0), .inr (.int, 0), .inr (.int, 84), .inr (.int, 84), .inr (.int, 84), .inr (.int, 0), .inr (.int, 0), .inr (.int, 0), .inr (.int, 0), .inr (.int, 0), .inr (.int, 0), .inl (1, ks_X1), .inr (.int, 0), .inr (.int, 0), .inr (.int, 0), .inr (.int, 0), .inr (.int, 0), .inr (.int, 0), .inr (.int, 0), .inr (.int, 0), .inr (.int, 0), .inr (.int, 0), .inr (.int, 0), .inr (.int, 0), .inr (.int, 0), .inr (.int, 0), .inr (.int, 0), .inr (.int, 0), .inr (.int, 0), .inr (.int, 0), .inr (.int, 0), .inl (4, ks_X4), .inr (.int, 0), .inr (.int, 400), .inr (.int, 0), .inr (.int, 0), .inr (.int, 0), .inr (.int, 400), .inr (.int, 400), .inr (.int, 400), .inr (.int, 400), .inr (.int, 400), .inr (.boolean, 400), .inr (.int, 400), .inr (.int, 2400), .inr (.int, 6), .inr (.int, 36), .inr (.int, 36), .inr (.int, 144), .inr (.int, 36), .inr (.int, 0), .inl (3, ks_X3), .inr (.int, 12), .inr (.int, 12), .inr (.int, 12), .inr (.int, 12), .inr (.int, 12), .inr (.int, 12), .inr (.int, 0), .inr (.int, 0), .inr (.int, 6), .inr ((.array .int), 13), .inr (.int, 0), .inr (.int, 0), .inr (.int, 0), .inr (.int, 0), .inr (.int, 0), .inr (.int, 0), .inr (.int, 0), .inr (.int, 0), .inr (.int, 0), .inl (2, ks_X2), .inr (.int, 0), .inr (.int, 0), .inr ((.array .int), 3000), .inr (.int, 3000), .inr (.int, 8192), .inr (.int, 0), .inr (.int, 0), .inr (.int, 0), .inr (.int, 6), .inr (.int, 6), .inr (.int, 0), .inr (.int, 0), .inr (.int, 0), .inr (.int, 0), .inr (.int, 0), .inr (.int, 0), .inr (.int, 0), .inr (.int, 0), .inr (.int, 0), .inl (5, ks_X5), .inr (.int, 0), .inr (.int, 0), .inr (.int, 0), .inr (.int, 0), .inr (.int, 228), .inr (.int, 0), .inr (.int, 0), .inr (.int, 0), .inr (.int, 0), .inr (.int, 0), .inr (.int, 84), .inr (.int, 84), .inr (.int, 84), .inr (.int, 0), .inr (.int, 0), .inr (.int, 0), .inr (.int, 0), .inr (.int, 0), .inr (.int, 0), .inl (1, ks_X1), .inr (.int, 0), .inr (.int, 0), .inr (.int, 0), .inr (.int, 0), .inr (.int, 0), .inr (.int, 0), .inr (.int, 0), .inr (.int, 0), .inr (.int, 0), .inr (.int, 0), .inr (.int, 0), .inr (.int, 0), .inr (.int, 0), .inr (.int, 0), .inr (.int, 0), .inr (.int, 0), .inr (.int, 0), .inr (.int, 0), .inr (.int, 0), .inl (10, ks_X10), .inr (.int, 0), .inr (.int, 0), .inr (.int, 0), .inr (.int, 0), .inr (.int, 0), .inr (.int, 0), .inr (.int, 11), .inr (.int, 24), .inr (.int, 6), .inr (.int, 3000), .inr (.int, 3000), .inr (.int, 3000), .inr ((.array .int), 3000), .inr (.int, 3000), .inr (.int, 0), .inr (.int, 0), .inr (.int, 0), .inr (.int, 0), .inr (.int, 0), .inl (10, ks_X10), .inr (.int, 0), .inr (.int, 0), .inr (.int, 0), .inr (.int, 0), .inr (.int, 0), .inr (.int, 0), .inr (.int, 11), .inr (.int, 24), .inr (.int, 6), .inr (.int, 3000), .inr (.int, 3000), .inr (.int, 3000), .inr ((.array .int), 3000), .inr (.int, 3000), .inr (.int, 0), .inr (.int, 0), .inr (.int, 0), .inr (.int, 0), .inr (.int, 0)]
def kRa : List (List (Option Nat)) := [[some 20, some 40, some 60, some 100, some 120, some 160, some 7, none, none, none, none, none, none], [], [], [], [], [], [], [], [], [], [], [], [], [], [], [], [], [], [], [], [some 21, none, some 23, some 24, some 25, some 26, some 27, none, none, none], [], [], [], [], [], [], [], [], [], [], [], [], [], [], [], [], [], [], [], [some 20, some 42, some 43, some 44, some 45, some 46, none, some 48, none, some 50, none, none], [], [], [], [], [], [], [], [], [], [], [], [], [], [], [], [], [], [], [], [some 80, some 62, some 63, none, some 65, none, none, some 68, some 69, none, none, some 72, some 73, none, none, some 76, none, some 78], [], [], [], [], [], [], [], [], [], [], [], [], [], [], [], [], [], [], [], [some 81, some 82, some 83, some 84, some 85, some 86, some 87, some 88, some 89, none], [], [], [], [], [], [], [], [], [], [], [], [], [], [], [], [], [], [], [], [some 20, some 40, some 60, some 80, none, none, none, none, some 109, none, some 111, some 112, some 113, none, some 115, some 116, some 117, none], [], [], [], [], [], [], [], [], [], [], [], [], [], [], [], [], [], [], [], [some 60, some 80, some 140, none, some 125, none, none, none, none, none, some 131, some 132, some 133, none, none], [], [], [], [], [], [], [], [], [], [], [], [], [], [], [], [], [], [], [], [none, none, none, none, none, none, none], [], [], [], [], [], [], [], [], [], [], [], [], [], [], [], [], [], [], [], [some 60, some 162, none, none, none, some 166, some 167, some 168, some 169, some 170, some 171, some 172, some 173, some 174, some 175, some 176, some 177, some 178], [], [], [], [], [], [], [], [], [], [], [], [], [], [], [], [], [], [], [], [some 181, some 182, some 183, some 184, some 185, some 186, none, none, some 189, some 190, none, none, none], [], [], [], [], [], [], [], [], [], [], [], [], [], [], [], [], [], [], [], [some 60, some 220, some 203, some 204, some 205, none, none, none, some 209, some 210], [], [], [], [], [], [], [], [], [], [], [], [], [], [], [], [], [], [], [], [some 60, some 80, some 240, none, some 225, none, none, none, none, none, some 231, some 232, some 233, none, none], [], [], [], [], [], [], [], [], [], [], [], [], [], [], [], [], [], [], [], [none, none, none, none, none, none, none], [], [], [], [], [], [], [], [], [], [], [], [], [], [], [], [], [], [], [], [none, none, none, none, none, none, some 267, some 268, some 269, some 270, some 271, some 272, some 273, some 274], [], [], [], [], [], [], [], [], [], [], [], [], [], [], [], [], [], [], [], [none, none, none, none, none, none, some 287, some 288, some 289, some 290, some 291, some 292, some 293, some 294], [], [], [], [], [], [], [], [], [], [], [], [], [], [], [], [], [], [], []]
def kK (c : Nat) : gk := if c < 300 then kKa.getD c (.inr (.int, 0)) else if c < 900 then .inr (.int, 14) else if c < 4000 then .inr (.int, 228) else .inr (.int, 24)
/-- what was made: history, explorer, the two trials, the explorer's trial, rows kept, rows of outcomes, live cells, counts -/
def kP : Type := (Bool × Bool × Bool × Bool × Option Nat) × (Nat × Nat × Nat) × List Nat × Nat × Nat
def kP.hi (q : kP) : Bool := q.1.1
def kP.ex (q : kP) : Bool := q.1.2.1
def kP.t0 (q : kP) : Bool := q.1.2.2.1
def kP.t1 (q : kP) : Bool := q.1.2.2.2.1
def kP.et (q : kP) : Option Nat := q.1.2.2.2.2
def kP.kn (q : kP) : Nat := q.2.1.1
def kP.o0 (q : kP) : Nat := q.2.1.2.1
def kP.o1 (q : kP) : Nat := q.2.1.2.2
def kP.L (q : kP) : List Nat := q.2.2.1
def kP.ce (q : kP) : Nat := q.2.2.2.1
def kP.sl (q : kP) : Nat := q.2.2.2.2
def kmk (hi ex t0 t1 : Bool) (et : Option Nat) (kn o0 o1 : Nat) (L : List Nat) (ce sl : Nat) : kP := ((hi, ex, t0, t1, et), (kn, o0, o1), L, ce, sl)
def kR (q : kP) (c k : Nat) : Option Nat := if c = 0 ∧ k = 7 then (if q.ex = true then some 200 else none) else if c = 0 ∧ k = 8 then (if q.hi = true then some 180 else none) else if c = 7 then (if k = 0 then (if q.t0 = true then some 260 else none) else if k = 1 then (if q.t1 = true then some 280 else none) else none) else if c = 200 ∧ k = 7 then q.et else if c = 203 then (if k < q.kn then some (1000 + k) else none) else if c = 273 then (if k < q.o0 then some (4000 + k) else none) else if c = 293 then (if k < q.o1 then some (7000 + k) else none) else if c = 190 then (if k < 13 then some (300 + k) else none) else (kRa.getD c []).getD k none
def kf (q : kP) : gf := (kR q, q.L, q.ce, q.sl)
def kl0 : List Nat := [0, 7, 20, 21, 23, 24, 25, 26, 27, 40, 42, 43, 44, 45, 46, 48, 50, 60, 62, 63, 65, 68, 69, 72, 73, 76, 78, 80, 81, 82, 83, 84, 85, 86, 87, 88, 89, 100, 109, 111, 112, 113, 115, 116, 117, 120, 125, 131, 132, 133, 140, 160, 162, 166, 167, 168, 169, 170, 171, 172, 173, 174, 175, 176, 177, 178]
def klH : List Nat := [180, 181, 182, 183, 184, 185, 186, 189, 190, 300, 301, 302, 303, 304, 305, 306, 307, 308, 309, 310, 311, 312]
def klE : List Nat := [200, 203, 204, 205, 209, 210, 220, 225, 231, 232, 233, 240]
def klA : List Nat := [260, 267, 268, 269, 270, 271, 272, 273, 274]
def klB : List Nat := [280, 287, 288, 289, 290, 291, 292, 293, 294]
/-- the live cells are those that were made -/
def kV (q : kP) : Prop := (∀ c ∈ kl0, c ∈ q.L) ∧ (q.hi = true → ∀ c ∈ klH, c ∈ q.L) ∧ (q.ex = true → ∀ c ∈ klE, c ∈ q.L) ∧ (q.t0 = true → ∀ c ∈ klA, c ∈ q.L) ∧ (q.t1 = true → ∀ c ∈ klB, c ∈ q.L) ∧ (∀ k, k < q.kn → 1000 + k ∈ q.L) ∧ (∀ k, k < q.o0 → 4000 + k ∈ q.L) ∧ ∀ k, k < q.o1 → 7000 + k ∈ q.L
def kiM (q : kP) (o : Nat) : Prop := o = 120 ∨ (o = 220 ∧ q.ex = true)
def kiD (q : kP) (o : Nat) : Prop := o = 140 ∨ (o = 240 ∧ q.ex = true)
def kiT (q : kP) (o : Nat) : Prop := (o = 260 ∧ q.t0 = true) ∨ (o = 280 ∧ q.t1 = true)
theorem kiM_D {q : kP} {o : Nat} (h : kiM q o) : kiD q (o + 20) := by
  rcases h with rfl | ⟨rfl, h⟩
  · exact Or.inl rfl
  · exact Or.inr ⟨rfl, h⟩
/-- what stays while the class runs: launch, classes, array classes, lists of words -/
abbrev kG : Type := Launch × va_G × (FieldType → ClassId) × (Nat → Nat)
abbrev kE (G : kG) : gE := (G.1, G.2.1, G.2.2.1, kK, G.2.2.2)
def kq (q : kP) (P : Option gv → gd → Prop) : gr → gd → gf → Prop := fun o x f => f = kf q ∧ ∃ v, o = .inl v ∧ P v x
/-- a method that makes nothing and throws nothing -/
abbrev KT (G : kG) (q : kP) (d : Nat) (y : gy) (pc : Nat) (lv : List (Nat × gv)) (st : List gv) (x : gd) (P : Option gv → gd → Prop) : Prop := T (kE G) d y pc lv st x (kf q) (kq q P)
theorem kk_0 : kK 0 = .inl (11, ks_X11) := rfl
theorem kl_0 {q : kP} (hq : kV q) : 0 ∈ (kf q).2.1 := hq.1 0 (by decide)
theorem kr_0_0 {q : kP} : (kf q).1 0 0 = some 20 := rfl
theorem kr_0_1 {q : kP} : (kf q).1 0 1 = some 40 := rfl
theorem kr_0_2 {q : kP} : (kf q).1 0 2 = some 60 := rfl
theorem kr_0_3 {q : kP} : (kf q).1 0 3 = some 100 := rfl
theorem kr_0_4 {q : kP} : (kf q).1 0 4 = some 120 := rfl
theorem kr_0_5 {q : kP} : (kf q).1 0 5 = some 160 := rfl
theorem kr_0_6 {q : kP} : (kf q).1 0 6 = some 7 := rfl
theorem kk_7 : kK 7 = .inr ((.object "ScheduleHouse$Trial"), 2) := rfl
theorem kl_7 {q : kP} (hq : kV q) : 7 ∈ (kf q).2.1 := hq.1 7 (by decide)
theorem kk_20 : kK 20 = .inl (9, ks_X9) := rfl
theorem kl_20 {q : kP} (hq : kV q) : 20 ∈ (kf q).2.1 := hq.1 20 (by decide)
theorem kr_20_0 {q : kP} : (kf q).1 20 0 = some 21 := rfl
theorem kk_21 : kK 21 = .inr (.byte, 3000) := rfl
theorem kl_21 {q : kP} (hq : kV q) : 21 ∈ (kf q).2.1 := hq.1 21 (by decide)
theorem kr_20_2 {q : kP} : (kf q).1 20 2 = some 23 := rfl
theorem kk_23 : kK 23 = .inr (.int, 702) := rfl
theorem kl_23 {q : kP} (hq : kV q) : 23 ∈ (kf q).2.1 := hq.1 23 (by decide)
theorem kr_20_3 {q : kP} : (kf q).1 20 3 = some 24 := rfl
theorem kk_24 : kK 24 = .inr (.int, 702) := rfl
theorem kl_24 {q : kP} (hq : kV q) : 24 ∈ (kf q).2.1 := hq.1 24 (by decide)
theorem kr_20_4 {q : kP} : (kf q).1 20 4 = some 25 := rfl
theorem kk_25 : kK 25 = .inr (.int, 702) := rfl
theorem kl_25 {q : kP} (hq : kV q) : 25 ∈ (kf q).2.1 := hq.1 25 (by decide)
theorem kr_20_5 {q : kP} : (kf q).1 20 5 = some 26 := rfl
theorem kk_26 : kK 26 = .inr (.int, 702) := rfl
theorem kl_26 {q : kP} (hq : kV q) : 26 ∈ (kf q).2.1 := hq.1 26 (by decide)
theorem kr_20_6 {q : kP} : (kf q).1 20 6 = some 27 := rfl
theorem kk_27 : kK 27 = .inr (.int, 702) := rfl
theorem kl_27 {q : kP} (hq : kV q) : 27 ∈ (kf q).2.1 := hq.1 27 (by decide)
theorem kk_40 : kK 40 = .inl (6, ks_X6) := rfl
theorem kl_40 {q : kP} (hq : kV q) : 40 ∈ (kf q).2.1 := hq.1 40 (by decide)
theorem kr_40_0 {q : kP} : (kf q).1 40 0 = some 20 := rfl
theorem kr_40_1 {q : kP} : (kf q).1 40 1 = some 42 := rfl
theorem kk_42 : kK 42 = .inr (.int, 702) := rfl
theorem kl_42 {q : kP} (hq : kV q) : 42 ∈ (kf q).2.1 := hq.1 42 (by decide)
theorem kr_40_2 {q : kP} : (kf q).1 40 2 = some 43 := rfl
theorem kk_43 : kK 43 = .inr (.int, 702) := rfl
theorem kl_43 {q : kP} (hq : kV q) : 43 ∈ (kf q).2.1 := hq.1 43 (by decide)
theorem kr_40_3 {q : kP} : (kf q).1 40 3 = some 44 := rfl
theorem kk_44 : kK 44 = .inr (.int, 24) := rfl
theorem kl_44 {q : kP} (hq : kV q) : 44 ∈ (kf q).2.1 := hq.1 44 (by decide)
theorem kr_40_4 {q : kP} : (kf q).1 40 4 = some 45 := rfl
theorem kk_45 : kK 45 = .inr (.int, 24) := rfl
theorem kl_45 {q : kP} (hq : kV q) : 45 ∈ (kf q).2.1 := hq.1 45 (by decide)
theorem kr_40_5 {q : kP} : (kf q).1 40 5 = some 46 := rfl
theorem kk_46 : kK 46 = .inr (.int, 24) := rfl
theorem kl_46 {q : kP} (hq : kV q) : 46 ∈ (kf q).2.1 := hq.1 46 (by decide)
theorem kr_40_7 {q : kP} : (kf q).1 40 7 = some 48 := rfl
theorem kk_48 : kK 48 = .inr (.int, 6) := rfl
theorem kl_48 {q : kP} (hq : kV q) : 48 ∈ (kf q).2.1 := hq.1 48 (by decide)
theorem kr_40_9 {q : kP} : (kf q).1 40 9 = some 50 := rfl
theorem kk_50 : kK 50 = .inr (.int, 6) := rfl
theorem kl_50 {q : kP} (hq : kV q) : 50 ∈ (kf q).2.1 := hq.1 50 (by decide)
theorem kk_60 : kK 60 = .inl (0, ks_X0) := rfl
theorem kl_60 {q : kP} (hq : kV q) : 60 ∈ (kf q).2.1 := hq.1 60 (by decide)
theorem kr_60_0 {q : kP} : (kf q).1 60 0 = some 80 := rfl
theorem kr_60_1 {q : kP} : (kf q).1 60 1 = some 62 := rfl
theorem kk_62 : kK 62 = .inr (.int, 800) := rfl
theorem kl_62 {q : kP} (hq : kV q) : 62 ∈ (kf q).2.1 := hq.1 62 (by decide)
theorem kr_60_2 {q : kP} : (kf q).1 60 2 = some 63 := rfl
theorem kk_63 : kK 63 = .inr (.int, 800) := rfl
theorem kl_63 {q : kP} (hq : kV q) : 63 ∈ (kf q).2.1 := hq.1 63 (by decide)
theorem kr_60_4 {q : kP} : (kf q).1 60 4 = some 65 := rfl
theorem kk_65 : kK 65 = .inr (.int, 40) := rfl
theorem kl_65 {q : kP} (hq : kV q) : 65 ∈ (kf q).2.1 := hq.1 65 (by decide)
theorem kr_60_7 {q : kP} : (kf q).1 60 7 = some 68 := rfl
theorem kk_68 : kK 68 = .inr (.int, 24) := rfl
theorem kl_68 {q : kP} (hq : kV q) : 68 ∈ (kf q).2.1 := hq.1 68 (by decide)
theorem kr_60_8 {q : kP} : (kf q).1 60 8 = some 69 := rfl
theorem kk_69 : kK 69 = .inr (.boolean, 24) := rfl
theorem kl_69 {q : kP} (hq : kV q) : 69 ∈ (kf q).2.1 := hq.1 69 (by decide)
theorem kr_60_11 {q : kP} : (kf q).1 60 11 = some 72 := rfl
theorem kk_72 : kK 72 = .inr (.int, 6) := rfl
theorem kl_72 {q : kP} (hq : kV q) : 72 ∈ (kf q).2.1 := hq.1 72 (by decide)
theorem kr_60_12 {q : kP} : (kf q).1 60 12 = some 73 := rfl
theorem kk_73 : kK 73 = .inr (.boolean, 6) := rfl
theorem kl_73 {q : kP} (hq : kV q) : 73 ∈ (kf q).2.1 := hq.1 73 (by decide)
theorem kr_60_15 {q : kP} : (kf q).1 60 15 = some 76 := rfl
theorem kk_76 : kK 76 = .inr (.int, 4) := rfl
theorem kl_76 {q : kP} (hq : kV q) : 76 ∈ (kf q).2.1 := hq.1 76 (by decide)
theorem kr_60_17 {q : kP} : (kf q).1 60 17 = some 78 := rfl
theorem kk_78 : kK 78 = .inr (.int, 4) := rfl
theorem kl_78 {q : kP} (hq : kV q) : 78 ∈ (kf q).2.1 := hq.1 78 (by decide)
theorem kk_80 : kK 80 = .inl (8, ks_X8) := rfl
theorem kl_80 {q : kP} (hq : kV q) : 80 ∈ (kf q).2.1 := hq.1 80 (by decide)
theorem kr_80_0 {q : kP} : (kf q).1 80 0 = some 81 := rfl
theorem kk_81 : kK 81 = .inr (.int, 400) := rfl
theorem kl_81 {q : kP} (hq : kV q) : 81 ∈ (kf q).2.1 := hq.1 81 (by decide)
theorem kr_80_1 {q : kP} : (kf q).1 80 1 = some 82 := rfl
theorem kk_82 : kK 82 = .inr (.int, 400) := rfl
theorem kl_82 {q : kP} (hq : kV q) : 82 ∈ (kf q).2.1 := hq.1 82 (by decide)
theorem kr_80_2 {q : kP} : (kf q).1 80 2 = some 83 := rfl
theorem kk_83 : kK 83 = .inr (.int, 400) := rfl
theorem kl_83 {q : kP} (hq : kV q) : 83 ∈ (kf q).2.1 := hq.1 83 (by decide)
theorem kr_80_3 {q : kP} : (kf q).1 80 3 = some 84 := rfl
theorem kk_84 : kK 84 = .inr (.int, 400) := rfl
theorem kl_84 {q : kP} (hq : kV q) : 84 ∈ (kf q).2.1 := hq.1 84 (by decide)
theorem kr_80_4 {q : kP} : (kf q).1 80 4 = some 85 := rfl
theorem kk_85 : kK 85 = .inr (.int, 400) := rfl
theorem kl_85 {q : kP} (hq : kV q) : 85 ∈ (kf q).2.1 := hq.1 85 (by decide)
theorem kr_80_5 {q : kP} : (kf q).1 80 5 = some 86 := rfl
theorem kk_86 : kK 86 = .inr (.int, 400) := rfl
theorem kl_86 {q : kP} (hq : kV q) : 86 ∈ (kf q).2.1 := hq.1 86 (by decide)
theorem kr_80_6 {q : kP} : (kf q).1 80 6 = some 87 := rfl
theorem kk_87 : kK 87 = .inr (.int, 400) := rfl
theorem kl_87 {q : kP} (hq : kV q) : 87 ∈ (kf q).2.1 := hq.1 87 (by decide)
theorem kr_80_7 {q : kP} : (kf q).1 80 7 = some 88 := rfl
theorem kk_88 : kK 88 = .inr (.int, 400) := rfl
theorem kl_88 {q : kP} (hq : kV q) : 88 ∈ (kf q).2.1 := hq.1 88 (by decide)
theorem kr_80_8 {q : kP} : (kf q).1 80 8 = some 89 := rfl
theorem kk_89 : kK 89 = .inr (.int, 400) := rfl
theorem kl_89 {q : kP} (hq : kV q) : 89 ∈ (kf q).2.1 := hq.1 89 (by decide)
theorem kk_100 : kK 100 = .inl (7, ks_X7) := rfl
theorem kl_100 {q : kP} (hq : kV q) : 100 ∈ (kf q).2.1 := hq.1 100 (by decide)
theorem kr_100_0 {q : kP} : (kf q).1 100 0 = some 20 := rfl
theorem kr_100_1 {q : kP} : (kf q).1 100 1 = some 40 := rfl
theorem kr_100_2 {q : kP} : (kf q).1 100 2 = some 60 := rfl
theorem kr_100_3 {q : kP} : (kf q).1 100 3 = some 80 := rfl
theorem kr_100_8 {q : kP} : (kf q).1 100 8 = some 109 := rfl
theorem kk_109 : kK 109 = .inr (.int, 8) := rfl
theorem kl_109 {q : kP} (hq : kV q) : 109 ∈ (kf q).2.1 := hq.1 109 (by decide)
theorem kr_100_10 {q : kP} : (kf q).1 100 10 = some 111 := rfl
theorem kk_111 : kK 111 = .inr (.int, 20) := rfl
theorem kl_111 {q : kP} (hq : kV q) : 111 ∈ (kf q).2.1 := hq.1 111 (by decide)
theorem kr_100_11 {q : kP} : (kf q).1 100 11 = some 112 := rfl
theorem kk_112 : kK 112 = .inr (.int, 20) := rfl
theorem kl_112 {q : kP} (hq : kV q) : 112 ∈ (kf q).2.1 := hq.1 112 (by decide)
theorem kr_100_12 {q : kP} : (kf q).1 100 12 = some 113 := rfl
theorem kk_113 : kK 113 = .inr (.int, 20) := rfl
theorem kl_113 {q : kP} (hq : kV q) : 113 ∈ (kf q).2.1 := hq.1 113 (by decide)
theorem kr_100_14 {q : kP} : (kf q).1 100 14 = some 115 := rfl
theorem kk_115 : kK 115 = .inr (.int, 20) := rfl
theorem kl_115 {q : kP} (hq : kV q) : 115 ∈ (kf q).2.1 := hq.1 115 (by decide)
theorem kr_100_15 {q : kP} : (kf q).1 100 15 = some 116 := rfl
theorem kk_116 : kK 116 = .inr (.int, 20) := rfl
theorem kl_116 {q : kP} (hq : kV q) : 116 ∈ (kf q).2.1 := hq.1 116 (by decide)
theorem kr_100_16 {q : kP} : (kf q).1 100 16 = some 117 := rfl
theorem kk_117 : kK 117 = .inr (.int, 20) := rfl
theorem kl_117 {q : kP} (hq : kV q) : 117 ∈ (kf q).2.1 := hq.1 117 (by decide)
theorem kk_120 : kK 120 = .inl (5, ks_X5) := rfl
theorem kl_120 {q : kP} (hq : kV q) : 120 ∈ (kf q).2.1 := hq.1 120 (by decide)
theorem kr_120_2 {q : kP} : (kf q).1 120 2 = some 140 := rfl
theorem kr_120_4 {q : kP} : (kf q).1 120 4 = some 125 := rfl
theorem kk_125 : kK 125 = .inr (.int, 228) := rfl
theorem kl_125 {q : kP} (hq : kV q) : 125 ∈ (kf q).2.1 := hq.1 125 (by decide)
theorem kr_120_10 {q : kP} : (kf q).1 120 10 = some 131 := rfl
theorem kk_131 : kK 131 = .inr (.int, 84) := rfl
theorem kl_131 {q : kP} (hq : kV q) : 131 ∈ (kf q).2.1 := hq.1 131 (by decide)
theorem kr_120_11 {q : kP} : (kf q).1 120 11 = some 132 := rfl
theorem kk_132 : kK 132 = .inr (.int, 84) := rfl
theorem kl_132 {q : kP} (hq : kV q) : 132 ∈ (kf q).2.1 := hq.1 132 (by decide)
theorem kr_120_12 {q : kP} : (kf q).1 120 12 = some 133 := rfl
theorem kk_133 : kK 133 = .inr (.int, 84) := rfl
theorem kl_133 {q : kP} (hq : kV q) : 133 ∈ (kf q).2.1 := hq.1 133 (by decide)
theorem kk_140 : kK 140 = .inl (1, ks_X1) := rfl
theorem kl_140 {q : kP} (hq : kV q) : 140 ∈ (kf q).2.1 := hq.1 140 (by decide)
theorem kk_160 : kK 160 = .inl (4, ks_X4) := rfl
theorem kl_160 {q : kP} (hq : kV q) : 160 ∈ (kf q).2.1 := hq.1 160 (by decide)
theorem kr_160_0 {q : kP} : (kf q).1 160 0 = some 60 := rfl
theorem kr_160_1 {q : kP} : (kf q).1 160 1 = some 162 := rfl
theorem kk_162 : kK 162 = .inr (.int, 400) := rfl
theorem kl_162 {q : kP} (hq : kV q) : 162 ∈ (kf q).2.1 := hq.1 162 (by decide)
theorem kr_160_5 {q : kP} : (kf q).1 160 5 = some 166 := rfl
theorem kk_166 : kK 166 = .inr (.int, 400) := rfl
theorem kl_166 {q : kP} (hq : kV q) : 166 ∈ (kf q).2.1 := hq.1 166 (by decide)
theorem kr_160_6 {q : kP} : (kf q).1 160 6 = some 167 := rfl
theorem kk_167 : kK 167 = .inr (.int, 400) := rfl
theorem kl_167 {q : kP} (hq : kV q) : 167 ∈ (kf q).2.1 := hq.1 167 (by decide)
theorem kr_160_7 {q : kP} : (kf q).1 160 7 = some 168 := rfl
theorem kk_168 : kK 168 = .inr (.int, 400) := rfl
theorem kl_168 {q : kP} (hq : kV q) : 168 ∈ (kf q).2.1 := hq.1 168 (by decide)
theorem kr_160_8 {q : kP} : (kf q).1 160 8 = some 169 := rfl
theorem kk_169 : kK 169 = .inr (.int, 400) := rfl
theorem kl_169 {q : kP} (hq : kV q) : 169 ∈ (kf q).2.1 := hq.1 169 (by decide)
theorem kr_160_9 {q : kP} : (kf q).1 160 9 = some 170 := rfl
theorem kk_170 : kK 170 = .inr (.int, 400) := rfl
theorem kl_170 {q : kP} (hq : kV q) : 170 ∈ (kf q).2.1 := hq.1 170 (by decide)
theorem kr_160_10 {q : kP} : (kf q).1 160 10 = some 171 := rfl
theorem kk_171 : kK 171 = .inr (.boolean, 400) := rfl
theorem kl_171 {q : kP} (hq : kV q) : 171 ∈ (kf q).2.1 := hq.1 171 (by decide)
theorem kr_160_11 {q : kP} : (kf q).1 160 11 = some 172 := rfl
theorem kk_172 : kK 172 = .inr (.int, 400) := rfl
theorem kl_172 {q : kP} (hq : kV q) : 172 ∈ (kf q).2.1 := hq.1 172 (by decide)
theorem kr_160_12 {q : kP} : (kf q).1 160 12 = some 173 := rfl
theorem kk_173 : kK 173 = .inr (.int, 2400) := rfl
theorem kl_173 {q : kP} (hq : kV q) : 173 ∈ (kf q).2.1 := hq.1 173 (by decide)
theorem kr_160_13 {q : kP} : (kf q).1 160 13 = some 174 := rfl
theorem kk_174 : kK 174 = .inr (.int, 6) := rfl
theorem kl_174 {q : kP} (hq : kV q) : 174 ∈ (kf q).2.1 := hq.1 174 (by decide)
theorem kr_160_14 {q : kP} : (kf q).1 160 14 = some 175 := rfl
theorem kk_175 : kK 175 = .inr (.int, 36) := rfl
theorem kl_175 {q : kP} (hq : kV q) : 175 ∈ (kf q).2.1 := hq.1 175 (by decide)
theorem kr_160_15 {q : kP} : (kf q).1 160 15 = some 176 := rfl
theorem kk_176 : kK 176 = .inr (.int, 36) := rfl
theorem kl_176 {q : kP} (hq : kV q) : 176 ∈ (kf q).2.1 := hq.1 176 (by decide)
theorem kr_160_16 {q : kP} : (kf q).1 160 16 = some 177 := rfl
theorem kk_177 : kK 177 = .inr (.int, 144) := rfl
theorem kl_177 {q : kP} (hq : kV q) : 177 ∈ (kf q).2.1 := hq.1 177 (by decide)
theorem kr_160_17 {q : kP} : (kf q).1 160 17 = some 178 := rfl
theorem kk_178 : kK 178 = .inr (.int, 36) := rfl
theorem kl_178 {q : kP} (hq : kV q) : 178 ∈ (kf q).2.1 := hq.1 178 (by decide)
theorem kk_180 : kK 180 = .inl (3, ks_X3) := rfl
theorem kl_180 {q : kP} (hq : kV q) (hh : q.hi = true) : 180 ∈ (kf q).2.1 := hq.2.1 hh 180 (by decide)
theorem kr_180_0 {q : kP} : (kf q).1 180 0 = some 181 := rfl
theorem kk_181 : kK 181 = .inr (.int, 12) := rfl
theorem kl_181 {q : kP} (hq : kV q) (hh : q.hi = true) : 181 ∈ (kf q).2.1 := hq.2.1 hh 181 (by decide)
theorem kr_180_1 {q : kP} : (kf q).1 180 1 = some 182 := rfl
theorem kk_182 : kK 182 = .inr (.int, 12) := rfl
theorem kl_182 {q : kP} (hq : kV q) (hh : q.hi = true) : 182 ∈ (kf q).2.1 := hq.2.1 hh 182 (by decide)
theorem kr_180_2 {q : kP} : (kf q).1 180 2 = some 183 := rfl
theorem kk_183 : kK 183 = .inr (.int, 12) := rfl
theorem kl_183 {q : kP} (hq : kV q) (hh : q.hi = true) : 183 ∈ (kf q).2.1 := hq.2.1 hh 183 (by decide)
theorem kr_180_3 {q : kP} : (kf q).1 180 3 = some 184 := rfl
theorem kk_184 : kK 184 = .inr (.int, 12) := rfl
theorem kl_184 {q : kP} (hq : kV q) (hh : q.hi = true) : 184 ∈ (kf q).2.1 := hq.2.1 hh 184 (by decide)
theorem kr_180_4 {q : kP} : (kf q).1 180 4 = some 185 := rfl
theorem kk_185 : kK 185 = .inr (.int, 12) := rfl
theorem kl_185 {q : kP} (hq : kV q) (hh : q.hi = true) : 185 ∈ (kf q).2.1 := hq.2.1 hh 185 (by decide)
theorem kr_180_5 {q : kP} : (kf q).1 180 5 = some 186 := rfl
theorem kk_186 : kK 186 = .inr (.int, 12) := rfl
theorem kl_186 {q : kP} (hq : kV q) (hh : q.hi = true) : 186 ∈ (kf q).2.1 := hq.2.1 hh 186 (by decide)
theorem kr_180_8 {q : kP} : (kf q).1 180 8 = some 189 := rfl
theorem kk_189 : kK 189 = .inr (.int, 6) := rfl
theorem kl_189 {q : kP} (hq : kV q) (hh : q.hi = true) : 189 ∈ (kf q).2.1 := hq.2.1 hh 189 (by decide)
theorem kr_180_9 {q : kP} : (kf q).1 180 9 = some 190 := rfl
theorem kk_190 : kK 190 = .inr ((.array .int), 13) := rfl
theorem kl_190 {q : kP} (hq : kV q) (hh : q.hi = true) : 190 ∈ (kf q).2.1 := hq.2.1 hh 190 (by decide)
theorem kk_200 : kK 200 = .inl (2, ks_X2) := rfl
theorem kl_200 {q : kP} (hq : kV q) (he : q.ex = true) : 200 ∈ (kf q).2.1 := hq.2.2.1 he 200 (by decide)
theorem kr_200_0 {q : kP} : (kf q).1 200 0 = some 60 := rfl
theorem kr_200_1 {q : kP} : (kf q).1 200 1 = some 220 := rfl
theorem kr_200_2 {q : kP} : (kf q).1 200 2 = some 203 := rfl
theorem kk_203 : kK 203 = .inr ((.array .int), 3000) := rfl
theorem kl_203 {q : kP} (hq : kV q) (he : q.ex = true) : 203 ∈ (kf q).2.1 := hq.2.2.1 he 203 (by decide)
theorem kr_200_3 {q : kP} : (kf q).1 200 3 = some 204 := rfl
theorem kk_204 : kK 204 = .inr (.int, 3000) := rfl
theorem kl_204 {q : kP} (hq : kV q) (he : q.ex = true) : 204 ∈ (kf q).2.1 := hq.2.2.1 he 204 (by decide)
theorem kr_200_4 {q : kP} : (kf q).1 200 4 = some 205 := rfl
theorem kk_205 : kK 205 = .inr (.int, 8192) := rfl
theorem kl_205 {q : kP} (hq : kV q) (he : q.ex = true) : 205 ∈ (kf q).2.1 := hq.2.2.1 he 205 (by decide)
theorem kr_200_8 {q : kP} : (kf q).1 200 8 = some 209 := rfl
theorem kk_209 : kK 209 = .inr (.int, 6) := rfl
theorem kl_209 {q : kP} (hq : kV q) (he : q.ex = true) : 209 ∈ (kf q).2.1 := hq.2.2.1 he 209 (by decide)
theorem kr_200_9 {q : kP} : (kf q).1 200 9 = some 210 := rfl
theorem kk_210 : kK 210 = .inr (.int, 6) := rfl
theorem kl_210 {q : kP} (hq : kV q) (he : q.ex = true) : 210 ∈ (kf q).2.1 := hq.2.2.1 he 210 (by decide)
theorem kk_220 : kK 220 = .inl (5, ks_X5) := rfl
theorem kl_220 {q : kP} (hq : kV q) (he : q.ex = true) : 220 ∈ (kf q).2.1 := hq.2.2.1 he 220 (by decide)
theorem kr_220_4 {q : kP} : (kf q).1 220 4 = some 225 := rfl
theorem kk_225 : kK 225 = .inr (.int, 228) := rfl
theorem kl_225 {q : kP} (hq : kV q) (he : q.ex = true) : 225 ∈ (kf q).2.1 := hq.2.2.1 he 225 (by decide)
theorem kr_220_10 {q : kP} : (kf q).1 220 10 = some 231 := rfl
theorem kk_231 : kK 231 = .inr (.int, 84) := rfl
theorem kl_231 {q : kP} (hq : kV q) (he : q.ex = true) : 231 ∈ (kf q).2.1 := hq.2.2.1 he 231 (by decide)
theorem kr_220_11 {q : kP} : (kf q).1 220 11 = some 232 := rfl
theorem kk_232 : kK 232 = .inr (.int, 84) := rfl
theorem kl_232 {q : kP} (hq : kV q) (he : q.ex = true) : 232 ∈ (kf q).2.1 := hq.2.2.1 he 232 (by decide)
theorem kk_233 : kK 233 = .inr (.int, 84) := rfl
theorem kk_240 : kK 240 = .inl (1, ks_X1) := rfl
theorem kk_M0 {q : kP} {o : Nat} (ho : kiM q o) : kK o = .inl (5, ks_X5) := by rcases ho with rfl | ⟨rfl, h⟩ <;> rfl
theorem kl_M0 {q : kP} {o : Nat} (hq : kV q) (ho : kiM q o) : o ∈ (kf q).2.1 := by
  rcases ho with rfl | ⟨rfl, h⟩
  · exact hq.1 _ (by decide)
  · exact hq.2.2.1 h _ (by decide)
theorem kk_M5 {q : kP} {o : Nat} (ho : kiM q o) : kK (o + 5) = .inr (.int, 228) := by rcases ho with rfl | ⟨rfl, h⟩ <;> rfl
theorem kl_M5 {q : kP} {o : Nat} (hq : kV q) (ho : kiM q o) : (o + 5) ∈ (kf q).2.1 := by
  rcases ho with rfl | ⟨rfl, h⟩
  · exact hq.1 _ (by decide)
  · exact hq.2.2.1 h _ (by decide)
theorem kk_M11 {q : kP} {o : Nat} (ho : kiM q o) : kK (o + 11) = .inr (.int, 84) := by rcases ho with rfl | ⟨rfl, h⟩ <;> rfl
theorem kl_M11 {q : kP} {o : Nat} (hq : kV q) (ho : kiM q o) : (o + 11) ∈ (kf q).2.1 := by
  rcases ho with rfl | ⟨rfl, h⟩
  · exact hq.1 _ (by decide)
  · exact hq.2.2.1 h _ (by decide)
theorem kk_M12 {q : kP} {o : Nat} (ho : kiM q o) : kK (o + 12) = .inr (.int, 84) := by rcases ho with rfl | ⟨rfl, h⟩ <;> rfl
theorem kl_M12 {q : kP} {o : Nat} (hq : kV q) (ho : kiM q o) : (o + 12) ∈ (kf q).2.1 := by
  rcases ho with rfl | ⟨rfl, h⟩
  · exact hq.1 _ (by decide)
  · exact hq.2.2.1 h _ (by decide)
theorem kk_M13 {q : kP} {o : Nat} (ho : kiM q o) : kK (o + 13) = .inr (.int, 84) := by rcases ho with rfl | ⟨rfl, h⟩ <;> rfl
theorem kl_M13 {q : kP} {o : Nat} (hq : kV q) (ho : kiM q o) : (o + 13) ∈ (kf q).2.1 := by
  rcases ho with rfl | ⟨rfl, h⟩
  · exact hq.1 _ (by decide)
  · exact hq.2.2.1 h _ (by decide)
theorem kr_M_0 {q : kP} {o : Nat} (ho : kiM q o) : (kf q).1 o 0 = some 60 := by rcases ho with rfl | ⟨rfl, h⟩ <;> rfl
theorem kr_M_1 {q : kP} {o : Nat} (ho : kiM q o) : (kf q).1 o 1 = some 80 := by rcases ho with rfl | ⟨rfl, h⟩ <;> rfl
theorem kr_M_2 {q : kP} {o : Nat} (ho : kiM q o) : (kf q).1 o 2 = some (o + 20) := by rcases ho with rfl | ⟨rfl, h⟩ <;> rfl
theorem kr_M_4 {q : kP} {o : Nat} (ho : kiM q o) : (kf q).1 o 4 = some (o + 5) := by rcases ho with rfl | ⟨rfl, h⟩ <;> rfl
theorem kr_M_10 {q : kP} {o : Nat} (ho : kiM q o) : (kf q).1 o 10 = some (o + 11) := by rcases ho with rfl | ⟨rfl, h⟩ <;> rfl
theorem kr_M_11 {q : kP} {o : Nat} (ho : kiM q o) : (kf q).1 o 11 = some (o + 12) := by rcases ho with rfl | ⟨rfl, h⟩ <;> rfl
theorem kr_M_12 {q : kP} {o : Nat} (ho : kiM q o) : (kf q).1 o 12 = some (o + 13) := by rcases ho with rfl | ⟨rfl, h⟩ <;> rfl
theorem kk_D0 {q : kP} {o : Nat} (ho : kiD q o) : kK o = .inl (1, ks_X1) := by rcases ho with rfl | ⟨rfl, h⟩ <;> rfl
theorem kl_D0 {q : kP} {o : Nat} (hq : kV q) (ho : kiD q o) : o ∈ (kf q).2.1 := by
  rcases ho with rfl | ⟨rfl, h⟩
  · exact hq.1 _ (by decide)
  · exact hq.2.2.1 h _ (by decide)
theorem kk_T0 {q : kP} {o : Nat} (ho : kiT q o) : kK o = .inl (10, ks_X10) := by rcases ho with ⟨rfl, h⟩ | ⟨rfl, h⟩ <;> rfl
theorem kl_T0 {q : kP} {o : Nat} (hq : kV q) (ho : kiT q o) : o ∈ (kf q).2.1 := by
  rcases ho with ⟨rfl, h⟩ | ⟨rfl, h⟩
  · exact hq.2.2.2.1 h _ (by decide)
  · exact hq.2.2.2.2.1 h _ (by decide)
theorem kk_T7 {q : kP} {o : Nat} (ho : kiT q o) : kK (o + 7) = .inr (.int, 11) := by rcases ho with ⟨rfl, h⟩ | ⟨rfl, h⟩ <;> rfl
theorem kl_T7 {q : kP} {o : Nat} (hq : kV q) (ho : kiT q o) : (o + 7) ∈ (kf q).2.1 := by
  rcases ho with ⟨rfl, h⟩ | ⟨rfl, h⟩
  · exact hq.2.2.2.1 h _ (by decide)
  · exact hq.2.2.2.2.1 h _ (by decide)
theorem kk_T8 {q : kP} {o : Nat} (ho : kiT q o) : kK (o + 8) = .inr (.int, 24) := by rcases ho with ⟨rfl, h⟩ | ⟨rfl, h⟩ <;> rfl
theorem kl_T8 {q : kP} {o : Nat} (hq : kV q) (ho : kiT q o) : (o + 8) ∈ (kf q).2.1 := by
  rcases ho with ⟨rfl, h⟩ | ⟨rfl, h⟩
  · exact hq.2.2.2.1 h _ (by decide)
  · exact hq.2.2.2.2.1 h _ (by decide)
theorem kk_T9 {q : kP} {o : Nat} (ho : kiT q o) : kK (o + 9) = .inr (.int, 6) := by rcases ho with ⟨rfl, h⟩ | ⟨rfl, h⟩ <;> rfl
theorem kl_T9 {q : kP} {o : Nat} (hq : kV q) (ho : kiT q o) : (o + 9) ∈ (kf q).2.1 := by
  rcases ho with ⟨rfl, h⟩ | ⟨rfl, h⟩
  · exact hq.2.2.2.1 h _ (by decide)
  · exact hq.2.2.2.2.1 h _ (by decide)
theorem kk_T10 {q : kP} {o : Nat} (ho : kiT q o) : kK (o + 10) = .inr (.int, 3000) := by rcases ho with ⟨rfl, h⟩ | ⟨rfl, h⟩ <;> rfl
theorem kl_T10 {q : kP} {o : Nat} (hq : kV q) (ho : kiT q o) : (o + 10) ∈ (kf q).2.1 := by
  rcases ho with ⟨rfl, h⟩ | ⟨rfl, h⟩
  · exact hq.2.2.2.1 h _ (by decide)
  · exact hq.2.2.2.2.1 h _ (by decide)
theorem kk_T11 {q : kP} {o : Nat} (ho : kiT q o) : kK (o + 11) = .inr (.int, 3000) := by rcases ho with ⟨rfl, h⟩ | ⟨rfl, h⟩ <;> rfl
theorem kl_T11 {q : kP} {o : Nat} (hq : kV q) (ho : kiT q o) : (o + 11) ∈ (kf q).2.1 := by
  rcases ho with ⟨rfl, h⟩ | ⟨rfl, h⟩
  · exact hq.2.2.2.1 h _ (by decide)
  · exact hq.2.2.2.2.1 h _ (by decide)
theorem kk_T12 {q : kP} {o : Nat} (ho : kiT q o) : kK (o + 12) = .inr (.int, 3000) := by rcases ho with ⟨rfl, h⟩ | ⟨rfl, h⟩ <;> rfl
theorem kl_T12 {q : kP} {o : Nat} (hq : kV q) (ho : kiT q o) : (o + 12) ∈ (kf q).2.1 := by
  rcases ho with ⟨rfl, h⟩ | ⟨rfl, h⟩
  · exact hq.2.2.2.1 h _ (by decide)
  · exact hq.2.2.2.2.1 h _ (by decide)
theorem kk_T13 {q : kP} {o : Nat} (ho : kiT q o) : kK (o + 13) = .inr ((.array .int), 3000) := by rcases ho with ⟨rfl, h⟩ | ⟨rfl, h⟩ <;> rfl
theorem kl_T13 {q : kP} {o : Nat} (hq : kV q) (ho : kiT q o) : (o + 13) ∈ (kf q).2.1 := by
  rcases ho with ⟨rfl, h⟩ | ⟨rfl, h⟩
  · exact hq.2.2.2.1 h _ (by decide)
  · exact hq.2.2.2.2.1 h _ (by decide)
theorem kk_T14 {q : kP} {o : Nat} (ho : kiT q o) : kK (o + 14) = .inr (.int, 3000) := by rcases ho with ⟨rfl, h⟩ | ⟨rfl, h⟩ <;> rfl
theorem kl_T14 {q : kP} {o : Nat} (hq : kV q) (ho : kiT q o) : (o + 14) ∈ (kf q).2.1 := by
  rcases ho with ⟨rfl, h⟩ | ⟨rfl, h⟩
  · exact hq.2.2.2.1 h _ (by decide)
  · exact hq.2.2.2.2.1 h _ (by decide)
theorem kr_T_6 {q : kP} {o : Nat} (ho : kiT q o) : (kf q).1 o 6 = some (o + 7) := by rcases ho with ⟨rfl, h⟩ | ⟨rfl, h⟩ <;> rfl
theorem kr_T_7 {q : kP} {o : Nat} (ho : kiT q o) : (kf q).1 o 7 = some (o + 8) := by rcases ho with ⟨rfl, h⟩ | ⟨rfl, h⟩ <;> rfl
theorem kr_T_8 {q : kP} {o : Nat} (ho : kiT q o) : (kf q).1 o 8 = some (o + 9) := by rcases ho with ⟨rfl, h⟩ | ⟨rfl, h⟩ <;> rfl
theorem kr_T_9 {q : kP} {o : Nat} (ho : kiT q o) : (kf q).1 o 9 = some (o + 10) := by rcases ho with ⟨rfl, h⟩ | ⟨rfl, h⟩ <;> rfl
theorem kr_T_10 {q : kP} {o : Nat} (ho : kiT q o) : (kf q).1 o 10 = some (o + 11) := by rcases ho with ⟨rfl, h⟩ | ⟨rfl, h⟩ <;> rfl
theorem kr_T_11 {q : kP} {o : Nat} (ho : kiT q o) : (kf q).1 o 11 = some (o + 12) := by rcases ho with ⟨rfl, h⟩ | ⟨rfl, h⟩ <;> rfl
theorem kr_T_12 {q : kP} {o : Nat} (ho : kiT q o) : (kf q).1 o 12 = some (o + 13) := by rcases ho with ⟨rfl, h⟩ | ⟨rfl, h⟩ <;> rfl
theorem kr_T_13 {q : kP} {o : Nat} (ho : kiT q o) : (kf q).1 o 13 = some (o + 14) := by rcases ho with ⟨rfl, h⟩ | ⟨rfl, h⟩ <;> rfl
theorem kw_X0 : ∀ w ∈ wsX00, w ∈ W0 := fun w h => W0_in (tw_X0 w h) (by obtain ⟨k, hk, e⟩ := List.mem_map.mp h; rw [← e]; unfold u_lay; split <;> rfl)
theorem kw_X1 : ∀ w ∈ wsX10, w ∈ W0 := fun w h => W0_in (tw_X1 w h) (by obtain ⟨k, hk, e⟩ := List.mem_map.mp h; rw [← e]; unfold u_lay; split <;> rfl)
theorem kw_X2 : ∀ w ∈ wsX20, w ∈ W0 := fun w h => W0_in (tw_X2 w h) (by obtain ⟨k, hk, e⟩ := List.mem_map.mp h; rw [← e]; unfold u_lay; split <;> rfl)
theorem kw_X3 : ∀ w ∈ wsX30, w ∈ W0 := fun w h => W0_in (tw_X3 w h) (by obtain ⟨k, hk, e⟩ := List.mem_map.mp h; rw [← e]; unfold u_lay; split <;> rfl)
theorem kw_X4 : ∀ w ∈ wsX40, w ∈ W0 := fun w h => W0_in (tw_X4 w h) (by obtain ⟨k, hk, e⟩ := List.mem_map.mp h; rw [← e]; unfold u_lay; split <;> rfl)
theorem kw_X5 : ∀ w ∈ wsX50, w ∈ W0 := fun w h => W0_in (tw_X5 w h) (by obtain ⟨k, hk, e⟩ := List.mem_map.mp h; rw [← e]; unfold u_lay; split <;> rfl)
theorem kw_X6 : ∀ w ∈ wsX60, w ∈ W0 := fun w h => W0_in (tw_X6 w h) (by obtain ⟨k, hk, e⟩ := List.mem_map.mp h; rw [← e]; unfold u_lay; split <;> rfl)
theorem kw_X7 : ∀ w ∈ wsX70, w ∈ W0 := fun w h => W0_in (tw_X7 w h) (by obtain ⟨k, hk, e⟩ := List.mem_map.mp h; rw [← e]; unfold u_lay; split <;> rfl)
theorem kw_X8 : ∀ w ∈ wsX80, w ∈ W0 := fun w h => W0_in (tw_X8 w h) (by obtain ⟨k, hk, e⟩ := List.mem_map.mp h; rw [← e]; unfold u_lay; split <;> rfl)
theorem kw_X9 : ∀ w ∈ wsX90, w ∈ W0 := fun w h => W0_in (tw_X9 w h) (by obtain ⟨k, hk, e⟩ := List.mem_map.mp h; rw [← e]; unfold u_lay; split <;> rfl)
theorem kw_X10 : ∀ w ∈ wsX100, w ∈ W0 := fun w h => W0_in (tw_X10 w h) (by obtain ⟨k, hk, e⟩ := List.mem_map.mp h; rw [← e]; unfold u_lay; split <;> rfl)
theorem kw_X11 : ∀ w ∈ wsX110, w ∈ W0 := fun w h => W0_in (tw_X11 w h) (by obtain ⟨k, hk, e⟩ := List.mem_map.mp h; rw [← e]; unfold u_lay; split <;> rfl)
theorem kfl_X0_14 : gFl RX0 14 0 0 (.object "ScheduleHouse$Steps") true 18 := ⟨RX0, TX0, rfl, kw_X0, by decide, W0_in (tp_1 (List.mem_of_getElem? (i := 194) (by decide +kernel))) rfl, rfl, rfl, ⟨tyX0, tyX0_ok⟩, nmX0⟩
theorem kfl_X0_18 : gFl RX0 18 0 1 (.array .int) true 18 := ⟨RX0, TX0, rfl, kw_X0, by decide, W0_in (tp_1 (List.mem_of_getElem? (i := 196) (by decide +kernel))) rfl, rfl, rfl, ⟨tyX0, tyX0_ok⟩, nmX0⟩
theorem kfl_X0_22 : gFl RX0 22 0 2 (.array .int) true 18 := ⟨RX0, TX0, rfl, kw_X0, by decide, W0_in (tp_1 (List.mem_of_getElem? (i := 198) (by decide +kernel))) rfl, rfl, rfl, ⟨tyX0, tyX0_ok⟩, nmX0⟩
theorem kfl_X0_25 : gFl RX0 25 0 4 (.array .int) true 18 := ⟨RX0, TX0, rfl, kw_X0, by decide, W0_in (tp_1 (List.mem_of_getElem? (i := 202) (by decide +kernel))) rfl, rfl, rfl, ⟨tyX0, tyX0_ok⟩, nmX0⟩
theorem kfl_X0_30 : gFl RX0 30 0 7 (.array .int) true 18 := ⟨RX0, TX0, rfl, kw_X0, by decide, W0_in (tp_1 (List.mem_of_getElem? (i := 211) (by decide +kernel))) rfl, rfl, rfl, ⟨tyX0, tyX0_ok⟩, nmX0⟩
theorem kfl_X0_33 : gFl RX0 33 0 8 (.array .boolean) true 18 := ⟨RX0, TX0, rfl, kw_X0, by decide, W0_in (tp_1 (List.mem_of_getElem? (i := 213) (by decide +kernel))) rfl, rfl, rfl, ⟨tyX0, tyX0_ok⟩, nmX0⟩
theorem kfl_X0_37 : gFl RX0 37 0 11 (.array .int) true 18 := ⟨RX0, TX0, rfl, kw_X0, by decide, W0_in (tp_1 (List.mem_of_getElem? (i := 227) (by decide +kernel))) rfl, rfl, rfl, ⟨tyX0, tyX0_ok⟩, nmX0⟩
theorem kfl_X0_40 : gFl RX0 40 0 12 (.array .boolean) true 18 := ⟨RX0, TX0, rfl, kw_X0, by decide, W0_in (tp_1 (List.mem_of_getElem? (i := 230) (by decide +kernel))) rfl, rfl, rfl, ⟨tyX0, tyX0_ok⟩, nmX0⟩
theorem kfl_X0_43 : gFl RX0 43 0 15 (.array .int) true 18 := ⟨RX0, TX0, rfl, kw_X0, by decide, W0_in (tp_2 (List.mem_of_getElem? (i := 0) (by decide +kernel))) rfl, rfl, rfl, ⟨tyX0, tyX0_ok⟩, nmX0⟩
theorem kfl_X0_46 : gFl RX0 46 0 17 (.array .int) true 18 := ⟨RX0, TX0, rfl, kw_X0, by decide, W0_in (tp_2 (List.mem_of_getElem? (i := 7) (by decide +kernel))) rfl, rfl, rfl, ⟨tyX0, tyX0_ok⟩, nmX0⟩
theorem kfl_X0_49 : gFl RX0 49 8 9 (.int) false 10 := ⟨RX8, TX8, rfl, kw_X8, by decide, W0_in (tp_1 (List.mem_of_getElem? (i := 170) (by decide +kernel))) rfl, rfl, rfl, ⟨tyX8, tyX8_ok⟩, nmX8⟩
theorem kfl_X0_53 : gFl RX0 53 0 3 (.int) false 18 := ⟨RX0, TX0, rfl, kw_X0, by decide, W0_in (tp_1 (List.mem_of_getElem? (i := 200) (by decide +kernel))) rfl, rfl, rfl, ⟨tyX0, tyX0_ok⟩, nmX0⟩
theorem kfl_X0_56 : gFl RX0 56 0 6 (.int) false 18 := ⟨RX0, TX0, rfl, kw_X0, by decide, W0_in (tp_1 (List.mem_of_getElem? (i := 207) (by decide +kernel))) rfl, rfl, rfl, ⟨tyX0, tyX0_ok⟩, nmX0⟩
theorem kfl_X0_59 : gFl RX0 59 0 9 (.int) false 18 := ⟨RX0, TX0, rfl, kw_X0, by decide, W0_in (tp_1 (List.mem_of_getElem? (i := 218) (by decide +kernel))) rfl, rfl, rfl, ⟨tyX0, tyX0_ok⟩, nmX0⟩
theorem kfl_X0_62 : gFl RX0 62 0 10 (.int) false 18 := ⟨RX0, TX0, rfl, kw_X0, by decide, W0_in (tp_1 (List.mem_of_getElem? (i := 222) (by decide +kernel))) rfl, rfl, rfl, ⟨tyX0, tyX0_ok⟩, nmX0⟩
theorem kfl_X0_65 : gFl RX0 65 0 13 (.int) false 18 := ⟨RX0, TX0, rfl, kw_X0, by decide, W0_in (tp_1 (List.mem_of_getElem? (i := 233) (by decide +kernel))) rfl, rfl, rfl, ⟨tyX0, tyX0_ok⟩, nmX0⟩
theorem kfl_X0_68 : gFl RX0 68 0 14 (.int) false 18 := ⟨RX0, TX0, rfl, kw_X0, by decide, W0_in (tp_1 (List.mem_of_getElem? (i := 236) (by decide +kernel))) rfl, rfl, rfl, ⟨tyX0, tyX0_ok⟩, nmX0⟩
theorem kfl_X0_71 : gFl RX0 71 0 16 (.int) false 18 := ⟨RX0, TX0, rfl, kw_X0, by decide, W0_in (tp_2 (List.mem_of_getElem? (i := 3) (by decide +kernel))) rfl, rfl, rfl, ⟨tyX0, tyX0_ok⟩, nmX0⟩
theorem kfl_X0_74 : gFl RX0 74 0 5 (.boolean) false 18 := ⟨RX0, TX0, rfl, kw_X0, by decide, W0_in (tp_1 (List.mem_of_getElem? (i := 203) (by decide +kernel))) rfl, rfl, rfl, ⟨tyX0, tyX0_ok⟩, nmX0⟩
theorem kfl_X1_7 : gFl RX1 7 1 0 (.int) false 7 := ⟨RX1, TX1, rfl, kw_X1, by decide, W0_in (tp_2 (List.mem_of_getElem? (i := 122) (by decide +kernel))) rfl, rfl, rfl, ⟨tyX1, tyX1_ok⟩, nmX1⟩
theorem kfl_X1_13 : gFl RX1 13 1 1 (.int) false 7 := ⟨RX1, TX1, rfl, kw_X1, by decide, W0_in (tp_2 (List.mem_of_getElem? (i := 124) (by decide +kernel))) rfl, rfl, rfl, ⟨tyX1, tyX1_ok⟩, nmX1⟩
theorem kfl_X1_16 : gFl RX1 16 1 2 (.int) false 7 := ⟨RX1, TX1, rfl, kw_X1, by decide, W0_in (tp_2 (List.mem_of_getElem? (i := 126) (by decide +kernel))) rfl, rfl, rfl, ⟨tyX1, tyX1_ok⟩, nmX1⟩
theorem kfl_X1_19 : gFl RX1 19 1 3 (.int) false 7 := ⟨RX1, TX1, rfl, kw_X1, by decide, W0_in (tp_2 (List.mem_of_getElem? (i := 129) (by decide +kernel))) rfl, rfl, rfl, ⟨tyX1, tyX1_ok⟩, nmX1⟩
theorem kfl_X1_22 : gFl RX1 22 1 4 (.int) false 7 := ⟨RX1, TX1, rfl, kw_X1, by decide, W0_in (tp_2 (List.mem_of_getElem? (i := 132) (by decide +kernel))) rfl, rfl, rfl, ⟨tyX1, tyX1_ok⟩, nmX1⟩
theorem kfl_X1_25 : gFl RX1 25 1 5 (.boolean) false 7 := ⟨RX1, TX1, rfl, kw_X1, by decide, W0_in (tp_2 (List.mem_of_getElem? (i := 135) (by decide +kernel))) rfl, rfl, rfl, ⟨tyX1, tyX1_ok⟩, nmX1⟩
theorem kfl_X1_29 : gFl RX1 29 1 6 (.int) false 7 := ⟨RX1, TX1, rfl, kw_X1, by decide, W0_in (tp_2 (List.mem_of_getElem? (i := 138) (by decide +kernel))) rfl, rfl, rfl, ⟨tyX1, tyX1_ok⟩, nmX1⟩
theorem kfl_X2_9 : gFl RX2 9 2 0 (.object "ScheduleHouse$Code") true 10 := ⟨RX2, TX2, rfl, kw_X2, by decide, W0_in (tp_7 (List.mem_of_getElem? (i := 143) (by decide +kernel))) rfl, rfl, rfl, ⟨tyX2, tyX2_ok⟩, nmX2⟩
theorem kfl_X2_20 : gFl RX2 20 2 1 (.object "ScheduleHouse$Machine") true 10 := ⟨RX2, TX2, rfl, kw_X2, by decide, W0_in (tp_7 (List.mem_of_getElem? (i := 144) (by decide +kernel))) rfl, rfl, rfl, ⟨tyX2, tyX2_ok⟩, nmX2⟩
theorem kfl_X2_26 : gFl RX2 26 2 2 (.array (.array .int)) true 10 := ⟨RX2, TX2, rfl, kw_X2, by decide, W0_in (tp_7 (List.mem_of_getElem? (i := 145) (by decide +kernel))) rfl, rfl, rfl, ⟨tyX2, tyX2_ok⟩, nmX2⟩
theorem kfl_X2_30 : gFl RX2 30 2 3 (.array .int) true 10 := ⟨RX2, TX2, rfl, kw_X2, by decide, W0_in (tp_7 (List.mem_of_getElem? (i := 146) (by decide +kernel))) rfl, rfl, rfl, ⟨tyX2, tyX2_ok⟩, nmX2⟩
theorem kfl_X2_33 : gFl RX2 33 2 4 (.array .int) true 10 := ⟨RX2, TX2, rfl, kw_X2, by decide, W0_in (tp_7 (List.mem_of_getElem? (i := 147) (by decide +kernel))) rfl, rfl, rfl, ⟨tyX2, tyX2_ok⟩, nmX2⟩
theorem kfl_X2_38 : gFl RX2 38 2 8 (.array .int) true 10 := ⟨RX2, TX2, rfl, kw_X2, by decide, W0_in (tp_7 (List.mem_of_getElem? (i := 151) (by decide +kernel))) rfl, rfl, rfl, ⟨tyX2, tyX2_ok⟩, nmX2⟩
theorem kfl_X2_41 : gFl RX2 41 2 9 (.array .int) true 10 := ⟨RX2, TX2, rfl, kw_X2, by decide, W0_in (tp_7 (List.mem_of_getElem? (i := 152) (by decide +kernel))) rfl, rfl, rfl, ⟨tyX2, tyX2_ok⟩, nmX2⟩
theorem kfl_X2_44 : gFl RX2 44 2 7 (.object "ScheduleHouse$Trial") false 10 := ⟨RX2, TX2, rfl, kw_X2, by decide, W0_in (tp_7 (List.mem_of_getElem? (i := 150) (by decide +kernel))) rfl, rfl, rfl, ⟨tyX2, tyX2_ok⟩, nmX2⟩
theorem kfl_X2_48 : gFl RX2 48 0 9 (.int) false 18 := ⟨RX0, TX0, rfl, kw_X0, by decide, W0_in (tp_1 (List.mem_of_getElem? (i := 217) (by decide +kernel))) rfl, rfl, rfl, ⟨tyX0, tyX0_ok⟩, nmX0⟩
theorem kfl_X2_73 : gFl RX2 73 10 0 (.int) false 14 := ⟨RX10, TX10, rfl, kw_X10, by decide, W0_in (tp_7 (List.mem_of_getElem? (i := 181) (by decide +kernel))) rfl, rfl, rfl, ⟨tyX10, tyX10_ok⟩, nmX10⟩
theorem kfl_X2_88 : gFl RX2 88 5 13 (.int) false 15 := ⟨RX5, TX5, rfl, kw_X5, by decide, W0_in (tp_2 (List.mem_of_getElem? (i := 179) (by decide +kernel))) rfl, rfl, rfl, ⟨tyX5, tyX5_ok⟩, nmX5⟩
theorem kfl_X2_91 : gFl RX2 91 10 1 (.boolean) false 14 := ⟨RX10, TX10, rfl, kw_X10, by decide, W0_in (tp_7 (List.mem_of_getElem? (i := 184) (by decide +kernel))) rfl, rfl, rfl, ⟨tyX10, tyX10_ok⟩, nmX10⟩
theorem kfl_X2_106 : gFl RX2 106 5 4 (.array .int) true 15 := ⟨RX5, TX5, rfl, kw_X5, by decide, W0_in (tp_2 (List.mem_of_getElem? (i := 163) (by decide +kernel))) rfl, rfl, rfl, ⟨tyX5, tyX5_ok⟩, nmX5⟩
theorem kfl_X2_109 : gFl RX2 109 5 5 (.int) false 15 := ⟨RX5, TX5, rfl, kw_X5, by decide, W0_in (tp_2 (List.mem_of_getElem? (i := 166) (by decide +kernel))) rfl, rfl, rfl, ⟨tyX5, tyX5_ok⟩, nmX5⟩
theorem kfl_X2_122 : gFl RX2 122 2 6 (.int) false 10 := ⟨RX2, TX2, rfl, kw_X2, by decide, W0_in (tp_7 (List.mem_of_getElem? (i := 149) (by decide +kernel))) rfl, rfl, rfl, ⟨tyX2, tyX2_ok⟩, nmX2⟩
theorem kfl_X2_124 : gFl RX2 124 2 5 (.int) false 10 := ⟨RX2, TX2, rfl, kw_X2, by decide, W0_in (tp_7 (List.mem_of_getElem? (i := 148) (by decide +kernel))) rfl, rfl, rfl, ⟨tyX2, tyX2_ok⟩, nmX2⟩
theorem kfl_X2_133 : gFl RX2 133 10 5 (.int) false 14 := ⟨RX10, TX10, rfl, kw_X10, by decide, W0_in (tp_7 (List.mem_of_getElem? (i := 195) (by decide +kernel))) rfl, rfl, rfl, ⟨tyX10, tyX10_ok⟩, nmX10⟩
theorem kfl_X2_136 : gFl RX2 136 0 14 (.int) false 18 := ⟨RX0, TX0, rfl, kw_X0, by decide, W0_in (tp_1 (List.mem_of_getElem? (i := 238) (by decide +kernel))) rfl, rfl, rfl, ⟨tyX0, tyX0_ok⟩, nmX0⟩
theorem kfl_X2_139 : gFl RX2 139 0 15 (.array .int) true 18 := ⟨RX0, TX0, rfl, kw_X0, by decide, W0_in (tp_2 (List.mem_of_getElem? (i := 1) (by decide +kernel))) rfl, rfl, rfl, ⟨tyX0, tyX0_ok⟩, nmX0⟩
theorem kfl_X2_158 : gFl RX2 158 10 2 (.int) false 14 := ⟨RX10, TX10, rfl, kw_X10, by decide, W0_in (tp_7 (List.mem_of_getElem? (i := 187) (by decide +kernel))) rfl, rfl, rfl, ⟨tyX10, tyX10_ok⟩, nmX10⟩
theorem kfl_X2_161 : gFl RX2 161 0 6 (.int) false 18 := ⟨RX0, TX0, rfl, kw_X0, by decide, W0_in (tp_1 (List.mem_of_getElem? (i := 209) (by decide +kernel))) rfl, rfl, rfl, ⟨tyX0, tyX0_ok⟩, nmX0⟩
theorem kfl_X2_170 : gFl RX2 170 0 16 (.int) false 18 := ⟨RX0, TX0, rfl, kw_X0, by decide, W0_in (tp_2 (List.mem_of_getElem? (i := 5) (by decide +kernel))) rfl, rfl, rfl, ⟨tyX0, tyX0_ok⟩, nmX0⟩
theorem kfl_X2_173 : gFl RX2 173 0 17 (.array .int) true 18 := ⟨RX0, TX0, rfl, kw_X0, by decide, W0_in (tp_2 (List.mem_of_getElem? (i := 8) (by decide +kernel))) rfl, rfl, rfl, ⟨tyX0, tyX0_ok⟩, nmX0⟩
theorem kfl_X2_180 : gFl RX2 180 0 5 (.boolean) false 18 := ⟨RX0, TX0, rfl, kw_X0, by decide, W0_in (tp_1 (List.mem_of_getElem? (i := 204) (by decide +kernel))) rfl, rfl, rfl, ⟨tyX0, tyX0_ok⟩, nmX0⟩
theorem kfl_X2_183 : gFl RX2 183 5 11 (.array .int) true 15 := ⟨RX5, TX5, rfl, kw_X5, by decide, W0_in (tp_2 (List.mem_of_getElem? (i := 176) (by decide +kernel))) rfl, rfl, rfl, ⟨tyX5, tyX5_ok⟩, nmX5⟩
theorem kfl_X2_186 : gFl RX2 186 5 10 (.array .int) true 15 := ⟨RX5, TX5, rfl, kw_X5, by decide, W0_in (tp_2 (List.mem_of_getElem? (i := 173) (by decide +kernel))) rfl, rfl, rfl, ⟨tyX5, tyX5_ok⟩, nmX5⟩
theorem kfl_X2_189 : gFl RX2 189 0 10 (.int) false 18 := ⟨RX0, TX0, rfl, kw_X0, by decide, W0_in (tp_1 (List.mem_of_getElem? (i := 225) (by decide +kernel))) rfl, rfl, rfl, ⟨tyX0, tyX0_ok⟩, nmX0⟩
theorem kfl_X2_198 : gFl RX2 198 10 4 (.int) false 14 := ⟨RX10, TX10, rfl, kw_X10, by decide, W0_in (tp_7 (List.mem_of_getElem? (i := 192) (by decide +kernel))) rfl, rfl, rfl, ⟨tyX10, tyX10_ok⟩, nmX10⟩
theorem kfl_X2_214 : gFl RX2 214 10 7 (.array .int) true 14 := ⟨RX10, TX10, rfl, kw_X10, by decide, W0_in (tp_7 (List.mem_of_getElem? (i := 200) (by decide +kernel))) rfl, rfl, rfl, ⟨tyX10, tyX10_ok⟩, nmX10⟩
theorem kfl_X2_217 : gFl RX2 217 0 8 (.array .boolean) true 18 := ⟨RX0, TX0, rfl, kw_X0, by decide, W0_in (tp_1 (List.mem_of_getElem? (i := 215) (by decide +kernel))) rfl, rfl, rfl, ⟨tyX0, tyX0_ok⟩, nmX0⟩
theorem kfl_X3_11 : gFl RX3 11 3 0 (.array .int) true 13 := ⟨RX3, TX3, rfl, kw_X3, by decide, W0_in (tp_7 (List.mem_of_getElem? (i := 34) (by decide +kernel))) rfl, rfl, rfl, ⟨tyX3, tyX3_ok⟩, nmX3⟩
theorem kfl_X3_15 : gFl RX3 15 3 1 (.array .int) true 13 := ⟨RX3, TX3, rfl, kw_X3, by decide, W0_in (tp_7 (List.mem_of_getElem? (i := 35) (by decide +kernel))) rfl, rfl, rfl, ⟨tyX3, tyX3_ok⟩, nmX3⟩
theorem kfl_X3_18 : gFl RX3 18 3 2 (.array .int) true 13 := ⟨RX3, TX3, rfl, kw_X3, by decide, W0_in (tp_7 (List.mem_of_getElem? (i := 36) (by decide +kernel))) rfl, rfl, rfl, ⟨tyX3, tyX3_ok⟩, nmX3⟩
theorem kfl_X3_21 : gFl RX3 21 3 3 (.array .int) true 13 := ⟨RX3, TX3, rfl, kw_X3, by decide, W0_in (tp_7 (List.mem_of_getElem? (i := 37) (by decide +kernel))) rfl, rfl, rfl, ⟨tyX3, tyX3_ok⟩, nmX3⟩
theorem kfl_X3_24 : gFl RX3 24 3 4 (.array .int) true 13 := ⟨RX3, TX3, rfl, kw_X3, by decide, W0_in (tp_7 (List.mem_of_getElem? (i := 38) (by decide +kernel))) rfl, rfl, rfl, ⟨tyX3, tyX3_ok⟩, nmX3⟩
theorem kfl_X3_27 : gFl RX3 27 3 5 (.array .int) true 13 := ⟨RX3, TX3, rfl, kw_X3, by decide, W0_in (tp_7 (List.mem_of_getElem? (i := 39) (by decide +kernel))) rfl, rfl, rfl, ⟨tyX3, tyX3_ok⟩, nmX3⟩
theorem kfl_X3_32 : gFl RX3 32 3 8 (.array .int) true 13 := ⟨RX3, TX3, rfl, kw_X3, by decide, W0_in (tp_7 (List.mem_of_getElem? (i := 42) (by decide +kernel))) rfl, rfl, rfl, ⟨tyX3, tyX3_ok⟩, nmX3⟩
theorem kfl_X3_37 : gFl RX3 37 3 9 (.array (.array .int)) true 13 := ⟨RX3, TX3, rfl, kw_X3, by decide, W0_in (tp_7 (List.mem_of_getElem? (i := 43) (by decide +kernel))) rfl, rfl, rfl, ⟨tyX3, tyX3_ok⟩, nmX3⟩
theorem kfl_X3_40 : gFl RX3 40 3 6 (.int) false 13 := ⟨RX3, TX3, rfl, kw_X3, by decide, W0_in (tp_7 (List.mem_of_getElem? (i := 40) (by decide +kernel))) rfl, rfl, rfl, ⟨tyX3, tyX3_ok⟩, nmX3⟩
theorem kfl_X3_44 : gFl RX3 44 3 7 (.int) false 13 := ⟨RX3, TX3, rfl, kw_X3, by decide, W0_in (tp_7 (List.mem_of_getElem? (i := 41) (by decide +kernel))) rfl, rfl, rfl, ⟨tyX3, tyX3_ok⟩, nmX3⟩
theorem kfl_X3_53 : gFl RX3 53 4 3 (.int) false 18 := ⟨RX4, TX4, rfl, kw_X4, by decide, W0_in (tp_2 (List.mem_of_getElem? (i := 226) (by decide +kernel))) rfl, rfl, rfl, ⟨tyX4, tyX4_ok⟩, nmX4⟩
theorem kfl_X3_58 : gFl RX3 58 4 6 (.array .int) true 18 := ⟨RX4, TX4, rfl, kw_X4, by decide, W0_in (tp_2 (List.mem_of_getElem? (i := 234) (by decide +kernel))) rfl, rfl, rfl, ⟨tyX4, tyX4_ok⟩, nmX4⟩
theorem kfl_X3_61 : gFl RX3 61 4 10 (.array .boolean) true 18 := ⟨RX4, TX4, rfl, kw_X4, by decide, W0_in (tp_3 (List.mem_of_getElem? (i := 5) (by decide +kernel))) rfl, rfl, rfl, ⟨tyX4, tyX4_ok⟩, nmX4⟩
theorem kfl_X3_67 : gFl RX3 67 4 5 (.array .int) true 18 := ⟨RX4, TX4, rfl, kw_X4, by decide, W0_in (tp_2 (List.mem_of_getElem? (i := 231) (by decide +kernel))) rfl, rfl, rfl, ⟨tyX4, tyX4_ok⟩, nmX4⟩
theorem kfl_X3_70 : gFl RX3 70 4 7 (.array .int) true 18 := ⟨RX4, TX4, rfl, kw_X4, by decide, W0_in (tp_2 (List.mem_of_getElem? (i := 237) (by decide +kernel))) rfl, rfl, rfl, ⟨tyX4, tyX4_ok⟩, nmX4⟩
theorem kfl_X3_73 : gFl RX3 73 4 9 (.array .int) true 18 := ⟨RX4, TX4, rfl, kw_X4, by decide, W0_in (tp_3 (List.mem_of_getElem? (i := 2) (by decide +kernel))) rfl, rfl, rfl, ⟨tyX4, tyX4_ok⟩, nmX4⟩
theorem kfl_X3_85 : gFl RX3 85 3 10 (.int) false 13 := ⟨RX3, TX3, rfl, kw_X3, by decide, W0_in (tp_7 (List.mem_of_getElem? (i := 44) (by decide +kernel))) rfl, rfl, rfl, ⟨tyX3, tyX3_ok⟩, nmX3⟩
theorem kfl_X3_92 : gFl RX3 92 3 11 (.int) false 13 := ⟨RX3, TX3, rfl, kw_X3, by decide, W0_in (tp_7 (List.mem_of_getElem? (i := 45) (by decide +kernel))) rfl, rfl, rfl, ⟨tyX3, tyX3_ok⟩, nmX3⟩
theorem kfl_X3_95 : gFl RX3 95 3 12 (.int) false 13 := ⟨RX3, TX3, rfl, kw_X3, by decide, W0_in (tp_7 (List.mem_of_getElem? (i := 46) (by decide +kernel))) rfl, rfl, rfl, ⟨tyX3, tyX3_ok⟩, nmX3⟩
theorem kfl_X4_11 : gFl RX4 11 4 0 (.object "ScheduleHouse$Code") true 18 := ⟨RX4, TX4, rfl, kw_X4, by decide, W0_in (tp_2 (List.mem_of_getElem? (i := 220) (by decide +kernel))) rfl, rfl, rfl, ⟨tyX4, tyX4_ok⟩, nmX4⟩
theorem kfl_X4_17 : gFl RX4 17 4 1 (.array .int) true 18 := ⟨RX4, TX4, rfl, kw_X4, by decide, W0_in (tp_2 (List.mem_of_getElem? (i := 221) (by decide +kernel))) rfl, rfl, rfl, ⟨tyX4, tyX4_ok⟩, nmX4⟩
theorem kfl_X4_21 : gFl RX4 21 4 5 (.array .int) true 18 := ⟨RX4, TX4, rfl, kw_X4, by decide, W0_in (tp_2 (List.mem_of_getElem? (i := 230) (by decide +kernel))) rfl, rfl, rfl, ⟨tyX4, tyX4_ok⟩, nmX4⟩
theorem kfl_X4_24 : gFl RX4 24 4 6 (.array .int) true 18 := ⟨RX4, TX4, rfl, kw_X4, by decide, W0_in (tp_2 (List.mem_of_getElem? (i := 233) (by decide +kernel))) rfl, rfl, rfl, ⟨tyX4, tyX4_ok⟩, nmX4⟩
theorem kfl_X4_27 : gFl RX4 27 4 7 (.array .int) true 18 := ⟨RX4, TX4, rfl, kw_X4, by decide, W0_in (tp_2 (List.mem_of_getElem? (i := 236) (by decide +kernel))) rfl, rfl, rfl, ⟨tyX4, tyX4_ok⟩, nmX4⟩
theorem kfl_X4_30 : gFl RX4 30 4 8 (.array .int) true 18 := ⟨RX4, TX4, rfl, kw_X4, by decide, W0_in (tp_2 (List.mem_of_getElem? (i := 239) (by decide +kernel))) rfl, rfl, rfl, ⟨tyX4, tyX4_ok⟩, nmX4⟩
theorem kfl_X4_33 : gFl RX4 33 4 9 (.array .int) true 18 := ⟨RX4, TX4, rfl, kw_X4, by decide, W0_in (tp_3 (List.mem_of_getElem? (i := 1) (by decide +kernel))) rfl, rfl, rfl, ⟨tyX4, tyX4_ok⟩, nmX4⟩
theorem kfl_X4_36 : gFl RX4 36 4 10 (.array .boolean) true 18 := ⟨RX4, TX4, rfl, kw_X4, by decide, W0_in (tp_3 (List.mem_of_getElem? (i := 4) (by decide +kernel))) rfl, rfl, rfl, ⟨tyX4, tyX4_ok⟩, nmX4⟩
theorem kfl_X4_40 : gFl RX4 40 4 11 (.array .int) true 18 := ⟨RX4, TX4, rfl, kw_X4, by decide, W0_in (tp_3 (List.mem_of_getElem? (i := 6) (by decide +kernel))) rfl, rfl, rfl, ⟨tyX4, tyX4_ok⟩, nmX4⟩
theorem kfl_X4_43 : gFl RX4 43 4 12 (.array .int) true 18 := ⟨RX4, TX4, rfl, kw_X4, by decide, W0_in (tp_3 (List.mem_of_getElem? (i := 7) (by decide +kernel))) rfl, rfl, rfl, ⟨tyX4, tyX4_ok⟩, nmX4⟩
theorem kfl_X4_46 : gFl RX4 46 4 13 (.array .int) true 18 := ⟨RX4, TX4, rfl, kw_X4, by decide, W0_in (tp_3 (List.mem_of_getElem? (i := 8) (by decide +kernel))) rfl, rfl, rfl, ⟨tyX4, tyX4_ok⟩, nmX4⟩
theorem kfl_X4_49 : gFl RX4 49 4 14 (.array .int) true 18 := ⟨RX4, TX4, rfl, kw_X4, by decide, W0_in (tp_3 (List.mem_of_getElem? (i := 9) (by decide +kernel))) rfl, rfl, rfl, ⟨tyX4, tyX4_ok⟩, nmX4⟩
theorem kfl_X4_52 : gFl RX4 52 4 15 (.array .int) true 18 := ⟨RX4, TX4, rfl, kw_X4, by decide, W0_in (tp_3 (List.mem_of_getElem? (i := 10) (by decide +kernel))) rfl, rfl, rfl, ⟨tyX4, tyX4_ok⟩, nmX4⟩
theorem kfl_X4_55 : gFl RX4 55 4 16 (.array .int) true 18 := ⟨RX4, TX4, rfl, kw_X4, by decide, W0_in (tp_3 (List.mem_of_getElem? (i := 11) (by decide +kernel))) rfl, rfl, rfl, ⟨tyX4, tyX4_ok⟩, nmX4⟩
theorem kfl_X4_58 : gFl RX4 58 4 17 (.array .int) true 18 := ⟨RX4, TX4, rfl, kw_X4, by decide, W0_in (tp_3 (List.mem_of_getElem? (i := 12) (by decide +kernel))) rfl, rfl, rfl, ⟨tyX4, tyX4_ok⟩, nmX4⟩
theorem kfl_X4_61 : gFl RX4 61 4 2 (.int) false 18 := ⟨RX4, TX4, rfl, kw_X4, by decide, W0_in (tp_2 (List.mem_of_getElem? (i := 223) (by decide +kernel))) rfl, rfl, rfl, ⟨tyX4, tyX4_ok⟩, nmX4⟩
theorem kfl_X4_65 : gFl RX4 65 4 3 (.int) false 18 := ⟨RX4, TX4, rfl, kw_X4, by decide, W0_in (tp_2 (List.mem_of_getElem? (i := 225) (by decide +kernel))) rfl, rfl, rfl, ⟨tyX4, tyX4_ok⟩, nmX4⟩
theorem kfl_X4_68 : gFl RX4 68 4 4 (.int) false 18 := ⟨RX4, TX4, rfl, kw_X4, by decide, W0_in (tp_2 (List.mem_of_getElem? (i := 228) (by decide +kernel))) rfl, rfl, rfl, ⟨tyX4, tyX4_ok⟩, nmX4⟩
theorem kfl_X4_77 : gFl RX4 77 1 0 (.int) false 7 := ⟨RX1, TX1, rfl, kw_X1, by decide, W0_in (tp_2 (List.mem_of_getElem? (i := 123) (by decide +kernel))) rfl, rfl, rfl, ⟨tyX1, tyX1_ok⟩, nmX1⟩
theorem kfl_X4_81 : gFl RX4 81 1 1 (.int) false 7 := ⟨RX1, TX1, rfl, kw_X1, by decide, W0_in (tp_2 (List.mem_of_getElem? (i := 125) (by decide +kernel))) rfl, rfl, rfl, ⟨tyX1, tyX1_ok⟩, nmX1⟩
theorem kfl_X4_83 : gFl RX4 83 1 2 (.int) false 7 := ⟨RX1, TX1, rfl, kw_X1, by decide, W0_in (tp_2 (List.mem_of_getElem? (i := 127) (by decide +kernel))) rfl, rfl, rfl, ⟨tyX1, tyX1_ok⟩, nmX1⟩
theorem kfl_X4_85 : gFl RX4 85 1 3 (.int) false 7 := ⟨RX1, TX1, rfl, kw_X1, by decide, W0_in (tp_2 (List.mem_of_getElem? (i := 130) (by decide +kernel))) rfl, rfl, rfl, ⟨tyX1, tyX1_ok⟩, nmX1⟩
theorem kfl_X4_87 : gFl RX4 87 1 4 (.int) false 7 := ⟨RX1, TX1, rfl, kw_X1, by decide, W0_in (tp_2 (List.mem_of_getElem? (i := 133) (by decide +kernel))) rfl, rfl, rfl, ⟨tyX1, tyX1_ok⟩, nmX1⟩
theorem kfl_X4_89 : gFl RX4 89 1 5 (.boolean) false 7 := ⟨RX1, TX1, rfl, kw_X1, by decide, W0_in (tp_2 (List.mem_of_getElem? (i := 136) (by decide +kernel))) rfl, rfl, rfl, ⟨tyX1, tyX1_ok⟩, nmX1⟩
theorem kfl_X4_98 : gFl RX4 98 1 6 (.int) false 7 := ⟨RX1, TX1, rfl, kw_X1, by decide, W0_in (tp_2 (List.mem_of_getElem? (i := 139) (by decide +kernel))) rfl, rfl, rfl, ⟨tyX1, tyX1_ok⟩, nmX1⟩
theorem kfl_X4_116 : gFl RX4 116 0 8 (.array .boolean) true 18 := ⟨RX0, TX0, rfl, kw_X0, by decide, W0_in (tp_1 (List.mem_of_getElem? (i := 214) (by decide +kernel))) rfl, rfl, rfl, ⟨tyX0, tyX0_ok⟩, nmX0⟩
theorem kfl_X5_11 : gFl RX5 11 5 0 (.object "ScheduleHouse$Code") true 15 := ⟨RX5, TX5, rfl, kw_X5, by decide, W0_in (tp_2 (List.mem_of_getElem? (i := 156) (by decide +kernel))) rfl, rfl, rfl, ⟨tyX5, tyX5_ok⟩, nmX5⟩
theorem kfl_X5_15 : gFl RX5 15 0 0 (.object "ScheduleHouse$Steps") true 18 := ⟨RX0, TX0, rfl, kw_X0, by decide, W0_in (tp_1 (List.mem_of_getElem? (i := 193) (by decide +kernel))) rfl, rfl, rfl, ⟨tyX0, tyX0_ok⟩, nmX0⟩
theorem kfl_X5_21 : gFl RX5 21 5 1 (.object "ScheduleHouse$Steps") true 15 := ⟨RX5, TX5, rfl, kw_X5, by decide, W0_in (tp_2 (List.mem_of_getElem? (i := 157) (by decide +kernel))) rfl, rfl, rfl, ⟨tyX5, tyX5_ok⟩, nmX5⟩
theorem kfl_X5_25 : gFl RX5 25 5 2 (.object "ScheduleHouse$Deed") true 15 := ⟨RX5, TX5, rfl, kw_X5, by decide, W0_in (tp_2 (List.mem_of_getElem? (i := 158) (by decide +kernel))) rfl, rfl, rfl, ⟨tyX5, tyX5_ok⟩, nmX5⟩
theorem kfl_X5_29 : gFl RX5 29 5 4 (.array .int) true 15 := ⟨RX5, TX5, rfl, kw_X5, by decide, W0_in (tp_2 (List.mem_of_getElem? (i := 162) (by decide +kernel))) rfl, rfl, rfl, ⟨tyX5, tyX5_ok⟩, nmX5⟩
theorem kfl_X5_33 : gFl RX5 33 5 10 (.array .int) true 15 := ⟨RX5, TX5, rfl, kw_X5, by decide, W0_in (tp_2 (List.mem_of_getElem? (i := 171) (by decide +kernel))) rfl, rfl, rfl, ⟨tyX5, tyX5_ok⟩, nmX5⟩
theorem kfl_X5_36 : gFl RX5 36 5 11 (.array .int) true 15 := ⟨RX5, TX5, rfl, kw_X5, by decide, W0_in (tp_2 (List.mem_of_getElem? (i := 174) (by decide +kernel))) rfl, rfl, rfl, ⟨tyX5, tyX5_ok⟩, nmX5⟩
theorem kfl_X5_39 : gFl RX5 39 5 12 (.array .int) true 15 := ⟨RX5, TX5, rfl, kw_X5, by decide, W0_in (tp_2 (List.mem_of_getElem? (i := 177) (by decide +kernel))) rfl, rfl, rfl, ⟨tyX5, tyX5_ok⟩, nmX5⟩
theorem kfl_X5_42 : gFl RX5 42 5 3 (.int) false 15 := ⟨RX5, TX5, rfl, kw_X5, by decide, W0_in (tp_2 (List.mem_of_getElem? (i := 160) (by decide +kernel))) rfl, rfl, rfl, ⟨tyX5, tyX5_ok⟩, nmX5⟩
theorem kfl_X5_46 : gFl RX5 46 0 6 (.int) false 18 := ⟨RX0, TX0, rfl, kw_X0, by decide, W0_in (tp_1 (List.mem_of_getElem? (i := 206) (by decide +kernel))) rfl, rfl, rfl, ⟨tyX0, tyX0_ok⟩, nmX0⟩
theorem kfl_X5_49 : gFl RX5 49 5 6 (.int) false 15 := ⟨RX5, TX5, rfl, kw_X5, by decide, W0_in (tp_2 (List.mem_of_getElem? (i := 167) (by decide +kernel))) rfl, rfl, rfl, ⟨tyX5, tyX5_ok⟩, nmX5⟩
theorem kfl_X5_52 : gFl RX5 52 0 9 (.int) false 18 := ⟨RX0, TX0, rfl, kw_X0, by decide, W0_in (tp_1 (List.mem_of_getElem? (i := 219) (by decide +kernel))) rfl, rfl, rfl, ⟨tyX0, tyX0_ok⟩, nmX0⟩
theorem kfl_X5_55 : gFl RX5 55 5 7 (.int) false 15 := ⟨RX5, TX5, rfl, kw_X5, by decide, W0_in (tp_2 (List.mem_of_getElem? (i := 168) (by decide +kernel))) rfl, rfl, rfl, ⟨tyX5, tyX5_ok⟩, nmX5⟩
theorem kfl_X5_58 : gFl RX5 58 0 13 (.int) false 18 := ⟨RX0, TX0, rfl, kw_X0, by decide, W0_in (tp_1 (List.mem_of_getElem? (i := 234) (by decide +kernel))) rfl, rfl, rfl, ⟨tyX0, tyX0_ok⟩, nmX0⟩
theorem kfl_X5_61 : gFl RX5 61 5 9 (.int) false 15 := ⟨RX5, TX5, rfl, kw_X5, by decide, W0_in (tp_2 (List.mem_of_getElem? (i := 170) (by decide +kernel))) rfl, rfl, rfl, ⟨tyX5, tyX5_ok⟩, nmX5⟩
theorem kfl_X5_64 : gFl RX5 64 5 8 (.int) false 15 := ⟨RX5, TX5, rfl, kw_X5, by decide, W0_in (tp_2 (List.mem_of_getElem? (i := 169) (by decide +kernel))) rfl, rfl, rfl, ⟨tyX5, tyX5_ok⟩, nmX5⟩
theorem kfl_X5_67 : gFl RX5 67 0 10 (.int) false 18 := ⟨RX0, TX0, rfl, kw_X0, by decide, W0_in (tp_1 (List.mem_of_getElem? (i := 223) (by decide +kernel))) rfl, rfl, rfl, ⟨tyX0, tyX0_ok⟩, nmX0⟩
theorem kfl_X5_70 : gFl RX5 70 5 5 (.int) false 15 := ⟨RX5, TX5, rfl, kw_X5, by decide, W0_in (tp_2 (List.mem_of_getElem? (i := 165) (by decide +kernel))) rfl, rfl, rfl, ⟨tyX5, tyX5_ok⟩, nmX5⟩
theorem kfl_X5_79 : gFl RX5 79 0 7 (.array .int) true 18 := ⟨RX0, TX0, rfl, kw_X0, by decide, W0_in (tp_1 (List.mem_of_getElem? (i := 212) (by decide +kernel))) rfl, rfl, rfl, ⟨tyX0, tyX0_ok⟩, nmX0⟩
theorem kfl_X5_82 : gFl RX5 82 0 12 (.array .boolean) true 18 := ⟨RX0, TX0, rfl, kw_X0, by decide, W0_in (tp_1 (List.mem_of_getElem? (i := 231) (by decide +kernel))) rfl, rfl, rfl, ⟨tyX0, tyX0_ok⟩, nmX0⟩
theorem kfl_X5_98 : gFl RX5 98 5 13 (.int) false 15 := ⟨RX5, TX5, rfl, kw_X5, by decide, W0_in (tp_2 (List.mem_of_getElem? (i := 181) (by decide +kernel))) rfl, rfl, rfl, ⟨tyX5, tyX5_ok⟩, nmX5⟩
theorem kfl_X5_105 : gFl RX5 105 8 2 (.array .int) true 10 := ⟨RX8, TX8, rfl, kw_X8, by decide, W0_in (tp_1 (List.mem_of_getElem? (i := 150) (by decide +kernel))) rfl, rfl, rfl, ⟨tyX8, tyX8_ok⟩, nmX8⟩
theorem kfl_X5_110 : gFl RX5 110 8 1 (.array .int) true 10 := ⟨RX8, TX8, rfl, kw_X8, by decide, W0_in (tp_1 (List.mem_of_getElem? (i := 147) (by decide +kernel))) rfl, rfl, rfl, ⟨tyX8, tyX8_ok⟩, nmX8⟩
theorem kfl_X5_127 : gFl RX5 127 8 0 (.array .int) true 10 := ⟨RX8, TX8, rfl, kw_X8, by decide, W0_in (tp_1 (List.mem_of_getElem? (i := 144) (by decide +kernel))) rfl, rfl, rfl, ⟨tyX8, tyX8_ok⟩, nmX8⟩
theorem kfl_X5_136 : gFl RX5 136 8 4 (.array .int) true 10 := ⟨RX8, TX8, rfl, kw_X8, by decide, W0_in (tp_1 (List.mem_of_getElem? (i := 156) (by decide +kernel))) rfl, rfl, rfl, ⟨tyX8, tyX8_ok⟩, nmX8⟩
theorem kfl_X5_139 : gFl RX5 139 8 6 (.array .int) true 10 := ⟨RX8, TX8, rfl, kw_X8, by decide, W0_in (tp_1 (List.mem_of_getElem? (i := 161) (by decide +kernel))) rfl, rfl, rfl, ⟨tyX8, tyX8_ok⟩, nmX8⟩
theorem kfl_X5_149 : gFl RX5 149 0 5 (.boolean) false 18 := ⟨RX0, TX0, rfl, kw_X0, by decide, W0_in (tp_1 (List.mem_of_getElem? (i := 205) (by decide +kernel))) rfl, rfl, rfl, ⟨tyX0, tyX0_ok⟩, nmX0⟩
theorem kfl_X5_153 : gFl RX5 153 8 5 (.array .int) true 10 := ⟨RX8, TX8, rfl, kw_X8, by decide, W0_in (tp_1 (List.mem_of_getElem? (i := 158) (by decide +kernel))) rfl, rfl, rfl, ⟨tyX8, tyX8_ok⟩, nmX8⟩
theorem kfl_X5_154 : gFl RX5 154 5 14 (.int) false 15 := ⟨RX5, TX5, rfl, kw_X5, by decide, W0_in (tp_2 (List.mem_of_getElem? (i := 182) (by decide +kernel))) rfl, rfl, rfl, ⟨tyX5, tyX5_ok⟩, nmX5⟩
theorem kfl_X5_157 : gFl RX5 157 0 8 (.array .boolean) true 18 := ⟨RX0, TX0, rfl, kw_X0, by decide, W0_in (tp_1 (List.mem_of_getElem? (i := 216) (by decide +kernel))) rfl, rfl, rfl, ⟨tyX0, tyX0_ok⟩, nmX0⟩
theorem kfl_X5_160 : gFl RX5 160 8 7 (.array .int) true 10 := ⟨RX8, TX8, rfl, kw_X8, by decide, W0_in (tp_1 (List.mem_of_getElem? (i := 165) (by decide +kernel))) rfl, rfl, rfl, ⟨tyX8, tyX8_ok⟩, nmX8⟩
theorem kfl_X5_163 : gFl RX5 163 8 8 (.array .int) true 10 := ⟨RX8, TX8, rfl, kw_X8, by decide, W0_in (tp_1 (List.mem_of_getElem? (i := 167) (by decide +kernel))) rfl, rfl, rfl, ⟨tyX8, tyX8_ok⟩, nmX8⟩
theorem kfl_X5_182 : gFl RX5 182 8 3 (.array .int) true 10 := ⟨RX8, TX8, rfl, kw_X8, by decide, W0_in (tp_1 (List.mem_of_getElem? (i := 153) (by decide +kernel))) rfl, rfl, rfl, ⟨tyX8, tyX8_ok⟩, nmX8⟩
theorem kfl_X5_199 : gFl RX5 199 1 5 (.boolean) false 7 := ⟨RX1, TX1, rfl, kw_X1, by decide, W0_in (tp_2 (List.mem_of_getElem? (i := 137) (by decide +kernel))) rfl, rfl, rfl, ⟨tyX1, tyX1_ok⟩, nmX1⟩
theorem kfl_X5_238 : gFl RX5 238 1 2 (.int) false 7 := ⟨RX1, TX1, rfl, kw_X1, by decide, W0_in (tp_2 (List.mem_of_getElem? (i := 128) (by decide +kernel))) rfl, rfl, rfl, ⟨tyX1, tyX1_ok⟩, nmX1⟩
theorem kfl_X5_243 : gFl RX5 243 1 3 (.int) false 7 := ⟨RX1, TX1, rfl, kw_X1, by decide, W0_in (tp_2 (List.mem_of_getElem? (i := 131) (by decide +kernel))) rfl, rfl, rfl, ⟨tyX1, tyX1_ok⟩, nmX1⟩
theorem kfl_X5_252 : gFl RX5 252 1 4 (.int) false 7 := ⟨RX1, TX1, rfl, kw_X1, by decide, W0_in (tp_2 (List.mem_of_getElem? (i := 134) (by decide +kernel))) rfl, rfl, rfl, ⟨tyX1, tyX1_ok⟩, nmX1⟩
theorem kfl_X5_255 : gFl RX5 255 1 6 (.int) false 7 := ⟨RX1, TX1, rfl, kw_X1, by decide, W0_in (tp_2 (List.mem_of_getElem? (i := 140) (by decide +kernel))) rfl, rfl, rfl, ⟨tyX1, tyX1_ok⟩, nmX1⟩
theorem kfl_X5_258 : gFl RX5 258 0 11 (.array .int) true 18 := ⟨RX0, TX0, rfl, kw_X0, by decide, W0_in (tp_1 (List.mem_of_getElem? (i := 229) (by decide +kernel))) rfl, rfl, rfl, ⟨tyX0, tyX0_ok⟩, nmX0⟩
theorem kfl_X6_9 : gFl RX6 9 6 0 (.object "ScheduleHouse$Tokens") true 12 := ⟨RX6, TX6, rfl, kw_X6, by decide, W0_in (tp_1 (List.mem_of_getElem? (i := 89) (by decide +kernel))) rfl, rfl, rfl, ⟨tyX6, tyX6_ok⟩, nmX6⟩
theorem kfl_X6_17 : gFl RX6 17 6 1 (.array .int) true 12 := ⟨RX6, TX6, rfl, kw_X6, by decide, W0_in (tp_1 (List.mem_of_getElem? (i := 90) (by decide +kernel))) rfl, rfl, rfl, ⟨tyX6, tyX6_ok⟩, nmX6⟩
theorem kfl_X6_21 : gFl RX6 21 6 2 (.array .int) true 12 := ⟨RX6, TX6, rfl, kw_X6, by decide, W0_in (tp_1 (List.mem_of_getElem? (i := 92) (by decide +kernel))) rfl, rfl, rfl, ⟨tyX6, tyX6_ok⟩, nmX6⟩
theorem kfl_X6_24 : gFl RX6 24 6 3 (.array .int) true 12 := ⟨RX6, TX6, rfl, kw_X6, by decide, W0_in (tp_1 (List.mem_of_getElem? (i := 94) (by decide +kernel))) rfl, rfl, rfl, ⟨tyX6, tyX6_ok⟩, nmX6⟩
theorem kfl_X6_27 : gFl RX6 27 6 4 (.array .int) true 12 := ⟨RX6, TX6, rfl, kw_X6, by decide, W0_in (tp_1 (List.mem_of_getElem? (i := 95) (by decide +kernel))) rfl, rfl, rfl, ⟨tyX6, tyX6_ok⟩, nmX6⟩
theorem kfl_X6_30 : gFl RX6 30 6 5 (.array .int) true 12 := ⟨RX6, TX6, rfl, kw_X6, by decide, W0_in (tp_1 (List.mem_of_getElem? (i := 97) (by decide +kernel))) rfl, rfl, rfl, ⟨tyX6, tyX6_ok⟩, nmX6⟩
theorem kfl_X6_33 : gFl RX6 33 6 7 (.array .int) true 12 := ⟨RX6, TX6, rfl, kw_X6, by decide, W0_in (tp_1 (List.mem_of_getElem? (i := 100) (by decide +kernel))) rfl, rfl, rfl, ⟨tyX6, tyX6_ok⟩, nmX6⟩
theorem kfl_X6_36 : gFl RX6 36 6 9 (.array .int) true 12 := ⟨RX6, TX6, rfl, kw_X6, by decide, W0_in (tp_1 (List.mem_of_getElem? (i := 102) (by decide +kernel))) rfl, rfl, rfl, ⟨tyX6, tyX6_ok⟩, nmX6⟩
theorem kfl_X6_39 : gFl RX6 39 6 6 (.int) false 12 := ⟨RX6, TX6, rfl, kw_X6, by decide, W0_in (tp_1 (List.mem_of_getElem? (i := 99) (by decide +kernel))) rfl, rfl, rfl, ⟨tyX6, tyX6_ok⟩, nmX6⟩
theorem kfl_X6_43 : gFl RX6 43 6 8 (.int) false 12 := ⟨RX6, TX6, rfl, kw_X6, by decide, W0_in (tp_1 (List.mem_of_getElem? (i := 101) (by decide +kernel))) rfl, rfl, rfl, ⟨tyX6, tyX6_ok⟩, nmX6⟩
theorem kfl_X6_46 : gFl RX6 46 6 10 (.int) false 12 := ⟨RX6, TX6, rfl, kw_X6, by decide, W0_in (tp_1 (List.mem_of_getElem? (i := 103) (by decide +kernel))) rfl, rfl, rfl, ⟨tyX6, tyX6_ok⟩, nmX6⟩
theorem kfl_X6_55 : gFl RX6 55 9 7 (.int) false 10 := ⟨RX9, TX9, rfl, kw_X9, by decide, W0_in (tp_1 (List.mem_of_getElem? (i := 57) (by decide +kernel))) rfl, rfl, rfl, ⟨tyX9, tyX9_ok⟩, nmX9⟩
theorem kfl_X6_62 : gFl RX6 62 6 11 (.int) false 12 := ⟨RX6, TX6, rfl, kw_X6, by decide, W0_in (tp_1 (List.mem_of_getElem? (i := 105) (by decide +kernel))) rfl, rfl, rfl, ⟨tyX6, tyX6_ok⟩, nmX6⟩
theorem kfl_X6_73 : gFl RX6 73 9 6 (.array .int) true 10 := ⟨RX9, TX9, rfl, kw_X9, by decide, W0_in (tp_1 (List.mem_of_getElem? (i := 54) (by decide +kernel))) rfl, rfl, rfl, ⟨tyX9, tyX9_ok⟩, nmX9⟩
theorem kfl_X7_11 : gFl RX7 11 7 0 (.object "ScheduleHouse$Tokens") true 18 := ⟨RX7, TX7, rfl, kw_X7, by decide, W0_in (tp_2 (List.mem_of_getElem? (i := 54) (by decide +kernel))) rfl, rfl, rfl, ⟨tyX7, tyX7_ok⟩, nmX7⟩
theorem kfl_X7_15 : gFl RX7 15 7 1 (.object "ScheduleHouse$Names") true 18 := ⟨RX7, TX7, rfl, kw_X7, by decide, W0_in (tp_2 (List.mem_of_getElem? (i := 55) (by decide +kernel))) rfl, rfl, rfl, ⟨tyX7, tyX7_ok⟩, nmX7⟩
theorem kfl_X7_19 : gFl RX7 19 7 2 (.object "ScheduleHouse$Code") true 18 := ⟨RX7, TX7, rfl, kw_X7, by decide, W0_in (tp_2 (List.mem_of_getElem? (i := 56) (by decide +kernel))) rfl, rfl, rfl, ⟨tyX7, tyX7_ok⟩, nmX7⟩
theorem kfl_X7_23 : gFl RX7 23 0 0 (.object "ScheduleHouse$Steps") true 18 := ⟨RX0, TX0, rfl, kw_X0, by decide, W0_in (tp_1 (List.mem_of_getElem? (i := 195) (by decide +kernel))) rfl, rfl, rfl, ⟨tyX0, tyX0_ok⟩, nmX0⟩
theorem kfl_X7_29 : gFl RX7 29 7 3 (.object "ScheduleHouse$Steps") true 18 := ⟨RX7, TX7, rfl, kw_X7, by decide, W0_in (tp_2 (List.mem_of_getElem? (i := 57) (by decide +kernel))) rfl, rfl, rfl, ⟨tyX7, tyX7_ok⟩, nmX7⟩
theorem kfl_X7_30 : gFl RX7 30 7 8 (.array .int) true 18 := ⟨RX7, TX7, rfl, kw_X7, by decide, W0_in (tp_2 (List.mem_of_getElem? (i := 63) (by decide +kernel))) rfl, rfl, rfl, ⟨tyX7, tyX7_ok⟩, nmX7⟩
theorem kfl_X7_34 : gFl RX7 34 7 10 (.array .int) true 18 := ⟨RX7, TX7, rfl, kw_X7, by decide, W0_in (tp_2 (List.mem_of_getElem? (i := 65) (by decide +kernel))) rfl, rfl, rfl, ⟨tyX7, tyX7_ok⟩, nmX7⟩
theorem kfl_X7_37 : gFl RX7 37 7 11 (.array .int) true 18 := ⟨RX7, TX7, rfl, kw_X7, by decide, W0_in (tp_2 (List.mem_of_getElem? (i := 66) (by decide +kernel))) rfl, rfl, rfl, ⟨tyX7, tyX7_ok⟩, nmX7⟩
theorem kfl_X7_40 : gFl RX7 40 7 12 (.array .int) true 18 := ⟨RX7, TX7, rfl, kw_X7, by decide, W0_in (tp_2 (List.mem_of_getElem? (i := 67) (by decide +kernel))) rfl, rfl, rfl, ⟨tyX7, tyX7_ok⟩, nmX7⟩
theorem kfl_X7_43 : gFl RX7 43 7 14 (.array .int) true 18 := ⟨RX7, TX7, rfl, kw_X7, by decide, W0_in (tp_2 (List.mem_of_getElem? (i := 69) (by decide +kernel))) rfl, rfl, rfl, ⟨tyX7, tyX7_ok⟩, nmX7⟩
theorem kfl_X7_46 : gFl RX7 46 7 15 (.array .int) true 18 := ⟨RX7, TX7, rfl, kw_X7, by decide, W0_in (tp_2 (List.mem_of_getElem? (i := 70) (by decide +kernel))) rfl, rfl, rfl, ⟨tyX7, tyX7_ok⟩, nmX7⟩
theorem kfl_X7_49 : gFl RX7 49 7 16 (.array .int) true 18 := ⟨RX7, TX7, rfl, kw_X7, by decide, W0_in (tp_2 (List.mem_of_getElem? (i := 71) (by decide +kernel))) rfl, rfl, rfl, ⟨tyX7, tyX7_ok⟩, nmX7⟩
theorem kfl_X7_52 : gFl RX7 52 7 4 (.int) false 18 := ⟨RX7, TX7, rfl, kw_X7, by decide, W0_in (tp_2 (List.mem_of_getElem? (i := 58) (by decide +kernel))) rfl, rfl, rfl, ⟨tyX7, tyX7_ok⟩, nmX7⟩
theorem kfl_X7_62 : gFl RX7 62 7 6 (.int) false 18 := ⟨RX7, TX7, rfl, kw_X7, by decide, W0_in (tp_2 (List.mem_of_getElem? (i := 60) (by decide +kernel))) rfl, rfl, rfl, ⟨tyX7, tyX7_ok⟩, nmX7⟩
theorem kfl_X7_65 : gFl RX7 65 7 5 (.boolean) false 18 := ⟨RX7, TX7, rfl, kw_X7, by decide, W0_in (tp_2 (List.mem_of_getElem? (i := 59) (by decide +kernel))) rfl, rfl, rfl, ⟨tyX7, tyX7_ok⟩, nmX7⟩
theorem kfl_X7_100 : gFl RX7 100 9 2 (.array .int) true 10 := ⟨RX9, TX9, rfl, kw_X9, by decide, W0_in (tp_1 (List.mem_of_getElem? (i := 46) (by decide +kernel))) rfl, rfl, rfl, ⟨tyX9, tyX9_ok⟩, nmX9⟩
theorem kfl_X7_109 : gFl RX7 109 6 1 (.array .int) true 12 := ⟨RX6, TX6, rfl, kw_X6, by decide, W0_in (tp_1 (List.mem_of_getElem? (i := 91) (by decide +kernel))) rfl, rfl, rfl, ⟨tyX6, tyX6_ok⟩, nmX6⟩
theorem kfl_X7_127 : gFl RX7 127 0 6 (.int) false 18 := ⟨RX0, TX0, rfl, kw_X0, by decide, W0_in (tp_1 (List.mem_of_getElem? (i := 210) (by decide +kernel))) rfl, rfl, rfl, ⟨tyX0, tyX0_ok⟩, nmX0⟩
theorem kfl_X7_147 : gFl RX7 147 9 6 (.array .int) true 10 := ⟨RX9, TX9, rfl, kw_X9, by decide, W0_in (tp_1 (List.mem_of_getElem? (i := 55) (by decide +kernel))) rfl, rfl, rfl, ⟨tyX9, tyX9_ok⟩, nmX9⟩
theorem kfl_X7_154 : gFl RX7 154 0 9 (.int) false 18 := ⟨RX0, TX0, rfl, kw_X0, by decide, W0_in (tp_1 (List.mem_of_getElem? (i := 221) (by decide +kernel))) rfl, rfl, rfl, ⟨tyX0, tyX0_ok⟩, nmX0⟩
theorem kfl_X7_160 : gFl RX7 160 0 10 (.int) false 18 := ⟨RX0, TX0, rfl, kw_X0, by decide, W0_in (tp_1 (List.mem_of_getElem? (i := 226) (by decide +kernel))) rfl, rfl, rfl, ⟨tyX0, tyX0_ok⟩, nmX0⟩
theorem kfl_X7_166 : gFl RX7 166 0 12 (.array .boolean) true 18 := ⟨RX0, TX0, rfl, kw_X0, by decide, W0_in (tp_1 (List.mem_of_getElem? (i := 232) (by decide +kernel))) rfl, rfl, rfl, ⟨tyX0, tyX0_ok⟩, nmX0⟩
theorem kfl_X7_170 : gFl RX7 170 0 11 (.array .int) true 18 := ⟨RX0, TX0, rfl, kw_X0, by decide, W0_in (tp_1 (List.mem_of_getElem? (i := 228) (by decide +kernel))) rfl, rfl, rfl, ⟨tyX0, tyX0_ok⟩, nmX0⟩
theorem kfl_X7_173 : gFl RX7 173 8 9 (.int) false 10 := ⟨RX8, TX8, rfl, kw_X8, by decide, W0_in (tp_1 (List.mem_of_getElem? (i := 171) (by decide +kernel))) rfl, rfl, rfl, ⟨tyX8, tyX8_ok⟩, nmX8⟩
theorem kfl_X7_178 : gFl RX7 178 7 7 (.int) false 18 := ⟨RX7, TX7, rfl, kw_X7, by decide, W0_in (tp_2 (List.mem_of_getElem? (i := 62) (by decide +kernel))) rfl, rfl, rfl, ⟨tyX7, tyX7_ok⟩, nmX7⟩
theorem kfl_X7_181 : gFl RX7 181 7 9 (.int) false 18 := ⟨RX7, TX7, rfl, kw_X7, by decide, W0_in (tp_2 (List.mem_of_getElem? (i := 64) (by decide +kernel))) rfl, rfl, rfl, ⟨tyX7, tyX7_ok⟩, nmX7⟩
theorem kfl_X7_184 : gFl RX7 184 7 13 (.int) false 18 := ⟨RX7, TX7, rfl, kw_X7, by decide, W0_in (tp_2 (List.mem_of_getElem? (i := 68) (by decide +kernel))) rfl, rfl, rfl, ⟨tyX7, tyX7_ok⟩, nmX7⟩
theorem kfl_X7_195 : gFl RX7 195 0 14 (.int) false 18 := ⟨RX0, TX0, rfl, kw_X0, by decide, W0_in (tp_1 (List.mem_of_getElem? (i := 239) (by decide +kernel))) rfl, rfl, rfl, ⟨tyX0, tyX0_ok⟩, nmX0⟩
theorem kfl_X7_198 : gFl RX7 198 0 16 (.int) false 18 := ⟨RX0, TX0, rfl, kw_X0, by decide, W0_in (tp_2 (List.mem_of_getElem? (i := 6) (by decide +kernel))) rfl, rfl, rfl, ⟨tyX0, tyX0_ok⟩, nmX0⟩
theorem kfl_X7_205 : gFl RX7 205 0 15 (.array .int) true 18 := ⟨RX0, TX0, rfl, kw_X0, by decide, W0_in (tp_2 (List.mem_of_getElem? (i := 2) (by decide +kernel))) rfl, rfl, rfl, ⟨tyX0, tyX0_ok⟩, nmX0⟩
theorem kfl_X7_208 : gFl RX7 208 0 17 (.array .int) true 18 := ⟨RX0, TX0, rfl, kw_X0, by decide, W0_in (tp_2 (List.mem_of_getElem? (i := 9) (by decide +kernel))) rfl, rfl, rfl, ⟨tyX0, tyX0_ok⟩, nmX0⟩
theorem kfl_X7_214 : gFl RX7 214 8 3 (.array .int) true 10 := ⟨RX8, TX8, rfl, kw_X8, by decide, W0_in (tp_1 (List.mem_of_getElem? (i := 152) (by decide +kernel))) rfl, rfl, rfl, ⟨tyX8, tyX8_ok⟩, nmX8⟩
theorem kfl_X7_217 : gFl RX7 217 8 1 (.array .int) true 10 := ⟨RX8, TX8, rfl, kw_X8, by decide, W0_in (tp_1 (List.mem_of_getElem? (i := 148) (by decide +kernel))) rfl, rfl, rfl, ⟨tyX8, tyX8_ok⟩, nmX8⟩
theorem kfl_X7_220 : gFl RX7 220 8 4 (.array .int) true 10 := ⟨RX8, TX8, rfl, kw_X8, by decide, W0_in (tp_1 (List.mem_of_getElem? (i := 155) (by decide +kernel))) rfl, rfl, rfl, ⟨tyX8, tyX8_ok⟩, nmX8⟩
theorem kfl_X7_232 : gFl RX7 232 9 4 (.array .int) true 10 := ⟨RX9, TX9, rfl, kw_X9, by decide, W0_in (tp_1 (List.mem_of_getElem? (i := 51) (by decide +kernel))) rfl, rfl, rfl, ⟨tyX9, tyX9_ok⟩, nmX9⟩
theorem kfl_X7_233 : gFl RX7 233 8 7 (.array .int) true 10 := ⟨RX8, TX8, rfl, kw_X8, by decide, W0_in (tp_1 (List.mem_of_getElem? (i := 164) (by decide +kernel))) rfl, rfl, rfl, ⟨tyX8, tyX8_ok⟩, nmX8⟩
theorem kfl_X7_254 : gFl RX7 254 6 2 (.array .int) true 12 := ⟨RX6, TX6, rfl, kw_X6, by decide, W0_in (tp_1 (List.mem_of_getElem? (i := 93) (by decide +kernel))) rfl, rfl, rfl, ⟨tyX6, tyX6_ok⟩, nmX6⟩
theorem kfl_X7_269 : gFl RX7 269 0 13 (.int) false 18 := ⟨RX0, TX0, rfl, kw_X0, by decide, W0_in (tp_1 (List.mem_of_getElem? (i := 235) (by decide +kernel))) rfl, rfl, rfl, ⟨tyX0, tyX0_ok⟩, nmX0⟩
theorem kfl_X7_276 : gFl RX7 276 8 6 (.array .int) true 10 := ⟨RX8, TX8, rfl, kw_X8, by decide, W0_in (tp_1 (List.mem_of_getElem? (i := 162) (by decide +kernel))) rfl, rfl, rfl, ⟨tyX8, tyX8_ok⟩, nmX8⟩
theorem kfl_X7_286 : gFl RX7 286 8 8 (.array .int) true 10 := ⟨RX8, TX8, rfl, kw_X8, by decide, W0_in (tp_1 (List.mem_of_getElem? (i := 168) (by decide +kernel))) rfl, rfl, rfl, ⟨tyX8, tyX8_ok⟩, nmX8⟩
theorem kfl_X7_289 : gFl RX7 289 0 3 (.int) false 18 := ⟨RX0, TX0, rfl, kw_X0, by decide, W0_in (tp_1 (List.mem_of_getElem? (i := 201) (by decide +kernel))) rfl, rfl, rfl, ⟨tyX0, tyX0_ok⟩, nmX0⟩
theorem kfl_X7_292 : gFl RX7 292 7 17 (.int) false 18 := ⟨RX7, TX7, rfl, kw_X7, by decide, W0_in (tp_2 (List.mem_of_getElem? (i := 72) (by decide +kernel))) rfl, rfl, rfl, ⟨tyX7, tyX7_ok⟩, nmX7⟩
theorem kfl_X7_322 : gFl RX7 322 8 0 (.array .int) true 10 := ⟨RX8, TX8, rfl, kw_X8, by decide, W0_in (tp_1 (List.mem_of_getElem? (i := 145) (by decide +kernel))) rfl, rfl, rfl, ⟨tyX8, tyX8_ok⟩, nmX8⟩
theorem kfl_X7_325 : gFl RX7 325 6 4 (.array .int) true 12 := ⟨RX6, TX6, rfl, kw_X6, by decide, W0_in (tp_1 (List.mem_of_getElem? (i := 96) (by decide +kernel))) rfl, rfl, rfl, ⟨tyX6, tyX6_ok⟩, nmX6⟩
theorem kfl_X7_328 : gFl RX7 328 8 5 (.array .int) true 10 := ⟨RX8, TX8, rfl, kw_X8, by decide, W0_in (tp_1 (List.mem_of_getElem? (i := 159) (by decide +kernel))) rfl, rfl, rfl, ⟨tyX8, tyX8_ok⟩, nmX8⟩
theorem kfl_X7_331 : gFl RX7 331 6 5 (.array .int) true 12 := ⟨RX6, TX6, rfl, kw_X6, by decide, W0_in (tp_1 (List.mem_of_getElem? (i := 98) (by decide +kernel))) rfl, rfl, rfl, ⟨tyX6, tyX6_ok⟩, nmX6⟩
theorem kfl_X7_334 : gFl RX7 334 0 2 (.array .int) true 18 := ⟨RX0, TX0, rfl, kw_X0, by decide, W0_in (tp_1 (List.mem_of_getElem? (i := 199) (by decide +kernel))) rfl, rfl, rfl, ⟨tyX0, tyX0_ok⟩, nmX0⟩
theorem kfl_X7_337 : gFl RX7 337 0 1 (.array .int) true 18 := ⟨RX0, TX0, rfl, kw_X0, by decide, W0_in (tp_1 (List.mem_of_getElem? (i := 197) (by decide +kernel))) rfl, rfl, rfl, ⟨tyX0, tyX0_ok⟩, nmX0⟩
theorem kfl_X8_9 : gFl RX8 9 8 0 (.array .int) true 10 := ⟨RX8, TX8, rfl, kw_X8, by decide, W0_in (tp_1 (List.mem_of_getElem? (i := 143) (by decide +kernel))) rfl, rfl, rfl, ⟨tyX8, tyX8_ok⟩, nmX8⟩
theorem kfl_X8_15 : gFl RX8 15 8 1 (.array .int) true 10 := ⟨RX8, TX8, rfl, kw_X8, by decide, W0_in (tp_1 (List.mem_of_getElem? (i := 146) (by decide +kernel))) rfl, rfl, rfl, ⟨tyX8, tyX8_ok⟩, nmX8⟩
theorem kfl_X8_18 : gFl RX8 18 8 2 (.array .int) true 10 := ⟨RX8, TX8, rfl, kw_X8, by decide, W0_in (tp_1 (List.mem_of_getElem? (i := 149) (by decide +kernel))) rfl, rfl, rfl, ⟨tyX8, tyX8_ok⟩, nmX8⟩
theorem kfl_X8_21 : gFl RX8 21 8 3 (.array .int) true 10 := ⟨RX8, TX8, rfl, kw_X8, by decide, W0_in (tp_1 (List.mem_of_getElem? (i := 151) (by decide +kernel))) rfl, rfl, rfl, ⟨tyX8, tyX8_ok⟩, nmX8⟩
theorem kfl_X8_24 : gFl RX8 24 8 4 (.array .int) true 10 := ⟨RX8, TX8, rfl, kw_X8, by decide, W0_in (tp_1 (List.mem_of_getElem? (i := 154) (by decide +kernel))) rfl, rfl, rfl, ⟨tyX8, tyX8_ok⟩, nmX8⟩
theorem kfl_X8_27 : gFl RX8 27 8 5 (.array .int) true 10 := ⟨RX8, TX8, rfl, kw_X8, by decide, W0_in (tp_1 (List.mem_of_getElem? (i := 157) (by decide +kernel))) rfl, rfl, rfl, ⟨tyX8, tyX8_ok⟩, nmX8⟩
theorem kfl_X8_30 : gFl RX8 30 8 6 (.array .int) true 10 := ⟨RX8, TX8, rfl, kw_X8, by decide, W0_in (tp_1 (List.mem_of_getElem? (i := 160) (by decide +kernel))) rfl, rfl, rfl, ⟨tyX8, tyX8_ok⟩, nmX8⟩
theorem kfl_X8_33 : gFl RX8 33 8 7 (.array .int) true 10 := ⟨RX8, TX8, rfl, kw_X8, by decide, W0_in (tp_1 (List.mem_of_getElem? (i := 163) (by decide +kernel))) rfl, rfl, rfl, ⟨tyX8, tyX8_ok⟩, nmX8⟩
theorem kfl_X8_36 : gFl RX8 36 8 8 (.array .int) true 10 := ⟨RX8, TX8, rfl, kw_X8, by decide, W0_in (tp_1 (List.mem_of_getElem? (i := 166) (by decide +kernel))) rfl, rfl, rfl, ⟨tyX8, tyX8_ok⟩, nmX8⟩
theorem kfl_X8_39 : gFl RX8 39 8 9 (.int) false 10 := ⟨RX8, TX8, rfl, kw_X8, by decide, W0_in (tp_1 (List.mem_of_getElem? (i := 169) (by decide +kernel))) rfl, rfl, rfl, ⟨tyX8, tyX8_ok⟩, nmX8⟩
theorem kfl_X9_9 : gFl RX9 9 9 0 (.array .byte) true 10 := ⟨RX9, TX9, rfl, kw_X9, by decide, W0_in (tp_1 (List.mem_of_getElem? (i := 42) (by decide +kernel))) rfl, rfl, rfl, ⟨tyX9, tyX9_ok⟩, nmX9⟩
theorem kfl_X9_15 : gFl RX9 15 9 2 (.array .int) true 10 := ⟨RX9, TX9, rfl, kw_X9, by decide, W0_in (tp_1 (List.mem_of_getElem? (i := 45) (by decide +kernel))) rfl, rfl, rfl, ⟨tyX9, tyX9_ok⟩, nmX9⟩
theorem kfl_X9_19 : gFl RX9 19 9 3 (.array .int) true 10 := ⟨RX9, TX9, rfl, kw_X9, by decide, W0_in (tp_1 (List.mem_of_getElem? (i := 47) (by decide +kernel))) rfl, rfl, rfl, ⟨tyX9, tyX9_ok⟩, nmX9⟩
theorem kfl_X9_22 : gFl RX9 22 9 4 (.array .int) true 10 := ⟨RX9, TX9, rfl, kw_X9, by decide, W0_in (tp_1 (List.mem_of_getElem? (i := 49) (by decide +kernel))) rfl, rfl, rfl, ⟨tyX9, tyX9_ok⟩, nmX9⟩
theorem kfl_X9_25 : gFl RX9 25 9 5 (.array .int) true 10 := ⟨RX9, TX9, rfl, kw_X9, by decide, W0_in (tp_1 (List.mem_of_getElem? (i := 52) (by decide +kernel))) rfl, rfl, rfl, ⟨tyX9, tyX9_ok⟩, nmX9⟩
theorem kfl_X9_28 : gFl RX9 28 9 6 (.array .int) true 10 := ⟨RX9, TX9, rfl, kw_X9, by decide, W0_in (tp_1 (List.mem_of_getElem? (i := 53) (by decide +kernel))) rfl, rfl, rfl, ⟨tyX9, tyX9_ok⟩, nmX9⟩
theorem kfl_X9_31 : gFl RX9 31 9 1 (.int) false 10 := ⟨RX9, TX9, rfl, kw_X9, by decide, W0_in (tp_1 (List.mem_of_getElem? (i := 43) (by decide +kernel))) rfl, rfl, rfl, ⟨tyX9, tyX9_ok⟩, nmX9⟩
theorem kfl_X9_35 : gFl RX9 35 9 8 (.int) false 10 := ⟨RX9, TX9, rfl, kw_X9, by decide, W0_in (tp_1 (List.mem_of_getElem? (i := 58) (by decide +kernel))) rfl, rfl, rfl, ⟨tyX9, tyX9_ok⟩, nmX9⟩
theorem kfl_X9_38 : gFl RX9 38 9 9 (.int) false 10 := ⟨RX9, TX9, rfl, kw_X9, by decide, W0_in (tp_1 (List.mem_of_getElem? (i := 59) (by decide +kernel))) rfl, rfl, rfl, ⟨tyX9, tyX9_ok⟩, nmX9⟩
theorem kfl_X9_41 : gFl RX9 41 9 7 (.int) false 10 := ⟨RX9, TX9, rfl, kw_X9, by decide, W0_in (tp_1 (List.mem_of_getElem? (i := 56) (by decide +kernel))) rfl, rfl, rfl, ⟨tyX9, tyX9_ok⟩, nmX9⟩
theorem kfl_X10_11 : gFl RX10 11 10 6 (.array .int) true 14 := ⟨RX10, TX10, rfl, kw_X10, by decide, W0_in (tp_7 (List.mem_of_getElem? (i := 197) (by decide +kernel))) rfl, rfl, rfl, ⟨tyX10, tyX10_ok⟩, nmX10⟩
theorem kfl_X10_17 : gFl RX10 17 10 7 (.array .int) true 14 := ⟨RX10, TX10, rfl, kw_X10, by decide, W0_in (tp_7 (List.mem_of_getElem? (i := 199) (by decide +kernel))) rfl, rfl, rfl, ⟨tyX10, tyX10_ok⟩, nmX10⟩
theorem kfl_X10_20 : gFl RX10 20 10 8 (.array .int) true 14 := ⟨RX10, TX10, rfl, kw_X10, by decide, W0_in (tp_7 (List.mem_of_getElem? (i := 202) (by decide +kernel))) rfl, rfl, rfl, ⟨tyX10, tyX10_ok⟩, nmX10⟩
theorem kfl_X10_23 : gFl RX10 23 10 9 (.array .int) true 14 := ⟨RX10, TX10, rfl, kw_X10, by decide, W0_in (tp_7 (List.mem_of_getElem? (i := 203) (by decide +kernel))) rfl, rfl, rfl, ⟨tyX10, tyX10_ok⟩, nmX10⟩
theorem kfl_X10_26 : gFl RX10 26 10 10 (.array .int) true 14 := ⟨RX10, TX10, rfl, kw_X10, by decide, W0_in (tp_7 (List.mem_of_getElem? (i := 204) (by decide +kernel))) rfl, rfl, rfl, ⟨tyX10, tyX10_ok⟩, nmX10⟩
theorem kfl_X10_29 : gFl RX10 29 10 11 (.array .int) true 14 := ⟨RX10, TX10, rfl, kw_X10, by decide, W0_in (tp_7 (List.mem_of_getElem? (i := 205) (by decide +kernel))) rfl, rfl, rfl, ⟨tyX10, tyX10_ok⟩, nmX10⟩
theorem kfl_X10_33 : gFl RX10 33 10 12 (.array (.array .int)) true 14 := ⟨RX10, TX10, rfl, kw_X10, by decide, W0_in (tp_7 (List.mem_of_getElem? (i := 207) (by decide +kernel))) rfl, rfl, rfl, ⟨tyX10, tyX10_ok⟩, nmX10⟩
theorem kfl_X10_37 : gFl RX10 37 10 13 (.array .int) true 14 := ⟨RX10, TX10, rfl, kw_X10, by decide, W0_in (tp_7 (List.mem_of_getElem? (i := 208) (by decide +kernel))) rfl, rfl, rfl, ⟨tyX10, tyX10_ok⟩, nmX10⟩
theorem kfl_X10_40 : gFl RX10 40 10 0 (.int) false 14 := ⟨RX10, TX10, rfl, kw_X10, by decide, W0_in (tp_7 (List.mem_of_getElem? (i := 180) (by decide +kernel))) rfl, rfl, rfl, ⟨tyX10, tyX10_ok⟩, nmX10⟩
theorem kfl_X10_44 : gFl RX10 44 10 1 (.boolean) false 14 := ⟨RX10, TX10, rfl, kw_X10, by decide, W0_in (tp_7 (List.mem_of_getElem? (i := 183) (by decide +kernel))) rfl, rfl, rfl, ⟨tyX10, tyX10_ok⟩, nmX10⟩
theorem kfl_X10_48 : gFl RX10 48 10 2 (.int) false 14 := ⟨RX10, TX10, rfl, kw_X10, by decide, W0_in (tp_7 (List.mem_of_getElem? (i := 186) (by decide +kernel))) rfl, rfl, rfl, ⟨tyX10, tyX10_ok⟩, nmX10⟩
theorem kfl_X10_51 : gFl RX10 51 10 3 (.int) false 14 := ⟨RX10, TX10, rfl, kw_X10, by decide, W0_in (tp_7 (List.mem_of_getElem? (i := 189) (by decide +kernel))) rfl, rfl, rfl, ⟨tyX10, tyX10_ok⟩, nmX10⟩
theorem kfl_X10_54 : gFl RX10 54 10 4 (.int) false 14 := ⟨RX10, TX10, rfl, kw_X10, by decide, W0_in (tp_7 (List.mem_of_getElem? (i := 191) (by decide +kernel))) rfl, rfl, rfl, ⟨tyX10, tyX10_ok⟩, nmX10⟩
theorem kfl_X10_57 : gFl RX10 57 10 5 (.int) false 14 := ⟨RX10, TX10, rfl, kw_X10, by decide, W0_in (tp_7 (List.mem_of_getElem? (i := 194) (by decide +kernel))) rfl, rfl, rfl, ⟨tyX10, tyX10_ok⟩, nmX10⟩
theorem kfl_X11_10 : gFl RX11 10 11 0 (.object "ScheduleHouse$Tokens") true 13 := ⟨RX11, TX11, rfl, kw_X11, by decide, W0_in (tp_3 (List.mem_of_getElem? (i := 52) (by decide +kernel))) rfl, rfl, rfl, ⟨tyX11, tyX11_ok⟩, nmX11⟩
theorem kfl_X11_21 : gFl RX11 21 11 1 (.object "ScheduleHouse$Names") true 13 := ⟨RX11, TX11, rfl, kw_X11, by decide, W0_in (tp_3 (List.mem_of_getElem? (i := 53) (by decide +kernel))) rfl, rfl, rfl, ⟨tyX11, tyX11_ok⟩, nmX11⟩
theorem kfl_X11_28 : gFl RX11 28 11 2 (.object "ScheduleHouse$Code") true 13 := ⟨RX11, TX11, rfl, kw_X11, by decide, W0_in (tp_3 (List.mem_of_getElem? (i := 54) (by decide +kernel))) rfl, rfl, rfl, ⟨tyX11, tyX11_ok⟩, nmX11⟩
theorem kfl_X11_37 : gFl RX11 37 11 3 (.object "ScheduleHouse$Reader") true 13 := ⟨RX11, TX11, rfl, kw_X11, by decide, W0_in (tp_3 (List.mem_of_getElem? (i := 55) (by decide +kernel))) rfl, rfl, rfl, ⟨tyX11, tyX11_ok⟩, nmX11⟩
theorem kfl_X11_46 : gFl RX11 46 11 4 (.object "ScheduleHouse$Machine") true 13 := ⟨RX11, TX11, rfl, kw_X11, by decide, W0_in (tp_3 (List.mem_of_getElem? (i := 56) (by decide +kernel))) rfl, rfl, rfl, ⟨tyX11, tyX11_ok⟩, nmX11⟩
theorem kfl_X11_53 : gFl RX11 53 11 5 (.object "ScheduleHouse$Journal") true 13 := ⟨RX11, TX11, rfl, kw_X11, by decide, W0_in (tp_3 (List.mem_of_getElem? (i := 57) (by decide +kernel))) rfl, rfl, rfl, ⟨tyX11, tyX11_ok⟩, nmX11⟩
theorem kfl_X11_59 : gFl RX11 59 11 6 (.array (.object "ScheduleHouse$Trial")) true 13 := ⟨RX11, TX11, rfl, kw_X11, by decide, W0_in (tp_3 (List.mem_of_getElem? (i := 58) (by decide +kernel))) rfl, rfl, rfl, ⟨tyX11, tyX11_ok⟩, nmX11⟩
theorem kfl_X11_63 : gFl RX11 63 11 11 (.int) false 13 := ⟨RX11, TX11, rfl, kw_X11, by decide, W0_in (tp_3 (List.mem_of_getElem? (i := 63) (by decide +kernel))) rfl, rfl, rfl, ⟨tyX11, tyX11_ok⟩, nmX11⟩
theorem kfl_X11_67 : gFl RX11 67 11 12 (.int) false 13 := ⟨RX11, TX11, rfl, kw_X11, by decide, W0_in (tp_3 (List.mem_of_getElem? (i := 64) (by decide +kernel))) rfl, rfl, rfl, ⟨tyX11, tyX11_ok⟩, nmX11⟩
theorem kfl_X11_77 : gFl RX11 77 9 1 (.int) false 10 := ⟨RX9, TX9, rfl, kw_X9, by decide, W0_in (tp_1 (List.mem_of_getElem? (i := 44) (by decide +kernel))) rfl, rfl, rfl, ⟨tyX9, tyX9_ok⟩, nmX9⟩
theorem kfl_X11_99 : gFl RX11 99 6 11 (.int) false 12 := ⟨RX6, TX6, rfl, kw_X6, by decide, W0_in (tp_1 (List.mem_of_getElem? (i := 104) (by decide +kernel))) rfl, rfl, rfl, ⟨tyX6, tyX6_ok⟩, nmX6⟩
theorem kfl_X11_104 : gFl RX11 104 7 6 (.int) false 18 := ⟨RX7, TX7, rfl, kw_X7, by decide, W0_in (tp_2 (List.mem_of_getElem? (i := 61) (by decide +kernel))) rfl, rfl, rfl, ⟨tyX7, tyX7_ok⟩, nmX7⟩
theorem kfl_X11_110 : gFl RX11 110 11 9 (.boolean) false 13 := ⟨RX11, TX11, rfl, kw_X11, by decide, W0_in (tp_3 (List.mem_of_getElem? (i := 61) (by decide +kernel))) rfl, rfl, rfl, ⟨tyX11, tyX11_ok⟩, nmX11⟩
theorem kfl_X11_114 : gFl RX11 114 9 3 (.array .int) true 10 := ⟨RX9, TX9, rfl, kw_X9, by decide, W0_in (tp_1 (List.mem_of_getElem? (i := 48) (by decide +kernel))) rfl, rfl, rfl, ⟨tyX9, tyX9_ok⟩, nmX9⟩
theorem kfl_X11_118 : gFl RX11 118 9 4 (.array .int) true 10 := ⟨RX9, TX9, rfl, kw_X9, by decide, W0_in (tp_1 (List.mem_of_getElem? (i := 50) (by decide +kernel))) rfl, rfl, rfl, ⟨tyX9, tyX9_ok⟩, nmX9⟩
theorem kfl_X11_124 : gFl RX11 124 0 10 (.int) false 18 := ⟨RX0, TX0, rfl, kw_X0, by decide, W0_in (tp_1 (List.mem_of_getElem? (i := 224) (by decide +kernel))) rfl, rfl, rfl, ⟨tyX0, tyX0_ok⟩, nmX0⟩
theorem kfl_X11_136 : gFl RX11 136 0 6 (.int) false 18 := ⟨RX0, TX0, rfl, kw_X0, by decide, W0_in (tp_1 (List.mem_of_getElem? (i := 208) (by decide +kernel))) rfl, rfl, rfl, ⟨tyX0, tyX0_ok⟩, nmX0⟩
theorem kfl_X11_139 : gFl RX11 139 0 9 (.int) false 18 := ⟨RX0, TX0, rfl, kw_X0, by decide, W0_in (tp_1 (List.mem_of_getElem? (i := 220) (by decide +kernel))) rfl, rfl, rfl, ⟨tyX0, tyX0_ok⟩, nmX0⟩
theorem kfl_X11_142 : gFl RX11 142 0 14 (.int) false 18 := ⟨RX0, TX0, rfl, kw_X0, by decide, W0_in (tp_1 (List.mem_of_getElem? (i := 237) (by decide +kernel))) rfl, rfl, rfl, ⟨tyX0, tyX0_ok⟩, nmX0⟩
theorem kfl_X11_145 : gFl RX11 145 0 16 (.int) false 18 := ⟨RX0, TX0, rfl, kw_X0, by decide, W0_in (tp_2 (List.mem_of_getElem? (i := 4) (by decide +kernel))) rfl, rfl, rfl, ⟨tyX0, tyX0_ok⟩, nmX0⟩
theorem kfl_X11_157 : gFl RX11 157 5 13 (.int) false 15 := ⟨RX5, TX5, rfl, kw_X5, by decide, W0_in (tp_2 (List.mem_of_getElem? (i := 180) (by decide +kernel))) rfl, rfl, rfl, ⟨tyX5, tyX5_ok⟩, nmX5⟩
theorem kfl_X11_166 : gFl RX11 166 5 10 (.array .int) true 15 := ⟨RX5, TX5, rfl, kw_X5, by decide, W0_in (tp_2 (List.mem_of_getElem? (i := 172) (by decide +kernel))) rfl, rfl, rfl, ⟨tyX5, tyX5_ok⟩, nmX5⟩
theorem kfl_X11_169 : gFl RX11 169 5 11 (.array .int) true 15 := ⟨RX5, TX5, rfl, kw_X5, by decide, W0_in (tp_2 (List.mem_of_getElem? (i := 175) (by decide +kernel))) rfl, rfl, rfl, ⟨tyX5, tyX5_ok⟩, nmX5⟩
theorem kfl_X11_183 : gFl RX11 183 5 12 (.array .int) true 15 := ⟨RX5, TX5, rfl, kw_X5, by decide, W0_in (tp_2 (List.mem_of_getElem? (i := 178) (by decide +kernel))) rfl, rfl, rfl, ⟨tyX5, tyX5_ok⟩, nmX5⟩
theorem kfl_X11_186 : gFl RX11 186 4 2 (.int) false 18 := ⟨RX4, TX4, rfl, kw_X4, by decide, W0_in (tp_2 (List.mem_of_getElem? (i := 224) (by decide +kernel))) rfl, rfl, rfl, ⟨tyX4, tyX4_ok⟩, nmX4⟩
theorem kfl_X11_200 : gFl RX11 200 5 3 (.int) false 15 := ⟨RX5, TX5, rfl, kw_X5, by decide, W0_in (tp_2 (List.mem_of_getElem? (i := 161) (by decide +kernel))) rfl, rfl, rfl, ⟨tyX5, tyX5_ok⟩, nmX5⟩
theorem kfl_X11_203 : gFl RX11 203 4 1 (.array .int) true 18 := ⟨RX4, TX4, rfl, kw_X4, by decide, W0_in (tp_2 (List.mem_of_getElem? (i := 222) (by decide +kernel))) rfl, rfl, rfl, ⟨tyX4, tyX4_ok⟩, nmX4⟩
theorem kfl_X11_206 : gFl RX11 206 4 3 (.int) false 18 := ⟨RX4, TX4, rfl, kw_X4, by decide, W0_in (tp_2 (List.mem_of_getElem? (i := 227) (by decide +kernel))) rfl, rfl, rfl, ⟨tyX4, tyX4_ok⟩, nmX4⟩
theorem kfl_X11_216 : gFl RX11 216 4 4 (.int) false 18 := ⟨RX4, TX4, rfl, kw_X4, by decide, W0_in (tp_2 (List.mem_of_getElem? (i := 229) (by decide +kernel))) rfl, rfl, rfl, ⟨tyX4, tyX4_ok⟩, nmX4⟩
theorem kfl_X11_222 : gFl RX11 222 5 4 (.array .int) true 15 := ⟨RX5, TX5, rfl, kw_X5, by decide, W0_in (tp_2 (List.mem_of_getElem? (i := 164) (by decide +kernel))) rfl, rfl, rfl, ⟨tyX5, tyX5_ok⟩, nmX5⟩
theorem kfl_X11_251 : gFl RX11 251 4 5 (.array .int) true 18 := ⟨RX4, TX4, rfl, kw_X4, by decide, W0_in (tp_2 (List.mem_of_getElem? (i := 232) (by decide +kernel))) rfl, rfl, rfl, ⟨tyX4, tyX4_ok⟩, nmX4⟩
theorem kfl_X11_254 : gFl RX11 254 4 6 (.array .int) true 18 := ⟨RX4, TX4, rfl, kw_X4, by decide, W0_in (tp_2 (List.mem_of_getElem? (i := 235) (by decide +kernel))) rfl, rfl, rfl, ⟨tyX4, tyX4_ok⟩, nmX4⟩
theorem kfl_X11_257 : gFl RX11 257 4 7 (.array .int) true 18 := ⟨RX4, TX4, rfl, kw_X4, by decide, W0_in (tp_2 (List.mem_of_getElem? (i := 238) (by decide +kernel))) rfl, rfl, rfl, ⟨tyX4, tyX4_ok⟩, nmX4⟩
theorem kfl_X11_260 : gFl RX11 260 4 8 (.array .int) true 18 := ⟨RX4, TX4, rfl, kw_X4, by decide, W0_in (tp_3 (List.mem_of_getElem? (i := 0) (by decide +kernel))) rfl, rfl, rfl, ⟨tyX4, tyX4_ok⟩, nmX4⟩
theorem kfl_X11_263 : gFl RX11 263 4 9 (.array .int) true 18 := ⟨RX4, TX4, rfl, kw_X4, by decide, W0_in (tp_3 (List.mem_of_getElem? (i := 3) (by decide +kernel))) rfl, rfl, rfl, ⟨tyX4, tyX4_ok⟩, nmX4⟩
theorem kfl_X11_280 : gFl RX11 280 11 8 (.object "ScheduleHouse$History") false 13 := ⟨RX11, TX11, rfl, kw_X11, by decide, W0_in (tp_3 (List.mem_of_getElem? (i := 60) (by decide +kernel))) rfl, rfl, rfl, ⟨tyX11, tyX11_ok⟩, nmX11⟩
theorem kfl_X11_294 : gFl RX11 294 11 7 (.object "ScheduleHouse$Explorer") false 13 := ⟨RX11, TX11, rfl, kw_X11, by decide, W0_in (tp_3 (List.mem_of_getElem? (i := 59) (by decide +kernel))) rfl, rfl, rfl, ⟨tyX11, tyX11_ok⟩, nmX11⟩
theorem kfl_X11_306 : gFl RX11 306 10 0 (.int) false 14 := ⟨RX10, TX10, rfl, kw_X10, by decide, W0_in (tp_7 (List.mem_of_getElem? (i := 182) (by decide +kernel))) rfl, rfl, rfl, ⟨tyX10, tyX10_ok⟩, nmX10⟩
theorem kfl_X11_313 : gFl RX11 313 10 1 (.boolean) false 14 := ⟨RX10, TX10, rfl, kw_X10, by decide, W0_in (tp_7 (List.mem_of_getElem? (i := 185) (by decide +kernel))) rfl, rfl, rfl, ⟨tyX10, tyX10_ok⟩, nmX10⟩
theorem kfl_X11_316 : gFl RX11 316 10 2 (.int) false 14 := ⟨RX10, TX10, rfl, kw_X10, by decide, W0_in (tp_7 (List.mem_of_getElem? (i := 188) (by decide +kernel))) rfl, rfl, rfl, ⟨tyX10, tyX10_ok⟩, nmX10⟩
theorem kfl_X11_319 : gFl RX11 319 10 3 (.int) false 14 := ⟨RX10, TX10, rfl, kw_X10, by decide, W0_in (tp_7 (List.mem_of_getElem? (i := 190) (by decide +kernel))) rfl, rfl, rfl, ⟨tyX10, tyX10_ok⟩, nmX10⟩
theorem kfl_X11_322 : gFl RX11 322 10 4 (.int) false 14 := ⟨RX10, TX10, rfl, kw_X10, by decide, W0_in (tp_7 (List.mem_of_getElem? (i := 193) (by decide +kernel))) rfl, rfl, rfl, ⟨tyX10, tyX10_ok⟩, nmX10⟩
theorem kfl_X11_325 : gFl RX11 325 10 5 (.int) false 14 := ⟨RX10, TX10, rfl, kw_X10, by decide, W0_in (tp_7 (List.mem_of_getElem? (i := 196) (by decide +kernel))) rfl, rfl, rfl, ⟨tyX10, tyX10_ok⟩, nmX10⟩
theorem kfl_X11_337 : gFl RX11 337 10 11 (.array .int) true 14 := ⟨RX10, TX10, rfl, kw_X10, by decide, W0_in (tp_7 (List.mem_of_getElem? (i := 206) (by decide +kernel))) rfl, rfl, rfl, ⟨tyX10, tyX10_ok⟩, nmX10⟩
theorem kfl_X11_348 : gFl RX11 348 10 7 (.array .int) true 14 := ⟨RX10, TX10, rfl, kw_X10, by decide, W0_in (tp_7 (List.mem_of_getElem? (i := 201) (by decide +kernel))) rfl, rfl, rfl, ⟨tyX10, tyX10_ok⟩, nmX10⟩
theorem kfl_X11_358 : gFl RX11 358 11 10 (.boolean) false 13 := ⟨RX11, TX11, rfl, kw_X11, by decide, W0_in (tp_3 (List.mem_of_getElem? (i := 62) (by decide +kernel))) rfl, rfl, rfl, ⟨tyX11, tyX11_ok⟩, nmX11⟩
theorem kfl_X11_373 : gFl RX11 373 5 2 (.object "ScheduleHouse$Deed") true 15 := ⟨RX5, TX5, rfl, kw_X5, by decide, W0_in (tp_2 (List.mem_of_getElem? (i := 159) (by decide +kernel))) rfl, rfl, rfl, ⟨tyX5, tyX5_ok⟩, nmX5⟩
theorem kfl_X11_381 : gFl RX11 381 10 6 (.array .int) true 14 := ⟨RX10, TX10, rfl, kw_X10, by decide, W0_in (tp_7 (List.mem_of_getElem? (i := 198) (by decide +kernel))) rfl, rfl, rfl, ⟨tyX10, tyX10_ok⟩, nmX10⟩
