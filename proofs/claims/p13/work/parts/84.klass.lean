section
/-! the class's world -/
def ks_X0 : List Bool := [true, true, true, false, true, false, false, true, true, false, false, true, true, false, false, true, false, true]
def ks_X1 : List Bool := [false, false, false, false, false, false, false]
def ks_X2 : List Bool := [true, true, true, true, true, false, false, true, true, true]
def ks_X3 : List Bool := [true, true, true, true, true, true, false, false, true, true, false, false, false]
def ks_X4 : List Bool := [true, true, false, false, false, true, true, true, true, true, true, true, true, true, true, true, true, true]
def ks_X5 : List Bool := [true, true, true, false, true, false, false, false, false, false, true, true, true, false, false]
def ks_X6 : List Bool := [true, true, true, true, true, true, false, true, false, true, false, false]
def ks_X7 : List Bool := [true, true, true, true, false, false, false, false, true, false, true, true, true, false, true, true, true, false]
def ks_X8 : List Bool := [true, true, true, true, true, true, true, true, true, false]
def ks_X9 : List Bool := [true, false, true, true, true, true, true, false, false, false]
def ks_X10 : List Bool := [false, false, false, false, false, false, true, true, true, true, true, true, true, true]
def ks_X11 : List Bool := [true, true, true, true, true, true, true, true, true, false, false, false, false]
def kKa : List gk := [.inl (11, ks_X11), .inr (.int, 0), .inr (.int, 0), .inr (.int, 0), .inr (.int, 0), .inr (.int, 0), .inr (.int, 0), .inr ((.object "ScheduleHouse$Trial"), 2), .inr (.int, 0), .inr (.int, 0), .inr (.int, 0), .inr (.int, 0), .inr (.int, 0), .inr (.int, 0), .inr (.int, 0), .inr (.int, 0), .inr (.int, 0), .inr (.int, 0), .inr (.int, 0), .inr (.int, 0), .inl (9, ks_X9), .inr (.byte, 3000), .inr (.int, 0), .inr (.int, 702), .inr (.int, 702), .inr (.int, 702), .inr (.int, 702), .inr (.int, 702), .inr (.int, 0), .inr (.int, 0), .inr (.int, 0), .inr (.int, 0), .inr (.int, 0), .inr (.int, 0), .inr (.int, 0), .inr (.int, 0), .inr (.int, 0), .inr (.int, 0), .inr (.int, 0), .inr (.int, 0), .inl (6, ks_X6), .inr (.int, 0), .inr (.int, 702), .inr (.int, 702), .inr (.int, 24), .inr (.int, 24), .inr (.int, 24), .inr (.int, 0), .inr (.int, 6), .inr (.int, 0), .inr (.int, 6), .inr (.int, 0), .inr (.int, 0), .inr (.int, 0), .inr (.int, 0), .inr (.int, 0), .inr (.int, 0), .inr (.int, 0), .inr (.int, 0), .inr (.int, 0), .inl (0, ks_X0), .inr (.int, 0), .inr (.int, 800), .inr (.int, 800), .inr (.int, 0), .inr (.int, 40), .inr (.int, 0), .inr (.int, 0), .inr (.int, 24), .inr (.boolean, 24), .inr (.int, 0), .inr (.int, 0), .inr (.int, 6), .inr (.boolean, 6), .inr (.int, 0), .inr (.int, 0), .inr (.int, 4), .inr (.int, 0), .inr (.int, 4), .inr (.int, 0), .inl (8, ks_X8), .inr (.int, 400), .inr (.int, 400), .inr (.int, 400), .inr (.int, 400), .inr (.int, 400), .inr (.int, 400), .inr (.int, 400), .inr (.int, 400), .inr (.int, 400), .inr (.int, 0), .inr (.int, 0), .inr (.int, 0), .inr (.int, 0), .inr (.int, 0), .inr (.int, 0), .inr (.int, 0), .inr (.int, 0), .inr (.int, 0), .inr (.int, 0), .inl (7, ks_X7), .inr (.int, 0), .inr (.int, 0), .inr (.int, 0), .inr (.int, 0), .inr (.int, 0), .inr (.int, 0), .inr (.int, 0), .inr (.int, 0), .inr (.int, 8), .inr (.int, 0), .inr (.int, 20), .inr (.int, 20), .inr (.int, 20), .inr (.int, 0), .inr (.int, 20), .inr (.int, 20), .inr (.int, 20), .inr (.int, 0), .inr (.int, 0), .inl (5, ks_X5), .inr (.int, 0), .inr (.int, 0), .inr (.int, 0), .inr (.int, 0), .inr (.int, 228), .inr (.int, 0), .inr (.int, 0), .inr (.int, 0), .inr (.int, 0), .inr (.int, 0), .inr (.int, 84), .inr (.int, 84), .inr (.int, 84), .inr (.int, 0), .inr (.int, 0), .inr (.int, 0), .inr (.int, 0), .inr (.int, 0), .inr (.int, 0), .inl (1, ks_X1), .inr (.int, 0), .inr (.int, 0), .inr (.int, 0), .inr (.int, 0), .inr (.int, 0), .inr (.int, 0), .inr (.int, 0), .inr (.int, 0), .inr (.int, 0), .inr (.int, 0), .inr (.int, 0), .inr (.int, 0), .inr (.int, 0), .inr (.int, 0), .inr (.int, 0), .inr (.int, 0), .inr (.int, 0), .inr (.int, 0), .inr (.int, 0), .inl (4, ks_X4), .inr (.int, 0), .inr (.int, 400), .inr (.int, 0), .inr (.int, 0), .inr (.int, 0), .inr (.int, 400), .inr (.int, 400), .inr (.int, 400), .inr (.int, 400), .inr (.int, 400), .inr (.boolean, 400), .inr (.int, 400), .inr (.int, 2400), .inr (.int, 6), .inr (.int, 36), .inr (.int, 36), .inr (.int, 144), .inr (.int, 36), .inr (.int, 0), .inl (3, ks_X3), .inr (.int, 12), .inr (.int, 12), .inr (.int, 12), .inr (.int, 12), .inr (.int, 12), .inr (.int, 12), .inr (.int, 0), .inr (.int, 0), .inr (.int, 6), .inr ((.array .int), 13), .inr (.int, 0), .inr (.int, 0), .inr (.int, 0), .inr (.int, 0), .inr (.int, 0), .inr (.int, 0), .inr (.int, 0), .inr (.int, 0), .inr (.int, 0), .inl (2, ks_X2), .inr (.int, 0), .inr (.int, 0), .inr ((.array .int), 3000), .inr (.int, 3000), .inr (.int, 8192), .inr (.int, 0), .inr (.int, 0), .inr (.int, 0), .inr (.int, 6), .inr (.int, 6), .inr (.int, 0), .inr (.int, 0), .inr (.int, 0), .inr (.int, 0), .inr (.int, 0), .inr (.int, 0), .inr (.int, 0), .inr (.int, 0), .inr (.int, 0), .inl (5, ks_X5), .inr (.int, 0), .inr (.int, 0), .inr (.int, 0), .inr (.int, 0), .inr (.int, 228), .inr (.int, 0), .inr (.int, 0), .inr (.int, 0), .inr (.int, 0), .inr (.int, 0), .inr (.int, 84), .inr (.int, 84), .inr (.int, 84), .inr (.int, 0), .inr (.int, 0), .inr (.int, 0), .inr (.int, 0), .inr (.int, 0), .inr (.int, 0), .inl (1, ks_X1), .inr (.int, 0), .inr (.int, 0), .inr (.int, 0), .inr (.int, 0), .inr (.int, 0), .inr (.int, 0), .inr (.int, 0), .inr (.int, 0), .inr (.int, 0), .inr (.int, 0), .inr (.int, 0), .inr (.int, 0), .inr (.int, 0), .inr (.int, 0), .inr (.int, 0), .inr (.int, 0), .inr (.int, 0), .inr (.int, 0), .inr (.int, 0), .inl (10, ks_X10), .inr (.int, 0), .inr (.int, 0), .inr (.int, 0), .inr (.int, 0), .inr (.int, 0), .inr (.int, 0), .inr (.int, 11), .inr (.int, 24), .inr (.int, 6), .inr (.int, 3000), .inr (.int, 3000), .inr (.int, 3000), .inr ((.array .int), 3000), .inr (.int, 3000), .inr (.int, 0), .inr (.int, 0), .inr (.int, 0), .inr (.int, 0), .inr (.int, 0), .inl (10, ks_X10), .inr (.int, 0), .inr (.int, 0), .inr (.int, 0), .inr (.int, 0), .inr (.int, 0), .inr (.int, 0), .inr (.int, 11), .inr (.int, 24), .inr (.int, 6), .inr (.int, 3000), .inr (.int, 3000), .inr (.int, 3000), .inr ((.array .int), 3000), .inr (.int, 3000), .inr (.int, 0), .inr (.int, 0), .inr (.int, 0), .inr (.int, 0), .inr (.int, 0)]
def kRa : List (List (Option Nat)) := [[some 20, some 40, some 60, some 100, some 120, some 160, some 7, none, none, none, none, none, none], [], [], [], [], [], [], [], [], [], [], [], [], [], [], [], [], [], [], [], [some 21, none, some 23, some 24, some 25, some 26, some 27, none, none, none], [], [], [], [], [], [], [], [], [], [], [], [], [], [], [], [], [], [], [], [some 20, some 42, some 43, some 44, some 45, some 46, none, some 48, none, some 50, none, none], [], [], [], [], [], [], [], [], [], [], [], [], [], [], [], [], [], [], [], [some 80, some 62, some 63, none, some 65, none, none, some 68, some 69, none, none, some 72, some 73, none, none, some 76, none, some 78], [], [], [], [], [], [], [], [], [], [], [], [], [], [], [], [], [], [], [], [some 81, some 82, some 83, some 84, some 85, some 86, some 87, some 88, some 89, none], [], [], [], [], [], [], [], [], [], [], [], [], [], [], [], [], [], [], [], [some 20, some 40, some 60, some 80, none, none, none, none, some 109, none, some 111, some 112, some 113, none, some 115, some 116, some 117, none], [], [], [], [], [], [], [], [], [], [], [], [], [], [], [], [], [], [], [], [some 60, some 80, some 140, none, some 125, none, none, none, none, none, some 131, some 132, some 133, none, none], [], [], [], [], [], [], [], [], [], [], [], [], [], [], [], [], [], [], [], [none, none, none, none, none, none, none], [], [], [], [], [], [], [], [], [], [], [], [], [], [], [], [], [], [], [], [some 60, some 162, none, none, none, some 166, some 167, some 168, some 169, some 170, some 171, some 172, some 173, some 174, some 175, some 176, some 177, some 178], [], [], [], [], [], [], [], [], [], [], [], [], [], [], [], [], [], [], [], [some 181, some 182, some 183, some 184, some 185, some 186, none, none, some 189, some 190, none, none, none], [], [], [], [], [], [], [], [], [], [], [], [], [], [], [], [], [], [], [], [some 60, some 220, some 203, some 204, some 205, none, none, none, some 209, some 210], [], [], [], [], [], [], [], [], [], [], [], [], [], [], [], [], [], [], [], [some 60, some 80, some 240, none, some 225, none, none, none, none, none, some 231, some 232, some 233, none, none], [], [], [], [], [], [], [], [], [], [], [], [], [], [], [], [], [], [], [], [none, none, none, none, none, none, none], [], [], [], [], [], [], [], [], [], [], [], [], [], [], [], [], [], [], [], [none, none, none, none, none, none, some 267, some 268, some 269, some 270, some 271, some 272, some 273, some 274], [], [], [], [], [], [], [], [], [], [], [], [], [], [], [], [], [], [], [], [none, none, none, none, none, none, some 287, some 288, some 289, some 290, some 291, some 292, some 293, some 294], [], [], [], [], [], [], [], [], [], [], [], [], [], [], [], [], [], [], []]
def kK (c : Nat) : gk := if c < 300 then kKa.getD c (.inr (.int, 0)) else if c < 900 then .inr (.int, 14) else if c < 4000 then .inr (.int, 228) else .inr (.int, 24)
/-- what was made: history, explorer, the two trials, the explorer's trial, rows kept, rows of outcomes, live cells, counts -/
def kP : Type := (Bool × Bool × Bool × Bool × Option Nat) × (Nat × Nat × Nat) × List Nat × Nat × Nat
def kP.hi (q : kP) : Bool := q.1.1
def kP.ex (q : kP) : Bool := q.1.2.1
def kP.t0 (q : kP) : Bool := q.1.2.2.1
def kP.t1 (q : kP) : Bool := q.1.2.2.2.1
def kP.et (q : kP) : Option Nat := q.1.2.2.2.2
def kP.kn (q : kP) : Nat := q.2.1.1
def kP.o0 (q : kP) : Nat := q.2.1.2.1
def kP.o1 (q : kP) : Nat := q.2.1.2.2
def kP.L (q : kP) : List Nat := q.2.2.1
def kP.ce (q : kP) : Nat := q.2.2.2.1
def kP.sl (q : kP) : Nat := q.2.2.2.2
def kmk (hi ex t0 t1 : Bool) (et : Option Nat) (kn o0 o1 : Nat) (L : List Nat) (ce sl : Nat) : kP := ((hi, ex, t0, t1, et), (kn, o0, o1), L, ce, sl)
def kR (q : kP) (c k : Nat) : Option Nat := if c = 0 ∧ k = 7 then (if q.ex = true then some 200 else none) else if c = 0 ∧ k = 8 then (if q.hi = true then some 180 else none) else if c = 7 then (if k = 0 then (if q.t0 = true then some 260 else none) else if k = 1 then (if q.t1 = true then some 280 else none) else none) else if c = 200 ∧ k = 7 then q.et else if c = 203 then (if k < q.kn then some (1000 + k) else none) else if c = 273 then (if k < q.o0 then some (4000 + k) else none) else if c = 293 then (if k < q.o1 then some (7000 + k) else none) else if c = 190 then (if k < 13 then some (300 + k) else none) else (kRa.getD c []).getD k none
def kf (q : kP) : gf := (kR q, q.L, q.ce, q.sl)
def kl0 : List Nat := [0, 7, 20, 21, 23, 24, 25, 26, 27, 40, 42, 43, 44, 45, 46, 48, 50, 60, 62, 63, 65, 68, 69, 72, 73, 76, 78, 80, 81, 82, 83, 84, 85, 86, 87, 88, 89, 100, 109, 111, 112, 113, 115, 116, 117, 120, 125, 131, 132, 133, 140, 160, 162, 166, 167, 168, 169, 170, 171, 172, 173, 174, 175, 176, 177, 178]
def klH : List Nat := [180, 181, 182, 183, 184, 185, 186, 189, 190, 300, 301, 302, 303, 304, 305, 306, 307, 308, 309, 310, 311, 312]
def klE : List Nat := [200, 203, 204, 205, 209, 210, 220, 225, 231, 232, 233, 240]
def klA : List Nat := [260, 267, 268, 269, 270, 271, 272, 273, 274]
def klB : List Nat := [280, 287, 288, 289, 290, 291, 292, 293, 294]
/-- the live cells are those that were made -/
def kV (q : kP) : Prop := (∀ c ∈ kl0, c ∈ q.L) ∧ (q.hi = true → ∀ c ∈ klH, c ∈ q.L) ∧ (q.ex = true → ∀ c ∈ klE, c ∈ q.L) ∧ (q.t0 = true → ∀ c ∈ klA, c ∈ q.L) ∧ (q.t1 = true → ∀ c ∈ klB, c ∈ q.L) ∧ (∀ k, k < q.kn → 1000 + k ∈ q.L) ∧ (∀ k, k < q.o0 → 4000 + k ∈ q.L) ∧ ∀ k, k < q.o1 → 7000 + k ∈ q.L
def kiM (q : kP) (o : Nat) : Prop := o = 120 ∨ (o = 220 ∧ q.ex = true)
def kiD (q : kP) (o : Nat) : Prop := o = 140 ∨ (o = 240 ∧ q.ex = true)
def kiT (q : kP) (o : Nat) : Prop := (o = 260 ∧ q.t0 = true) ∨ (o = 280 ∧ q.t1 = true)
theorem kiM_D {q : kP} {o : Nat} (h : kiM q o) : kiD q (o + 20) := by
  rcases h with rfl | ⟨rfl, h⟩
  · exact Or.inl rfl
  · exact Or.inr ⟨rfl, h⟩
/-- what stays while the class runs: launch, classes, array classes, lists of words -/
abbrev kG : Type := Launch × va_G × (FieldType → ClassId) × (Nat → Nat)
abbrev kE (G : kG) : gE := (G.1, G.2.1, G.2.2.1, kK, G.2.2.2)
def kq (q : kP) (P : Option gv → gd → Prop) : gr → gd → gf → Prop := fun o x f => f = kf q ∧ ∃ v, o = .inl v ∧ P v x
/-- a method that makes nothing and throws nothing -/
abbrev KT (G : kG) (q : kP) (d : Nat) (y : gy) (pc : Nat) (lv : List (Nat × gv)) (st : List gv) (x : gd) (P : Option gv → gd → Prop) : Prop := T (kE G) d y pc lv st x (kf q) (kq q P)
theorem kk_0 : kK 0 = .inl (11, ks_X11) := rfl
theorem kl_0 {q : kP} (hq : kV q) : 0 ∈ (kf q).2.1 := hq.1 0 (by decide)
theorem kr_0_0 {q : kP} : (kf q).1 0 0 = some 20 := rfl
theorem kr_0_1 {q : kP} : (kf q).1 0 1 = some 40 := rfl
theorem kr_0_2 {q : kP} : (kf q).1 0 2 = some 60 := rfl
theorem kr_0_3 {q : kP} : (kf q).1 0 3 = some 100 := rfl
theorem kr_0_4 {q : kP} : (kf q).1 0 4 = some 120 := rfl
theorem kr_0_5 {q : kP} : (kf q).1 0 5 = some 160 := rfl
theorem kr_0_6 {q : kP} : (kf q).1 0 6 = some 7 := rfl
theorem kk_7 : kK 7 = .inr ((.object "ScheduleHouse$Trial"), 2) := rfl
theorem kl_7 {q : kP} (hq : kV q) : 7 ∈ (kf q).2.1 := hq.1 7 (by decide)
theorem kk_20 : kK 20 = .inl (9, ks_X9) := rfl
theorem kl_20 {q : kP} (hq : kV q) : 20 ∈ (kf q).2.1 := hq.1 20 (by decide)
theorem kr_20_0 {q : kP} : (kf q).1 20 0 = some 21 := rfl
theorem kk_21 : kK 21 = .inr (.byte, 3000) := rfl
theorem kl_21 {q : kP} (hq : kV q) : 21 ∈ (kf q).2.1 := hq.1 21 (by decide)
theorem kr_20_2 {q : kP} : (kf q).1 20 2 = some 23 := rfl
theorem kk_23 : kK 23 = .inr (.int, 702) := rfl
theorem kl_23 {q : kP} (hq : kV q) : 23 ∈ (kf q).2.1 := hq.1 23 (by decide)
theorem kr_20_3 {q : kP} : (kf q).1 20 3 = some 24 := rfl
theorem kk_24 : kK 24 = .inr (.int, 702) := rfl
theorem kl_24 {q : kP} (hq : kV q) : 24 ∈ (kf q).2.1 := hq.1 24 (by decide)
theorem kr_20_4 {q : kP} : (kf q).1 20 4 = some 25 := rfl
theorem kk_25 : kK 25 = .inr (.int, 702) := rfl
theorem kl_25 {q : kP} (hq : kV q) : 25 ∈ (kf q).2.1 := hq.1 25 (by decide)
theorem kr_20_5 {q : kP} : (kf q).1 20 5 = some 26 := rfl
theorem kk_26 : kK 26 = .inr (.int, 702) := rfl
theorem kl_26 {q : kP} (hq : kV q) : 26 ∈ (kf q).2.1 := hq.1 26 (by decide)
theorem kr_20_6 {q : kP} : (kf q).1 20 6 = some 27 := rfl
theorem kk_27 : kK 27 = .inr (.int, 702) := rfl
theorem kl_27 {q : kP} (hq : kV q) : 27 ∈ (kf q).2.1 := hq.1 27 (by decide)
theorem kk_40 : kK 40 = .inl (6, ks_X6) := rfl
theorem kl_40 {q : kP} (hq : kV q) : 40 ∈ (kf q).2.1 := hq.1 40 (by decide)
theorem kr_40_0 {q : kP} : (kf q).1 40 0 = some 20 := rfl
theorem kr_40_1 {q : kP} : (kf q).1 40 1 = some 42 := rfl
theorem kk_42 : kK 42 = .inr (.int, 702) := rfl
theorem kl_42 {q : kP} (hq : kV q) : 42 ∈ (kf q).2.1 := hq.1 42 (by decide)
theorem kr_40_2 {q : kP} : (kf q).1 40 2 = some 43 := rfl
theorem kk_43 : kK 43 = .inr (.int, 702) := rfl
theorem kl_43 {q : kP} (hq : kV q) : 43 ∈ (kf q).2.1 := hq.1 43 (by decide)
theorem kr_40_3 {q : kP} : (kf q).1 40 3 = some 44 := rfl
theorem kk_44 : kK 44 = .inr (.int, 24) := rfl
theorem kl_44 {q : kP} (hq : kV q) : 44 ∈ (kf q).2.1 := hq.1 44 (by decide)
theorem kr_40_4 {q : kP} : (kf q).1 40 4 = some 45 := rfl
theorem kk_45 : kK 45 = .inr (.int, 24) := rfl
theorem kl_45 {q : kP} (hq : kV q) : 45 ∈ (kf q).2.1 := hq.1 45 (by decide)
theorem kr_40_5 {q : kP} : (kf q).1 40 5 = some 46 := rfl
theorem kk_46 : kK 46 = .inr (.int, 24) := rfl
theorem kl_46 {q : kP} (hq : kV q) : 46 ∈ (kf q).2.1 := hq.1 46 (by decide)
theorem kr_40_7 {q : kP} : (kf q).1 40 7 = some 48 := rfl
theorem kk_48 : kK 48 = .inr (.int, 6) := rfl
theorem kl_48 {q : kP} (hq : kV q) : 48 ∈ (kf q).2.1 := hq.1 48 (by decide)
theorem kr_40_9 {q : kP} : (kf q).1 40 9 = some 50 := rfl
theorem kk_50 : kK 50 = .inr (.int, 6) := rfl
theorem kl_50 {q : kP} (hq : kV q) : 50 ∈ (kf q).2.1 := hq.1 50 (by decide)
theorem kk_60 : kK 60 = .inl (0, ks_X0) := rfl
theorem kl_60 {q : kP} (hq : kV q) : 60 ∈ (kf q).2.1 := hq.1 60 (by decide)
theorem kr_60_0 {q : kP} : (kf q).1 60 0 = some 80 := rfl
theorem kr_60_1 {q : kP} : (kf q).1 60 1 = some 62 := rfl
theorem kk_62 : kK 62 = .inr (.int, 800) := rfl
theorem kl_62 {q : kP} (hq : kV q) : 62 ∈ (kf q).2.1 := hq.1 62 (by decide)
theorem kr_60_2 {q : kP} : (kf q).1 60 2 = some 63 := rfl
theorem kk_63 : kK 63 = .inr (.int, 800) := rfl
theorem kl_63 {q : kP} (hq : kV q) : 63 ∈ (kf q).2.1 := hq.1 63 (by decide)
theorem kr_60_4 {q : kP} : (kf q).1 60 4 = some 65 := rfl
theorem kk_65 : kK 65 = .inr (.int, 40) := rfl
theorem kl_65 {q : kP} (hq : kV q) : 65 ∈ (kf q).2.1 := hq.1 65 (by decide)
theorem kr_60_7 {q : kP} : (kf q).1 60 7 = some 68 := rfl
theorem kk_68 : kK 68 = .inr (.int, 24) := rfl
theorem kl_68 {q : kP} (hq : kV q) : 68 ∈ (kf q).2.1 := hq.1 68 (by decide)
theorem kr_60_8 {q : kP} : (kf q).1 60 8 = some 69 := rfl
theorem kk_69 : kK 69 = .inr (.boolean, 24) := rfl
theorem kl_69 {q : kP} (hq : kV q) : 69 ∈ (kf q).2.1 := hq.1 69 (by decide)
theorem kr_60_11 {q : kP} : (kf q).1 60 11 = some 72 := rfl
theorem kk_72 : kK 72 = .inr (.int, 6) := rfl
theorem kl_72 {q : kP} (hq : kV q) : 72 ∈ (kf q).2.1 := hq.1 72 (by decide)
theorem kr_60_12 {q : kP} : (kf q).1 60 12 = some 73 := rfl
theorem kk_73 : kK 73 = .inr (.boolean, 6) := rfl
theorem kl_73 {q : kP} (hq : kV q) : 73 ∈ (kf q).2.1 := hq.1 73 (by decide)
theorem kr_60_15 {q : kP} : (kf q).1 60 15 = some 76 := rfl
theorem kk_76 : kK 76 = .inr (.int, 4) := rfl
theorem kl_76 {q : kP} (hq : kV q) : 76 ∈ (kf q).2.1 := hq.1 76 (by decide)
theorem kr_60_17 {q : kP} : (kf q).1 60 17 = some 78 := rfl
theorem kk_78 : kK 78 = .inr (.int, 4) := rfl
theorem kl_78 {q : kP} (hq : kV q) : 78 ∈ (kf q).2.1 := hq.1 78 (by decide)
theorem kk_80 : kK 80 = .inl (8, ks_X8) := rfl
theorem kl_80 {q : kP} (hq : kV q) : 80 ∈ (kf q).2.1 := hq.1 80 (by decide)
theorem kr_80_0 {q : kP} : (kf q).1 80 0 = some 81 := rfl
theorem kk_81 : kK 81 = .inr (.int, 400) := rfl
theorem kl_81 {q : kP} (hq : kV q) : 81 ∈ (kf q).2.1 := hq.1 81 (by decide)
theorem kr_80_1 {q : kP} : (kf q).1 80 1 = some 82 := rfl
theorem kk_82 : kK 82 = .inr (.int, 400) := rfl
theorem kl_82 {q : kP} (hq : kV q) : 82 ∈ (kf q).2.1 := hq.1 82 (by decide)
theorem kr_80_2 {q : kP} : (kf q).1 80 2 = some 83 := rfl
theorem kk_83 : kK 83 = .inr (.int, 400) := rfl
theorem kl_83 {q : kP} (hq : kV q) : 83 ∈ (kf q).2.1 := hq.1 83 (by decide)
theorem kr_80_3 {q : kP} : (kf q).1 80 3 = some 84 := rfl
theorem kk_84 : kK 84 = .inr (.int, 400) := rfl
theorem kl_84 {q : kP} (hq : kV q) : 84 ∈ (kf q).2.1 := hq.1 84 (by decide)
theorem kr_80_4 {q : kP} : (kf q).1 80 4 = some 85 := rfl
theorem kk_85 : kK 85 = .inr (.int, 400) := rfl
theorem kl_85 {q : kP} (hq : kV q) : 85 ∈ (kf q).2.1 := hq.1 85 (by decide)
theorem kr_80_5 {q : kP} : (kf q).1 80 5 = some 86 := rfl
theorem kk_86 : kK 86 = .inr (.int, 400) := rfl
theorem kl_86 {q : kP} (hq : kV q) : 86 ∈ (kf q).2.1 := hq.1 86 (by decide)
theorem kr_80_6 {q : kP} : (kf q).1 80 6 = some 87 := rfl
theorem kk_87 : kK 87 = .inr (.int, 400) := rfl
theorem kl_87 {q : kP} (hq : kV q) : 87 ∈ (kf q).2.1 := hq.1 87 (by decide)
theorem kr_80_7 {q : kP} : (kf q).1 80 7 = some 88 := rfl
theorem kk_88 : kK 88 = .inr (.int, 400) := rfl
theorem kl_88 {q : kP} (hq : kV q) : 88 ∈ (kf q).2.1 := hq.1 88 (by decide)
theorem kr_80_8 {q : kP} : (kf q).1 80 8 = some 89 := rfl
theorem kk_89 : kK 89 = .inr (.int, 400) := rfl
theorem kl_89 {q : kP} (hq : kV q) : 89 ∈ (kf q).2.1 := hq.1 89 (by decide)
theorem kk_100 : kK 100 = .inl (7, ks_X7) := rfl
theorem kl_100 {q : kP} (hq : kV q) : 100 ∈ (kf q).2.1 := hq.1 100 (by decide)
theorem kr_100_0 {q : kP} : (kf q).1 100 0 = some 20 := rfl
theorem kr_100_1 {q : kP} : (kf q).1 100 1 = some 40 := rfl
theorem kr_100_2 {q : kP} : (kf q).1 100 2 = some 60 := rfl
theorem kr_100_3 {q : kP} : (kf q).1 100 3 = some 80 := rfl
theorem kr_100_8 {q : kP} : (kf q).1 100 8 = some 109 := rfl
theorem kk_109 : kK 109 = .inr (.int, 8) := rfl
theorem kl_109 {q : kP} (hq : kV q) : 109 ∈ (kf q).2.1 := hq.1 109 (by decide)
theorem kr_100_10 {q : kP} : (kf q).1 100 10 = some 111 := rfl
theorem kk_111 : kK 111 = .inr (.int, 20) := rfl
theorem kl_111 {q : kP} (hq : kV q) : 111 ∈ (kf q).2.1 := hq.1 111 (by decide)
theorem kr_100_11 {q : kP} : (kf q).1 100 11 = some 112 := rfl
theorem kk_112 : kK 112 = .inr (.int, 20) := rfl
theorem kl_112 {q : kP} (hq : kV q) : 112 ∈ (kf q).2.1 := hq.1 112 (by decide)
theorem kr_100_12 {q : kP} : (kf q).1 100 12 = some 113 := rfl
theorem kk_113 : kK 113 = .inr (.int, 20) := rfl
theorem kl_113 {q : kP} (hq : kV q) : 113 ∈ (kf q).2.1 := hq.1 113 (by decide)
theorem kr_100_14 {q : kP} : (kf q).1 100 14 = some 115 := rfl
theorem kk_115 : kK 115 = .inr (.int, 20) := rfl
theorem kl_115 {q : kP} (hq : kV q) : 115 ∈ (kf q).2.1 := hq.1 115 (by decide)
theorem kr_100_15 {q : kP} : (kf q).1 100 15 = some 116 := rfl
theorem kk_116 : kK 116 = .inr (.int, 20) := rfl
theorem kl_116 {q : kP} (hq : kV q) : 116 ∈ (kf q).2.1 := hq.1 116 (by decide)
theorem kr_100_16 {q : kP} : (kf q).1 100 16 = some 117 := rfl
theorem kk_117 : kK 117 = .inr (.int, 20) := rfl
theorem kl_117 {q : kP} (hq : kV q) : 117 ∈ (kf q).2.1 := hq.1 117 (by decide)
theorem kk_120 : kK 120 = .inl (5, ks_X5) := rfl
theorem kl_120 {q : kP} (hq : kV q) : 120 ∈ (kf q).2.1 := hq.1 120 (by decide)
theorem kr_120_2 {q : kP} : (kf q).1 120 2 = some 140 := rfl
theorem kr_120_4 {q : kP} : (kf q).1 120 4 = some 125 := rfl
theorem kk_125 : kK 125 = .inr (.int, 228) := rfl
theorem kl_125 {q : kP} (hq : kV q) : 125 ∈ (kf q).2.1 := hq.1 125 (by decide)
theorem kr_120_10 {q : kP} : (kf q).1 120 10 = some 131 := rfl
theorem kk_131 : kK 131 = .inr (.int, 84) := rfl
theorem kl_131 {q : kP} (hq : kV q) : 131 ∈ (kf q).2.1 := hq.1 131 (by decide)
theorem kr_120_11 {q : kP} : (kf q).1 120 11 = some 132 := rfl
theorem kk_132 : kK 132 = .inr (.int, 84) := rfl
theorem kl_132 {q : kP} (hq : kV q) : 132 ∈ (kf q).2.1 := hq.1 132 (by decide)
theorem kr_120_12 {q : kP} : (kf q).1 120 12 = some 133 := rfl
theorem kk_133 : kK 133 = .inr (.int, 84) := rfl
theorem kl_133 {q : kP} (hq : kV q) : 133 ∈ (kf q).2.1 := hq.1 133 (by decide)
theorem kk_140 : kK 140 = .inl (1, ks_X1) := rfl
theorem kl_140 {q : kP} (hq : kV q) : 140 ∈ (kf q).2.1 := hq.1 140 (by decide)
theorem kk_160 : kK 160 = .inl (4, ks_X4) := rfl
theorem kl_160 {q : kP} (hq : kV q) : 160 ∈ (kf q).2.1 := hq.1 160 (by decide)
theorem kr_160_0 {q : kP} : (kf q).1 160 0 = some 60 := rfl
theorem kr_160_1 {q : kP} : (kf q).1 160 1 = some 162 := rfl
theorem kk_162 : kK 162 = .inr (.int, 400) := rfl
theorem kl_162 {q : kP} (hq : kV q) : 162 ∈ (kf q).2.1 := hq.1 162 (by decide)
theorem kr_160_5 {q : kP} : (kf q).1 160 5 = some 166 := rfl
theorem kk_166 : kK 166 = .inr (.int, 400) := rfl
theorem kl_166 {q : kP} (hq : kV q) : 166 ∈ (kf q).2.1 := hq.1 166 (by decide)
theorem kr_160_6 {q : kP} : (kf q).1 160 6 = some 167 := rfl
theorem kk_167 : kK 167 = .inr (.int, 400) := rfl
theorem kl_167 {q : kP} (hq : kV q) : 167 ∈ (kf q).2.1 := hq.1 167 (by decide)
theorem kr_160_7 {q : kP} : (kf q).1 160 7 = some 168 := rfl
theorem kk_168 : kK 168 = .inr (.int, 400) := rfl
theorem kl_168 {q : kP} (hq : kV q) : 168 ∈ (kf q).2.1 := hq.1 168 (by decide)
theorem kr_160_8 {q : kP} : (kf q).1 160 8 = some 169 := rfl
theorem kk_169 : kK 169 = .inr (.int, 400) := rfl
theorem kl_169 {q : kP} (hq : kV q) : 169 ∈ (kf q).2.1 := hq.1 169 (by decide)
theorem kr_160_9 {q : kP} : (kf q).1 160 9 = some 170 := rfl
theorem kk_170 : kK 170 = .inr (.int, 400) := rfl
theorem kl_170 {q : kP} (hq : kV q) : 170 ∈ (kf q).2.1 := hq.1 170 (by decide)
theorem kr_160_10 {q : kP} : (kf q).1 160 10 = some 171 := rfl
theorem kk_171 : kK 171 = .inr (.boolean, 400) := rfl
theorem kl_171 {q : kP} (hq : kV q) : 171 ∈ (kf q).2.1 := hq.1 171 (by decide)
theorem kr_160_11 {q : kP} : (kf q).1 160 11 = some 172 := rfl
theorem kk_172 : kK 172 = .inr (.int, 400) := rfl
theorem kl_172 {q : kP} (hq : kV q) : 172 ∈ (kf q).2.1 := hq.1 172 (by decide)
theorem kr_160_12 {q : kP} : (kf q).1 160 12 = some 173 := rfl
theorem kk_173 : kK 173 = .inr (.int, 2400) := rfl
theorem kl_173 {q : kP} (hq : kV q) : 173 ∈ (kf q).2.1 := hq.1 173 (by decide)
theorem kr_160_13 {q : kP} : (kf q).1 160 13 = some 174 := rfl
theorem kk_174 : kK 174 = .inr (.int, 6) := rfl
theorem kl_174 {q : kP} (hq : kV q) : 174 ∈ (kf q).2.1 := hq.1 174 (by decide)
theorem kr_160_14 {q : kP} : (kf q).1 160 14 = some 175 := rfl
theorem kk_175 : kK 175 = .inr (.int, 36) := rfl
theorem kl_175 {q : kP} (hq : kV q) : 175 ∈ (kf q).2.1 := hq.1 175 (by decide)
theorem kr_160_15 {q : kP} : (kf q).1 160 15 = some 176 := rfl
theorem kk_176 : kK 176 = .inr (.int, 36) := rfl
theorem kl_176 {q : kP} (hq : kV q) : 176 ∈ (kf q).2.1 := hq.1 176 (by decide)
theorem kr_160_16 {q : kP} : (kf q).1 160 16 = some 177 := rfl
theorem kk_177 : kK 177 = .inr (.int, 144) := rfl
theorem kl_177 {q : kP} (hq : kV q) : 177 ∈ (kf q).2.1 := hq.1 177 (by decide)
theorem kr_160_17 {q : kP} : (kf q).1 160 17 = some 178 := rfl
theorem kk_178 : kK 178 = .inr (.int, 36) := rfl
theorem kl_178 {q : kP} (hq : kV q) : 178 ∈ (kf q).2.1 := hq.1 178 (by decide)
theorem kk_180 : kK 180 = .inl (3, ks_X3) := rfl
theorem kl_180 {q : kP} (hq : kV q) (hh : q.hi = true) : 180 ∈ (kf q).2.1 := hq.2.1 hh 180 (by decide)
theorem kr_180_0 {q : kP} : (kf q).1 180 0 = some 181 := rfl
theorem kk_181 : kK 181 = .inr (.int, 12) := rfl
theorem kl_181 {q : kP} (hq : kV q) (hh : q.hi = true) : 181 ∈ (kf q).2.1 := hq.2.1 hh 181 (by decide)
theorem kr_180_1 {q : kP} : (kf q).1 180 1 = some 182 := rfl
theorem kk_182 : kK 182 = .inr (.int, 12) := rfl
theorem kl_182 {q : kP} (hq : kV q) (hh : q.hi = true) : 182 ∈ (kf q).2.1 := hq.2.1 hh 182 (by decide)
theorem kr_180_2 {q : kP} : (kf q).1 180 2 = some 183 := rfl
theorem kk_183 : kK 183 = .inr (.int, 12) := rfl
theorem kl_183 {q : kP} (hq : kV q) (hh : q.hi = true) : 183 ∈ (kf q).2.1 := hq.2.1 hh 183 (by decide)
theorem kr_180_3 {q : kP} : (kf q).1 180 3 = some 184 := rfl
theorem kk_184 : kK 184 = .inr (.int, 12) := rfl
theorem kl_184 {q : kP} (hq : kV q) (hh : q.hi = true) : 184 ∈ (kf q).2.1 := hq.2.1 hh 184 (by decide)
theorem kr_180_4 {q : kP} : (kf q).1 180 4 = some 185 := rfl
theorem kk_185 : kK 185 = .inr (.int, 12) := rfl
theorem kl_185 {q : kP} (hq : kV q) (hh : q.hi = true) : 185 ∈ (kf q).2.1 := hq.2.1 hh 185 (by decide)
theorem kr_180_5 {q : kP} : (kf q).1 180 5 = some 186 := rfl
theorem kk_186 : kK 186 = .inr (.int, 12) := rfl
theorem kl_186 {q : kP} (hq : kV q) (hh : q.hi = true) : 186 ∈ (kf q).2.1 := hq.2.1 hh 186 (by decide)
theorem kr_180_8 {q : kP} : (kf q).1 180 8 = some 189 := rfl
theorem kk_189 : kK 189 = .inr (.int, 6) := rfl
theorem kl_189 {q : kP} (hq : kV q) (hh : q.hi = true) : 189 ∈ (kf q).2.1 := hq.2.1 hh 189 (by decide)
theorem kr_180_9 {q : kP} : (kf q).1 180 9 = some 190 := rfl
theorem kk_190 : kK 190 = .inr ((.array .int), 13) := rfl
theorem kl_190 {q : kP} (hq : kV q) (hh : q.hi = true) : 190 ∈ (kf q).2.1 := hq.2.1 hh 190 (by decide)
theorem kk_200 : kK 200 = .inl (2, ks_X2) := rfl
theorem kl_200 {q : kP} (hq : kV q) (he : q.ex = true) : 200 ∈ (kf q).2.1 := hq.2.2.1 he 200 (by decide)
theorem kr_200_0 {q : kP} : (kf q).1 200 0 = some 60 := rfl
theorem kr_200_1 {q : kP} : (kf q).1 200 1 = some 220 := rfl
theorem kr_200_2 {q : kP} : (kf q).1 200 2 = some 203 := rfl
theorem kk_203 : kK 203 = .inr ((.array .int), 3000) := rfl
theorem kl_203 {q : kP} (hq : kV q) (he : q.ex = true) : 203 ∈ (kf q).2.1 := hq.2.2.1 he 203 (by decide)
theorem kr_200_3 {q : kP} : (kf q).1 200 3 = some 204 := rfl
theorem kk_204 : kK 204 = .inr (.int, 3000) := rfl
theorem kl_204 {q : kP} (hq : kV q) (he : q.ex = true) : 204 ∈ (kf q).2.1 := hq.2.2.1 he 204 (by decide)
theorem kr_200_4 {q : kP} : (kf q).1 200 4 = some 205 := rfl
theorem kk_205 : kK 205 = .inr (.int, 8192) := rfl
theorem kl_205 {q : kP} (hq : kV q) (he : q.ex = true) : 205 ∈ (kf q).2.1 := hq.2.2.1 he 205 (by decide)
theorem kr_200_8 {q : kP} : (kf q).1 200 8 = some 209 := rfl
theorem kk_209 : kK 209 = .inr (.int, 6) := rfl
theorem kl_209 {q : kP} (hq : kV q) (he : q.ex = true) : 209 ∈ (kf q).2.1 := hq.2.2.1 he 209 (by decide)
theorem kr_200_9 {q : kP} : (kf q).1 200 9 = some 210 := rfl
theorem kk_210 : kK 210 = .inr (.int, 6) := rfl
theorem kl_210 {q : kP} (hq : kV q) (he : q.ex = true) : 210 ∈ (kf q).2.1 := hq.2.2.1 he 210 (by decide)
theorem kk_220 : kK 220 = .inl (5, ks_X5) := rfl
theorem kl_220 {q : kP} (hq : kV q) (he : q.ex = true) : 220 ∈ (kf q).2.1 := hq.2.2.1 he 220 (by decide)
theorem kr_220_4 {q : kP} : (kf q).1 220 4 = some 225 := rfl
theorem kk_225 : kK 225 = .inr (.int, 228) := rfl
theorem kl_225 {q : kP} (hq : kV q) (he : q.ex = true) : 225 ∈ (kf q).2.1 := hq.2.2.1 he 225 (by decide)
theorem kr_220_10 {q : kP} : (kf q).1 220 10 = some 231 := rfl
theorem kk_231 : kK 231 = .inr (.int, 84) := rfl
theorem kl_231 {q : kP} (hq : kV q) (he : q.ex = true) : 231 ∈ (kf q).2.1 := hq.2.2.1 he 231 (by decide)
theorem kr_220_11 {q : kP} : (kf q).1 220 11 = some 232 := rfl
theorem kk_232 : kK 232 = .inr (.int, 84) := rfl
theorem kl_232 {q : kP} (hq : kV q) (he : q.ex = true) : 232 ∈ (kf q).2.1 := hq.2.2.1 he 232 (by decide)
theorem kk_233 : kK 233 = .inr (.int, 84) := rfl
theorem kk_240 : kK 240 = .inl (1, ks_X1) := rfl
theorem kk_M0 {q : kP} {o : Nat} (ho : kiM q o) : kK o = .inl (5, ks_X5) := by rcases ho with rfl | ⟨rfl, h⟩ <;> rfl
theorem kl_M0 {q : kP} {o : Nat} (hq : kV q) (ho : kiM q o) : o ∈ (kf q).2.1 := by
  rcases ho with rfl | ⟨rfl, h⟩
  · exact hq.1 _ (by decide)
  · exact hq.2.2.1 h _ (by decide)
theorem kk_M5 {q : kP} {o : Nat} (ho : kiM q o) : kK (o + 5) = .inr (.int, 228) := by rcases ho with rfl | ⟨rfl, h⟩ <;> rfl
theorem kl_M5 {q : kP} {o : Nat} (hq : kV q) (ho : kiM q o) : (o + 5) ∈ (kf q).2.1 := by
  rcases ho with rfl | ⟨rfl, h⟩
  · exact hq.1 _ (by decide)
  · exact hq.2.2.1 h _ (by decide)
theorem kk_M11 {q : kP} {o : Nat} (ho : kiM q o) : kK (o + 11) = .inr (.int, 84) := by rcases ho with rfl | ⟨rfl, h⟩ <;> rfl
theorem kl_M11 {q : kP} {o : Nat} (hq : kV q) (ho : kiM q o) : (o + 11) ∈ (kf q).2.1 := by
  rcases ho with rfl | ⟨rfl, h⟩
  · exact hq.1 _ (by decide)
  · exact hq.2.2.1 h _ (by decide)
theorem kk_M12 {q : kP} {o : Nat} (ho : kiM q o) : kK (o + 12) = .inr (.int, 84) := by rcases ho with rfl | ⟨rfl, h⟩ <;> rfl
theorem kl_M12 {q : kP} {o : Nat} (hq : kV q) (ho : kiM q o) : (o + 12) ∈ (kf q).2.1 := by
  rcases ho with rfl | ⟨rfl, h⟩
  · exact hq.1 _ (by decide)
  · exact hq.2.2.1 h _ (by decide)
theorem kk_M13 {q : kP} {o : Nat} (ho : kiM q o) : kK (o + 13) = .inr (.int, 84) := by rcases ho with rfl | ⟨rfl, h⟩ <;> rfl
theorem kl_M13 {q : kP} {o : Nat} (hq : kV q) (ho : kiM q o) : (o + 13) ∈ (kf q).2.1 := by
  rcases ho with rfl | ⟨rfl, h⟩
  · exact hq.1 _ (by decide)
  · exact hq.2.2.1 h _ (by decide)
theorem kr_M_0 {q : kP} {o : Nat} (ho : kiM q o) : (kf q).1 o 0 = some 60 := by rcases ho with rfl | ⟨rfl, h⟩ <;> rfl
theorem kr_M_1 {q : kP} {o : Nat} (ho : kiM q o) : (kf q).1 o 1 = some 80 := by rcases ho with rfl | ⟨rfl, h⟩ <;> rfl
theorem kr_M_2 {q : kP} {o : Nat} (ho : kiM q o) : (kf q).1 o 2 = some (o + 20) := by rcases ho with rfl | ⟨rfl, h⟩ <;> rfl
theorem kr_M_4 {q : kP} {o : Nat} (ho : kiM q o) : (kf q).1 o 4 = some (o + 5) := by rcases ho with rfl | ⟨rfl, h⟩ <;> rfl
theorem kr_M_10 {q : kP} {o : Nat} (ho : kiM q o) : (kf q).1 o 10 = some (o + 11) := by rcases ho with rfl | ⟨rfl, h⟩ <;> rfl
theorem kr_M_11 {q : kP} {o : Nat} (ho : kiM q o) : (kf q).1 o 11 = some (o + 12) := by rcases ho with rfl | ⟨rfl, h⟩ <;> rfl
theorem kr_M_12 {q : kP} {o : Nat} (ho : kiM q o) : (kf q).1 o 12 = some (o + 13) := by rcases ho with rfl | ⟨rfl, h⟩ <;> rfl
theorem kk_D0 {q : kP} {o : Nat} (ho : kiD q o) : kK o = .inl (1, ks_X1) := by rcases ho with rfl | ⟨rfl, h⟩ <;> rfl
theorem kl_D0 {q : kP} {o : Nat} (hq : kV q) (ho : kiD q o) : o ∈ (kf q).2.1 := by
  rcases ho with rfl | ⟨rfl, h⟩
  · exact hq.1 _ (by decide)
  · exact hq.2.2.1 h _ (by decide)
theorem kk_T0 {q : kP} {o : Nat} (ho : kiT q o) : kK o = .inl (10, ks_X10) := by rcases ho with ⟨rfl, h⟩ | ⟨rfl, h⟩ <;> rfl
theorem kl_T0 {q : kP} {o : Nat} (hq : kV q) (ho : kiT q o) : o ∈ (kf q).2.1 := by
  rcases ho with ⟨rfl, h⟩ | ⟨rfl, h⟩
  · exact hq.2.2.2.1 h _ (by decide)
  · exact hq.2.2.2.2.1 h _ (by decide)
theorem kk_T7 {q : kP} {o : Nat} (ho : kiT q o) : kK (o + 7) = .inr (.int, 11) := by rcases ho with ⟨rfl, h⟩ | ⟨rfl, h⟩ <;> rfl
theorem kl_T7 {q : kP} {o : Nat} (hq : kV q) (ho : kiT q o) : (o + 7) ∈ (kf q).2.1 := by
  rcases ho with ⟨rfl, h⟩ | ⟨rfl, h⟩
  · exact hq.2.2.2.1 h _ (by decide)
  · exact hq.2.2.2.2.1 h _ (by decide)
theorem kk_T8 {q : kP} {o : Nat} (ho : kiT q o) : kK (o + 8) = .inr (.int, 24) := by rcases ho with ⟨rfl, h⟩ | ⟨rfl, h⟩ <;> rfl
theorem kl_T8 {q : kP} {o : Nat} (hq : kV q) (ho : kiT q o) : (o + 8) ∈ (kf q).2.1 := by
  rcases ho with ⟨rfl, h⟩ | ⟨rfl, h⟩
  · exact hq.2.2.2.1 h _ (by decide)
  · exact hq.2.2.2.2.1 h _ (by decide)
theorem kk_T9 {q : kP} {o : Nat} (ho : kiT q o) : kK (o + 9) = .inr (.int, 6) := by rcases ho with ⟨rfl, h⟩ | ⟨rfl, h⟩ <;> rfl
theorem kl_T9 {q : kP} {o : Nat} (hq : kV q) (ho : kiT q o) : (o + 9) ∈ (kf q).2.1 := by
  rcases ho with ⟨rfl, h⟩ | ⟨rfl, h⟩
  · exact hq.2.2.2.1 h _ (by decide)
  · exact hq.2.2.2.2.1 h _ (by decide)
theorem kk_T10 {q : kP} {o : Nat} (ho : kiT q o) : kK (o + 10) = .inr (.int, 3000) := by rcases ho with ⟨rfl, h⟩ | ⟨rfl, h⟩ <;> rfl
theorem kl_T10 {q : kP} {o : Nat} (hq : kV q) (ho : kiT q o) : (o + 10) ∈ (kf q).2.1 := by
  rcases ho with ⟨rfl, h⟩ | ⟨rfl, h⟩
  · exact hq.2.2.2.1 h _ (by decide)
  · exact hq.2.2.2.2.1 h _ (by decide)
theorem kk_T11 {q : kP} {o : Nat} (ho : kiT q o) : kK (o + 11) = .inr (.int, 3000) := by rcases ho with ⟨rfl, h⟩ | ⟨rfl, h⟩ <;> rfl
theorem kl_T11 {q : kP} {o : Nat} (hq : kV q) (ho : kiT q o) : (o + 11) ∈ (kf q).2.1 := by
  rcases ho with ⟨rfl, h⟩ | ⟨rfl, h⟩
  · exact hq.2.2.2.1 h _ (by decide)
  · exact hq.2.2.2.2.1 h _ (by decide)
theorem kk_T12 {q : kP} {o : Nat} (ho : kiT q o) : kK (o + 12) = .inr (.int, 3000) := by rcases ho with ⟨rfl, h⟩ | ⟨rfl, h⟩ <;> rfl
theorem kl_T12 {q : kP} {o : Nat} (hq : kV q) (ho : kiT q o) : (o + 12) ∈ (kf q).2.1 := by
  rcases ho with ⟨rfl, h⟩ | ⟨rfl, h⟩
  · exact hq.2.2.2.1 h _ (by decide)
  · exact hq.2.2.2.2.1 h _ (by decide)
theorem kk_T13 {q : kP} {o : Nat} (ho : kiT q o) : kK (o + 13) = .inr ((.array .int), 3000) := by rcases ho with ⟨rfl, h⟩ | ⟨rfl, h⟩ <;> rfl
theorem kl_T13 {q : kP} {o : Nat} (hq : kV q) (ho : kiT q o) : (o + 13) ∈ (kf q).2.1 := by
  rcases ho with ⟨rfl, h⟩ | ⟨rfl, h⟩
  · exact hq.2.2.2.1 h _ (by decide)
  · exact hq.2.2.2.2.1 h _ (by decide)
theorem kk_T14 {q : kP} {o : Nat} (ho : kiT q o) : kK (o + 14) = .inr (.int, 3000) := by rcases ho with ⟨rfl, h⟩ | ⟨rfl, h⟩ <;> rfl
theorem kl_T14 {q : kP} {o : Nat} (hq : kV q) (ho : kiT q o) : (o + 14) ∈ (kf q).2.1 := by
  rcases ho with ⟨rfl, h⟩ | ⟨rfl, h⟩
  · exact hq.2.2.2.1 h _ (by decide)
  · exact hq.2.2.2.2.1 h _ (by decide)
theorem kr_T_6 {q : kP} {o : Nat} (ho : kiT q o) : (kf q).1 o 6 = some (o + 7) := by rcases ho with ⟨rfl, h⟩ | ⟨rfl, h⟩ <;> rfl
theorem kr_T_7 {q : kP} {o : Nat} (ho : kiT q o) : (kf q).1 o 7 = some (o + 8) := by rcases ho with ⟨rfl, h⟩ | ⟨rfl, h⟩ <;> rfl
theorem kr_T_8 {q : kP} {o : Nat} (ho : kiT q o) : (kf q).1 o 8 = some (o + 9) := by rcases ho with ⟨rfl, h⟩ | ⟨rfl, h⟩ <;> rfl
theorem kr_T_9 {q : kP} {o : Nat} (ho : kiT q o) : (kf q).1 o 9 = some (o + 10) := by rcases ho with ⟨rfl, h⟩ | ⟨rfl, h⟩ <;> rfl
theorem kr_T_10 {q : kP} {o : Nat} (ho : kiT q o) : (kf q).1 o 10 = some (o + 11) := by rcases ho with ⟨rfl, h⟩ | ⟨rfl, h⟩ <;> rfl
theorem kr_T_11 {q : kP} {o : Nat} (ho : kiT q o) : (kf q).1 o 11 = some (o + 12) := by rcases ho with ⟨rfl, h⟩ | ⟨rfl, h⟩ <;> rfl
theorem kr_T_12 {q : kP} {o : Nat} (ho : kiT q o) : (kf q).1 o 12 = some (o + 13) := by rcases ho with ⟨rfl, h⟩ | ⟨rfl, h⟩ <;> rfl
theorem kr_T_13 {q : kP} {o : Nat} (ho : kiT q o) : (kf q).1 o 13 = some (o + 14) := by rcases ho with ⟨rfl, h⟩ | ⟨rfl, h⟩ <;> rfl
theorem kw_X0 : ∀ w ∈ wsX00, w ∈ W0 := fun w h => W0_in (tw_X0 w h) (by obtain ⟨k, hk, e⟩ := List.mem_map.mp h; rw [← e]; unfold u_lay; split <;> rfl)
theorem kw_X1 : ∀ w ∈ wsX10, w ∈ W0 := fun w h => W0_in (tw_X1 w h) (by obtain ⟨k, hk, e⟩ := List.mem_map.mp h; rw [← e]; unfold u_lay; split <;> rfl)
theorem kw_X2 : ∀ w ∈ wsX20, w ∈ W0 := fun w h => W0_in (tw_X2 w h) (by obtain ⟨k, hk, e⟩ := List.mem_map.mp h; rw [← e]; unfold u_lay; split <;> rfl)
theorem kw_X3 : ∀ w ∈ wsX30, w ∈ W0 := fun w h => W0_in (tw_X3 w h) (by obtain ⟨k, hk, e⟩ := List.mem_map.mp h; rw [← e]; unfold u_lay; split <;> rfl)
theorem kw_X4 : ∀ w ∈ wsX40, w ∈ W0 := fun w h => W0_in (tw_X4 w h) (by obtain ⟨k, hk, e⟩ := List.mem_map.mp h; rw [← e]; unfold u_lay; split <;> rfl)
theorem kw_X5 : ∀ w ∈ wsX50, w ∈ W0 := fun w h => W0_in (tw_X5 w h) (by obtain ⟨k, hk, e⟩ := List.mem_map.mp h; rw [← e]; unfold u_lay; split <;> rfl)
theorem kw_X6 : ∀ w ∈ wsX60, w ∈ W0 := fun w h => W0_in (tw_X6 w h) (by obtain ⟨k, hk, e⟩ := List.mem_map.mp h; rw [← e]; unfold u_lay; split <;> rfl)
theorem kw_X7 : ∀ w ∈ wsX70, w ∈ W0 := fun w h => W0_in (tw_X7 w h) (by obtain ⟨k, hk, e⟩ := List.mem_map.mp h; rw [← e]; unfold u_lay; split <;> rfl)
theorem kw_X8 : ∀ w ∈ wsX80, w ∈ W0 := fun w h => W0_in (tw_X8 w h) (by obtain ⟨k, hk, e⟩ := List.mem_map.mp h; rw [← e]; unfold u_lay; split <;> rfl)
theorem kw_X9 : ∀ w ∈ wsX90, w ∈ W0 := fun w h => W0_in (tw_X9 w h) (by obtain ⟨k, hk, e⟩ := List.mem_map.mp h; rw [← e]; unfold u_lay; split <;> rfl)
theorem kw_X10 : ∀ w ∈ wsX100, w ∈ W0 := fun w h => W0_in (tw_X10 w h) (by obtain ⟨k, hk, e⟩ := List.mem_map.mp h; rw [← e]; unfold u_lay; split <;> rfl)
theorem kw_X11 : ∀ w ∈ wsX110, w ∈ W0 := fun w h => W0_in (tw_X11 w h) (by obtain ⟨k, hk, e⟩ := List.mem_map.mp h; rw [← e]; unfold u_lay; split <;> rfl)
theorem kfl_X0_14 : gFl RX0 14 0 0 (.object "ScheduleHouse$Steps") true 18 := ⟨RX0, TX0, rfl, kw_X0, by decide, W0_in (tp_1 (List.mem_of_getElem? (i := 194) (by decide +kernel))) rfl, rfl, rfl, ⟨tyX0, tyX0_ok⟩, nmX0⟩
theorem kfl_X0_18 : gFl RX0 18 0 1 (.array .int) true 18 := ⟨RX0, TX0, rfl, kw_X0, by decide, W0_in (tp_1 (List.mem_of_getElem? (i := 196) (by decide +kernel))) rfl, rfl, rfl, ⟨tyX0, tyX0_ok⟩, nmX0⟩
theorem kfl_X0_22 : gFl RX0 22 0 2 (.array .int) true 18 := ⟨RX0, TX0, rfl, kw_X0, by decide, W0_in (tp_1 (List.mem_of_getElem? (i := 198) (by decide +kernel))) rfl, rfl, rfl, ⟨tyX0, tyX0_ok⟩, nmX0⟩
theorem kfl_X0_25 : gFl RX0 25 0 4 (.array .int) true 18 := ⟨RX0, TX0, rfl, kw_X0, by decide, W0_in (tp_1 (List.mem_of_getElem? (i := 202) (by decide +kernel))) rfl, rfl, rfl, ⟨tyX0, tyX0_ok⟩, nmX0⟩
theorem kfl_X0_30 : gFl RX0 30 0 7 (.array .int) true 18 := ⟨RX0, TX0, rfl, kw_X0, by decide, W0_in (tp_1 (List.mem_of_getElem? (i := 211) (by decide +kernel))) rfl, rfl, rfl, ⟨tyX0, tyX0_ok⟩, nmX0⟩
theorem kfl_X0_33 : gFl RX0 33 0 8 (.array .boolean) true 18 := ⟨RX0, TX0, rfl, kw_X0, by decide, W0_in (tp_1 (List.mem_of_getElem? (i := 213) (by decide +kernel))) rfl, rfl, rfl, ⟨tyX0, tyX0_ok⟩, nmX0⟩
theorem kfl_X0_37 : gFl RX0 37 0 11 (.array .int) true 18 := ⟨RX0, TX0, rfl, kw_X0, by decide, W0_in (tp_1 (List.mem_of_getElem? (i := 227) (by decide +kernel))) rfl, rfl, rfl, ⟨tyX0, tyX0_ok⟩, nmX0⟩
theorem kfl_X0_40 : gFl RX0 40 0 12 (.array .boolean) true 18 := ⟨RX0, TX0, rfl, kw_X0, by decide, W0_in (tp_1 (List.mem_of_getElem? (i := 230) (by decide +kernel))) rfl, rfl, rfl, ⟨tyX0, tyX0_ok⟩, nmX0⟩
theorem kfl_X0_43 : gFl RX0 43 0 15 (.array .int) true 18 := ⟨RX0, TX0, rfl, kw_X0, by decide, W0_in (tp_2 (List.mem_of_getElem? (i := 0) (by decide +kernel))) rfl, rfl, rfl, ⟨tyX0, tyX0_ok⟩, nmX0⟩
theorem kfl_X0_46 : gFl RX0 46 0 17 (.array .int) true 18 := ⟨RX0, TX0, rfl, kw_X0, by decide, W0_in (tp_2 (List.mem_of_getElem? (i := 7) (by decide +kernel))) rfl, rfl, rfl, ⟨tyX0, tyX0_ok⟩, nmX0⟩
theorem kfl_X0_49 : gFl RX0 49 8 9 (.int) false 10 := ⟨RX8, TX8, rfl, kw_X8, by decide, W0_in (tp_1 (List.mem_of_getElem? (i := 170) (by decide +kernel))) rfl, rfl, rfl, ⟨tyX8, tyX8_ok⟩, nmX8⟩
theorem kfl_X0_53 : gFl RX0 53 0 3 (.int) false 18 := ⟨RX0, TX0, rfl, kw_X0, by decide, W0_in (tp_1 (List.mem_of_getElem? (i := 200) (by decide +kernel))) rfl, rfl, rfl, ⟨tyX0, tyX0_ok⟩, nmX0⟩
theorem kfl_X0_56 : gFl RX0 56 0 6 (.int) false 18 := ⟨RX0, TX0, rfl, kw_X0, by decide, W0_in (tp_1 (List.mem_of_getElem? (i := 207) (by decide +kernel))) rfl, rfl, rfl, ⟨tyX0, tyX0_ok⟩, nmX0⟩
theorem kfl_X0_59 : gFl RX0 59 0 9 (.int) false 18 := ⟨RX0, TX0, rfl, kw_X0, by decide, W0_in (tp_1 (List.mem_of_getElem? (i := 218) (by decide +kernel))) rfl, rfl, rfl, ⟨tyX0, tyX0_ok⟩, nmX0⟩
theorem kfl_X0_62 : gFl RX0 62 0 10 (.int) false 18 := ⟨RX0, TX0, rfl, kw_X0, by decide, W0_in (tp_1 (List.mem_of_getElem? (i := 222) (by decide +kernel))) rfl, rfl, rfl, ⟨tyX0, tyX0_ok⟩, nmX0⟩
theorem kfl_X0_65 : gFl RX0 65 0 13 (.int) false 18 := ⟨RX0, TX0, rfl, kw_X0, by decide, W0_in (tp_1 (List.mem_of_getElem? (i := 233) (by decide +kernel))) rfl, rfl, rfl, ⟨tyX0, tyX0_ok⟩, nmX0⟩
theorem kfl_X0_68 : gFl RX0 68 0 14 (.int) false 18 := ⟨RX0, TX0, rfl, kw_X0, by decide, W0_in (tp_1 (List.mem_of_getElem? (i := 236) (by decide +kernel))) rfl, rfl, rfl, ⟨tyX0, tyX0_ok⟩, nmX0⟩
theorem kfl_X0_71 : gFl RX0 71 0 16 (.int) false 18 := ⟨RX0, TX0, rfl, kw_X0, by decide, W0_in (tp_2 (List.mem_of_getElem? (i := 3) (by decide +kernel))) rfl, rfl, rfl, ⟨tyX0, tyX0_ok⟩, nmX0⟩
theorem kfl_X0_74 : gFl RX0 74 0 5 (.boolean) false 18 := ⟨RX0, TX0, rfl, kw_X0, by decide, W0_in (tp_1 (List.mem_of_getElem? (i := 203) (by decide +kernel))) rfl, rfl, rfl, ⟨tyX0, tyX0_ok⟩, nmX0⟩
theorem kfl_X1_7 : gFl RX1 7 1 0 (.int) false 7 := ⟨RX1, TX1, rfl, kw_X1, by decide, W0_in (tp_2 (List.mem_of_getElem? (i := 122) (by decide +kernel))) rfl, rfl, rfl, ⟨tyX1, tyX1_ok⟩, nmX1⟩
theorem kfl_X1_13 : gFl RX1 13 1 1 (.int) false 7 := ⟨RX1, TX1, rfl, kw_X1, by decide, W0_in (tp_2 (List.mem_of_getElem? (i := 124) (by decide +kernel))) rfl, rfl, rfl, ⟨tyX1, tyX1_ok⟩, nmX1⟩
theorem kfl_X1_16 : gFl RX1 16 1 2 (.int) false 7 := ⟨RX1, TX1, rfl, kw_X1, by decide, W0_in (tp_2 (List.mem_of_getElem? (i := 126) (by decide +kernel))) rfl, rfl, rfl, ⟨tyX1, tyX1_ok⟩, nmX1⟩
theorem kfl_X1_19 : gFl RX1 19 1 3 (.int) false 7 := ⟨RX1, TX1, rfl, kw_X1, by decide, W0_in (tp_2 (List.mem_of_getElem? (i := 129) (by decide +kernel))) rfl, rfl, rfl, ⟨tyX1, tyX1_ok⟩, nmX1⟩
theorem kfl_X1_22 : gFl RX1 22 1 4 (.int) false 7 := ⟨RX1, TX1, rfl, kw_X1, by decide, W0_in (tp_2 (List.mem_of_getElem? (i := 132) (by decide +kernel))) rfl, rfl, rfl, ⟨tyX1, tyX1_ok⟩, nmX1⟩
theorem kfl_X1_25 : gFl RX1 25 1 5 (.boolean) false 7 := ⟨RX1, TX1, rfl, kw_X1, by decide, W0_in (tp_2 (List.mem_of_getElem? (i := 135) (by decide +kernel))) rfl, rfl, rfl, ⟨tyX1, tyX1_ok⟩, nmX1⟩
theorem kfl_X1_29 : gFl RX1 29 1 6 (.int) false 7 := ⟨RX1, TX1, rfl, kw_X1, by decide, W0_in (tp_2 (List.mem_of_getElem? (i := 138) (by decide +kernel))) rfl, rfl, rfl, ⟨tyX1, tyX1_ok⟩, nmX1⟩
theorem kfl_X2_9 : gFl RX2 9 2 0 (.object "ScheduleHouse$Code") true 10 := ⟨RX2, TX2, rfl, kw_X2, by decide, W0_in (tp_7 (List.mem_of_getElem? (i := 143) (by decide +kernel))) rfl, rfl, rfl, ⟨tyX2, tyX2_ok⟩, nmX2⟩
theorem kfl_X2_20 : gFl RX2 20 2 1 (.object "ScheduleHouse$Machine") true 10 := ⟨RX2, TX2, rfl, kw_X2, by decide, W0_in (tp_7 (List.mem_of_getElem? (i := 144) (by decide +kernel))) rfl, rfl, rfl, ⟨tyX2, tyX2_ok⟩, nmX2⟩
theorem kfl_X2_26 : gFl RX2 26 2 2 (.array (.array .int)) true 10 := ⟨RX2, TX2, rfl, kw_X2, by decide, W0_in (tp_7 (List.mem_of_getElem? (i := 145) (by decide +kernel))) rfl, rfl, rfl, ⟨tyX2, tyX2_ok⟩, nmX2⟩
theorem kfl_X2_30 : gFl RX2 30 2 3 (.array .int) true 10 := ⟨RX2, TX2, rfl, kw_X2, by decide, W0_in (tp_7 (List.mem_of_getElem? (i := 146) (by decide +kernel))) rfl, rfl, rfl, ⟨tyX2, tyX2_ok⟩, nmX2⟩
theorem kfl_X2_33 : gFl RX2 33 2 4 (.array .int) true 10 := ⟨RX2, TX2, rfl, kw_X2, by decide, W0_in (tp_7 (List.mem_of_getElem? (i := 147) (by decide +kernel))) rfl, rfl, rfl, ⟨tyX2, tyX2_ok⟩, nmX2⟩
theorem kfl_X2_38 : gFl RX2 38 2 8 (.array .int) true 10 := ⟨RX2, TX2, rfl, kw_X2, by decide, W0_in (tp_7 (List.mem_of_getElem? (i := 151) (by decide +kernel))) rfl, rfl, rfl, ⟨tyX2, tyX2_ok⟩, nmX2⟩
theorem kfl_X2_41 : gFl RX2 41 2 9 (.array .int) true 10 := ⟨RX2, TX2, rfl, kw_X2, by decide, W0_in (tp_7 (List.mem_of_getElem? (i := 152) (by decide +kernel))) rfl, rfl, rfl, ⟨tyX2, tyX2_ok⟩, nmX2⟩
theorem kfl_X2_44 : gFl RX2 44 2 7 (.object "ScheduleHouse$Trial") false 10 := ⟨RX2, TX2, rfl, kw_X2, by decide, W0_in (tp_7 (List.mem_of_getElem? (i := 150) (by decide +kernel))) rfl, rfl, rfl, ⟨tyX2, tyX2_ok⟩, nmX2⟩
theorem kfl_X2_48 : gFl RX2 48 0 9 (.int) false 18 := ⟨RX0, TX0, rfl, kw_X0, by decide, W0_in (tp_1 (List.mem_of_getElem? (i := 217) (by decide +kernel))) rfl, rfl, rfl, ⟨tyX0, tyX0_ok⟩, nmX0⟩
theorem kfl_X2_73 : gFl RX2 73 10 0 (.int) false 14 := ⟨RX10, TX10, rfl, kw_X10, by decide, W0_in (tp_7 (List.mem_of_getElem? (i := 181) (by decide +kernel))) rfl, rfl, rfl, ⟨tyX10, tyX10_ok⟩, nmX10⟩
theorem kfl_X2_88 : gFl RX2 88 5 13 (.int) false 15 := ⟨RX5, TX5, rfl, kw_X5, by decide, W0_in (tp_2 (List.mem_of_getElem? (i := 179) (by decide +kernel))) rfl, rfl, rfl, ⟨tyX5, tyX5_ok⟩, nmX5⟩
theorem kfl_X2_91 : gFl RX2 91 10 1 (.boolean) false 14 := ⟨RX10, TX10, rfl, kw_X10, by decide, W0_in (tp_7 (List.mem_of_getElem? (i := 184) (by decide +kernel))) rfl, rfl, rfl, ⟨tyX10, tyX10_ok⟩, nmX10⟩
theorem kfl_X2_106 : gFl RX2 106 5 4 (.array .int) true 15 := ⟨RX5, TX5, rfl, kw_X5, by decide, W0_in (tp_2 (List.mem_of_getElem? (i := 163) (by decide +kernel))) rfl, rfl, rfl, ⟨tyX5, tyX5_ok⟩, nmX5⟩
theorem kfl_X2_109 : gFl RX2 109 5 5 (.int) false 15 := ⟨RX5, TX5, rfl, kw_X5, by decide, W0_in (tp_2 (List.mem_of_getElem? (i := 166) (by decide +kernel))) rfl, rfl, rfl, ⟨tyX5, tyX5_ok⟩, nmX5⟩
theorem kfl_X2_122 : gFl RX2 122 2 6 (.int) false 10 := ⟨RX2, TX2, rfl, kw_X2, by decide, W0_in (tp_7 (List.mem_of_getElem? (i := 149) (by decide +kernel))) rfl, rfl, rfl, ⟨tyX2, tyX2_ok⟩, nmX2⟩
theorem kfl_X2_124 : gFl RX2 124 2 5 (.int) false 10 := ⟨RX2, TX2, rfl, kw_X2, by decide, W0_in (tp_7 (List.mem_of_getElem? (i := 148) (by decide +kernel))) rfl, rfl, rfl, ⟨tyX2, tyX2_ok⟩, nmX2⟩
theorem kfl_X2_133 : gFl RX2 133 10 5 (.int) false 14 := ⟨RX10, TX10, rfl, kw_X10, by decide, W0_in (tp_7 (List.mem_of_getElem? (i := 195) (by decide +kernel))) rfl, rfl, rfl, ⟨tyX10, tyX10_ok⟩, nmX10⟩
theorem kfl_X2_136 : gFl RX2 136 0 14 (.int) false 18 := ⟨RX0, TX0, rfl, kw_X0, by decide, W0_in (tp_1 (List.mem_of_getElem? (i := 238) (by decide +kernel))) rfl, rfl, rfl, ⟨tyX0, tyX0_ok⟩, nmX0⟩
theorem kfl_X2_139 : gFl RX2 139 0 15 (.array .int) true 18 := ⟨RX0, TX0, rfl, kw_X0, by decide, W0_in (tp_2 (List.mem_of_getElem? (i := 1) (by decide +kernel))) rfl, rfl, rfl, ⟨tyX0, tyX0_ok⟩, nmX0⟩
theorem kfl_X2_158 : gFl RX2 158 10 2 (.int) false 14 := ⟨RX10, TX10, rfl, kw_X10, by decide, W0_in (tp_7 (List.mem_of_getElem? (i := 187) (by decide +kernel))) rfl, rfl, rfl, ⟨tyX10, tyX10_ok⟩, nmX10⟩
theorem kfl_X2_161 : gFl RX2 161 0 6 (.int) false 18 := ⟨RX0, TX0, rfl, kw_X0, by decide, W0_in (tp_1 (List.mem_of_getElem? (i := 209) (by decide +kernel))) rfl, rfl, rfl, ⟨tyX0, tyX0_ok⟩, nmX0⟩
theorem kfl_X2_170 : gFl RX2 170 0 16 (.int) false 18 := ⟨RX0, TX0, rfl, kw_X0, by decide, W0_in (tp_2 (List.mem_of_getElem? (i := 5) (by decide +kernel))) rfl, rfl, rfl, ⟨tyX0, tyX0_ok⟩, nmX0⟩
theorem kfl_X2_173 : gFl RX2 173 0 17 (.array .int) true 18 := ⟨RX0, TX0, rfl, kw_X0, by decide, W0_in (tp_2 (List.mem_of_getElem? (i := 8) (by decide +kernel))) rfl, rfl, rfl, ⟨tyX0, tyX0_ok⟩, nmX0⟩
theorem kfl_X2_180 : gFl RX2 180 0 5 (.boolean) false 18 := ⟨RX0, TX0, rfl, kw_X0, by decide, W0_in (tp_1 (List.mem_of_getElem? (i := 204) (by decide +kernel))) rfl, rfl, rfl, ⟨tyX0, tyX0_ok⟩, nmX0⟩
theorem kfl_X2_183 : gFl RX2 183 5 11 (.array .int) true 15 := ⟨RX5, TX5, rfl, kw_X5, by decide, W0_in (tp_2 (List.mem_of_getElem? (i := 176) (by decide +kernel))) rfl, rfl, rfl, ⟨tyX5, tyX5_ok⟩, nmX5⟩
theorem kfl_X2_186 : gFl RX2 186 5 10 (.array .int) true 15 := ⟨RX5, TX5, rfl, kw_X5, by decide, W0_in (tp_2 (List.mem_of_getElem? (i := 173) (by decide +kernel))) rfl, rfl, rfl, ⟨tyX5, tyX5_ok⟩, nmX5⟩
theorem kfl_X2_189 : gFl RX2 189 0 10 (.int) false 18 := ⟨RX0, TX0, rfl, kw_X0, by decide, W0_in (tp_1 (List.mem_of_getElem? (i := 225) (by decide +kernel))) rfl, rfl, rfl, ⟨tyX0, tyX0_ok⟩, nmX0⟩
theorem kfl_X2_198 : gFl RX2 198 10 4 (.int) false 14 := ⟨RX10, TX10, rfl, kw_X10, by decide, W0_in (tp_7 (List.mem_of_getElem? (i := 192) (by decide +kernel))) rfl, rfl, rfl, ⟨tyX10, tyX10_ok⟩, nmX10⟩
theorem kfl_X2_214 : gFl RX2 214 10 7 (.array .int) true 14 := ⟨RX10, TX10, rfl, kw_X10, by decide, W0_in (tp_7 (List.mem_of_getElem? (i := 200) (by decide +kernel))) rfl, rfl, rfl, ⟨tyX10, tyX10_ok⟩, nmX10⟩
theorem kfl_X2_217 : gFl RX2 217 0 8 (.array .boolean) true 18 := ⟨RX0, TX0, rfl, kw_X0, by decide, W0_in (tp_1 (List.mem_of_getElem? (i := 215) (by decide +kernel))) rfl, rfl, rfl, ⟨tyX0, tyX0_ok⟩, nmX0⟩
theorem kfl_X3_11 : gFl RX3 11 3 0 (.array .int) true 13 := ⟨RX3, TX3, rfl, kw_X3, by decide, W0_in (tp_7 (List.mem_of_getElem? (i := 34) (by decide +kernel))) rfl, rfl, rfl, ⟨tyX3, tyX3_ok⟩, nmX3⟩
theorem kfl_X3_15 : gFl RX3 15 3 1 (.array .int) true 13 := ⟨RX3, TX3, rfl, kw_X3, by decide, W0_in (tp_7 (List.mem_of_getElem? (i := 35) (by decide +kernel))) rfl, rfl, rfl, ⟨tyX3, tyX3_ok⟩, nmX3⟩
theorem kfl_X3_18 : gFl RX3 18 3 2 (.array .int) true 13 := ⟨RX3, TX3, rfl, kw_X3, by decide, W0_in (tp_7 (List.mem_of_getElem? (i := 36) (by decide +kernel))) rfl, rfl, rfl, ⟨tyX3, tyX3_ok⟩, nmX3⟩
theorem kfl_X3_21 : gFl RX3 21 3 3 (.array .int) true 13 := ⟨RX3, TX3, rfl, kw_X3, by decide, W0_in (tp_7 (List.mem_of_getElem? (i := 37) (by decide +kernel))) rfl, rfl, rfl, ⟨tyX3, tyX3_ok⟩, nmX3⟩
theorem kfl_X3_24 : gFl RX3 24 3 4 (.array .int) true 13 := ⟨RX3, TX3, rfl, kw_X3, by decide, W0_in (tp_7 (List.mem_of_getElem? (i := 38) (by decide +kernel))) rfl, rfl, rfl, ⟨tyX3, tyX3_ok⟩, nmX3⟩
theorem kfl_X3_27 : gFl RX3 27 3 5 (.array .int) true 13 := ⟨RX3, TX3, rfl, kw_X3, by decide, W0_in (tp_7 (List.mem_of_getElem? (i := 39) (by decide +kernel))) rfl, rfl, rfl, ⟨tyX3, tyX3_ok⟩, nmX3⟩
theorem kfl_X3_32 : gFl RX3 32 3 8 (.array .int) true 13 := ⟨RX3, TX3, rfl, kw_X3, by decide, W0_in (tp_7 (List.mem_of_getElem? (i := 42) (by decide +kernel))) rfl, rfl, rfl, ⟨tyX3, tyX3_ok⟩, nmX3⟩
theorem kfl_X3_37 : gFl RX3 37 3 9 (.array (.array .int)) true 13 := ⟨RX3, TX3, rfl, kw_X3, by decide, W0_in (tp_7 (List.mem_of_getElem? (i := 43) (by decide +kernel))) rfl, rfl, rfl, ⟨tyX3, tyX3_ok⟩, nmX3⟩
theorem kfl_X3_40 : gFl RX3 40 3 6 (.int) false 13 := ⟨RX3, TX3, rfl, kw_X3, by decide, W0_in (tp_7 (List.mem_of_getElem? (i := 40) (by decide +kernel))) rfl, rfl, rfl, ⟨tyX3, tyX3_ok⟩, nmX3⟩
theorem kfl_X3_44 : gFl RX3 44 3 7 (.int) false 13 := ⟨RX3, TX3, rfl, kw_X3, by decide, W0_in (tp_7 (List.mem_of_getElem? (i := 41) (by decide +kernel))) rfl, rfl, rfl, ⟨tyX3, tyX3_ok⟩, nmX3⟩
theorem kfl_X3_53 : gFl RX3 53 4 3 (.int) false 18 := ⟨RX4, TX4, rfl, kw_X4, by decide, W0_in (tp_2 (List.mem_of_getElem? (i := 226) (by decide +kernel))) rfl, rfl, rfl, ⟨tyX4, tyX4_ok⟩, nmX4⟩
theorem kfl_X3_58 : gFl RX3 58 4 6 (.array .int) true 18 := ⟨RX4, TX4, rfl, kw_X4, by decide, W0_in (tp_2 (List.mem_of_getElem? (i := 234) (by decide +kernel))) rfl, rfl, rfl, ⟨tyX4, tyX4_ok⟩, nmX4⟩
theorem kfl_X3_61 : gFl RX3 61 4 10 (.array .boolean) true 18 := ⟨RX4, TX4, rfl, kw_X4, by decide, W0_in (tp_3 (List.mem_of_getElem? (i := 5) (by decide +kernel))) rfl, rfl, rfl, ⟨tyX4, tyX4_ok⟩, nmX4⟩
theorem kfl_X3_67 : gFl RX3 67 4 5 (.array .int) true 18 := ⟨RX4, TX4, rfl, kw_X4, by decide, W0_in (tp_2 (List.mem_of_getElem? (i := 231) (by decide +kernel))) rfl, rfl, rfl, ⟨tyX4, tyX4_ok⟩, nmX4⟩
theorem kfl_X3_70 : gFl RX3 70 4 7 (.array .int) true 18 := ⟨RX4, TX4, rfl, kw_X4, by decide, W0_in (tp_2 (List.mem_of_getElem? (i := 237) (by decide +kernel))) rfl, rfl, rfl, ⟨tyX4, tyX4_ok⟩, nmX4⟩
theorem kfl_X3_73 : gFl RX3 73 4 9 (.array .int) true 18 := ⟨RX4, TX4, rfl, kw_X4, by decide, W0_in (tp_3 (List.mem_of_getElem? (i := 2) (by decide +kernel))) rfl, rfl, rfl, ⟨tyX4, tyX4_ok⟩, nmX4⟩
theorem kfl_X3_85 : gFl RX3 85 3 10 (.int) false 13 := ⟨RX3, TX3, rfl, kw_X3, by decide, W0_in (tp_7 (List.mem_of_getElem? (i := 44) (by decide +kernel))) rfl, rfl, rfl, ⟨tyX3, tyX3_ok⟩, nmX3⟩
theorem kfl_X3_92 : gFl RX3 92 3 11 (.int) false 13 := ⟨RX3, TX3, rfl, kw_X3, by decide, W0_in (tp_7 (List.mem_of_getElem? (i := 45) (by decide +kernel))) rfl, rfl, rfl, ⟨tyX3, tyX3_ok⟩, nmX3⟩
theorem kfl_X3_95 : gFl RX3 95 3 12 (.int) false 13 := ⟨RX3, TX3, rfl, kw_X3, by decide, W0_in (tp_7 (List.mem_of_getElem? (i := 46) (by decide +kernel))) rfl, rfl, rfl, ⟨tyX3, tyX3_ok⟩, nmX3⟩
theorem kfl_X4_11 : gFl RX4 11 4 0 (.object "ScheduleHouse$Code") true 18 := ⟨RX4, TX4, rfl, kw_X4, by decide, W0_in (tp_2 (List.mem_of_getElem? (i := 220) (by decide +kernel))) rfl, rfl, rfl, ⟨tyX4, tyX4_ok⟩, nmX4⟩
theorem kfl_X4_17 : gFl RX4 17 4 1 (.array .int) true 18 := ⟨RX4, TX4, rfl, kw_X4, by decide, W0_in (tp_2 (List.mem_of_getElem? (i := 221) (by decide +kernel))) rfl, rfl, rfl, ⟨tyX4, tyX4_ok⟩, nmX4⟩
theorem kfl_X4_21 : gFl RX4 21 4 5 (.array .int) true 18 := ⟨RX4, TX4, rfl, kw_X4, by decide, W0_in (tp_2 (List.mem_of_getElem? (i := 230) (by decide +kernel))) rfl, rfl, rfl, ⟨tyX4, tyX4_ok⟩, nmX4⟩
theorem kfl_X4_24 : gFl RX4 24 4 6 (.array .int) true 18 := ⟨RX4, TX4, rfl, kw_X4, by decide, W0_in (tp_2 (List.mem_of_getElem? (i := 233) (by decide +kernel))) rfl, rfl, rfl, ⟨tyX4, tyX4_ok⟩, nmX4⟩
theorem kfl_X4_27 : gFl RX4 27 4 7 (.array .int) true 18 := ⟨RX4, TX4, rfl, kw_X4, by decide, W0_in (tp_2 (List.mem_of_getElem? (i := 236) (by decide +kernel))) rfl, rfl, rfl, ⟨tyX4, tyX4_ok⟩, nmX4⟩
theorem kfl_X4_30 : gFl RX4 30 4 8 (.array .int) true 18 := ⟨RX4, TX4, rfl, kw_X4, by decide, W0_in (tp_2 (List.mem_of_getElem? (i := 239) (by decide +kernel))) rfl, rfl, rfl, ⟨tyX4, tyX4_ok⟩, nmX4⟩
theorem kfl_X4_33 : gFl RX4 33 4 9 (.array .int) true 18 := ⟨RX4, TX4, rfl, kw_X4, by decide, W0_in (tp_3 (List.mem_of_getElem? (i := 1) (by decide +kernel))) rfl, rfl, rfl, ⟨tyX4, tyX4_ok⟩, nmX4⟩
theorem kfl_X4_36 : gFl RX4 36 4 10 (.array .boolean) true 18 := ⟨RX4, TX4, rfl, kw_X4, by decide, W0_in (tp_3 (List.mem_of_getElem? (i := 4) (by decide +kernel))) rfl, rfl, rfl, ⟨tyX4, tyX4_ok⟩, nmX4⟩
theorem kfl_X4_40 : gFl RX4 40 4 11 (.array .int) true 18 := ⟨RX4, TX4, rfl, kw_X4, by decide, W0_in (tp_3 (List.mem_of_getElem? (i := 6) (by decide +kernel))) rfl, rfl, rfl, ⟨tyX4, tyX4_ok⟩, nmX4⟩
theorem kfl_X4_43 : gFl RX4 43 4 12 (.array .int) true 18 := ⟨RX4, TX4, rfl, kw_X4, by decide, W0_in (tp_3 (List.mem_of_getElem? (i := 7) (by decide +kernel))) rfl, rfl, rfl, ⟨tyX4, tyX4_ok⟩, nmX4⟩
theorem kfl_X4_46 : gFl RX4 46 4 13 (.array .int) true 18 := ⟨RX4, TX4, rfl, kw_X4, by decide, W0_in (tp_3 (List.mem_of_getElem? (i := 8) (by decide +kernel))) rfl, rfl, rfl, ⟨tyX4, tyX4_ok⟩, nmX4⟩
theorem kfl_X4_49 : gFl RX4 49 4 14 (.array .int) true 18 := ⟨RX4, TX4, rfl, kw_X4, by decide, W0_in (tp_3 (List.mem_of_getElem? (i := 9) (by decide +kernel))) rfl, rfl, rfl, ⟨tyX4, tyX4_ok⟩, nmX4⟩
theorem kfl_X4_52 : gFl RX4 52 4 15 (.array .int) true 18 := ⟨RX4, TX4, rfl, kw_X4, by decide, W0_in (tp_3 (List.mem_of_getElem? (i := 10) (by decide +kernel))) rfl, rfl, rfl, ⟨tyX4, tyX4_ok⟩, nmX4⟩
theorem kfl_X4_55 : gFl RX4 55 4 16 (.array .int) true 18 := ⟨RX4, TX4, rfl, kw_X4, by decide, W0_in (tp_3 (List.mem_of_getElem? (i := 11) (by decide +kernel))) rfl, rfl, rfl, ⟨tyX4, tyX4_ok⟩, nmX4⟩
theorem kfl_X4_58 : gFl RX4 58 4 17 (.array .int) true 18 := ⟨RX4, TX4, rfl, kw_X4, by decide, W0_in (tp_3 (List.mem_of_getElem? (i := 12) (by decide +kernel))) rfl, rfl, rfl, ⟨tyX4, tyX4_ok⟩, nmX4⟩
theorem kfl_X4_61 : gFl RX4 61 4 2 (.int) false 18 := ⟨RX4, TX4, rfl, kw_X4, by decide, W0_in (tp_2 (List.mem_of_getElem? (i := 223) (by decide +kernel))) rfl, rfl, rfl, ⟨tyX4, tyX4_ok⟩, nmX4⟩
theorem kfl_X4_65 : gFl RX4 65 4 3 (.int) false 18 := ⟨RX4, TX4, rfl, kw_X4, by decide, W0_in (tp_2 (List.mem_of_getElem? (i := 225) (by decide +kernel))) rfl, rfl, rfl, ⟨tyX4, tyX4_ok⟩, nmX4⟩
theorem kfl_X4_68 : gFl RX4 68 4 4 (.int) false 18 := ⟨RX4, TX4, rfl, kw_X4, by decide, W0_in (tp_2 (List.mem_of_getElem? (i := 228) (by decide +kernel))) rfl, rfl, rfl, ⟨tyX4, tyX4_ok⟩, nmX4⟩
theorem kfl_X4_77 : gFl RX4 77 1 0 (.int) false 7 := ⟨RX1, TX1, rfl, kw_X1, by decide, W0_in (tp_2 (List.mem_of_getElem? (i := 123) (by decide +kernel))) rfl, rfl, rfl, ⟨tyX1, tyX1_ok⟩, nmX1⟩
theorem kfl_X4_81 : gFl RX4 81 1 1 (.int) false 7 := ⟨RX1, TX1, rfl, kw_X1, by decide, W0_in (tp_2 (List.mem_of_getElem? (i := 125) (by decide +kernel))) rfl, rfl, rfl, ⟨tyX1, tyX1_ok⟩, nmX1⟩
theorem kfl_X4_83 : gFl RX4 83 1 2 (.int) false 7 := ⟨RX1, TX1, rfl, kw_X1, by decide, W0_in (tp_2 (List.mem_of_getElem? (i := 127) (by decide +kernel))) rfl, rfl, rfl, ⟨tyX1, tyX1_ok⟩, nmX1⟩
theorem kfl_X4_85 : gFl RX4 85 1 3 (.int) false 7 := ⟨RX1, TX1, rfl, kw_X1, by decide, W0_in (tp_2 (List.mem_of_getElem? (i := 130) (by decide +kernel))) rfl, rfl, rfl, ⟨tyX1, tyX1_ok⟩, nmX1⟩
theorem kfl_X4_87 : gFl RX4 87 1 4 (.int) false 7 := ⟨RX1, TX1, rfl, kw_X1, by decide, W0_in (tp_2 (List.mem_of_getElem? (i := 133) (by decide +kernel))) rfl, rfl, rfl, ⟨tyX1, tyX1_ok⟩, nmX1⟩
theorem kfl_X4_89 : gFl RX4 89 1 5 (.boolean) false 7 := ⟨RX1, TX1, rfl, kw_X1, by decide, W0_in (tp_2 (List.mem_of_getElem? (i := 136) (by decide +kernel))) rfl, rfl, rfl, ⟨tyX1, tyX1_ok⟩, nmX1⟩
theorem kfl_X4_98 : gFl RX4 98 1 6 (.int) false 7 := ⟨RX1, TX1, rfl, kw_X1, by decide, W0_in (tp_2 (List.mem_of_getElem? (i := 139) (by decide +kernel))) rfl, rfl, rfl, ⟨tyX1, tyX1_ok⟩, nmX1⟩
theorem kfl_X4_116 : gFl RX4 116 0 8 (.array .boolean) true 18 := ⟨RX0, TX0, rfl, kw_X0, by decide, W0_in (tp_1 (List.mem_of_getElem? (i := 214) (by decide +kernel))) rfl, rfl, rfl, ⟨tyX0, tyX0_ok⟩, nmX0⟩
theorem kfl_X5_11 : gFl RX5 11 5 0 (.object "ScheduleHouse$Code") true 15 := ⟨RX5, TX5, rfl, kw_X5, by decide, W0_in (tp_2 (List.mem_of_getElem? (i := 156) (by decide +kernel))) rfl, rfl, rfl, ⟨tyX5, tyX5_ok⟩, nmX5⟩
theorem kfl_X5_15 : gFl RX5 15 0 0 (.object "ScheduleHouse$Steps") true 18 := ⟨RX0, TX0, rfl, kw_X0, by decide, W0_in (tp_1 (List.mem_of_getElem? (i := 193) (by decide +kernel))) rfl, rfl, rfl, ⟨tyX0, tyX0_ok⟩, nmX0⟩
theorem kfl_X5_21 : gFl RX5 21 5 1 (.object "ScheduleHouse$Steps") true 15 := ⟨RX5, TX5, rfl, kw_X5, by decide, W0_in (tp_2 (List.mem_of_getElem? (i := 157) (by decide +kernel))) rfl, rfl, rfl, ⟨tyX5, tyX5_ok⟩, nmX5⟩
theorem kfl_X5_25 : gFl RX5 25 5 2 (.object "ScheduleHouse$Deed") true 15 := ⟨RX5, TX5, rfl, kw_X5, by decide, W0_in (tp_2 (List.mem_of_getElem? (i := 158) (by decide +kernel))) rfl, rfl, rfl, ⟨tyX5, tyX5_ok⟩, nmX5⟩
theorem kfl_X5_29 : gFl RX5 29 5 4 (.array .int) true 15 := ⟨RX5, TX5, rfl, kw_X5, by decide, W0_in (tp_2 (List.mem_of_getElem? (i := 162) (by decide +kernel))) rfl, rfl, rfl, ⟨tyX5, tyX5_ok⟩, nmX5⟩
theorem kfl_X5_33 : gFl RX5 33 5 10 (.array .int) true 15 := ⟨RX5, TX5, rfl, kw_X5, by decide, W0_in (tp_2 (List.mem_of_getElem? (i := 171) (by decide +kernel))) rfl, rfl, rfl, ⟨tyX5, tyX5_ok⟩, nmX5⟩
theorem kfl_X5_36 : gFl RX5 36 5 11 (.array .int) true 15 := ⟨RX5, TX5, rfl, kw_X5, by decide, W0_in (tp_2 (List.mem_of_getElem? (i := 174) (by decide +kernel))) rfl, rfl, rfl, ⟨tyX5, tyX5_ok⟩, nmX5⟩
theorem kfl_X5_39 : gFl RX5 39 5 12 (.array .int) true 15 := ⟨RX5, TX5, rfl, kw_X5, by decide, W0_in (tp_2 (List.mem_of_getElem? (i := 177) (by decide +kernel))) rfl, rfl, rfl, ⟨tyX5, tyX5_ok⟩, nmX5⟩
theorem kfl_X5_42 : gFl RX5 42 5 3 (.int) false 15 := ⟨RX5, TX5, rfl, kw_X5, by decide, W0_in (tp_2 (List.mem_of_getElem? (i := 160) (by decide +kernel))) rfl, rfl, rfl, ⟨tyX5, tyX5_ok⟩, nmX5⟩
theorem kfl_X5_46 : gFl RX5 46 0 6 (.int) false 18 := ⟨RX0, TX0, rfl, kw_X0, by decide, W0_in (tp_1 (List.mem_of_getElem? (i := 206) (by decide +kernel))) rfl, rfl, rfl, ⟨tyX0, tyX0_ok⟩, nmX0⟩
theorem kfl_X5_49 : gFl RX5 49 5 6 (.int) false 15 := ⟨RX5, TX5, rfl, kw_X5, by decide, W0_in (tp_2 (List.mem_of_getElem? (i := 167) (by decide +kernel))) rfl, rfl, rfl, ⟨tyX5, tyX5_ok⟩, nmX5⟩
theorem kfl_X5_52 : gFl RX5 52 0 9 (.int) false 18 := ⟨RX0, TX0, rfl, kw_X0, by decide, W0_in (tp_1 (List.mem_of_getElem? (i := 219) (by decide +kernel))) rfl, rfl, rfl, ⟨tyX0, tyX0_ok⟩, nmX0⟩
theorem kfl_X5_55 : gFl RX5 55 5 7 (.int) false 15 := ⟨RX5, TX5, rfl, kw_X5, by decide, W0_in (tp_2 (List.mem_of_getElem? (i := 168) (by decide +kernel))) rfl, rfl, rfl, ⟨tyX5, tyX5_ok⟩, nmX5⟩
theorem kfl_X5_58 : gFl RX5 58 0 13 (.int) false 18 := ⟨RX0, TX0, rfl, kw_X0, by decide, W0_in (tp_1 (List.mem_of_getElem? (i := 234) (by decide +kernel))) rfl, rfl, rfl, ⟨tyX0, tyX0_ok⟩, nmX0⟩
theorem kfl_X5_61 : gFl RX5 61 5 9 (.int) false 15 := ⟨RX5, TX5, rfl, kw_X5, by decide, W0_in (tp_2 (List.mem_of_getElem? (i := 170) (by decide +kernel))) rfl, rfl, rfl, ⟨tyX5, tyX5_ok⟩, nmX5⟩
theorem kfl_X5_64 : gFl RX5 64 5 8 (.int) false 15 := ⟨RX5, TX5, rfl, kw_X5, by decide, W0_in (tp_2 (List.mem_of_getElem? (i := 169) (by decide +kernel))) rfl, rfl, rfl, ⟨tyX5, tyX5_ok⟩, nmX5⟩
theorem kfl_X5_67 : gFl RX5 67 0 10 (.int) false 18 := ⟨RX0, TX0, rfl, kw_X0, by decide, W0_in (tp_1 (List.mem_of_getElem? (i := 223) (by decide +kernel))) rfl, rfl, rfl, ⟨tyX0, tyX0_ok⟩, nmX0⟩
theorem kfl_X5_70 : gFl RX5 70 5 5 (.int) false 15 := ⟨RX5, TX5, rfl, kw_X5, by decide, W0_in (tp_2 (List.mem_of_getElem? (i := 165) (by decide +kernel))) rfl, rfl, rfl, ⟨tyX5, tyX5_ok⟩, nmX5⟩
theorem kfl_X5_79 : gFl RX5 79 0 7 (.array .int) true 18 := ⟨RX0, TX0, rfl, kw_X0, by decide, W0_in (tp_1 (List.mem_of_getElem? (i := 212) (by decide +kernel))) rfl, rfl, rfl, ⟨tyX0, tyX0_ok⟩, nmX0⟩
theorem kfl_X5_82 : gFl RX5 82 0 12 (.array .boolean) true 18 := ⟨RX0, TX0, rfl, kw_X0, by decide, W0_in (tp_1 (List.mem_of_getElem? (i := 231) (by decide +kernel))) rfl, rfl, rfl, ⟨tyX0, tyX0_ok⟩, nmX0⟩
theorem kfl_X5_98 : gFl RX5 98 5 13 (.int) false 15 := ⟨RX5, TX5, rfl, kw_X5, by decide, W0_in (tp_2 (List.mem_of_getElem? (i := 181) (by decide +kernel))) rfl, rfl, rfl, ⟨tyX5, tyX5_ok⟩, nmX5⟩
theorem kfl_X5_105 : gFl RX5 105 8 2 (.array .int) true 10 := ⟨RX8, TX8, rfl, kw_X8, by decide, W0_in (tp_1 (List.mem_of_getElem? (i := 150) (by decide +kernel))) rfl, rfl, rfl, ⟨tyX8, tyX8_ok⟩, nmX8⟩
theorem kfl_X5_110 : gFl RX5 110 8 1 (.array .int) true 10 := ⟨RX8, TX8, rfl, kw_X8, by decide, W0_in (tp_1 (List.mem_of_getElem? (i := 147) (by decide +kernel))) rfl, rfl, rfl, ⟨tyX8, tyX8_ok⟩, nmX8⟩
theorem kfl_X5_127 : gFl RX5 127 8 0 (.array .int) true 10 := ⟨RX8, TX8, rfl, kw_X8, by decide, W0_in (tp_1 (List.mem_of_getElem? (i := 144) (by decide +kernel))) rfl, rfl, rfl, ⟨tyX8, tyX8_ok⟩, nmX8⟩
theorem kfl_X5_136 : gFl RX5 136 8 4 (.array .int) true 10 := ⟨RX8, TX8, rfl, kw_X8, by decide, W0_in (tp_1 (List.mem_of_getElem? (i := 156) (by decide +kernel))) rfl, rfl, rfl, ⟨tyX8, tyX8_ok⟩, nmX8⟩
theorem kfl_X5_139 : gFl RX5 139 8 6 (.array .int) true 10 := ⟨RX8, TX8, rfl, kw_X8, by decide, W0_in (tp_1 (List.mem_of_getElem? (i := 161) (by decide +kernel))) rfl, rfl, rfl, ⟨tyX8, tyX8_ok⟩, nmX8⟩
theorem kfl_X5_149 : gFl RX5 149 0 5 (.boolean) false 18 := ⟨RX0, TX0, rfl, kw_X0, by decide, W0_in (tp_1 (List.mem_of_getElem? (i := 205) (by decide +kernel))) rfl, rfl, rfl, ⟨tyX0, tyX0_ok⟩, nmX0⟩
theorem kfl_X5_153 : gFl RX5 153 8 5 (.array .int) true 10 := ⟨RX8, TX8, rfl, kw_X8, by decide, W0_in (tp_1 (List.mem_of_getElem? (i := 158) (by decide +kernel))) rfl, rfl, rfl, ⟨tyX8, tyX8_ok⟩, nmX8⟩
theorem kfl_X5_154 : gFl RX5 154 5 14 (.int) false 15 := ⟨RX5, TX5, rfl, kw_X5, by decide, W0_in (tp_2 (List.mem_of_getElem? (i := 182) (by decide +kernel))) rfl, rfl, rfl, ⟨tyX5, tyX5_ok⟩, nmX5⟩
theorem kfl_X5_157 : gFl RX5 157 0 8 (.array .boolean) true 18 := ⟨RX0, TX0, rfl, kw_X0, by decide, W0_in (tp_1 (List.mem_of_getElem? (i := 216) (by decide +kernel))) rfl, rfl, rfl, ⟨tyX0, tyX0_ok⟩, nmX0⟩
theorem kfl_X5_160 : gFl RX5 160 8 7 (.array .int) true 10 := ⟨RX8, TX8, rfl, kw_X8, by decide, W0_in (tp_1 (List.mem_of_getElem? (i := 165) (by decide +kernel))) rfl, rfl, rfl, ⟨tyX8, tyX8_ok⟩, nmX8⟩
theorem kfl_X5_163 : gFl RX5 163 8 8 (.array .int) true 10 := ⟨RX8, TX8, rfl, kw_X8, by decide, W0_in (tp_1 (List.mem_of_getElem? (i := 167) (by decide +kernel))) rfl, rfl, rfl, ⟨tyX8, tyX8_ok⟩, nmX8⟩
theorem kfl_X5_182 : gFl RX5 182 8 3 (.array .int) true 10 := ⟨RX8, TX8, rfl, kw_X8, by decide, W0_in (tp_1 (List.mem_of_getElem? (i := 153) (by decide +kernel))) rfl, rfl, rfl, ⟨tyX8, tyX8_ok⟩, nmX8⟩
theorem kfl_X5_199 : gFl RX5 199 1 5 (.boolean) false 7 := ⟨RX1, TX1, rfl, kw_X1, by decide, W0_in (tp_2 (List.mem_of_getElem? (i := 137) (by decide +kernel))) rfl, rfl, rfl, ⟨tyX1, tyX1_ok⟩, nmX1⟩
theorem kfl_X5_238 : gFl RX5 238 1 2 (.int) false 7 := ⟨RX1, TX1, rfl, kw_X1, by decide, W0_in (tp_2 (List.mem_of_getElem? (i := 128) (by decide +kernel))) rfl, rfl, rfl, ⟨tyX1, tyX1_ok⟩, nmX1⟩
theorem kfl_X5_243 : gFl RX5 243 1 3 (.int) false 7 := ⟨RX1, TX1, rfl, kw_X1, by decide, W0_in (tp_2 (List.mem_of_getElem? (i := 131) (by decide +kernel))) rfl, rfl, rfl, ⟨tyX1, tyX1_ok⟩, nmX1⟩
theorem kfl_X5_252 : gFl RX5 252 1 4 (.int) false 7 := ⟨RX1, TX1, rfl, kw_X1, by decide, W0_in (tp_2 (List.mem_of_getElem? (i := 134) (by decide +kernel))) rfl, rfl, rfl, ⟨tyX1, tyX1_ok⟩, nmX1⟩
theorem kfl_X5_255 : gFl RX5 255 1 6 (.int) false 7 := ⟨RX1, TX1, rfl, kw_X1, by decide, W0_in (tp_2 (List.mem_of_getElem? (i := 140) (by decide +kernel))) rfl, rfl, rfl, ⟨tyX1, tyX1_ok⟩, nmX1⟩
theorem kfl_X5_258 : gFl RX5 258 0 11 (.array .int) true 18 := ⟨RX0, TX0, rfl, kw_X0, by decide, W0_in (tp_1 (List.mem_of_getElem? (i := 229) (by decide +kernel))) rfl, rfl, rfl, ⟨tyX0, tyX0_ok⟩, nmX0⟩
theorem kfl_X6_9 : gFl RX6 9 6 0 (.object "ScheduleHouse$Tokens") true 12 := ⟨RX6, TX6, rfl, kw_X6, by decide, W0_in (tp_1 (List.mem_of_getElem? (i := 89) (by decide +kernel))) rfl, rfl, rfl, ⟨tyX6, tyX6_ok⟩, nmX6⟩
theorem kfl_X6_17 : gFl RX6 17 6 1 (.array .int) true 12 := ⟨RX6, TX6, rfl, kw_X6, by decide, W0_in (tp_1 (List.mem_of_getElem? (i := 90) (by decide +kernel))) rfl, rfl, rfl, ⟨tyX6, tyX6_ok⟩, nmX6⟩
theorem kfl_X6_21 : gFl RX6 21 6 2 (.array .int) true 12 := ⟨RX6, TX6, rfl, kw_X6, by decide, W0_in (tp_1 (List.mem_of_getElem? (i := 92) (by decide +kernel))) rfl, rfl, rfl, ⟨tyX6, tyX6_ok⟩, nmX6⟩
theorem kfl_X6_24 : gFl RX6 24 6 3 (.array .int) true 12 := ⟨RX6, TX6, rfl, kw_X6, by decide, W0_in (tp_1 (List.mem_of_getElem? (i := 94) (by decide +kernel))) rfl, rfl, rfl, ⟨tyX6, tyX6_ok⟩, nmX6⟩
theorem kfl_X6_27 : gFl RX6 27 6 4 (.array .int) true 12 := ⟨RX6, TX6, rfl, kw_X6, by decide, W0_in (tp_1 (List.mem_of_getElem? (i := 95) (by decide +kernel))) rfl, rfl, rfl, ⟨tyX6, tyX6_ok⟩, nmX6⟩
theorem kfl_X6_30 : gFl RX6 30 6 5 (.array .int) true 12 := ⟨RX6, TX6, rfl, kw_X6, by decide, W0_in (tp_1 (List.mem_of_getElem? (i := 97) (by decide +kernel))) rfl, rfl, rfl, ⟨tyX6, tyX6_ok⟩, nmX6⟩
theorem kfl_X6_33 : gFl RX6 33 6 7 (.array .int) true 12 := ⟨RX6, TX6, rfl, kw_X6, by decide, W0_in (tp_1 (List.mem_of_getElem? (i := 100) (by decide +kernel))) rfl, rfl, rfl, ⟨tyX6, tyX6_ok⟩, nmX6⟩
theorem kfl_X6_36 : gFl RX6 36 6 9 (.array .int) true 12 := ⟨RX6, TX6, rfl, kw_X6, by decide, W0_in (tp_1 (List.mem_of_getElem? (i := 102) (by decide +kernel))) rfl, rfl, rfl, ⟨tyX6, tyX6_ok⟩, nmX6⟩
theorem kfl_X6_39 : gFl RX6 39 6 6 (.int) false 12 := ⟨RX6, TX6, rfl, kw_X6, by decide, W0_in (tp_1 (List.mem_of_getElem? (i := 99) (by decide +kernel))) rfl, rfl, rfl, ⟨tyX6, tyX6_ok⟩, nmX6⟩
theorem kfl_X6_43 : gFl RX6 43 6 8 (.int) false 12 := ⟨RX6, TX6, rfl, kw_X6, by decide, W0_in (tp_1 (List.mem_of_getElem? (i := 101) (by decide +kernel))) rfl, rfl, rfl, ⟨tyX6, tyX6_ok⟩, nmX6⟩
theorem kfl_X6_46 : gFl RX6 46 6 10 (.int) false 12 := ⟨RX6, TX6, rfl, kw_X6, by decide, W0_in (tp_1 (List.mem_of_getElem? (i := 103) (by decide +kernel))) rfl, rfl, rfl, ⟨tyX6, tyX6_ok⟩, nmX6⟩
theorem kfl_X6_55 : gFl RX6 55 9 7 (.int) false 10 := ⟨RX9, TX9, rfl, kw_X9, by decide, W0_in (tp_1 (List.mem_of_getElem? (i := 57) (by decide +kernel))) rfl, rfl, rfl, ⟨tyX9, tyX9_ok⟩, nmX9⟩
theorem kfl_X6_62 : gFl RX6 62 6 11 (.int) false 12 := ⟨RX6, TX6, rfl, kw_X6, by decide, W0_in (tp_1 (List.mem_of_getElem? (i := 105) (by decide +kernel))) rfl, rfl, rfl, ⟨tyX6, tyX6_ok⟩, nmX6⟩
theorem kfl_X6_73 : gFl RX6 73 9 6 (.array .int) true 10 := ⟨RX9, TX9, rfl, kw_X9, by decide, W0_in (tp_1 (List.mem_of_getElem? (i := 54) (by decide +kernel))) rfl, rfl, rfl, ⟨tyX9, tyX9_ok⟩, nmX9⟩
theorem kfl_X7_11 : gFl RX7 11 7 0 (.object "ScheduleHouse$Tokens") true 18 := ⟨RX7, TX7, rfl, kw_X7, by decide, W0_in (tp_2 (List.mem_of_getElem? (i := 54) (by decide +kernel))) rfl, rfl, rfl, ⟨tyX7, tyX7_ok⟩, nmX7⟩
theorem kfl_X7_15 : gFl RX7 15 7 1 (.object "ScheduleHouse$Names") true 18 := ⟨RX7, TX7, rfl, kw_X7, by decide, W0_in (tp_2 (List.mem_of_getElem? (i := 55) (by decide +kernel))) rfl, rfl, rfl, ⟨tyX7, tyX7_ok⟩, nmX7⟩
theorem kfl_X7_19 : gFl RX7 19 7 2 (.object "ScheduleHouse$Code") true 18 := ⟨RX7, TX7, rfl, kw_X7, by decide, W0_in (tp_2 (List.mem_of_getElem? (i := 56) (by decide +kernel))) rfl, rfl, rfl, ⟨tyX7, tyX7_ok⟩, nmX7⟩
theorem kfl_X7_23 : gFl RX7 23 0 0 (.object "ScheduleHouse$Steps") true 18 := ⟨RX0, TX0, rfl, kw_X0, by decide, W0_in (tp_1 (List.mem_of_getElem? (i := 195) (by decide +kernel))) rfl, rfl, rfl, ⟨tyX0, tyX0_ok⟩, nmX0⟩
theorem kfl_X7_29 : gFl RX7 29 7 3 (.object "ScheduleHouse$Steps") true 18 := ⟨RX7, TX7, rfl, kw_X7, by decide, W0_in (tp_2 (List.mem_of_getElem? (i := 57) (by decide +kernel))) rfl, rfl, rfl, ⟨tyX7, tyX7_ok⟩, nmX7⟩
theorem kfl_X7_30 : gFl RX7 30 7 8 (.array .int) true 18 := ⟨RX7, TX7, rfl, kw_X7, by decide, W0_in (tp_2 (List.mem_of_getElem? (i := 63) (by decide +kernel))) rfl, rfl, rfl, ⟨tyX7, tyX7_ok⟩, nmX7⟩
theorem kfl_X7_34 : gFl RX7 34 7 10 (.array .int) true 18 := ⟨RX7, TX7, rfl, kw_X7, by decide, W0_in (tp_2 (List.mem_of_getElem? (i := 65) (by decide +kernel))) rfl, rfl, rfl, ⟨tyX7, tyX7_ok⟩, nmX7⟩
theorem kfl_X7_37 : gFl RX7 37 7 11 (.array .int) true 18 := ⟨RX7, TX7, rfl, kw_X7, by decide, W0_in (tp_2 (List.mem_of_getElem? (i := 66) (by decide +kernel))) rfl, rfl, rfl, ⟨tyX7, tyX7_ok⟩, nmX7⟩
theorem kfl_X7_40 : gFl RX7 40 7 12 (.array .int) true 18 := ⟨RX7, TX7, rfl, kw_X7, by decide, W0_in (tp_2 (List.mem_of_getElem? (i := 67) (by decide +kernel))) rfl, rfl, rfl, ⟨tyX7, tyX7_ok⟩, nmX7⟩
theorem kfl_X7_43 : gFl RX7 43 7 14 (.array .int) true 18 := ⟨RX7, TX7, rfl, kw_X7, by decide, W0_in (tp_2 (List.mem_of_getElem? (i := 69) (by decide +kernel))) rfl, rfl, rfl, ⟨tyX7, tyX7_ok⟩, nmX7⟩
theorem kfl_X7_46 : gFl RX7 46 7 15 (.array .int) true 18 := ⟨RX7, TX7, rfl, kw_X7, by decide, W0_in (tp_2 (List.mem_of_getElem? (i := 70) (by decide +kernel))) rfl, rfl, rfl, ⟨tyX7, tyX7_ok⟩, nmX7⟩
theorem kfl_X7_49 : gFl RX7 49 7 16 (.array .int) true 18 := ⟨RX7, TX7, rfl, kw_X7, by decide, W0_in (tp_2 (List.mem_of_getElem? (i := 71) (by decide +kernel))) rfl, rfl, rfl, ⟨tyX7, tyX7_ok⟩, nmX7⟩
theorem kfl_X7_52 : gFl RX7 52 7 4 (.int) false 18 := ⟨RX7, TX7, rfl, kw_X7, by decide, W0_in (tp_2 (List.mem_of_getElem? (i := 58) (by decide +kernel))) rfl, rfl, rfl, ⟨tyX7, tyX7_ok⟩, nmX7⟩
theorem kfl_X7_62 : gFl RX7 62 7 6 (.int) false 18 := ⟨RX7, TX7, rfl, kw_X7, by decide, W0_in (tp_2 (List.mem_of_getElem? (i := 60) (by decide +kernel))) rfl, rfl, rfl, ⟨tyX7, tyX7_ok⟩, nmX7⟩
theorem kfl_X7_65 : gFl RX7 65 7 5 (.boolean) false 18 := ⟨RX7, TX7, rfl, kw_X7, by decide, W0_in (tp_2 (List.mem_of_getElem? (i := 59) (by decide +kernel))) rfl, rfl, rfl, ⟨tyX7, tyX7_ok⟩, nmX7⟩
theorem kfl_X7_100 : gFl RX7 100 9 2 (.array .int) true 10 := ⟨RX9, TX9, rfl, kw_X9, by decide, W0_in (tp_1 (List.mem_of_getElem? (i := 46) (by decide +kernel))) rfl, rfl, rfl, ⟨tyX9, tyX9_ok⟩, nmX9⟩
theorem kfl_X7_109 : gFl RX7 109 6 1 (.array .int) true 12 := ⟨RX6, TX6, rfl, kw_X6, by decide, W0_in (tp_1 (List.mem_of_getElem? (i := 91) (by decide +kernel))) rfl, rfl, rfl, ⟨tyX6, tyX6_ok⟩, nmX6⟩
theorem kfl_X7_127 : gFl RX7 127 0 6 (.int) false 18 := ⟨RX0, TX0, rfl, kw_X0, by decide, W0_in (tp_1 (List.mem_of_getElem? (i := 210) (by decide +kernel))) rfl, rfl, rfl, ⟨tyX0, tyX0_ok⟩, nmX0⟩
theorem kfl_X7_147 : gFl RX7 147 9 6 (.array .int) true 10 := ⟨RX9, TX9, rfl, kw_X9, by decide, W0_in (tp_1 (List.mem_of_getElem? (i := 55) (by decide +kernel))) rfl, rfl, rfl, ⟨tyX9, tyX9_ok⟩, nmX9⟩
theorem kfl_X7_154 : gFl RX7 154 0 9 (.int) false 18 := ⟨RX0, TX0, rfl, kw_X0, by decide, W0_in (tp_1 (List.mem_of_getElem? (i := 221) (by decide +kernel))) rfl, rfl, rfl, ⟨tyX0, tyX0_ok⟩, nmX0⟩
theorem kfl_X7_160 : gFl RX7 160 0 10 (.int) false 18 := ⟨RX0, TX0, rfl, kw_X0, by decide, W0_in (tp_1 (List.mem_of_getElem? (i := 226) (by decide +kernel))) rfl, rfl, rfl, ⟨tyX0, tyX0_ok⟩, nmX0⟩
theorem kfl_X7_166 : gFl RX7 166 0 12 (.array .boolean) true 18 := ⟨RX0, TX0, rfl, kw_X0, by decide, W0_in (tp_1 (List.mem_of_getElem? (i := 232) (by decide +kernel))) rfl, rfl, rfl, ⟨tyX0, tyX0_ok⟩, nmX0⟩
theorem kfl_X7_170 : gFl RX7 170 0 11 (.array .int) true 18 := ⟨RX0, TX0, rfl, kw_X0, by decide, W0_in (tp_1 (List.mem_of_getElem? (i := 228) (by decide +kernel))) rfl, rfl, rfl, ⟨tyX0, tyX0_ok⟩, nmX0⟩
theorem kfl_X7_173 : gFl RX7 173 8 9 (.int) false 10 := ⟨RX8, TX8, rfl, kw_X8, by decide, W0_in (tp_1 (List.mem_of_getElem? (i := 171) (by decide +kernel))) rfl, rfl, rfl, ⟨tyX8, tyX8_ok⟩, nmX8⟩
theorem kfl_X7_178 : gFl RX7 178 7 7 (.int) false 18 := ⟨RX7, TX7, rfl, kw_X7, by decide, W0_in (tp_2 (List.mem_of_getElem? (i := 62) (by decide +kernel))) rfl, rfl, rfl, ⟨tyX7, tyX7_ok⟩, nmX7⟩
theorem kfl_X7_181 : gFl RX7 181 7 9 (.int) false 18 := ⟨RX7, TX7, rfl, kw_X7, by decide, W0_in (tp_2 (List.mem_of_getElem? (i := 64) (by decide +kernel))) rfl, rfl, rfl, ⟨tyX7, tyX7_ok⟩, nmX7⟩
theorem kfl_X7_184 : gFl RX7 184 7 13 (.int) false 18 := ⟨RX7, TX7, rfl, kw_X7, by decide, W0_in (tp_2 (List.mem_of_getElem? (i := 68) (by decide +kernel))) rfl, rfl, rfl, ⟨tyX7, tyX7_ok⟩, nmX7⟩
theorem kfl_X7_195 : gFl RX7 195 0 14 (.int) false 18 := ⟨RX0, TX0, rfl, kw_X0, by decide, W0_in (tp_1 (List.mem_of_getElem? (i := 239) (by decide +kernel))) rfl, rfl, rfl, ⟨tyX0, tyX0_ok⟩, nmX0⟩
theorem kfl_X7_198 : gFl RX7 198 0 16 (.int) false 18 := ⟨RX0, TX0, rfl, kw_X0, by decide, W0_in (tp_2 (List.mem_of_getElem? (i := 6) (by decide +kernel))) rfl, rfl, rfl, ⟨tyX0, tyX0_ok⟩, nmX0⟩
theorem kfl_X7_205 : gFl RX7 205 0 15 (.array .int) true 18 := ⟨RX0, TX0, rfl, kw_X0, by decide, W0_in (tp_2 (List.mem_of_getElem? (i := 2) (by decide +kernel))) rfl, rfl, rfl, ⟨tyX0, tyX0_ok⟩, nmX0⟩
theorem kfl_X7_208 : gFl RX7 208 0 17 (.array .int) true 18 := ⟨RX0, TX0, rfl, kw_X0, by decide, W0_in (tp_2 (List.mem_of_getElem? (i := 9) (by decide +kernel))) rfl, rfl, rfl, ⟨tyX0, tyX0_ok⟩, nmX0⟩
theorem kfl_X7_214 : gFl RX7 214 8 3 (.array .int) true 10 := ⟨RX8, TX8, rfl, kw_X8, by decide, W0_in (tp_1 (List.mem_of_getElem? (i := 152) (by decide +kernel))) rfl, rfl, rfl, ⟨tyX8, tyX8_ok⟩, nmX8⟩
theorem kfl_X7_217 : gFl RX7 217 8 1 (.array .int) true 10 := ⟨RX8, TX8, rfl, kw_X8, by decide, W0_in (tp_1 (List.mem_of_getElem? (i := 148) (by decide +kernel))) rfl, rfl, rfl, ⟨tyX8, tyX8_ok⟩, nmX8⟩
theorem kfl_X7_220 : gFl RX7 220 8 4 (.array .int) true 10 := ⟨RX8, TX8, rfl, kw_X8, by decide, W0_in (tp_1 (List.mem_of_getElem? (i := 155) (by decide +kernel))) rfl, rfl, rfl, ⟨tyX8, tyX8_ok⟩, nmX8⟩
theorem kfl_X7_232 : gFl RX7 232 9 4 (.array .int) true 10 := ⟨RX9, TX9, rfl, kw_X9, by decide, W0_in (tp_1 (List.mem_of_getElem? (i := 51) (by decide +kernel))) rfl, rfl, rfl, ⟨tyX9, tyX9_ok⟩, nmX9⟩
theorem kfl_X7_233 : gFl RX7 233 8 7 (.array .int) true 10 := ⟨RX8, TX8, rfl, kw_X8, by decide, W0_in (tp_1 (List.mem_of_getElem? (i := 164) (by decide +kernel))) rfl, rfl, rfl, ⟨tyX8, tyX8_ok⟩, nmX8⟩
theorem kfl_X7_254 : gFl RX7 254 6 2 (.array .int) true 12 := ⟨RX6, TX6, rfl, kw_X6, by decide, W0_in (tp_1 (List.mem_of_getElem? (i := 93) (by decide +kernel))) rfl, rfl, rfl, ⟨tyX6, tyX6_ok⟩, nmX6⟩
theorem kfl_X7_269 : gFl RX7 269 0 13 (.int) false 18 := ⟨RX0, TX0, rfl, kw_X0, by decide, W0_in (tp_1 (List.mem_of_getElem? (i := 235) (by decide +kernel))) rfl, rfl, rfl, ⟨tyX0, tyX0_ok⟩, nmX0⟩
theorem kfl_X7_276 : gFl RX7 276 8 6 (.array .int) true 10 := ⟨RX8, TX8, rfl, kw_X8, by decide, W0_in (tp_1 (List.mem_of_getElem? (i := 162) (by decide +kernel))) rfl, rfl, rfl, ⟨tyX8, tyX8_ok⟩, nmX8⟩
theorem kfl_X7_286 : gFl RX7 286 8 8 (.array .int) true 10 := ⟨RX8, TX8, rfl, kw_X8, by decide, W0_in (tp_1 (List.mem_of_getElem? (i := 168) (by decide +kernel))) rfl, rfl, rfl, ⟨tyX8, tyX8_ok⟩, nmX8⟩
theorem kfl_X7_289 : gFl RX7 289 0 3 (.int) false 18 := ⟨RX0, TX0, rfl, kw_X0, by decide, W0_in (tp_1 (List.mem_of_getElem? (i := 201) (by decide +kernel))) rfl, rfl, rfl, ⟨tyX0, tyX0_ok⟩, nmX0⟩
theorem kfl_X7_292 : gFl RX7 292 7 17 (.int) false 18 := ⟨RX7, TX7, rfl, kw_X7, by decide, W0_in (tp_2 (List.mem_of_getElem? (i := 72) (by decide +kernel))) rfl, rfl, rfl, ⟨tyX7, tyX7_ok⟩, nmX7⟩
theorem kfl_X7_322 : gFl RX7 322 8 0 (.array .int) true 10 := ⟨RX8, TX8, rfl, kw_X8, by decide, W0_in (tp_1 (List.mem_of_getElem? (i := 145) (by decide +kernel))) rfl, rfl, rfl, ⟨tyX8, tyX8_ok⟩, nmX8⟩
theorem kfl_X7_325 : gFl RX7 325 6 4 (.array .int) true 12 := ⟨RX6, TX6, rfl, kw_X6, by decide, W0_in (tp_1 (List.mem_of_getElem? (i := 96) (by decide +kernel))) rfl, rfl, rfl, ⟨tyX6, tyX6_ok⟩, nmX6⟩
theorem kfl_X7_328 : gFl RX7 328 8 5 (.array .int) true 10 := ⟨RX8, TX8, rfl, kw_X8, by decide, W0_in (tp_1 (List.mem_of_getElem? (i := 159) (by decide +kernel))) rfl, rfl, rfl, ⟨tyX8, tyX8_ok⟩, nmX8⟩
theorem kfl_X7_331 : gFl RX7 331 6 5 (.array .int) true 12 := ⟨RX6, TX6, rfl, kw_X6, by decide, W0_in (tp_1 (List.mem_of_getElem? (i := 98) (by decide +kernel))) rfl, rfl, rfl, ⟨tyX6, tyX6_ok⟩, nmX6⟩
theorem kfl_X7_334 : gFl RX7 334 0 2 (.array .int) true 18 := ⟨RX0, TX0, rfl, kw_X0, by decide, W0_in (tp_1 (List.mem_of_getElem? (i := 199) (by decide +kernel))) rfl, rfl, rfl, ⟨tyX0, tyX0_ok⟩, nmX0⟩
theorem kfl_X7_337 : gFl RX7 337 0 1 (.array .int) true 18 := ⟨RX0, TX0, rfl, kw_X0, by decide, W0_in (tp_1 (List.mem_of_getElem? (i := 197) (by decide +kernel))) rfl, rfl, rfl, ⟨tyX0, tyX0_ok⟩, nmX0⟩
theorem kfl_X8_9 : gFl RX8 9 8 0 (.array .int) true 10 := ⟨RX8, TX8, rfl, kw_X8, by decide, W0_in (tp_1 (List.mem_of_getElem? (i := 143) (by decide +kernel))) rfl, rfl, rfl, ⟨tyX8, tyX8_ok⟩, nmX8⟩
theorem kfl_X8_15 : gFl RX8 15 8 1 (.array .int) true 10 := ⟨RX8, TX8, rfl, kw_X8, by decide, W0_in (tp_1 (List.mem_of_getElem? (i := 146) (by decide +kernel))) rfl, rfl, rfl, ⟨tyX8, tyX8_ok⟩, nmX8⟩
theorem kfl_X8_18 : gFl RX8 18 8 2 (.array .int) true 10 := ⟨RX8, TX8, rfl, kw_X8, by decide, W0_in (tp_1 (List.mem_of_getElem? (i := 149) (by decide +kernel))) rfl, rfl, rfl, ⟨tyX8, tyX8_ok⟩, nmX8⟩
theorem kfl_X8_21 : gFl RX8 21 8 3 (.array .int) true 10 := ⟨RX8, TX8, rfl, kw_X8, by decide, W0_in (tp_1 (List.mem_of_getElem? (i := 151) (by decide +kernel))) rfl, rfl, rfl, ⟨tyX8, tyX8_ok⟩, nmX8⟩
theorem kfl_X8_24 : gFl RX8 24 8 4 (.array .int) true 10 := ⟨RX8, TX8, rfl, kw_X8, by decide, W0_in (tp_1 (List.mem_of_getElem? (i := 154) (by decide +kernel))) rfl, rfl, rfl, ⟨tyX8, tyX8_ok⟩, nmX8⟩
theorem kfl_X8_27 : gFl RX8 27 8 5 (.array .int) true 10 := ⟨RX8, TX8, rfl, kw_X8, by decide, W0_in (tp_1 (List.mem_of_getElem? (i := 157) (by decide +kernel))) rfl, rfl, rfl, ⟨tyX8, tyX8_ok⟩, nmX8⟩
theorem kfl_X8_30 : gFl RX8 30 8 6 (.array .int) true 10 := ⟨RX8, TX8, rfl, kw_X8, by decide, W0_in (tp_1 (List.mem_of_getElem? (i := 160) (by decide +kernel))) rfl, rfl, rfl, ⟨tyX8, tyX8_ok⟩, nmX8⟩
theorem kfl_X8_33 : gFl RX8 33 8 7 (.array .int) true 10 := ⟨RX8, TX8, rfl, kw_X8, by decide, W0_in (tp_1 (List.mem_of_getElem? (i := 163) (by decide +kernel))) rfl, rfl, rfl, ⟨tyX8, tyX8_ok⟩, nmX8⟩
theorem kfl_X8_36 : gFl RX8 36 8 8 (.array .int) true 10 := ⟨RX8, TX8, rfl, kw_X8, by decide, W0_in (tp_1 (List.mem_of_getElem? (i := 166) (by decide +kernel))) rfl, rfl, rfl, ⟨tyX8, tyX8_ok⟩, nmX8⟩
theorem kfl_X8_39 : gFl RX8 39 8 9 (.int) false 10 := ⟨RX8, TX8, rfl, kw_X8, by decide, W0_in (tp_1 (List.mem_of_getElem? (i := 169) (by decide +kernel))) rfl, rfl, rfl, ⟨tyX8, tyX8_ok⟩, nmX8⟩
theorem kfl_X9_9 : gFl RX9 9 9 0 (.array .byte) true 10 := ⟨RX9, TX9, rfl, kw_X9, by decide, W0_in (tp_1 (List.mem_of_getElem? (i := 42) (by decide +kernel))) rfl, rfl, rfl, ⟨tyX9, tyX9_ok⟩, nmX9⟩
theorem kfl_X9_15 : gFl RX9 15 9 2 (.array .int) true 10 := ⟨RX9, TX9, rfl, kw_X9, by decide, W0_in (tp_1 (List.mem_of_getElem? (i := 45) (by decide +kernel))) rfl, rfl, rfl, ⟨tyX9, tyX9_ok⟩, nmX9⟩
theorem kfl_X9_19 : gFl RX9 19 9 3 (.array .int) true 10 := ⟨RX9, TX9, rfl, kw_X9, by decide, W0_in (tp_1 (List.mem_of_getElem? (i := 47) (by decide +kernel))) rfl, rfl, rfl, ⟨tyX9, tyX9_ok⟩, nmX9⟩
theorem kfl_X9_22 : gFl RX9 22 9 4 (.array .int) true 10 := ⟨RX9, TX9, rfl, kw_X9, by decide, W0_in (tp_1 (List.mem_of_getElem? (i := 49) (by decide +kernel))) rfl, rfl, rfl, ⟨tyX9, tyX9_ok⟩, nmX9⟩
theorem kfl_X9_25 : gFl RX9 25 9 5 (.array .int) true 10 := ⟨RX9, TX9, rfl, kw_X9, by decide, W0_in (tp_1 (List.mem_of_getElem? (i := 52) (by decide +kernel))) rfl, rfl, rfl, ⟨tyX9, tyX9_ok⟩, nmX9⟩
theorem kfl_X9_28 : gFl RX9 28 9 6 (.array .int) true 10 := ⟨RX9, TX9, rfl, kw_X9, by decide, W0_in (tp_1 (List.mem_of_getElem? (i := 53) (by decide +kernel))) rfl, rfl, rfl, ⟨tyX9, tyX9_ok⟩, nmX9⟩
theorem kfl_X9_31 : gFl RX9 31 9 1 (.int) false 10 := ⟨RX9, TX9, rfl, kw_X9, by decide, W0_in (tp_1 (List.mem_of_getElem? (i := 43) (by decide +kernel))) rfl, rfl, rfl, ⟨tyX9, tyX9_ok⟩, nmX9⟩
theorem kfl_X9_35 : gFl RX9 35 9 8 (.int) false 10 := ⟨RX9, TX9, rfl, kw_X9, by decide, W0_in (tp_1 (List.mem_of_getElem? (i := 58) (by decide +kernel))) rfl, rfl, rfl, ⟨tyX9, tyX9_ok⟩, nmX9⟩
theorem kfl_X9_38 : gFl RX9 38 9 9 (.int) false 10 := ⟨RX9, TX9, rfl, kw_X9, by decide, W0_in (tp_1 (List.mem_of_getElem? (i := 59) (by decide +kernel))) rfl, rfl, rfl, ⟨tyX9, tyX9_ok⟩, nmX9⟩
theorem kfl_X9_41 : gFl RX9 41 9 7 (.int) false 10 := ⟨RX9, TX9, rfl, kw_X9, by decide, W0_in (tp_1 (List.mem_of_getElem? (i := 56) (by decide +kernel))) rfl, rfl, rfl, ⟨tyX9, tyX9_ok⟩, nmX9⟩
theorem kfl_X10_11 : gFl RX10 11 10 6 (.array .int) true 14 := ⟨RX10, TX10, rfl, kw_X10, by decide, W0_in (tp_7 (List.mem_of_getElem? (i := 197) (by decide +kernel))) rfl, rfl, rfl, ⟨tyX10, tyX10_ok⟩, nmX10⟩
theorem kfl_X10_17 : gFl RX10 17 10 7 (.array .int) true 14 := ⟨RX10, TX10, rfl, kw_X10, by decide, W0_in (tp_7 (List.mem_of_getElem? (i := 199) (by decide +kernel))) rfl, rfl, rfl, ⟨tyX10, tyX10_ok⟩, nmX10⟩
theorem kfl_X10_20 : gFl RX10 20 10 8 (.array .int) true 14 := ⟨RX10, TX10, rfl, kw_X10, by decide, W0_in (tp_7 (List.mem_of_getElem? (i := 202) (by decide +kernel))) rfl, rfl, rfl, ⟨tyX10, tyX10_ok⟩, nmX10⟩
theorem kfl_X10_23 : gFl RX10 23 10 9 (.array .int) true 14 := ⟨RX10, TX10, rfl, kw_X10, by decide, W0_in (tp_7 (List.mem_of_getElem? (i := 203) (by decide +kernel))) rfl, rfl, rfl, ⟨tyX10, tyX10_ok⟩, nmX10⟩
theorem kfl_X10_26 : gFl RX10 26 10 10 (.array .int) true 14 := ⟨RX10, TX10, rfl, kw_X10, by decide, W0_in (tp_7 (List.mem_of_getElem? (i := 204) (by decide +kernel))) rfl, rfl, rfl, ⟨tyX10, tyX10_ok⟩, nmX10⟩
theorem kfl_X10_29 : gFl RX10 29 10 11 (.array .int) true 14 := ⟨RX10, TX10, rfl, kw_X10, by decide, W0_in (tp_7 (List.mem_of_getElem? (i := 205) (by decide +kernel))) rfl, rfl, rfl, ⟨tyX10, tyX10_ok⟩, nmX10⟩
theorem kfl_X10_33 : gFl RX10 33 10 12 (.array (.array .int)) true 14 := ⟨RX10, TX10, rfl, kw_X10, by decide, W0_in (tp_7 (List.mem_of_getElem? (i := 207) (by decide +kernel))) rfl, rfl, rfl, ⟨tyX10, tyX10_ok⟩, nmX10⟩
theorem kfl_X10_37 : gFl RX10 37 10 13 (.array .int) true 14 := ⟨RX10, TX10, rfl, kw_X10, by decide, W0_in (tp_7 (List.mem_of_getElem? (i := 208) (by decide +kernel))) rfl, rfl, rfl, ⟨tyX10, tyX10_ok⟩, nmX10⟩
theorem kfl_X10_40 : gFl RX10 40 10 0 (.int) false 14 := ⟨RX10, TX10, rfl, kw_X10, by decide, W0_in (tp_7 (List.mem_of_getElem? (i := 180) (by decide +kernel))) rfl, rfl, rfl, ⟨tyX10, tyX10_ok⟩, nmX10⟩
theorem kfl_X10_44 : gFl RX10 44 10 1 (.boolean) false 14 := ⟨RX10, TX10, rfl, kw_X10, by decide, W0_in (tp_7 (List.mem_of_getElem? (i := 183) (by decide +kernel))) rfl, rfl, rfl, ⟨tyX10, tyX10_ok⟩, nmX10⟩
theorem kfl_X10_48 : gFl RX10 48 10 2 (.int) false 14 := ⟨RX10, TX10, rfl, kw_X10, by decide, W0_in (tp_7 (List.mem_of_getElem? (i := 186) (by decide +kernel))) rfl, rfl, rfl, ⟨tyX10, tyX10_ok⟩, nmX10⟩
theorem kfl_X10_51 : gFl RX10 51 10 3 (.int) false 14 := ⟨RX10, TX10, rfl, kw_X10, by decide, W0_in (tp_7 (List.mem_of_getElem? (i := 189) (by decide +kernel))) rfl, rfl, rfl, ⟨tyX10, tyX10_ok⟩, nmX10⟩
theorem kfl_X10_54 : gFl RX10 54 10 4 (.int) false 14 := ⟨RX10, TX10, rfl, kw_X10, by decide, W0_in (tp_7 (List.mem_of_getElem? (i := 191) (by decide +kernel))) rfl, rfl, rfl, ⟨tyX10, tyX10_ok⟩, nmX10⟩
theorem kfl_X10_57 : gFl RX10 57 10 5 (.int) false 14 := ⟨RX10, TX10, rfl, kw_X10, by decide, W0_in (tp_7 (List.mem_of_getElem? (i := 194) (by decide +kernel))) rfl, rfl, rfl, ⟨tyX10, tyX10_ok⟩, nmX10⟩
theorem kfl_X11_10 : gFl RX11 10 11 0 (.object "ScheduleHouse$Tokens") true 13 := ⟨RX11, TX11, rfl, kw_X11, by decide, W0_in (tp_3 (List.mem_of_getElem? (i := 52) (by decide +kernel))) rfl, rfl, rfl, ⟨tyX11, tyX11_ok⟩, nmX11⟩
theorem kfl_X11_21 : gFl RX11 21 11 1 (.object "ScheduleHouse$Names") true 13 := ⟨RX11, TX11, rfl, kw_X11, by decide, W0_in (tp_3 (List.mem_of_getElem? (i := 53) (by decide +kernel))) rfl, rfl, rfl, ⟨tyX11, tyX11_ok⟩, nmX11⟩
theorem kfl_X11_28 : gFl RX11 28 11 2 (.object "ScheduleHouse$Code") true 13 := ⟨RX11, TX11, rfl, kw_X11, by decide, W0_in (tp_3 (List.mem_of_getElem? (i := 54) (by decide +kernel))) rfl, rfl, rfl, ⟨tyX11, tyX11_ok⟩, nmX11⟩
theorem kfl_X11_37 : gFl RX11 37 11 3 (.object "ScheduleHouse$Reader") true 13 := ⟨RX11, TX11, rfl, kw_X11, by decide, W0_in (tp_3 (List.mem_of_getElem? (i := 55) (by decide +kernel))) rfl, rfl, rfl, ⟨tyX11, tyX11_ok⟩, nmX11⟩
theorem kfl_X11_46 : gFl RX11 46 11 4 (.object "ScheduleHouse$Machine") true 13 := ⟨RX11, TX11, rfl, kw_X11, by decide, W0_in (tp_3 (List.mem_of_getElem? (i := 56) (by decide +kernel))) rfl, rfl, rfl, ⟨tyX11, tyX11_ok⟩, nmX11⟩
theorem kfl_X11_53 : gFl RX11 53 11 5 (.object "ScheduleHouse$Journal") true 13 := ⟨RX11, TX11, rfl, kw_X11, by decide, W0_in (tp_3 (List.mem_of_getElem? (i := 57) (by decide +kernel))) rfl, rfl, rfl, ⟨tyX11, tyX11_ok⟩, nmX11⟩
theorem kfl_X11_59 : gFl RX11 59 11 6 (.array (.object "ScheduleHouse$Trial")) true 13 := ⟨RX11, TX11, rfl, kw_X11, by decide, W0_in (tp_3 (List.mem_of_getElem? (i := 58) (by decide +kernel))) rfl, rfl, rfl, ⟨tyX11, tyX11_ok⟩, nmX11⟩
theorem kfl_X11_63 : gFl RX11 63 11 11 (.int) false 13 := ⟨RX11, TX11, rfl, kw_X11, by decide, W0_in (tp_3 (List.mem_of_getElem? (i := 63) (by decide +kernel))) rfl, rfl, rfl, ⟨tyX11, tyX11_ok⟩, nmX11⟩
theorem kfl_X11_67 : gFl RX11 67 11 12 (.int) false 13 := ⟨RX11, TX11, rfl, kw_X11, by decide, W0_in (tp_3 (List.mem_of_getElem? (i := 64) (by decide +kernel))) rfl, rfl, rfl, ⟨tyX11, tyX11_ok⟩, nmX11⟩
theorem kfl_X11_77 : gFl RX11 77 9 1 (.int) false 10 := ⟨RX9, TX9, rfl, kw_X9, by decide, W0_in (tp_1 (List.mem_of_getElem? (i := 44) (by decide +kernel))) rfl, rfl, rfl, ⟨tyX9, tyX9_ok⟩, nmX9⟩
theorem kfl_X11_99 : gFl RX11 99 6 11 (.int) false 12 := ⟨RX6, TX6, rfl, kw_X6, by decide, W0_in (tp_1 (List.mem_of_getElem? (i := 104) (by decide +kernel))) rfl, rfl, rfl, ⟨tyX6, tyX6_ok⟩, nmX6⟩
theorem kfl_X11_104 : gFl RX11 104 7 6 (.int) false 18 := ⟨RX7, TX7, rfl, kw_X7, by decide, W0_in (tp_2 (List.mem_of_getElem? (i := 61) (by decide +kernel))) rfl, rfl, rfl, ⟨tyX7, tyX7_ok⟩, nmX7⟩
theorem kfl_X11_110 : gFl RX11 110 11 9 (.boolean) false 13 := ⟨RX11, TX11, rfl, kw_X11, by decide, W0_in (tp_3 (List.mem_of_getElem? (i := 61) (by decide +kernel))) rfl, rfl, rfl, ⟨tyX11, tyX11_ok⟩, nmX11⟩
theorem kfl_X11_114 : gFl RX11 114 9 3 (.array .int) true 10 := ⟨RX9, TX9, rfl, kw_X9, by decide, W0_in (tp_1 (List.mem_of_getElem? (i := 48) (by decide +kernel))) rfl, rfl, rfl, ⟨tyX9, tyX9_ok⟩, nmX9⟩
theorem kfl_X11_118 : gFl RX11 118 9 4 (.array .int) true 10 := ⟨RX9, TX9, rfl, kw_X9, by decide, W0_in (tp_1 (List.mem_of_getElem? (i := 50) (by decide +kernel))) rfl, rfl, rfl, ⟨tyX9, tyX9_ok⟩, nmX9⟩
theorem kfl_X11_124 : gFl RX11 124 0 10 (.int) false 18 := ⟨RX0, TX0, rfl, kw_X0, by decide, W0_in (tp_1 (List.mem_of_getElem? (i := 224) (by decide +kernel))) rfl, rfl, rfl, ⟨tyX0, tyX0_ok⟩, nmX0⟩
theorem kfl_X11_136 : gFl RX11 136 0 6 (.int) false 18 := ⟨RX0, TX0, rfl, kw_X0, by decide, W0_in (tp_1 (List.mem_of_getElem? (i := 208) (by decide +kernel))) rfl, rfl, rfl, ⟨tyX0, tyX0_ok⟩, nmX0⟩
theorem kfl_X11_139 : gFl RX11 139 0 9 (.int) false 18 := ⟨RX0, TX0, rfl, kw_X0, by decide, W0_in (tp_1 (List.mem_of_getElem? (i := 220) (by decide +kernel))) rfl, rfl, rfl, ⟨tyX0, tyX0_ok⟩, nmX0⟩
theorem kfl_X11_142 : gFl RX11 142 0 14 (.int) false 18 := ⟨RX0, TX0, rfl, kw_X0, by decide, W0_in (tp_1 (List.mem_of_getElem? (i := 237) (by decide +kernel))) rfl, rfl, rfl, ⟨tyX0, tyX0_ok⟩, nmX0⟩
theorem kfl_X11_145 : gFl RX11 145 0 16 (.int) false 18 := ⟨RX0, TX0, rfl, kw_X0, by decide, W0_in (tp_2 (List.mem_of_getElem? (i := 4) (by decide +kernel))) rfl, rfl, rfl, ⟨tyX0, tyX0_ok⟩, nmX0⟩
theorem kfl_X11_157 : gFl RX11 157 5 13 (.int) false 15 := ⟨RX5, TX5, rfl, kw_X5, by decide, W0_in (tp_2 (List.mem_of_getElem? (i := 180) (by decide +kernel))) rfl, rfl, rfl, ⟨tyX5, tyX5_ok⟩, nmX5⟩
theorem kfl_X11_166 : gFl RX11 166 5 10 (.array .int) true 15 := ⟨RX5, TX5, rfl, kw_X5, by decide, W0_in (tp_2 (List.mem_of_getElem? (i := 172) (by decide +kernel))) rfl, rfl, rfl, ⟨tyX5, tyX5_ok⟩, nmX5⟩
theorem kfl_X11_169 : gFl RX11 169 5 11 (.array .int) true 15 := ⟨RX5, TX5, rfl, kw_X5, by decide, W0_in (tp_2 (List.mem_of_getElem? (i := 175) (by decide +kernel))) rfl, rfl, rfl, ⟨tyX5, tyX5_ok⟩, nmX5⟩
theorem kfl_X11_183 : gFl RX11 183 5 12 (.array .int) true 15 := ⟨RX5, TX5, rfl, kw_X5, by decide, W0_in (tp_2 (List.mem_of_getElem? (i := 178) (by decide +kernel))) rfl, rfl, rfl, ⟨tyX5, tyX5_ok⟩, nmX5⟩
theorem kfl_X11_186 : gFl RX11 186 4 2 (.int) false 18 := ⟨RX4, TX4, rfl, kw_X4, by decide, W0_in (tp_2 (List.mem_of_getElem? (i := 224) (by decide +kernel))) rfl, rfl, rfl, ⟨tyX4, tyX4_ok⟩, nmX4⟩
theorem kfl_X11_200 : gFl RX11 200 5 3 (.int) false 15 := ⟨RX5, TX5, rfl, kw_X5, by decide, W0_in (tp_2 (List.mem_of_getElem? (i := 161) (by decide +kernel))) rfl, rfl, rfl, ⟨tyX5, tyX5_ok⟩, nmX5⟩
theorem kfl_X11_203 : gFl RX11 203 4 1 (.array .int) true 18 := ⟨RX4, TX4, rfl, kw_X4, by decide, W0_in (tp_2 (List.mem_of_getElem? (i := 222) (by decide +kernel))) rfl, rfl, rfl, ⟨tyX4, tyX4_ok⟩, nmX4⟩
theorem kfl_X11_206 : gFl RX11 206 4 3 (.int) false 18 := ⟨RX4, TX4, rfl, kw_X4, by decide, W0_in (tp_2 (List.mem_of_getElem? (i := 227) (by decide +kernel))) rfl, rfl, rfl, ⟨tyX4, tyX4_ok⟩, nmX4⟩
theorem kfl_X11_216 : gFl RX11 216 4 4 (.int) false 18 := ⟨RX4, TX4, rfl, kw_X4, by decide, W0_in (tp_2 (List.mem_of_getElem? (i := 229) (by decide +kernel))) rfl, rfl, rfl, ⟨tyX4, tyX4_ok⟩, nmX4⟩
theorem kfl_X11_222 : gFl RX11 222 5 4 (.array .int) true 15 := ⟨RX5, TX5, rfl, kw_X5, by decide, W0_in (tp_2 (List.mem_of_getElem? (i := 164) (by decide +kernel))) rfl, rfl, rfl, ⟨tyX5, tyX5_ok⟩, nmX5⟩
theorem kfl_X11_251 : gFl RX11 251 4 5 (.array .int) true 18 := ⟨RX4, TX4, rfl, kw_X4, by decide, W0_in (tp_2 (List.mem_of_getElem? (i := 232) (by decide +kernel))) rfl, rfl, rfl, ⟨tyX4, tyX4_ok⟩, nmX4⟩
theorem kfl_X11_254 : gFl RX11 254 4 6 (.array .int) true 18 := ⟨RX4, TX4, rfl, kw_X4, by decide, W0_in (tp_2 (List.mem_of_getElem? (i := 235) (by decide +kernel))) rfl, rfl, rfl, ⟨tyX4, tyX4_ok⟩, nmX4⟩
theorem kfl_X11_257 : gFl RX11 257 4 7 (.array .int) true 18 := ⟨RX4, TX4, rfl, kw_X4, by decide, W0_in (tp_2 (List.mem_of_getElem? (i := 238) (by decide +kernel))) rfl, rfl, rfl, ⟨tyX4, tyX4_ok⟩, nmX4⟩
theorem kfl_X11_260 : gFl RX11 260 4 8 (.array .int) true 18 := ⟨RX4, TX4, rfl, kw_X4, by decide, W0_in (tp_3 (List.mem_of_getElem? (i := 0) (by decide +kernel))) rfl, rfl, rfl, ⟨tyX4, tyX4_ok⟩, nmX4⟩
theorem kfl_X11_263 : gFl RX11 263 4 9 (.array .int) true 18 := ⟨RX4, TX4, rfl, kw_X4, by decide, W0_in (tp_3 (List.mem_of_getElem? (i := 3) (by decide +kernel))) rfl, rfl, rfl, ⟨tyX4, tyX4_ok⟩, nmX4⟩
theorem kfl_X11_280 : gFl RX11 280 11 8 (.object "ScheduleHouse$History") false 13 := ⟨RX11, TX11, rfl, kw_X11, by decide, W0_in (tp_3 (List.mem_of_getElem? (i := 60) (by decide +kernel))) rfl, rfl, rfl, ⟨tyX11, tyX11_ok⟩, nmX11⟩
theorem kfl_X11_294 : gFl RX11 294 11 7 (.object "ScheduleHouse$Explorer") false 13 := ⟨RX11, TX11, rfl, kw_X11, by decide, W0_in (tp_3 (List.mem_of_getElem? (i := 59) (by decide +kernel))) rfl, rfl, rfl, ⟨tyX11, tyX11_ok⟩, nmX11⟩
theorem kfl_X11_306 : gFl RX11 306 10 0 (.int) false 14 := ⟨RX10, TX10, rfl, kw_X10, by decide, W0_in (tp_7 (List.mem_of_getElem? (i := 182) (by decide +kernel))) rfl, rfl, rfl, ⟨tyX10, tyX10_ok⟩, nmX10⟩
theorem kfl_X11_313 : gFl RX11 313 10 1 (.boolean) false 14 := ⟨RX10, TX10, rfl, kw_X10, by decide, W0_in (tp_7 (List.mem_of_getElem? (i := 185) (by decide +kernel))) rfl, rfl, rfl, ⟨tyX10, tyX10_ok⟩, nmX10⟩
theorem kfl_X11_316 : gFl RX11 316 10 2 (.int) false 14 := ⟨RX10, TX10, rfl, kw_X10, by decide, W0_in (tp_7 (List.mem_of_getElem? (i := 188) (by decide +kernel))) rfl, rfl, rfl, ⟨tyX10, tyX10_ok⟩, nmX10⟩
theorem kfl_X11_319 : gFl RX11 319 10 3 (.int) false 14 := ⟨RX10, TX10, rfl, kw_X10, by decide, W0_in (tp_7 (List.mem_of_getElem? (i := 190) (by decide +kernel))) rfl, rfl, rfl, ⟨tyX10, tyX10_ok⟩, nmX10⟩
theorem kfl_X11_322 : gFl RX11 322 10 4 (.int) false 14 := ⟨RX10, TX10, rfl, kw_X10, by decide, W0_in (tp_7 (List.mem_of_getElem? (i := 193) (by decide +kernel))) rfl, rfl, rfl, ⟨tyX10, tyX10_ok⟩, nmX10⟩
theorem kfl_X11_325 : gFl RX11 325 10 5 (.int) false 14 := ⟨RX10, TX10, rfl, kw_X10, by decide, W0_in (tp_7 (List.mem_of_getElem? (i := 196) (by decide +kernel))) rfl, rfl, rfl, ⟨tyX10, tyX10_ok⟩, nmX10⟩
theorem kfl_X11_337 : gFl RX11 337 10 11 (.array .int) true 14 := ⟨RX10, TX10, rfl, kw_X10, by decide, W0_in (tp_7 (List.mem_of_getElem? (i := 206) (by decide +kernel))) rfl, rfl, rfl, ⟨tyX10, tyX10_ok⟩, nmX10⟩
theorem kfl_X11_348 : gFl RX11 348 10 7 (.array .int) true 14 := ⟨RX10, TX10, rfl, kw_X10, by decide, W0_in (tp_7 (List.mem_of_getElem? (i := 201) (by decide +kernel))) rfl, rfl, rfl, ⟨tyX10, tyX10_ok⟩, nmX10⟩
theorem kfl_X11_358 : gFl RX11 358 11 10 (.boolean) false 13 := ⟨RX11, TX11, rfl, kw_X11, by decide, W0_in (tp_3 (List.mem_of_getElem? (i := 62) (by decide +kernel))) rfl, rfl, rfl, ⟨tyX11, tyX11_ok⟩, nmX11⟩
theorem kfl_X11_373 : gFl RX11 373 5 2 (.object "ScheduleHouse$Deed") true 15 := ⟨RX5, TX5, rfl, kw_X5, by decide, W0_in (tp_2 (List.mem_of_getElem? (i := 159) (by decide +kernel))) rfl, rfl, rfl, ⟨tyX5, tyX5_ok⟩, nmX5⟩
theorem kfl_X11_381 : gFl RX11 381 10 6 (.array .int) true 14 := ⟨RX10, TX10, rfl, kw_X10, by decide, W0_in (tp_7 (List.mem_of_getElem? (i := 198) (by decide +kernel))) rfl, rfl, rfl, ⟨tyX10, tyX10_ok⟩, nmX10⟩
end
section
abbrev zk_X0_clear : gy := (yX0_clear, cX0_clear, 1, none, [])
set_option maxRecDepth 100000 in
theorem kca_X0_clear : tables_1_3[205]? = some (Cond.code yX0_clear cX0_clear 1 none) := rfl
theorem kcw_X0_clear : Cond.code yX0_clear cX0_clear 1 none ∈ W0 := W0_in (tp_3 (List.mem_of_getElem? kca_X0_clear)) rfl
abbrev zk_X0_addCells : gy := (yX0_addCells, cX0_addCells, 5, none, [])
set_option maxRecDepth 100000 in
theorem kca_X0_addCells : tables_1_4[86]? = some (Cond.code yX0_addCells cX0_addCells 5 none) := rfl
theorem kcw_X0_addCells : Cond.code yX0_addCells cX0_addCells 5 none ∈ W0 := W0_in (tp_4 (List.mem_of_getElem? kca_X0_addCells)) rfl
abbrev zk_X0_addPart : gy := (yX0_addPart, cX0_addPart, 3, none, [])
set_option maxRecDepth 100000 in
theorem kca_X0_addPart : tables_1_4[142]? = some (Cond.code yX0_addPart cX0_addPart 3 none) := rfl
theorem kcw_X0_addPart : Cond.code yX0_addPart cX0_addPart 3 none ∈ W0 := W0_in (tp_4 (List.mem_of_getElem? kca_X0_addPart)) rfl
abbrev zk_X0_work : gy := (yX0_work, cX0_work, 9, (some .int), [])
set_option maxRecDepth 100000 in
theorem kca_X0_work : tables_1_5[163]? = some (Cond.code yX0_work cX0_work 9 (some .int)) := rfl
theorem kcw_X0_work : Cond.code yX0_work cX0_work 9 (some .int) ∈ W0 := W0_in (tp_5 (List.mem_of_getElem? kca_X0_work)) rfl
abbrev zk_X0_operate : gy := (yX0_operate, cX0_operate, 4, (some .int), [])
set_option maxRecDepth 100000 in
theorem kca_X0_operate : tables_1_5[167]? = some (Cond.code yX0_operate cX0_operate 4 (some .int)) := rfl
theorem kcw_X0_operate : Cond.code yX0_operate cX0_operate 4 (some .int) ∈ W0 := W0_in (tp_5 (List.mem_of_getElem? kca_X0_operate)) rfl
abbrev zk_X1_clear : gy := (yX1_clear, cX1_clear, 4, none, [])
set_option maxRecDepth 100000 in
theorem kca_X1_clear : tables_1_6[37]? = some (Cond.code yX1_clear cX1_clear 4 none) := rfl
theorem kcw_X1_clear : Cond.code yX1_clear cX1_clear 4 none ∈ W0 := W0_in (tp_6 (List.mem_of_getElem? kca_X1_clear)) rfl
abbrev zk_X2_explore : gy := (yX2_explore, cX2_explore, 6, none, [])
set_option maxRecDepth 100000 in
theorem kca_X2_explore : tables_1_8[1]? = some (Cond.code yX2_explore cX2_explore 6 none) := rfl
theorem kcw_X2_explore : Cond.code yX2_explore cX2_explore 6 none ∈ W0 := W0_in (tp_8 (List.mem_of_getElem? kca_X2_explore)) rfl
abbrev zk_X2_addState : gy := (yX2_addState, cX2_addState, 4, none, [])
set_option maxRecDepth 100000 in
theorem kca_X2_addState : tables_1_8[12]? = some (Cond.code yX2_addState cX2_addState 4 none) := rfl
theorem kcw_X2_addState : Cond.code yX2_addState cX2_addState 4 none ∈ W0 := W0_in (tp_8 (List.mem_of_getElem? kca_X2_addState)) rfl
abbrev zk_X2_recall : gy := (yX2_recall, cX2_recall, 2, none, [])
set_option maxRecDepth 100000 in
theorem kca_X2_recall : tables_1_8[50]? = some (Cond.code yX2_recall cX2_recall 2 none) := rfl
theorem kcw_X2_recall : Cond.code yX2_recall cX2_recall 2 none ∈ W0 := W0_in (tp_8 (List.mem_of_getElem? kca_X2_recall)) rfl
abbrev zk_X2_isKept : gy := (yX2_isKept, cX2_isKept, 3, (some .boolean), [])
set_option maxRecDepth 100000 in
theorem kca_X2_isKept : tables_1_8[16]? = some (Cond.code yX2_isKept cX2_isKept 3 (some .boolean)) := rfl
theorem kcw_X2_isKept : Cond.code yX2_isKept cX2_isKept 3 (some .boolean) ∈ W0 := W0_in (tp_8 (List.mem_of_getElem? kca_X2_isKept)) rfl
abbrev zk_X2_keep : gy := (yX2_keep, cX2_keep, 4, none, [])
set_option maxRecDepth 100000 in
theorem kca_X2_keep : tables_1_8[41]? = some (Cond.code yX2_keep cX2_keep 4 none) := rfl
theorem kcw_X2_keep : Cond.code yX2_keep cX2_keep 4 none ∈ W0 := W0_in (tp_8 (List.mem_of_getElem? kca_X2_keep)) rfl
abbrev zk_X2_inspect : gy := (yX2_inspect, cX2_inspect, 3, none, [])
set_option maxRecDepth 100000 in
theorem kca_X2_inspect : tables_1_8[78]? = some (Cond.code yX2_inspect cX2_inspect 3 none) := rfl
theorem kcw_X2_inspect : Cond.code yX2_inspect cX2_inspect 3 none ∈ W0 := W0_in (tp_8 (List.mem_of_getElem? kca_X2_inspect)) rfl
abbrev zk_X2_inspectEnd : gy := (yX2_inspectEnd, cX2_inspectEnd, 3, none, [])
set_option maxRecDepth 100000 in
theorem kca_X2_inspectEnd : tables_1_8[91]? = some (Cond.code yX2_inspectEnd cX2_inspectEnd 3 none) := rfl
theorem kcw_X2_inspectEnd : Cond.code yX2_inspectEnd cX2_inspectEnd 3 none ∈ W0 := W0_in (tp_8 (List.mem_of_getElem? kca_X2_inspectEnd)) rfl
abbrev zk_X2_isFalse : gy := (yX2_isFalse, cX2_isFalse, 2, (some .boolean), [])
set_option maxRecDepth 100000 in
theorem kca_X2_isFalse : tables_1_8[82]? = some (Cond.code yX2_isFalse cX2_isFalse 2 (some .boolean)) := rfl
theorem kcw_X2_isFalse : Cond.code yX2_isFalse cX2_isFalse 2 (some .boolean) ∈ W0 := W0_in (tp_8 (List.mem_of_getElem? kca_X2_isFalse)) rfl
abbrev zk_X2_inspectActs : gy := (yX2_inspectActs, cX2_inspectActs, 4, none, [])
set_option maxRecDepth 100000 in
theorem kca_X2_inspectActs : tables_1_8[55]? = some (Cond.code yX2_inspectActs cX2_inspectActs 4 none) := rfl
theorem kcw_X2_inspectActs : Cond.code yX2_inspectActs cX2_inspectActs 4 none ∈ W0 := W0_in (tp_8 (List.mem_of_getElem? kca_X2_inspectActs)) rfl
abbrev zk_X2_inspectAct : gy := (yX2_inspectAct, cX2_inspectAct, 4, none, [])
set_option maxRecDepth 100000 in
theorem kca_X2_inspectAct : tables_1_8[59]? = some (Cond.code yX2_inspectAct cX2_inspectAct 4 none) := rfl
theorem kcw_X2_inspectAct : Cond.code yX2_inspectAct cX2_inspectAct 4 none ∈ W0 := W0_in (tp_8 (List.mem_of_getElem? kca_X2_inspectAct)) rfl
abbrev zk_X2_isRacing : gy := (yX2_isRacing, cX2_isRacing, 3, (some .boolean), [])
set_option maxRecDepth 100000 in
theorem kca_X2_isRacing : tables_1_8[109]? = some (Cond.code yX2_isRacing cX2_isRacing 3 (some .boolean)) := rfl
theorem kcw_X2_isRacing : Cond.code yX2_isRacing cX2_isRacing 3 (some .boolean) ∈ W0 := W0_in (tp_8 (List.mem_of_getElem? kca_X2_isRacing)) rfl
abbrev zk_X3_take : gy := (yX3_take, cX3_take, 4, none, [])
set_option maxRecDepth 100000 in
theorem kca_X3_take : tables_1_7[77]? = some (Cond.code yX3_take cX3_take 4 none) := rfl
theorem kcw_X3_take : Cond.code yX3_take cX3_take 4 none ∈ W0 := W0_in (tp_7 (List.mem_of_getElem? kca_X3_take)) rfl
abbrev zk_X3_beginCall : gy := (yX3_beginCall, cX3_beginCall, 5, none, [])
set_option maxRecDepth 100000 in
theorem kca_X3_beginCall : tables_1_7[82]? = some (Cond.code yX3_beginCall cX3_beginCall 5 none) := rfl
theorem kcw_X3_beginCall : Cond.code yX3_beginCall cX3_beginCall 5 none ∈ W0 := W0_in (tp_7 (List.mem_of_getElem? kca_X3_beginCall)) rfl
abbrev zk_X3_endCall : gy := (yX3_endCall, cX3_endCall, 3, none, [])
set_option maxRecDepth 100000 in
theorem kca_X3_endCall : tables_1_7[87]? = some (Cond.code yX3_endCall cX3_endCall 3 none) := rfl
theorem kcw_X3_endCall : Cond.code yX3_endCall cX3_endCall 3 none ∈ W0 := W0_in (tp_7 (List.mem_of_getElem? kca_X3_endCall)) rfl
abbrev zk_X3_fewestThatFail : gy := (yX3_fewestThatFail, cX3_fewestThatFail, 6, (some .int), [])
set_option maxRecDepth 100000 in
theorem kca_X3_fewestThatFail : tables_1_7[91]? = some (Cond.code yX3_fewestThatFail cX3_fewestThatFail 6 (some .int)) := rfl
theorem kcw_X3_fewestThatFail : Cond.code yX3_fewestThatFail cX3_fewestThatFail 6 (some .int) ∈ W0 := W0_in (tp_7 (List.mem_of_getElem? kca_X3_fewestThatFail)) rfl
abbrev zk_X3_isLinear : gy := (yX3_isLinear, cX3_isLinear, 3, (some .boolean), [])
set_option maxRecDepth 100000 in
theorem kca_X3_isLinear : tables_1_7[95]? = some (Cond.code yX3_isLinear cX3_isLinear 3 (some .boolean)) := rfl
theorem kcw_X3_isLinear : Cond.code yX3_isLinear cX3_isLinear 3 (some .boolean) ∈ W0 := W0_in (tp_7 (List.mem_of_getElem? kca_X3_isLinear)) rfl
abbrev zk_X3_canGoOn : gy := (yX3_canGoOn, cX3_canGoOn, 8, (some .boolean), [])
set_option maxRecDepth 100000 in
theorem kca_X3_canGoOn : tables_1_7[99]? = some (Cond.code yX3_canGoOn cX3_canGoOn 8 (some .boolean)) := rfl
theorem kcw_X3_canGoOn : Cond.code yX3_canGoOn cX3_canGoOn 8 (some .boolean) ∈ W0 := W0_in (tp_7 (List.mem_of_getElem? kca_X3_canGoOn)) rfl
abbrev zk_X3_serve : gy := (yX3_serve, cX3_serve, 4, (some .int), [])
set_option maxRecDepth 100000 in
theorem kca_X3_serve : tables_1_7[106]? = some (Cond.code yX3_serve cX3_serve 4 (some .int)) := rfl
theorem kcw_X3_serve : Cond.code yX3_serve cX3_serve 4 (some .int) ∈ W0 := W0_in (tp_7 (List.mem_of_getElem? kca_X3_serve)) rfl
abbrev zk_X3_serveCell : gy := (yX3_serveCell, cX3_serveCell, 4, (some .int), [])
set_option maxRecDepth 100000 in
theorem kca_X3_serveCell : tables_1_7[109]? = some (Cond.code yX3_serveCell cX3_serveCell 4 (some .int)) := rfl
theorem kcw_X3_serveCell : Cond.code yX3_serveCell cX3_serveCell 4 (some .int) ∈ W0 := W0_in (tp_7 (List.mem_of_getElem? kca_X3_serveCell)) rfl
abbrev zk_X3_serveRow : gy := (yX3_serveRow, cX3_serveRow, 5, (some .int), [])
set_option maxRecDepth 100000 in
theorem kca_X3_serveRow : tables_1_7[125]? = some (Cond.code yX3_serveRow cX3_serveRow 5 (some .int)) := rfl
theorem kcw_X3_serveRow : Cond.code yX3_serveRow cX3_serveRow 5 (some .int) ∈ W0 := W0_in (tp_7 (List.mem_of_getElem? kca_X3_serveRow)) rfl
abbrev zk_X3_serveSet : gy := (yX3_serveSet, cX3_serveSet, 4, (some .int), [])
set_option maxRecDepth 100000 in
theorem kca_X3_serveSet : tables_1_7[112]? = some (Cond.code yX3_serveSet cX3_serveSet 4 (some .int)) := rfl
theorem kcw_X3_serveSet : Cond.code yX3_serveSet cX3_serveSet 4 (some .int) ∈ W0 := W0_in (tp_7 (List.mem_of_getElem? kca_X3_serveSet)) rfl
abbrev zk_X3_append : gy := (yX3_append, cX3_append, 2, none, [])
set_option maxRecDepth 100000 in
theorem kca_X3_append : tables_1_7[118]? = some (Cond.code yX3_append cX3_append 2 none) := rfl
theorem kcw_X3_append : Cond.code yX3_append cX3_append 2 none ∈ W0 := W0_in (tp_7 (List.mem_of_getElem? kca_X3_append)) rfl
abbrev zk_X3_find : gy := (yX3_find, cX3_find, 3, (some .int), [])
set_option maxRecDepth 100000 in
theorem kca_X3_find : tables_1_7[115]? = some (Cond.code yX3_find cX3_find 3 (some .int)) := rfl
theorem kcw_X3_find : Cond.code yX3_find cX3_find 3 (some .int) ∈ W0 := W0_in (tp_7 (List.mem_of_getElem? kca_X3_find)) rfl
abbrev zk_X3_removeAt : gy := (yX3_removeAt, cX3_removeAt, 4, (some .int), [])
set_option maxRecDepth 100000 in
theorem kca_X3_removeAt : tables_1_7[121]? = some (Cond.code yX3_removeAt cX3_removeAt 4 (some .int)) := rfl
theorem kcw_X3_removeAt : Cond.code yX3_removeAt cX3_removeAt 4 (some .int) ∈ W0 := W0_in (tp_7 (List.mem_of_getElem? kca_X3_removeAt)) rfl
abbrev zk_X4_clear : gy := (yX4_clear, cX4_clear, 1, none, [])
set_option maxRecDepth 100000 in
theorem kca_X4_clear : tables_1_5[223]? = some (Cond.code yX4_clear cX4_clear 1 none) := rfl
theorem kcw_X4_clear : Cond.code yX4_clear cX4_clear 1 none ∈ W0 := W0_in (tp_5 (List.mem_of_getElem? kca_X4_clear)) rfl
abbrev zk_X4_note : gy := (yX4_note, cX4_note, 4, none, [])
set_option maxRecDepth 100000 in
theorem kca_X4_note : tables_1_6[101]? = some (Cond.code yX4_note cX4_note 4 none) := rfl
theorem kcw_X4_note : Cond.code yX4_note cX4_note 4 none ∈ W0 := W0_in (tp_6 (List.mem_of_getElem? kca_X4_note)) rfl
abbrev zk_X4_setClock : gy := (yX4_setClock, cX4_setClock, 4, none, [])
set_option maxRecDepth 100000 in
theorem kca_X4_setClock : tables_1_6[105]? = some (Cond.code yX4_setClock cX4_setClock 4 none) := rfl
theorem kcw_X4_setClock : Cond.code yX4_setClock cX4_setClock 4 none ∈ W0 := W0_in (tp_6 (List.mem_of_getElem? kca_X4_setClock)) rfl
abbrev zk_X4_takeOver : gy := (yX4_takeOver, cX4_takeOver, 3, none, [])
set_option maxRecDepth 100000 in
theorem kca_X4_takeOver : tables_1_6[113]? = some (Cond.code yX4_takeOver cX4_takeOver 3 none) := rfl
theorem kcw_X4_takeOver : Cond.code yX4_takeOver cX4_takeOver 3 none ∈ W0 := W0_in (tp_6 (List.mem_of_getElem? kca_X4_takeOver)) rfl
abbrev zk_X4_handOn : gy := (yX4_handOn, cX4_handOn, 5, none, [])
set_option maxRecDepth 100000 in
theorem kca_X4_handOn : tables_1_6[117]? = some (Cond.code yX4_handOn cX4_handOn 5 none) := rfl
theorem kcw_X4_handOn : Cond.code yX4_handOn cX4_handOn 5 none ∈ W0 := W0_in (tp_6 (List.mem_of_getElem? kca_X4_handOn)) rfl
abbrev zk_X4_join : gy := (yX4_join, cX4_join, 6, none, [])
set_option maxRecDepth 100000 in
theorem kca_X4_join : tables_1_6[108]? = some (Cond.code yX4_join cX4_join 6 none) := rfl
theorem kcw_X4_join : Cond.code yX4_join cX4_join 6 none ∈ W0 := W0_in (tp_6 (List.mem_of_getElem? kca_X4_join)) rfl
abbrev zk_X4_isBefore : gy := (yX4_isBefore, cX4_isBefore, 4, (some .boolean), [])
set_option maxRecDepth 100000 in
theorem kca_X4_isBefore : tables_1_6[136]? = some (Cond.code yX4_isBefore cX4_isBefore 4 (some .boolean)) := rfl
theorem kcw_X4_isBefore : Cond.code yX4_isBefore cX4_isBefore 4 (some .boolean) ∈ W0 := W0_in (tp_6 (List.mem_of_getElem? kca_X4_isBefore)) rfl
abbrev zk_X4_races : gy := (yX4_races, cX4_races, 1, (some .int), [])
set_option maxRecDepth 100000 in
theorem kca_X4_races : tables_1_6[172]? = some (Cond.code yX4_races cX4_races 1 (some .int)) := rfl
theorem kcw_X4_races : Cond.code yX4_races cX4_races 1 (some .int) ∈ W0 := W0_in (tp_6 (List.mem_of_getElem? kca_X4_races)) rfl
abbrev zk_X4_laterOfRace : gy := (yX4_laterOfRace, cX4_laterOfRace, 3, (some .int), [])
set_option maxRecDepth 100000 in
theorem kca_X4_laterOfRace : tables_1_7[13]? = some (Cond.code yX4_laterOfRace cX4_laterOfRace 3 (some .int)) := rfl
theorem kcw_X4_laterOfRace : Cond.code yX4_laterOfRace cX4_laterOfRace 3 (some .int) ∈ W0 := W0_in (tp_7 (List.mem_of_getElem? kca_X4_laterOfRace)) rfl
abbrev zk_X4_earlierOfRace : gy := (yX4_earlierOfRace, cX4_earlierOfRace, 5, (some .int), [])
set_option maxRecDepth 100000 in
theorem kca_X4_earlierOfRace : tables_1_7[17]? = some (Cond.code yX4_earlierOfRace cX4_earlierOfRace 5 (some .int)) := rfl
theorem kcw_X4_earlierOfRace : Cond.code yX4_earlierOfRace cX4_earlierOfRace 5 (some .int) ∈ W0 := W0_in (tp_7 (List.mem_of_getElem? kca_X4_earlierOfRace)) rfl
abbrev zk_X4_racesOf : gy := (yX4_racesOf, cX4_racesOf, 4, (some .int), [])
set_option maxRecDepth 100000 in
theorem kca_X4_racesOf : tables_1_6[121]? = some (Cond.code yX4_racesOf cX4_racesOf 4 (some .int)) := rfl
theorem kcw_X4_racesOf : Cond.code yX4_racesOf cX4_racesOf 4 (some .int) ∈ W0 := W0_in (tp_6 (List.mem_of_getElem? kca_X4_racesOf)) rfl
abbrev zk_X4_mayRace : gy := (yX4_mayRace, cX4_mayRace, 2, (some .boolean), [])
set_option maxRecDepth 100000 in
theorem kca_X4_mayRace : tables_1_6[125]? = some (Cond.code yX4_mayRace cX4_mayRace 2 (some .boolean)) := rfl
theorem kcw_X4_mayRace : Cond.code yX4_mayRace cX4_mayRace 2 (some .boolean) ∈ W0 := W0_in (tp_6 (List.mem_of_getElem? kca_X4_mayRace)) rfl
abbrev zk_X4_isRace : gy := (yX4_isRace, cX4_isRace, 3, (some .boolean), [])
set_option maxRecDepth 100000 in
theorem kca_X4_isRace : tables_1_6[129]? = some (Cond.code yX4_isRace cX4_isRace 3 (some .boolean)) := rfl
theorem kcw_X4_isRace : Cond.code yX4_isRace cX4_isRace 3 (some .boolean) ∈ W0 := W0_in (tp_6 (List.mem_of_getElem? kca_X4_isRace)) rfl
abbrev zk_X4_sortsRace : gy := (yX4_sortsRace, cX4_sortsRace, 4, (some .boolean), [])
set_option maxRecDepth 100000 in
theorem kca_X4_sortsRace : tables_1_6[132]? = some (Cond.code yX4_sortsRace cX4_sortsRace 4 (some .boolean)) := rfl
theorem kcw_X4_sortsRace : Cond.code yX4_sortsRace cX4_sortsRace 4 (some .boolean) ∈ W0 := W0_in (tp_6 (List.mem_of_getElem? kca_X4_sortsRace)) rfl
abbrev zk_X5_reset : gy := (yX5_reset, cX5_reset, 3, none, [])
set_option maxRecDepth 100000 in
theorem kca_X5_reset : tables_1_5[129]? = some (Cond.code yX5_reset cX5_reset 3 none) := rfl
theorem kcw_X5_reset : Cond.code yX5_reset cX5_reset 3 none ∈ W0 := W0_in (tp_5 (List.mem_of_getElem? kca_X5_reset)) rfl
abbrev zk_X5_get : gy := (yX5_get, cX5_get, 3, (some .int), [])
set_option maxRecDepth 100000 in
theorem kca_X5_get : tables_1_5[151]? = some (Cond.code yX5_get cX5_get 3 (some .int)) := rfl
theorem kcw_X5_get : Cond.code yX5_get cX5_get 3 (some .int) ∈ W0 := W0_in (tp_5 (List.mem_of_getElem? kca_X5_get)) rfl
abbrev zk_X5_set : gy := (yX5_set, cX5_set, 4, none, [])
set_option maxRecDepth 100000 in
theorem kca_X5_set : tables_1_5[138]? = some (Cond.code yX5_set cX5_set 4 none) := rfl
theorem kcw_X5_set : Cond.code yX5_set cX5_set 4 none ∈ W0 := W0_in (tp_5 (List.mem_of_getElem? kca_X5_set)) rfl
abbrev zk_X5_isGoing : gy := (yX5_isGoing, cX5_isGoing, 2, (some .boolean), [])
set_option maxRecDepth 100000 in
theorem kca_X5_isGoing : tables_1_5[147]? = some (Cond.code yX5_isGoing cX5_isGoing 2 (some .boolean)) := rfl
theorem kcw_X5_isGoing : Cond.code yX5_isGoing cX5_isGoing 2 (some .boolean) ∈ W0 := W0_in (tp_5 (List.mem_of_getElem? kca_X5_isGoing)) rfl
abbrev zk_X5_anyGoing : gy := (yX5_anyGoing, cX5_anyGoing, 2, (some .boolean), [])
set_option maxRecDepth 100000 in
theorem kca_X5_anyGoing : tables_1_6[168]? = some (Cond.code yX5_anyGoing cX5_anyGoing 2 (some .boolean)) := rfl
theorem kcw_X5_anyGoing : Cond.code yX5_anyGoing cX5_anyGoing 2 (some .boolean) ∈ W0 := W0_in (tp_6 (List.mem_of_getElem? kca_X5_anyGoing)) rfl
abbrev zk_X5_anyFailed : gy := (yX5_anyFailed, cX5_anyFailed, 2, (some .boolean), [])
set_option maxRecDepth 100000 in
theorem kca_X5_anyFailed : tables_1_8[105]? = some (Cond.code yX5_anyFailed cX5_anyFailed 2 (some .boolean)) := rfl
theorem kcw_X5_anyFailed : Cond.code yX5_anyFailed cX5_anyFailed 2 (some .boolean) ∈ W0 := W0_in (tp_8 (List.mem_of_getElem? kca_X5_anyFailed)) rfl
abbrev zk_X5_isStuck : gy := (yX5_isStuck, cX5_isStuck, 1, (some .boolean), [])
set_option maxRecDepth 100000 in
theorem kca_X5_isStuck : tables_1_6[164]? = some (Cond.code yX5_isStuck cX5_isStuck 1 (some .boolean)) := rfl
theorem kcw_X5_isStuck : Cond.code yX5_isStuck cX5_isStuck 1 (some .boolean) ∈ W0 := W0_in (tp_6 (List.mem_of_getElem? kca_X5_isStuck)) rfl
abbrev zk_X5_allLate : gy := (yX5_allLate, cX5_allLate, 3, (some .int), [])
set_option maxRecDepth 100000 in
theorem kca_X5_allLate : tables_1_6[176]? = some (Cond.code yX5_allLate cX5_allLate 3 (some .int)) := rfl
theorem kcw_X5_allLate : Cond.code yX5_allLate cX5_allLate 3 (some .int) ∈ W0 := W0_in (tp_6 (List.mem_of_getElem? kca_X5_allLate)) rfl
abbrev zk_X5_known : gy := (yX5_known, cX5_known, 3, (some .int), [])
set_option maxRecDepth 100000 in
theorem kca_X5_known : tables_1_5[179]? = some (Cond.code yX5_known cX5_known 3 (some .int)) := rfl
theorem kcw_X5_known : Cond.code yX5_known cX5_known 3 (some .int) ∈ W0 := W0_in (tp_5 (List.mem_of_getElem? kca_X5_known)) rfl
abbrev zk_X5_lineOf : gy := (yX5_lineOf, cX5_lineOf, 2, (some .int), [])
set_option maxRecDepth 100000 in
theorem kca_X5_lineOf : tables_1_6[220]? = some (Cond.code yX5_lineOf cX5_lineOf 2 (some .int)) := rfl
theorem kcw_X5_lineOf : Cond.code yX5_lineOf cX5_lineOf 2 (some .int) ∈ W0 := W0_in (tp_6 (List.mem_of_getElem? kca_X5_lineOf)) rfl
abbrev zk_X5_holder : gy := (yX5_holder, cX5_holder, 2, (some .int), [])
set_option maxRecDepth 100000 in
theorem kca_X5_holder : tables_1_5[199]? = some (Cond.code yX5_holder cX5_holder 2 (some .int)) := rfl
theorem kcw_X5_holder : Cond.code yX5_holder cX5_holder 2 (some .int) ∈ W0 := W0_in (tp_5 (List.mem_of_getElem? kca_X5_holder)) rfl
abbrev zk_X5_often : gy := (yX5_often, cX5_often, 2, (some .int), [])
set_option maxRecDepth 100000 in
theorem kca_X5_often : tables_1_6[73]? = some (Cond.code yX5_often cX5_often 2 (some .int)) := rfl
theorem kcw_X5_often : Cond.code yX5_often cX5_often 2 (some .int) ∈ W0 := W0_in (tp_6 (List.mem_of_getElem? kca_X5_often)) rfl
abbrev zk_X5_setLock : gy := (yX5_setLock, cX5_setLock, 4, none, [])
set_option maxRecDepth 100000 in
theorem kca_X5_setLock : tables_1_6[77]? = some (Cond.code yX5_setLock cX5_setLock 4 none) := rfl
theorem kcw_X5_setLock : Cond.code yX5_setLock cX5_setLock 4 none ∈ W0 := W0_in (tp_6 (List.mem_of_getElem? kca_X5_setLock)) rfl
abbrev zk_X5_heldBy : gy := (yX5_heldBy, cX5_heldBy, 4, (some .int), [])
set_option maxRecDepth 100000 in
theorem kca_X5_heldBy : tables_1_8[65]? = some (Cond.code yX5_heldBy cX5_heldBy 4 (some .int)) := rfl
theorem kcw_X5_heldBy : Cond.code yX5_heldBy cX5_heldBy 4 (some .int) ∈ W0 := W0_in (tp_8 (List.mem_of_getElem? kca_X5_heldBy)) rfl
abbrev zk_X5_waiters : gy := (yX5_waiters, cX5_waiters, 4, (some .int), [])
set_option maxRecDepth 100000 in
theorem kca_X5_waiters : tables_1_5[207]? = some (Cond.code yX5_waiters cX5_waiters 4 (some .int)) := rfl
theorem kcw_X5_waiters : Cond.code yX5_waiters cX5_waiters 4 (some .int) ∈ W0 := W0_in (tp_5 (List.mem_of_getElem? kca_X5_waiters)) rfl
abbrev zk_X5_lateCell : gy := (yX5_lateCell, cX5_lateCell, 3, (some .int), [])
set_option maxRecDepth 100000 in
theorem kca_X5_lateCell : tables_1_5[219]? = some (Cond.code yX5_lateCell cX5_lateCell 3 (some .int)) := rfl
theorem kcw_X5_lateCell : Cond.code yX5_lateCell cX5_lateCell 3 (some .int) ∈ W0 := W0_in (tp_5 (List.mem_of_getElem? kca_X5_lateCell)) rfl
abbrev zk_X5_lateValue : gy := (yX5_lateValue, cX5_lateValue, 3, (some .int), [])
set_option maxRecDepth 100000 in
theorem kca_X5_lateValue : tables_1_6[45]? = some (Cond.code yX5_lateValue cX5_lateValue 3 (some .int)) := rfl
theorem kcw_X5_lateValue : Cond.code yX5_lateValue cX5_lateValue 3 (some .int) ∈ W0 := W0_in (tp_6 (List.mem_of_getElem? kca_X5_lateValue)) rfl
abbrev zk_X5_setLate : gy := (yX5_setLate, cX5_setLate, 5, none, [])
set_option maxRecDepth 100000 in
theorem kca_X5_setLate : tables_1_6[49]? = some (Cond.code yX5_setLate cX5_setLate 5 none) := rfl
theorem kcw_X5_setLate : Cond.code yX5_setLate cX5_setLate 5 none ∈ W0 := W0_in (tp_6 (List.mem_of_getElem? kca_X5_setLate)) rfl
abbrev zk_X5_seenBy : gy := (yX5_seenBy, cX5_seenBy, 4, (some .int), [])
set_option maxRecDepth 100000 in
theorem kca_X5_seenBy : tables_1_6[61]? = some (Cond.code yX5_seenBy cX5_seenBy 4 (some .int)) := rfl
theorem kcw_X5_seenBy : Cond.code yX5_seenBy cX5_seenBy 4 (some .int) ∈ W0 := W0_in (tp_6 (List.mem_of_getElem? kca_X5_seenBy)) rfl
abbrev zk_X5_sortOf : gy := (yX5_sortOf, cX5_sortOf, 2, (some .int), [])
set_option maxRecDepth 100000 in
theorem kca_X5_sortOf : tables_1_5[191]? = some (Cond.code yX5_sortOf cX5_sortOf 2 (some .int)) := rfl
theorem kcw_X5_sortOf : Cond.code yX5_sortOf cX5_sortOf 2 (some .int) ∈ W0 := W0_in (tp_5 (List.mem_of_getElem? kca_X5_sortOf)) rfl
abbrev zk_X5_objectOf : gy := (yX5_objectOf, cX5_objectOf, 2, (some .int), [])
set_option maxRecDepth 100000 in
theorem kca_X5_objectOf : tables_1_6[12]? = some (Cond.code yX5_objectOf cX5_objectOf 2 (some .int)) := rfl
theorem kcw_X5_objectOf : Cond.code yX5_objectOf cX5_objectOf 2 (some .int) ∈ W0 := W0_in (tp_6 (List.mem_of_getElem? kca_X5_objectOf)) rfl
abbrev zk_X5_localsAt : gy := (yX5_localsAt, cX5_localsAt, 2, (some .int), [])
set_option maxRecDepth 100000 in
theorem kca_X5_localsAt : tables_1_5[159]? = some (Cond.code yX5_localsAt cX5_localsAt 2 (some .int)) := rfl
theorem kcw_X5_localsAt : Cond.code yX5_localsAt cX5_localsAt 2 (some .int) ∈ W0 := W0_in (tp_5 (List.mem_of_getElem? kca_X5_localsAt)) rfl
abbrev zk_X5_placeOf : gy := (yX5_placeOf, cX5_placeOf, 5, (some .int), [])
set_option maxRecDepth 100000 in
theorem kca_X5_placeOf : tables_1_6[16]? = some (Cond.code yX5_placeOf cX5_placeOf 5 (some .int)) := rfl
theorem kcw_X5_placeOf : Cond.code yX5_placeOf cX5_placeOf 5 (some .int) ∈ W0 := W0_in (tp_6 (List.mem_of_getElem? kca_X5_placeOf)) rfl
abbrev zk_X5_goesLate : gy := (yX5_goesLate, cX5_goesLate, 2, (some .boolean), [])
set_option maxRecDepth 100000 in
theorem kca_X5_goesLate : tables_1_5[195]? = some (Cond.code yX5_goesLate cX5_goesLate 2 (some .boolean)) := rfl
theorem kcw_X5_goesLate : Cond.code yX5_goesLate cX5_goesLate 2 (some .boolean) ∈ W0 := W0_in (tp_5 (List.mem_of_getElem? kca_X5_goesLate)) rfl
abbrev zk_X5_accessFails : gy := (yX5_accessFails, cX5_accessFails, 3, (some .boolean), [])
set_option maxRecDepth 100000 in
theorem kca_X5_accessFails : tables_1_8[73]? = some (Cond.code yX5_accessFails cX5_accessFails 3 (some .boolean)) := rfl
theorem kcw_X5_accessFails : Cond.code yX5_accessFails cX5_accessFails 3 (some .boolean) ∈ W0 := W0_in (tp_8 (List.mem_of_getElem? kca_X5_accessFails)) rfl
abbrev zk_X5_canAct : gy := (yX5_canAct, cX5_canAct, 4, (some .boolean), [])
set_option maxRecDepth 100000 in
theorem kca_X5_canAct : tables_1_5[187]? = some (Cond.code yX5_canAct cX5_canAct 4 (some .boolean)) := rfl
theorem kcw_X5_canAct : Cond.code yX5_canAct cX5_canAct 4 (some .boolean) ∈ W0 := W0_in (tp_5 (List.mem_of_getElem? kca_X5_canAct)) rfl
abbrev zk_X5_listChoices : gy := (yX5_listChoices, cX5_listChoices, 3, none, [])
set_option maxRecDepth 100000 in
theorem kca_X5_listChoices : tables_1_5[183]? = some (Cond.code yX5_listChoices cX5_listChoices 3 none) := rfl
theorem kcw_X5_listChoices : Cond.code yX5_listChoices cX5_listChoices 3 none ∈ W0 := W0_in (tp_5 (List.mem_of_getElem? kca_X5_listChoices)) rfl
abbrev zk_X5_list : gy := (yX5_list, cX5_list, 4, none, [])
set_option maxRecDepth 100000 in
theorem kca_X5_list : tables_1_5[211]? = some (Cond.code yX5_list cX5_list 4 none) := rfl
theorem kcw_X5_list : Cond.code yX5_list cX5_list 4 none ∈ W0 := W0_in (tp_5 (List.mem_of_getElem? kca_X5_list)) rfl
abbrev zk_X5_listAct : gy := (yX5_listAct, cX5_listAct, 6, none, [])
set_option maxRecDepth 100000 in
theorem kca_X5_listAct : tables_1_5[203]? = some (Cond.code yX5_listAct cX5_listAct 6 none) := rfl
theorem kcw_X5_listAct : Cond.code yX5_listAct cX5_listAct 6 none ∈ W0 := W0_in (tp_5 (List.mem_of_getElem? kca_X5_listAct)) rfl
abbrev zk_X5_isFirstOfCell : gy := (yX5_isFirstOfCell, cX5_isFirstOfCell, 4, (some .boolean), [])
set_option maxRecDepth 100000 in
theorem kca_X5_isFirstOfCell : tables_1_5[215]? = some (Cond.code yX5_isFirstOfCell cX5_isFirstOfCell 4 (some .boolean)) := rfl
theorem kcw_X5_isFirstOfCell : Cond.code yX5_isFirstOfCell cX5_isFirstOfCell 4 (some .boolean) ∈ W0 := W0_in (tp_5 (List.mem_of_getElem? kca_X5_isFirstOfCell)) rfl
abbrev zk_X5_perform : gy := (yX5_perform, cX5_perform, 6, none, [])
set_option maxRecDepth 100000 in
theorem kca_X5_perform : tables_1_6[33]? = some (Cond.code yX5_perform cX5_perform 6 none) := rfl
theorem kcw_X5_perform : Cond.code yX5_perform cX5_perform 6 none ∈ W0 := W0_in (tp_6 (List.mem_of_getElem? kca_X5_perform)) rfl
abbrev zk_X5_bringLate : gy := (yX5_bringLate, cX5_bringLate, 5, none, [])
set_option maxRecDepth 100000 in
theorem kca_X5_bringLate : tables_1_6[41]? = some (Cond.code yX5_bringLate cX5_bringLate 5 none) := rfl
theorem kcw_X5_bringLate : Cond.code yX5_bringLate cX5_bringLate 5 none ∈ W0 := W0_in (tp_6 (List.mem_of_getElem? kca_X5_bringLate)) rfl
abbrev zk_X5_actFailure : gy := (yX5_actFailure, cX5_actFailure, 6, (some .int), [])
set_option maxRecDepth 100000 in
theorem kca_X5_actFailure : tables_1_6[53]? = some (Cond.code yX5_actFailure cX5_actFailure 6 (some .int)) := rfl
theorem kcw_X5_actFailure : Cond.code yX5_actFailure cX5_actFailure 6 (some .int) ∈ W0 := W0_in (tp_6 (List.mem_of_getElem? kca_X5_actFailure)) rfl
abbrev zk_X5_doAccess : gy := (yX5_doAccess, cX5_doAccess, 7, (some .int), [])
set_option maxRecDepth 100000 in
theorem kca_X5_doAccess : tables_1_6[57]? = some (Cond.code yX5_doAccess cX5_doAccess 7 (some .int)) := rfl
theorem kcw_X5_doAccess : Cond.code yX5_doAccess cX5_doAccess 7 (some .int) ∈ W0 := W0_in (tp_6 (List.mem_of_getElem? kca_X5_doAccess)) rfl
abbrev zk_X5_doWrite : gy := (yX5_doWrite, cX5_doWrite, 6, (some .int), [])
set_option maxRecDepth 100000 in
theorem kca_X5_doWrite : tables_1_6[65]? = some (Cond.code yX5_doWrite cX5_doWrite 6 (some .int)) := rfl
theorem kcw_X5_doWrite : Cond.code yX5_doWrite cX5_doWrite 6 (some .int) ∈ W0 := W0_in (tp_6 (List.mem_of_getElem? kca_X5_doWrite)) rfl
abbrev zk_X5_doExchange : gy := (yX5_doExchange, cX5_doExchange, 9, (some .int), [])
set_option maxRecDepth 100000 in
theorem kca_X5_doExchange : tables_1_6[69]? = some (Cond.code yX5_doExchange cX5_doExchange 9 (some .int)) := rfl
theorem kcw_X5_doExchange : Cond.code yX5_doExchange cX5_doExchange 9 (some .int) ∈ W0 := W0_in (tp_6 (List.mem_of_getElem? kca_X5_doExchange)) rfl
abbrev zk_X5_doGive : gy := (yX5_doGive, cX5_doGive, 4, (some .int), [])
set_option maxRecDepth 100000 in
theorem kca_X5_doGive : tables_1_6[81]? = some (Cond.code yX5_doGive cX5_doGive 4 (some .int)) := rfl
theorem kcw_X5_doGive : Cond.code yX5_doGive cX5_doGive 4 (some .int) ∈ W0 := W0_in (tp_6 (List.mem_of_getElem? kca_X5_doGive)) rfl
abbrev zk_X5_doWait : gy := (yX5_doWait, cX5_doWait, 3, (some .int), [])
set_option maxRecDepth 100000 in
theorem kca_X5_doWait : tables_1_6[85]? = some (Cond.code yX5_doWait cX5_doWait 3 (some .int)) := rfl
theorem kcw_X5_doWait : Cond.code yX5_doWait cX5_doWait 3 (some .int) ∈ W0 := W0_in (tp_6 (List.mem_of_getElem? kca_X5_doWait)) rfl
abbrev zk_X5_doRetake : gy := (yX5_doRetake, cX5_doRetake, 3, (some .int), [])
set_option maxRecDepth 100000 in
theorem kca_X5_doRetake : tables_1_6[89]? = some (Cond.code yX5_doRetake cX5_doRetake 3 (some .int)) := rfl
theorem kcw_X5_doRetake : Cond.code yX5_doRetake cX5_doRetake 3 (some .int) ∈ W0 := W0_in (tp_6 (List.mem_of_getElem? kca_X5_doRetake)) rfl
abbrev zk_X5_doWake : gy := (yX5_doWake, cX5_doWake, 6, (some .int), [])
set_option maxRecDepth 100000 in
theorem kca_X5_doWake : tables_1_6[93]? = some (Cond.code yX5_doWake cX5_doWake 6 (some .int)) := rfl
theorem kcw_X5_doWake : Cond.code yX5_doWake cX5_doWake 6 (some .int) ∈ W0 := W0_in (tp_6 (List.mem_of_getElem? kca_X5_doWake)) rfl
abbrev zk_X5_doCallOrBack : gy := (yX5_doCallOrBack, cX5_doCallOrBack, 6, (some .int), [])
set_option maxRecDepth 100000 in
theorem kca_X5_doCallOrBack : tables_1_6[97]? = some (Cond.code yX5_doCallOrBack cX5_doCallOrBack 6 (some .int)) := rfl
theorem kcw_X5_doCallOrBack : Cond.code yX5_doCallOrBack cX5_doCallOrBack 6 (some .int) ∈ W0 := W0_in (tp_6 (List.mem_of_getElem? kca_X5_doCallOrBack)) rfl
abbrev zk_X5_rouse : gy := (yX5_rouse, cX5_rouse, 2, none, [])
set_option maxRecDepth 100000 in
theorem kca_X5_rouse : tables_1_5[134]? = some (Cond.code yX5_rouse cX5_rouse 2 none) := rfl
theorem kcw_X5_rouse : Cond.code yX5_rouse cX5_rouse 2 none ∈ W0 := W0_in (tp_5 (List.mem_of_getElem? kca_X5_rouse)) rfl
abbrev zk_X5_settle : gy := (yX5_settle, cX5_settle, 7, none, [])
set_option maxRecDepth 100000 in
theorem kca_X5_settle : tables_1_5[142]? = some (Cond.code yX5_settle cX5_settle 7 none) := rfl
theorem kcw_X5_settle : Cond.code yX5_settle cX5_settle 7 none ∈ W0 := W0_in (tp_5 (List.mem_of_getElem? kca_X5_settle)) rfl
abbrev zk_X5_ownFailure : gy := (yX5_ownFailure, cX5_ownFailure, 5, (some .int), [])
set_option maxRecDepth 100000 in
theorem kca_X5_ownFailure : tables_1_5[155]? = some (Cond.code yX5_ownFailure cX5_ownFailure 5 (some .int)) := rfl
theorem kcw_X5_ownFailure : Cond.code yX5_ownFailure cX5_ownFailure 5 (some .int) ∈ W0 := W0_in (tp_5 (List.mem_of_getElem? kca_X5_ownFailure)) rfl
abbrev zk_X5_fail : gy := (yX5_fail, cX5_fail, 3, none, [])
set_option maxRecDepth 100000 in
theorem kca_X5_fail : tables_1_5[171]? = some (Cond.code yX5_fail cX5_fail 3 none) := rfl
theorem kcw_X5_fail : Cond.code yX5_fail cX5_fail 3 none ∈ W0 := W0_in (tp_5 (List.mem_of_getElem? kca_X5_fail)) rfl
abbrev zk_X5_mix : gy := (yX5_mix, cX5_mix, 3, (some .int), [])
set_option maxRecDepth 100000 in
theorem kca_X5_mix : tables_1_8[20]? = some (Cond.code yX5_mix cX5_mix 3 (some .int)) := rfl
theorem kcw_X5_mix : Cond.code yX5_mix cX5_mix 3 (some .int) ∈ W0 := W0_in (tp_8 (List.mem_of_getElem? kca_X5_mix)) rfl
abbrev zk_X5_mixPart : gy := (yX5_mixPart, cX5_mixPart, 6, (some .int), [])
set_option maxRecDepth 100000 in
theorem kca_X5_mixPart : tables_1_8[24]? = some (Cond.code yX5_mixPart cX5_mixPart 6 (some .int)) := rfl
theorem kcw_X5_mixPart : Cond.code yX5_mixPart cX5_mixPart 6 (some .int) ∈ W0 := W0_in (tp_8 (List.mem_of_getElem? kca_X5_mixPart)) rfl
abbrev zk_X5_usedOf : gy := (yX5_usedOf, cX5_usedOf, 2, (some .int), [])
set_option maxRecDepth 100000 in
theorem kca_X5_usedOf : tables_1_8[29]? = some (Cond.code yX5_usedOf cX5_usedOf 2 (some .int)) := rfl
theorem kcw_X5_usedOf : Cond.code yX5_usedOf cX5_usedOf 2 (some .int) ∈ W0 := W0_in (tp_8 (List.mem_of_getElem? kca_X5_usedOf)) rfl
abbrev zk_X5_isSame : gy := (yX5_isSame, cX5_isSame, 4, (some .boolean), [])
set_option maxRecDepth 100000 in
theorem kca_X5_isSame : tables_1_8[33]? = some (Cond.code yX5_isSame cX5_isSame 4 (some .boolean)) := rfl
theorem kcw_X5_isSame : Cond.code yX5_isSame cX5_isSame 4 (some .boolean) ∈ W0 := W0_in (tp_8 (List.mem_of_getElem? kca_X5_isSame)) rfl
abbrev zk_X5_isSamePart : gy := (yX5_isSamePart, cX5_isSamePart, 5, (some .boolean), [])
set_option maxRecDepth 100000 in
theorem kca_X5_isSamePart : tables_1_8[37]? = some (Cond.code yX5_isSamePart cX5_isSamePart 5 (some .boolean)) := rfl
theorem kcw_X5_isSamePart : Cond.code yX5_isSamePart cX5_isSamePart 5 (some .boolean) ∈ W0 := W0_in (tp_8 (List.mem_of_getElem? kca_X5_isSamePart)) rfl
abbrev zk_X5_blankUnknown : gy := (yX5_blankUnknown, cX5_blankUnknown, 3, none, [])
set_option maxRecDepth 100000 in
theorem kca_X5_blankUnknown : tables_1_5[175]? = some (Cond.code yX5_blankUnknown cX5_blankUnknown 3 none) := rfl
theorem kcw_X5_blankUnknown : Cond.code yX5_blankUnknown cX5_blankUnknown 3 none ∈ W0 := W0_in (tp_5 (List.mem_of_getElem? kca_X5_blankUnknown)) rfl
abbrev zk_X6_clear : gy := (yX6_clear, cX6_clear, 1, none, [])
set_option maxRecDepth 100000 in
theorem kca_X6_clear : tables_1_3[198]? = some (Cond.code yX6_clear cX6_clear 1 none) := rfl
theorem kcw_X6_clear : Cond.code yX6_clear cX6_clear 1 none ∈ W0 := W0_in (tp_3 (List.mem_of_getElem? kca_X6_clear)) rfl
abbrev zk_X6_tellCell : gy := (yX6_tellCell, cX6_tellCell, 4, none, [])
set_option maxRecDepth 100000 in
theorem kca_X6_tellCell : tables_1_4[82]? = some (Cond.code yX6_tellCell cX6_tellCell 4 none) := rfl
theorem kcw_X6_tellCell : Cond.code yX6_tellCell cX6_tellCell 4 none ∈ W0 := W0_in (tp_4 (List.mem_of_getElem? kca_X6_tellCell)) rfl
abbrev zk_X6_tellLock : gy := (yX6_tellLock, cX6_tellLock, 2, none, [])
set_option maxRecDepth 100000 in
theorem kca_X6_tellLock : tables_1_4[94]? = some (Cond.code yX6_tellLock cX6_tellLock 2 none) := rfl
theorem kcw_X6_tellLock : Cond.code yX6_tellLock cX6_tellLock 2 none ∈ W0 := W0_in (tp_4 (List.mem_of_getElem? kca_X6_tellLock)) rfl
abbrev zk_X6_tellThread : gy := (yX6_tellThread, cX6_tellThread, 2, none, [])
set_option maxRecDepth 100000 in
theorem kca_X6_tellThread : tables_1_4[102]? = some (Cond.code yX6_tellThread cX6_tellThread 2 none) := rfl
theorem kcw_X6_tellThread : Cond.code yX6_tellThread cX6_tellThread 2 none ∈ W0 := W0_in (tp_4 (List.mem_of_getElem? kca_X6_tellThread)) rfl
abbrev zk_X6_isRowSize : gy := (yX6_isRowSize, cX6_isRowSize, 1, (some .boolean), [])
set_option maxRecDepth 100000 in
theorem kca_X6_isRowSize : tables_1_4[67]? = some (Cond.code yX6_isRowSize cX6_isRowSize 1 (some .boolean)) := rfl
theorem kcw_X6_isRowSize : Cond.code yX6_isRowSize cX6_isRowSize 1 (some .boolean) ∈ W0 := W0_in (tp_4 (List.mem_of_getElem? kca_X6_isRowSize)) rfl
abbrev zk_X6_judge : gy := (yX6_judge, cX6_judge, 3, (some .int), [])
set_option maxRecDepth 100000 in
theorem kca_X6_judge : tables_1_4[231]? = some (Cond.code yX6_judge cX6_judge 3 (some .int)) := rfl
theorem kcw_X6_judge : Cond.code yX6_judge cX6_judge 3 (some .int) ∈ W0 := W0_in (tp_4 (List.mem_of_getElem? kca_X6_judge)) rfl
abbrev zk_X6_faultOf : gy := (yX6_faultOf, cX6_faultOf, 2, (some .int), [])
set_option maxRecDepth 100000 in
theorem kca_X6_faultOf : tables_1_4[235]? = some (Cond.code yX6_faultOf cX6_faultOf 2 (some .int)) := rfl
theorem kcw_X6_faultOf : Cond.code yX6_faultOf cX6_faultOf 2 (some .int) ∈ W0 := W0_in (tp_4 (List.mem_of_getElem? kca_X6_faultOf)) rfl
abbrev zk_X6_faultOfCell : gy := (yX6_faultOfCell, cX6_faultOfCell, 2, (some .int), [])
set_option maxRecDepth 100000 in
theorem kca_X6_faultOfCell : tables_1_5[13]? = some (Cond.code yX6_faultOfCell cX6_faultOfCell 2 (some .int)) := rfl
theorem kcw_X6_faultOfCell : Cond.code yX6_faultOfCell cX6_faultOfCell 2 (some .int) ∈ W0 := W0_in (tp_5 (List.mem_of_getElem? kca_X6_faultOfCell)) rfl
abbrev zk_X6_isToldBefore : gy := (yX6_isToldBefore, cX6_isToldBefore, 2, (some .boolean), [])
set_option maxRecDepth 100000 in
theorem kca_X6_isToldBefore : tables_1_4[239]? = some (Cond.code yX6_isToldBefore cX6_isToldBefore 2 (some .boolean)) := rfl
theorem kcw_X6_isToldBefore : Cond.code yX6_isToldBefore cX6_isToldBefore 2 (some .boolean) ∈ W0 := W0_in (tp_4 (List.mem_of_getElem? kca_X6_isToldBefore)) rfl
abbrev zk_X6_isAmong : gy := (yX6_isAmong, cX6_isAmong, 5, (some .boolean), [])
set_option maxRecDepth 100000 in
theorem kca_X6_isAmong : tables_1_5[3]? = some (Cond.code yX6_isAmong cX6_isAmong 5 (some .boolean)) := rfl
theorem kcw_X6_isAmong : Cond.code yX6_isAmong cX6_isAmong 5 (some .boolean) ∈ W0 := W0_in (tp_5 (List.mem_of_getElem? kca_X6_isAmong)) rfl
abbrev zk_X6_cellOf : gy := (yX6_cellOf, cX6_cellOf, 4, (some .int), [])
set_option maxRecDepth 100000 in
theorem kca_X6_cellOf : tables_1_5[17]? = some (Cond.code yX6_cellOf cX6_cellOf 4 (some .int)) := rfl
theorem kcw_X6_cellOf : Cond.code yX6_cellOf cX6_cellOf 4 (some .int) ∈ W0 := W0_in (tp_5 (List.mem_of_getElem? kca_X6_cellOf)) rfl
abbrev zk_X6_numberOf : gy := (yX6_numberOf, cX6_numberOf, 5, (some .int), [])
set_option maxRecDepth 100000 in
theorem kca_X6_numberOf : tables_1_5[8]? = some (Cond.code yX6_numberOf cX6_numberOf 5 (some .int)) := rfl
theorem kcw_X6_numberOf : Cond.code yX6_numberOf cX6_numberOf 5 (some .int) ∈ W0 := W0_in (tp_5 (List.mem_of_getElem? kca_X6_numberOf)) rfl
abbrev zk_X7_tokenHere : gy := (yX7_tokenHere, cX7_tokenHere, 1, (some .int), [])
set_option maxRecDepth 100000 in
theorem kca_X7_tokenHere : tables_1_5[21]? = some (Cond.code yX7_tokenHere cX7_tokenHere 1 (some .int)) := rfl
theorem kcw_X7_tokenHere : Cond.code yX7_tokenHere cX7_tokenHere 1 (some .int) ∈ W0 := W0_in (tp_5 (List.mem_of_getElem? kca_X7_tokenHere)) rfl
abbrev zk_X7_readAll : gy := (yX7_readAll, cX7_readAll, 2, none, [])
set_option maxRecDepth 100000 in
theorem kca_X7_readAll : tables_1_3[194]? = some (Cond.code yX7_readAll cX7_readAll 2 none) := rfl
theorem kcw_X7_readAll : Cond.code yX7_readAll cX7_readAll 2 none ∈ W0 := W0_in (tp_3 (List.mem_of_getElem? kca_X7_readAll)) rfl
abbrev zk_X7_definition : gy := (yX7_definition, cX7_definition, 1, none, [])
set_option maxRecDepth 100000 in
theorem kca_X7_definition : tables_1_3[213]? = some (Cond.code yX7_definition cX7_definition 1 none) := rfl
theorem kcw_X7_definition : Cond.code yX7_definition cX7_definition 1 none ∈ W0 := W0_in (tp_3 (List.mem_of_getElem? kca_X7_definition)) rfl
abbrev zk_X7_sort : gy := (yX7_sort, cX7_sort, 1, (some .int), [])
set_option maxRecDepth 100000 in
theorem kca_X7_sort : tables_1_3[209]? = some (Cond.code yX7_sort cX7_sort 1 (some .int)) := rfl
theorem kcw_X7_sort : Cond.code yX7_sort cX7_sort 1 (some .int) ∈ W0 := W0_in (tp_3 (List.mem_of_getElem? kca_X7_sort)) rfl
abbrev zk_X7_sortBehind : gy := (yX7_sortBehind, cX7_sortBehind, 1, (some .int), [])
set_option maxRecDepth 100000 in
theorem kca_X7_sortBehind : tables_1_4[64]? = some (Cond.code yX7_sortBehind cX7_sortBehind 1 (some .int)) := rfl
theorem kcw_X7_sortBehind : Cond.code yX7_sortBehind cX7_sortBehind 1 (some .int) ∈ W0 := W0_in (tp_4 (List.mem_of_getElem? kca_X7_sortBehind)) rfl
abbrev zk_X7_refuse : gy := (yX7_refuse, cX7_refuse, 2, none, [])
set_option maxRecDepth 100000 in
theorem kca_X7_refuse : tables_1_3[225]? = some (Cond.code yX7_refuse cX7_refuse 2 none) := rfl
theorem kcw_X7_refuse : Cond.code yX7_refuse cX7_refuse 2 none ∈ W0 := W0_in (tp_3 (List.mem_of_getElem? kca_X7_refuse)) rfl
abbrev zk_X7_pass : gy := (yX7_pass, cX7_pass, 1, none, [])
set_option maxRecDepth 100000 in
theorem kca_X7_pass : tables_1_3[221]? = some (Cond.code yX7_pass cX7_pass 1 none) := rfl
theorem kcw_X7_pass : Cond.code yX7_pass cX7_pass 1 none ∈ W0 := W0_in (tp_3 (List.mem_of_getElem? kca_X7_pass)) rfl
abbrev zk_X7_need : gy := (yX7_need, cX7_need, 2, none, [])
set_option maxRecDepth 100000 in
theorem kca_X7_need : tables_1_4[56]? = some (Cond.code yX7_need cX7_need 2 none) := rfl
theorem kcw_X7_need : Cond.code yX7_need cX7_need 2 none ∈ W0 := W0_in (tp_4 (List.mem_of_getElem? kca_X7_need)) rfl
abbrev zk_X7_needFor : gy := (yX7_needFor, cX7_needFor, 3, (some .int), [])
set_option maxRecDepth 100000 in
theorem kca_X7_needFor : tables_1_4[74]? = some (Cond.code yX7_needFor cX7_needFor 3 (some .int)) := rfl
theorem kcw_X7_needFor : Cond.code yX7_needFor cX7_needFor 3 (some .int) ∈ W0 := W0_in (tp_4 (List.mem_of_getElem? kca_X7_needFor)) rfl
abbrev zk_X7_cellDefinition : gy := (yX7_cellDefinition, cX7_cellDefinition, 6, none, [])
set_option maxRecDepth 100000 in
theorem kca_X7_cellDefinition : tables_1_3[217]? = some (Cond.code yX7_cellDefinition cX7_cellDefinition 6 none) := rfl
theorem kcw_X7_cellDefinition : Cond.code yX7_cellDefinition cX7_cellDefinition 6 none ∈ W0 := W0_in (tp_3 (List.mem_of_getElem? kca_X7_cellDefinition)) rfl
abbrev zk_X7_rowAhead : gy := (yX7_rowAhead, cX7_rowAhead, 2, (some .int), [])
set_option maxRecDepth 100000 in
theorem kca_X7_rowAhead : tables_1_4[60]? = some (Cond.code yX7_rowAhead cX7_rowAhead 2 (some .int)) := rfl
theorem kcw_X7_rowAhead : Cond.code yX7_rowAhead cX7_rowAhead 2 (some .int) ∈ W0 := W0_in (tp_4 (List.mem_of_getElem? kca_X7_rowAhead)) rfl
abbrev zk_X7_startValue : gy := (yX7_startValue, cX7_startValue, 3, (some .int), [])
set_option maxRecDepth 100000 in
theorem kca_X7_startValue : tables_1_4[78]? = some (Cond.code yX7_startValue cX7_startValue 3 (some .int)) := rfl
theorem kcw_X7_startValue : Cond.code yX7_startValue cX7_startValue 3 (some .int) ∈ W0 := W0_in (tp_4 (List.mem_of_getElem? kca_X7_startValue)) rfl
abbrev zk_X7_lockDefinition : gy := (yX7_lockDefinition, cX7_lockDefinition, 1, none, [])
set_option maxRecDepth 100000 in
theorem kca_X7_lockDefinition : tables_1_4[90]? = some (Cond.code yX7_lockDefinition cX7_lockDefinition 1 none) := rfl
theorem kcw_X7_lockDefinition : Cond.code yX7_lockDefinition cX7_lockDefinition 1 none ∈ W0 := W0_in (tp_4 (List.mem_of_getElem? kca_X7_lockDefinition)) rfl
abbrev zk_X7_beginThread : gy := (yX7_beginThread, cX7_beginThread, 3, none, [])
set_option maxRecDepth 100000 in
theorem kca_X7_beginThread : tables_1_4[98]? = some (Cond.code yX7_beginThread cX7_beginThread 3 none) := rfl
theorem kcw_X7_beginThread : Cond.code yX7_beginThread cX7_beginThread 3 none ∈ W0 := W0_in (tp_4 (List.mem_of_getElem? kca_X7_beginThread)) rfl
abbrev zk_X7_endThread : gy := (yX7_endThread, cX7_endThread, 1, none, [])
set_option maxRecDepth 100000 in
theorem kca_X7_endThread : tables_1_4[181]? = some (Cond.code yX7_endThread cX7_endThread 1 none) := rfl
theorem kcw_X7_endThread : Cond.code yX7_endThread cX7_endThread 1 none ∈ W0 := W0_in (tp_4 (List.mem_of_getElem? kca_X7_endThread)) rfl
abbrev zk_X7_claim : gy := (yX7_claim, cX7_claim, 4, none, [])
set_option maxRecDepth 100000 in
theorem kca_X7_claim : tables_1_4[114]? = some (Cond.code yX7_claim cX7_claim 4 none) := rfl
theorem kcw_X7_claim : Cond.code yX7_claim cX7_claim 4 none ∈ W0 := W0_in (tp_4 (List.mem_of_getElem? kca_X7_claim)) rfl
abbrev zk_X7_enter : gy := (yX7_enter, cX7_enter, 3, none, [])
set_option maxRecDepth 100000 in
theorem kca_X7_enter : tables_1_4[110]? = some (Cond.code yX7_enter cX7_enter 3 none) := rfl
theorem kcw_X7_enter : Cond.code yX7_enter cX7_enter 3 none ∈ W0 := W0_in (tp_4 (List.mem_of_getElem? kca_X7_enter)) rfl
abbrev zk_X7_openBlock : gy := (yX7_openBlock, cX7_openBlock, 3, none, [])
set_option maxRecDepth 100000 in
theorem kca_X7_openBlock : tables_1_4[106]? = some (Cond.code yX7_openBlock cX7_openBlock 3 none) := rfl
theorem kcw_X7_openBlock : Cond.code yX7_openBlock cX7_openBlock 3 none ∈ W0 := W0_in (tp_4 (List.mem_of_getElem? kca_X7_openBlock)) rfl
abbrev zk_X7_closeBlock : gy := (yX7_closeBlock, cX7_closeBlock, 2, none, [])
set_option maxRecDepth 100000 in
theorem kca_X7_closeBlock : tables_1_4[165]? = some (Cond.code yX7_closeBlock cX7_closeBlock 2 none) := rfl
theorem kcw_X7_closeBlock : Cond.code yX7_closeBlock cX7_closeBlock 2 none ∈ W0 := W0_in (tp_4 (List.mem_of_getElem? kca_X7_closeBlock)) rfl
abbrev zk_X7_openElse : gy := (yX7_openElse, cX7_openElse, 3, none, [])
set_option maxRecDepth 100000 in
theorem kca_X7_openElse : tables_1_4[173]? = some (Cond.code yX7_openElse cX7_openElse 3 none) := rfl
theorem kcw_X7_openElse : Cond.code yX7_openElse cX7_openElse 3 none ∈ W0 := W0_in (tp_4 (List.mem_of_getElem? kca_X7_openElse)) rfl
abbrev zk_X7_endIf : gy := (yX7_endIf, cX7_endIf, 3, none, [])
set_option maxRecDepth 100000 in
theorem kca_X7_endIf : tables_1_4[177]? = some (Cond.code yX7_endIf cX7_endIf 3 none) := rfl
theorem kcw_X7_endIf : Cond.code yX7_endIf cX7_endIf 3 none ∈ W0 := W0_in (tp_4 (List.mem_of_getElem? kca_X7_endIf)) rfl
abbrev zk_X7_testStatement : gy := (yX7_testStatement, cX7_testStatement, 5, none, [])
set_option maxRecDepth 100000 in
theorem kca_X7_testStatement : tables_1_4[219]? = some (Cond.code yX7_testStatement cX7_testStatement 5 none) := rfl
theorem kcw_X7_testStatement : Cond.code yX7_testStatement cX7_testStatement 5 none ∈ W0 := W0_in (tp_4 (List.mem_of_getElem? kca_X7_testStatement)) rfl
abbrev zk_X7_statement : gy := (yX7_statement, cX7_statement, 5, none, [])
set_option maxRecDepth 100000 in
theorem kca_X7_statement : tables_1_4[185]? = some (Cond.code yX7_statement cX7_statement 5 none) := rfl
theorem kcw_X7_statement : Cond.code yX7_statement cX7_statement 5 none ∈ W0 := W0_in (tp_4 (List.mem_of_getElem? kca_X7_statement)) rfl
abbrev zk_X7_opOf : gy := (yX7_opOf, cX7_opOf, 1, (some .int), [])
set_option maxRecDepth 100000 in
theorem kca_X7_opOf : tables_1_4[188]? = some (Cond.code yX7_opOf cX7_opOf 1 (some .int)) := rfl
theorem kcw_X7_opOf : Cond.code yX7_opOf cX7_opOf 1 (some .int) ∈ W0 := W0_in (tp_4 (List.mem_of_getElem? kca_X7_opOf)) rfl
abbrev zk_X7_newLocal : gy := (yX7_newLocal, cX7_newLocal, 2, (some .int), [])
set_option maxRecDepth 100000 in
theorem kca_X7_newLocal : tables_1_4[192]? = some (Cond.code yX7_newLocal cX7_newLocal 2 (some .int)) := rfl
theorem kcw_X7_newLocal : Cond.code yX7_newLocal cX7_newLocal 2 (some .int) ∈ W0 := W0_in (tp_4 (List.mem_of_getElem? kca_X7_newLocal)) rfl
abbrev zk_X7_makeKnown : gy := (yX7_makeKnown, cX7_makeKnown, 2, none, [])
set_option maxRecDepth 100000 in
theorem kca_X7_makeKnown : tables_1_4[207]? = some (Cond.code yX7_makeKnown cX7_makeKnown 2 none) := rfl
theorem kcw_X7_makeKnown : Cond.code yX7_makeKnown cX7_makeKnown 2 none ∈ W0 := W0_in (tp_4 (List.mem_of_getElem? kca_X7_makeKnown)) rfl
abbrev zk_X7_knownFrom : gy := (yX7_knownFrom, cX7_knownFrom, 4, (some .int), [])
set_option maxRecDepth 100000 in
theorem kca_X7_knownFrom : tables_1_4[150]? = some (Cond.code yX7_knownFrom cX7_knownFrom 4 (some .int)) := rfl
theorem kcw_X7_knownFrom : Cond.code yX7_knownFrom cX7_knownFrom 4 (some .int) ∈ W0 := W0_in (tp_4 (List.mem_of_getElem? kca_X7_knownFrom)) rfl
abbrev zk_X7_setTarget : gy := (yX7_setTarget, cX7_setTarget, 2, (some .int), [])
set_option maxRecDepth 100000 in
theorem kca_X7_setTarget : tables_1_4[215]? = some (Cond.code yX7_setTarget cX7_setTarget 2 (some .int)) := rfl
theorem kcw_X7_setTarget : Cond.code yX7_setTarget cX7_setTarget 2 (some .int) ∈ W0 := W0_in (tp_4 (List.mem_of_getElem? kca_X7_setTarget)) rfl
abbrev zk_X7_rowStatement : gy := (yX7_rowStatement, cX7_rowStatement, 6, none, [])
set_option maxRecDepth 100000 in
theorem kca_X7_rowStatement : tables_1_4[211]? = some (Cond.code yX7_rowStatement cX7_rowStatement 6 none) := rfl
theorem kcw_X7_rowStatement : Cond.code yX7_rowStatement cX7_rowStatement 6 none ∈ W0 := W0_in (tp_4 (List.mem_of_getElem? kca_X7_rowStatement)) rfl
abbrev zk_X7_source : gy := (yX7_source, cX7_source, 11, none, [])
set_option maxRecDepth 100000 in
theorem kca_X7_source : tables_1_4[196]? = some (Cond.code yX7_source cX7_source 11 none) := rfl
theorem kcw_X7_source : Cond.code yX7_source cX7_source 11 none ∈ W0 := W0_in (tp_4 (List.mem_of_getElem? kca_X7_source)) rfl
abbrev zk_X7_sourceOp : gy := (yX7_sourceOp, cX7_sourceOp, 2, (some .int), [])
set_option maxRecDepth 100000 in
theorem kca_X7_sourceOp : tables_1_4[200]? = some (Cond.code yX7_sourceOp cX7_sourceOp 2 (some .int)) := rfl
theorem kcw_X7_sourceOp : Cond.code yX7_sourceOp cX7_sourceOp 2 (some .int) ∈ W0 := W0_in (tp_4 (List.mem_of_getElem? kca_X7_sourceOp)) rfl
abbrev zk_X7_useOfCell : gy := (yX7_useOfCell, cX7_useOfCell, 2, (some .int), [])
set_option maxRecDepth 100000 in
theorem kca_X7_useOfCell : tables_1_4[203]? = some (Cond.code yX7_useOfCell cX7_useOfCell 2 (some .int)) := rfl
theorem kcw_X7_useOfCell : Cond.code yX7_useOfCell cX7_useOfCell 2 (some .int) ∈ W0 := W0_in (tp_4 (List.mem_of_getElem? kca_X7_useOfCell)) rfl
abbrev zk_X7_plainStatement : gy := (yX7_plainStatement, cX7_plainStatement, 8, none, [])
set_option maxRecDepth 100000 in
theorem kca_X7_plainStatement : tables_1_4[227]? = some (Cond.code yX7_plainStatement cX7_plainStatement 8 none) := rfl
theorem kcw_X7_plainStatement : Cond.code yX7_plainStatement cX7_plainStatement 8 none ∈ W0 := W0_in (tp_4 (List.mem_of_getElem? kca_X7_plainStatement)) rfl
abbrev zk_X7_nameStep : gy := (yX7_nameStep, cX7_nameStep, 5, (some .int), [])
set_option maxRecDepth 100000 in
theorem kca_X7_nameStep : tables_1_4[223]? = some (Cond.code yX7_nameStep cX7_nameStep 5 (some .int)) := rfl
theorem kcw_X7_nameStep : Cond.code yX7_nameStep cX7_nameStep 5 (some .int) ∈ W0 := W0_in (tp_4 (List.mem_of_getElem? kca_X7_nameStep)) rfl
abbrev zk_X7_sum : gy := (yX7_sum, cX7_sum, 6, (some .int), [])
set_option maxRecDepth 100000 in
theorem kca_X7_sum : tables_1_4[118]? = some (Cond.code yX7_sum cX7_sum 6 (some .int)) := rfl
theorem kcw_X7_sum : Cond.code yX7_sum cX7_sum 6 (some .int) ∈ W0 := W0_in (tp_4 (List.mem_of_getElem? kca_X7_sum)) rfl
abbrev zk_X7_depthHere : gy := (yX7_depthHere, cX7_depthHere, 1, (some .int), [])
set_option maxRecDepth 100000 in
theorem kca_X7_depthHere : tables_1_4[134]? = some (Cond.code yX7_depthHere cX7_depthHere 1 (some .int)) := rfl
theorem kcw_X7_depthHere : Cond.code yX7_depthHere cX7_depthHere 1 (some .int) ∈ W0 := W0_in (tp_4 (List.mem_of_getElem? kca_X7_depthHere)) rfl
abbrev zk_X7_hold : gy := (yX7_hold, cX7_hold, 4, none, [])
set_option maxRecDepth 100000 in
theorem kca_X7_hold : tables_1_4[122]? = some (Cond.code yX7_hold cX7_hold 4 none) := rfl
theorem kcw_X7_hold : Cond.code yX7_hold cX7_hold 4 none ∈ W0 := W0_in (tp_4 (List.mem_of_getElem? kca_X7_hold)) rfl
abbrev zk_X7_release : gy := (yX7_release, cX7_release, 3, none, [])
set_option maxRecDepth 100000 in
theorem kca_X7_release : tables_1_4[158]? = some (Cond.code yX7_release cX7_release 3 none) := rfl
theorem kcw_X7_release : Cond.code yX7_release cX7_release 3 none ∈ W0 := W0_in (tp_4 (List.mem_of_getElem? kca_X7_release)) rfl
abbrev zk_X7_beginsSum : gy := (yX7_beginsSum, cX7_beginsSum, 2, (some .boolean), [])
set_option maxRecDepth 100000 in
theorem kca_X7_beginsSum : tables_1_4[130]? = some (Cond.code yX7_beginsSum cX7_beginsSum 2 (some .boolean)) := rfl
theorem kcw_X7_beginsSum : Cond.code yX7_beginsSum cX7_beginsSum 2 (some .boolean) ∈ W0 := W0_in (tp_4 (List.mem_of_getElem? kca_X7_beginsSum)) rfl
abbrev zk_X7_openOperand : gy := (yX7_openOperand, cX7_openOperand, 5, (some .int), [])
set_option maxRecDepth 100000 in
theorem kca_X7_openOperand : tables_1_4[126]? = some (Cond.code yX7_openOperand cX7_openOperand 5 (some .int)) := rfl
theorem kcw_X7_openOperand : Cond.code yX7_openOperand cX7_openOperand 5 (some .int) ∈ W0 := W0_in (tp_4 (List.mem_of_getElem? kca_X7_openOperand)) rfl
abbrev zk_X7_strengthOf : gy := (yX7_strengthOf, cX7_strengthOf, 1, (some .int), [])
set_option maxRecDepth 100000 in
theorem kca_X7_strengthOf : tables_1_4[161]? = some (Cond.code yX7_strengthOf cX7_strengthOf 1 (some .int)) := rfl
theorem kcw_X7_strengthOf : Cond.code yX7_strengthOf cX7_strengthOf 1 (some .int) ∈ W0 := W0_in (tp_4 (List.mem_of_getElem? kca_X7_strengthOf)) rfl
abbrev zk_X7_readOperand : gy := (yX7_readOperand, cX7_readOperand, 2, none, [])
set_option maxRecDepth 100000 in
theorem kca_X7_readOperand : tables_1_4[146]? = some (Cond.code yX7_readOperand cX7_readOperand 2 none) := rfl
theorem kcw_X7_readOperand : Cond.code yX7_readOperand cX7_readOperand 2 none ∈ W0 := W0_in (tp_4 (List.mem_of_getElem? kca_X7_readOperand)) rfl
abbrev zk_X7_claimedCell : gy := (yX7_claimedCell, cX7_claimedCell, 2, none, [])
set_option maxRecDepth 100000 in
theorem kca_X7_claimedCell : tables_1_4[138]? = some (Cond.code yX7_claimedCell cX7_claimedCell 2 none) := rfl
theorem kcw_X7_claimedCell : Cond.code yX7_claimedCell cX7_claimedCell 2 none ∈ W0 := W0_in (tp_4 (List.mem_of_getElem? kca_X7_claimedCell)) rfl
abbrev zk_X7_link : gy := (yX7_link, cX7_link, 5, none, [])
set_option maxRecDepth 100000 in
theorem kca_X7_link : tables_1_5[25]? = some (Cond.code yX7_link cX7_link 5 none) := rfl
theorem kcw_X7_link : Cond.code yX7_link cX7_link 5 none ∈ W0 := W0_in (tp_5 (List.mem_of_getElem? kca_X7_link)) rfl
abbrev zk_X8_add : gy := (yX8_add, cX8_add, 5, (some .int), [])
set_option maxRecDepth 100000 in
theorem kca_X8_add : tables_1_4[169]? = some (Cond.code yX8_add cX8_add 5 (some .int)) := rfl
theorem kcw_X8_add : Cond.code yX8_add cX8_add 5 (some .int) ∈ W0 := W0_in (tp_4 (List.mem_of_getElem? kca_X8_add)) rfl
abbrev zk_X9_addByte : gy := (yX9_addByte, cX9_addByte, 2, none, [])
set_option maxRecDepth 100000 in
theorem kca_X9_addByte : tables_1_5[69]? = some (Cond.code yX9_addByte cX9_addByte 2 none) := rfl
theorem kcw_X9_addByte : Cond.code yX9_addByte cX9_addByte 2 none ∈ W0 := W0_in (tp_5 (List.mem_of_getElem? kca_X9_addByte)) rfl
abbrev zk_X9_cut : gy := (yX9_cut, cX9_cut, 3, none, [])
set_option maxRecDepth 100000 in
theorem kca_X9_cut : tables_1_3[108]? = some (Cond.code yX9_cut cX9_cut 3 none) := rfl
theorem kcw_X9_cut : Cond.code yX9_cut cX9_cut 3 none ∈ W0 := W0_in (tp_3 (List.mem_of_getElem? kca_X9_cut)) rfl
abbrev zk_X9_sameName : gy := (yX9_sameName, cX9_sameName, 4, (some .boolean), [])
set_option maxRecDepth 100000 in
theorem kca_X9_sameName : tables_1_4[154]? = some (Cond.code yX9_sameName cX9_sameName 4 (some .boolean)) := rfl
theorem kcw_X9_sameName : Cond.code yX9_sameName cX9_sameName 4 (some .boolean) ∈ W0 := W0_in (tp_4 (List.mem_of_getElem? kca_X9_sameName)) rfl
abbrev zk_X9_byteAt : gy := (yX9_byteAt, cX9_byteAt, 2, (some .int), [])
set_option maxRecDepth 100000 in
theorem kca_X9_byteAt : tables_1_3[116]? = some (Cond.code yX9_byteAt cX9_byteAt 2 (some .int)) := rfl
theorem kcw_X9_byteAt : Cond.code yX9_byteAt cX9_byteAt 2 (some .int) ∈ W0 := W0_in (tp_3 (List.mem_of_getElem? kca_X9_byteAt)) rfl
abbrev zk_X9_skipBlanks : gy := (yX9_skipBlanks, cX9_skipBlanks, 3, none, [])
set_option maxRecDepth 100000 in
theorem kca_X9_skipBlanks : tables_1_3[112]? = some (Cond.code yX9_skipBlanks cX9_skipBlanks 3 none) := rfl
theorem kcw_X9_skipBlanks : Cond.code yX9_skipBlanks cX9_skipBlanks 3 none ∈ W0 := W0_in (tp_3 (List.mem_of_getElem? kca_X9_skipBlanks)) rfl
abbrev zk_X9_cutOne : gy := (yX9_cutOne, cX9_cutOne, 3, (some .int), [])
set_option maxRecDepth 100000 in
theorem kca_X9_cutOne : tables_1_3[120]? = some (Cond.code yX9_cutOne cX9_cutOne 3 (some .int)) := rfl
theorem kcw_X9_cutOne : Cond.code yX9_cutOne cX9_cutOne 3 (some .int) ∈ W0 := W0_in (tp_3 (List.mem_of_getElem? kca_X9_cutOne)) rfl
abbrev zk_X9_passLettersAndDigits : gy := (yX9_passLettersAndDigits, cX9_passLettersAndDigits, 3, none, [])
set_option maxRecDepth 100000 in
theorem kca_X9_passLettersAndDigits : tables_1_3[127]? = some (Cond.code yX9_passLettersAndDigits cX9_passLettersAndDigits 3 none) := rfl
theorem kcw_X9_passLettersAndDigits : Cond.code yX9_passLettersAndDigits cX9_passLettersAndDigits 3 none ∈ W0 := W0_in (tp_3 (List.mem_of_getElem? kca_X9_passLettersAndDigits)) rfl
abbrev zk_X9_nameOrWord : gy := (yX9_nameOrWord, cX9_nameOrWord, 4, (some .int), [])
set_option maxRecDepth 100000 in
theorem kca_X9_nameOrWord : tables_1_3[134]? = some (Cond.code yX9_nameOrWord cX9_nameOrWord 4 (some .int)) := rfl
theorem kcw_X9_nameOrWord : Cond.code yX9_nameOrWord cX9_nameOrWord 4 (some .int) ∈ W0 := W0_in (tp_3 (List.mem_of_getElem? kca_X9_nameOrWord)) rfl
abbrev zk_X9_isWord : gy := (yX9_isWord, cX9_isWord, 6, (some .boolean), [])
set_option maxRecDepth 100000 in
theorem kca_X9_isWord : tables_1_3[138]? = some (Cond.code yX9_isWord cX9_isWord 6 (some .boolean)) := rfl
theorem kcw_X9_isWord : Cond.code yX9_isWord cX9_isWord 6 (some .boolean) ∈ W0 := W0_in (tp_3 (List.mem_of_getElem? kca_X9_isWord)) rfl
abbrev zk_X9_wholeOrBad : gy := (yX9_wholeOrBad, cX9_wholeOrBad, 5, (some .int), [])
set_option maxRecDepth 100000 in
theorem kca_X9_wholeOrBad : tables_1_3[183]? = some (Cond.code yX9_wholeOrBad cX9_wholeOrBad 5 (some .int)) := rfl
theorem kcw_X9_wholeOrBad : Cond.code yX9_wholeOrBad cX9_wholeOrBad 5 (some .int) ∈ W0 := W0_in (tp_3 (List.mem_of_getElem? kca_X9_wholeOrBad)) rfl
abbrev zk_X9_sign : gy := (yX9_sign, cX9_sign, 4, (some .int), [])
set_option maxRecDepth 100000 in
theorem kca_X9_sign : tables_1_3[187]? = some (Cond.code yX9_sign cX9_sign 4 (some .int)) := rfl
theorem kcw_X9_sign : Cond.code yX9_sign cX9_sign 4 (some .int) ∈ W0 := W0_in (tp_3 (List.mem_of_getElem? kca_X9_sign)) rfl
abbrev zk_X9_singleSign : gy := (yX9_singleSign, cX9_singleSign, 1, (some .int), [])
set_option maxRecDepth 100000 in
theorem kca_X9_singleSign : tables_1_3[190]? = some (Cond.code yX9_singleSign cX9_singleSign 1 (some .int)) := rfl
theorem kcw_X9_singleSign : Cond.code yX9_singleSign cX9_singleSign 1 (some .int) ∈ W0 := W0_in (tp_3 (List.mem_of_getElem? kca_X9_singleSign)) rfl
abbrev zk_X9_isLetter : gy := (yX9_isLetter, cX9_isLetter, 1, (some .boolean), [])
set_option maxRecDepth 100000 in
theorem kca_X9_isLetter : tables_1_3[123]? = some (Cond.code yX9_isLetter cX9_isLetter 1 (some .boolean)) := rfl
theorem kcw_X9_isLetter : Cond.code yX9_isLetter cX9_isLetter 1 (some .boolean) ∈ W0 := W0_in (tp_3 (List.mem_of_getElem? kca_X9_isLetter)) rfl
abbrev zk_X9_isDigit : gy := (yX9_isDigit, cX9_isDigit, 1, (some .boolean), [])
set_option maxRecDepth 100000 in
theorem kca_X9_isDigit : tables_1_3[130]? = some (Cond.code yX9_isDigit cX9_isDigit 1 (some .boolean)) := rfl
theorem kcw_X9_isDigit : Cond.code yX9_isDigit cX9_isDigit 1 (some .boolean) ∈ W0 := W0_in (tp_3 (List.mem_of_getElem? kca_X9_isDigit)) rfl
abbrev zk_X10_clear : gy := (yX10_clear, cX10_clear, 2, none, [])
set_option maxRecDepth 100000 in
theorem kca_X10_clear : tables_1_8[5]? = some (Cond.code yX10_clear cX10_clear 2 none) := rfl
theorem kcw_X10_clear : Cond.code yX10_clear cX10_clear 2 none ∈ W0 := W0_in (tp_8 (List.mem_of_getElem? kca_X10_clear)) rfl
abbrev zk_X10_addState : gy := (yX10_addState, cX10_addState, 3, none, [])
set_option maxRecDepth 100000 in
theorem kca_X10_addState : tables_1_8[46]? = some (Cond.code yX10_addState cX10_addState 3 none) := rfl
theorem kcw_X10_addState : Cond.code yX10_addState cX10_addState 3 none ∈ W0 := W0_in (tp_8 (List.mem_of_getElem? kca_X10_addState)) rfl
abbrev zk_X10_find : gy := (yX10_find, cX10_find, 3, none, [])
set_option maxRecDepth 100000 in
theorem kca_X10_find : tables_1_8[87]? = some (Cond.code yX10_find cX10_find 3 none) := rfl
theorem kcw_X10_find : Cond.code yX10_find cX10_find 3 none ∈ W0 := W0_in (tp_8 (List.mem_of_getElem? kca_X10_find)) rfl
abbrev zk_X10_pathTo : gy := (yX10_pathTo, cX10_pathTo, 5, none, [])
set_option maxRecDepth 100000 in
theorem kca_X10_pathTo : tables_1_8[156]? = some (Cond.code yX10_pathTo cX10_pathTo 5 none) := rfl
theorem kcw_X10_pathTo : Cond.code yX10_pathTo cX10_pathTo 5 none ∈ W0 := W0_in (tp_8 (List.mem_of_getElem? kca_X10_pathTo)) rfl
abbrev zk_X10_addTake : gy := (yX10_addTake, cX10_addTake, 4, none, [])
set_option maxRecDepth 100000 in
theorem kca_X10_addTake : tables_1_8[69]? = some (Cond.code yX10_addTake cX10_addTake 4 none) := rfl
theorem kcw_X10_addTake : Cond.code yX10_addTake cX10_addTake 4 none ∈ W0 := W0_in (tp_8 (List.mem_of_getElem? kca_X10_addTake)) rfl
abbrev zk_X10_shortestRing : gy := (yX10_shortestRing, cX10_shortestRing, 4, (some .int), [])
set_option maxRecDepth 100000 in
theorem kca_X10_shortestRing : tables_1_8[174]? = some (Cond.code yX10_shortestRing cX10_shortestRing 4 (some .int)) := rfl
theorem kcw_X10_shortestRing : Cond.code yX10_shortestRing cX10_shortestRing 4 (some .int) ∈ W0 := W0_in (tp_8 (List.mem_of_getElem? kca_X10_shortestRing)) rfl
abbrev zk_X10_ringFrom : gy := (yX10_ringFrom, cX10_ringFrom, 6, (some .int), [])
set_option maxRecDepth 100000 in
theorem kca_X10_ringFrom : tables_1_8[178]? = some (Cond.code yX10_ringFrom cX10_ringFrom 6 (some .int)) := rfl
theorem kcw_X10_ringFrom : Cond.code yX10_ringFrom cX10_ringFrom 6 (some .int) ∈ W0 := W0_in (tp_8 (List.mem_of_getElem? kca_X10_ringFrom)) rfl
abbrev zk_X10_valueOf : gy := (yX10_valueOf, cX10_valueOf, 3, (some .int), [])
set_option maxRecDepth 100000 in
theorem kca_X10_valueOf : tables_1_8[129]? = some (Cond.code yX10_valueOf cX10_valueOf 3 (some .int)) := rfl
theorem kcw_X10_valueOf : Cond.code yX10_valueOf cX10_valueOf 3 (some .int) ∈ W0 := W0_in (tp_8 (List.mem_of_getElem? kca_X10_valueOf)) rfl
abbrev zk_X10_addOutcome : gy := (yX10_addOutcome, cX10_addOutcome, 8, none, [])
set_option maxRecDepth 100000 in
theorem kca_X10_addOutcome : tables_1_8[95]? = some (Cond.code yX10_addOutcome cX10_addOutcome 8 none) := rfl
theorem kcw_X10_addOutcome : Cond.code yX10_addOutcome cX10_addOutcome 8 none ∈ W0 := W0_in (tp_8 (List.mem_of_getElem? kca_X10_addOutcome)) rfl
abbrev zk_X10_insertOutcome : gy := (yX10_insertOutcome, cX10_insertOutcome, 4, none, [])
set_option maxRecDepth 100000 in
theorem kca_X10_insertOutcome : tables_1_8[99]? = some (Cond.code yX10_insertOutcome cX10_insertOutcome 4 none) := rfl
theorem kcw_X10_insertOutcome : Cond.code yX10_insertOutcome cX10_insertOutcome 4 none ∈ W0 := W0_in (tp_8 (List.mem_of_getElem? kca_X10_insertOutcome)) rfl
abbrev zk_X10_order : gy := (yX10_order, cX10_order, 4, (some .int), [])
set_option maxRecDepth 100000 in
theorem kca_X10_order : tables_1_5[40]? = some (Cond.code yX10_order cX10_order 4 (some .int)) := rfl
theorem kcw_X10_order : Cond.code yX10_order cX10_order 4 (some .int) ∈ W0 := W0_in (tp_5 (List.mem_of_getElem? kca_X10_order)) rfl
abbrev zk_X10_sameOutcomes : gy := (yX10_sameOutcomes, cX10_sameOutcomes, 4, (some .boolean), [])
set_option maxRecDepth 100000 in
theorem kca_X10_sameOutcomes : tables_1_5[37]? = some (Cond.code yX10_sameOutcomes cX10_sameOutcomes 4 (some .boolean)) := rfl
theorem kcw_X10_sameOutcomes : Cond.code yX10_sameOutcomes cX10_sameOutcomes 4 (some .boolean) ∈ W0 := W0_in (tp_5 (List.mem_of_getElem? kca_X10_sameOutcomes)) rfl
abbrev zk_X11_feed : gy := (yX11_feed, cX11_feed, 5, (some .int), [])
set_option maxRecDepth 100000 in
theorem kca_X11_feed : tables_1_5[48]? = some (Cond.code yX11_feed cX11_feed 5 (some .int)) := rfl
theorem kcw_X11_feed : Cond.code yX11_feed cX11_feed 5 (some .int) ∈ W0 := W0_in (tp_5 (List.mem_of_getElem? kca_X11_feed)) rfl
abbrev zk_X11_wipe : gy := (yX11_wipe, cX11_wipe, 2, (some .int), [])
set_option maxRecDepth 100000 in
theorem kca_X11_wipe : tables_1_3[95]? = some (Cond.code yX11_wipe cX11_wipe 2 (some .int)) := rfl
theorem kcw_X11_wipe : Cond.code yX11_wipe cX11_wipe 2 (some .int) ∈ W0 := W0_in (tp_3 (List.mem_of_getElem? kca_X11_wipe)) rfl
abbrev zk_X11_compile : gy := (yX11_compile, cX11_compile, 4, (some .int), [(15, 38, 41, 102)])
set_option maxRecDepth 100000 in
theorem kca_X11_compile : tables_1_3[103]? = some (Cond.codeWith yX11_compile cX11_compile 4 (some .int) [(15, 38, 41, 102)]) := rfl
theorem kcw_X11_compile : Cond.codeWith yX11_compile cX11_compile 4 (some .int) [(15, 38, 41, 102)] ∈ W0 := W0_in (tp_3 (List.mem_of_getElem? kca_X11_compile)) rfl
abbrev zk_X11_fault : gy := (yX11_fault, cX11_fault, 2, (some .int), [])
set_option maxRecDepth 100000 in
theorem kca_X11_fault : tables_1_5[77]? = some (Cond.code yX11_fault cX11_fault 2 (some .int)) := rfl
theorem kcw_X11_fault : Cond.code yX11_fault cX11_fault 2 (some .int) ∈ W0 := W0_in (tp_5 (List.mem_of_getElem? kca_X11_fault)) rfl
abbrev zk_X11_count : gy := (yX11_count, cX11_count, 2, (some .int), [])
set_option maxRecDepth 100000 in
theorem kca_X11_count : tables_1_5[100]? = some (Cond.code yX11_count cX11_count 2 (some .int)) := rfl
theorem kcw_X11_count : Cond.code yX11_count cX11_count 2 (some .int) ∈ W0 := W0_in (tp_5 (List.mem_of_getElem? kca_X11_count)) rfl
abbrev zk_X11_begin : gy := (yX11_begin, cX11_begin, 2, (some .int), [])
set_option maxRecDepth 100000 in
theorem kca_X11_begin : tables_1_5[111]? = some (Cond.code yX11_begin cX11_begin 2 (some .int)) := rfl
theorem kcw_X11_begin : Cond.code yX11_begin cX11_begin 2 (some .int) ∈ W0 := W0_in (tp_5 (List.mem_of_getElem? kca_X11_begin)) rfl
abbrev zk_X11_choices : gy := (yX11_choices, cX11_choices, 1, (some .int), [])
set_option maxRecDepth 100000 in
theorem kca_X11_choices : tables_1_5[231]? = some (Cond.code yX11_choices cX11_choices 1 (some .int)) := rfl
theorem kcw_X11_choices : Cond.code yX11_choices cX11_choices 1 (some .int) ∈ W0 := W0_in (tp_5 (List.mem_of_getElem? kca_X11_choices)) rfl
abbrev zk_X11_choice : gy := (yX11_choice, cX11_choice, 5, (some .int), [])
set_option maxRecDepth 100000 in
theorem kca_X11_choice : tables_1_6[3]? = some (Cond.code yX11_choice cX11_choice 5 (some .int)) := rfl
theorem kcw_X11_choice : Cond.code yX11_choice cX11_choice 5 (some .int) ∈ W0 := W0_in (tp_6 (List.mem_of_getElem? kca_X11_choice)) rfl
abbrev zk_X11_go : gy := (yX11_go, cX11_go, 2, (some .int), [])
set_option maxRecDepth 100000 in
theorem kca_X11_go : tables_1_6[24]? = some (Cond.code yX11_go cX11_go 2 (some .int)) := rfl
theorem kcw_X11_go : Cond.code yX11_go cX11_go 2 (some .int) ∈ W0 := W0_in (tp_6 (List.mem_of_getElem? kca_X11_go)) rfl
abbrev zk_X11_draw : gy := (yX11_draw, cX11_draw, 6, (some .int), [])
set_option maxRecDepth 100000 in
theorem kca_X11_draw : tables_1_6[143]? = some (Cond.code yX11_draw cX11_draw 6 (some .int)) := rfl
theorem kcw_X11_draw : Cond.code yX11_draw cX11_draw 6 (some .int) ∈ W0 := W0_in (tp_6 (List.mem_of_getElem? kca_X11_draw)) rfl
abbrev zk_X11_again : gy := (yX11_again, cX11_again, 3, (some .int), [])
set_option maxRecDepth 100000 in
theorem kca_X11_again : tables_1_6[152]? = some (Cond.code yX11_again cX11_again 3 (some .int)) := rfl
theorem kcw_X11_again : Cond.code yX11_again cX11_again 3 (some .int) ∈ W0 := W0_in (tp_6 (List.mem_of_getElem? kca_X11_again)) rfl
abbrev zk_X11_run : gy := (yX11_run, cX11_run, 2, (some .int), [])
set_option maxRecDepth 100000 in
theorem kca_X11_run : tables_1_6[160]? = some (Cond.code yX11_run cX11_run 2 (some .int)) := rfl
theorem kcw_X11_run : Cond.code yX11_run cX11_run 2 (some .int) ∈ W0 := W0_in (tp_6 (List.mem_of_getElem? kca_X11_run)) rfl
abbrev zk_X11_cell : gy := (yX11_cell, cX11_cell, 2, (some .int), [])
set_option maxRecDepth 100000 in
theorem kca_X11_cell : tables_1_6[183]? = some (Cond.code yX11_cell cX11_cell 2 (some .int)) := rfl
theorem kcw_X11_cell : Cond.code yX11_cell cX11_cell 2 (some .int) ∈ W0 := W0_in (tp_6 (List.mem_of_getElem? kca_X11_cell)) rfl
abbrev zk_X11_seen : gy := (yX11_seen, cX11_seen, 3, (some .int), [])
set_option maxRecDepth 100000 in
theorem kca_X11_seen : tables_1_6[190]? = some (Cond.code yX11_seen cX11_seen 3 (some .int)) := rfl
theorem kcw_X11_seen : Cond.code yX11_seen cX11_seen 3 (some .int) ∈ W0 := W0_in (tp_6 (List.mem_of_getElem? kca_X11_seen)) rfl
abbrev zk_X11_lock : gy := (yX11_lock, cX11_lock, 3, (some .int), [])
set_option maxRecDepth 100000 in
theorem kca_X11_lock : tables_1_6[198]? = some (Cond.code yX11_lock cX11_lock 3 (some .int)) := rfl
theorem kcw_X11_lock : Cond.code yX11_lock cX11_lock 3 (some .int) ∈ W0 := W0_in (tp_6 (List.mem_of_getElem? kca_X11_lock)) rfl
abbrev zk_X11_thread : gy := (yX11_thread, cX11_thread, 3, (some .int), [])
set_option maxRecDepth 100000 in
theorem kca_X11_thread : tables_1_6[214]? = some (Cond.code yX11_thread cX11_thread 3 (some .int)) := rfl
theorem kcw_X11_thread : Cond.code yX11_thread cX11_thread 3 (some .int) ∈ W0 := W0_in (tp_6 (List.mem_of_getElem? kca_X11_thread)) rfl
abbrev zk_X11_local : gy := (yX11_local, cX11_local, 3, (some .int), [])
set_option maxRecDepth 100000 in
theorem kca_X11_local : tables_1_6[227]? = some (Cond.code yX11_local cX11_local 3 (some .int)) := rfl
theorem kcw_X11_local : Cond.code yX11_local cX11_local 3 (some .int) ∈ W0 := W0_in (tp_6 (List.mem_of_getElem? kca_X11_local)) rfl
abbrev zk_X11_act : gy := (yX11_act, cX11_act, 3, (some .int), [])
set_option maxRecDepth 100000 in
theorem kca_X11_act : tables_1_6[234]? = some (Cond.code yX11_act cX11_act 3 (some .int)) := rfl
theorem kcw_X11_act : Cond.code yX11_act cX11_act 3 (some .int) ∈ W0 := W0_in (tp_6 (List.mem_of_getElem? kca_X11_act)) rfl
abbrev zk_X11_before : gy := (yX11_before, cX11_before, 3, (some .boolean), [])
set_option maxRecDepth 100000 in
theorem kca_X11_before : tables_1_7[1]? = some (Cond.code yX11_before cX11_before 3 (some .boolean)) := rfl
theorem kcw_X11_before : Cond.code yX11_before cX11_before 3 (some .boolean) ∈ W0 := W0_in (tp_7 (List.mem_of_getElem? kca_X11_before)) rfl
abbrev zk_X11_race : gy := (yX11_race, cX11_race, 4, (some .int), [])
set_option maxRecDepth 100000 in
theorem kca_X11_race : tables_1_7[9]? = some (Cond.code yX11_race cX11_race 4 (some .int)) := rfl
theorem kcw_X11_race : Cond.code yX11_race cX11_race 4 (some .int) ∈ W0 := W0_in (tp_7 (List.mem_of_getElem? kca_X11_race)) rfl
abbrev zk_X11_linear : gy := (yX11_linear, cX11_linear, 3, (some .int), [])
set_option maxRecDepth 100000 in
theorem kca_X11_linear : tables_1_7[24]? = some (Cond.code yX11_linear cX11_linear 3 (some .int)) := rfl
theorem kcw_X11_linear : Cond.code yX11_linear cX11_linear 3 (some .int) ∈ W0 := W0_in (tp_7 (List.mem_of_getElem? kca_X11_linear)) rfl
abbrev zk_X11_attempt : gy := (yX11_attempt, cX11_attempt, 3, (some .int), [])
set_option maxRecDepth 100000 in
theorem kca_X11_attempt : tables_1_7[132]? = some (Cond.code yX11_attempt cX11_attempt 3 (some .int)) := rfl
theorem kcw_X11_attempt : Cond.code yX11_attempt cX11_attempt 3 (some .int) ∈ W0 := W0_in (tp_7 (List.mem_of_getElem? kca_X11_attempt)) rfl
abbrev zk_X11_tried : gy := (yX11_tried, cX11_tried, 4, (some .int), [])
set_option maxRecDepth 100000 in
theorem kca_X11_tried : tables_1_8[118]? = some (Cond.code yX11_tried cX11_tried 4 (some .int)) := rfl
theorem kcw_X11_tried : Cond.code yX11_tried cX11_tried 4 (some .int) ∈ W0 := W0_in (tp_8 (List.mem_of_getElem? kca_X11_tried)) rfl
abbrev zk_X11_outcome : gy := (yX11_outcome, cX11_outcome, 4, (some .int), [])
set_option maxRecDepth 100000 in
theorem kca_X11_outcome : tables_1_8[125]? = some (Cond.code yX11_outcome cX11_outcome 4 (some .int)) := rfl
theorem kcw_X11_outcome : Cond.code yX11_outcome cX11_outcome 4 (some .int) ∈ W0 := W0_in (tp_8 (List.mem_of_getElem? kca_X11_outcome)) rfl
abbrev zk_X11_finding : gy := (yX11_finding, cX11_finding, 4, (some .int), [])
set_option maxRecDepth 100000 in
theorem kca_X11_finding : tables_1_8[136]? = some (Cond.code yX11_finding cX11_finding 4 (some .int)) := rfl
theorem kcw_X11_finding : Cond.code yX11_finding cX11_finding 4 (some .int) ∈ W0 := W0_in (tp_8 (List.mem_of_getElem? kca_X11_finding)) rfl
abbrev zk_X11_show : gy := (yX11_show, cX11_show, 6, (some .int), [])
set_option maxRecDepth 100000 in
theorem kca_X11_show : tables_1_8[151]? = some (Cond.code yX11_show cX11_show 6 (some .int)) := rfl
theorem kcw_X11_show : Cond.code yX11_show cX11_show 6 (some .int) ∈ W0 := W0_in (tp_8 (List.mem_of_getElem? kca_X11_show)) rfl
abbrev zk_X11_common : gy := (yX11_common, cX11_common, 3, (some .int), [])
set_option maxRecDepth 100000 in
theorem kca_X11_common : tables_1_8[163]? = some (Cond.code yX11_common cX11_common 3 (some .int)) := rfl
theorem kcw_X11_common : Cond.code yX11_common cX11_common 3 (some .int) ∈ W0 := W0_in (tp_8 (List.mem_of_getElem? kca_X11_common)) rfl
abbrev zk_X11_ring : gy := (yX11_ring, cX11_ring, 2, (some .int), [])
set_option maxRecDepth 100000 in
theorem kca_X11_ring : tables_1_8[170]? = some (Cond.code yX11_ring cX11_ring 2 (some .int)) := rfl
theorem kcw_X11_ring : Cond.code yX11_ring cX11_ring 2 (some .int) ∈ W0 := W0_in (tp_8 (List.mem_of_getElem? kca_X11_ring)) rfl
abbrev zk_X11_alike : gy := (yX11_alike, cX11_alike, 1, (some .int), [])
set_option maxRecDepth 100000 in
theorem kca_X11_alike : tables_1_5[29]? = some (Cond.code yX11_alike cX11_alike 1 (some .int)) := rfl
theorem kcw_X11_alike : Cond.code yX11_alike cX11_alike 1 (some .int) ∈ W0 := W0_in (tp_5 (List.mem_of_getElem? kca_X11_alike)) rfl
abbrev zk_X11_forgetAll : gy := (yX11_forgetAll, cX11_forgetAll, 2, none, [])
set_option maxRecDepth 100000 in
theorem kca_X11_forgetAll : tables_1_3[99]? = some (Cond.code yX11_forgetAll cX11_forgetAll 2 none) := rfl
theorem kcw_X11_forgetAll : Cond.code yX11_forgetAll cX11_forgetAll 2 none ∈ W0 := W0_in (tp_3 (List.mem_of_getElem? kca_X11_forgetAll)) rfl
abbrev zk_X11_beginRun : gy := (yX11_beginRun, cX11_beginRun, 2, none, [])
set_option maxRecDepth 100000 in
theorem kca_X11_beginRun : tables_1_5[125]? = some (Cond.code yX11_beginRun cX11_beginRun 2 none) := rfl
theorem kcw_X11_beginRun : Cond.code yX11_beginRun cX11_beginRun 2 none ∈ W0 := W0_in (tp_5 (List.mem_of_getElem? kca_X11_beginRun)) rfl
abbrev zk_X11_doChoice : gy := (yX11_doChoice, cX11_doChoice, 2, none, [])
set_option maxRecDepth 100000 in
theorem kca_X11_doChoice : tables_1_6[29]? = some (Cond.code yX11_doChoice cX11_doChoice 2 none) := rfl
theorem kcw_X11_doChoice : Cond.code yX11_doChoice cX11_doChoice 2 none ∈ W0 := W0_in (tp_6 (List.mem_of_getElem? kca_X11_doChoice)) rfl
abbrev zk_X11_wasTried : gy := (yX11_wasTried, cX11_wasTried, 2, (some .boolean), [])
set_option maxRecDepth 100000 in
theorem kca_X11_wasTried : tables_1_5[33]? = some (Cond.code yX11_wasTried cX11_wasTried 2 (some .boolean)) := rfl
theorem kcw_X11_wasTried : Cond.code yX11_wasTried cX11_wasTried 2 (some .boolean) ∈ W0 := W0_in (tp_5 (List.mem_of_getElem? kca_X11_wasTried)) rfl
abbrev zk_X11_firstState : gy := (yX11_firstState, cX11_firstState, 3, (some .int), [])
set_option maxRecDepth 100000 in
theorem kca_X11_firstState : tables_1_8[144]? = some (Cond.code yX11_firstState cX11_firstState 3 (some .int)) := rfl
theorem kcw_X11_firstState : Cond.code yX11_firstState cX11_firstState 3 (some .int) ∈ W0 := W0_in (tp_8 (List.mem_of_getElem? kca_X11_firstState)) rfl
abbrev zk_X11_needCompiled : gy := (yX11_needCompiled, cX11_needCompiled, 1, none, [])
set_option maxRecDepth 100000 in
theorem kca_X11_needCompiled : tables_1_5[115]? = some (Cond.code yX11_needCompiled cX11_needCompiled 1 none) := rfl
theorem kcw_X11_needCompiled : Cond.code yX11_needCompiled cX11_needCompiled 1 none ∈ W0 := W0_in (tp_5 (List.mem_of_getElem? kca_X11_needCompiled)) rfl
abbrev zk_X11_needRun : gy := (yX11_needRun, cX11_needRun, 1, none, [])
set_option maxRecDepth 100000 in
theorem kca_X11_needRun : tables_1_5[235]? = some (Cond.code yX11_needRun cX11_needRun 1 none) := rfl
theorem kcw_X11_needRun : Cond.code yX11_needRun cX11_needRun 1 none ∈ W0 := W0_in (tp_5 (List.mem_of_getElem? kca_X11_needRun)) rfl
abbrev zk_X11_needWay : gy := (yX11_needWay, cX11_needWay, 1, none, [])
set_option maxRecDepth 100000 in
theorem kca_X11_needWay : tables_1_5[120]? = some (Cond.code yX11_needWay cX11_needWay 1 none) := rfl
theorem kcw_X11_needWay : Cond.code yX11_needWay cX11_needWay 1 none ∈ W0 := W0_in (tp_5 (List.mem_of_getElem? kca_X11_needWay)) rfl
abbrev zk_X11_needFinding : gy := (yX11_needFinding, cX11_needFinding, 1, none, [])
set_option maxRecDepth 100000 in
theorem kca_X11_needFinding : tables_1_8[139]? = some (Cond.code yX11_needFinding cX11_needFinding 1 none) := rfl
theorem kcw_X11_needFinding : Cond.code yX11_needFinding cX11_needFinding 1 none ∈ W0 := W0_in (tp_8 (List.mem_of_getElem? kca_X11_needFinding)) rfl
abbrev zk_X11_needIndex : gy := (yX11_needIndex, cX11_needIndex, 2, none, [])
set_option maxRecDepth 100000 in
theorem kca_X11_needIndex : tables_1_6[6]? = some (Cond.code yX11_needIndex cX11_needIndex 2 none) := rfl
theorem kcw_X11_needIndex : Cond.code yX11_needIndex cX11_needIndex 2 none ∈ W0 := W0_in (tp_6 (List.mem_of_getElem? kca_X11_needIndex)) rfl
abbrev zk_X11_needWhat : gy := (yX11_needWhat, cX11_needWhat, 2, none, [])
set_option maxRecDepth 100000 in
theorem kca_X11_needWhat : tables_1_5[103]? = some (Cond.code yX11_needWhat cX11_needWhat 2 none) := rfl
theorem kcw_X11_needWhat : Cond.code yX11_needWhat cX11_needWhat 2 none ∈ W0 := W0_in (tp_5 (List.mem_of_getElem? kca_X11_needWhat)) rfl
theorem kcv_X0_78 : gMv RX0 78 zk_X0_operate 3 := ⟨⟨W0_in (tp_5 (List.mem_of_getElem? (i := 164) (by decide +kernel))) rfl, W0_in (tp_5 (List.mem_of_getElem? (i := 166) (by decide +kernel))) rfl, W0_in (List.mem_of_getElem? (i := 62) (by decide +kernel)) rfl, W0_in (tp_1 (List.mem_of_getElem? (i := 4) (by decide +kernel))) rfl, kcw_X0_operate⟩, ⟨by decide, by decide, by decide +kernel⟩, by decide, by decide⟩
theorem kcv_X2_54 : gMv RX2 54 zk_X10_clear 1 := ⟨⟨W0_in (tp_8 (List.mem_of_getElem? (i := 2) (by decide +kernel))) rfl, W0_in (tp_8 (List.mem_of_getElem? (i := 3) (by decide +kernel))) rfl, W0_in (tp_8 (List.mem_of_getElem? (i := 4) (by decide +kernel))) rfl, W0_in (tp_1 (List.mem_of_getElem? (i := 27) (by decide +kernel))) rfl, kcw_X10_clear⟩, ⟨by decide, by decide, by decide +kernel⟩, by decide, by decide⟩
theorem kcv_X2_66 : gMv RX2 66 zk_X5_reset 1 := ⟨⟨W0_in (tp_8 (List.mem_of_getElem? (i := 8) (by decide +kernel))) rfl, W0_in (tp_5 (List.mem_of_getElem? (i := 127) (by decide +kernel))) rfl, W0_in (tp_5 (List.mem_of_getElem? (i := 128) (by decide +kernel))) rfl, W0_in (tp_1 (List.mem_of_getElem? (i := 7) (by decide +kernel))) rfl, kcw_X5_reset⟩, ⟨by decide, by decide, by decide +kernel⟩, by decide, by decide⟩
theorem kcv_X2_69 : gMv RX2 69 zk_X2_addState 3 := ⟨⟨W0_in (tp_8 (List.mem_of_getElem? (i := 9) (by decide +kernel))) rfl, W0_in (tp_8 (List.mem_of_getElem? (i := 11) (by decide +kernel))) rfl, W0_in (List.mem_of_getElem? (i := 97) (by decide +kernel)) rfl, W0_in (tp_1 (List.mem_of_getElem? (i := 26) (by decide +kernel))) rfl, kcw_X2_addState⟩, ⟨by decide, by decide, by decide +kernel⟩, by decide, by decide⟩
theorem kcv_X2_76 : gMv RX2 76 zk_X2_recall 1 := ⟨⟨W0_in (tp_8 (List.mem_of_getElem? (i := 47) (by decide +kernel))) rfl, W0_in (tp_8 (List.mem_of_getElem? (i := 49) (by decide +kernel))) rfl, W0_in (List.mem_of_getElem? (i := 103) (by decide +kernel)) rfl, W0_in (tp_1 (List.mem_of_getElem? (i := 26) (by decide +kernel))) rfl, kcw_X2_recall⟩, ⟨by decide, by decide, by decide +kernel⟩, by decide, by decide⟩
theorem kcv_X2_79 : gMv RX2 79 zk_X5_listChoices 0 := ⟨⟨W0_in (tp_8 (List.mem_of_getElem? (i := 51) (by decide +kernel))) rfl, W0_in (tp_5 (List.mem_of_getElem? (i := 181) (by decide +kernel))) rfl, W0_in (tp_5 (List.mem_of_getElem? (i := 182) (by decide +kernel))) rfl, W0_in (tp_1 (List.mem_of_getElem? (i := 7) (by decide +kernel))) rfl, kcw_X5_listChoices⟩, ⟨by decide, by decide, by decide +kernel⟩, by decide, by decide⟩
theorem kcv_X2_82 : gMv RX2 82 zk_X2_inspectActs 0 := ⟨⟨W0_in (tp_8 (List.mem_of_getElem? (i := 52) (by decide +kernel))) rfl, W0_in (tp_8 (List.mem_of_getElem? (i := 54) (by decide +kernel))) rfl, W0_in (List.mem_of_getElem? (i := 104) (by decide +kernel)) rfl, W0_in (tp_1 (List.mem_of_getElem? (i := 26) (by decide +kernel))) rfl, kcw_X2_inspectActs⟩, ⟨by decide, by decide, by decide +kernel⟩, by decide, by decide⟩
theorem kcv_X2_85 : gMv RX2 85 zk_X2_inspect 1 := ⟨⟨W0_in (tp_8 (List.mem_of_getElem? (i := 75) (by decide +kernel))) rfl, W0_in (tp_8 (List.mem_of_getElem? (i := 77) (by decide +kernel))) rfl, W0_in (List.mem_of_getElem? (i := 106) (by decide +kernel)) rfl, W0_in (tp_1 (List.mem_of_getElem? (i := 26) (by decide +kernel))) rfl, kcw_X2_inspect⟩, ⟨by decide, by decide, by decide +kernel⟩, by decide, by decide⟩
theorem kcv_X2_95 : gMv RX2 95 zk_X5_perform 1 := ⟨⟨W0_in (tp_8 (List.mem_of_getElem? (i := 111) (by decide +kernel))) rfl, W0_in (tp_6 (List.mem_of_getElem? (i := 31) (by decide +kernel))) rfl, W0_in (tp_6 (List.mem_of_getElem? (i := 32) (by decide +kernel))) rfl, W0_in (tp_1 (List.mem_of_getElem? (i := 7) (by decide +kernel))) rfl, kcw_X5_perform⟩, ⟨by decide, by decide, by decide +kernel⟩, by decide, by decide⟩
theorem kcv_X2_98 : gMv RX2 98 zk_X2_isKept 0 := ⟨⟨W0_in (tp_8 (List.mem_of_getElem? (i := 13) (by decide +kernel))) rfl, W0_in (tp_8 (List.mem_of_getElem? (i := 15) (by decide +kernel))) rfl, W0_in (List.mem_of_getElem? (i := 98) (by decide +kernel)) rfl, W0_in (tp_1 (List.mem_of_getElem? (i := 26) (by decide +kernel))) rfl, kcw_X2_isKept⟩, ⟨by decide, by decide, by decide +kernel⟩, by decide, by decide⟩
theorem kcv_X2_102 : gMv RX2 102 zk_X2_keep 2 := ⟨⟨W0_in (tp_8 (List.mem_of_getElem? (i := 38) (by decide +kernel))) rfl, W0_in (tp_8 (List.mem_of_getElem? (i := 40) (by decide +kernel))) rfl, W0_in (List.mem_of_getElem? (i := 102) (by decide +kernel)) rfl, W0_in (tp_1 (List.mem_of_getElem? (i := 26) (by decide +kernel))) rfl, kcw_X2_keep⟩, ⟨by decide, by decide, by decide +kernel⟩, by decide, by decide⟩
theorem kcv_X2_118 : gMv RX2 118 zk_X5_mix 0 := ⟨⟨W0_in (tp_8 (List.mem_of_getElem? (i := 17) (by decide +kernel))) rfl, W0_in (tp_8 (List.mem_of_getElem? (i := 18) (by decide +kernel))) rfl, W0_in (tp_8 (List.mem_of_getElem? (i := 19) (by decide +kernel))) rfl, W0_in (tp_1 (List.mem_of_getElem? (i := 7) (by decide +kernel))) rfl, kcw_X5_mix⟩, ⟨by decide, by decide, by decide +kernel⟩, by decide, by decide⟩
theorem kcv_X2_127 : gMv RX2 127 zk_X5_isSame 1 := ⟨⟨W0_in (tp_8 (List.mem_of_getElem? (i := 30) (by decide +kernel))) rfl, W0_in (tp_8 (List.mem_of_getElem? (i := 31) (by decide +kernel))) rfl, W0_in (tp_8 (List.mem_of_getElem? (i := 32) (by decide +kernel))) rfl, W0_in (tp_1 (List.mem_of_getElem? (i := 7) (by decide +kernel))) rfl, kcw_X5_isSame⟩, ⟨by decide, by decide, by decide +kernel⟩, by decide, by decide⟩
theorem kcv_X2_131 : gMv RX2 131 zk_X10_addState 2 := ⟨⟨W0_in (tp_8 (List.mem_of_getElem? (i := 43) (by decide +kernel))) rfl, W0_in (tp_8 (List.mem_of_getElem? (i := 44) (by decide +kernel))) rfl, W0_in (tp_8 (List.mem_of_getElem? (i := 45) (by decide +kernel))) rfl, W0_in (tp_1 (List.mem_of_getElem? (i := 27) (by decide +kernel))) rfl, kcw_X10_addState⟩, ⟨by decide, by decide, by decide +kernel⟩, by decide, by decide⟩
theorem kcv_X2_142 : gMv RX2 142 zk_X2_isFalse 1 := ⟨⟨W0_in (tp_8 (List.mem_of_getElem? (i := 79) (by decide +kernel))) rfl, W0_in (tp_8 (List.mem_of_getElem? (i := 81) (by decide +kernel))) rfl, W0_in (List.mem_of_getElem? (i := 107) (by decide +kernel)) rfl, W0_in (tp_1 (List.mem_of_getElem? (i := 26) (by decide +kernel))) rfl, kcw_X2_isFalse⟩, ⟨by decide, by decide, by decide +kernel⟩, by decide, by decide⟩
theorem kcv_X2_146 : gMv RX2 146 zk_X10_find 2 := ⟨⟨W0_in (tp_8 (List.mem_of_getElem? (i := 84) (by decide +kernel))) rfl, W0_in (tp_8 (List.mem_of_getElem? (i := 85) (by decide +kernel))) rfl, W0_in (tp_8 (List.mem_of_getElem? (i := 86) (by decide +kernel))) rfl, W0_in (tp_1 (List.mem_of_getElem? (i := 27) (by decide +kernel))) rfl, kcw_X10_find⟩, ⟨by decide, by decide, by decide +kernel⟩, by decide, by decide⟩
theorem kcv_X2_149 : gMv RX2 149 zk_X2_inspectEnd 1 := ⟨⟨W0_in (tp_8 (List.mem_of_getElem? (i := 88) (by decide +kernel))) rfl, W0_in (tp_8 (List.mem_of_getElem? (i := 90) (by decide +kernel))) rfl, W0_in (List.mem_of_getElem? (i := 108) (by decide +kernel)) rfl, W0_in (tp_1 (List.mem_of_getElem? (i := 26) (by decide +kernel))) rfl, kcw_X2_inspectEnd⟩, ⟨by decide, by decide, by decide +kernel⟩, by decide, by decide⟩
theorem kcv_X2_152 : gMv RX2 152 zk_X5_anyFailed 0 := ⟨⟨W0_in (tp_8 (List.mem_of_getElem? (i := 102) (by decide +kernel))) rfl, W0_in (tp_8 (List.mem_of_getElem? (i := 103) (by decide +kernel))) rfl, W0_in (tp_8 (List.mem_of_getElem? (i := 104) (by decide +kernel))) rfl, W0_in (tp_1 (List.mem_of_getElem? (i := 7) (by decide +kernel))) rfl, kcw_X5_anyFailed⟩, ⟨by decide, by decide, by decide +kernel⟩, by decide, by decide⟩
theorem kcv_X2_155 : gMv RX2 155 zk_X2_isRacing 0 := ⟨⟨W0_in (tp_8 (List.mem_of_getElem? (i := 106) (by decide +kernel))) rfl, W0_in (tp_8 (List.mem_of_getElem? (i := 108) (by decide +kernel))) rfl, W0_in (List.mem_of_getElem? (i := 110) (by decide +kernel)) rfl, W0_in (tp_1 (List.mem_of_getElem? (i := 26) (by decide +kernel))) rfl, kcw_X2_isRacing⟩, ⟨by decide, by decide, by decide +kernel⟩, by decide, by decide⟩
theorem kcv_X2_164 : gMv RX2 164 zk_X10_addOutcome 2 := ⟨⟨W0_in (tp_8 (List.mem_of_getElem? (i := 92) (by decide +kernel))) rfl, W0_in (tp_8 (List.mem_of_getElem? (i := 93) (by decide +kernel))) rfl, W0_in (tp_8 (List.mem_of_getElem? (i := 94) (by decide +kernel))) rfl, W0_in (tp_1 (List.mem_of_getElem? (i := 27) (by decide +kernel))) rfl, kcw_X10_addOutcome⟩, ⟨by decide, by decide, by decide +kernel⟩, by decide, by decide⟩
theorem kcv_X2_167 : gMv RX2 167 zk_X5_anyGoing 0 := ⟨⟨W0_in (tp_8 (List.mem_of_getElem? (i := 101) (by decide +kernel))) rfl, W0_in (tp_6 (List.mem_of_getElem? (i := 166) (by decide +kernel))) rfl, W0_in (tp_6 (List.mem_of_getElem? (i := 167) (by decide +kernel))) rfl, W0_in (tp_1 (List.mem_of_getElem? (i := 7) (by decide +kernel))) rfl, kcw_X5_anyGoing⟩, ⟨by decide, by decide, by decide +kernel⟩, by decide, by decide⟩
theorem kcv_X2_176 : gMv RX2 176 zk_X0_work 4 := ⟨⟨W0_in (tp_8 (List.mem_of_getElem? (i := 83) (by decide +kernel))) rfl, W0_in (tp_5 (List.mem_of_getElem? (i := 161) (by decide +kernel))) rfl, W0_in (tp_5 (List.mem_of_getElem? (i := 162) (by decide +kernel))) rfl, W0_in (tp_1 (List.mem_of_getElem? (i := 4) (by decide +kernel))) rfl, kcw_X0_work⟩, ⟨by decide, by decide, by decide +kernel⟩, by decide, by decide⟩
theorem kcv_X2_192 : gMv RX2 192 zk_X2_inspectAct 1 := ⟨⟨W0_in (tp_8 (List.mem_of_getElem? (i := 56) (by decide +kernel))) rfl, W0_in (tp_8 (List.mem_of_getElem? (i := 58) (by decide +kernel))) rfl, W0_in (List.mem_of_getElem? (i := 105) (by decide +kernel)) rfl, W0_in (tp_1 (List.mem_of_getElem? (i := 26) (by decide +kernel))) rfl, kcw_X2_inspectAct⟩, ⟨by decide, by decide, by decide +kernel⟩, by decide, by decide⟩
theorem kcv_X2_195 : gMv RX2 195 zk_X5_isGoing 1 := ⟨⟨W0_in (tp_8 (List.mem_of_getElem? (i := 74) (by decide +kernel))) rfl, W0_in (tp_5 (List.mem_of_getElem? (i := 145) (by decide +kernel))) rfl, W0_in (tp_5 (List.mem_of_getElem? (i := 146) (by decide +kernel))) rfl, W0_in (tp_1 (List.mem_of_getElem? (i := 7) (by decide +kernel))) rfl, kcw_X5_isGoing⟩, ⟨by decide, by decide, by decide +kernel⟩, by decide, by decide⟩
theorem kcv_X2_201 : gMv RX2 201 zk_X5_sortOf 1 := ⟨⟨W0_in (tp_8 (List.mem_of_getElem? (i := 60) (by decide +kernel))) rfl, W0_in (tp_5 (List.mem_of_getElem? (i := 189) (by decide +kernel))) rfl, W0_in (tp_5 (List.mem_of_getElem? (i := 190) (by decide +kernel))) rfl, W0_in (tp_1 (List.mem_of_getElem? (i := 7) (by decide +kernel))) rfl, kcw_X5_sortOf⟩, ⟨by decide, by decide, by decide +kernel⟩, by decide, by decide⟩
theorem kcv_X2_205 : gMv RX2 205 zk_X5_objectOf 1 := ⟨⟨W0_in (tp_8 (List.mem_of_getElem? (i := 61) (by decide +kernel))) rfl, W0_in (tp_6 (List.mem_of_getElem? (i := 10) (by decide +kernel))) rfl, W0_in (tp_6 (List.mem_of_getElem? (i := 11) (by decide +kernel))) rfl, W0_in (tp_1 (List.mem_of_getElem? (i := 7) (by decide +kernel))) rfl, kcw_X5_objectOf⟩, ⟨by decide, by decide, by decide +kernel⟩, by decide, by decide⟩
theorem kcv_X2_208 : gMv RX2 208 zk_X5_heldBy 1 := ⟨⟨W0_in (tp_8 (List.mem_of_getElem? (i := 62) (by decide +kernel))) rfl, W0_in (tp_8 (List.mem_of_getElem? (i := 63) (by decide +kernel))) rfl, W0_in (tp_8 (List.mem_of_getElem? (i := 64) (by decide +kernel))) rfl, W0_in (tp_1 (List.mem_of_getElem? (i := 7) (by decide +kernel))) rfl, kcw_X5_heldBy⟩, ⟨by decide, by decide, by decide +kernel⟩, by decide, by decide⟩
theorem kcv_X2_211 : gMv RX2 211 zk_X10_addTake 2 := ⟨⟨W0_in (tp_8 (List.mem_of_getElem? (i := 66) (by decide +kernel))) rfl, W0_in (tp_8 (List.mem_of_getElem? (i := 67) (by decide +kernel))) rfl, W0_in (tp_8 (List.mem_of_getElem? (i := 68) (by decide +kernel))) rfl, W0_in (tp_1 (List.mem_of_getElem? (i := 27) (by decide +kernel))) rfl, kcw_X10_addTake⟩, ⟨by decide, by decide, by decide +kernel⟩, by decide, by decide⟩
theorem kcv_X2_221 : gMv RX2 221 zk_X5_accessFails 1 := ⟨⟨W0_in (tp_8 (List.mem_of_getElem? (i := 70) (by decide +kernel))) rfl, W0_in (tp_8 (List.mem_of_getElem? (i := 71) (by decide +kernel))) rfl, W0_in (tp_8 (List.mem_of_getElem? (i := 72) (by decide +kernel))) rfl, W0_in (tp_1 (List.mem_of_getElem? (i := 7) (by decide +kernel))) rfl, kcw_X5_accessFails⟩, ⟨by decide, by decide, by decide +kernel⟩, by decide, by decide⟩
theorem kcs_X2_224 : gMs RX2 224 zk_X4_sortsRace 2 := ⟨⟨W0_in (tp_8 (List.mem_of_getElem? (i := 110) (by decide +kernel))) rfl, W0_in (tp_6 (List.mem_of_getElem? (i := 131) (by decide +kernel))) rfl, W0_in (tp_1 (List.mem_of_getElem? (i := 9) (by decide +kernel))) rfl, kcw_X4_sortsRace⟩, ⟨by decide, by decide, by decide +kernel⟩, by decide, by decide⟩
theorem kcv_X3_76 : gMv RX3 76 zk_X3_beginCall 3 := ⟨⟨W0_in (tp_7 (List.mem_of_getElem? (i := 79) (by decide +kernel))) rfl, W0_in (tp_7 (List.mem_of_getElem? (i := 81) (by decide +kernel))) rfl, W0_in (List.mem_of_getElem? (i := 91) (by decide +kernel)) rfl, W0_in (tp_1 (List.mem_of_getElem? (i := 24) (by decide +kernel))) rfl, kcw_X3_beginCall⟩, ⟨by decide, by decide, by decide +kernel⟩, by decide, by decide⟩
theorem kcv_X3_80 : gMv RX3 80 zk_X3_endCall 2 := ⟨⟨W0_in (tp_7 (List.mem_of_getElem? (i := 84) (by decide +kernel))) rfl, W0_in (tp_7 (List.mem_of_getElem? (i := 86) (by decide +kernel))) rfl, W0_in (List.mem_of_getElem? (i := 92) (by decide +kernel)) rfl, W0_in (tp_1 (List.mem_of_getElem? (i := 24) (by decide +kernel))) rfl, kcw_X3_endCall⟩, ⟨by decide, by decide, by decide +kernel⟩, by decide, by decide⟩
theorem kcv_X3_88 : gMv RX3 88 zk_X3_isLinear 1 := ⟨⟨W0_in (tp_7 (List.mem_of_getElem? (i := 92) (by decide +kernel))) rfl, W0_in (tp_7 (List.mem_of_getElem? (i := 94) (by decide +kernel))) rfl, W0_in (List.mem_of_getElem? (i := 93) (by decide +kernel)) rfl, W0_in (tp_1 (List.mem_of_getElem? (i := 24) (by decide +kernel))) rfl, kcw_X3_isLinear⟩, ⟨by decide, by decide, by decide +kernel⟩, by decide, by decide⟩
theorem kcv_X3_98 : gMv RX3 98 zk_X3_canGoOn 2 := ⟨⟨W0_in (tp_7 (List.mem_of_getElem? (i := 96) (by decide +kernel))) rfl, W0_in (tp_7 (List.mem_of_getElem? (i := 98) (by decide +kernel))) rfl, W0_in (List.mem_of_getElem? (i := 94) (by decide +kernel)) rfl, W0_in (tp_1 (List.mem_of_getElem? (i := 24) (by decide +kernel))) rfl, kcw_X3_canGoOn⟩, ⟨by decide, by decide, by decide +kernel⟩, by decide, by decide⟩
theorem kcv_X3_108 : gMv RX3 108 zk_X3_serve 3 := ⟨⟨W0_in (tp_7 (List.mem_of_getElem? (i := 103) (by decide +kernel))) rfl, W0_in (tp_7 (List.mem_of_getElem? (i := 105) (by decide +kernel))) rfl, W0_in (List.mem_of_getElem? (i := 95) (by decide +kernel)) rfl, W0_in (tp_1 (List.mem_of_getElem? (i := 24) (by decide +kernel))) rfl, kcw_X3_serve⟩, ⟨by decide, by decide, by decide +kernel⟩, by decide, by decide⟩
theorem kcs_X3_112 : gMs RX3 112 zk_X3_serveCell 3 := ⟨⟨W0_in (tp_7 (List.mem_of_getElem? (i := 107) (by decide +kernel))) rfl, W0_in (tp_7 (List.mem_of_getElem? (i := 108) (by decide +kernel))) rfl, W0_in (tp_1 (List.mem_of_getElem? (i := 24) (by decide +kernel))) rfl, kcw_X3_serveCell⟩, ⟨by decide, by decide, by decide +kernel⟩, by decide, by decide⟩
theorem kcs_X3_115 : gMs RX3 115 zk_X3_serveSet 3 := ⟨⟨W0_in (tp_7 (List.mem_of_getElem? (i := 110) (by decide +kernel))) rfl, W0_in (tp_7 (List.mem_of_getElem? (i := 111) (by decide +kernel))) rfl, W0_in (tp_1 (List.mem_of_getElem? (i := 24) (by decide +kernel))) rfl, kcw_X3_serveSet⟩, ⟨by decide, by decide, by decide +kernel⟩, by decide, by decide⟩
theorem kcv_X3_118 : gMv RX3 118 zk_X3_serveRow 3 := ⟨⟨W0_in (tp_7 (List.mem_of_getElem? (i := 122) (by decide +kernel))) rfl, W0_in (tp_7 (List.mem_of_getElem? (i := 124) (by decide +kernel))) rfl, W0_in (List.mem_of_getElem? (i := 96) (by decide +kernel)) rfl, W0_in (tp_1 (List.mem_of_getElem? (i := 24) (by decide +kernel))) rfl, kcw_X3_serveRow⟩, ⟨by decide, by decide, by decide +kernel⟩, by decide, by decide⟩
theorem kcs_X3_121 : gMs RX3 121 zk_X3_append 2 := ⟨⟨W0_in (tp_7 (List.mem_of_getElem? (i := 116) (by decide +kernel))) rfl, W0_in (tp_7 (List.mem_of_getElem? (i := 117) (by decide +kernel))) rfl, W0_in (tp_1 (List.mem_of_getElem? (i := 24) (by decide +kernel))) rfl, kcw_X3_append⟩, ⟨by decide, by decide, by decide +kernel⟩, by decide, by decide⟩
theorem kcs_X3_124 : gMs RX3 124 zk_X3_removeAt 2 := ⟨⟨W0_in (tp_7 (List.mem_of_getElem? (i := 119) (by decide +kernel))) rfl, W0_in (tp_7 (List.mem_of_getElem? (i := 120) (by decide +kernel))) rfl, W0_in (tp_1 (List.mem_of_getElem? (i := 24) (by decide +kernel))) rfl, kcw_X3_removeAt⟩, ⟨by decide, by decide, by decide +kernel⟩, by decide, by decide⟩
theorem kcs_X3_128 : gMs RX3 128 zk_X3_find 2 := ⟨⟨W0_in (tp_7 (List.mem_of_getElem? (i := 113) (by decide +kernel))) rfl, W0_in (tp_7 (List.mem_of_getElem? (i := 114) (by decide +kernel))) rfl, W0_in (tp_1 (List.mem_of_getElem? (i := 24) (by decide +kernel))) rfl, kcw_X3_find⟩, ⟨by decide, by decide, by decide +kernel⟩, by decide, by decide⟩
theorem kcv_X4_94 : gMv RX4 94 zk_X4_setClock 1 := ⟨⟨W0_in (tp_6 (List.mem_of_getElem? (i := 102) (by decide +kernel))) rfl, W0_in (tp_6 (List.mem_of_getElem? (i := 104) (by decide +kernel))) rfl, W0_in (List.mem_of_getElem? (i := 85) (by decide +kernel)) rfl, W0_in (tp_1 (List.mem_of_getElem? (i := 9) (by decide +kernel))) rfl, kcw_X4_setClock⟩, ⟨by decide, by decide, by decide +kernel⟩, by decide, by decide⟩
theorem kcv_X4_101 : gMv RX4 101 zk_X4_handOn 2 := ⟨⟨W0_in (tp_6 (List.mem_of_getElem? (i := 114) (by decide +kernel))) rfl, W0_in (tp_6 (List.mem_of_getElem? (i := 116) (by decide +kernel))) rfl, W0_in (List.mem_of_getElem? (i := 87) (by decide +kernel)) rfl, W0_in (tp_1 (List.mem_of_getElem? (i := 9) (by decide +kernel))) rfl, kcw_X4_handOn⟩, ⟨by decide, by decide, by decide +kernel⟩, by decide, by decide⟩
theorem kcv_X4_105 : gMv RX4 105 zk_X4_racesOf 1 := ⟨⟨W0_in (tp_6 (List.mem_of_getElem? (i := 118) (by decide +kernel))) rfl, W0_in (tp_6 (List.mem_of_getElem? (i := 120) (by decide +kernel))) rfl, W0_in (List.mem_of_getElem? (i := 88) (by decide +kernel)) rfl, W0_in (tp_1 (List.mem_of_getElem? (i := 9) (by decide +kernel))) rfl, kcw_X4_racesOf⟩, ⟨by decide, by decide, by decide +kernel⟩, by decide, by decide⟩
theorem kcs_X4_109 : gMs RX4 109 zk_X4_join 4 := ⟨⟨W0_in (tp_6 (List.mem_of_getElem? (i := 106) (by decide +kernel))) rfl, W0_in (tp_6 (List.mem_of_getElem? (i := 107) (by decide +kernel))) rfl, W0_in (tp_1 (List.mem_of_getElem? (i := 9) (by decide +kernel))) rfl, kcw_X4_join⟩, ⟨by decide, by decide, by decide +kernel⟩, by decide, by decide⟩
theorem kcv_X4_113 : gMv RX4 113 zk_X4_takeOver 1 := ⟨⟨W0_in (tp_6 (List.mem_of_getElem? (i := 110) (by decide +kernel))) rfl, W0_in (tp_6 (List.mem_of_getElem? (i := 112) (by decide +kernel))) rfl, W0_in (List.mem_of_getElem? (i := 86) (by decide +kernel)) rfl, W0_in (tp_1 (List.mem_of_getElem? (i := 9) (by decide +kernel))) rfl, kcw_X4_takeOver⟩, ⟨by decide, by decide, by decide +kernel⟩, by decide, by decide⟩
theorem kcv_X4_125 : gMv RX4 125 zk_X4_isRace 2 := ⟨⟨W0_in (tp_6 (List.mem_of_getElem? (i := 126) (by decide +kernel))) rfl, W0_in (tp_6 (List.mem_of_getElem? (i := 128) (by decide +kernel))) rfl, W0_in (List.mem_of_getElem? (i := 90) (by decide +kernel)) rfl, W0_in (tp_1 (List.mem_of_getElem? (i := 9) (by decide +kernel))) rfl, kcw_X4_isRace⟩, ⟨by decide, by decide, by decide +kernel⟩, by decide, by decide⟩
theorem kcv_X4_129 : gMv RX4 129 zk_X4_mayRace 1 := ⟨⟨W0_in (tp_6 (List.mem_of_getElem? (i := 122) (by decide +kernel))) rfl, W0_in (tp_6 (List.mem_of_getElem? (i := 124) (by decide +kernel))) rfl, W0_in (List.mem_of_getElem? (i := 89) (by decide +kernel)) rfl, W0_in (tp_1 (List.mem_of_getElem? (i := 9) (by decide +kernel))) rfl, kcw_X4_mayRace⟩, ⟨by decide, by decide, by decide +kernel⟩, by decide, by decide⟩
theorem kcs_X4_133 : gMs RX4 133 zk_X4_sortsRace 2 := ⟨⟨W0_in (tp_6 (List.mem_of_getElem? (i := 130) (by decide +kernel))) rfl, W0_in (tp_6 (List.mem_of_getElem? (i := 131) (by decide +kernel))) rfl, W0_in (tp_1 (List.mem_of_getElem? (i := 9) (by decide +kernel))) rfl, kcw_X4_sortsRace⟩, ⟨by decide, by decide, by decide +kernel⟩, by decide, by decide⟩
theorem kcv_X4_136 : gMv RX4 136 zk_X4_isBefore 2 := ⟨⟨W0_in (tp_6 (List.mem_of_getElem? (i := 133) (by decide +kernel))) rfl, W0_in (tp_6 (List.mem_of_getElem? (i := 134) (by decide +kernel))) rfl, W0_in (tp_6 (List.mem_of_getElem? (i := 135) (by decide +kernel))) rfl, W0_in (tp_1 (List.mem_of_getElem? (i := 9) (by decide +kernel))) rfl, kcw_X4_isBefore⟩, ⟨by decide, by decide, by decide +kernel⟩, by decide, by decide⟩
theorem kcv_X5_86 : gMv RX5 86 zk_X5_rouse 1 := ⟨⟨W0_in (tp_5 (List.mem_of_getElem? (i := 131) (by decide +kernel))) rfl, W0_in (tp_5 (List.mem_of_getElem? (i := 133) (by decide +kernel))) rfl, W0_in (List.mem_of_getElem? (i := 57) (by decide +kernel)) rfl, W0_in (tp_1 (List.mem_of_getElem? (i := 7) (by decide +kernel))) rfl, kcw_X5_rouse⟩, ⟨by decide, by decide, by decide +kernel⟩, by decide, by decide⟩
theorem kcv_X5_90 : gMv RX5 90 zk_X5_get 2 := ⟨⟨W0_in (tp_5 (List.mem_of_getElem? (i := 148) (by decide +kernel))) rfl, W0_in (tp_5 (List.mem_of_getElem? (i := 149) (by decide +kernel))) rfl, W0_in (tp_5 (List.mem_of_getElem? (i := 150) (by decide +kernel))) rfl, W0_in (tp_1 (List.mem_of_getElem? (i := 7) (by decide +kernel))) rfl, kcw_X5_get⟩, ⟨by decide, by decide, by decide +kernel⟩, by decide, by decide⟩
theorem kcv_X5_94 : gMv RX5 94 zk_X5_isGoing 1 := ⟨⟨W0_in (tp_5 (List.mem_of_getElem? (i := 144) (by decide +kernel))) rfl, W0_in (tp_5 (List.mem_of_getElem? (i := 145) (by decide +kernel))) rfl, W0_in (tp_5 (List.mem_of_getElem? (i := 146) (by decide +kernel))) rfl, W0_in (tp_1 (List.mem_of_getElem? (i := 7) (by decide +kernel))) rfl, kcw_X5_isGoing⟩, ⟨by decide, by decide, by decide +kernel⟩, by decide, by decide⟩
theorem kcv_X5_101 : gMv RX5 101 zk_X5_anyGoing 0 := ⟨⟨W0_in (tp_6 (List.mem_of_getElem? (i := 165) (by decide +kernel))) rfl, W0_in (tp_6 (List.mem_of_getElem? (i := 166) (by decide +kernel))) rfl, W0_in (tp_6 (List.mem_of_getElem? (i := 167) (by decide +kernel))) rfl, W0_in (tp_1 (List.mem_of_getElem? (i := 7) (by decide +kernel))) rfl, kcw_X5_anyGoing⟩, ⟨by decide, by decide, by decide +kernel⟩, by decide, by decide⟩
theorem kcv_X5_113 : gMv RX5 113 zk_X5_holder 1 := ⟨⟨W0_in (tp_5 (List.mem_of_getElem? (i := 196) (by decide +kernel))) rfl, W0_in (tp_5 (List.mem_of_getElem? (i := 197) (by decide +kernel))) rfl, W0_in (tp_5 (List.mem_of_getElem? (i := 198) (by decide +kernel))) rfl, W0_in (tp_1 (List.mem_of_getElem? (i := 7) (by decide +kernel))) rfl, kcw_X5_holder⟩, ⟨by decide, by decide, by decide +kernel⟩, by decide, by decide⟩
theorem kcv_X5_117 : gMv RX5 117 zk_X5_set 3 := ⟨⟨W0_in (tp_5 (List.mem_of_getElem? (i := 135) (by decide +kernel))) rfl, W0_in (tp_5 (List.mem_of_getElem? (i := 137) (by decide +kernel))) rfl, W0_in (List.mem_of_getElem? (i := 58) (by decide +kernel)) rfl, W0_in (tp_1 (List.mem_of_getElem? (i := 7) (by decide +kernel))) rfl, kcw_X5_set⟩, ⟨by decide, by decide, by decide +kernel⟩, by decide, by decide⟩
theorem kcv_X5_121 : gMv RX5 121 zk_X5_lateCell 2 := ⟨⟨W0_in (tp_5 (List.mem_of_getElem? (i := 216) (by decide +kernel))) rfl, W0_in (tp_5 (List.mem_of_getElem? (i := 217) (by decide +kernel))) rfl, W0_in (tp_5 (List.mem_of_getElem? (i := 218) (by decide +kernel))) rfl, W0_in (tp_1 (List.mem_of_getElem? (i := 7) (by decide +kernel))) rfl, kcw_X5_lateCell⟩, ⟨by decide, by decide, by decide +kernel⟩, by decide, by decide⟩
theorem kcv_X5_124 : gMv RX5 124 zk_X5_lateValue 2 := ⟨⟨W0_in (tp_6 (List.mem_of_getElem? (i := 42) (by decide +kernel))) rfl, W0_in (tp_6 (List.mem_of_getElem? (i := 44) (by decide +kernel))) rfl, W0_in (List.mem_of_getElem? (i := 73) (by decide +kernel)) rfl, W0_in (tp_1 (List.mem_of_getElem? (i := 7) (by decide +kernel))) rfl, kcw_X5_lateValue⟩, ⟨by decide, by decide, by decide +kernel⟩, by decide, by decide⟩
theorem kcv_X5_130 : gMv RX5 130 zk_X5_sortOf 1 := ⟨⟨W0_in (tp_5 (List.mem_of_getElem? (i := 188) (by decide +kernel))) rfl, W0_in (tp_5 (List.mem_of_getElem? (i := 189) (by decide +kernel))) rfl, W0_in (tp_5 (List.mem_of_getElem? (i := 190) (by decide +kernel))) rfl, W0_in (tp_1 (List.mem_of_getElem? (i := 7) (by decide +kernel))) rfl, kcw_X5_sortOf⟩, ⟨by decide, by decide, by decide +kernel⟩, by decide, by decide⟩
theorem kcv_X5_133 : gMv RX5 133 zk_X5_placeOf 1 := ⟨⟨W0_in (tp_6 (List.mem_of_getElem? (i := 13) (by decide +kernel))) rfl, W0_in (tp_6 (List.mem_of_getElem? (i := 14) (by decide +kernel))) rfl, W0_in (tp_6 (List.mem_of_getElem? (i := 15) (by decide +kernel))) rfl, W0_in (tp_1 (List.mem_of_getElem? (i := 7) (by decide +kernel))) rfl, kcw_X5_placeOf⟩, ⟨by decide, by decide, by decide +kernel⟩, by decide, by decide⟩
theorem kcv_X5_142 : gMv RX5 142 zk_X5_localsAt 1 := ⟨⟨W0_in (tp_5 (List.mem_of_getElem? (i := 156) (by decide +kernel))) rfl, W0_in (tp_5 (List.mem_of_getElem? (i := 158) (by decide +kernel))) rfl, W0_in (List.mem_of_getElem? (i := 61) (by decide +kernel)) rfl, W0_in (tp_1 (List.mem_of_getElem? (i := 7) (by decide +kernel))) rfl, kcw_X5_localsAt⟩, ⟨by decide, by decide, by decide +kernel⟩, by decide, by decide⟩
theorem kcv_X5_145 : gMv RX5 145 zk_X0_work 4 := ⟨⟨W0_in (tp_5 (List.mem_of_getElem? (i := 160) (by decide +kernel))) rfl, W0_in (tp_5 (List.mem_of_getElem? (i := 161) (by decide +kernel))) rfl, W0_in (tp_5 (List.mem_of_getElem? (i := 162) (by decide +kernel))) rfl, W0_in (tp_1 (List.mem_of_getElem? (i := 4) (by decide +kernel))) rfl, kcw_X0_work⟩, ⟨by decide, by decide, by decide +kernel⟩, by decide, by decide⟩
theorem kcv_X5_166 : gMv RX5 166 zk_X5_goesLate 1 := ⟨⟨W0_in (tp_5 (List.mem_of_getElem? (i := 192) (by decide +kernel))) rfl, W0_in (tp_5 (List.mem_of_getElem? (i := 194) (by decide +kernel))) rfl, W0_in (List.mem_of_getElem? (i := 66) (by decide +kernel)) rfl, W0_in (tp_1 (List.mem_of_getElem? (i := 7) (by decide +kernel))) rfl, kcw_X5_goesLate⟩, ⟨by decide, by decide, by decide +kernel⟩, by decide, by decide⟩
theorem kcv_X5_169 : gMv RX5 169 zk_X5_canAct 1 := ⟨⟨W0_in (tp_5 (List.mem_of_getElem? (i := 184) (by decide +kernel))) rfl, W0_in (tp_5 (List.mem_of_getElem? (i := 186) (by decide +kernel))) rfl, W0_in (List.mem_of_getElem? (i := 65) (by decide +kernel)) rfl, W0_in (tp_1 (List.mem_of_getElem? (i := 7) (by decide +kernel))) rfl, kcw_X5_canAct⟩, ⟨by decide, by decide, by decide +kernel⟩, by decide, by decide⟩
theorem kcv_X5_172 : gMv RX5 172 zk_X5_listAct 1 := ⟨⟨W0_in (tp_5 (List.mem_of_getElem? (i := 200) (by decide +kernel))) rfl, W0_in (tp_5 (List.mem_of_getElem? (i := 202) (by decide +kernel))) rfl, W0_in (List.mem_of_getElem? (i := 67) (by decide +kernel)) rfl, W0_in (tp_1 (List.mem_of_getElem? (i := 7) (by decide +kernel))) rfl, kcw_X5_listAct⟩, ⟨by decide, by decide, by decide +kernel⟩, by decide, by decide⟩
theorem kcv_X5_175 : gMv RX5 175 zk_X5_isFirstOfCell 2 := ⟨⟨W0_in (tp_5 (List.mem_of_getElem? (i := 212) (by decide +kernel))) rfl, W0_in (tp_5 (List.mem_of_getElem? (i := 214) (by decide +kernel))) rfl, W0_in (List.mem_of_getElem? (i := 69) (by decide +kernel)) rfl, W0_in (tp_1 (List.mem_of_getElem? (i := 7) (by decide +kernel))) rfl, kcw_X5_isFirstOfCell⟩, ⟨by decide, by decide, by decide +kernel⟩, by decide, by decide⟩
theorem kcv_X5_179 : gMv RX5 179 zk_X5_list 3 := ⟨⟨W0_in (tp_5 (List.mem_of_getElem? (i := 208) (by decide +kernel))) rfl, W0_in (tp_5 (List.mem_of_getElem? (i := 210) (by decide +kernel))) rfl, W0_in (List.mem_of_getElem? (i := 68) (by decide +kernel)) rfl, W0_in (tp_1 (List.mem_of_getElem? (i := 7) (by decide +kernel))) rfl, kcw_X5_list⟩, ⟨by decide, by decide, by decide +kernel⟩, by decide, by decide⟩
theorem kcv_X5_185 : gMv RX5 185 zk_X5_waiters 1 := ⟨⟨W0_in (tp_5 (List.mem_of_getElem? (i := 204) (by decide +kernel))) rfl, W0_in (tp_5 (List.mem_of_getElem? (i := 205) (by decide +kernel))) rfl, W0_in (tp_5 (List.mem_of_getElem? (i := 206) (by decide +kernel))) rfl, W0_in (tp_1 (List.mem_of_getElem? (i := 7) (by decide +kernel))) rfl, kcw_X5_waiters⟩, ⟨by decide, by decide, by decide +kernel⟩, by decide, by decide⟩
theorem kcv_X5_188 : gMv RX5 188 zk_X1_clear 3 := ⟨⟨W0_in (tp_6 (List.mem_of_getElem? (i := 34) (by decide +kernel))) rfl, W0_in (tp_6 (List.mem_of_getElem? (i := 35) (by decide +kernel))) rfl, W0_in (tp_6 (List.mem_of_getElem? (i := 36) (by decide +kernel))) rfl, W0_in (tp_1 (List.mem_of_getElem? (i := 8) (by decide +kernel))) rfl, kcw_X1_clear⟩, ⟨by decide, by decide, by decide +kernel⟩, by decide, by decide⟩
theorem kcv_X5_191 : gMv RX5 191 zk_X5_bringLate 2 := ⟨⟨W0_in (tp_6 (List.mem_of_getElem? (i := 38) (by decide +kernel))) rfl, W0_in (tp_6 (List.mem_of_getElem? (i := 40) (by decide +kernel))) rfl, W0_in (List.mem_of_getElem? (i := 72) (by decide +kernel)) rfl, W0_in (tp_1 (List.mem_of_getElem? (i := 7) (by decide +kernel))) rfl, kcw_X5_bringLate⟩, ⟨by decide, by decide, by decide +kernel⟩, by decide, by decide⟩
theorem kcv_X5_195 : gMv RX5 195 zk_X5_actFailure 4 := ⟨⟨W0_in (tp_6 (List.mem_of_getElem? (i := 50) (by decide +kernel))) rfl, W0_in (tp_6 (List.mem_of_getElem? (i := 52) (by decide +kernel))) rfl, W0_in (List.mem_of_getElem? (i := 75) (by decide +kernel)) rfl, W0_in (tp_1 (List.mem_of_getElem? (i := 7) (by decide +kernel))) rfl, kcw_X5_actFailure⟩, ⟨by decide, by decide, by decide +kernel⟩, by decide, by decide⟩
theorem kcv_X5_202 : gMv RX5 202 zk_X5_fail 2 := ⟨⟨W0_in (tp_5 (List.mem_of_getElem? (i := 168) (by decide +kernel))) rfl, W0_in (tp_5 (List.mem_of_getElem? (i := 170) (by decide +kernel))) rfl, W0_in (List.mem_of_getElem? (i := 63) (by decide +kernel)) rfl, W0_in (tp_1 (List.mem_of_getElem? (i := 7) (by decide +kernel))) rfl, kcw_X5_fail⟩, ⟨by decide, by decide, by decide +kernel⟩, by decide, by decide⟩
theorem kcv_X5_205 : gMv RX5 205 zk_X5_settle 1 := ⟨⟨W0_in (tp_5 (List.mem_of_getElem? (i := 139) (by decide +kernel))) rfl, W0_in (tp_5 (List.mem_of_getElem? (i := 141) (by decide +kernel))) rfl, W0_in (List.mem_of_getElem? (i := 59) (by decide +kernel)) rfl, W0_in (tp_1 (List.mem_of_getElem? (i := 7) (by decide +kernel))) rfl, kcw_X5_settle⟩, ⟨by decide, by decide, by decide +kernel⟩, by decide, by decide⟩
theorem kcv_X5_208 : gMv RX5 208 zk_X5_setLate 4 := ⟨⟨W0_in (tp_6 (List.mem_of_getElem? (i := 46) (by decide +kernel))) rfl, W0_in (tp_6 (List.mem_of_getElem? (i := 48) (by decide +kernel))) rfl, W0_in (List.mem_of_getElem? (i := 74) (by decide +kernel)) rfl, W0_in (tp_1 (List.mem_of_getElem? (i := 7) (by decide +kernel))) rfl, kcw_X5_setLate⟩, ⟨by decide, by decide, by decide +kernel⟩, by decide, by decide⟩
theorem kcv_X5_212 : gMv RX5 212 zk_X5_doAccess 3 := ⟨⟨W0_in (tp_6 (List.mem_of_getElem? (i := 54) (by decide +kernel))) rfl, W0_in (tp_6 (List.mem_of_getElem? (i := 56) (by decide +kernel))) rfl, W0_in (List.mem_of_getElem? (i := 76) (by decide +kernel)) rfl, W0_in (tp_1 (List.mem_of_getElem? (i := 7) (by decide +kernel))) rfl, kcw_X5_doAccess⟩, ⟨by decide, by decide, by decide +kernel⟩, by decide, by decide⟩
theorem kcv_X5_216 : gMv RX5 216 zk_X5_often 1 := ⟨⟨W0_in (tp_6 (List.mem_of_getElem? (i := 70) (by decide +kernel))) rfl, W0_in (tp_6 (List.mem_of_getElem? (i := 71) (by decide +kernel))) rfl, W0_in (tp_6 (List.mem_of_getElem? (i := 72) (by decide +kernel))) rfl, W0_in (tp_1 (List.mem_of_getElem? (i := 7) (by decide +kernel))) rfl, kcw_X5_often⟩, ⟨by decide, by decide, by decide +kernel⟩, by decide, by decide⟩
theorem kcv_X5_219 : gMv RX5 219 zk_X5_setLock 3 := ⟨⟨W0_in (tp_6 (List.mem_of_getElem? (i := 74) (by decide +kernel))) rfl, W0_in (tp_6 (List.mem_of_getElem? (i := 76) (by decide +kernel))) rfl, W0_in (List.mem_of_getElem? (i := 79) (by decide +kernel)) rfl, W0_in (tp_1 (List.mem_of_getElem? (i := 7) (by decide +kernel))) rfl, kcw_X5_setLock⟩, ⟨by decide, by decide, by decide +kernel⟩, by decide, by decide⟩
theorem kcv_X5_222 : gMv RX5 222 zk_X5_doGive 2 := ⟨⟨W0_in (tp_6 (List.mem_of_getElem? (i := 78) (by decide +kernel))) rfl, W0_in (tp_6 (List.mem_of_getElem? (i := 80) (by decide +kernel))) rfl, W0_in (List.mem_of_getElem? (i := 80) (by decide +kernel)) rfl, W0_in (tp_1 (List.mem_of_getElem? (i := 7) (by decide +kernel))) rfl, kcw_X5_doGive⟩, ⟨by decide, by decide, by decide +kernel⟩, by decide, by decide⟩
theorem kcv_X5_225 : gMv RX5 225 zk_X5_doWait 2 := ⟨⟨W0_in (tp_6 (List.mem_of_getElem? (i := 82) (by decide +kernel))) rfl, W0_in (tp_6 (List.mem_of_getElem? (i := 84) (by decide +kernel))) rfl, W0_in (List.mem_of_getElem? (i := 81) (by decide +kernel)) rfl, W0_in (tp_1 (List.mem_of_getElem? (i := 7) (by decide +kernel))) rfl, kcw_X5_doWait⟩, ⟨by decide, by decide, by decide +kernel⟩, by decide, by decide⟩
theorem kcv_X5_228 : gMv RX5 228 zk_X5_doRetake 2 := ⟨⟨W0_in (tp_6 (List.mem_of_getElem? (i := 86) (by decide +kernel))) rfl, W0_in (tp_6 (List.mem_of_getElem? (i := 88) (by decide +kernel))) rfl, W0_in (List.mem_of_getElem? (i := 82) (by decide +kernel)) rfl, W0_in (tp_1 (List.mem_of_getElem? (i := 7) (by decide +kernel))) rfl, kcw_X5_doRetake⟩, ⟨by decide, by decide, by decide +kernel⟩, by decide, by decide⟩
theorem kcv_X5_231 : gMv RX5 231 zk_X5_doWake 4 := ⟨⟨W0_in (tp_6 (List.mem_of_getElem? (i := 90) (by decide +kernel))) rfl, W0_in (tp_6 (List.mem_of_getElem? (i := 92) (by decide +kernel))) rfl, W0_in (List.mem_of_getElem? (i := 83) (by decide +kernel)) rfl, W0_in (tp_1 (List.mem_of_getElem? (i := 7) (by decide +kernel))) rfl, kcw_X5_doWake⟩, ⟨by decide, by decide, by decide +kernel⟩, by decide, by decide⟩
theorem kcv_X5_235 : gMv RX5 235 zk_X5_doCallOrBack 3 := ⟨⟨W0_in (tp_6 (List.mem_of_getElem? (i := 94) (by decide +kernel))) rfl, W0_in (tp_6 (List.mem_of_getElem? (i := 96) (by decide +kernel))) rfl, W0_in (List.mem_of_getElem? (i := 84) (by decide +kernel)) rfl, W0_in (tp_1 (List.mem_of_getElem? (i := 7) (by decide +kernel))) rfl, kcw_X5_doCallOrBack⟩, ⟨by decide, by decide, by decide +kernel⟩, by decide, by decide⟩
theorem kcv_X5_240 : gMv RX5 240 zk_X5_seenBy 2 := ⟨⟨W0_in (tp_6 (List.mem_of_getElem? (i := 58) (by decide +kernel))) rfl, W0_in (tp_6 (List.mem_of_getElem? (i := 59) (by decide +kernel))) rfl, W0_in (tp_6 (List.mem_of_getElem? (i := 60) (by decide +kernel))) rfl, W0_in (tp_1 (List.mem_of_getElem? (i := 7) (by decide +kernel))) rfl, kcw_X5_seenBy⟩, ⟨by decide, by decide, by decide +kernel⟩, by decide, by decide⟩
theorem kcv_X5_246 : gMv RX5 246 zk_X5_doWrite 4 := ⟨⟨W0_in (tp_6 (List.mem_of_getElem? (i := 62) (by decide +kernel))) rfl, W0_in (tp_6 (List.mem_of_getElem? (i := 64) (by decide +kernel))) rfl, W0_in (List.mem_of_getElem? (i := 77) (by decide +kernel)) rfl, W0_in (tp_1 (List.mem_of_getElem? (i := 7) (by decide +kernel))) rfl, kcw_X5_doWrite⟩, ⟨by decide, by decide, by decide +kernel⟩, by decide, by decide⟩
theorem kcv_X5_249 : gMv RX5 249 zk_X5_doExchange 4 := ⟨⟨W0_in (tp_6 (List.mem_of_getElem? (i := 66) (by decide +kernel))) rfl, W0_in (tp_6 (List.mem_of_getElem? (i := 68) (by decide +kernel))) rfl, W0_in (List.mem_of_getElem? (i := 78) (by decide +kernel)) rfl, W0_in (tp_1 (List.mem_of_getElem? (i := 7) (by decide +kernel))) rfl, kcw_X5_doExchange⟩, ⟨by decide, by decide, by decide +kernel⟩, by decide, by decide⟩
theorem kcv_X5_262 : gMv RX5 262 zk_X5_ownFailure 3 := ⟨⟨W0_in (tp_5 (List.mem_of_getElem? (i := 152) (by decide +kernel))) rfl, W0_in (tp_5 (List.mem_of_getElem? (i := 154) (by decide +kernel))) rfl, W0_in (List.mem_of_getElem? (i := 60) (by decide +kernel)) rfl, W0_in (tp_1 (List.mem_of_getElem? (i := 7) (by decide +kernel))) rfl, kcw_X5_ownFailure⟩, ⟨by decide, by decide, by decide +kernel⟩, by decide, by decide⟩
theorem kcv_X5_265 : gMv RX5 265 zk_X5_blankUnknown 1 := ⟨⟨W0_in (tp_5 (List.mem_of_getElem? (i := 172) (by decide +kernel))) rfl, W0_in (tp_5 (List.mem_of_getElem? (i := 174) (by decide +kernel))) rfl, W0_in (List.mem_of_getElem? (i := 64) (by decide +kernel)) rfl, W0_in (tp_1 (List.mem_of_getElem? (i := 7) (by decide +kernel))) rfl, kcw_X5_blankUnknown⟩, ⟨by decide, by decide, by decide +kernel⟩, by decide, by decide⟩
theorem kcv_X5_268 : gMv RX5 268 zk_X5_mixPart 3 := ⟨⟨W0_in (tp_8 (List.mem_of_getElem? (i := 21) (by decide +kernel))) rfl, W0_in (tp_8 (List.mem_of_getElem? (i := 23) (by decide +kernel))) rfl, W0_in (List.mem_of_getElem? (i := 99) (by decide +kernel)) rfl, W0_in (tp_1 (List.mem_of_getElem? (i := 7) (by decide +kernel))) rfl, kcw_X5_mixPart⟩, ⟨by decide, by decide, by decide +kernel⟩, by decide, by decide⟩
theorem kcv_X5_271 : gMv RX5 271 zk_X5_usedOf 1 := ⟨⟨W0_in (tp_8 (List.mem_of_getElem? (i := 26) (by decide +kernel))) rfl, W0_in (tp_8 (List.mem_of_getElem? (i := 28) (by decide +kernel))) rfl, W0_in (List.mem_of_getElem? (i := 100) (by decide +kernel)) rfl, W0_in (tp_1 (List.mem_of_getElem? (i := 7) (by decide +kernel))) rfl, kcw_X5_usedOf⟩, ⟨by decide, by decide, by decide +kernel⟩, by decide, by decide⟩
theorem kcv_X5_275 : gMv RX5 275 zk_X5_isSamePart 3 := ⟨⟨W0_in (tp_8 (List.mem_of_getElem? (i := 34) (by decide +kernel))) rfl, W0_in (tp_8 (List.mem_of_getElem? (i := 36) (by decide +kernel))) rfl, W0_in (List.mem_of_getElem? (i := 101) (by decide +kernel)) rfl, W0_in (tp_1 (List.mem_of_getElem? (i := 7) (by decide +kernel))) rfl, kcw_X5_isSamePart⟩, ⟨by decide, by decide, by decide +kernel⟩, by decide, by decide⟩
theorem kcv_X5_279 : gMv RX5 279 zk_X5_known 1 := ⟨⟨W0_in (tp_5 (List.mem_of_getElem? (i := 176) (by decide +kernel))) rfl, W0_in (tp_5 (List.mem_of_getElem? (i := 177) (by decide +kernel))) rfl, W0_in (tp_5 (List.mem_of_getElem? (i := 178) (by decide +kernel))) rfl, W0_in (tp_1 (List.mem_of_getElem? (i := 7) (by decide +kernel))) rfl, kcw_X5_known⟩, ⟨by decide, by decide, by decide +kernel⟩, by decide, by decide⟩
theorem kcv_X6_58 : gMv RX6 58 zk_X6_faultOf 1 := ⟨⟨W0_in (tp_4 (List.mem_of_getElem? (i := 232) (by decide +kernel))) rfl, W0_in (tp_4 (List.mem_of_getElem? (i := 234) (by decide +kernel))) rfl, W0_in (List.mem_of_getElem? (i := 48) (by decide +kernel)) rfl, W0_in (tp_1 (List.mem_of_getElem? (i := 3) (by decide +kernel))) rfl, kcw_X6_faultOf⟩, ⟨by decide, by decide, by decide +kernel⟩, by decide, by decide⟩
theorem kcv_X6_65 : gMv RX6 65 zk_X6_isToldBefore 1 := ⟨⟨W0_in (tp_4 (List.mem_of_getElem? (i := 236) (by decide +kernel))) rfl, W0_in (tp_4 (List.mem_of_getElem? (i := 238) (by decide +kernel))) rfl, W0_in (List.mem_of_getElem? (i := 49) (by decide +kernel)) rfl, W0_in (tp_1 (List.mem_of_getElem? (i := 3) (by decide +kernel))) rfl, kcw_X6_isToldBefore⟩, ⟨by decide, by decide, by decide +kernel⟩, by decide, by decide⟩
theorem kcv_X6_69 : gMv RX6 69 zk_X6_numberOf 3 := ⟨⟨W0_in (tp_5 (List.mem_of_getElem? (i := 5) (by decide +kernel))) rfl, W0_in (tp_5 (List.mem_of_getElem? (i := 7) (by decide +kernel))) rfl, W0_in (List.mem_of_getElem? (i := 51) (by decide +kernel)) rfl, W0_in (tp_1 (List.mem_of_getElem? (i := 3) (by decide +kernel))) rfl, kcw_X6_numberOf⟩, ⟨by decide, by decide, by decide +kernel⟩, by decide, by decide⟩
theorem kcs_X6_76 : gMs RX6 76 zk_X6_isRowSize 1 := ⟨⟨W0_in (tp_5 (List.mem_of_getElem? (i := 9) (by decide +kernel))) rfl, W0_in (tp_4 (List.mem_of_getElem? (i := 66) (by decide +kernel))) rfl, W0_in (tp_1 (List.mem_of_getElem? (i := 3) (by decide +kernel))) rfl, kcw_X6_isRowSize⟩, ⟨by decide, by decide, by decide +kernel⟩, by decide, by decide⟩
theorem kcv_X6_79 : gMv RX6 79 zk_X6_faultOfCell 1 := ⟨⟨W0_in (tp_5 (List.mem_of_getElem? (i := 10) (by decide +kernel))) rfl, W0_in (tp_5 (List.mem_of_getElem? (i := 12) (by decide +kernel))) rfl, W0_in (List.mem_of_getElem? (i := 52) (by decide +kernel)) rfl, W0_in (tp_1 (List.mem_of_getElem? (i := 3) (by decide +kernel))) rfl, kcw_X6_faultOfCell⟩, ⟨by decide, by decide, by decide +kernel⟩, by decide, by decide⟩
theorem kcv_X6_82 : gMv RX6 82 zk_X6_cellOf 2 := ⟨⟨W0_in (tp_5 (List.mem_of_getElem? (i := 14) (by decide +kernel))) rfl, W0_in (tp_5 (List.mem_of_getElem? (i := 16) (by decide +kernel))) rfl, W0_in (List.mem_of_getElem? (i := 53) (by decide +kernel)) rfl, W0_in (tp_1 (List.mem_of_getElem? (i := 3) (by decide +kernel))) rfl, kcw_X6_cellOf⟩, ⟨by decide, by decide, by decide +kernel⟩, by decide, by decide⟩
theorem kcv_X6_86 : gMv RX6 86 zk_X6_isAmong 3 := ⟨⟨W0_in (tp_5 (List.mem_of_getElem? (i := 0) (by decide +kernel))) rfl, W0_in (tp_5 (List.mem_of_getElem? (i := 2) (by decide +kernel))) rfl, W0_in (List.mem_of_getElem? (i := 50) (by decide +kernel)) rfl, W0_in (tp_1 (List.mem_of_getElem? (i := 3) (by decide +kernel))) rfl, kcw_X6_isAmong⟩, ⟨by decide, by decide, by decide +kernel⟩, by decide, by decide⟩
theorem kcv_X6_90 : gMv RX6 90 zk_X9_sameName 2 := ⟨⟨W0_in (tp_5 (List.mem_of_getElem? (i := 4) (by decide +kernel))) rfl, W0_in (tp_4 (List.mem_of_getElem? (i := 152) (by decide +kernel))) rfl, W0_in (tp_4 (List.mem_of_getElem? (i := 153) (by decide +kernel))) rfl, W0_in (tp_1 (List.mem_of_getElem? (i := 2) (by decide +kernel))) rfl, kcw_X9_sameName⟩, ⟨by decide, by decide, by decide +kernel⟩, by decide, by decide⟩
theorem kcv_X7_56 : gMv RX7 56 zk_X6_clear 0 := ⟨⟨W0_in (tp_3 (List.mem_of_getElem? (i := 195) (by decide +kernel))) rfl, W0_in (tp_3 (List.mem_of_getElem? (i := 196) (by decide +kernel))) rfl, W0_in (tp_3 (List.mem_of_getElem? (i := 197) (by decide +kernel))) rfl, W0_in (tp_1 (List.mem_of_getElem? (i := 3) (by decide +kernel))) rfl, kcw_X6_clear⟩, ⟨by decide, by decide, by decide +kernel⟩, by decide, by decide⟩
theorem kcv_X7_61 : gMv RX7 61 zk_X0_clear 0 := ⟨⟨W0_in (tp_3 (List.mem_of_getElem? (i := 202) (by decide +kernel))) rfl, W0_in (tp_3 (List.mem_of_getElem? (i := 203) (by decide +kernel))) rfl, W0_in (tp_3 (List.mem_of_getElem? (i := 204) (by decide +kernel))) rfl, W0_in (tp_1 (List.mem_of_getElem? (i := 4) (by decide +kernel))) rfl, kcw_X0_clear⟩, ⟨by decide, by decide, by decide +kernel⟩, by decide, by decide⟩
theorem kcv_X7_71 : gMv RX7 71 zk_X7_sort 0 := ⟨⟨W0_in (tp_3 (List.mem_of_getElem? (i := 206) (by decide +kernel))) rfl, W0_in (tp_3 (List.mem_of_getElem? (i := 208) (by decide +kernel))) rfl, W0_in (List.mem_of_getElem? (i := 9) (by decide +kernel)) rfl, W0_in (tp_1 (List.mem_of_getElem? (i := 6) (by decide +kernel))) rfl, kcw_X7_sort⟩, ⟨by decide, by decide, by decide +kernel⟩, by decide, by decide⟩
theorem kcv_X7_75 : gMv RX7 75 zk_X7_definition 0 := ⟨⟨W0_in (tp_3 (List.mem_of_getElem? (i := 210) (by decide +kernel))) rfl, W0_in (tp_3 (List.mem_of_getElem? (i := 212) (by decide +kernel))) rfl, W0_in (List.mem_of_getElem? (i := 10) (by decide +kernel)) rfl, W0_in (tp_1 (List.mem_of_getElem? (i := 6) (by decide +kernel))) rfl, kcw_X7_definition⟩, ⟨by decide, by decide, by decide +kernel⟩, by decide, by decide⟩
theorem kcv_X7_78 : gMv RX7 78 zk_X7_closeBlock 0 := ⟨⟨W0_in (tp_4 (List.mem_of_getElem? (i := 162) (by decide +kernel))) rfl, W0_in (tp_4 (List.mem_of_getElem? (i := 164) (by decide +kernel))) rfl, W0_in (List.mem_of_getElem? (i := 34) (by decide +kernel)) rfl, W0_in (tp_1 (List.mem_of_getElem? (i := 6) (by decide +kernel))) rfl, kcw_X7_closeBlock⟩, ⟨by decide, by decide, by decide +kernel⟩, by decide, by decide⟩
theorem kcv_X7_81 : gMv RX7 81 zk_X7_statement 0 := ⟨⟨W0_in (tp_4 (List.mem_of_getElem? (i := 182) (by decide +kernel))) rfl, W0_in (tp_4 (List.mem_of_getElem? (i := 184) (by decide +kernel))) rfl, W0_in (List.mem_of_getElem? (i := 38) (by decide +kernel)) rfl, W0_in (tp_1 (List.mem_of_getElem? (i := 6) (by decide +kernel))) rfl, kcw_X7_statement⟩, ⟨by decide, by decide, by decide +kernel⟩, by decide, by decide⟩
theorem kcv_X7_84 : gMv RX7 84 zk_X7_cellDefinition 0 := ⟨⟨W0_in (tp_3 (List.mem_of_getElem? (i := 214) (by decide +kernel))) rfl, W0_in (tp_3 (List.mem_of_getElem? (i := 216) (by decide +kernel))) rfl, W0_in (List.mem_of_getElem? (i := 11) (by decide +kernel)) rfl, W0_in (tp_1 (List.mem_of_getElem? (i := 6) (by decide +kernel))) rfl, kcw_X7_cellDefinition⟩, ⟨by decide, by decide, by decide +kernel⟩, by decide, by decide⟩
theorem kcv_X7_87 : gMv RX7 87 zk_X7_lockDefinition 0 := ⟨⟨W0_in (tp_4 (List.mem_of_getElem? (i := 87) (by decide +kernel))) rfl, W0_in (tp_4 (List.mem_of_getElem? (i := 89) (by decide +kernel))) rfl, W0_in (List.mem_of_getElem? (i := 20) (by decide +kernel)) rfl, W0_in (tp_1 (List.mem_of_getElem? (i := 6) (by decide +kernel))) rfl, kcw_X7_lockDefinition⟩, ⟨by decide, by decide, by decide +kernel⟩, by decide, by decide⟩
theorem kcv_X7_90 : gMv RX7 90 zk_X7_beginThread 0 := ⟨⟨W0_in (tp_4 (List.mem_of_getElem? (i := 95) (by decide +kernel))) rfl, W0_in (tp_4 (List.mem_of_getElem? (i := 97) (by decide +kernel))) rfl, W0_in (List.mem_of_getElem? (i := 21) (by decide +kernel)) rfl, W0_in (tp_1 (List.mem_of_getElem? (i := 6) (by decide +kernel))) rfl, kcw_X7_beginThread⟩, ⟨by decide, by decide, by decide +kernel⟩, by decide, by decide⟩
theorem kcv_X7_93 : gMv RX7 93 zk_X7_claim 0 := ⟨⟨W0_in (tp_4 (List.mem_of_getElem? (i := 111) (by decide +kernel))) rfl, W0_in (tp_4 (List.mem_of_getElem? (i := 113) (by decide +kernel))) rfl, W0_in (List.mem_of_getElem? (i := 24) (by decide +kernel)) rfl, W0_in (tp_1 (List.mem_of_getElem? (i := 6) (by decide +kernel))) rfl, kcw_X7_claim⟩, ⟨by decide, by decide, by decide +kernel⟩, by decide, by decide⟩
theorem kcv_X7_96 : gMv RX7 96 zk_X7_refuse 1 := ⟨⟨W0_in (tp_3 (List.mem_of_getElem? (i := 222) (by decide +kernel))) rfl, W0_in (tp_3 (List.mem_of_getElem? (i := 224) (by decide +kernel))) rfl, W0_in (List.mem_of_getElem? (i := 13) (by decide +kernel)) rfl, W0_in (tp_1 (List.mem_of_getElem? (i := 6) (by decide +kernel))) rfl, kcw_X7_refuse⟩, ⟨by decide, by decide, by decide +kernel⟩, by decide, by decide⟩
theorem kcv_X7_112 : gMv RX7 112 zk_X7_pass 0 := ⟨⟨W0_in (tp_3 (List.mem_of_getElem? (i := 218) (by decide +kernel))) rfl, W0_in (tp_3 (List.mem_of_getElem? (i := 220) (by decide +kernel))) rfl, W0_in (List.mem_of_getElem? (i := 12) (by decide +kernel)) rfl, W0_in (tp_1 (List.mem_of_getElem? (i := 6) (by decide +kernel))) rfl, kcw_X7_pass⟩, ⟨by decide, by decide, by decide +kernel⟩, by decide, by decide⟩
theorem kcv_X7_115 : gMv RX7 115 zk_X7_need 1 := ⟨⟨W0_in (tp_4 (List.mem_of_getElem? (i := 53) (by decide +kernel))) rfl, W0_in (tp_4 (List.mem_of_getElem? (i := 55) (by decide +kernel))) rfl, W0_in (List.mem_of_getElem? (i := 15) (by decide +kernel)) rfl, W0_in (tp_1 (List.mem_of_getElem? (i := 6) (by decide +kernel))) rfl, kcw_X7_need⟩, ⟨by decide, by decide, by decide +kernel⟩, by decide, by decide⟩
theorem kcv_X7_118 : gMv RX7 118 zk_X7_rowAhead 0 := ⟨⟨W0_in (tp_4 (List.mem_of_getElem? (i := 57) (by decide +kernel))) rfl, W0_in (tp_4 (List.mem_of_getElem? (i := 59) (by decide +kernel))) rfl, W0_in (List.mem_of_getElem? (i := 16) (by decide +kernel)) rfl, W0_in (tp_1 (List.mem_of_getElem? (i := 6) (by decide +kernel))) rfl, kcw_X7_rowAhead⟩, ⟨by decide, by decide, by decide +kernel⟩, by decide, by decide⟩
theorem kcv_X7_130 : gMv RX7 130 zk_X7_needFor 2 := ⟨⟨W0_in (tp_4 (List.mem_of_getElem? (i := 71) (by decide +kernel))) rfl, W0_in (tp_4 (List.mem_of_getElem? (i := 73) (by decide +kernel))) rfl, W0_in (List.mem_of_getElem? (i := 18) (by decide +kernel)) rfl, W0_in (tp_1 (List.mem_of_getElem? (i := 6) (by decide +kernel))) rfl, kcw_X7_needFor⟩, ⟨by decide, by decide, by decide +kernel⟩, by decide, by decide⟩
theorem kcv_X7_133 : gMv RX7 133 zk_X7_startValue 0 := ⟨⟨W0_in (tp_4 (List.mem_of_getElem? (i := 75) (by decide +kernel))) rfl, W0_in (tp_4 (List.mem_of_getElem? (i := 77) (by decide +kernel))) rfl, W0_in (List.mem_of_getElem? (i := 19) (by decide +kernel)) rfl, W0_in (tp_1 (List.mem_of_getElem? (i := 6) (by decide +kernel))) rfl, kcw_X7_startValue⟩, ⟨by decide, by decide, by decide +kernel⟩, by decide, by decide⟩
theorem kcv_X7_136 : gMv RX7 136 zk_X6_tellCell 3 := ⟨⟨W0_in (tp_4 (List.mem_of_getElem? (i := 79) (by decide +kernel))) rfl, W0_in (tp_4 (List.mem_of_getElem? (i := 80) (by decide +kernel))) rfl, W0_in (tp_4 (List.mem_of_getElem? (i := 81) (by decide +kernel))) rfl, W0_in (tp_1 (List.mem_of_getElem? (i := 3) (by decide +kernel))) rfl, kcw_X6_tellCell⟩, ⟨by decide, by decide, by decide +kernel⟩, by decide, by decide⟩
theorem kcv_X7_140 : gMv RX7 140 zk_X0_addCells 3 := ⟨⟨W0_in (tp_4 (List.mem_of_getElem? (i := 83) (by decide +kernel))) rfl, W0_in (tp_4 (List.mem_of_getElem? (i := 84) (by decide +kernel))) rfl, W0_in (tp_4 (List.mem_of_getElem? (i := 85) (by decide +kernel))) rfl, W0_in (tp_1 (List.mem_of_getElem? (i := 4) (by decide +kernel))) rfl, kcw_X0_addCells⟩, ⟨by decide, by decide, by decide +kernel⟩, by decide, by decide⟩
theorem kcv_X7_144 : gMv RX7 144 zk_X7_sortBehind 0 := ⟨⟨W0_in (tp_4 (List.mem_of_getElem? (i := 61) (by decide +kernel))) rfl, W0_in (tp_4 (List.mem_of_getElem? (i := 63) (by decide +kernel))) rfl, W0_in (List.mem_of_getElem? (i := 17) (by decide +kernel)) rfl, W0_in (tp_1 (List.mem_of_getElem? (i := 6) (by decide +kernel))) rfl, kcw_X7_sortBehind⟩, ⟨by decide, by decide, by decide +kernel⟩, by decide, by decide⟩
theorem kcs_X7_150 : gMs RX7 150 zk_X6_isRowSize 1 := ⟨⟨W0_in (tp_4 (List.mem_of_getElem? (i := 65) (by decide +kernel))) rfl, W0_in (tp_4 (List.mem_of_getElem? (i := 66) (by decide +kernel))) rfl, W0_in (tp_1 (List.mem_of_getElem? (i := 3) (by decide +kernel))) rfl, kcw_X6_isRowSize⟩, ⟨by decide, by decide, by decide +kernel⟩, by decide, by decide⟩
theorem kcv_X7_157 : gMv RX7 157 zk_X6_tellLock 1 := ⟨⟨W0_in (tp_4 (List.mem_of_getElem? (i := 91) (by decide +kernel))) rfl, W0_in (tp_4 (List.mem_of_getElem? (i := 92) (by decide +kernel))) rfl, W0_in (tp_4 (List.mem_of_getElem? (i := 93) (by decide +kernel))) rfl, W0_in (tp_1 (List.mem_of_getElem? (i := 3) (by decide +kernel))) rfl, kcw_X6_tellLock⟩, ⟨by decide, by decide, by decide +kernel⟩, by decide, by decide⟩
theorem kcv_X7_163 : gMv RX7 163 zk_X6_tellThread 1 := ⟨⟨W0_in (tp_4 (List.mem_of_getElem? (i := 99) (by decide +kernel))) rfl, W0_in (tp_4 (List.mem_of_getElem? (i := 100) (by decide +kernel))) rfl, W0_in (tp_4 (List.mem_of_getElem? (i := 101) (by decide +kernel))) rfl, W0_in (tp_1 (List.mem_of_getElem? (i := 3) (by decide +kernel))) rfl, kcw_X6_tellThread⟩, ⟨by decide, by decide, by decide +kernel⟩, by decide, by decide⟩
theorem kcv_X7_187 : gMv RX7 187 zk_X7_openBlock 2 := ⟨⟨W0_in (tp_4 (List.mem_of_getElem? (i := 103) (by decide +kernel))) rfl, W0_in (tp_4 (List.mem_of_getElem? (i := 105) (by decide +kernel))) rfl, W0_in (List.mem_of_getElem? (i := 22) (by decide +kernel)) rfl, W0_in (tp_1 (List.mem_of_getElem? (i := 6) (by decide +kernel))) rfl, kcw_X7_openBlock⟩, ⟨by decide, by decide, by decide +kernel⟩, by decide, by decide⟩
theorem kcv_X7_191 : gMv RX7 191 zk_X8_add 3 := ⟨⟨W0_in (tp_4 (List.mem_of_getElem? (i := 166) (by decide +kernel))) rfl, W0_in (tp_4 (List.mem_of_getElem? (i := 167) (by decide +kernel))) rfl, W0_in (tp_4 (List.mem_of_getElem? (i := 168) (by decide +kernel))) rfl, W0_in (tp_1 (List.mem_of_getElem? (i := 5) (by decide +kernel))) rfl, kcw_X8_add⟩, ⟨by decide, by decide, by decide +kernel⟩, by decide, by decide⟩
theorem kcv_X7_201 : gMv RX7 201 zk_X7_sum 1 := ⟨⟨W0_in (tp_4 (List.mem_of_getElem? (i := 115) (by decide +kernel))) rfl, W0_in (tp_4 (List.mem_of_getElem? (i := 117) (by decide +kernel))) rfl, W0_in (List.mem_of_getElem? (i := 25) (by decide +kernel)) rfl, W0_in (tp_1 (List.mem_of_getElem? (i := 6) (by decide +kernel))) rfl, kcw_X7_sum⟩, ⟨by decide, by decide, by decide +kernel⟩, by decide, by decide⟩
theorem kcv_X7_211 : gMv RX7 211 zk_X7_enter 2 := ⟨⟨W0_in (tp_4 (List.mem_of_getElem? (i := 107) (by decide +kernel))) rfl, W0_in (tp_4 (List.mem_of_getElem? (i := 109) (by decide +kernel))) rfl, W0_in (List.mem_of_getElem? (i := 23) (by decide +kernel)) rfl, W0_in (tp_1 (List.mem_of_getElem? (i := 6) (by decide +kernel))) rfl, kcw_X7_enter⟩, ⟨by decide, by decide, by decide +kernel⟩, by decide, by decide⟩
theorem kcv_X7_223 : gMv RX7 223 zk_X7_openElse 1 := ⟨⟨W0_in (tp_4 (List.mem_of_getElem? (i := 170) (by decide +kernel))) rfl, W0_in (tp_4 (List.mem_of_getElem? (i := 172) (by decide +kernel))) rfl, W0_in (List.mem_of_getElem? (i := 35) (by decide +kernel)) rfl, W0_in (tp_1 (List.mem_of_getElem? (i := 6) (by decide +kernel))) rfl, kcw_X7_openElse⟩, ⟨by decide, by decide, by decide +kernel⟩, by decide, by decide⟩
theorem kcv_X7_226 : gMv RX7 226 zk_X7_endIf 1 := ⟨⟨W0_in (tp_4 (List.mem_of_getElem? (i := 174) (by decide +kernel))) rfl, W0_in (tp_4 (List.mem_of_getElem? (i := 176) (by decide +kernel))) rfl, W0_in (List.mem_of_getElem? (i := 36) (by decide +kernel)) rfl, W0_in (tp_1 (List.mem_of_getElem? (i := 6) (by decide +kernel))) rfl, kcw_X7_endIf⟩, ⟨by decide, by decide, by decide +kernel⟩, by decide, by decide⟩
theorem kcv_X7_229 : gMv RX7 229 zk_X7_endThread 0 := ⟨⟨W0_in (tp_4 (List.mem_of_getElem? (i := 178) (by decide +kernel))) rfl, W0_in (tp_4 (List.mem_of_getElem? (i := 180) (by decide +kernel))) rfl, W0_in (List.mem_of_getElem? (i := 37) (by decide +kernel)) rfl, W0_in (tp_1 (List.mem_of_getElem? (i := 6) (by decide +kernel))) rfl, kcw_X7_endThread⟩, ⟨by decide, by decide, by decide +kernel⟩, by decide, by decide⟩
theorem kcs_X7_236 : gMs RX7 236 zk_X7_opOf 1 := ⟨⟨W0_in (tp_4 (List.mem_of_getElem? (i := 186) (by decide +kernel))) rfl, W0_in (tp_4 (List.mem_of_getElem? (i := 187) (by decide +kernel))) rfl, W0_in (tp_1 (List.mem_of_getElem? (i := 6) (by decide +kernel))) rfl, kcw_X7_opOf⟩, ⟨by decide, by decide, by decide +kernel⟩, by decide, by decide⟩
theorem kcv_X7_239 : gMv RX7 239 zk_X7_newLocal 0 := ⟨⟨W0_in (tp_4 (List.mem_of_getElem? (i := 189) (by decide +kernel))) rfl, W0_in (tp_4 (List.mem_of_getElem? (i := 191) (by decide +kernel))) rfl, W0_in (List.mem_of_getElem? (i := 39) (by decide +kernel)) rfl, W0_in (tp_1 (List.mem_of_getElem? (i := 6) (by decide +kernel))) rfl, kcw_X7_newLocal⟩, ⟨by decide, by decide, by decide +kernel⟩, by decide, by decide⟩
theorem kcv_X7_242 : gMv RX7 242 zk_X7_source 3 := ⟨⟨W0_in (tp_4 (List.mem_of_getElem? (i := 193) (by decide +kernel))) rfl, W0_in (tp_4 (List.mem_of_getElem? (i := 195) (by decide +kernel))) rfl, W0_in (List.mem_of_getElem? (i := 40) (by decide +kernel)) rfl, W0_in (tp_1 (List.mem_of_getElem? (i := 6) (by decide +kernel))) rfl, kcw_X7_source⟩, ⟨by decide, by decide, by decide +kernel⟩, by decide, by decide⟩
theorem kcv_X7_245 : gMv RX7 245 zk_X7_makeKnown 1 := ⟨⟨W0_in (tp_4 (List.mem_of_getElem? (i := 204) (by decide +kernel))) rfl, W0_in (tp_4 (List.mem_of_getElem? (i := 206) (by decide +kernel))) rfl, W0_in (List.mem_of_getElem? (i := 42) (by decide +kernel)) rfl, W0_in (tp_1 (List.mem_of_getElem? (i := 6) (by decide +kernel))) rfl, kcw_X7_makeKnown⟩, ⟨by decide, by decide, by decide +kernel⟩, by decide, by decide⟩
theorem kcv_X7_248 : gMv RX7 248 zk_X7_rowStatement 1 := ⟨⟨W0_in (tp_4 (List.mem_of_getElem? (i := 208) (by decide +kernel))) rfl, W0_in (tp_4 (List.mem_of_getElem? (i := 210) (by decide +kernel))) rfl, W0_in (List.mem_of_getElem? (i := 43) (by decide +kernel)) rfl, W0_in (tp_1 (List.mem_of_getElem? (i := 6) (by decide +kernel))) rfl, kcw_X7_rowStatement⟩, ⟨by decide, by decide, by decide +kernel⟩, by decide, by decide⟩
theorem kcv_X7_251 : gMv RX7 251 zk_X7_setTarget 0 := ⟨⟨W0_in (tp_4 (List.mem_of_getElem? (i := 212) (by decide +kernel))) rfl, W0_in (tp_4 (List.mem_of_getElem? (i := 214) (by decide +kernel))) rfl, W0_in (List.mem_of_getElem? (i := 44) (by decide +kernel)) rfl, W0_in (tp_1 (List.mem_of_getElem? (i := 6) (by decide +kernel))) rfl, kcw_X7_setTarget⟩, ⟨by decide, by decide, by decide +kernel⟩, by decide, by decide⟩
theorem kcv_X7_257 : gMv RX7 257 zk_X7_testStatement 1 := ⟨⟨W0_in (tp_4 (List.mem_of_getElem? (i := 216) (by decide +kernel))) rfl, W0_in (tp_4 (List.mem_of_getElem? (i := 218) (by decide +kernel))) rfl, W0_in (List.mem_of_getElem? (i := 45) (by decide +kernel)) rfl, W0_in (tp_1 (List.mem_of_getElem? (i := 6) (by decide +kernel))) rfl, kcw_X7_testStatement⟩, ⟨by decide, by decide, by decide +kernel⟩, by decide, by decide⟩
theorem kcv_X7_260 : gMv RX7 260 zk_X7_nameStep 2 := ⟨⟨W0_in (tp_4 (List.mem_of_getElem? (i := 220) (by decide +kernel))) rfl, W0_in (tp_4 (List.mem_of_getElem? (i := 222) (by decide +kernel))) rfl, W0_in (List.mem_of_getElem? (i := 46) (by decide +kernel)) rfl, W0_in (tp_1 (List.mem_of_getElem? (i := 6) (by decide +kernel))) rfl, kcw_X7_nameStep⟩, ⟨by decide, by decide, by decide +kernel⟩, by decide, by decide⟩
theorem kcv_X7_263 : gMv RX7 263 zk_X7_plainStatement 2 := ⟨⟨W0_in (tp_4 (List.mem_of_getElem? (i := 224) (by decide +kernel))) rfl, W0_in (tp_4 (List.mem_of_getElem? (i := 226) (by decide +kernel))) rfl, W0_in (List.mem_of_getElem? (i := 47) (by decide +kernel)) rfl, W0_in (tp_1 (List.mem_of_getElem? (i := 6) (by decide +kernel))) rfl, kcw_X7_plainStatement⟩, ⟨by decide, by decide, by decide +kernel⟩, by decide, by decide⟩
theorem kcv_X7_266 : gMv RX7 266 zk_X7_knownFrom 2 := ⟨⟨W0_in (tp_4 (List.mem_of_getElem? (i := 147) (by decide +kernel))) rfl, W0_in (tp_4 (List.mem_of_getElem? (i := 149) (by decide +kernel))) rfl, W0_in (List.mem_of_getElem? (i := 32) (by decide +kernel)) rfl, W0_in (tp_1 (List.mem_of_getElem? (i := 6) (by decide +kernel))) rfl, kcw_X7_knownFrom⟩, ⟨by decide, by decide, by decide +kernel⟩, by decide, by decide⟩
theorem kcv_X7_272 : gMv RX7 272 zk_X9_sameName 2 := ⟨⟨W0_in (tp_4 (List.mem_of_getElem? (i := 151) (by decide +kernel))) rfl, W0_in (tp_4 (List.mem_of_getElem? (i := 152) (by decide +kernel))) rfl, W0_in (tp_4 (List.mem_of_getElem? (i := 153) (by decide +kernel))) rfl, W0_in (tp_1 (List.mem_of_getElem? (i := 2) (by decide +kernel))) rfl, kcw_X9_sameName⟩, ⟨by decide, by decide, by decide +kernel⟩, by decide, by decide⟩
theorem kcv_X7_279 : gMv RX7 279 zk_X7_sourceOp 0 := ⟨⟨W0_in (tp_4 (List.mem_of_getElem? (i := 197) (by decide +kernel))) rfl, W0_in (tp_4 (List.mem_of_getElem? (i := 199) (by decide +kernel))) rfl, W0_in (List.mem_of_getElem? (i := 41) (by decide +kernel)) rfl, W0_in (tp_1 (List.mem_of_getElem? (i := 6) (by decide +kernel))) rfl, kcw_X7_sourceOp⟩, ⟨by decide, by decide, by decide +kernel⟩, by decide, by decide⟩
theorem kcs_X7_282 : gMs RX7 282 zk_X7_useOfCell 2 := ⟨⟨W0_in (tp_4 (List.mem_of_getElem? (i := 201) (by decide +kernel))) rfl, W0_in (tp_4 (List.mem_of_getElem? (i := 202) (by decide +kernel))) rfl, W0_in (tp_1 (List.mem_of_getElem? (i := 6) (by decide +kernel))) rfl, kcw_X7_useOfCell⟩, ⟨by decide, by decide, by decide +kernel⟩, by decide, by decide⟩
theorem kcv_X7_295 : gMv RX7 295 zk_X7_hold 3 := ⟨⟨W0_in (tp_4 (List.mem_of_getElem? (i := 119) (by decide +kernel))) rfl, W0_in (tp_4 (List.mem_of_getElem? (i := 121) (by decide +kernel))) rfl, W0_in (List.mem_of_getElem? (i := 26) (by decide +kernel)) rfl, W0_in (tp_1 (List.mem_of_getElem? (i := 6) (by decide +kernel))) rfl, kcw_X7_hold⟩, ⟨by decide, by decide, by decide +kernel⟩, by decide, by decide⟩
theorem kcv_X7_298 : gMv RX7 298 zk_X7_openOperand 0 := ⟨⟨W0_in (tp_4 (List.mem_of_getElem? (i := 123) (by decide +kernel))) rfl, W0_in (tp_4 (List.mem_of_getElem? (i := 125) (by decide +kernel))) rfl, W0_in (List.mem_of_getElem? (i := 27) (by decide +kernel)) rfl, W0_in (tp_1 (List.mem_of_getElem? (i := 6) (by decide +kernel))) rfl, kcw_X7_openOperand⟩, ⟨by decide, by decide, by decide +kernel⟩, by decide, by decide⟩
theorem kcv_X7_301 : gMv RX7 301 zk_X7_claimedCell 0 := ⟨⟨W0_in (tp_4 (List.mem_of_getElem? (i := 135) (by decide +kernel))) rfl, W0_in (tp_4 (List.mem_of_getElem? (i := 137) (by decide +kernel))) rfl, W0_in (List.mem_of_getElem? (i := 30) (by decide +kernel)) rfl, W0_in (tp_1 (List.mem_of_getElem? (i := 6) (by decide +kernel))) rfl, kcw_X7_claimedCell⟩, ⟨by decide, by decide, by decide +kernel⟩, by decide, by decide⟩
theorem kcv_X7_304 : gMv RX7 304 zk_X7_readOperand 0 := ⟨⟨W0_in (tp_4 (List.mem_of_getElem? (i := 143) (by decide +kernel))) rfl, W0_in (tp_4 (List.mem_of_getElem? (i := 145) (by decide +kernel))) rfl, W0_in (List.mem_of_getElem? (i := 31) (by decide +kernel)) rfl, W0_in (tp_1 (List.mem_of_getElem? (i := 6) (by decide +kernel))) rfl, kcw_X7_readOperand⟩, ⟨by decide, by decide, by decide +kernel⟩, by decide, by decide⟩
theorem kcv_X7_307 : gMv RX7 307 zk_X7_release 1 := ⟨⟨W0_in (tp_4 (List.mem_of_getElem? (i := 155) (by decide +kernel))) rfl, W0_in (tp_4 (List.mem_of_getElem? (i := 157) (by decide +kernel))) rfl, W0_in (List.mem_of_getElem? (i := 33) (by decide +kernel)) rfl, W0_in (tp_1 (List.mem_of_getElem? (i := 6) (by decide +kernel))) rfl, kcw_X7_release⟩, ⟨by decide, by decide, by decide +kernel⟩, by decide, by decide⟩
theorem kcs_X7_310 : gMs RX7 310 zk_X7_strengthOf 1 := ⟨⟨W0_in (tp_4 (List.mem_of_getElem? (i := 159) (by decide +kernel))) rfl, W0_in (tp_4 (List.mem_of_getElem? (i := 160) (by decide +kernel))) rfl, W0_in (tp_1 (List.mem_of_getElem? (i := 6) (by decide +kernel))) rfl, kcw_X7_strengthOf⟩, ⟨by decide, by decide, by decide +kernel⟩, by decide, by decide⟩
theorem kcv_X7_313 : gMv RX7 313 zk_X7_depthHere 0 := ⟨⟨W0_in (tp_4 (List.mem_of_getElem? (i := 131) (by decide +kernel))) rfl, W0_in (tp_4 (List.mem_of_getElem? (i := 133) (by decide +kernel))) rfl, W0_in (List.mem_of_getElem? (i := 29) (by decide +kernel)) rfl, W0_in (tp_1 (List.mem_of_getElem? (i := 6) (by decide +kernel))) rfl, kcw_X7_depthHere⟩, ⟨by decide, by decide, by decide +kernel⟩, by decide, by decide⟩
theorem kcv_X7_316 : gMv RX7 316 zk_X0_addPart 2 := ⟨⟨W0_in (tp_4 (List.mem_of_getElem? (i := 139) (by decide +kernel))) rfl, W0_in (tp_4 (List.mem_of_getElem? (i := 140) (by decide +kernel))) rfl, W0_in (tp_4 (List.mem_of_getElem? (i := 141) (by decide +kernel))) rfl, W0_in (tp_1 (List.mem_of_getElem? (i := 4) (by decide +kernel))) rfl, kcw_X0_addPart⟩, ⟨by decide, by decide, by decide +kernel⟩, by decide, by decide⟩
theorem kcv_X7_319 : gMv RX7 319 zk_X7_beginsSum 1 := ⟨⟨W0_in (tp_4 (List.mem_of_getElem? (i := 127) (by decide +kernel))) rfl, W0_in (tp_4 (List.mem_of_getElem? (i := 129) (by decide +kernel))) rfl, W0_in (List.mem_of_getElem? (i := 28) (by decide +kernel)) rfl, W0_in (tp_1 (List.mem_of_getElem? (i := 6) (by decide +kernel))) rfl, kcw_X7_beginsSum⟩, ⟨by decide, by decide, by decide +kernel⟩, by decide, by decide⟩
theorem kcv_X9_44 : gMv RX9 44 zk_X9_skipBlanks 0 := ⟨⟨W0_in (tp_3 (List.mem_of_getElem? (i := 109) (by decide +kernel))) rfl, W0_in (tp_3 (List.mem_of_getElem? (i := 111) (by decide +kernel))) rfl, W0_in (List.mem_of_getElem? (i := 1) (by decide +kernel)) rfl, W0_in (tp_1 (List.mem_of_getElem? (i := 2) (by decide +kernel))) rfl, kcw_X9_skipBlanks⟩, ⟨by decide, by decide, by decide +kernel⟩, by decide, by decide⟩
theorem kcv_X9_47 : gMv RX9 47 zk_X9_cutOne 0 := ⟨⟨W0_in (tp_3 (List.mem_of_getElem? (i := 117) (by decide +kernel))) rfl, W0_in (tp_3 (List.mem_of_getElem? (i := 119) (by decide +kernel))) rfl, W0_in (List.mem_of_getElem? (i := 3) (by decide +kernel)) rfl, W0_in (tp_1 (List.mem_of_getElem? (i := 2) (by decide +kernel))) rfl, kcw_X9_cutOne⟩, ⟨by decide, by decide, by decide +kernel⟩, by decide, by decide⟩
theorem kcv_X9_51 : gMv RX9 51 zk_X9_byteAt 1 := ⟨⟨W0_in (tp_3 (List.mem_of_getElem? (i := 113) (by decide +kernel))) rfl, W0_in (tp_3 (List.mem_of_getElem? (i := 115) (by decide +kernel))) rfl, W0_in (List.mem_of_getElem? (i := 2) (by decide +kernel)) rfl, W0_in (tp_1 (List.mem_of_getElem? (i := 2) (by decide +kernel))) rfl, kcw_X9_byteAt⟩, ⟨by decide, by decide, by decide +kernel⟩, by decide, by decide⟩
theorem kcs_X9_55 : gMs RX9 55 zk_X9_isLetter 1 := ⟨⟨W0_in (tp_3 (List.mem_of_getElem? (i := 121) (by decide +kernel))) rfl, W0_in (tp_3 (List.mem_of_getElem? (i := 122) (by decide +kernel))) rfl, W0_in (tp_1 (List.mem_of_getElem? (i := 2) (by decide +kernel))) rfl, kcw_X9_isLetter⟩, ⟨by decide, by decide, by decide +kernel⟩, by decide, by decide⟩
theorem kcv_X9_59 : gMv RX9 59 zk_X9_passLettersAndDigits 0 := ⟨⟨W0_in (tp_3 (List.mem_of_getElem? (i := 124) (by decide +kernel))) rfl, W0_in (tp_3 (List.mem_of_getElem? (i := 126) (by decide +kernel))) rfl, W0_in (List.mem_of_getElem? (i := 4) (by decide +kernel)) rfl, W0_in (tp_1 (List.mem_of_getElem? (i := 2) (by decide +kernel))) rfl, kcw_X9_passLettersAndDigits⟩, ⟨by decide, by decide, by decide +kernel⟩, by decide, by decide⟩
theorem kcv_X9_62 : gMv RX9 62 zk_X9_nameOrWord 1 := ⟨⟨W0_in (tp_3 (List.mem_of_getElem? (i := 131) (by decide +kernel))) rfl, W0_in (tp_3 (List.mem_of_getElem? (i := 133) (by decide +kernel))) rfl, W0_in (List.mem_of_getElem? (i := 5) (by decide +kernel)) rfl, W0_in (tp_1 (List.mem_of_getElem? (i := 2) (by decide +kernel))) rfl, kcw_X9_nameOrWord⟩, ⟨by decide, by decide, by decide +kernel⟩, by decide, by decide⟩
theorem kcs_X9_65 : gMs RX9 65 zk_X9_isDigit 1 := ⟨⟨W0_in (tp_3 (List.mem_of_getElem? (i := 128) (by decide +kernel))) rfl, W0_in (tp_3 (List.mem_of_getElem? (i := 129) (by decide +kernel))) rfl, W0_in (tp_1 (List.mem_of_getElem? (i := 2) (by decide +kernel))) rfl, kcw_X9_isDigit⟩, ⟨by decide, by decide, by decide +kernel⟩, by decide, by decide⟩
theorem kcv_X9_68 : gMv RX9 68 zk_X9_wholeOrBad 1 := ⟨⟨W0_in (tp_3 (List.mem_of_getElem? (i := 180) (by decide +kernel))) rfl, W0_in (tp_3 (List.mem_of_getElem? (i := 182) (by decide +kernel))) rfl, W0_in (List.mem_of_getElem? (i := 7) (by decide +kernel)) rfl, W0_in (tp_1 (List.mem_of_getElem? (i := 2) (by decide +kernel))) rfl, kcw_X9_wholeOrBad⟩, ⟨by decide, by decide, by decide +kernel⟩, by decide, by decide⟩
theorem kcv_X9_71 : gMv RX9 71 zk_X9_sign 2 := ⟨⟨W0_in (tp_3 (List.mem_of_getElem? (i := 184) (by decide +kernel))) rfl, W0_in (tp_3 (List.mem_of_getElem? (i := 186) (by decide +kernel))) rfl, W0_in (List.mem_of_getElem? (i := 8) (by decide +kernel)) rfl, W0_in (tp_1 (List.mem_of_getElem? (i := 2) (by decide +kernel))) rfl, kcw_X9_sign⟩, ⟨by decide, by decide, by decide +kernel⟩, by decide, by decide⟩
theorem kcv_X9_75 : gMv RX9 75 zk_X9_isWord 3 := ⟨⟨W0_in (tp_3 (List.mem_of_getElem? (i := 135) (by decide +kernel))) rfl, W0_in (tp_3 (List.mem_of_getElem? (i := 137) (by decide +kernel))) rfl, W0_in (List.mem_of_getElem? (i := 6) (by decide +kernel)) rfl, W0_in (tp_1 (List.mem_of_getElem? (i := 2) (by decide +kernel))) rfl, kcw_X9_isWord⟩, ⟨by decide, by decide, by decide +kernel⟩, by decide, by decide⟩
theorem kcs_X9_87 : gMs RX9 87 zk_X9_singleSign 1 := ⟨⟨W0_in (tp_3 (List.mem_of_getElem? (i := 188) (by decide +kernel))) rfl, W0_in (tp_3 (List.mem_of_getElem? (i := 189) (by decide +kernel))) rfl, W0_in (tp_1 (List.mem_of_getElem? (i := 2) (by decide +kernel))) rfl, kcw_X9_singleSign⟩, ⟨by decide, by decide, by decide +kernel⟩, by decide, by decide⟩
theorem kcv_X10_66 : gMv RX10 66 zk_X10_ringFrom 1 := ⟨⟨W0_in (tp_8 (List.mem_of_getElem? (i := 175) (by decide +kernel))) rfl, W0_in (tp_8 (List.mem_of_getElem? (i := 177) (by decide +kernel))) rfl, W0_in (List.mem_of_getElem? (i := 112) (by decide +kernel)) rfl, W0_in (tp_1 (List.mem_of_getElem? (i := 27) (by decide +kernel))) rfl, kcw_X10_ringFrom⟩, ⟨by decide, by decide, by decide +kernel⟩, by decide, by decide⟩
theorem kcs_X10_70 : gMs RX10 70 zk_X10_order 3 := ⟨⟨W0_in (tp_5 (List.mem_of_getElem? (i := 38) (by decide +kernel))) rfl, W0_in (tp_5 (List.mem_of_getElem? (i := 39) (by decide +kernel))) rfl, W0_in (tp_1 (List.mem_of_getElem? (i := 27) (by decide +kernel))) rfl, kcw_X10_order⟩, ⟨by decide, by decide, by decide +kernel⟩, by decide, by decide⟩
theorem kcv_X10_74 : gMv RX10 74 zk_X10_insertOutcome 3 := ⟨⟨W0_in (tp_8 (List.mem_of_getElem? (i := 96) (by decide +kernel))) rfl, W0_in (tp_8 (List.mem_of_getElem? (i := 98) (by decide +kernel))) rfl, W0_in (List.mem_of_getElem? (i := 109) (by decide +kernel)) rfl, W0_in (tp_1 (List.mem_of_getElem? (i := 27) (by decide +kernel))) rfl, kcw_X10_insertOutcome⟩, ⟨by decide, by decide, by decide +kernel⟩, by decide, by decide⟩
theorem kcv_X11_82 : gMv RX11 82 zk_X9_addByte 1 := ⟨⟨W0_in (tp_5 (List.mem_of_getElem? (i := 66) (by decide +kernel))) rfl, W0_in (tp_5 (List.mem_of_getElem? (i := 67) (by decide +kernel))) rfl, W0_in (tp_5 (List.mem_of_getElem? (i := 68) (by decide +kernel))) rfl, W0_in (tp_1 (List.mem_of_getElem? (i := 2) (by decide +kernel))) rfl, kcw_X9_addByte⟩, ⟨by decide, by decide, by decide +kernel⟩, by decide, by decide⟩
theorem kcv_X11_86 : gMv RX11 86 zk_X11_forgetAll 0 := ⟨⟨W0_in (tp_3 (List.mem_of_getElem? (i := 96) (by decide +kernel))) rfl, W0_in (tp_3 (List.mem_of_getElem? (i := 98) (by decide +kernel))) rfl, W0_in (List.mem_of_getElem? (i := 0) (by decide +kernel)) rfl, W0_in (tp_1 (List.mem_of_getElem? (i := 1) (by decide +kernel))) rfl, kcw_X11_forgetAll⟩, ⟨by decide, by decide, by decide +kernel⟩, by decide, by decide⟩
theorem kcv_X11_89 : gMv RX11 89 zk_X9_cut 0 := ⟨⟨W0_in (tp_3 (List.mem_of_getElem? (i := 105) (by decide +kernel))) rfl, W0_in (tp_3 (List.mem_of_getElem? (i := 106) (by decide +kernel))) rfl, W0_in (tp_3 (List.mem_of_getElem? (i := 107) (by decide +kernel))) rfl, W0_in (tp_1 (List.mem_of_getElem? (i := 2) (by decide +kernel))) rfl, kcw_X9_cut⟩, ⟨by decide, by decide, by decide +kernel⟩, by decide, by decide⟩
theorem kcv_X11_92 : gMv RX11 92 zk_X7_readAll 0 := ⟨⟨W0_in (tp_3 (List.mem_of_getElem? (i := 191) (by decide +kernel))) rfl, W0_in (tp_3 (List.mem_of_getElem? (i := 192) (by decide +kernel))) rfl, W0_in (tp_3 (List.mem_of_getElem? (i := 193) (by decide +kernel))) rfl, W0_in (tp_1 (List.mem_of_getElem? (i := 6) (by decide +kernel))) rfl, kcw_X7_readAll⟩, ⟨by decide, by decide, by decide +kernel⟩, by decide, by decide⟩
theorem kcv_X11_95 : gMv RX11 95 zk_X6_judge 0 := ⟨⟨W0_in (tp_4 (List.mem_of_getElem? (i := 228) (by decide +kernel))) rfl, W0_in (tp_4 (List.mem_of_getElem? (i := 229) (by decide +kernel))) rfl, W0_in (tp_4 (List.mem_of_getElem? (i := 230) (by decide +kernel))) rfl, W0_in (tp_1 (List.mem_of_getElem? (i := 3) (by decide +kernel))) rfl, kcw_X6_judge⟩, ⟨by decide, by decide, by decide +kernel⟩, by decide, by decide⟩
theorem kcv_X11_107 : gMv RX11 107 zk_X7_tokenHere 0 := ⟨⟨W0_in (tp_5 (List.mem_of_getElem? (i := 18) (by decide +kernel))) rfl, W0_in (tp_5 (List.mem_of_getElem? (i := 19) (by decide +kernel))) rfl, W0_in (tp_5 (List.mem_of_getElem? (i := 20) (by decide +kernel))) rfl, W0_in (tp_1 (List.mem_of_getElem? (i := 6) (by decide +kernel))) rfl, kcw_X7_tokenHere⟩, ⟨by decide, by decide, by decide +kernel⟩, by decide, by decide⟩
theorem kcv_X11_121 : gMv RX11 121 zk_X7_link 0 := ⟨⟨W0_in (tp_5 (List.mem_of_getElem? (i := 22) (by decide +kernel))) rfl, W0_in (tp_5 (List.mem_of_getElem? (i := 23) (by decide +kernel))) rfl, W0_in (tp_5 (List.mem_of_getElem? (i := 24) (by decide +kernel))) rfl, W0_in (tp_1 (List.mem_of_getElem? (i := 6) (by decide +kernel))) rfl, kcw_X7_link⟩, ⟨by decide, by decide, by decide +kernel⟩, by decide, by decide⟩
theorem kcs_X11_132 : gMs RX11 132 zk_X11_needWhat 2 := ⟨⟨W0_in (tp_5 (List.mem_of_getElem? (i := 101) (by decide +kernel))) rfl, W0_in (tp_5 (List.mem_of_getElem? (i := 102) (by decide +kernel))) rfl, W0_in (tp_1 (List.mem_of_getElem? (i := 1) (by decide +kernel))) rfl, kcw_X11_needWhat⟩, ⟨by decide, by decide, by decide +kernel⟩, by decide, by decide⟩
theorem kcv_X11_148 : gMv RX11 148 zk_X11_needCompiled 0 := ⟨⟨W0_in (tp_5 (List.mem_of_getElem? (i := 112) (by decide +kernel))) rfl, W0_in (tp_5 (List.mem_of_getElem? (i := 114) (by decide +kernel))) rfl, W0_in (List.mem_of_getElem? (i := 55) (by decide +kernel)) rfl, W0_in (tp_1 (List.mem_of_getElem? (i := 1) (by decide +kernel))) rfl, kcw_X11_needCompiled⟩, ⟨by decide, by decide, by decide +kernel⟩, by decide, by decide⟩
theorem kcs_X11_151 : gMs RX11 151 zk_X11_needWay 1 := ⟨⟨W0_in (tp_5 (List.mem_of_getElem? (i := 118) (by decide +kernel))) rfl, W0_in (tp_5 (List.mem_of_getElem? (i := 119) (by decide +kernel))) rfl, W0_in (tp_1 (List.mem_of_getElem? (i := 1) (by decide +kernel))) rfl, kcw_X11_needWay⟩, ⟨by decide, by decide, by decide +kernel⟩, by decide, by decide⟩
theorem kcv_X11_154 : gMv RX11 154 zk_X11_beginRun 1 := ⟨⟨W0_in (tp_5 (List.mem_of_getElem? (i := 122) (by decide +kernel))) rfl, W0_in (tp_5 (List.mem_of_getElem? (i := 124) (by decide +kernel))) rfl, W0_in (List.mem_of_getElem? (i := 56) (by decide +kernel)) rfl, W0_in (tp_1 (List.mem_of_getElem? (i := 1) (by decide +kernel))) rfl, kcw_X11_beginRun⟩, ⟨by decide, by decide, by decide +kernel⟩, by decide, by decide⟩
theorem kcv_X11_160 : gMv RX11 160 zk_X11_needRun 0 := ⟨⟨W0_in (tp_5 (List.mem_of_getElem? (i := 232) (by decide +kernel))) rfl, W0_in (tp_5 (List.mem_of_getElem? (i := 234) (by decide +kernel))) rfl, W0_in (List.mem_of_getElem? (i := 70) (by decide +kernel)) rfl, W0_in (tp_1 (List.mem_of_getElem? (i := 1) (by decide +kernel))) rfl, kcw_X11_needRun⟩, ⟨by decide, by decide, by decide +kernel⟩, by decide, by decide⟩
theorem kcs_X11_163 : gMs RX11 163 zk_X11_needIndex 2 := ⟨⟨W0_in (tp_6 (List.mem_of_getElem? (i := 4) (by decide +kernel))) rfl, W0_in (tp_6 (List.mem_of_getElem? (i := 5) (by decide +kernel))) rfl, W0_in (tp_1 (List.mem_of_getElem? (i := 1) (by decide +kernel))) rfl, kcw_X11_needIndex⟩, ⟨by decide, by decide, by decide +kernel⟩, by decide, by decide⟩
theorem kcv_X11_172 : gMv RX11 172 zk_X5_sortOf 1 := ⟨⟨W0_in (tp_6 (List.mem_of_getElem? (i := 8) (by decide +kernel))) rfl, W0_in (tp_5 (List.mem_of_getElem? (i := 189) (by decide +kernel))) rfl, W0_in (tp_5 (List.mem_of_getElem? (i := 190) (by decide +kernel))) rfl, W0_in (tp_1 (List.mem_of_getElem? (i := 7) (by decide +kernel))) rfl, kcw_X5_sortOf⟩, ⟨by decide, by decide, by decide +kernel⟩, by decide, by decide⟩
theorem kcv_X11_176 : gMv RX11 176 zk_X5_objectOf 1 := ⟨⟨W0_in (tp_6 (List.mem_of_getElem? (i := 9) (by decide +kernel))) rfl, W0_in (tp_6 (List.mem_of_getElem? (i := 10) (by decide +kernel))) rfl, W0_in (tp_6 (List.mem_of_getElem? (i := 11) (by decide +kernel))) rfl, W0_in (tp_1 (List.mem_of_getElem? (i := 7) (by decide +kernel))) rfl, kcw_X5_objectOf⟩, ⟨by decide, by decide, by decide +kernel⟩, by decide, by decide⟩
theorem kcv_X11_179 : gMv RX11 179 zk_X5_lateCell 2 := ⟨⟨W0_in (tp_6 (List.mem_of_getElem? (i := 17) (by decide +kernel))) rfl, W0_in (tp_5 (List.mem_of_getElem? (i := 217) (by decide +kernel))) rfl, W0_in (tp_5 (List.mem_of_getElem? (i := 218) (by decide +kernel))) rfl, W0_in (tp_1 (List.mem_of_getElem? (i := 7) (by decide +kernel))) rfl, kcw_X5_lateCell⟩, ⟨by decide, by decide, by decide +kernel⟩, by decide, by decide⟩
theorem kcv_X11_192 : gMv RX11 192 zk_X11_doChoice 1 := ⟨⟨W0_in (tp_6 (List.mem_of_getElem? (i := 26) (by decide +kernel))) rfl, W0_in (tp_6 (List.mem_of_getElem? (i := 28) (by decide +kernel))) rfl, W0_in (List.mem_of_getElem? (i := 71) (by decide +kernel)) rfl, W0_in (tp_1 (List.mem_of_getElem? (i := 1) (by decide +kernel))) rfl, kcw_X11_doChoice⟩, ⟨by decide, by decide, by decide +kernel⟩, by decide, by decide⟩
theorem kcv_X11_209 : gMv RX11 209 zk_X5_isStuck 0 := ⟨⟨W0_in (tp_6 (List.mem_of_getElem? (i := 161) (by decide +kernel))) rfl, W0_in (tp_6 (List.mem_of_getElem? (i := 162) (by decide +kernel))) rfl, W0_in (tp_6 (List.mem_of_getElem? (i := 163) (by decide +kernel))) rfl, W0_in (tp_1 (List.mem_of_getElem? (i := 7) (by decide +kernel))) rfl, kcw_X5_isStuck⟩, ⟨by decide, by decide, by decide +kernel⟩, by decide, by decide⟩
theorem kcv_X11_213 : gMv RX11 213 zk_X4_races 0 := ⟨⟨W0_in (tp_6 (List.mem_of_getElem? (i := 169) (by decide +kernel))) rfl, W0_in (tp_6 (List.mem_of_getElem? (i := 170) (by decide +kernel))) rfl, W0_in (tp_6 (List.mem_of_getElem? (i := 171) (by decide +kernel))) rfl, W0_in (tp_1 (List.mem_of_getElem? (i := 9) (by decide +kernel))) rfl, kcw_X4_races⟩, ⟨by decide, by decide, by decide +kernel⟩, by decide, by decide⟩
theorem kcv_X11_219 : gMv RX11 219 zk_X5_allLate 0 := ⟨⟨W0_in (tp_6 (List.mem_of_getElem? (i := 173) (by decide +kernel))) rfl, W0_in (tp_6 (List.mem_of_getElem? (i := 174) (by decide +kernel))) rfl, W0_in (tp_6 (List.mem_of_getElem? (i := 175) (by decide +kernel))) rfl, W0_in (tp_1 (List.mem_of_getElem? (i := 7) (by decide +kernel))) rfl, kcw_X5_allLate⟩, ⟨by decide, by decide, by decide +kernel⟩, by decide, by decide⟩
theorem kcv_X11_225 : gMv RX11 225 zk_X5_seenBy 2 := ⟨⟨W0_in (tp_6 (List.mem_of_getElem? (i := 191) (by decide +kernel))) rfl, W0_in (tp_6 (List.mem_of_getElem? (i := 59) (by decide +kernel))) rfl, W0_in (tp_6 (List.mem_of_getElem? (i := 60) (by decide +kernel))) rfl, W0_in (tp_1 (List.mem_of_getElem? (i := 7) (by decide +kernel))) rfl, kcw_X5_seenBy⟩, ⟨by decide, by decide, by decide +kernel⟩, by decide, by decide⟩
theorem kcv_X11_228 : gMv RX11 228 zk_X5_holder 1 := ⟨⟨W0_in (tp_6 (List.mem_of_getElem? (i := 199) (by decide +kernel))) rfl, W0_in (tp_5 (List.mem_of_getElem? (i := 197) (by decide +kernel))) rfl, W0_in (tp_5 (List.mem_of_getElem? (i := 198) (by decide +kernel))) rfl, W0_in (tp_1 (List.mem_of_getElem? (i := 7) (by decide +kernel))) rfl, kcw_X5_holder⟩, ⟨by decide, by decide, by decide +kernel⟩, by decide, by decide⟩
theorem kcv_X11_231 : gMv RX11 231 zk_X5_often 1 := ⟨⟨W0_in (tp_6 (List.mem_of_getElem? (i := 200) (by decide +kernel))) rfl, W0_in (tp_6 (List.mem_of_getElem? (i := 71) (by decide +kernel))) rfl, W0_in (tp_6 (List.mem_of_getElem? (i := 72) (by decide +kernel))) rfl, W0_in (tp_1 (List.mem_of_getElem? (i := 7) (by decide +kernel))) rfl, kcw_X5_often⟩, ⟨by decide, by decide, by decide +kernel⟩, by decide, by decide⟩
theorem kcv_X11_234 : gMv RX11 234 zk_X5_waiters 1 := ⟨⟨W0_in (tp_6 (List.mem_of_getElem? (i := 201) (by decide +kernel))) rfl, W0_in (tp_5 (List.mem_of_getElem? (i := 205) (by decide +kernel))) rfl, W0_in (tp_5 (List.mem_of_getElem? (i := 206) (by decide +kernel))) rfl, W0_in (tp_1 (List.mem_of_getElem? (i := 7) (by decide +kernel))) rfl, kcw_X5_waiters⟩, ⟨by decide, by decide, by decide +kernel⟩, by decide, by decide⟩
theorem kcv_X11_242 : gMv RX11 242 zk_X5_get 2 := ⟨⟨W0_in (tp_6 (List.mem_of_getElem? (i := 215) (by decide +kernel))) rfl, W0_in (tp_5 (List.mem_of_getElem? (i := 149) (by decide +kernel))) rfl, W0_in (tp_5 (List.mem_of_getElem? (i := 150) (by decide +kernel))) rfl, W0_in (tp_1 (List.mem_of_getElem? (i := 7) (by decide +kernel))) rfl, kcw_X5_get⟩, ⟨by decide, by decide, by decide +kernel⟩, by decide, by decide⟩
theorem kcv_X11_245 : gMv RX11 245 zk_X5_known 1 := ⟨⟨W0_in (tp_6 (List.mem_of_getElem? (i := 216) (by decide +kernel))) rfl, W0_in (tp_5 (List.mem_of_getElem? (i := 177) (by decide +kernel))) rfl, W0_in (tp_5 (List.mem_of_getElem? (i := 178) (by decide +kernel))) rfl, W0_in (tp_1 (List.mem_of_getElem? (i := 7) (by decide +kernel))) rfl, kcw_X5_known⟩, ⟨by decide, by decide, by decide +kernel⟩, by decide, by decide⟩
theorem kcv_X11_248 : gMv RX11 248 zk_X5_lineOf 1 := ⟨⟨W0_in (tp_6 (List.mem_of_getElem? (i := 217) (by decide +kernel))) rfl, W0_in (tp_6 (List.mem_of_getElem? (i := 218) (by decide +kernel))) rfl, W0_in (tp_6 (List.mem_of_getElem? (i := 219) (by decide +kernel))) rfl, W0_in (tp_1 (List.mem_of_getElem? (i := 7) (by decide +kernel))) rfl, kcw_X5_lineOf⟩, ⟨by decide, by decide, by decide +kernel⟩, by decide, by decide⟩
theorem kcv_X11_266 : gMv RX11 266 zk_X4_isBefore 2 := ⟨⟨W0_in (tp_7 (List.mem_of_getElem? (i := 2) (by decide +kernel))) rfl, W0_in (tp_6 (List.mem_of_getElem? (i := 134) (by decide +kernel))) rfl, W0_in (tp_6 (List.mem_of_getElem? (i := 135) (by decide +kernel))) rfl, W0_in (tp_1 (List.mem_of_getElem? (i := 9) (by decide +kernel))) rfl, kcw_X4_isBefore⟩, ⟨by decide, by decide, by decide +kernel⟩, by decide, by decide⟩
theorem kcv_X11_270 : gMv RX11 270 zk_X4_laterOfRace 1 := ⟨⟨W0_in (tp_7 (List.mem_of_getElem? (i := 10) (by decide +kernel))) rfl, W0_in (tp_7 (List.mem_of_getElem? (i := 11) (by decide +kernel))) rfl, W0_in (tp_7 (List.mem_of_getElem? (i := 12) (by decide +kernel))) rfl, W0_in (tp_1 (List.mem_of_getElem? (i := 9) (by decide +kernel))) rfl, kcw_X4_laterOfRace⟩, ⟨by decide, by decide, by decide +kernel⟩, by decide, by decide⟩
theorem kcv_X11_273 : gMv RX11 273 zk_X4_earlierOfRace 2 := ⟨⟨W0_in (tp_7 (List.mem_of_getElem? (i := 14) (by decide +kernel))) rfl, W0_in (tp_7 (List.mem_of_getElem? (i := 15) (by decide +kernel))) rfl, W0_in (tp_7 (List.mem_of_getElem? (i := 16) (by decide +kernel))) rfl, W0_in (tp_1 (List.mem_of_getElem? (i := 9) (by decide +kernel))) rfl, kcw_X4_earlierOfRace⟩, ⟨by decide, by decide, by decide +kernel⟩, by decide, by decide⟩
theorem kcv_X11_285 : gMv RX11 285 zk_X3_take 1 := ⟨⟨W0_in (tp_7 (List.mem_of_getElem? (i := 74) (by decide +kernel))) rfl, W0_in (tp_7 (List.mem_of_getElem? (i := 75) (by decide +kernel))) rfl, W0_in (tp_7 (List.mem_of_getElem? (i := 76) (by decide +kernel))) rfl, W0_in (tp_1 (List.mem_of_getElem? (i := 24) (by decide +kernel))) rfl, kcw_X3_take⟩, ⟨by decide, by decide, by decide +kernel⟩, by decide, by decide⟩
theorem kcv_X11_289 : gMv RX11 289 zk_X3_fewestThatFail 1 := ⟨⟨W0_in (tp_7 (List.mem_of_getElem? (i := 88) (by decide +kernel))) rfl, W0_in (tp_7 (List.mem_of_getElem? (i := 89) (by decide +kernel))) rfl, W0_in (tp_7 (List.mem_of_getElem? (i := 90) (by decide +kernel))) rfl, W0_in (tp_1 (List.mem_of_getElem? (i := 24) (by decide +kernel))) rfl, kcw_X3_fewestThatFail⟩, ⟨by decide, by decide, by decide +kernel⟩, by decide, by decide⟩
theorem kcv_X11_302 : gMv RX11 302 zk_X2_explore 3 := ⟨⟨W0_in (tp_7 (List.mem_of_getElem? (i := 238) (by decide +kernel))) rfl, W0_in (tp_7 (List.mem_of_getElem? (i := 239) (by decide +kernel))) rfl, W0_in (tp_8 (List.mem_of_getElem? (i := 0) (by decide +kernel))) rfl, W0_in (tp_1 (List.mem_of_getElem? (i := 26) (by decide +kernel))) rfl, kcw_X2_explore⟩, ⟨by decide, by decide, by decide +kernel⟩, by decide, by decide⟩
theorem kcv_X11_309 : gMv RX11 309 zk_X11_wasTried 1 := ⟨⟨W0_in (tp_5 (List.mem_of_getElem? (i := 30) (by decide +kernel))) rfl, W0_in (tp_5 (List.mem_of_getElem? (i := 32) (by decide +kernel))) rfl, W0_in (List.mem_of_getElem? (i := 54) (by decide +kernel)) rfl, W0_in (tp_1 (List.mem_of_getElem? (i := 1) (by decide +kernel))) rfl, kcw_X11_wasTried⟩, ⟨by decide, by decide, by decide +kernel⟩, by decide, by decide⟩
theorem kcv_X11_328 : gMv RX11 328 zk_X10_valueOf 2 := ⟨⟨W0_in (tp_8 (List.mem_of_getElem? (i := 126) (by decide +kernel))) rfl, W0_in (tp_8 (List.mem_of_getElem? (i := 127) (by decide +kernel))) rfl, W0_in (tp_8 (List.mem_of_getElem? (i := 128) (by decide +kernel))) rfl, W0_in (tp_1 (List.mem_of_getElem? (i := 27) (by decide +kernel))) rfl, kcw_X10_valueOf⟩, ⟨by decide, by decide, by decide +kernel⟩, by decide, by decide⟩
theorem kcs_X11_331 : gMs RX11 331 zk_X11_needFinding 1 := ⟨⟨W0_in (tp_8 (List.mem_of_getElem? (i := 137) (by decide +kernel))) rfl, W0_in (tp_8 (List.mem_of_getElem? (i := 138) (by decide +kernel))) rfl, W0_in (tp_1 (List.mem_of_getElem? (i := 1) (by decide +kernel))) rfl, kcw_X11_needFinding⟩, ⟨by decide, by decide, by decide +kernel⟩, by decide, by decide⟩
theorem kcv_X11_334 : gMv RX11 334 zk_X11_firstState 2 := ⟨⟨W0_in (tp_8 (List.mem_of_getElem? (i := 141) (by decide +kernel))) rfl, W0_in (tp_8 (List.mem_of_getElem? (i := 143) (by decide +kernel))) rfl, W0_in (List.mem_of_getElem? (i := 111) (by decide +kernel)) rfl, W0_in (tp_1 (List.mem_of_getElem? (i := 1) (by decide +kernel))) rfl, kcw_X11_firstState⟩, ⟨by decide, by decide, by decide +kernel⟩, by decide, by decide⟩
theorem kcv_X11_344 : gMv RX11 344 zk_X10_pathTo 2 := ⟨⟨W0_in (tp_8 (List.mem_of_getElem? (i := 153) (by decide +kernel))) rfl, W0_in (tp_8 (List.mem_of_getElem? (i := 154) (by decide +kernel))) rfl, W0_in (tp_8 (List.mem_of_getElem? (i := 155) (by decide +kernel))) rfl, W0_in (tp_1 (List.mem_of_getElem? (i := 27) (by decide +kernel))) rfl, kcw_X10_pathTo⟩, ⟨by decide, by decide, by decide +kernel⟩, by decide, by decide⟩
theorem kcv_X11_351 : gMv RX11 351 zk_X10_shortestRing 0 := ⟨⟨W0_in (tp_8 (List.mem_of_getElem? (i := 171) (by decide +kernel))) rfl, W0_in (tp_8 (List.mem_of_getElem? (i := 172) (by decide +kernel))) rfl, W0_in (tp_8 (List.mem_of_getElem? (i := 173) (by decide +kernel))) rfl, W0_in (tp_1 (List.mem_of_getElem? (i := 27) (by decide +kernel))) rfl, kcw_X10_shortestRing⟩, ⟨by decide, by decide, by decide +kernel⟩, by decide, by decide⟩
theorem kcv_X11_354 : gMv RX11 354 zk_X10_sameOutcomes 2 := ⟨⟨W0_in (tp_5 (List.mem_of_getElem? (i := 34) (by decide +kernel))) rfl, W0_in (tp_5 (List.mem_of_getElem? (i := 35) (by decide +kernel))) rfl, W0_in (tp_5 (List.mem_of_getElem? (i := 36) (by decide +kernel))) rfl, W0_in (tp_1 (List.mem_of_getElem? (i := 27) (by decide +kernel))) rfl, kcw_X10_sameOutcomes⟩, ⟨by decide, by decide, by decide +kernel⟩, by decide, by decide⟩
theorem kcv_X11_361 : gMv RX11 361 zk_X5_reset 1 := ⟨⟨W0_in (tp_5 (List.mem_of_getElem? (i := 126) (by decide +kernel))) rfl, W0_in (tp_5 (List.mem_of_getElem? (i := 127) (by decide +kernel))) rfl, W0_in (tp_5 (List.mem_of_getElem? (i := 128) (by decide +kernel))) rfl, W0_in (tp_1 (List.mem_of_getElem? (i := 7) (by decide +kernel))) rfl, kcw_X5_reset⟩, ⟨by decide, by decide, by decide +kernel⟩, by decide, by decide⟩
theorem kcv_X11_364 : gMv RX11 364 zk_X5_listChoices 0 := ⟨⟨W0_in (tp_5 (List.mem_of_getElem? (i := 180) (by decide +kernel))) rfl, W0_in (tp_5 (List.mem_of_getElem? (i := 181) (by decide +kernel))) rfl, W0_in (tp_5 (List.mem_of_getElem? (i := 182) (by decide +kernel))) rfl, W0_in (tp_1 (List.mem_of_getElem? (i := 7) (by decide +kernel))) rfl, kcw_X5_listChoices⟩, ⟨by decide, by decide, by decide +kernel⟩, by decide, by decide⟩
theorem kcv_X11_367 : gMv RX11 367 zk_X4_clear 0 := ⟨⟨W0_in (tp_5 (List.mem_of_getElem? (i := 220) (by decide +kernel))) rfl, W0_in (tp_5 (List.mem_of_getElem? (i := 221) (by decide +kernel))) rfl, W0_in (tp_5 (List.mem_of_getElem? (i := 222) (by decide +kernel))) rfl, W0_in (tp_1 (List.mem_of_getElem? (i := 9) (by decide +kernel))) rfl, kcw_X4_clear⟩, ⟨by decide, by decide, by decide +kernel⟩, by decide, by decide⟩
theorem kcv_X11_370 : gMv RX11 370 zk_X5_perform 1 := ⟨⟨W0_in (tp_6 (List.mem_of_getElem? (i := 30) (by decide +kernel))) rfl, W0_in (tp_6 (List.mem_of_getElem? (i := 31) (by decide +kernel))) rfl, W0_in (tp_6 (List.mem_of_getElem? (i := 32) (by decide +kernel))) rfl, W0_in (tp_1 (List.mem_of_getElem? (i := 7) (by decide +kernel))) rfl, kcw_X5_perform⟩, ⟨by decide, by decide, by decide +kernel⟩, by decide, by decide⟩
theorem kcv_X11_377 : gMv RX11 377 zk_X4_note 2 := ⟨⟨W0_in (tp_6 (List.mem_of_getElem? (i := 98) (by decide +kernel))) rfl, W0_in (tp_6 (List.mem_of_getElem? (i := 99) (by decide +kernel))) rfl, W0_in (tp_6 (List.mem_of_getElem? (i := 100) (by decide +kernel))) rfl, W0_in (tp_1 (List.mem_of_getElem? (i := 9) (by decide +kernel))) rfl, kcw_X4_note⟩, ⟨by decide, by decide, by decide +kernel⟩, by decide, by decide⟩
theorem kkc_X11_197 : Cond.constant RX11 197 (1103515245) ∈ W0 := W0_in (tp_6 (List.mem_of_getElem? (i := 145) (by decide +kernel))) rfl
theorem kkc_X3_84 : Cond.constant RX3 84 (1000000) ∈ W0 := W0_in (tp_7 (List.mem_of_getElem? (i := 83) (by decide +kernel))) rfl
theorem kkc_X5_261 : Cond.constant RX5 261 (1000000) ∈ W0 := W0_in (tp_5 (List.mem_of_getElem? (i := 143) (by decide +kernel))) rfl
theorem kkc_X5_274 : Cond.constant RX5 274 (16777619) ∈ W0 := W0_in (tp_8 (List.mem_of_getElem? (i := 25) (by decide +kernel))) rfl
end
section
/-! rows of the class: references that may be none, throws, the JDK's fill, max, bitCount, arraycopy -/
abbrev vo (r : Option Nat) : gv := .inr (.inr r)
theorem gcv_vo (ad : Nat → Nat) (r : Option Nat) : gcv ad (vo r) = va_rf (r.map ad) := by cases r <;> rfl
section KRA
variable {E : gE} {d : Nat} {y : gy} {pc : Nat} {lv lv2 : List (Nat × gv)} {st : List gv} {x : gd} {f : gf} {Q : gr → gd → gf → Prop}
theorem T_getO (c k : Nat) {ci N idx : Nat} {sl : List Bool} {ty : FieldType} {fin : Bool} (hd : decode y.2.1 pc = .ok (.getfield idx, 3)) (hf : gFl y.1.cls idx ci k ty fin N) (hK : E.2.2.2.1 c = .inl (ci, sl)) (hc : c ∈ f.2.1) (hk : k < sl.length) (hs : sl.getD k false = true)
    (k9 : T E d y (pc + 3) lv (vo (f.1 c k) :: st) x f Q) : T E d y pc lv (vr c :: st) x f Q :=
  T_step (fun p e R s m args below meth c0 A H locs cells slots ls ad Q9 C hP hS hl kk => by
    obtain ⟨C0, U, h1, h2, h3, h4, -⟩ := hf
    obtain ⟨i, -, hi⟩ := gwl_at (E := E) (x := x) (ad := ad) hc
    rw [gce_obj hK] at hi
    have hv : (gfl x f ad c sl)[k]? = some (gcv ad (vo (f.1 c k))) := by rw [gfl_ref hk hs, gcv_vo]
    exact va_get (C := C0) (T := U) (N := N) C.1.1 C.1.2.1 C.1.2.2.2.2 h2 C.1.2.2.2.1 C.2.2.2.1.1 hP.1.1 i hi h1 k h3 (C.1.2.2.2.2 _ h4) (fun _ h => h) hv hd (kk ls hl)) k9
theorem T_aaldT (c n : Nat) {i : Int32} (hd : decode y.2.1 pc = .ok (.aaload, 1)) (hK : E.2.2.2.1 c = .inr (.object "ScheduleHouse$Trial", n)) (hc : c ∈ f.2.1) (hin : vp_in i n) (k9 : T E d y (pc + 1) lv (vo (f.1 c i.toNatClampNeg) :: st) x f Q) : T E d y pc lv (vi i :: vr c :: st) x f Q :=
  T_step (fun p e R s m args below meth c0 A H locs cells slots ls ad Q9 C hP hS hl kk => by
    obtain ⟨q, -, hi⟩ := gwl_at (E := E) (x := x) (ad := ad) hc
    rw [gce_arr hK] at hi
    refine va_aldq C.1.1 C.1.2.1 C.2.2.2.1.1 hP.1.1 q 4 hi rfl hin hd ?_
    have := kk ls hl
    rw [List.map_cons, gcv_vo] at this
    exact this) k9
theorem T_aaldI (c n : Nat) {i : Int32} (hd : decode y.2.1 pc = .ok (.aaload, 1)) (hK : E.2.2.2.1 c = .inr (.array .int, n)) (hc : c ∈ f.2.1) (hin : vp_in i n) (k9 : T E d y (pc + 1) lv (vo (f.1 c i.toNatClampNeg) :: st) x f Q) : T E d y pc lv (vi i :: vr c :: st) x f Q :=
  T_step (fun p e R s m args below meth c0 A H locs cells slots ls ad Q9 C hP hS hl kk => by
    obtain ⟨q, -, hi⟩ := gwl_at (E := E) (x := x) (ad := ad) hc
    rw [gce_arr hK] at hi
    have := kk ls hl
    rw [List.map_cons, gcv_vo] at this
    have hlt : i.toNatClampNeg < n := Nat.not_le.mp fun q => hin (Or.inr q)
    have ht : (gtys E)[5]? = some (E.2.2.1 (.array .int), .array .int) := rfl
    exact W.aald (v := va_rf ((f.1 c i.toNatClampNeg).map ad)) (ty := .array .int) C.1.1 C.1.2.1 (hP.1.1 q _ hi) ((C.2.2.2.1.1.2 5 _ ht).1 n (fun j => va_rf ((f.1 c j).map ad))) rfl (fun q => by cases q) (by show ¬ (i < 0 ∨ (arrV _ _ _).slots.size ≤ _); rw [arrV_size]; exact hin) (by show (arrV _ _ _).slots[_]? = _; rw [arrV_read _ _ hlt]) rfl rfl hd this) k9
theorem T_ifnull {r : Option Nat} {off : Int} (tgt : Nat) (hd : decode y.2.1 pc = .ok (.ifnull off, 3)) (ht : (pc : Int) + off = (tgt : Int)) (k0 : r = none → T E d y tgt lv st x f Q) (k1 : ∀ c, r = some c → T E d y (pc + 3) lv st x f Q) : T E d y pc lv (vo r :: st) x f Q := by
  cases r with
  | none => exact T_step (fun p e R s m args below meth c A H locs cells slots ls ad Q9 C hP hS hl kk => lv_ifnullN C.1.1 C.1.2.1 hd ht (kk ls hl)) (k0 rfl)
  | some c => exact T_step (fun p e R s m args below meth c A H locs cells slots ls ad Q9 C hP hS hl kk => lv_ifnull C.1.1 C.1.2.1 hd (kk ls hl)) (k1 c rfl)
theorem T_ifnonnull {r : Option Nat} {off : Int} (tgt : Nat) (hd : decode y.2.1 pc = .ok (.ifnonnull off, 3)) (ht : (pc : Int) + off = (tgt : Int)) (k1 : ∀ c, r = some c → T E d y tgt lv st x f Q) (k0 : r = none → T E d y (pc + 3) lv st x f Q) : T E d y pc lv (vo r :: st) x f Q := by
  cases r with
  | none => exact T_step (fun p e R s m args below meth c A H locs cells slots ls ad Q9 C hP hS hl kk => lv_ifnonnullN C.1.1 C.1.2.1 hd (kk ls hl)) (k0 rfl)
  | some c => exact T_step (fun p e R s m args below meth c A H locs cells slots ls ad Q9 C hP hS hl kk => lv_ifnonnull C.1.1 C.1.2.1 hd ht (kk ls hl)) (k1 c rfl)
theorem ev_w {U : State} {args : Array Value} (h : ev U) (w : Cond) (hm : w ∈ ev_tab) (ho : w.onTables = true) : w.before args U = true := va_tabs ho rfl (h.2.1 w hm)
abbrev ev_B (E : String) : List Cond := [.castable E E, .declares (Bundle.initS "java/lang/RuntimeException"), .declares (Bundle.initS "java/lang/Exception"), .declares (Bundle.initS "java/lang/Throwable")]
theorem ev_b {U : State} {args : Array Value} (h : ev U) (E : String) (hm : Cond.castable E E ∈ ev_tab) : ∀ w ∈ ev_B E, w.before args U = true :=
  vx_c (ev_w h _ hm rfl) (vx_c (ev_w h _ (by decide) rfl) (vx_c (ev_w h _ (by decide) rfl) (vx_c (ev_w h _ (by decide) rfl) vx_n)))
/-- one cell, six slots more -/
def gth (f : gf) : gf := (f.1, f.2.1, f.2.2.1 + 1, f.2.2.2 + 6)
/-- what the tables say of a throw -/
def gTh (own cls text : String) (ik is ic : Nat) : Prop := (Bundle.fit cls = true ∧ Cond.castable cls cls ∈ ev_tab ∧ (own, is, text) ∈ ev_txt) ∧ (Cond.classLink own ik cls ∈ W0 ∧ Cond.initialized cls ∈ W0 ∧ ∀ w ∈ (vx_atS own ic cls up2).filter goodWord, w ∈ W0) ∧ (∀ w ∈ (vx_atS own ic cls up2).filter (fun w => !goodWord w), w ∈ ev_B cls) ∧ ∀ w ∈ Cond.classLink own ik cls :: Cond.initialized cls :: vx_atS own ic cls up2, vx_ot w = true
theorem T_thr {cls text : String} {ik is ic : Nat} (hM : gTh y.1.cls cls text ik is ic) (d0 : decode y.2.1 pc = .ok (.new ik, 3)) (d3 : decode y.2.1 (pc + 3) = .ok (.dup, 1)) (d4 : decode y.2.1 (pc + 4) = .ok (.ldc is, 2)) (d6 : decode y.2.1 (pc + 6) = .ok (.invokespecial ic, 3)) (d9 : decode y.2.1 (pc + 9) = .ok (.athrow, 1)) (hno : ∀ z ∈ tableOf y.2.2.2.2, covers z (pc + 9) = false) (hd : 6 ≤ d) (hcat : gsz st ≤ 8) (hQ : Q (.inr cls) x (gth f)) : T E d y pc lv st x f Q := by
  refine ⟨.inr cls, x, gth f, hQ, ⟨fun _ h => h, Nat.le_succ _, Nat.le_add_right _ _⟩, ?_⟩
  intro p e R s m args below meth c A H locs cells slots ls ad C hP hS hl hc hs
  obtain ⟨⟨q1, q2, q3⟩, ⟨q4, q5, q6⟩, q7, q8⟩ := hM
  obtain ⟨sa, hsa⟩ := C.2.2.2.1.2.1.1 _ q3
  have e1 : (gth f).2.2.1 - f.2.2.1 = 1 := by show f.2.2.1 + 1 - f.2.2.1 = 1; omega
  have e2 : (gth f).2.2.2 - f.2.2.2 = 6 := by show f.2.2.2 + 6 - f.2.2.2 = 6; omega
  rw [e1] at hc ⊢
  rw [e2] at hs ⊢
  have hR := C.2.2.1
  have hcs : ((st.map (gcv ad)).map fun v => v.category).sum = gsz st := gsz_c ad st
  refine vx_throwS C.1.1 C.1.2.1 C.2.2.2.1.2.2.2 (own := y.1.cls) (cls := cls) (text := text) (names := up2) (ik := ik) (is := is) (ic := ic) (sa := sa) (A := A) C.1.2.2.2.1 q1 (by decide +kernel) (C.1.2.2.2.2 _ q4) (C.1.2.2.2.2 _ q5) hsa (vx_hat (B := ev_B cls) (fun w hw => C.1.2.2.2.2 w (q6 w hw)) q7 (ev_b C.2.2.2.1.2.1 cls q2)) q8 C.2.2.2.1.2.2.1.1.1 C.2.2.2.1.2.2.1.1.2 hS (by rw [C.1.2.2.1]; exact hl.1) d0 d3 d4 d6 d9 (fun z hz => hno z (by rw [← C.2.1.2.2.1]; exact hz)) (by show 2 + 3 < _; omega) (by rw [hcs]; show gsz st + (13 * (2 + 1) + 43) ≤ _; omega) hc hs C.2.1.2.1 (fun t _ hz hk => ?_) hS.2.2 (Nat.le_refl _) (Nat.le_refl _)
  refine ⟨ad, gex_rf f ad, rfl, ?_, Nat.le_trans hS.1 hz, fun q h1 h2 => (hk q (Nat.lt_of_lt_of_le h1 hS.1)).trans (hS.2.1 q h1 h2)⟩
  exact ⟨⟨hP.1.1.kept (fun k z hz => hk z.1 ((hP.1.1 k z hz).lt)), hP.1.2⟩, hP.2⟩
theorem T_thrW {cls text : String} {ik is ic : Nat} (hM : gTh y.1.cls cls text ik is ic) (d0 : decode y.2.1 pc = .ok (.new ik, 3)) (d3 : decode y.2.1 (pc + 3) = .ok (.dup, 1)) (d4 : decode y.2.1 (pc + 4) = .ok (.ldc_w is, 3)) (d6 : decode y.2.1 (pc + 7) = .ok (.invokespecial ic, 3)) (d9 : decode y.2.1 (pc + 10) = .ok (.athrow, 1)) (hno : ∀ z ∈ tableOf y.2.2.2.2, covers z (pc + 10) = false) (hd : 6 ≤ d) (hcat : gsz st ≤ 8) (hQ : Q (.inr cls) x (gth f)) : T E d y pc lv st x f Q := by
  refine ⟨.inr cls, x, gth f, hQ, ⟨fun _ h => h, Nat.le_succ _, Nat.le_add_right _ _⟩, ?_⟩
  intro p e R s m args below meth c A H locs cells slots ls ad C hP hS hl hc hs
  obtain ⟨⟨q1, q2, q3⟩, ⟨q4, q5, q6⟩, q7, q8⟩ := hM
  obtain ⟨sa, hsa⟩ := C.2.2.2.1.2.1.1 _ q3
  have e1 : (gth f).2.2.1 - f.2.2.1 = 1 := by show f.2.2.1 + 1 - f.2.2.1 = 1; omega
  have e2 : (gth f).2.2.2 - f.2.2.2 = 6 := by show f.2.2.2 + 6 - f.2.2.2 = 6; omega
  rw [e1] at hc ⊢
  rw [e2] at hs ⊢
  have hR := C.2.2.1
  have hcs : ((st.map (gcv ad)).map fun v => v.category).sum = gsz st := gsz_c ad st
  refine vx_throwSW C.1.1 C.1.2.1 C.2.2.2.1.2.2.2 (own := y.1.cls) (cls := cls) (text := text) (names := up2) (ik := ik) (is := is) (ic := ic) (sa := sa) (A := A) C.1.2.2.2.1 q1 (by decide +kernel) (C.1.2.2.2.2 _ q4) (C.1.2.2.2.2 _ q5) hsa (vx_hat (B := ev_B cls) (fun w hw => C.1.2.2.2.2 w (q6 w hw)) q7 (ev_b C.2.2.2.1.2.1 cls q2)) q8 C.2.2.2.1.2.2.1.1.1 C.2.2.2.1.2.2.1.1.2 hS (by rw [C.1.2.2.1]; exact hl.1) d0 d3 d4 d6 d9 (fun z hz => hno z (by rw [← C.2.1.2.2.1]; exact hz)) (by show 2 + 3 < _; omega) (by rw [hcs]; show gsz st + (13 * (2 + 1) + 43) ≤ _; omega) hc hs C.2.1.2.1 (fun t _ hz hk => ?_) hS.2.2 (Nat.le_refl _) (Nat.le_refl _)
  refine ⟨ad, gex_rf f ad, rfl, ?_, Nat.le_trans hS.1 hz, fun q h1 h2 => (hk q (Nat.lt_of_lt_of_le h1 hS.1)).trans (hS.2.1 q h1 h2)⟩
  exact ⟨⟨hP.1.1.kept (fun k z hz => hk z.1 ((hP.1.1 k z hz).lt)), hP.1.2⟩, hP.2⟩
theorem T_max {a b : Int32} {idx : Nat} {rest : List gv} (hd : decode y.2.1 pc = .ok (.invokestatic idx, 3)) (hw : Cond.methodLink y.1.cls idx Lib.Math.max.name ∈ W0 ∧ Cond.static Lib.Math.max.name ∈ W0 ∧ Cond.initialized "java/lang/Math" ∈ W0 ∧ Cond.code Lib.Math.max.name Lib.Math.max.code 2 (some .int) ∈ W0) (hd1 : 1 ≤ d) (hcat : gsz rest ≤ 8)
    (k : ∀ r : Int32, (r.toInt = a.toInt ∨ r.toInt = b.toInt) → a.toInt ≤ r.toInt → b.toInt ≤ r.toInt → T E d y (pc + 3) lv (vi r :: rest) x f Q) : T E d y pc lv (vi b :: vi a :: rest) x f Q := by
  have k1 : T E d y (pc + 3) lv (vi (if a < b then b else a) :: rest) x f Q := by
    by_cases h : a < b
    · rw [if_pos h]
      have h' := Int32.lt_iff_toInt_lt.mp h
      exact k b (Or.inr rfl) (by omega) (Int.le_refl _)
    · rw [if_neg h]
      have h' : ¬ a.toInt < b.toInt := fun q => h (Int32.lt_iff_toInt_lt.mpr q)
      exact k a (Or.inl rfl) (Int.le_refl _) (by omega)
  obtain ⟨o, x', f', h1, h2, h3⟩ := k1
  refine ⟨o, x', f', h1, h2, ?_⟩
  intro p e R s m args below meth c A H locs cells slots ls ad C hP hS hl hc hs
  have hR := C.2.2.1
  have hcs : ((rest.map (gcv ad)).map fun v => v.category).sum = gsz rest := gsz_c ad rest
  exact va_mmax C.1.1 C.1.2.1 (by rw [C.1.2.2.1]; exact hl.1.symm) C.1.2.2.2.1 (C.1.2.2.2.2 _ hw.1) (C.1.2.2.2.2 _ hw.2.1) (C.1.2.2.2.2 _ hw.2.2.1) (C.1.2.2.2.2 _ hw.2.2.2) (by omega) (by rw [hcs]; omega) (by omega) (by omega) hd (h3 p e R s m args below meth c A H locs cells slots ls ad C hP hS hl hc hs)
/-- arraycopy of ints -/
def scp (x : gd) (a b sp dp n : Nat) : gd := (fun c => if c = b then va_cpy (x.1 a) (x.1 b) sp dp n else x.1 c, x.2)
theorem gce_scp {ad : Nat → Nat} {a b sp dp n c' : Nat} (h : c' ≠ b) : gce E (scp x a b sp dp n) f ad c' = gce E x f ad c' := by
  have e : (scp x a b sp dp n).1 c' = x.1 c' := by show (if c' = b then _ else _) = _; rw [if_neg h]
  have e2 : (scp x a b sp dp n).2 = x.2 := rfl
  unfold gce gfl gar
  rw [e, e2]
theorem T_copy (a b na nb : Nat) {idx : Nat} {sp dp n : Int32} (hd : decode y.2.1 pc = .ok (.invokestatic idx, 3)) (hw : Cond.methodLink y.1.cls idx arraycopyName ∈ W0 ∧ Cond.native arraycopyName ∈ W0 ∧ Cond.static arraycopyName ∈ W0 ∧ Cond.initialized "java/lang/System" ∈ W0) (hKa : E.2.2.2.1 a = .inr (.int, na)) (hca : a ∈ f.2.1) (hKb : E.2.2.2.1 b = .inr (.int, nb)) (hcb : b ∈ f.2.1) (hd1 : 2 ≤ d) (hcat : gsz st ≤ 8)
    (h1 : ¬ sp < 0) (h2 : ¬ dp < 0) (h3 : ¬ n < 0) (h4 : sp.toNatClampNeg + n.toNatClampNeg ≤ na) (h5 : dp.toNatClampNeg + n.toNatClampNeg ≤ nb)
    (k9 : T E d y (pc + 3) lv st (scp x a b sp.toNatClampNeg dp.toNatClampNeg n.toNatClampNeg) f Q) : T E d y pc lv (vi n :: vi dp :: vr b :: vi sp :: vr a :: st) x f Q :=
  T_stepX (fun p e R s m args below meth c0 A H locs cells slots ls ad Q9 C hP hS hl kk => by
    obtain ⟨qa, -, hia⟩ := gwl_at (E := E) (x := x) (ad := ad) hca
    rw [gce_arr hKa] at hia
    obtain ⟨qb, hi0, hib⟩ := gwl_at (E := E) (x := x) (ad := ad) hcb
    rw [gce_arr hKb] at hib
    have ht : (gtys E)[0]? = some (E.2.2.1 .int, .int) := rfl
    have he : (gwl E x f ad).set qb (ad b, .inl (E.2.2.1 .int, nb, .inl (va_cpy (x.1 a) (x.1 b) sp.toNatClampNeg dp.toNatClampNeg n.toNatClampNeg))) = gwl E (scp x a b sp.toNatClampNeg dp.toNatClampNeg n.toNatClampNeg) f ad := by
      have e9 : gce E (scp x a b sp.toNatClampNeg dp.toNatClampNeg n.toNatClampNeg) f ad b = .inl (E.2.2.1 .int, nb, .inl (va_cpy (x.1 a) (x.1 b) sp.toNatClampNeg dp.toNatClampNeg n.toNatClampNeg)) := by
        rw [gce_arr hKb]
        show Sum.inl (_, _, Sum.inl ((scp x a b sp.toNatClampNeg dp.toNatClampNeg n.toNatClampNeg).1 b)) = _
        show Sum.inl (_, _, Sum.inl (if b = b then _ else _)) = _
        rw [if_pos rfl]
      rw [← e9]
      exact gwl_set (G := fun c' => (ad c', gce E (scp x a b sp.toNatClampNeg dp.toNatClampNeg n.toNatClampNeg) f ad c')) hi0 (gwl_one hP.1.2 hi0) (fun c' hne => by rw [gce_scp hne])
    have hR := C.2.2.1
    have hcs : ((st.map (gcv ad)).map fun v => v.category).sum = gsz st := gsz_c ad st
    have hnw : nativeFrameWords "java/lang/System" "arraycopy" 5 + 11 ≤ 60 := by decide +kernel
    refine va_copyi C.1.1 C.1.2.1 (by rw [C.1.2.2.1]; exact hl.1.symm) C.1.2.2.2.1 (C.1.2.2.2.2 _ hw.1) (C.1.2.2.2.2 _ hw.2.1) (C.1.2.2.2.2 _ hw.2.2.1) (C.1.2.2.2.2 _ hw.2.2.2) C.2.2.2.1.1 hP.1.1 hP.1.2 hS qa qb 0 0 hia hib ht ht rfl h1 h2 h3 h4 h5 (fun _ _ => rfl) (by omega) (by rw [hcs]; omega) hd (fun H2 locs2 hP2 hD2 hS2 => kk H2 locs2 ⟨⟨?_, ?_⟩, hP.2⟩ hS2)
    · rw [← he]; exact hP2
    · rw [← he]; exact hD2) k9
end KRA
/-- references that live -/
theorem gkr {L : List Nat} {c : Nat} (h : c ∈ L) : gokv L (vr c) = true := by
  show (L.elem c || decide (900 ≤ c ∧ c < 905)) = true
  rw [List.elem_iff.mpr h, Bool.true_or]
theorem av_n {L : List Nat} : ([] : List (Nat × gv)).all (fun q => gokv L q.2) = true := rfl
theorem av_c {L : List Nat} {k : Nat} {v : gv} {lv : List (Nat × gv)} (h : gokv L v = true) (t : lv.all (fun q => gokv L q.2) = true) : ((k, v) :: lv).all (fun q => gokv L q.2) = true := by
  rw [List.all_cons, t, h]; rfl
theorem as_n {L : List Nat} : ([] : List gv).all (gokv L) = true := rfl
theorem as_c {L : List Nat} {v : gv} {st : List gv} (h : gokv L v = true) (t : st.all (gokv L) = true) : (v :: st).all (gokv L) = true := by
  rw [List.all_cons, t, h]; rfl
theorem gok_i {L : List Nat} {lv : List (Nat × gv)} {st : List gv} (h : lv.all (fun q => gokv L q.2) = true) (t : st.all (gokv L) = true) : gok L lv st = true := by
  unfold gok
  rw [h, t]; rfl
/-- may throw: an end with an answer leaves the shape; an exception makes one cell more -/
def keq (q : kP) (P : Option gv → gd → Prop) (X : String → gd → Prop) : gr → gd → gf → Prop := fun o x f => (f = kf q ∧ ∃ v, o = .inl v ∧ P v x) ∨ (f = gth (kf q) ∧ ∃ c, o = .inr c ∧ X c x)
abbrev KE (G : kG) (q : kP) (d : Nat) (y : gy) (pc : Nat) (lv : List (Nat × gv)) (st : List gv) (x : gd) (P : Option gv → gd → Prop) (X : String → gd → Prop) : Prop := T (kE G) d y pc lv st x (kf q) (keq q P X)
section KRW
variable {G : kG} {q : kP} {d : Nat} {y z : gy} {pc : Nat} {lv : List (Nat × gv)} {st : List gv} {x : gd} {P P' : Option gv → gd → Prop} {X X' : String → gd → Prop}
theorem KT_iret {v : Int32} {ty : FieldType} (hd : decode y.2.1 pc = .ok (.ireturn, 1)) (hr : y.2.2.2.1 = some ty) (hn : narrow ty (.int v) = .int v) (hQ : P (some (vi v)) x) : KT G q d y pc lv [vi v] x P := T_iret hd hr hn ⟨rfl, _, rfl, hQ⟩
theorem KT_vret (hd : decode y.2.1 pc = .ok (.return_, 1)) (hr : y.2.2.2.1 = none) (hQ : P none x) : KT G q d y pc lv [] x P := T_vret hd hr ⟨rfl, _, rfl, hQ⟩
theorem KE_iret {v : Int32} {ty : FieldType} (hd : decode y.2.1 pc = .ok (.ireturn, 1)) (hr : y.2.2.2.1 = some ty) (hn : narrow ty (.int v) = .int v) (hQ : P (some (vi v)) x) : KE G q d y pc lv [vi v] x P X := T_iret hd hr hn (Or.inl ⟨rfl, _, rfl, hQ⟩)
theorem KE_vret (hd : decode y.2.1 pc = .ok (.return_, 1)) (hr : y.2.2.2.1 = none) (hQ : P none x) : KE G q d y pc lv [] x P X := T_vret hd hr (Or.inl ⟨rfl, _, rfl, hQ⟩)
/-- a quiet call, behind it anything -/
theorem KC_Vi {Q : gr → gd → gf → Prop} {idx n c ci : Nat} {sl : List Bool} {F : Int32 → gd → Prop} (As rest : List gv) (hst : st = As.reverse ++ vr c :: rest) (hd : decode y.2.1 pc = .ok (.invokevirtual idx, 3)) (hM : gMv y.1.cls idx z n) (hn : As.length = n) (hK : kK c = .inl (ci, sl)) (hcl : (vwCl[ci]?).map (fun r => r.1) = some z.1.cls) (hc : c ∈ (kf q).2.1) (hfit : gsz (vr c :: As) ≤ z.2.2.1) (hcat : gsz rest ≤ 8) (hok : gok (kf q).2.1 lv rest = true) (hy : y.2.2.2.2 = [])
    (k : KT G q d z 0 (glv 0 (vr c :: As)) [] x (ri F)) (kk : ∀ r x1, F r x1 → T (kE G) (d + 1) y (pc + 3) lv (vi r :: rest) x1 (kf q) Q) : T (kE G) (d + 1) y pc lv st x (kf q) Q :=
  T_callV As rest d hst hd hM hn hK hcl hc (Nat.le_refl _) hfit hcat hok (by rw [hy]; intro z hz; cases hz) (T_mono k (fun o x' f' w => by obtain ⟨rfl, v, rfl, r, rfl, hr⟩ := w; exact kk r x' hr))
theorem KC_Vv {Q : gr → gd → gf → Prop} {idx n c ci : Nat} {sl : List Bool} {F : gd → Prop} (As rest : List gv) (hst : st = As.reverse ++ vr c :: rest) (hd : decode y.2.1 pc = .ok (.invokevirtual idx, 3)) (hM : gMv y.1.cls idx z n) (hn : As.length = n) (hK : kK c = .inl (ci, sl)) (hcl : (vwCl[ci]?).map (fun r => r.1) = some z.1.cls) (hc : c ∈ (kf q).2.1) (hfit : gsz (vr c :: As) ≤ z.2.2.1) (hcat : gsz rest ≤ 8) (hok : gok (kf q).2.1 lv rest = true) (hy : y.2.2.2.2 = [])
    (k : KT G q d z 0 (glv 0 (vr c :: As)) [] x (rv F)) (kk : ∀ x1, F x1 → T (kE G) (d + 1) y (pc + 3) lv rest x1 (kf q) Q) : T (kE G) (d + 1) y pc lv st x (kf q) Q :=
  T_callV As rest d hst hd hM hn hK hcl hc (Nat.le_refl _) hfit hcat hok (by rw [hy]; intro z hz; cases hz) (T_mono k (fun o x' f' w => by obtain ⟨rfl, v, rfl, rfl, hr⟩ := w; exact kk x' hr))
theorem KC_Si {Q : gr → gd → gf → Prop} {idx n : Nat} {F : Int32 → gd → Prop} (As rest : List gv) (hst : st = As.reverse ++ rest) (hd : decode y.2.1 pc = .ok (.invokestatic idx, 3)) (hM : gMs y.1.cls idx z n) (hn : As.length = n) (hfit : gsz As ≤ z.2.2.1) (hcat : gsz rest ≤ 8) (hok : gok (kf q).2.1 lv rest = true) (hy : y.2.2.2.2 = [])
    (k : KT G q d z 0 (glv 0 As) [] x (ri F)) (kk : ∀ r x1, F r x1 → T (kE G) (d + 1) y (pc + 3) lv (vi r :: rest) x1 (kf q) Q) : T (kE G) (d + 1) y pc lv st x (kf q) Q :=
  T_callS As rest d hst hd hM hn (Nat.le_refl _) hfit hcat hok (by rw [hy]; intro z hz; cases hz) (T_mono k (fun o x' f' w => by obtain ⟨rfl, v, rfl, r, rfl, hr⟩ := w; exact kk r x' hr))
theorem KC_Sv {Q : gr → gd → gf → Prop} {idx n : Nat} {F : gd → Prop} (As rest : List gv) (hst : st = As.reverse ++ rest) (hd : decode y.2.1 pc = .ok (.invokestatic idx, 3)) (hM : gMs y.1.cls idx z n) (hn : As.length = n) (hfit : gsz As ≤ z.2.2.1) (hcat : gsz rest ≤ 8) (hok : gok (kf q).2.1 lv rest = true) (hy : y.2.2.2.2 = [])
    (k : KT G q d z 0 (glv 0 As) [] x (rv F)) (kk : ∀ x1, F x1 → T (kE G) (d + 1) y (pc + 3) lv rest x1 (kf q) Q) : T (kE G) (d + 1) y pc lv st x (kf q) Q :=
  T_callS As rest d hst hd hM hn (Nat.le_refl _) hfit hcat hok (by rw [hy]; intro z hz; cases hz) (T_mono k (fun o x' f' w => by obtain ⟨rfl, v, rfl, rfl, hr⟩ := w; exact kk x' hr))
/-- a call that may throw, behind it the same -/
theorem KD_Vi {idx n c ci : Nat} {sl : List Bool} {F : Int32 → gd → Prop} (As rest : List gv) (hst : st = As.reverse ++ vr c :: rest) (hd : decode y.2.1 pc = .ok (.invokevirtual idx, 3)) (hM : gMv y.1.cls idx z n) (hn : As.length = n) (hK : kK c = .inl (ci, sl)) (hcl : (vwCl[ci]?).map (fun r => r.1) = some z.1.cls) (hc : c ∈ (kf q).2.1) (hfit : gsz (vr c :: As) ≤ z.2.2.1) (hcat : gsz rest ≤ 8) (hok : gok (kf q).2.1 lv rest = true) (hy : y.2.2.2.2 = [])
    (k : KE G q d z 0 (glv 0 (vr c :: As)) [] x (ri F) X) (kk : ∀ r x1, F r x1 → KE G q (d + 1) y (pc + 3) lv (vi r :: rest) x1 P X) : KE G q (d + 1) y pc lv st x P X :=
  T_callV As rest d hst hd hM hn hK hcl hc (Nat.le_refl _) hfit hcat hok (by rw [hy]; intro z hz; cases hz) (T_mono k (fun o x' f' w => by
    rcases w with ⟨rfl, v, rfl, r, rfl, hr⟩ | ⟨rfl, c, rfl, hx⟩
    · exact kk r x' hr
    · exact Or.inr ⟨rfl, c, rfl, hx⟩))
theorem KD_Vv {idx n c ci : Nat} {sl : List Bool} {F : gd → Prop} (As rest : List gv) (hst : st = As.reverse ++ vr c :: rest) (hd : decode y.2.1 pc = .ok (.invokevirtual idx, 3)) (hM : gMv y.1.cls idx z n) (hn : As.length = n) (hK : kK c = .inl (ci, sl)) (hcl : (vwCl[ci]?).map (fun r => r.1) = some z.1.cls) (hc : c ∈ (kf q).2.1) (hfit : gsz (vr c :: As) ≤ z.2.2.1) (hcat : gsz rest ≤ 8) (hok : gok (kf q).2.1 lv rest = true) (hy : y.2.2.2.2 = [])
    (k : KE G q d z 0 (glv 0 (vr c :: As)) [] x (rv F) X) (kk : ∀ x1, F x1 → KE G q (d + 1) y (pc + 3) lv rest x1 P X) : KE G q (d + 1) y pc lv st x P X :=
  T_callV As rest d hst hd hM hn hK hcl hc (Nat.le_refl _) hfit hcat hok (by rw [hy]; intro z hz; cases hz) (T_mono k (fun o x' f' w => by
    rcases w with ⟨rfl, v, rfl, rfl, hr⟩ | ⟨rfl, c, rfl, hx⟩
    · exact kk x' hr
    · exact Or.inr ⟨rfl, c, rfl, hx⟩))
theorem KD_Sv {idx n : Nat} {F : gd → Prop} (As rest : List gv) (hst : st = As.reverse ++ rest) (hd : decode y.2.1 pc = .ok (.invokestatic idx, 3)) (hM : gMs y.1.cls idx z n) (hn : As.length = n) (hfit : gsz As ≤ z.2.2.1) (hcat : gsz rest ≤ 8) (hok : gok (kf q).2.1 lv rest = true) (hy : y.2.2.2.2 = [])
    (k : KE G q d z 0 (glv 0 As) [] x (rv F) X) (kk : ∀ x1, F x1 → KE G q (d + 1) y (pc + 3) lv rest x1 P X) : KE G q (d + 1) y pc lv st x P X :=
  T_callS As rest d hst hd hM hn (Nat.le_refl _) hfit hcat hok (by rw [hy]; intro z hz; cases hz) (T_mono k (fun o x' f' w => by
    rcases w with ⟨rfl, v, rfl, rfl, hr⟩ | ⟨rfl, c, rfl, hx⟩
    · exact kk x' hr
    · exact Or.inr ⟨rfl, c, rfl, hx⟩))
end KRW
/-- fill -/
def sfl (x : gd) (c : Nat) (v : Int32) (n : Nat) : gd := (fun c' => if c' = c then (fun j => if j < n then v else x.1 c j) else x.1 c', x.2)
theorem sfl_0 (x : gd) (c : Nat) (v : Int32) : sfl x c v 0 = x := by
  refine Prod.ext (funext (fun c' => ?_)) rfl
  show (if c' = c then (fun j => if j < 0 then v else x.1 c j) else x.1 c') = x.1 c'
  by_cases h : c' = c
  · rw [if_pos h, h]
    funext j
    rw [if_neg (Nat.not_lt_zero j)]
  · rw [if_neg h]
theorem sfl_s (x : gd) (c : Nat) (v : Int32) (n : Nat) : si (sfl x c v n) c n v = sfl x c v (n + 1) := by
  refine Prod.ext (funext (fun c' => ?_)) rfl
  show (if c' = c then upd ((sfl x c v n).1 c) n v else (sfl x c v n).1 c') = (if c' = c then (fun j => if j < n + 1 then v else x.1 c j) else x.1 c')
  by_cases h : c' = c
  · rw [if_pos h, if_pos h]
    funext j
    show (if j = n then v else (if c = c then (fun j => if j < n then v else x.1 c j) else x.1 c) j) = _
    rw [if_pos rfl]
    show (if j = n then v else if j < n then v else x.1 c j) = if j < n + 1 then v else x.1 c j
    by_cases e : j = n
    · rw [if_pos e, if_pos (by omega)]
    · rw [if_neg e]
      by_cases l : j < n
      · rw [if_pos l, if_pos (by omega)]
      · rw [if_neg l, if_neg (by omega)]
  · rw [if_neg h, if_neg h]
    show (if c' = c then _ else x.1 c') = x.1 c'
    rw [if_neg h]
abbrev zj_fill : gy := (yJ7_fill_53178, cJ7_fill_53178, 4, none, [])
theorem dtj_fill : dck cJ7_fill_53178 [(0, .iconst 0, 1), (1, .istore_n 2, 1), (2, .aload_n 0, 1), (3, .arraylength, 1), (4, .istore_n 3, 1), (5, .iload_n 2, 1), (6, .iload_n 3, 1), (7, .if_icmp .ge 13, 3), (10, .aload_n 0, 1), (11, .iload_n 2, 1), (12, .iload_n 1, 1), (13, .iastore, 1), (14, .iinc 2 1, 3), (17, .goto (-12), 3), (20, .return_, 1)] = true := by decide +kernel
set_option maxRecDepth 100000 in
theorem cwaj_fill : tables_1_3[201]? = some (Cond.code yJ7_fill_53178 cJ7_fill_53178 4 none) := rfl
theorem cwj_fill : Cond.code yJ7_fill_53178 cJ7_fill_53178 4 none ∈ W0 := W0_in (tp_3 (List.mem_of_getElem? cwaj_fill)) rfl
abbrev zj_bitCount : gy := (yJ6_bitCount_0f7a4, cJ6_bitCount_0f7a4, 1, (some .int), [])
theorem dtj_bitCount : dck cJ6_bitCount_0f7a4 [(0, .iload_n 0, 1), (1, .iload_n 0, 1), (2, .iconst 1, 1), (3, .iushr, 1), (4, .ldc_w 265, 3), (7, .iand, 1), (8, .isub, 1), (9, .istore_n 0, 1), (10, .iload_n 0, 1), (11, .ldc_w 266, 3), (14, .iand, 1), (15, .iload_n 0, 1), (16, .iconst 2, 1), (17, .iushr, 1), (18, .ldc_w 266, 3), (21, .iand, 1), (22, .iadd, 1), (23, .istore_n 0, 1), (24, .iload_n 0, 1), (25, .iload_n 0, 1), (26, .iconst 4, 1), (27, .iushr, 1), (28, .iadd, 1), (29, .ldc_w 267, 3), (32, .iand, 1), (33, .istore_n 0, 1), (34, .iload_n 0, 1), (35, .iload_n 0, 1), (36, .bipush 8, 2), (38, .iushr, 1), (39, .iadd, 1), (40, .istore_n 0, 1), (41, .iload_n 0, 1), (42, .iload_n 0, 1), (43, .bipush 16, 2), (45, .iushr, 1), (46, .iadd, 1), (47, .istore_n 0, 1), (48, .iload_n 0, 1), (49, .bipush 63, 2), (51, .iand, 1), (52, .ireturn, 1)] = true := by decide +kernel
set_option maxRecDepth 100000 in
theorem cwaj_bitCount : tables_1_6[204]? = some (Cond.code yJ6_bitCount_0f7a4 cJ6_bitCount_0f7a4 1 (some .int)) := rfl
theorem cwj_bitCount : Cond.code yJ6_bitCount_0f7a4 cJ6_bitCount_0f7a4 1 (some .int) ∈ W0 := W0_in (tp_6 (List.mem_of_getElem? cwaj_bitCount)) rfl
theorem kcs_X10_60 : gMs RX10 60 zj_fill 2 := ⟨⟨W0_in (tp_8 (List.mem_of_getElem? (i := 6) (by decide +kernel))) rfl, W0_in (tp_3 (List.mem_of_getElem? (i := 200) (by decide +kernel))) rfl, W0_in (tp_1 (List.mem_of_getElem? (i := 19) (by decide +kernel))) rfl, cwj_fill⟩, ⟨by decide, by decide, by decide +kernel⟩, by decide, by decide⟩
theorem kcs_X2_60 : gMs RX2 60 zj_fill 2 := ⟨⟨W0_in (tp_8 (List.mem_of_getElem? (i := 7) (by decide +kernel))) rfl, W0_in (tp_3 (List.mem_of_getElem? (i := 200) (by decide +kernel))) rfl, W0_in (tp_1 (List.mem_of_getElem? (i := 19) (by decide +kernel))) rfl, cwj_fill⟩, ⟨by decide, by decide, by decide +kernel⟩, by decide, by decide⟩
theorem kcs_X3_47 : gMs RX3 47 zj_fill 2 := ⟨⟨W0_in (tp_7 (List.mem_of_getElem? (i := 78) (by decide +kernel))) rfl, W0_in (tp_3 (List.mem_of_getElem? (i := 200) (by decide +kernel))) rfl, W0_in (tp_1 (List.mem_of_getElem? (i := 19) (by decide +kernel))) rfl, cwj_fill⟩, ⟨by decide, by decide, by decide +kernel⟩, by decide, by decide⟩
theorem kcs_X4_71 : gMs RX4 71 zj_fill 2 := ⟨⟨W0_in (tp_5 (List.mem_of_getElem? (i := 224) (by decide +kernel))) rfl, W0_in (tp_3 (List.mem_of_getElem? (i := 200) (by decide +kernel))) rfl, W0_in (tp_1 (List.mem_of_getElem? (i := 19) (by decide +kernel))) rfl, cwj_fill⟩, ⟨by decide, by decide, by decide +kernel⟩, by decide, by decide⟩
theorem kcs_X5_73 : gMs RX5 73 zj_fill 2 := ⟨⟨W0_in (tp_5 (List.mem_of_getElem? (i := 130) (by decide +kernel))) rfl, W0_in (tp_3 (List.mem_of_getElem? (i := 200) (by decide +kernel))) rfl, W0_in (tp_1 (List.mem_of_getElem? (i := 19) (by decide +kernel))) rfl, cwj_fill⟩, ⟨by decide, by decide, by decide +kernel⟩, by decide, by decide⟩
theorem kcs_X6_49 : gMs RX6 49 zj_fill 2 := ⟨⟨W0_in (tp_3 (List.mem_of_getElem? (i := 199) (by decide +kernel))) rfl, W0_in (tp_3 (List.mem_of_getElem? (i := 200) (by decide +kernel))) rfl, W0_in (tp_1 (List.mem_of_getElem? (i := 19) (by decide +kernel))) rfl, cwj_fill⟩, ⟨by decide, by decide, by decide +kernel⟩, by decide, by decide⟩
theorem kmx_X4_119 : Cond.methodLink RX4 119 Lib.Math.max.name ∈ W0 ∧ Cond.static Lib.Math.max.name ∈ W0 ∧ Cond.initialized "java/lang/Math" ∈ W0 ∧ Cond.code Lib.Math.max.name Lib.Math.max.code 2 (some .int) ∈ W0 := ⟨W0_in (tp_6 (List.mem_of_getElem? (i := 109) (by decide +kernel))) rfl, W0_in (tp_4 (List.mem_of_getElem? (i := 69) (by decide +kernel))) rfl, W0_in (tp_1 (List.mem_of_getElem? (i := 21) (by decide +kernel))) rfl, W0_in (tp_4 (List.mem_of_getElem? (i := 70) (by decide +kernel))) rfl⟩
theorem kmx_X7_121 : Cond.methodLink RX7 121 Lib.Math.max.name ∈ W0 ∧ Cond.static Lib.Math.max.name ∈ W0 ∧ Cond.initialized "java/lang/Math" ∈ W0 ∧ Cond.code Lib.Math.max.name Lib.Math.max.code 2 (some .int) ∈ W0 := ⟨W0_in (tp_4 (List.mem_of_getElem? (i := 68) (by decide +kernel))) rfl, W0_in (tp_4 (List.mem_of_getElem? (i := 69) (by decide +kernel))) rfl, W0_in (tp_1 (List.mem_of_getElem? (i := 21) (by decide +kernel))) rfl, W0_in (tp_4 (List.mem_of_getElem? (i := 70) (by decide +kernel))) rfl⟩
theorem kcs_X11_237 : gMs RX11 237 zj_bitCount 1 := ⟨⟨W0_in (tp_6 (List.mem_of_getElem? (i := 202) (by decide +kernel))) rfl, W0_in (tp_6 (List.mem_of_getElem? (i := 203) (by decide +kernel))) rfl, W0_in (tp_1 (List.mem_of_getElem? (i := 23) (by decide +kernel))) rfl, cwj_bitCount⟩, ⟨by decide, by decide, by decide +kernel⟩, by decide, by decide⟩
theorem kkj_265 : Cond.constant RJ6 265 (1431655765) ∈ W0 := W0_in (tp_6 (List.mem_of_getElem? (i := 205) (by decide +kernel))) rfl
theorem kkj_266 : Cond.constant RJ6 266 (858993459) ∈ W0 := W0_in (tp_6 (List.mem_of_getElem? (i := 206) (by decide +kernel))) rfl
theorem kkj_267 : Cond.constant RJ6 267 (252645135) ∈ W0 := W0_in (tp_6 (List.mem_of_getElem? (i := 207) (by decide +kernel))) rfl
theorem kcv_X9_81 : gMv RX9 81 zj_charAt 1 := ⟨⟨W0_in (tp_3 (List.mem_of_getElem? (i := 140) (by decide +kernel))) rfl, W0_in (tp_3 (List.mem_of_getElem? (i := 141) (by decide +kernel))) rfl, W0_in (tp_3 (List.mem_of_getElem? (i := 142) (by decide +kernel))) rfl, W0_in (tp_1 (List.mem_of_getElem? (i := 15) (by decide +kernel))) rfl, cwj_charAt⟩, ⟨by decide, by decide, by decide +kernel⟩, by decide, by decide⟩
theorem kcy_X10_78 : Cond.methodLink RX10 78 arraycopyName ∈ W0 ∧ Cond.native arraycopyName ∈ W0 ∧ Cond.static arraycopyName ∈ W0 ∧ Cond.initialized "java/lang/System" ∈ W0 := ⟨W0_in (tp_8 (List.mem_of_getElem? (i := 100) (by decide +kernel))) rfl, W0_in (tp_7 (List.mem_of_getElem? (i := 102) (by decide +kernel))) rfl, W0_in (tp_7 (List.mem_of_getElem? (i := 101) (by decide +kernel))) rfl, W0_in (tp_1 (List.mem_of_getElem? (i := 25) (by decide +kernel))) rfl⟩
theorem kcy_X2_112 : Cond.methodLink RX2 112 arraycopyName ∈ W0 ∧ Cond.native arraycopyName ∈ W0 ∧ Cond.static arraycopyName ∈ W0 ∧ Cond.initialized "java/lang/System" ∈ W0 := ⟨W0_in (tp_8 (List.mem_of_getElem? (i := 42) (by decide +kernel))) rfl, W0_in (tp_7 (List.mem_of_getElem? (i := 102) (by decide +kernel))) rfl, W0_in (tp_7 (List.mem_of_getElem? (i := 101) (by decide +kernel))) rfl, W0_in (tp_1 (List.mem_of_getElem? (i := 25) (by decide +kernel))) rfl⟩
theorem kcy_X3_102 : Cond.methodLink RX3 102 arraycopyName ∈ W0 ∧ Cond.native arraycopyName ∈ W0 ∧ Cond.static arraycopyName ∈ W0 ∧ Cond.initialized "java/lang/System" ∈ W0 := ⟨W0_in (tp_7 (List.mem_of_getElem? (i := 100) (by decide +kernel))) rfl, W0_in (tp_7 (List.mem_of_getElem? (i := 102) (by decide +kernel))) rfl, W0_in (tp_7 (List.mem_of_getElem? (i := 101) (by decide +kernel))) rfl, W0_in (tp_1 (List.mem_of_getElem? (i := 25) (by decide +kernel))) rfl⟩
theorem ktx_X7_106 : ∀ w ∈ (vx_atS RX7 106 iSE up2).filter goodWord, w ∈ lw_tbl := by decide +kernel
theorem kth_X7_102_104 : gTh RX7 iSE "a fault of the text" 102 104 106 := ⟨⟨by decide +kernel, by decide, by decide⟩, ⟨W0_in (tp_3 (List.mem_of_getElem? (i := 226) (by decide +kernel))) rfl, W0_in (tp_1 (List.mem_of_getElem? (i := 20) (by decide +kernel))) rfl, fun w hw => W0_in (ktx_X7_106 w hw) (List.mem_filter.mp hw).2⟩, by decide +kernel, by decide +kernel⟩
theorem ktx_X11_74 : ∀ w ∈ (vx_atS RX11 74 iAE up2).filter goodWord, w ∈ lw_tbl := by decide +kernel
theorem kth_X11_70_72 : gTh RX11 iAE "n is not 1 .. 8" 70 72 74 := ⟨⟨by decide +kernel, by decide, by decide⟩, ⟨W0_in (tp_5 (List.mem_of_getElem? (i := 49) (by decide +kernel))) rfl, W0_in (tp_1 (List.mem_of_getElem? (i := 14) (by decide +kernel))) rfl, fun w hw => W0_in (ktx_X11_74 w hw) (List.mem_filter.mp hw).2⟩, by decide +kernel, by decide +kernel⟩
theorem kth_X11_70_80 : gTh RX11 iAE "more than 3000 bytes" 70 80 74 := ⟨⟨by decide +kernel, by decide, by decide⟩, ⟨W0_in (tp_5 (List.mem_of_getElem? (i := 49) (by decide +kernel))) rfl, W0_in (tp_1 (List.mem_of_getElem? (i := 14) (by decide +kernel))) rfl, fun w hw => W0_in (ktx_X11_74 w hw) (List.mem_filter.mp hw).2⟩, by decide +kernel, by decide +kernel⟩
theorem ktx_X11_131 : ∀ w ∈ (vx_atS RX11 131 iOE up2).filter goodWord, w ∈ lw_tbl := by decide +kernel
theorem kth_X11_127_129 : gTh RX11 iOE "no such what" 127 129 131 := ⟨⟨by decide +kernel, by decide, by decide⟩, ⟨W0_in (tp_5 (List.mem_of_getElem? (i := 78) (by decide +kernel))) rfl, W0_in (tp_1 (List.mem_of_getElem? (i := 22) (by decide +kernel))) rfl, fun w hw => W0_in (ktx_X11_131 w hw) (List.mem_filter.mp hw).2⟩, by decide +kernel, by decide +kernel⟩
theorem ktx_X11_191 : ∀ w ∈ (vx_atS RX11 191 iSE up2).filter goodWord, w ∈ lw_tbl := by decide +kernel
theorem kth_X11_102_189 : gTh RX11 iSE "400 choices were done" 102 189 191 := ⟨⟨by decide +kernel, by decide, by decide⟩, ⟨W0_in (tp_3 (List.mem_of_getElem? (i := 104) (by decide +kernel))) rfl, W0_in (tp_1 (List.mem_of_getElem? (i := 20) (by decide +kernel))) rfl, fun w hw => W0_in (ktx_X11_191 w hw) (List.mem_filter.mp hw).2⟩, by decide +kernel, by decide +kernel⟩
theorem kth_X11_70_195 : gTh RX11 iAE "n is not 0 .. 400" 70 195 74 := ⟨⟨by decide +kernel, by decide, by decide⟩, ⟨W0_in (tp_5 (List.mem_of_getElem? (i := 49) (by decide +kernel))) rfl, W0_in (tp_1 (List.mem_of_getElem? (i := 14) (by decide +kernel))) rfl, fun w hw => W0_in (ktx_X11_74 w hw) (List.mem_filter.mp hw).2⟩, by decide +kernel, by decide +kernel⟩
theorem kth_X11_70_198 : gTh RX11 iAE "n is not 0 .. how many were done" 70 198 74 := ⟨⟨by decide +kernel, by decide, by decide⟩, ⟨W0_in (tp_5 (List.mem_of_getElem? (i := 49) (by decide +kernel))) rfl, W0_in (tp_1 (List.mem_of_getElem? (i := 14) (by decide +kernel))) rfl, fun w hw => W0_in (ktx_X11_74 w hw) (List.mem_filter.mp hw).2⟩, by decide +kernel, by decide +kernel⟩
theorem kth_X11_70_276 : gTh RX11 iAE "no such structure" 70 276 74 := ⟨⟨by decide +kernel, by decide, by decide⟩, ⟨W0_in (tp_5 (List.mem_of_getElem? (i := 49) (by decide +kernel))) rfl, W0_in (tp_1 (List.mem_of_getElem? (i := 14) (by decide +kernel))) rfl, fun w hw => W0_in (ktx_X11_74 w hw) (List.mem_filter.mp hw).2⟩, by decide +kernel, by decide +kernel⟩
theorem kth_X11_70_292 : gTh RX11 iAE "limit is not 1 .. 3000" 70 292 74 := ⟨⟨by decide +kernel, by decide, by decide⟩, ⟨W0_in (tp_5 (List.mem_of_getElem? (i := 49) (by decide +kernel))) rfl, W0_in (tp_1 (List.mem_of_getElem? (i := 14) (by decide +kernel))) rfl, fun w hw => W0_in (ktx_X11_74 w hw) (List.mem_filter.mp hw).2⟩, by decide +kernel, by decide +kernel⟩
theorem kth_X11_102_340 : gTh RX11 iSE "no such finding" 102 340 191 := ⟨⟨by decide +kernel, by decide, by decide⟩, ⟨W0_in (tp_3 (List.mem_of_getElem? (i := 104) (by decide +kernel))) rfl, W0_in (tp_1 (List.mem_of_getElem? (i := 20) (by decide +kernel))) rfl, fun w hw => W0_in (ktx_X11_191 w hw) (List.mem_filter.mp hw).2⟩, by decide +kernel, by decide +kernel⟩
theorem kth_X11_102_342 : gTh RX11 iSE "more than 400 choices lead to it" 102 342 191 := ⟨⟨by decide +kernel, by decide, by decide⟩, ⟨W0_in (tp_3 (List.mem_of_getElem? (i := 104) (by decide +kernel))) rfl, W0_in (tp_1 (List.mem_of_getElem? (i := 20) (by decide +kernel))) rfl, fun w hw => W0_in (ktx_X11_191 w hw) (List.mem_filter.mp hw).2⟩, by decide +kernel, by decide +kernel⟩
theorem kth_X11_102_384 : gTh RX11 iSE "nothing is compiled" 102 384 191 := ⟨⟨by decide +kernel, by decide, by decide⟩, ⟨W0_in (tp_3 (List.mem_of_getElem? (i := 104) (by decide +kernel))) rfl, W0_in (tp_1 (List.mem_of_getElem? (i := 20) (by decide +kernel))) rfl, fun w hw => W0_in (ktx_X11_191 w hw) (List.mem_filter.mp hw).2⟩, by decide +kernel, by decide +kernel⟩
theorem kth_X11_102_386 : gTh RX11 iSE "there is no run" 102 386 191 := ⟨⟨by decide +kernel, by decide, by decide⟩, ⟨W0_in (tp_3 (List.mem_of_getElem? (i := 104) (by decide +kernel))) rfl, W0_in (tp_1 (List.mem_of_getElem? (i := 20) (by decide +kernel))) rfl, fun w hw => W0_in (ktx_X11_191 w hw) (List.mem_filter.mp hw).2⟩, by decide +kernel, by decide +kernel⟩
theorem kth_X11_70_388 : gTh RX11 iAE "no such way" 70 388 74 := ⟨⟨by decide +kernel, by decide, by decide⟩, ⟨W0_in (tp_5 (List.mem_of_getElem? (i := 49) (by decide +kernel))) rfl, W0_in (tp_1 (List.mem_of_getElem? (i := 14) (by decide +kernel))) rfl, fun w hw => W0_in (ktx_X11_74 w hw) (List.mem_filter.mp hw).2⟩, by decide +kernel, by decide +kernel⟩
theorem kth_X11_70_340 : gTh RX11 iAE "no such finding" 70 340 74 := ⟨⟨by decide +kernel, by decide, by decide⟩, ⟨W0_in (tp_5 (List.mem_of_getElem? (i := 49) (by decide +kernel))) rfl, W0_in (tp_1 (List.mem_of_getElem? (i := 14) (by decide +kernel))) rfl, fun w hw => W0_in (ktx_X11_74 w hw) (List.mem_filter.mp hw).2⟩, by decide +kernel, by decide +kernel⟩
theorem kth_X11_127_390 : gTh RX11 iOE "there is none such" 127 390 131 := ⟨⟨by decide +kernel, by decide, by decide⟩, ⟨W0_in (tp_5 (List.mem_of_getElem? (i := 78) (by decide +kernel))) rfl, W0_in (tp_1 (List.mem_of_getElem? (i := 22) (by decide +kernel))) rfl, fun w hw => W0_in (ktx_X11_131 w hw) (List.mem_filter.mp hw).2⟩, by decide +kernel, by decide +kernel⟩
section KRJ
variable {E : gE} {d : Nat} {lv : List (Nat × gv)} {st : List gv} {x : gd} {f : gf} {Q : gr → gd → gf → Prop}
theorem tj_fill (c n : Nat) (v : Int32) (hK : E.2.2.2.1 c = .inr (.int, n)) (hc : c ∈ f.2.1) (hn : n < 100000) (h : Q (.inl none) (sfl x c v n) f) : T E d zj_fill 0 [(0, vr c), (1, vi v)] [] x f Q := by
  refine T_iconst (v := 0) (dk dtj_fill 0 rfl) (by decide +kernel) ?_
  refine T_istore_n (lv2 := [(2, vi 0), (0, vr c), (1, vi v)]) (dk dtj_fill 1 rfl) rfl (by decide) rfl ?_
  refine T_aload_n 1 (dk dtj_fill 2 rfl) rfl rfl ?_
  refine T_alen c n 0 (v := Int32.ofNat n) (dk dtj_fill 3 rfl) hK hc rfl rfl ?_
  refine T_istore_n (lv2 := [(3, vi (Int32.ofNat n)), (2, vi 0), (0, vr c), (1, vi v)]) (dk dtj_fill 4 rfl) rfl (by decide) rfl ?_
  have en : (Int32.ofNat n).toInt = n := Int32.toInt_ofNat_of_lt (by omega)
  have k1 : (1 : Int32).toInt = 1 := rfl
  have loop : ∀ (m k : Nat) (i : Int32), i.toInt = k → k ≤ n → n - k ≤ m → T E d zj_fill 5 [(3, vi (Int32.ofNat n)), (2, vi i), (0, vr c), (1, vi v)] [] (sfl x c v k) f Q := by
    have last : ∀ (k : Nat) (i : Int32), i.toInt = k → k = n → T E d zj_fill 5 [(3, vi (Int32.ofNat n)), (2, vi i), (0, vr c), (1, vi v)] [] (sfl x c v k) f Q := by
      intro k i ei ek
      refine T_iload_n 1 (dk dtj_fill 5 rfl) rfl rfl ?_
      refine T_iload_n 0 (dk dtj_fill 6 rfl) rfl rfl ?_
      refine T_icmp_ge 20 (dk dtj_fill 7 rfl) (by decide) (fun _ => ?_) (fun q => absurd (t_le.mpr (by omega)) q)
      rw [ek]
      exact T_vret (dk dtj_fill 14 rfl) rfl h
    intro m
    induction m with
    | zero => intro k i ei h1 h2; exact last k i ei (by omega)
    | succ m ih =>
      intro k i ei h1 h2
      by_cases e : k = n
      · exact last k i ei e
      · have ii : (i + 1).toInt = i.toInt + 1 := by rw [t_add (by omega) (by omega), k1]
        have ci : i.toNatClampNeg = k := by rw [t_cl]; omega
        refine T_iload_n 1 (dk dtj_fill 5 rfl) rfl rfl ?_
        refine T_iload_n 0 (dk dtj_fill 6 rfl) rfl rfl ?_
        refine T_icmp_ge 20 (dk dtj_fill 7 rfl) (by decide) (fun q => ?_) (fun _ => ?_)
        · rw [t_le] at q; omega
        refine T_aload_n 2 (dk dtj_fill 8 rfl) rfl rfl ?_
        refine T_iload_n 1 (dk dtj_fill 9 rfl) rfl rfl ?_
        refine T_iload_n 3 (dk dtj_fill 10 rfl) rfl rfl ?_
        refine T_iast c n (dk dtj_fill 11 rfl) hK hc (by rw [vp_in_iff]; omega) ?_
        rw [ci, sfl_s]
        refine T_iinc (v := i + 1) (lv2 := [(2, vi (i + 1)), (3, vi (Int32.ofNat n)), (0, vr c), (1, vi v)]) 1 (dk dtj_fill 12 rfl) rfl rfl (by decide) rfl ?_
        refine T_goto 5 (dk dtj_fill 13 rfl) (by decide) ?_
        exact T_sub [1, 0, 2, 3] rfl (ih (k + 1) (i + 1) (by omega) (by omega) (by omega))
  have := loop n 0 0 rfl (Nat.zero_le _) (by omega)
  rw [sfl_0] at this
  exact this
theorem tj_bits (a : Int32) (h : ∀ r : Int32, Q (.inl (some (vi r))) x f) : T E d zj_bitCount 0 [(0, vi a)] [] x f Q := by
  refine T_iload_n 0 (dk dtj_bitCount 0 rfl) rfl rfl ?_
  refine T_iload_n 0 (dk dtj_bitCount 1 rfl) rfl rfl ?_
  refine T_iconst (v := 1) (dk dtj_bitCount 2 rfl) (by decide +kernel) ?_
  refine T_iushr (dk dtj_bitCount 3 rfl) ?_
  refine T_ldcw (v := 1431655765) (dk dtj_bitCount 4 rfl) kkj_265 ?_
  refine T_iand (dk dtj_bitCount 5 rfl) ?_
  refine T_isub (dk dtj_bitCount 6 rfl) ?_
  refine T_istore_n (dk dtj_bitCount 7 rfl) rfl (by decide) rfl ?_
  refine T_iload_n 0 (dk dtj_bitCount 8 rfl) rfl rfl ?_
  refine T_ldcw (v := 858993459) (dk dtj_bitCount 9 rfl) kkj_266 ?_
  refine T_iand (dk dtj_bitCount 10 rfl) ?_
  refine T_iload_n 0 (dk dtj_bitCount 11 rfl) rfl rfl ?_
  refine T_iconst (v := 2) (dk dtj_bitCount 12 rfl) (by decide +kernel) ?_
  refine T_iushr (dk dtj_bitCount 13 rfl) ?_
  refine T_ldcw (v := 858993459) (dk dtj_bitCount 14 rfl) kkj_266 ?_
  refine T_iand (dk dtj_bitCount 15 rfl) ?_
  refine T_iadd (dk dtj_bitCount 16 rfl) ?_
  refine T_istore_n (dk dtj_bitCount 17 rfl) rfl (by decide) rfl ?_
  refine T_iload_n 0 (dk dtj_bitCount 18 rfl) rfl rfl ?_
  refine T_iload_n 0 (dk dtj_bitCount 19 rfl) rfl rfl ?_
  refine T_iconst (v := 4) (dk dtj_bitCount 20 rfl) (by decide +kernel) ?_
  refine T_iushr (dk dtj_bitCount 21 rfl) ?_
  refine T_iadd (dk dtj_bitCount 22 rfl) ?_
  refine T_ldcw (v := 252645135) (dk dtj_bitCount 23 rfl) kkj_267 ?_
  refine T_iand (dk dtj_bitCount 24 rfl) ?_
  refine T_istore_n (dk dtj_bitCount 25 rfl) rfl (by decide) rfl ?_
  refine T_iload_n 0 (dk dtj_bitCount 26 rfl) rfl rfl ?_
  refine T_iload_n 0 (dk dtj_bitCount 27 rfl) rfl rfl ?_
  refine T_bipush (v := 8) (dk dtj_bitCount 28 rfl) (by decide +kernel) ?_
  refine T_iushr (dk dtj_bitCount 29 rfl) ?_
  refine T_iadd (dk dtj_bitCount 30 rfl) ?_
  refine T_istore_n (dk dtj_bitCount 31 rfl) rfl (by decide) rfl ?_
  refine T_iload_n 0 (dk dtj_bitCount 32 rfl) rfl rfl ?_
  refine T_iload_n 0 (dk dtj_bitCount 33 rfl) rfl rfl ?_
  refine T_bipush (v := 16) (dk dtj_bitCount 34 rfl) (by decide +kernel) ?_
  refine T_iushr (dk dtj_bitCount 35 rfl) ?_
  refine T_iadd (dk dtj_bitCount 36 rfl) ?_
  refine T_istore_n (dk dtj_bitCount 37 rfl) rfl (by decide) rfl ?_
  refine T_iload_n 0 (dk dtj_bitCount 38 rfl) rfl rfl ?_
  refine T_bipush (v := 63) (dk dtj_bitCount 39 rfl) (by decide +kernel) ?_
  refine T_iand (dk dtj_bitCount 40 rfl) ?_
  exact T_iret (dk dtj_bitCount 41 rfl) rfl rfl (h _)
end KRJ
end
