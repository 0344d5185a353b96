section
/-! trying: the states kept. many 120, isPartly 121, outcomes 123, findings 126, outcome 129, rows 133, nextRow 134, heads 135 -/
theorem t_and4 (a : Int32) : vp_in (a &&& 4095) 4096 := by
  have h : (a &&& 4095).toBitVec.toNat ≤ 4095 := by
    rw [Int32.toBitVec_and, BitVec.toNat_and]
    exact Nat.and_le_right
  have e : (a &&& 4095).toInt = ((a &&& 4095).toBitVec.toNat : Int) := by
    show (a &&& 4095).toBitVec.toInt = _
    exact BitVec.toInt_eq_toNat_of_lt (by omega)
  rw [vp_in_iff]
  omega
/-- what belongs to the other way stays -/
def ow (W : Nat) (z z' : gd) : Prop := ∀ w : Nat, w < 2 → ¬ w = W → z'.1 120 w = z.1 120 w ∧ z'.1 123 w = z.1 123 w ∧ (∀ f : Nat, f < 11 → z'.1 126 (11 * w + f) = z.1 126 (11 * w + f)) ∧ ∀ s : Nat, s < 3000 → z'.1 130 (3000 * w + s) = z.1 130 (3000 * w + s) ∧ z'.1 131 (3000 * w + s) = z.1 131 (3000 * w + s) ∧ z'.1 132 (3000 * w + s) = z.1 132 (3000 * w + s)
theorem ow_tr {W : Nat} {x y z : gd} (a : ow W x y) (b : ow W y z) : ow W x z := by
  intro w hw hn
  obtain ⟨a1, a2, a3, a4⟩ := a w hw hn
  obtain ⟨b1, b2, b3, b4⟩ := b w hw hn
  exact ⟨b1.trans a1, b2.trans a2, fun f hf => (b3 f hf).trans (a3 f hf), fun s hs => ⟨(b4 s hs).1.trans (a4 s hs).1, (b4 s hs).2.1.trans (a4 s hs).2.1, (b4 s hs).2.2.trans (a4 s hs).2.2⟩⟩
theorem ow_mi {W : Nat} {L A : List Nat} {x y : gd} (m : mi L A x y) (hA : [120, 123, 126, 130, 131, 132].all (fun k => !A.elem k) = true) : ow W x y := by
  have g := fun k (h0 : k ≠ 0) hk => m.2 k h0 (all_no hA k hk)
  intro w _ _
  rw [g 120 (by decide) (by decide), g 123 (by decide) (by decide), g 126 (by decide) (by decide), g 130 (by decide) (by decide), g 131 (by decide) (by decide), g 132 (by decide) (by decide)]
  exact ⟨rfl, rfl, fun _ _ => rfl, fun _ _ => ⟨rfl, rfl, rfl⟩⟩
/-- one int changed, that belongs to the way W -/
theorem ow_si {W c j : Nat} {x : gd} {v : Int32} (hW : W < 2) (h : ((c = 120 ∨ c = 123) ∧ j = W) ∨ (c = 126 ∧ ∃ f : Nat, f < 11 ∧ j = 11 * W + f) ∨ ((c = 130 ∨ c = 131 ∨ c = 132) ∧ ∃ s : Nat, s < 3000 ∧ j = 3000 * W + s)) : ow W x (si x c j v) := by
  intro w hw hn
  have o : ∀ c' j' : Nat, ¬ (c' = c ∧ j' = j) → (si x c j v).1 c' j' = x.1 c' j' := fun c' j' q => by rw [si_get, if_neg q]
  refine ⟨o _ _ ?_, o _ _ ?_, fun f hf => o _ _ ?_, fun s hs => ⟨o _ _ ?_, o _ _ ?_, o _ _ ?_⟩⟩
  all_goals
    rcases h with ⟨h1, h2⟩ | ⟨h1, f', h2, h3⟩ | ⟨h1, s', h2, h3⟩
    all_goals
      have : w = 0 ∧ W = 1 ∨ w = 1 ∧ W = 0 := by omega
      omega
/-- rows that hang together -/
def hsR (z : gd) (M : Int) : Prop := (∀ h : Nat, h < 4096 → z.1 135 h = -1 ∨ (0 ≤ (z.1 135 h).toInt ∧ (z.1 135 h).toInt < M)) ∧ ∀ s : Nat, (s : Int) < M → z.1 134 s = -1 ∨ (0 ≤ (z.1 134 s).toInt ∧ (z.1 134 s).toInt < s)
section SEK
variable {G : mG} {d D : Nat} {x z a : gd} {F : Int32 → gd → Prop} {Fv : gd → Prop}
theorem t11 {w f : Int32} (wv : vp_in w 2) (f0 : 0 ≤ f.toInt) (f1 : f.toInt < 11) : vp_in (11 * w + f) 22 ∧ (11 * w + f).toNatClampNeg = 11 * w.toNatClampNeg + f.toNatClampNeg := by
  have k : (11 : Int32).toInt = 11 := rfl
  have tv := vp_in_iff.mp wv
  have m : (11 * w).toInt = 11 * w.toInt := by rw [t_mul (by rw [k]; omega) (by rw [k]; omega), k]
  have e : (11 * w + f).toInt = 11 * w.toInt + f.toInt := by rw [t_add (by omega) (by omega), m]
  have := t_cl (11 * w + f)
  have := t_cl w
  have := t_cl f
  exact ⟨by rw [vp_in_iff]; omega, by omega⟩
/-- findings stay in range -/
def fnd (z : gd) (W : Nat) (M : Int) : Prop := ∀ f : Nat, f < 11 → z.1 126 (11 * W + f) = -1 ∨ (0 ≤ (z.1 126 (11 * W + f)).toInt ∧ (z.1 126 (11 * W + f)).toInt < M)
theorem t72 {w i c : Int32} (wv : vp_in w 2) (i0 : 0 ≤ i.toInt) (i1 : i.toInt < 3000) (c0 : 0 ≤ c.toInt) (c1 : c.toInt < 24) : vp_in (72000 * w + 24 * i + c) 144000 := by
  have k : (72000 : Int32).toInt = 72000 := rfl
  have k2 : (24 : Int32).toInt = 24 := rfl
  have tv := vp_in_iff.mp wv
  have m : (72000 * w).toInt = 72000 * w.toInt := by rw [t_mul (by rw [k]; omega) (by rw [k]; omega), k]
  have m2 : (24 * i).toInt = 24 * i.toInt := by rw [t_mul (by rw [k2]; omega) (by rw [k2]; omega), k2]
  have e : (72000 * w + 24 * i).toInt = 72000 * w.toInt + 24 * i.toInt := by rw [t_add (by omega) (by omega), m, m2]
  rw [vp_in_iff, t_add (by omega) (by omega), e]; omega
theorem t24 {i c : Int32} (i0 : 0 ≤ i.toInt) (i1 : i.toInt < 6000) (c0 : 0 ≤ c.toInt) (c1 : c.toInt < 24) : vp_in (24 * i + c) 144000 := by
  have k2 : (24 : Int32).toInt = 24 := rfl
  have m2 : (24 * i).toInt = 24 * i.toInt := by rw [t_mul (by rw [k2]; omega) (by rw [k2]; omega), k2]
  rw [vp_in_iff, t_add (by omega) (by omega), m2]; omega
theorem tmul {k w i : Int32} {K N n : Nat} (hk : k.toInt = K) (wv : vp_in w 2) (i0 : 0 ≤ i.toInt) (i1 : i.toInt < n) (hn : n ≤ K) (hK : K ≤ 10000) (hN : 2 * K ≤ N) : vp_in (k * w + i) N ∧ (k * w + i).toNatClampNeg = K * w.toNatClampNeg + i.toNatClampNeg := by
  have tv := vp_in_iff.mp wv
  have e1 : w.toInt = 0 ∨ w.toInt = 1 := by omega
  have cw := cl_i tv.1
  have ci := cl_i i0
  have m : (k * w).toInt = K * w.toInt := by
    rcases e1 with e1 | e1
    · rw [t_mul (by rw [e1]; omega) (by rw [e1]; omega), hk]
    · rw [t_mul (by rw [e1]; omega) (by rw [e1]; omega), hk]
  rcases e1 with e1 | e1
  · rw [e1] at m
    have e : (k * w + i).toInt = i.toInt := by rw [t_add (by omega) (by omega), m]; omega
    have w0 : w.toNatClampNeg = 0 := by omega
    have := cl_i (a := k * w + i) (by omega)
    exact ⟨by rw [vp_in_iff]; omega, by rw [w0]; omega⟩
  · rw [e1] at m
    have e : (k * w + i).toInt = K + i.toInt := by rw [t_add (by omega) (by omega), m]; omega
    have w0 : w.toNatClampNeg = 1 := by omega
    have := cl_i (a := k * w + i) (by omega)
    exact ⟨by rw [vp_in_iff]; omega, by rw [w0]; omega⟩
end SEK
end
section
/-! a state looked at while trying -/
abbrev kA : List Nat := [70, 71, 72, 73, 74, 75, 76, 77, 78, 79, 80, 81, 82, 84, 86, 87, 88, 122, 123, 124, 125, 126, 127, 128, 129]
/-- what looking keeps -/
def LKI (z a : gd) (W : Nat) (M B : Int) (y : gd) : Prop := mi rL kA z y ∧ eqS (Sm a) a y ∧ ow W z y ∧ fnd y W M ∧ 0 ≤ (y.1 123 W).toInt ∧ (y.1 123 W).toInt ≤ B
section LOK
variable {G : mG} {d D : Nat} {x z a : gd} {F : Int32 → gd → Prop} {Fv : gd → Prop}
theorem LKI_md {W : Nat} {M B : Int} {y y' : gd} (q : LKI z a W M B y) (m : md rL rA y y') (e : eqS (Sm a) a y') : LKI z a W M B y' := by
  obtain ⟨q1, q2, q3, q4, q5, q6⟩ := q
  refine ⟨mi_tr q1 (mi_of m) rfl rfl, e, ow_tr q3 (ow_mi (mi_of m) rfl), ?_, by rw [m.2.1 123 (by decide) (by decide)]; exact q5, by rw [m.2.1 123 (by decide) (by decide)]; exact q6⟩
  unfold fnd
  rw [m.2.1 126 (by decide) (by decide)]
  exact q4
theorem LKI_c {W : Nat} {M B : Int} {y y' : gd} (q : LKI z a W M B y) (m : md [] [122, 124, 125, 127, 128] y y') : LKI z a W M B y' := by
  obtain ⟨q1, q2, q3, q4, q5, q6⟩ := q
  refine ⟨mi_tr q1 (mi_of m) rfl rfl, eqS_mi q2 (mi_of m) rfl rfl (ssub_rf _), ow_tr q3 (ow_mi (mi_of m) rfl), ?_, by rw [m.2.1 123 (by decide) (by decide)]; exact q5, by rw [m.2.1 123 (by decide) (by decide)]; exact q6⟩
  unfold fnd
  rw [m.2.1 126 (by decide) (by decide)]
  exact q4
theorem LKI_f {W : Nat} {M B : Int} {y y' : gd} (q : LKI z a W M B y) (m : md [] [126] y y') (o : ow W y y') (f : fnd y' W M) : LKI z a W M B y' := by
  obtain ⟨q1, q2, q3, q4, q5, q6⟩ := q
  exact ⟨mi_tr q1 (mi_of m) rfl rfl, eqS_mi q2 (mi_of m) rfl rfl (ssub_rf _), ow_tr q3 o, f, by rw [m.2.1 123 (by decide) (by decide)]; exact q5, by rw [m.2.1 123 (by decide) (by decide)]; exact q6⟩
end LOK
end
