section
/-! the class: what link does -/
/-- a step's name becomes its cell (and its row's size), lock, thread -/
def LK1 (x y : gd) (j : Nat) : Prop := (sop x j ≤ 10 → ∃ t : Nat, (x.1 85 j).toInt = (t : Nat) ∧ (t : Int) < mt x ∧ ((sop x j ≤ 4 → x.1 42 t = 6 ∨ x.1 42 t = 7) ∧ (5 ≤ sop x j → sop x j ≤ 8 → x.1 42 t = 4) ∧ (9 ≤ sop x j → x.1 42 t = 5)) ∧ (sop x j ≤ 4 → y.1 85 j = x.1 45 (x.1 43 t).toNatClampNeg ∧ y.1 86 j = x.1 46 (x.1 43 t).toNatClampNeg) ∧ (¬ sop x j ≤ 4 → y.1 85 j = x.1 43 t)) ∧ (¬ sop x j ≤ 10 → y.1 85 j = x.1 85 j)
/-- a cell in a claim becomes its number -/
def LK2 (x y : gd) (i : Nat) : Prop := (x.1 62 i = 6 → ∃ t : Nat, (x.1 63 i).toInt = (t : Nat) ∧ (t : Int) < mt x ∧ (x.1 42 t = 6 ∨ x.1 42 t = 7) ∧ (x.1 42 t = 7 → x.1 23 (t + 2) = 3 ∧ (t : Int) + 2 < mt x) ∧ y.1 62 i = 2 ∧ y.1 63 i = x.1 45 (x.1 43 t).toNatClampNeg + (if x.1 42 t = 7 then x.1 27 (t + 2) else 0)) ∧ (¬ x.1 62 i = 6 → y.1 62 i = x.1 62 i ∧ y.1 63 i = x.1 63 i)
section KLKF
variable {G : kG} {q : kP} {d : Nat} {x x0 y z : gd} {F : Int32 → gd → Prop} {Fv : gd → Prop}
theorem kf_link (hq : kV q) (hB : OT x0 x) (hJ : ∀ j : Nat, (j : Int) < mt x → JM x j) (h : ∀ y, CO y → fm (fun c k => c = 85 ∨ c = 86 ∨ c = 62 ∨ c = 63) x y → (∀ j : Nat, (j : Int) < ssm x → LK1 x y j) → (∀ i : Nat, (i : Int) < (x.1 60 3).toInt → LK2 x y i) → Fv y) : KT G q d zk_X7_link 0 [(0, vr 100)] [] x (rv Fv) := by
  obtain ⟨⟨hR, hU, hsp, hP⟩, hF, ⟨-, hN, hC, ⟨s0, hA⟩, hTS⟩, hSC, h5, -, acc⟩ := hB
  obtain ⟨hT, b1, b2, b3⟩ := hR
  have b4 : mt x ≤ 701 := by obtain ⟨-, n, en, hn, -⟩ := hT; unfold mt; omega
  have k10 : (10 : Int32).toInt = 10 := rfl
  have k4 : (4 : Int32).toInt = 4 := rfl
  have k2 : (2 : Int32).toInt = 2 := rfl
  have nbu : ¬ BU x := by
    rintro ⟨j, j1, j2⟩
    have := (hJ j (by omega)).1
    rcases j2 with e | e | e | e <;> rw [e] at this <;> revert this <;> decide
  have sm350 : ssm x ≤ 350 := by omega
  -- the steps that hold names still
  have step : ∀ i : Nat, (i : Int) < ssm x → sop x i ≤ 10 → ∃ t : Nat, (x.1 85 i).toInt = t ∧ (t : Int) < mt x ∧ (sop x i ≤ 4 → 0 ≤ (x.1 43 t).toInt ∧ (x.1 43 t).toInt < (x.1 40 6).toInt) ∧ (5 ≤ sop x i → sop x i ≤ 8 → 0 ≤ (x.1 43 t).toInt ∧ (x.1 43 t).toInt < (x.1 60 9).toInt) ∧ (9 ≤ sop x i → 0 ≤ (x.1 43 t).toInt ∧ (x.1 43 t).toInt < (x.1 60 10).toInt) ∧ ((sop x i ≤ 4 → x.1 42 t = 6 ∨ x.1 42 t = 7) ∧ (5 ≤ sop x i → sop x i ≤ 8 → x.1 42 t = 4) ∧ (9 ≤ sop x i → x.1 42 t = 5)) := by
    intro i hi ho
    obtain ⟨-, -, hs, -⟩ := hA i hi
    obtain ⟨t, t1, t2, t3, t4, t5⟩ := hs ho
    obtain ⟨j1, j2, j3, j4, -⟩ := hJ t (by omega)
    refine ⟨t, t1, by omega, fun c => j4 ?_, fun c1 c2 => ?_, fun c => ?_, fun c => ?_, t4, t5⟩
    · rcases t3 c with e | e | e | e
      · exact Or.inl e
      · exact Or.inr e
      · exfalso; rw [e] at j1; revert j1; decide
      · exfalso; rw [e] at j1; revert j1; decide
    · rw [hC.2.1]; exact j2 (t4 c1 c2)
    · rw [hC.2.2.1]; exact j3 (t5 c)
    · rcases t3 c with e | e | e | e
      · exact Or.inl e
      · exact Or.inr e
      · exfalso; rw [e] at j1; revert j1; decide
      · exfalso; rw [e] at j1; revert j1; decide
  -- sums
  have part : ∀ i : Nat, (i : Int) < (x.1 60 3).toInt → x.1 62 i = 6 → ∃ t : Nat, (x.1 63 i).toInt = t ∧ (t : Int) < mt x ∧ (0 ≤ (x.1 43 t).toInt ∧ (x.1 43 t).toInt < (x.1 40 6).toInt) ∧ (x.1 42 t = 7 → (t : Int) + 2 < mt x ∧ 0 ≤ (x.1 27 (t + 2)).toInt ∧ (x.1 27 (t + 2)).toInt < (x.1 46 (x.1 43 t).toNatClampNeg).toInt) ∧ (x.1 42 t = 6 ∨ x.1 42 t = 7) ∧ (x.1 42 t = 7 → x.1 23 (t + 2) = 3) := by
    intro i hi c
    obtain ⟨t, t1, t2, t3⟩ := (hP i hi).2 c
    obtain ⟨-, -, -, j4, -⟩ := hJ t (by omega)
    refine ⟨t, t1, by omega, j4 (t3.imp id (fun e => e.1)), fun c7 => ?_, t3.imp id (fun e => e.1), fun c7 => ?_⟩
    rotate_left 1
    · rcases t3 with e | ⟨-, e2, e3, e4⟩
      · rw [c7] at e; exact absurd e (by decide)
      · exact e4
    rcases t3 with e | ⟨-, e2, e3, e4⟩
    · rw [c7] at e; exact absurd e (by decide)
    · obtain ⟨-, -, -, -, j5⟩ := hJ (t + 2) (by push_cast; omega)
      have := j5 e3
      rw [Nat.add_sub_cancel] at this
      obtain ⟨-, n, en, hn, hw, -⟩ := hT
      exact ⟨by omega, (hw (t + 2) (by unfold mt at *; omega)).2.2 e4, this⟩
  have cell : ∀ m : Int32, 0 ≤ m.toInt → m.toInt < (x.1 40 6).toInt → vp_in m 24 ∧ 0 ≤ (x.1 45 m.toNatClampNeg).toInt ∧ (x.1 45 m.toNatClampNeg).toInt + 1 ≤ (x.1 60 6).toInt ∧ 0 ≤ (x.1 46 m.toNatClampNeg).toInt ∧ (x.1 45 m.toNatClampNeg).toInt + (x.1 46 m.toNatClampNeg).toInt ≤ (x.1 60 6).toInt := by
    intro m m0 m1
    have := hN.1.2
    obtain ⟨-, p2, p3, p4, p5, p6⟩ := hN.2.2.2.1 m.toNatClampNeg (by rw [t_cl]; omega)
    exact ⟨by rw [vp_in_iff]; omega, p2, p5, p3, p6⟩
  have c24 := hC.1
  -- the second loop
  have loop2 : ∀ (n k : Nat) (i : Int32) (y : gd), i.toInt = k → (k : Int) + n = (x.1 60 3).toInt → fm (fun c j => c = 85 ∨ c = 86 ∨ ((c = 62 ∨ c = 63) ∧ j < k)) x y → (∀ j : Nat, (j : Int) < ssm x → CSa y j) → (∀ j : Nat, j < k → y.1 62 j = 2 → 0 ≤ (y.1 63 j).toInt ∧ (y.1 63 j).toInt < 24) → (∀ j : Nat, (j : Int) < ssm x → LK1 x y j) → (∀ j : Nat, j < k → LK2 x y j) → KT G q d zk_X7_link 134 [(0, vr 100), (1, vi i)] [] y (rv Fv) := by
    have fin : ∀ (k : Nat) (y : gd), (k : Int) = (x.1 60 3).toInt → fm (fun c j => c = 85 ∨ c = 86 ∨ ((c = 62 ∨ c = 63) ∧ j < k)) x y → (∀ j : Nat, (j : Int) < ssm x → CSa y j) → (∀ j : Nat, j < k → y.1 62 j = 2 → 0 ≤ (y.1 63 j).toInt ∧ (y.1 63 j).toInt < 24) → (∀ j : Nat, (j : Int) < ssm x → LK1 x y j) → (∀ j : Nat, j < k → LK2 x y j) → Fv y := by
      intro k y ek fy hy1 hy2 hl1 hl2
      have e60 : ∀ j, y.1 60 j = x.1 60 j := fun j => fy _ _ (by omega)
      have es : ssm y = ssm x := by unfold ssm; rw [fy 80 9 (by omega)]
      have ep : ∀ j, sop y j = sop x j := fun j => by unfold sop; rw [fy 81 j (by omega)]
      have et : ∀ j, stg y j = stg x j := fun j => by unfold stg; rw [fy 84 j (by omega)]
      refine h y ⟨?_, ?_, by omega, fun i hi => ⟨hy1 i (by omega), ?_⟩, fun t ht => ?_⟩ (fm_w fy (fun c j q => by omega)) hl1 (fun i hi => hl2 i (by omega))
      · rw [e60, e60, e60, e60, e60, e60]
        refine ⟨hC.1, ?_, ?_, hC.2.2.2.2.2.1, hC.2.2.2.1, hC.2.2.2.2.1⟩
        · rw [hC.2.1]; exact hN.2.1
        · rw [hC.2.2.1]; exact hN.2.2.1
      · rw [e60]
        exact ⟨hsp, fun i hi c => hy2 i (by omega) c⟩
      · unfold CSb
        rw [ep, et, es, e60, ep, fy 83 i (by omega)]
        obtain ⟨a1, a2, -, a4⟩ := hA i (by omega)
        refine ⟨a1, a2, fun c => ?_, fun c => ?_, fun c => ?_⟩
        · rcases a4 c with g | g
          · exact g
          · exact absurd g nbu
        · rcases hSC i (by omega) (fun e => e) c with ⟨-, g, -⟩ | ⟨g1, g2, g3, g4⟩
          · exact absurd h5 g
          · exact ⟨g1, g3 h5, g4⟩
        · rcases hTS.2 h5 with g | g
          · omega
          · by_cases hl : (i : Int) + 1 < ssm x
            · exact hl
            · exfalso
              have : i = (ssm x).toNat - 1 := by omega
              apply c
              unfold sop
              rw [this, g]; rfl
      · rw [e60] at ht
        rw [fy 72 t (by omega), es]
        obtain ⟨p1, -, p3⟩ := hTS.1 t ht
        exact ⟨p1, p3 h5⟩
    intro n
    induction n with
    | zero =>
      intro k i y ei hk fy hy1 hy2 hl1 hl2
      refine kg_X7_link_134 hq _ ⟨fun _ => rv_i (fin k y (by omega) fy hy1 hy2 hl1 hl2), fun c => ?_⟩
      exfalso; rw [fy 60 3 (by omega), t_le] at c; omega
    | succ n ih =>
      intro k i y ei hk fy hy1 hy2 hl1 hl2
      have eN : i.toNatClampNeg = k := by rw [t_cl, ei]; rfl
      have e1 : (i + 1).toInt = ((k + 1 : Nat) : Int) := by rw [t_add (by show _ ≤ _ + (1 : Int); omega) (by show _ + (1 : Int) ≤ _; omega), ei]; rfl
      have vi9 : vp_in i 800 := by rw [vp_in_iff]; omega
      refine kg_X7_link_134 hq _ ⟨fun c => ?_, fun c => ⟨vi9, vi9, ?_⟩⟩
      · exfalso; rw [fy 60 3 (by omega), t_le] at c; omega
      rw [eN, fy 62 k (by omega), fy 63 k (by omega)]
      refine ⟨fun c6 => ih (k + 1) (i + 1) y e1 (by push_cast; omega) (fm_w fy (fun c j q => by omega)) hy1 (fun j hj c2 => ?_) hl1 (fun j hj => (by
        by_cases hjk : j = k
        · rw [hjk]; exact ⟨fun c => absurd c c6, fun _ => ⟨fy 62 k (by omega), fy 63 k (by omega)⟩⟩
        · exact hl2 j (by omega))), fun c6 => ?_⟩
      · by_cases hjk : j = k
        · rw [hjk] at c2 ⊢
          rw [fy 62 k (by omega)] at c2
          rw [fy 63 k (by omega)]
          rcases (hP k (by omega)).1 c2 with g | g
          · exact g
          · exact absurd g nbu
        · exact hy2 j (by omega) c2
      obtain ⟨t, t1, t2, ⟨m0, m1⟩, t3, t46, t47⟩ := part k (by omega) c6
      have tN : (x.1 63 k).toNatClampNeg = t := by rw [t_cl, t1]; rfl
      have vt : vp_in (x.1 63 k) 702 := by rw [vp_in_iff]; omega
      obtain ⟨q1, q2, q3, q4, q5⟩ := cell _ m0 m1
      have p198 : ∀ s : Int32, s = (if x.1 42 t = 7 then x.1 27 (t + 2) else 0) → 0 ≤ s.toInt → (x.1 45 (x.1 43 t).toNatClampNeg).toInt + s.toInt < 24 → KT G q d zk_X7_link 198 [(0, vr 100), (1, vi i), (2, vi (x.1 63 k))] [vi s] y (rv Fv) := by
        intro s hs s0' s1
        refine kg_X7_link_198 hq _ _ _ ⟨vi9, fun x2 e2 => ⟨vt, ?_⟩⟩
        rw [tN, eN]
        have f2 : ∀ c j, c ≠ 62 → x2.1 c j = y.1 c j := fun c j hc => by rw [e2, si_cell hc]
        rw [f2 43 t (by decide), fy 43 t (by omega), f2 45 _ (by decide), fy 45 _ (by omega)]
        refine ⟨q1, vi9, fun x6 e6 => ?_⟩
        rw [eN] at e2
        have es : (x.1 45 (x.1 43 t).toNatClampNeg + s).toInt = (x.1 45 (x.1 43 t).toNatClampNeg).toInt + s.toInt := t_add (by omega) (by omega)
        refine ih (k + 1) (i + 1) x6 e1 (by push_cast; omega) ?_ (fun j hj => ?_) (fun j hj c2 => ?_) (fun j hj => ?_) (fun j hj => ?_)
        · rw [e6, e2]; exact fm_si (fm_si (fm_w fy (fun c j q => by omega)) (by omega)) (by omega)
        · have := hy1 j hj
          unfold CSa sop at this ⊢
          have g : ∀ c j, c ≠ 62 → c ≠ 63 → x6.1 c j = y.1 c j := fun c j h1 h2 => by rw [e6, si_cell h2, f2 c j h1]
          rw [g 81 j (by decide) (by decide), g 85 j (by decide) (by decide), g 86 j (by decide) (by decide), g 60 6 (by decide) (by decide), g 60 9 (by decide) (by decide), g 60 10 (by decide) (by decide)]
          exact this
        · by_cases hjk : j = k
          · have : x6.1 63 j = x.1 45 (x.1 43 t).toNatClampNeg + s := by rw [hjk, e6]; (simp only [si_get, sfl_get, Nat.reduceEqDiff, eq_self, and_false, false_and, and_true, true_and, if_true, if_false, reduceIte, reduceCtorEq])
            rw [this, es]; omega
          · have a1 : x6.1 63 j = y.1 63 j := by rw [e6, si_get, if_neg (fun q => hjk q.2), f2 63 j (by decide)]
            have a2 : x6.1 62 j = y.1 62 j := by rw [e6, si_cell (by decide), e2, si_get, if_neg (fun q => hjk q.2)]
            rw [a1]; rw [a2] at c2
            exact hy2 j (by omega) c2
        · have := hl1 j hj
          have g : ∀ c j, c ≠ 62 → c ≠ 63 → x6.1 c j = y.1 c j := fun c j h1 h2 => by rw [e6, si_cell h2, f2 c j h1]
          unfold LK1 at this ⊢
          rw [g 85 j (by decide) (by decide), g 86 j (by decide) (by decide)]
          exact this
        · by_cases hjk : j = k
          · rw [hjk]
            refine ⟨fun _ => ⟨t, t1, t2, t46, fun c7 => ⟨t47 c7, (t3 c7).1⟩, ?_, ?_⟩, fun c => absurd c6 c⟩
            · rw [e6, si_cell (by decide), e2]; (simp only [si_get, sfl_get, Nat.reduceEqDiff, eq_self, and_false, false_and, and_true, true_and, if_true, if_false, reduceIte, reduceCtorEq])
            · rw [e6, hs]; (simp only [si_get, sfl_get, Nat.reduceEqDiff, eq_self, and_false, false_and, and_true, true_and, if_true, if_false, reduceIte, reduceCtorEq])
          · have a1 : x6.1 63 j = y.1 63 j := by rw [e6, si_get, if_neg (fun q => hjk q.2), f2 63 j (by decide)]
            have a2 : x6.1 62 j = y.1 62 j := by rw [e6, si_cell (by decide), e2, si_get, if_neg (fun q => hjk q.2)]
            have := hl2 j (by omega)
            unfold LK2 at this ⊢
            rw [a1, a2]
            exact this
      rw [tN, fy 42 t (by omega)]
      refine ⟨vt, fun c7 => p198 0 (by rw [if_neg c7]) (by decide) (by show _ + (0 : Int) < _; omega), fun c7 => ?_⟩
      obtain ⟨g1, g2, g3⟩ := t3 c7
      have e2 : (x.1 63 k + 2).toInt = t + 2 := by rw [t_add (by rw [k2]; omega) (by rw [k2]; omega), k2, t1]
      have e3 : (x.1 63 k + 2).toNatClampNeg = t + 2 := by rw [t_cl, e2]; omega
      rw [e3, fy 27 (t + 2) (by omega)]
      exact ⟨by rw [vp_in_iff]; omega, p198 _ (by rw [if_pos c7]) g2 (by omega)⟩
  -- the first loop
  have loop1 : ∀ (n k : Nat) (i : Int32) (y : gd), i.toInt = k → (k : Int) + n = ssm x → fm (fun c j => (c = 85 ∨ c = 86) ∧ j < k) x y → (∀ j : Nat, j < k → CSa y j) → (∀ j : Nat, j < k → LK1 x y j) → KT G q d zk_X7_link 2 [(0, vr 100), (1, vi i)] [] y (rv Fv) := by
    intro n
    induction n with
    | zero =>
      intro k i y ei hk fy hy1 hl1
      refine kg_X7_link_2 hq _ ⟨fun _ => loop2 (x.1 60 3).toInt.toNat 0 _ y rfl (by omega) (fm_w fy (fun c j q => by omega)) (fun j hj => hy1 j (by omega)) (fun j hj => by omega) (fun j hj => hl1 j (by omega)) (fun j hj => by omega), fun c => ?_⟩
      exfalso; rw [fy 80 9 (by omega), t_le] at c; unfold ssm at hk; omega
    | succ n ih =>
      intro k i y ei hk fy hy1 hl1
      have eN : i.toNatClampNeg = k := by rw [t_cl, ei]; rfl
      have e1 : (i + 1).toInt = ((k + 1 : Nat) : Int) := by rw [t_add (by show _ ≤ _ + (1 : Int); omega) (by show _ + (1 : Int) ≤ _; omega), ei]; rfl
      have vi9 : vp_in i 400 := by rw [vp_in_iff]; omega
      refine kg_X7_link_2 hq _ ⟨fun c => ?_, fun c => ⟨vi9, ?_⟩⟩
      · exfalso; rw [fy 80 9 (by omega), t_le] at c; unfold ssm at hk; omega
      rw [eN, fy 85 k (by omega), fy 81 k (by omega)]
      have keep : ¬ sop x k ≤ 10 → ∀ j : Nat, j < k + 1 → CSa y j := by
        intro hno j hj
        by_cases hjk : j = k
        · unfold CSa
          have : sop y j = sop x k := by unfold sop; rw [hjk, fy 81 k (by omega)]
          rw [this]
          exact ⟨fun c => by omega, fun c1 c2 => by omega, fun c1 c2 => by omega⟩
        · exact hy1 j (by omega)
      have keepL : ¬ sop x k ≤ 10 → ∀ j : Nat, j < k + 1 → LK1 x y j := by
        intro hno j hj
        by_cases hjk : j = k
        · rw [hjk]
          exact ⟨fun c => absurd c hno, fun _ => fy 85 k (by omega)⟩
        · exact hl1 j (by omega)
      have nm : x.1 85 k = -1 → ¬ sop x k ≤ 10 := fun cm ho => by
        obtain ⟨t, t1, -⟩ := step k (by omega) ho
        rw [cm, tm1] at t1; omega
      have nc : (10 : Int32) < x.1 81 k → ¬ sop x k ≤ 10 := fun c10 ho => by
        rw [t_lt, k10] at c10; unfold sop at ho; omega
      refine ⟨fun cm => ih (k + 1) (i + 1) y e1 (by push_cast; omega) (fm_w fy (fun c j q => by omega)) (keep (nm cm)) (keepL (nm cm)), fun cm => ⟨vi9, fun c10 => ih (k + 1) (i + 1) y e1 (by push_cast; omega) (fm_w fy (fun c j q => by omega)) (keep (nc c10)) (keepL (nc c10)), fun c10 => ?_⟩⟩
      rw [t_lt, k10] at c10
      have ho : sop x k ≤ 10 := by unfold sop; omega
      obtain ⟨t, t1, t2, t3, t4, t5, t6⟩ := step k (by omega) ho
      have tN : (x.1 85 k).toNatClampNeg = t := by rw [t_cl, t1]; rfl
      rw [tN, fy 43 t (by omega)]
      have p98 : ∀ (a s r : Int32) (hsv : (sop x k ≤ 4 → s = x.1 45 (x.1 43 t).toNatClampNeg ∧ r = x.1 46 (x.1 43 t).toNatClampNeg) ∧ (¬ sop x k ≤ 4 → s = x.1 43 t)) (hv : (a = 0 → r = 0) ∧ (¬ a = 0 → vp_in (x.1 43 t) 24 ∧ r = x.1 46 (x.1 43 t).toNatClampNeg)), ((sop x k ≤ 4 → 0 ≤ s.toInt ∧ s.toInt + 1 ≤ (x.1 60 6).toInt ∧ s.toInt + r.toInt ≤ (x.1 60 6).toInt) ∧ (5 ≤ sop x k → sop x k ≤ 8 → 0 ≤ s.toInt ∧ s.toInt < (x.1 60 9).toInt) ∧ (9 ≤ sop x k → sop x k ≤ 10 → 0 ≤ s.toInt ∧ s.toInt < (x.1 60 10).toInt)) → KT G q d zk_X7_link 98 [(0, vr 100), (1, vi i), (3, vi (x.1 43 t)), (4, vi a)] [vi s, vi i, vr 85] y (rv Fv) := by
        intro a s r hsv hv hcs
        refine kg_X7_link_98 hq _ _ _ _ _ ⟨vi9, fun x2 e2 => ?_⟩
        rw [eN] at e2 ⊢
        have go : ∀ z, z = si x2 86 k r → KT G q d zk_X7_link 2 [(0, vr 100), (1, vi (i + 1))] [] z (rv Fv) := by
          intro z ez
          refine ih (k + 1) (i + 1) z e1 (by push_cast; omega) ?_ (fun j hj => ?_) (fun j hj => ?_)
          · rw [ez, e2]; exact fm_si (fm_si (fm_w fy (fun c j q => by omega)) (by omega)) (by omega)
          · have g : ∀ c j, c ≠ 85 → c ≠ 86 → z.1 c j = y.1 c j := fun c j h1 h2 => by rw [ez, si_cell h2, e2, si_cell h1]
            by_cases hjk : j = k
            · have z5 : z.1 85 j = s := by rw [hjk, ez, e2]; (simp only [si_get, sfl_get, Nat.reduceEqDiff, eq_self, and_false, false_and, and_true, true_and, if_true, if_false, reduceIte, reduceCtorEq])
              have z6 : z.1 86 j = r := by rw [hjk, ez]; (simp only [si_get, sfl_get, Nat.reduceEqDiff, eq_self, and_false, false_and, and_true, true_and, if_true, if_false, reduceIte, reduceCtorEq])
              unfold CSa
              have : sop z j = sop x k := by unfold sop; rw [hjk, g 81 k (by decide) (by decide), fy 81 k (by omega)]
              rw [this, z5, z6, g 60 6 (by decide) (by decide), g 60 9 (by decide) (by decide), g 60 10 (by decide) (by decide), fy 60 6 (by omega), fy 60 9 (by omega), fy 60 10 (by omega)]
              exact hcs
            · have := hy1 j (by omega)
              unfold CSa sop at this ⊢
              have z5 : z.1 85 j = y.1 85 j := by rw [ez, si_cell (by decide), e2, si_get, if_neg (fun q => hjk q.2)]
              have z6 : z.1 86 j = y.1 86 j := by rw [ez, si_get, if_neg (fun q => hjk q.2), e2, si_cell (by decide)]
              rw [z5, z6, g 81 j (by decide) (by decide), g 60 6 (by decide) (by decide), g 60 9 (by decide) (by decide), g 60 10 (by decide) (by decide)]
              exact this
          · by_cases hjk : j = k
            · have z5 : z.1 85 j = s := by rw [hjk, ez, e2]; (simp only [si_get, sfl_get, Nat.reduceEqDiff, eq_self, and_false, false_and, and_true, true_and, if_true, if_false, reduceIte, reduceCtorEq])
              have z6 : z.1 86 j = r := by rw [hjk, ez]; (simp only [si_get, sfl_get, Nat.reduceEqDiff, eq_self, and_false, false_and, and_true, true_and, if_true, if_false, reduceIte, reduceCtorEq])
              rw [hjk] at z5 z6 ⊢
              unfold LK1
              rw [z5, z6]
              exact ⟨fun _ => ⟨t, t1, t2, t6, hsv.1, hsv.2⟩, fun c => absurd ho c⟩
            · have := hl1 j (by omega)
              unfold LK1 at this ⊢
              have z5 : z.1 85 j = y.1 85 j := by rw [ez, si_cell (by decide), e2, si_get, if_neg (fun q => hjk q.2)]
              have z6 : z.1 86 j = y.1 86 j := by rw [ez, si_get, if_neg (fun q => hjk q.2), e2, si_cell (by decide)]
              rw [z5, z6]
              exact this
        refine ⟨fun c0 => ⟨vi9, fun z ez => go z (by rw [ez, hv.1 c0])⟩, fun c0 => ⟨(hv.2 c0).1, vi9, fun z ez => go z ?_⟩⟩
        rw [ez, (hv.2 c0).2, e2, si_cell (by decide), fy 46 _ (by omega)]
      refine ⟨by rw [vp_in_iff]; omega, vi9, fun c4 => ?_, fun c4 => ?_⟩
      · rw [t_lt, k4] at c4
        refine kg_X7_link_70 hq _ _ _ ⟨fun _ => p98 0 _ 0 ⟨fun c => absurd c (by unfold sop; omega), fun _ => rfl⟩ ⟨fun _ => rfl, fun q => absurd rfl q⟩ ⟨fun c => ?_, t4, fun c1 _ => t5 c1⟩, fun q => absurd rfl q⟩
        unfold sop at c; omega
      · rw [t_lt, k4] at c4
        have h4 : sop x k ≤ 4 := by unfold sop; omega
        obtain ⟨m0, m1⟩ := t3 h4
        obtain ⟨q1, q2, q3, q4, q5⟩ := cell _ m0 m1
        refine kg_X7_link_70 hq _ _ _ ⟨fun q => absurd q (by decide), fun _ => ⟨q1, ?_⟩⟩
        rw [fy 45 _ (by omega)]
        exact p98 1 _ _ ⟨fun _ => ⟨rfl, rfl⟩, fun c => absurd h4 c⟩ ⟨fun q => absurd q (by decide), fun _ => ⟨q1, rfl⟩⟩ ⟨fun _ => ⟨q2, q3, q5⟩, fun c1 _ => by omega, fun c1 _ => by omega⟩
  exact kg_X7_link_0 hq (loop1 (ssm x).toNat 0 _ x rfl (by omega) (fm_rf _ _) (fun j hj => by omega) (fun j hj => by omega))
end KLKF
end
section
/-! the class: what is linked, in numbers -/
def cQ (q : gQ) : Int32 × Int32 := if q.1 = 1 then (1, q.2.2) else if q.1 = 2 then (2, Int32.ofNat q.2.1) else if q.1 = 3 then (3, 0) else if q.1 = 4 then (2, q.2.2) else if q.1 = 5 then (if q.2.2 = 29 then 5 else 4, 0) else (kcv q.2.2, 0)
def SUk (x : gd) (r : Int32) (P : List (Int32 × Int32)) : Prop := 0 ≤ r.toInt ∧ r.toInt + P.length < (x.1 60 3).toInt ∧ (∀ i q, P[i]? = some q → x.1 62 (r.toNatClampNeg + i) = q.1 ∧ x.1 63 (r.toNatClampNeg + i) = q.2) ∧ x.1 62 (r.toNatClampNeg + P.length) = 0
def kNs (x : gd) (v : Int32) : Option (List gQ) → Prop
  | none => v = -1
  | some Q => SUk x v (Q.map cQ)
def kN (x : gd) (j : Nat) (st : gNs) : Prop := x.1 81 j = Int32.ofNat st.1 ∧ (x.1 83 j).toInt = st.2.1.length ∧ ((st.1 = 0 ∨ (2 ≤ st.1 ∧ st.1 ≤ 4) ∨ st.1 = 16 ∨ st.1 = 17 ∨ st.1 = 20) → tgI (x.1 84 j) st.2.2.2.1) ∧ (st.1 = 8 → (x.1 84 j = 1 ↔ st.2.2.2.2.2.2.1 = true)) ∧ (¬ st.1 = 16 → x.1 85 j = st.2.2.2.2.1) ∧ (st.1 ≤ 4 → ¬ st.2.2.2.2.2.2.2.1 = none → x.1 86 j = st.2.2.2.2.2.1) ∧ kNs x (x.1 87 j) st.2.2.2.2.2.2.2.1 ∧ kNs x (x.1 88 j) st.2.2.2.2.2.2.2.2.1 ∧ kNs x (x.1 89 j) st.2.2.2.2.2.2.2.2.2
def CK (x : gd) (C : gCo) : Prop := ((x.1 80 9).toInt = C.1.length ∧ ∀ j st, C.1[j]? = some st → kN x j st) ∧ ((x.1 60 10).toInt = C.2.1.length ∧ ∀ (t : Nat) (q : Nat × Nat), C.2.1[t]? = some q → (x.1 72 t).toInt = q.1 ∧ x.1 73 t = Int32.ofNat q.2) ∧ ((x.1 60 6).toInt = C.2.2.1.length ∧ ∀ j q, C.2.2.1[j]? = some q → x.1 68 j = q.1 ∧ x.1 69 j = if q.2 = true then 1 else 0) ∧ ((x.1 60 14).toInt = C.2.2.2.1.length ∧ ∀ k Q, C.2.2.2.1[k]? = some Q → SUk x (x.1 76 k) (Q.map cQ)) ∧ ((x.1 60 16).toInt = C.2.2.2.2.length ∧ ∀ k Q, C.2.2.2.2[k]? = some Q → SUk x (x.1 78 k) (Q.map cQ))
/-- what a part becomes -/
def lkF (x : gd) (q : Int32 × Int32) : Int32 × Int32 := if q.1 = 6 then (2, x.1 45 (x.1 43 q.2.toNatClampNeg).toNatClampNeg + (if x.1 42 q.2.toNatClampNeg = 7 then x.1 27 (q.2.toNatClampNeg + 2) else 0)) else q
/-- before it is linked -/
def LPk (sN : Nat → Nat → Bool) (V K : Nat → Int32) (L : gU) (z : gd) : Prop := CCp sN V K z (cds sN K L cd0) (ces K V L (0, 0, [])) (tPs sN V K L E0v) ∧ TBk z (L.filterMap (te1 K V)) ∧ (∀ j : Nat, (j : Int) < mt z → MNg (fun a b => sN a b = true) (L.filterMap (te1 K V)) (z.1 42) (z.1 43) j ∧ ¬ z.1 42 j = 9) ∧ (∀ j, K j = 2 → z.1 27 j = V j) ∧ (∃ n, HAs sN (z.1 42) n L E0v ∧ (n : Int) ≤ mt z) ∧ (tPs sN V K L E0v).length ≤ 700 ∧ mt z ≤ 701
section KMN
variable {sN : Nat → Nat → Bool} {T : gTd} {V K : Nat → Int32} {x y : gd} {L N : gU} {ks : gK} {v : Nat × Nat × Nat} {P Q : List (Int32 × Int32)} {E : gV} {w t : Nat}
theorem nm_at : ∀ {T : gTd} {k : Nat} {q : Nat × Nat × Nat × Nat}, (tdS T w)[k]? = some q → sN q.1 t = true → (∀ (k' : Nat) (q' : Nat × Nat × Nat × Nat), k' < k → (tdS T w)[k']? = some q' → ¬ sN q'.1 t = true) → nmT sN w t T = nbT w ((tdS T w).take k) ∧ mtP sN T w t = some q := by
  intro T
  induction T with
  | nil => intro k q h; cases h
  | cons p T ih =>
    intro k q hq hs hf
    have em : mtP sN (p :: T) w t = if (decide (p.2.1 = w) && sN p.1 t) = true then some p else mtP sN T w t := by
      unfold mtP
      rw [List.find?_cons]
      cases (decide (p.2.1 = w) && sN p.1 t) <;> rfl
    by_cases c : p.2.1 = w
    · have e : tdS (p :: T) w = p :: tdS T w := by
        unfold tdS
        rw [List.filter_cons, if_pos (by simp [c])]
      rw [e] at hq hf ⊢
      cases k with
      | zero =>
        cases Option.some.inj hq
        have b : (decide (p.2.1 = w) && sN p.1 t) = true := by rw [hs]; simp [c]
        rw [em, nmT, if_pos b, if_pos b]
        exact ⟨rfl, rfl⟩
      | succ k =>
        have hq : (tdS T w)[k]? = some q := hq
        have n0 := hf 0 p (Nat.zero_lt_succ _) rfl
        have b : ¬ (decide (p.2.1 = w) && sN p.1 t) = true := by
          intro z
          exact n0 (by simp at z; exact z.2)
        obtain ⟨r1, r2⟩ := ih hq hs (fun k' q' hk' hq' => hf (k' + 1) q' (Nat.succ_lt_succ hk') hq')
        rw [em, nmT, if_neg b, if_neg b, if_pos c, r1, List.take_succ_cons, nbT, if_pos c]
        exact ⟨rfl, r2⟩
    · have e : tdS (p :: T) w = tdS T w := by
        unfold tdS
        rw [List.filter_cons, if_neg (by simp [c])]
      rw [e] at hq hf ⊢
      have b : ¬ (decide (p.2.1 = w) && sN p.1 t) = true := by simp [c]
      obtain ⟨r1, r2⟩ := ih hq hs hf
      rw [em, nmT, if_neg b, if_neg b, if_neg c, Nat.zero_add]
      exact ⟨r1, r2⟩
/-- no name is told twice: the first is the only one -/
theorem nm_is (hS : ∀ a b, sN a b = true → sN b a = true) (hTr : ∀ a b c, sN a b = true → sN b c = true → sN a c = true) (nt : nTw sN T) (srt : T.Pairwise (fun a b => a.1 < b.1)) {k : Nat} {q : Nat × Nat × Nat × Nat} (hq : (tdS T w)[k]? = some q) (hs : sN q.1 t = true) : nmT sN w t T = nbT w ((tdS T w).take k) ∧ mtP sN T w t = some q := by
  refine nm_at hq hs (fun k' q' hk' hq' hs' => ?_)
  have m := (tdS_mem.mp (List.mem_of_getElem? hq)).1
  have m' := (tdS_mem.mp (List.mem_of_getElem? hq')).1
  have e := nTw_one hS hTr nt m' m hs' hs
  have pw : (tdS T w).Pairwise (fun a b => a.1 < b.1) := srt.filter _
  have l := gt_lt hq
  have l' := gt_lt hq'
  have lt := List.pairwise_iff_getElem.mp pw k' k l' l hk'
  rw [List.getElem?_eq_getElem l] at hq
  rw [List.getElem?_eq_getElem l'] at hq'
  rw [Option.some.inj hq, Option.some.inj hq', e] at lt
  exact Nat.lt_irrefl _ lt
theorem nbT_len : ∀ {l : gTd}, (∀ q ∈ l, q.2.1 = w ∧ q.2.2.1 = 0) → nbT w l = l.length := by
  intro l
  induction l with
  | nil => intro _; rfl
  | cons q l ih =>
    intro h
    obtain ⟨a, b⟩ := h q List.mem_cons_self
    rw [nbT, if_pos a, b, ih (fun p hp => h p (List.mem_cons_of_mem _ hp)), List.length_cons]
    show 1 + l.length = l.length + 1
    omega
theorem te_sz {q : Nat × Nat × Nat × Nat} (h : q ∈ L.filterMap (te1 K V)) (h0 : ¬ q.2.1 = 0) : q.2.2.1 = 0 := by
  obtain ⟨v, -, e⟩ := List.mem_filterMap.mp h
  unfold te1 at e
  split at e
  · cases Option.some.inj e; rfl
  · split at e
    · cases Option.some.inj e; exact absurd rfl h0
    · split at e
      · cases Option.some.inj e; rfl
      · split at e
        · cases Option.some.inj e; rfl
        · exact absurd e (by simp)
theorem kcv_6 {k : Int32} (h : ¬ pst k = 0) : ¬ kcv k = 6 := by
  have key : ∀ w ∈ [(30 : Int32), 12, 51, 52, 53, 54, 55, 56, 57, 58, 59, 60, 28], ¬ kcv w = 6 := by decide
  refine key k ?_
  apply Classical.byContradiction
  intro c
  exact h (pst_c (fun w hw e => c (by rw [e]; exact hw)))
theorem fm_cg {α β : Type} {f g : α → Option β} : ∀ {l : List α}, (∀ a ∈ l, f a = g a) → l.filterMap f = l.filterMap g := by
  intro l
  induction l with
  | nil => intro _; rfl
  | cons a l ih =>
    intro h
    rw [List.filterMap_cons, List.filterMap_cons, h a List.mem_cons_self, ih (fun b hb => h b (List.mem_cons_of_mem _ hb))]
/-- a thread's sum -/
theorem sPs_t (hs : sEv false N) (hk : ∀ v ∈ N, v.1 = 3 → ∃ p, kfi sN ks v.2.1 = some p) : sPs sN V K (ks, [0], 0) N = (nQs sN T V K ks N).map cQ := by
  unfold sPs nQs
  rw [List.map_filterMap]
  refine fm_cg (fun v hv => ?_)
  have h3 := hk v hv
  obtain ⟨a, b, c⟩ := v
  rcases hs _ hv with e | e | e | e | ⟨-, e⟩ | ⟨e, -⟩
  · have e : a = 50 := e
    subst e; rfl
  · have e : a = 51 := e
    subst e; rfl
  · have e : a = 52 := e
    subst e; rfl
  · have e : a = 53 := e
    subst e; rfl
  · have e : a = 3 := e
    subst e
    obtain ⟨p, hp⟩ := h3 rfl
    have hp : kfi sN ks b = some p := hp
    show some ((2 : Int32), (match kfi sN ks b with | some p => Int32.ofNat p | none => -1)) = some (2, Int32.ofNat ((kfi sN ks b).getD 0))
    rw [hp]
    rfl
  · cases e
theorem lkF_no {q : Int32 × Int32} (h : ¬ q.1 = 6) : lkF x q = q := if_neg h
theorem sPs_n6 (hs : sEv false N) (hv : ∀ v ∈ N, sVv K v) : ∀ q ∈ sPs sN V K (ks, [0], 0) N, ¬ q.1 = 6 := by
  intro q hq
  obtain ⟨v, hm, e⟩ := List.mem_filterMap.mp hq
  have h51 := (hv v hm).2.1
  obtain ⟨a, b, c⟩ := v
  rcases hs _ hm with e9 | e9 | e9 | e9 | ⟨-, e9⟩ | ⟨e9, -⟩
  · have e9 : a = 50 := e9
    subst e9
    cases Option.some.inj e
    show ¬ (if K b = 29 then (5 : Int32) else 4) = 6
    split <;> decide
  · have e9 : a = 51 := e9
    subst e9
    cases Option.some.inj e
    exact kcv_6 (h51 rfl)
  · have e9 : a = 52 := e9
    subst e9
    cases Option.some.inj e
    show ¬ (1 : Int32) = 6
    decide
  · have e9 : a = 53 := e9
    subst e9
    cases Option.some.inj e
    show ¬ (3 : Int32) = 6
    decide
  · have e9 : a = 3 := e9
    subst e9
    cases Option.some.inj e
    show ¬ (2 : Int32) = 6
    decide
  · cases e9
/-- a sum as it stands when it is linked -/
theorem SUk_lk {r : Int32} (hP : PR x P) (hl : P.length ≤ 700) (l2 : ∀ i : Nat, (i : Int) < (x.1 60 3).toInt → LK2 x y i) (e3 : y.1 60 3 = x.1 60 3) (h : SUc P r Q) : SUk y r (Q.map (lkF x)) := by
  obtain ⟨n, h1, h2⟩ := h
  obtain ⟨p1, p2⟩ := hP
  have hend : P[n + Q.length]? = some (0, 0) := h2 Q.length (0, 0) (by rw [List.getElem?_append_right (Nat.le_refl _), Nat.sub_self]; rfl)
  have le := gt_lt hend
  have er : r.toNatClampNeg = n := by
    rw [t_cl, h1]; omega
  have p3 : (x.1 60 3).toInt = P.length := by rw [p1]; omega
  have one : ∀ i q, P[n + i]? = some q → y.1 62 (n + i) = (lkF x q).1 ∧ y.1 63 (n + i) = (lkF x q).2 := fun i q hq => by
    have lt := gt_lt hq
    obtain ⟨a1, a2⟩ := p2 (n + i) q (by omega) hq
    obtain ⟨k1, k2⟩ := l2 (n + i) (by omega)
    rw [a1, a2] at k1 k2
    unfold lkF
    by_cases c : q.1 = 6
    · obtain ⟨t, t1, -, -, -, t3, t4⟩ := k1 c
      have et : q.2.toNatClampNeg = t := by rw [t_cl, t1]; rfl
      rw [if_pos c, et]
      exact ⟨t3, t4⟩
    · rw [if_neg c]
      exact k2 c
  refine ⟨by omega, ?_, fun i q hq => ?_, ?_⟩
  · rw [e3, List.length_map]; omega
  · rw [List.getElem?_map] at hq
    obtain ⟨q0, g0, e⟩ := Option.map_eq_some_iff.mp hq
    subst e
    rw [er]
    refine one i q0 (h2 i q0 ?_)
    rw [List.getElem?_append_left (gt_lt g0)]
    exact g0
  · rw [er, List.length_map]
    have := (one Q.length (0, 0) hend).1
    rw [lkF_no (by decide)] at this
    exact this
end KMN
end
section
/-! the class: when it is linked, its code is what the numbers say -/
section KCK
variable {sN : Nat → Nat → Bool} {V K : Nat → Int32} {x y : gd} {L N : gU}
theorem CK_of (hS : ∀ a b, sN a b = true → sN b a = true) (hTr : ∀ a b c, sN a b = true → sN b c = true → sN a c = true) (nf : ¬ jFl sN K V L) (srt : (L.filterMap (te1 K V)).Pairwise (fun a b => a.1 < b.1)) (h : LPk sN V K L x) (hw : WC sN K (fun v => v ∈ L) (cds sN K L cd0)) (f : fm (fun c _ => c = 85 ∨ c = 86 ∨ c = 62 ∨ c = 63) x y) (l1 : ∀ j : Nat, (j : Int) < ssm x → LK1 x y j) (l2 : ∀ i : Nat, (i : Int) < (x.1 60 3).toInt → LK2 x y i) : CK y (codN sN V K L) := by
  obtain ⟨⟨hP, ⟨s1, s2⟩, -, ⟨b1, b2⟩, ⟨c1, c2⟩, ⟨a1, a2⟩, ⟨f1, f2⟩⟩, ⟨⟨p1, p2, p3⟩, -⟩, hM, hV, ⟨n, hH, hn⟩, hl, hmt⟩ := h
  obtain ⟨E, S, r, b, l, ec, -, -, w1, w2, w3⟩ := hw
  have e1 : (cds sN K L cd0).2.1 = S := by rw [ec]
  have e2 : (cds sN K L cd0).2.2.2.2.1 = b := by rw [ec]
  have e3 : (cds sN K L cd0).2.2.2.2.2 = l := by rw [ec]
  rw [e1] at s1 s2
  rw [e2] at b1 b2
  rw [e3] at a1 a2 f1 f2
  unfold codN
  rw [e1, e2, e3]
  have te9 : ∀ q ∈ L.filterMap (te1 K V), ¬ q.2.1 = 0 → q.2.2.1 = 0 := fun q hq h0 => te_sz hq h0
  have nt0 : ¬ jT sN V (L.filterMap (te1 K V)) := fun z => nf (Or.inl z)
  generalize L.filterMap (te1 K V) = T at *
  have nt : nTw sN T := fun j' j q' q lt h' h hs => nt0 ⟨j, q, h, Or.inl ⟨j', q', lt, h', hs⟩⟩
  have g : ∀ c k, ¬ c = 85 → ¬ c = 86 → ¬ c = 62 → ¬ c = 63 → y.1 c k = x.1 c k := fun c k h1 h2 h3 h4 => f c k (by omega)
  have g60 : ∀ k, y.1 60 k = x.1 60 k := fun k => g 60 k (by decide) (by decide) (by decide) (by decide)
  -- what names mean
  have cell : ∀ t : Nat, (t : Int) < mt x → (x.1 42 t = 6 ∨ x.1 42 t = 7) → x.1 45 (x.1 43 t).toNatClampNeg = Int32.ofNat (nmT sN 0 t T) ∧ x.1 46 (x.1 43 t).toNatClampNeg = Int32.ofNat (rsT sN T t) := fun t ht hu => by
    obtain ⟨k, q, hk, hq, hs⟩ := (hM t ht).1.2.2 hu
    have ek : (x.1 43 t).toNatClampNeg = k := by rw [t_cl, hk]; rfl
    obtain ⟨z1, z2, z3⟩ := p3 k q hq
    obtain ⟨m1, m2⟩ := nm_is hS hTr nt srt hq hs
    have er : rsT sN T t = q.2.2.1 := by unfold rsT; simp only [m2]
    rw [ek, er, m1]
    exact ⟨i32_of z3, i32_of z2⟩
  have num : ∀ (w t k : Nat) (q : Nat × Nat × Nat × Nat), ¬ w = 0 → (x.1 43 t).toInt = (k : Nat) → (tdS T w)[k]? = some q → sN q.1 t = true → x.1 43 t = Int32.ofNat (nmT sN w t T) := fun w t k q h0 hk hq hs => by
    obtain ⟨m1, -⟩ := nm_is hS hTr nt srt hq hs
    have lt := gt_lt hq
    rw [m1, nbT_len (fun p hp => ?_), List.length_take]
    · exact i32_of (by rw [hk]; omega)
    · obtain ⟨p1, p2⟩ := tdS_mem.mp (List.mem_of_mem_take hp)
      exact ⟨p2, te9 p p1 (by rw [p2]; exact h0)⟩
  -- sums
  have sum : ∀ {ks : gK} {E0 : gV} {v : Int32} {o : Option gU}, ks = E0.1 → sOo sN K E0 o → cSu sN V K (tPs sN V K L E0v) ks v o → kNs y v (o.map (nQs sN T V K ks)) := fun {ks E0 v o} ek so hc => by
    cases o with
    | none => exact hc
    | some N =>
      obtain ⟨q1, q2, q3, q4⟩ := so N rfl
      have hc : SUc (tPs sN V K L E0v) v (sPs sN V K (ks, [0], 0) N) := hc
      have a := SUk_lk hP hl l2 (g60 3) hc
      have e : (sPs sN V K (ks, [0], 0) N).map (lkF x) = sPs sN V K (ks, [0], 0) N := by
        conv => rhs; rw [← List.map_id (sPs sN V K (ks, [0], 0) N)]
        exact List.map_congr_left (fun q hq => lkF_no (sPs_n6 q1 q2 q hq))
      rw [e, sPs_t (T := T) q1 (fun v hv h3 => by rw [ek]; exact q4 v hv h3)] at a
      exact a
  have clm : ∀ {v : Int32} {N : gU}, clO K N → (∀ v ∈ N, v ∈ L) → SUc (tPs sN V K L E0v) v (sPs sN V K E0v N) → SUk y v ((nQs sN T V K [] N).map cQ) := fun {v N} hc hm hs => by
    obtain ⟨q1, q2, -, q4⟩ := hc
    have a := SUk_lk hP hl l2 (g60 3) hs
    have e : (sPs sN V K E0v N).map (lkF x) = (nQs sN T V K [] N).map cQ := by
      unfold sPs nQs
      rw [List.map_filterMap, List.map_filterMap]
      refine q4 _ _ (fun v hv h7 h12 => ?_) (fun i i7 i12 => ?_) (fun i j => rfl) (fun i j => rfl)
      · have sv := q2 v hv
        obtain ⟨E9, hA⟩ := HAs_mem hH v (hm v hv)
        have kd := q1 v hv
        obtain ⟨p, t, u⟩ := v
        rcases kd with e | e | e | e | ⟨e, -⟩ | ⟨-, e | e | e⟩
        · have e : p = 50 := e
          subst e
          show some (lkF x (if K t = 29 then 5 else 4, 0)) = some (if K t = 29 then 5 else 4, 0)
          rw [lkF_no]
          show ¬ (if K t = 29 then (5 : Int32) else 4) = 6
          split <;> decide
        · have e : p = 51 := e
          subst e
          show some (lkF x (kcv (K t), 0)) = some (kcv (K t), 0)
          rw [lkF_no (kcv_6 (sv.2.1 rfl))]
        · have e : p = 52 := e
          subst e
          rfl
        · have e : p = 53 := e
          subst e
          rfl
        · cases e
        · have e : p = 6 := e
          subst e
          obtain ⟨tn, u6⟩ := hA.2.1 rfl
          have tn : t < n := tn
          have u6 : x.1 42 t = 6 := u6
          have et : (Int32.ofNat t).toNatClampNeg = t := by rw [t_cl, Int32.toInt_ofNat_of_lt (by omega)]; rfl
          show some (lkF x (6, Int32.ofNat t)) = some (2, Int32.ofNat (nmT sN 0 t T))
          unfold lkF
          rw [if_pos rfl]
          show some ((2 : Int32), x.1 45 (x.1 43 (Int32.ofNat t).toNatClampNeg).toNatClampNeg + (if x.1 42 (Int32.ofNat t).toNatClampNeg = 7 then x.1 27 ((Int32.ofNat t).toNatClampNeg + 2) else 0)) = _
          rw [et, u6, if_neg (by decide), (cell t (by omega) (Or.inl u6)).1, Int32.add_zero]
        · exact absurd e h7
        · exact absurd e h12
      · obtain ⟨E9, hA⟩ := HAs_mem hH _ (hm _ i7)
        obtain ⟨tn, u7⟩ := hA.2.2.1 rfl
        have tn : i < n := tn
        have u7 : x.1 42 i = 7 ∨ x.1 42 i = 9 := u7
        have u7 : x.1 42 i = 7 := u7.elim id (fun z => absurd z (hM i (by omega)).2)
        have k2 : K (i + 2) = 2 := ((q2 _ i12).2.2.2.2 rfl).1
        have et : (Int32.ofNat i).toNatClampNeg = i := by rw [t_cl, Int32.toInt_ofNat_of_lt (by omega)]; rfl
        show some (lkF x (6, Int32.ofNat i)) = some (2, Int32.ofNat (nmT sN 0 i T) + V (i + 2))
        unfold lkF
        rw [if_pos rfl]
        show some ((2 : Int32), x.1 45 (x.1 43 (Int32.ofNat i).toNatClampNeg).toNatClampNeg + (if x.1 42 (Int32.ofNat i).toNatClampNeg = 7 then x.1 27 ((Int32.ofNat i).toNatClampNeg + 2) else 0)) = _
        rw [et, u7, if_pos rfl, (cell i (by omega) (Or.inr u7)).1, hV _ k2]
    rw [e] at a
    exact a
  refine ⟨⟨?_, fun j st hj => ?_⟩, ⟨?_, fun t q hq => ?_⟩, ⟨?_, fun j q hq => ?_⟩, ⟨?_, fun k Q hQ => ?_⟩, ⟨?_, fun k Q hQ => ?_⟩⟩
  · rw [g 80 9 (by decide) (by decide) (by decide) (by decide), s1]
    show _ = ((S.map _).length : Int)
    rw [List.length_map]
  · have hj : (S.map (nStp sN T V K))[j]? = some st := hj
    rw [List.getElem?_map] at hj
    obtain ⟨s0, g0, e⟩ := Option.map_eq_some_iff.mp hj
    subst e
    obtain ⟨-, E0, ⟨q1, ⟨q2, q2'⟩, q3, q4, q5, q5', q6, q7, q8, q9, so0, so1, so2⟩, -⟩ := w1 j s0 g0
    obtain ⟨k1, k2, k3, k4, k5, k6, k7, k8⟩ := s2 j s0 g0
    have ek : s0.2.2.1.1 = E0.1 := by rw [q1]
    have lj : (j : Int) < ssm x := by
      have := gt_lt g0
      show (j : Int) < (x.1 80 9).toInt
      omega
    have so : sop x j = (s0.1 : Nat) := by
      show (x.1 81 j).toInt = _
      rw [k1]
      exact Int32.toInt_ofNat_of_lt (by omega)
    obtain ⟨L1, L2⟩ := l1 j lj
    have gj : ∀ c, ¬ c = 85 → ¬ c = 86 → ¬ c = 62 → ¬ c = 63 → y.1 c j = x.1 c j := fun c => g c j
    refine ⟨by rw [gj 81 (by decide) (by decide) (by decide) (by decide)]; exact k1, ?_, ?_, ?_, fun n16 => ?_, fun o4 hx => ?_, ?_, ?_, ?_⟩
    · rw [gj 83 (by decide) (by decide) (by decide) (by decide), k2]
      show _ = ((slK s0.2.2.1.1).length : Int)
      rw [show (slK s0.2.2.1.1).length = s0.2.2.1.1.length from List.length_map _]
    · rw [gj 84 (by decide) (by decide) (by decide) (by decide)]; exact k3
    · rw [gj 84 (by decide) (by decide) (by decide) (by decide)]; exact k4
    · have n16 : ¬ s0.1 = 16 := n16
      show y.1 85 j = mOf sN T V s0
      have k5 := k5 n16
      by_cases c10 : s0.1 ≤ 10
      · obtain ⟨t, et, -⟩ := q4 c10
        rw [et] at k5
        have k5 : (if s0.1 = 13 then x.1 85 j = V t else (x.1 85 j).toInt = (t : Nat)) := k5
        rw [if_neg (by omega)] at k5
        obtain ⟨t', t1, t2, ⟨u1, u2, u3⟩, t3, t4⟩ := L1 (by omega)
        have ett : t' = t := by omega
        subst ett
        unfold mOf
        rw [et]
        show y.1 85 j = if s0.1 ≤ 4 then Int32.ofNat (nmT sN 0 t' T) else if s0.1 ≤ 8 then Int32.ofNat (nmT sN 1 t' T) else if s0.1 ≤ 10 then Int32.ofNat (nmT sN 2 t' T) else V t'
        by_cases c4 : s0.1 ≤ 4
        · rw [if_pos c4, (t3 (by omega)).1, (cell t' t2 (u1 (by omega))).1]
        · rw [if_neg c4, t4 (by omega)]
          by_cases c8 : s0.1 ≤ 8
          · rw [if_pos c8]
            obtain ⟨k, q, hk, hq, hs⟩ := (hM t' t2).1.1 (u2 (by omega) (by omega))
            exact num 1 t' k q (by decide) hk hq hs
          · rw [if_neg c8, if_pos c10]
            obtain ⟨k, q, hk, hq, hs⟩ := (hM t' t2).1.2.1 (u3 (by omega))
            exact num 2 t' k q (by decide) hk hq hs
      · rw [L2 (by omega)]
        unfold mOf
        by_cases c13 : s0.1 = 13
        · obtain ⟨t, et, -⟩ := q5 c13
          rw [et] at k5 ⊢
          have k5 : (if s0.1 = 13 then x.1 85 j = V t else (x.1 85 j).toInt = (t : Nat)) := k5
          rw [if_pos c13] at k5
          show x.1 85 j = if s0.1 ≤ 4 then _ else if s0.1 ≤ 8 then _ else if s0.1 ≤ 10 then _ else V t
          rw [if_neg (by omega), if_neg (by omega), if_neg (by omega)]
          exact k5
        · have en := q5' (by omega) c13
          rw [en] at k5 ⊢
          exact k5
    · have o4 : s0.1 ≤ 4 := o4
      have hx : ¬ s0.2.2.2.2.2.2.1.map (nQs sN T V K s0.2.2.1.1) = none := hx
      have hx : ¬ s0.2.2.2.2.2.2.1 = none := fun z => hx (by rw [z]; rfl)
      have fl := (q6 o4).mpr hx
      obtain ⟨t, et, -⟩ := q4 (by omega)
      have k5 := k5 (by omega)
      rw [et] at k5
      have k5 : (if s0.1 = 13 then x.1 85 j = V t else (x.1 85 j).toInt = (t : Nat)) := k5
      rw [if_neg (by omega)] at k5
      obtain ⟨t', t1, t2, ⟨u1, u2, u3⟩, t3, t4⟩ := L1 (by omega)
      have ett : t' = t := by omega
      subst ett
      show y.1 86 j = mSz sN T s0
      unfold mSz
      rw [if_pos fl, if_pos o4, (t3 (by omega)).2, (cell t' t2 (u1 (by omega))).2, et]
      rfl
    · rw [gj 87 (by decide) (by decide) (by decide) (by decide)]
      exact sum ek so0 k6
    · rw [gj 88 (by decide) (by decide) (by decide) (by decide)]
      exact sum ek so1 k7
    · rw [gj 89 (by decide) (by decide) (by decide) (by decide)]
      exact sum ek so2.1 k8
  · rw [g60]; exact b1
  · rw [g 72 t (by decide) (by decide) (by decide) (by decide), g 73 t (by decide) (by decide) (by decide) (by decide)]
    exact b2 t q hq
  · rw [g60]; exact c1
  · rw [g 68 j (by decide) (by decide) (by decide) (by decide), g 69 j (by decide) (by decide) (by decide) (by decide)]
    exact c2 j q hq
  · rw [g60, a1]
    show _ = (((clF 35 l).map _).length : Int)
    rw [List.length_map]
  · have hQ : ((clF 35 l).map (nQs sN T V K []))[k]? = some Q := hQ
    rw [List.getElem?_map] at hQ
    obtain ⟨N, g0, e⟩ := Option.map_eq_some_iff.mp hQ
    subst e
    rw [g 76 k (by decide) (by decide) (by decide) (by decide)]
    obtain ⟨q, hq, e9⟩ := List.mem_filterMap.mp (List.mem_of_getElem? g0)
    have e9 : q.2 = N := by
      split at e9
      · exact Option.some.inj e9
      · exact absurd e9 (by simp)
    obtain ⟨z1, z2⟩ := w3 q hq
    rw [e9] at z1 z2
    exact clm z1 z2 (a2 k N g0)
  · rw [g60, f1]
    show _ = (((clF 36 l).map _).length : Int)
    rw [List.length_map]
  · have hQ : ((clF 36 l).map (nQs sN T V K []))[k]? = some Q := hQ
    rw [List.getElem?_map] at hQ
    obtain ⟨N, g0, e⟩ := Option.map_eq_some_iff.mp hQ
    subst e
    rw [g 78 k (by decide) (by decide) (by decide) (by decide)]
    obtain ⟨q, hq, e9⟩ := List.mem_filterMap.mp (List.mem_of_getElem? g0)
    have e9 : q.2 = N := by
      split at e9
      · exact Option.some.inj e9
      · exact absurd e9 (by simp)
    obtain ⟨z1, z2⟩ := w3 q hq
    rw [e9] at z1 z2
    exact clm z1 z2 (f2 k N g0)
end KCK
end
section
/-! the class: sums are worked -/
section KWK
variable {G : kG} {q : kP} {d : Nat} {x x0 y z : gd} {F : Int32 → gd → Prop} {Fv : gd → Prop}
/-- what working a sum changes -/
def sWk (c k : Nat) : Prop := (c = 60 ∧ k = 5) ∨ c = 65
theorem CO_fm (h : CO x) (f : ∀ c k, (60 ≤ c ∧ c < 90 ∧ ¬ (c = 60 ∧ k = 5) ∧ c ≠ 65) → y.1 c k = x.1 c k) : CO y := by
  obtain ⟨h1, h2, h3, h4, h5⟩ := h
  have e60 : ∀ j, ¬ j = 5 → y.1 60 j = x.1 60 j := fun j hj => f _ _ (by omega)
  have es : ssm y = ssm x := by unfold ssm; rw [f 80 9 (by omega)]
  have ep : ∀ j, sop y j = sop x j := fun j => by unfold sop; rw [f 81 j (by omega)]
  have et : ∀ j, stg y j = stg x j := fun j => by unfold stg; rw [f 84 j (by omega)]
  refine ⟨?_, ?_, by omega, fun i hi => ⟨?_, ?_⟩, fun t ht => ?_⟩
  · rw [e60 6 (by omega), e60 9 (by omega), e60 10 (by omega), e60 13 (by omega), e60 14 (by omega), e60 16 (by omega)]; exact h1
  · rw [e60 3 (by omega)]
    refine ⟨h2.1, fun i hi c => ?_⟩
    rw [f 62 i (by omega)] at c
    rw [f 63 i (by omega)]; exact h2.2 i hi c
  · have := (h4 i (by omega)).1
    unfold CSa at this ⊢
    rw [ep, f 85 i (by omega), f 86 i (by omega), e60 6 (by omega), e60 9 (by omega), e60 10 (by omega)]; exact this
  · have := (h4 i (by omega)).2
    unfold CSb at this ⊢
    rw [ep, et, f 83 i (by omega), es, e60 13 (by omega), ep]; exact this
  · rw [e60 10 (by omega)] at ht
    rw [f 72 t (by omega), es]; exact h5 t ht
end KWK
end
section
/-! sums are worked: what comes of them -/
def biQ (k a b : Int32) : Option Int32 :=
  if k = 30 then some (if a = 0 then (if b = 0 then 0 else 1) else 1)
  else if k = 12 then some (if a = 0 then 0 else if b = 0 then 0 else 1)
  else if k = 51 then some (if a = b then 1 else 0)
  else if k = 52 then some (if a = b then 0 else 1)
  else if k = 53 then some (if b ≤ a then 0 else 1)
  else if k = 54 then some (if b < a then 0 else 1)
  else if k = 55 then some (if a ≤ b then 0 else 1)
  else if k = 56 then some (if a < b then 0 else 1)
  else if k = 57 then some (a + b)
  else if k = 58 then some (a - b)
  else if k = 59 then some (a * b)
  else if b = 0 then none
  else if k = 60 then some (a / b) else some (a - a / b * b)
def unQ (k a : Int32) : Int32 := if k = 29 then (if a = 0 then 1 else 0) else -a
/-- the values, the latest first; none: a division by 0 -/
def evQ (lv : Nat → Int32) (cv : Int32 → Int32) (me : Int32) : List gQ → List Int32 → Option (List Int32)
  | [], s => some s
  | q :: Q, s =>
    if q.1 = 1 then evQ lv cv me Q (q.2.2 :: s)
    else if q.1 = 2 then evQ lv cv me Q (lv q.2.1 :: s)
    else if q.1 = 3 then evQ lv cv me Q (me :: s)
    else if q.1 = 4 then evQ lv cv me Q (cv q.2.2 :: s)
    else if q.1 = 5 then evQ lv cv me Q (unQ q.2.2 (s.headD 0) :: s.tail)
    else match biQ q.2.2 (s.tail.headD 0) (s.headD 0) with
      | some r => evQ lv cv me Q (r :: s.tail.tail)
      | none => none
def wkQ (lv : Nat → Int32) (cv : Int32 → Int32) (me : Int32) (Q : List gQ) : Option Int32 := (evQ lv cv me Q []).map (fun s => s.headD 0)
/-- how high the values stand -/
def okQ : List gQ → Nat → Prop
  | [], h => h = 1
  | q :: Q, h => if q.1 = 5 then 1 ≤ h ∧ okQ Q h else if q.1 = 6 then 2 ≤ h ∧ okQ Q (h - 1) else h < 40 ∧ okQ Q (h + 1)
def qOk (q : gQ) : Prop := (1 ≤ q.1 ∧ q.1 ≤ 6) ∧ (q.1 = 5 → q.2.2 = 29 ∨ q.2.2 = 58) ∧ (q.1 = 6 → ¬ pst q.2.2 = 0)
/-- values stand in a row, the latest on top -/
def STK (a : Nat → Int32) : List Int32 → Prop
  | [] => True
  | v :: s => a s.length = v ∧ STK a s
section PWK
variable {lv : Nat → Int32} {cv : Int32 → Int32} {me : Int32} {Q : List gQ} {q : gQ} {s : List Int32} {a a' : Nat → Int32} {h : Nat} {sN : Nat → Nat → Bool} {T : gTd} {V K : Nat → Int32} {ks : gK} {N : gU}
theorem STK_eq : ∀ {s : List Int32}, (∀ i, i < s.length → a' i = a i) → STK a s → STK a' s := by
  intro s
  induction s with
  | nil => intro _ _; trivial
  | cons v s ih => intro e h; exact ⟨(e s.length (Nat.lt_succ_self _)).trans h.1, ih (fun i hi => e i (Nat.lt_succ_of_lt hi)) h.2⟩
theorem ev_1 (c : q.1 = 1) : evQ lv cv me (q :: Q) s = evQ lv cv me Q (q.2.2 :: s) := by rw [evQ, if_pos c]
theorem ev_2 (c : q.1 = 2) : evQ lv cv me (q :: Q) s = evQ lv cv me Q (lv q.2.1 :: s) := by rw [evQ, if_neg (by omega), if_pos c]
theorem ev_3 (c : q.1 = 3) : evQ lv cv me (q :: Q) s = evQ lv cv me Q (me :: s) := by rw [evQ, if_neg (by omega), if_neg (by omega), if_pos c]
theorem ev_4 (c : q.1 = 4) : evQ lv cv me (q :: Q) s = evQ lv cv me Q (cv q.2.2 :: s) := by rw [evQ, if_neg (by omega), if_neg (by omega), if_neg (by omega), if_pos c]
theorem ev_5 (c : q.1 = 5) {v : Int32} : evQ lv cv me (q :: Q) (v :: s) = evQ lv cv me Q (unQ q.2.2 v :: s) := by
  rw [evQ, if_neg (by omega), if_neg (by omega), if_neg (by omega), if_neg (by omega), if_pos c]; rfl
theorem ev_6 (c : q.1 = 6) {v u r : Int32} (hb : biQ q.2.2 u v = some r) : evQ lv cv me (q :: Q) (v :: u :: s) = evQ lv cv me Q (r :: s) := by
  rw [evQ, if_neg (by omega), if_neg (by omega), if_neg (by omega), if_neg (by omega), if_neg (by omega)]
  show (match biQ q.2.2 u v with | some r => evQ lv cv me Q (r :: s) | none => none) = _
  rw [hb]
theorem ev_6n (c : q.1 = 6) {v u : Int32} (hb : biQ q.2.2 u v = none) : evQ lv cv me (q :: Q) (v :: u :: s) = none := by
  rw [evQ, if_neg (by omega), if_neg (by omega), if_neg (by omega), if_neg (by omega), if_neg (by omega)]
  show (match biQ q.2.2 u v with | some r => evQ lv cv me Q (r :: s) | none => none) = _
  rw [hb]
theorem okQ_p (h1 : okQ (q :: Q) h) (c : 1 ≤ q.1 ∧ q.1 ≤ 4) : h < 40 ∧ okQ Q (h + 1) := by
  rw [okQ, if_neg (by omega), if_neg (by omega)] at h1
  exact h1
theorem okQ_5 (h1 : okQ (q :: Q) h) (c : q.1 = 5) : 1 ≤ h ∧ okQ Q h := by
  rw [okQ, if_pos c] at h1
  exact h1
theorem okQ_6 (h1 : okQ (q :: Q) h) (c : q.1 = 6) : 2 ≤ h ∧ okQ Q (h - 1) := by
  rw [okQ, if_neg (by omega), if_pos c] at h1
  exact h1
/-- the pieces of a text's sum -/
theorem nQ_ok {o : Bool} : ∀ {N : gU} {h : Nat}, sEv o N → okE N h → okQ (nQs sN T V K ks N) h := by
  intro N
  induction N with
  | nil => intro h _ g; exact g
  | cons v N ih =>
    intro h hs g
    have ih := fun h' g' => ih (h := h') (fun u hu => hs u (List.mem_cons_of_mem _ hu)) g'
    obtain ⟨k, i, j⟩ := v
    rw [okE] at g
    rcases hs _ List.mem_cons_self with e | e | e | e | ⟨-, e⟩ | ⟨-, e | e | e⟩
    · have e : k = 50 := e
      subst e
      rw [if_neg (show ¬ 50 = 7 by decide), if_pos rfl] at g
      show okQ ((5, 0, K i) :: nQs sN T V K ks N) h
      rw [okQ, if_pos rfl]
      exact ⟨g.1, ih _ g.2⟩
    · have e : k = 51 := e
      subst e
      rw [if_neg (show ¬ 51 = 7 by decide), if_neg (show ¬ 51 = 50 by decide), if_pos rfl] at g
      show okQ ((6, 0, K i) :: nQs sN T V K ks N) h
      rw [okQ, if_neg (show ¬ 6 = 5 by decide), if_pos rfl]
      exact ⟨g.1, ih _ g.2⟩
    · have e : k = 52 := e
      subst e
      rw [if_neg (show ¬ 52 = 7 by decide), if_neg (show ¬ 52 = 50 by decide), if_neg (show ¬ 52 = 51 by decide)] at g
      show okQ ((1, 0, V i) :: nQs sN T V K ks N) h
      rw [okQ, if_neg (show ¬ 1 = 5 by decide), if_neg (show ¬ 1 = 6 by decide)]
      exact ⟨g.1, ih _ g.2⟩
    · have e : k = 53 := e
      subst e
      rw [if_neg (show ¬ 53 = 7 by decide), if_neg (show ¬ 53 = 50 by decide), if_neg (show ¬ 53 = 51 by decide)] at g
      show okQ ((3, 0, 0) :: nQs sN T V K ks N) h
      rw [okQ, if_neg (show ¬ 3 = 5 by decide), if_neg (show ¬ 3 = 6 by decide)]
      exact ⟨g.1, ih _ g.2⟩
    · have e : k = 3 := e
      subst e
      rw [if_neg (show ¬ 3 = 7 by decide), if_neg (show ¬ 3 = 50 by decide), if_neg (show ¬ 3 = 51 by decide)] at g
      show okQ ((2, (kfi sN ks i).getD 0, 0) :: nQs sN T V K ks N) h
      rw [okQ, if_neg (show ¬ 2 = 5 by decide), if_neg (show ¬ 2 = 6 by decide)]
      exact ⟨g.1, ih _ g.2⟩
    · have e : k = 6 := e
      subst e
      rw [if_neg (show ¬ 6 = 7 by decide), if_neg (show ¬ 6 = 50 by decide), if_neg (show ¬ 6 = 51 by decide)] at g
      show okQ ((4, 0, Int32.ofNat (nmT sN 0 i T)) :: nQs sN T V K ks N) h
      rw [okQ, if_neg (show ¬ 4 = 5 by decide), if_neg (show ¬ 4 = 6 by decide)]
      exact ⟨g.1, ih _ g.2⟩
    · have e : k = 7 := e
      subst e
      rw [if_pos rfl] at g
      exact ih _ g
    · have e : k = 12 := e
      subst e
      rw [if_neg (show ¬ 12 = 7 by decide), if_neg (show ¬ 12 = 50 by decide), if_neg (show ¬ 12 = 51 by decide)] at g
      show okQ ((4, 0, Int32.ofNat (nmT sN 0 j T) + V i) :: nQs sN T V K ks N) h
      rw [okQ, if_neg (show ¬ 4 = 5 by decide), if_neg (show ¬ 4 = 6 by decide)]
      exact ⟨g.1, ih _ g.2⟩
/-- each of them: what it is; a local is known -/
theorem nQ_q {o : Bool} (hs : sEv o N) (hv : ∀ v ∈ N, sVv K v) (hk : ∀ v ∈ N, v.1 = 3 → ∃ p, kfi sN ks v.2.1 = some p) : ∀ q ∈ nQs sN T V K ks N, qOk q ∧ (q.1 = 2 → q.2.1 < ks.length) ∧ (o = false → ¬ q.1 = 4) := by
  intro q hq
  obtain ⟨v, hm, e⟩ := List.mem_filterMap.mp hq
  obtain ⟨h50, h51, -⟩ := hv v hm
  have h3 := hk v hm
  obtain ⟨k, i, j⟩ := v
  rcases hs _ hm with e9 | e9 | e9 | e9 | ⟨-, e9⟩ | ⟨ho, e9 | e9 | e9⟩
  · have e9 : k = 50 := e9
    subst e9
    cases Option.some.inj e
    exact ⟨⟨⟨Nat.le_of_ble_eq_true rfl, Nat.le_of_ble_eq_true rfl⟩, fun _ => h50 rfl, fun z => absurd z (show ¬ 5 = 6 by decide)⟩, fun z => absurd z (show ¬ 5 = 2 by decide), fun _ => show ¬ 5 = 4 by decide⟩
  · have e9 : k = 51 := e9
    subst e9
    cases Option.some.inj e
    exact ⟨⟨⟨Nat.le_of_ble_eq_true rfl, Nat.le_of_ble_eq_true rfl⟩, fun z => absurd z (show ¬ 6 = 5 by decide), fun _ => h51 rfl⟩, fun z => absurd z (show ¬ 6 = 2 by decide), fun _ => show ¬ 6 = 4 by decide⟩
  · have e9 : k = 52 := e9
    subst e9
    cases Option.some.inj e
    exact ⟨⟨⟨Nat.le_of_ble_eq_true rfl, Nat.le_of_ble_eq_true rfl⟩, fun z => absurd z (show ¬ 1 = 5 by decide), fun z => absurd z (show ¬ 1 = 6 by decide)⟩, fun z => absurd z (show ¬ 1 = 2 by decide), fun _ => show ¬ 1 = 4 by decide⟩
  · have e9 : k = 53 := e9
    subst e9
    cases Option.some.inj e
    exact ⟨⟨⟨Nat.le_of_ble_eq_true rfl, Nat.le_of_ble_eq_true rfl⟩, fun z => absurd z (show ¬ 3 = 5 by decide), fun z => absurd z (show ¬ 3 = 6 by decide)⟩, fun z => absurd z (show ¬ 3 = 2 by decide), fun _ => show ¬ 3 = 4 by decide⟩
  · have e9 : k = 3 := e9
    subst e9
    cases Option.some.inj e
    refine ⟨⟨⟨Nat.le_of_ble_eq_true rfl, Nat.le_of_ble_eq_true rfl⟩, fun z => absurd z (show ¬ 2 = 5 by decide), fun z => absurd z (show ¬ 2 = 6 by decide)⟩, fun _ => ?_, fun _ => show ¬ 2 = 4 by decide⟩
    obtain ⟨p, hp⟩ := h3 rfl
    have hp : kfi sN ks i = some p := hp
    show (kfi sN ks i).getD 0 < ks.length
    rw [hp]
    exact kfi_lt hp
  · have e9 : k = 6 := e9
    subst e9
    cases Option.some.inj e
    exact ⟨⟨⟨Nat.le_of_ble_eq_true rfl, Nat.le_of_ble_eq_true rfl⟩, fun z => absurd z (show ¬ 4 = 5 by decide), fun z => absurd z (show ¬ 4 = 6 by decide)⟩, fun z => absurd z (show ¬ 4 = 2 by decide), fun z => absurd (ho.symm.trans z) (by decide)⟩
  · have e9 : k = 7 := e9
    subst e9
    cases e
  · have e9 : k = 12 := e9
    subst e9
    cases Option.some.inj e
    exact ⟨⟨⟨Nat.le_of_ble_eq_true rfl, Nat.le_of_ble_eq_true rfl⟩, fun z => absurd z (show ¬ 4 = 5 by decide), fun z => absurd z (show ¬ 4 = 6 by decide)⟩, fun z => absurd z (show ¬ 4 = 2 by decide), fun z => absurd (ho.symm.trans z) (by decide)⟩
end PWK
end
section
/-! the code in numbers: what it is like -/
def aftN (st : gNs) : List Nat := if (st.1 = 0 ∨ (2 ≤ st.1 ∧ st.1 ≤ 4) ∨ st.1 = 16) ∧ st.2.2.2.1 = some st.2.1.length then st.2.2.1 :: st.2.1 else st.2.1
def sQo (sl : List Nat) (o : Option (List gQ)) : Prop := ∀ Q, o = some Q → okQ Q 0 ∧ ∀ q ∈ Q, qOk q ∧ (q.1 = 2 → q.2.1 < sl.length) ∧ ¬ q.1 = 4
def NS (S : List gNs) (j : Nat) (st : gNs) : Prop :=
  (st.1 < 22 ∧ ¬ st.1 = 15) ∧
  (¬ (st.1 = 20 ∨ st.1 = 21) → ∃ st', S[j + 1]? = some st' ∧ st'.2.1 <:+ aftN st) ∧
  (st.1 = 17 ∨ st.1 = 20 → ∃ n st', st.2.2.2.1 = some n ∧ S[n]? = some st' ∧ st'.2.1 <:+ st.2.1) ∧
  ((st.1 = 0 ∨ (2 ≤ st.1 ∧ st.1 ≤ 4) ∨ st.1 = 16) → ∃ p, st.2.2.2.1 = some p ∧ (p < st.2.1.length ∨ (p = st.2.1.length ∧ st.2.2.1 < 8))) ∧
  (st.2.1.Pairwise (fun a b => b < a) ∧ (∀ s ∈ st.2.1, s < st.2.2.1) ∧ st.2.2.1 ≤ 8) ∧
  ((1 ≤ st.1 ∧ st.1 ≤ 4) ∨ st.1 = 13 ∨ st.1 = 14 ∨ (16 ≤ st.1 ∧ st.1 ≤ 18) → ∃ Q, st.2.2.2.2.2.2.2.2.1 = some Q) ∧
  (st.1 = 4 → ∃ Q, st.2.2.2.2.2.2.2.2.2 = some Q) ∧
  sQo st.2.1 st.2.2.2.2.2.2.2.1 ∧ sQo st.2.1 st.2.2.2.2.2.2.2.2.1 ∧ sQo st.2.1 st.2.2.2.2.2.2.2.2.2 ∧ (19 ≤ st.1 → st.2.2.2.2.2.2.2.2.1 = none)
def NC (C : gCo) : Prop := (∀ j st, C.1[j]? = some st → NS C.1 j st) ∧ (∀ q ∈ C.2.1, (∃ st, C.1[q.1]? = some st ∧ st.2.1 = []) ∧ q.2 ≤ 1) ∧ ∀ Q, Q ∈ C.2.2.2.1 ∨ Q ∈ C.2.2.2.2 → okQ Q 0 ∧ ∀ q ∈ Q, qOk q ∧ ¬ q.1 = 2
section CNW
variable {sN : Nat → Nat → Bool} {T : gTd} {V K : Nat → Int32} {L : gU} {st : gSt} {P : Nat × Nat × Nat → Prop} {E : gV}
theorem slK_len {ks : gK} : (slK ks).length = ks.length := List.length_map _
theorem aft_N : aftN (nStp sN T V K st) = aft st := by
  show (if (st.1 = 0 ∨ (2 ≤ st.1 ∧ st.1 ≤ 4) ∨ st.1 = 16) ∧ st.2.2.2.1 = some (slK st.2.2.1.1).length then st.2.2.1.2 :: slK st.2.2.1.1 else slK st.2.2.1.1) = aft st
  rw [slK_len]
  rfl
theorem sQo_of {ks : gK} {o : Option gU} (ek : ks = E.1) (h : sOo sN K E o) : sQo (slK ks) (o.map (nQs sN T V K ks)) := fun Q hQ => by
  obtain ⟨N, g0, e⟩ := Option.map_eq_some_iff.mp hQ
  subst e
  obtain ⟨q1, q2, q3, q4⟩ := h N g0
  refine ⟨nQ_ok q1 q3, fun q hq => ?_⟩
  obtain ⟨a, b, c⟩ := nQ_q q1 q2 (fun v hv h3 => by rw [ek]; exact q4 v hv h3) q hq
  exact ⟨a, fun z => by rw [slK_len]; exact b z, c rfl⟩
theorem NC_of (h : WC sN K P (cds sN K L cd0)) : NC (codN sN V K L) := by
  obtain ⟨E, S, r, b, l, ec, -, -, w1, w2, w3⟩ := h
  have e1 : (cds sN K L cd0).2.1 = S := by rw [ec]
  have e2 : (cds sN K L cd0).2.2.2.2.1 = b := by rw [ec]
  have e3 : (cds sN K L cd0).2.2.2.2.2 = l := by rw [ec]
  unfold codN
  rw [e1, e2, e3]
  generalize L.filterMap (te1 K V) = T
  have at' : ∀ {j : Nat} {s : gSt}, S[j]? = some s → (S.map (nStp sN T V K))[j]? = some (nStp sN T V K s) := fun {j s} hj => by rw [List.getElem?_map, hj]; rfl
  have cl : ∀ {u : Nat} {Q : List gQ}, Q ∈ (clF u l).map (nQs sN T V K []) → okQ Q 0 ∧ ∀ q ∈ Q, qOk q ∧ ¬ q.1 = 2 := fun {u Q} hQ => by
    obtain ⟨N, hN, e⟩ := List.mem_map.mp hQ
    subst e
    obtain ⟨q, hq, e9⟩ := List.mem_filterMap.mp hN
    have e9 : q.2 = N := by
      split at e9
      · exact Option.some.inj e9
      · exact absurd e9 (by simp)
    obtain ⟨⟨z1, z2, z3, -⟩, -⟩ := w3 q hq
    rw [e9] at z1 z2 z3
    refine ⟨nQ_ok z1 z3, fun q hq => ?_⟩
    obtain ⟨a, b, -⟩ := nQ_q z1 z2 (fun v hv h3 => by
      rcases z1 v hv with e | e | e | e | ⟨e, -⟩ | ⟨-, e | e | e⟩
      · omega
      · omega
      · omega
      · omega
      · cases e
      · omega
      · omega
      · omega) q hq
    exact ⟨a, fun z => absurd (b z) (Nat.not_lt_zero _)⟩
  refine ⟨fun j st hj => ?_, fun q hq => ?_, fun Q hQ => hQ.elim (fun z => cl z) (fun z => cl z)⟩
  · have hj : (S.map (nStp sN T V K))[j]? = some st := hj
    rw [List.getElem?_map] at hj
    obtain ⟨s0, g0, e⟩ := Option.map_eq_some_iff.mp hj
    subst e
    obtain ⟨⟨f1, f2⟩, E0, ⟨q1, q2, q3, q4, q5, q5', q6, q7, q8, q9, so0, so1, so2⟩, ge⟩ := w1 j s0 g0
    have ek : s0.2.2.1.1 = E0.1 := by rw [q1]
    have en : s0.2.2.1.2 = E0.2.2 := by rw [q1]
    refine ⟨q2, fun c => ?_, fun c => ?_, fun c => ?_, ?_, fun c => ?_, fun c => ?_, sQo_of ek so0, sQo_of ek so1, sQo_of ek so2.1, fun c => by show s0.2.2.2.2.2.2.2.1.map _ = none; rw [so2.2.1 c]; rfl⟩
    · obtain ⟨s', a1, a2⟩ := f1 c
      exact ⟨_, at' a1, by rw [aft_N]; exact a2⟩
    · obtain ⟨n, s', a0, a1, a2⟩ := f2 c
      exact ⟨n, _, a0, at' a1, a2⟩
    · obtain ⟨p, a1, a2⟩ := q3 c
      refine ⟨p, a1, ?_⟩
      show p < (slK s0.2.2.1.1).length ∨ (p = (slK s0.2.2.1.1).length ∧ s0.2.2.1.2 < 8)
      rw [slK_len, ek, en]
      exact a2
    · show (slK s0.2.2.1.1).Pairwise _ ∧ (∀ s ∈ slK s0.2.2.1.1, s < s0.2.2.1.2) ∧ s0.2.2.1.2 ≤ 8
      rw [ek, en]
      exact ge
    · have := q8 c
      cases h9 : s0.2.2.2.2.2.2.2.1 with
      | none => exact absurd h9 this
      | some N => exact ⟨_, by show s0.2.2.2.2.2.2.2.1.map _ = _; rw [h9]; rfl⟩
    · have := q9 c
      cases h9 : s0.2.2.2.2.2.2.2.2 with
      | none => exact absurd h9 this
      | some N => exact ⟨_, by show s0.2.2.2.2.2.2.2.2.map _ = _; rw [h9]; rfl⟩
  · obtain ⟨⟨s, s1, s2⟩, a⟩ := w2 q hq
    exact ⟨⟨_, at' s1, by show slK s.2.2.1.1 = []; rw [s2]; rfl⟩, a⟩
/-- what belongs where -/
def NX2 (C : gCo) : Prop := ∀ (j : Nat) (st : gNs), C.1[j]? = some st → (¬ st.2.2.2.2.2.2.2.1 = none → st.1 ≤ 4) ∧ (¬ st.2.2.2.2.2.2.2.2.2 = none → st.1 = 4) ∧ (¬ st.2.2.2.2.2.2.2.2.1 = none → (1 ≤ st.1 ∧ st.1 ≤ 4) ∨ st.1 = 13 ∨ st.1 = 14 ∨ (16 ≤ st.1 ∧ st.1 ≤ 18)) ∧ (st.1 = 8 → st.2.2.2.2.2.1 = if st.2.2.2.2.2.2.1 = true then 1 else 0) ∧ (¬ (st.1 = 0 ∨ (2 ≤ st.1 ∧ st.1 ≤ 4) ∨ st.1 = 16 ∨ st.1 = 17 ∨ st.1 = 20) → st.2.2.2.1 = none)
theorem NX2_of (h : WC sN K P (cds sN K L cd0)) : NX2 (codN sN V K L) := by
  obtain ⟨E, S, r, b, l, ec, -, -, w1, w2, w3⟩ := h
  have e1 : (cds sN K L cd0).2.1 = S := by rw [ec]
  intro j st hj
  unfold codN at hj
  rw [e1] at hj
  generalize L.filterMap (te1 K V) = T at hj
  have hj : (S.map (nStp sN T V K))[j]? = some st := hj
  rw [List.getElem?_map] at hj
  obtain ⟨s0, g0, e⟩ := Option.map_eq_some_iff.mp hj
  subst e
  obtain ⟨-, E0, ⟨q1, q2, q3, q4, q5, q5', q6, q7, q8, q9, so0, so1, so2, q10, n1, n2, n3⟩, -⟩ := w1 j s0 g0
  refine ⟨fun c => ?_, fun c => ?_, fun c => ?_, fun c => ?_, n3⟩
  · rcases Nat.lt_or_ge 4 s0.1 with c5 | c5
    · exact absurd (show s0.2.2.2.2.2.2.1.map _ = none by rw [q7 c5]; rfl) c
    · exact c5
  · rcases Decidable.em (s0.1 = 4) with c5 | c5
    · exact c5
    · exact absurd (show s0.2.2.2.2.2.2.2.2.map _ = none by rw [n1 c5]; rfl) c
  · rcases Decidable.em ((1 ≤ s0.1 ∧ s0.1 ≤ 4) ∨ s0.1 = 13 ∨ s0.1 = 14 ∨ (16 ≤ s0.1 ∧ s0.1 ≤ 18)) with c5 | c5
    · exact c5
    · exact absurd (show s0.2.2.2.2.2.2.2.1.map _ = none by rw [n2 c5]; rfl) c
  · have c : s0.1 = 8 := c
    show mSz sN T s0 = if s0.2.2.2.2.2.1 = true then 1 else 0
    unfold mSz
    rw [if_neg (show ¬ s0.1 ≤ 4 by omega)]
end CNW
end
section
/-! a thread's own steps; how a run begins -/
/-- what becomes of a thread: 1 at an act, 2 ended, 3 failed; its number, its step, its locals -/
abbrev gTr := Nat × Nat × Nat × (Nat → Int32)
def fup (lv : Nat → Int32) (p : Nat) (v : Int32) : Nat → Int32 := fun j => if j = p then v else lv j
/-- one step: it is over, or goes on -/
def ow1 (me : Int32) (s : Nat) (st : gNs) (lv : Nat → Int32) : gTr ⊕ (Nat × (Nat → Int32)) :=
  if st.1 = 19 ∨ st.1 = 21 then .inl (2, 0, 0, lv)
  else if st.1 = 20 then .inr (st.2.2.2.1.getD 0, lv)
  else match wkQ lv (fun _ => 0) me (st.2.2.2.2.2.2.2.2.1.getD []) with
    | none => .inl (3, 1, s, lv)
    | some v => if st.1 = 18 ∧ v = 0 then .inl (3, 5, s, lv) else .inr (if st.1 = 17 ∧ v = 0 then st.2.2.2.1.getD 0 else s + 1, if st.1 = 16 then fup lv (st.2.2.2.1.getD 0) v else lv)
def setP (C : gCo) (me : Int32) : Nat → Nat → Nat → (Nat → Int32) → Option gTr
  | 0, _, _, _ => none
  | n + 1, own, s, lv => match C.1[s]? with
    | none => none
    | some st => if st.1 < 16 then some (1, 0, s, lv)
      else if st.1 < 20 ∧ 300 ≤ own then some (3, 6, s, lv)
      else match ow1 me s st lv with
        | .inl r => some r
        | .inr z => setP C me n (if st.1 < 20 then own + 1 else own) z.1 z.2
section POW
variable {C : gCo} {me : Int32} {n m own s : Nat} {lv : Nat → Int32} {st : gNs} {r r' : gTr}
theorem set_act (h : C.1[s]? = some st) (c : st.1 < 16) : setP C me (n + 1) own s lv = some (1, 0, s, lv) := by
  rw [setP]
  simp only [h]
  rw [if_pos c]
theorem set_6 (h : C.1[s]? = some st) (c : ¬ st.1 < 16) (c2 : st.1 < 20 ∧ 300 ≤ own) : setP C me (n + 1) own s lv = some (3, 6, s, lv) := by
  rw [setP]
  simp only [h]
  rw [if_neg c, if_pos c2]
theorem set_l (h : C.1[s]? = some st) (c : ¬ st.1 < 16) (c2 : ¬ (st.1 < 20 ∧ 300 ≤ own)) (e : ow1 me s st lv = .inl r) : setP C me (n + 1) own s lv = some r := by
  rw [setP]
  simp only [h]
  rw [if_neg c, if_neg c2, e]
theorem set_r {z : Nat × (Nat → Int32)} (h : C.1[s]? = some st) (c : ¬ st.1 < 16) (c2 : ¬ (st.1 < 20 ∧ 300 ≤ own)) (e : ow1 me s st lv = .inr z) : setP C me (n + 1) own s lv = setP C me n (if st.1 < 20 then own + 1 else own) z.1 z.2 := by
  rw [setP]
  simp only [h]
  rw [if_neg c, if_neg c2, e]
theorem set_up : ∀ {n m own s : Nat} {lv : Nat → Int32}, setP C me n own s lv = some r → n ≤ m → setP C me m own s lv = some r := by
  intro n
  induction n with
  | zero => intro m own s lv h; exact absurd h (by simp [setP])
  | succ n ih =>
    intro m own s lv h hm
    obtain ⟨m, rfl⟩ : ∃ k, m = k + 1 := ⟨m - 1, by omega⟩
    cases hs : C.1[s]? with
    | none =>
      rw [setP] at h
      simp only [hs] at h
      exact absurd h (by simp)
    | some st =>
      by_cases c : st.1 < 16
      · rw [set_act hs c] at h ⊢; exact h
      · by_cases c2 : st.1 < 20 ∧ 300 ≤ own
        · rw [set_6 hs c c2] at h ⊢; exact h
        · cases e : ow1 me s st lv with
          | inl r9 => rw [set_l hs c c2 e] at h ⊢; exact h
          | inr z =>
            rw [set_r hs c c2 e] at h ⊢
            exact ih h (by omega)
theorem set_det (h : setP C me n own s lv = some r) (g : setP C me m own s lv = some r') : r = r' := by
  have a := set_up (m := n + m) h (by omega)
  have b := set_up (m := n + m) g (by omega)
  exact Option.some.inj (a.symm.trans b)
end POW
section PCH
variable {C : gCo} {f g : Nat → gTr} {n : Nat}
end PCH
end
section
/-! the class: what comes of a sum -/
section KWF
variable {G : kG} {q : kP} {d : Nat} {x y z : gd} {F : Int32 → gd → Prop}
theorem pst_in {k : Int32} (h : ¬ pst k = 0) : k ∈ [(30 : Int32), 12, 51, 52, 53, 54, 55, 56, 57, 58, 59, 60, 28] := by
  apply Classical.byContradiction
  intro c
  exact h (pst_c (fun w hw e => c (by rw [e]; exact hw)))
theorem kf_operate (hq : kV q) {k : Int32} (hk : ¬ pst k = 0) (a b : Int32) (h : ∀ r y, (biQ k a b = some r ∧ y = x) ∨ (biQ k a b = none ∧ y = si x 60 5 1) → F r y) : KT G q d zk_X0_operate 0 [(0, vr 60), (1, vi (kcv k)), (2, vi a), (3, vi b)] [] x (ri F) := by
  have hm := pst_in hk
  have g : ∀ r, biQ k a b = some r → ri F (some (vi r)) x := fun r e => ri_i (h r x (Or.inl ⟨e, rfl⟩))
  have i1 : ∀ w ∈ [(30 : Int32), 12, 51, 52, 53, 54, 55, 56, 57, 58, 59, 60, 28], (kcv w = 60 → w = 30) ∧ (kcv w = 42 → w = 12) ∧ (kcv w = 11 → w = 51) ∧ (kcv w = 12 → w = 52) ∧ (kcv w = 13 → w = 53) ∧ (kcv w = 14 → w = 54) ∧ (kcv w = 15 → w = 55) ∧ (kcv w = 16 → w = 56) ∧ (kcv w = 17 → w = 57) ∧ (kcv w = 18 → w = 58) ∧ (kcv w = 19 → w = 59) ∧ (kcv w = 20 → w = 60) := by decide
  have i2 : ∀ w ∈ [(30 : Int32), 12, 51, 52, 53, 54, 55, 56, 57, 58, 59, 60, 28], (∀ u ∈ [(60 : Int32), (42 : Int32), (11 : Int32), (12 : Int32), (13 : Int32), (14 : Int32), (15 : Int32), (16 : Int32), (17 : Int32), (18 : Int32), (19 : Int32)], ¬ kcv w = u) → w = 60 ∨ w = 28 := by decide
  have i3 : kcv 60 = 20 := by decide
  obtain ⟨j1, j2, j3, j4, j5, j6, j7, j8, j9, j10, j11, j12⟩ := i1 k hm
  refine kg_X0_operate_0 hq _ _ _ ⟨fun c => ?_, fun c => ?_, fun c => ?_, fun c => ?_, fun c => ?_, fun c => ?_, fun c => ?_, fun c => ?_, fun c => ?_, fun c => ?_, fun c => ?_, fun c => ?_⟩
  · have e := j1 c
    subst e
    exact ⟨fun n => g 1 (by show some (if a = 0 then _ else (1 : Int32)) = _; rw [if_neg n]), fun z => ⟨fun z2 => g 0 (by show some (if a = 0 then (if b = 0 then (0 : Int32) else 1) else 1) = _; rw [if_pos z, if_pos z2]), fun n2 => g 1 (by show some (if a = 0 then (if b = 0 then (0 : Int32) else 1) else 1) = _; rw [if_pos z, if_neg n2])⟩⟩
  · have e := j2 c
    subst e
    exact ⟨fun z => g 0 (by show some (if a = 0 then (0 : Int32) else if b = 0 then 0 else 1) = _; rw [if_pos z]), fun n => ⟨fun z2 => g 0 (by show some (if a = 0 then (0 : Int32) else if b = 0 then 0 else 1) = _; rw [if_neg n, if_pos z2]), fun n2 => g 1 (by show some (if a = 0 then (0 : Int32) else if b = 0 then 0 else 1) = _; rw [if_neg n, if_neg n2])⟩⟩
  · have e := j3 c
    subst e
    exact ⟨fun n => g 0 (by show some (if a = b then (1 : Int32) else 0) = _; rw [if_neg n]), fun z => g 1 (by show some (if a = b then (1 : Int32) else 0) = _; rw [if_pos z])⟩
  · have e := j4 c
    subst e
    exact ⟨fun z => g 0 (by show some (if a = b then (0 : Int32) else 1) = _; rw [if_pos z]), fun n => g 1 (by show some (if a = b then (0 : Int32) else 1) = _; rw [if_neg n])⟩
  · have e := j5 c
    subst e
    exact ⟨fun z => g 0 (by show some (if b ≤ a then (0 : Int32) else 1) = _; rw [if_pos z]), fun n => g 1 (by show some (if b ≤ a then (0 : Int32) else 1) = _; rw [if_neg n])⟩
  · have e := j6 c
    subst e
    exact ⟨fun z => g 0 (by show some (if b < a then (0 : Int32) else 1) = _; rw [if_pos z]), fun n => g 1 (by show some (if b < a then (0 : Int32) else 1) = _; rw [if_neg n])⟩
  · have e := j7 c
    subst e
    exact ⟨fun z => g 0 (by show some (if a ≤ b then (0 : Int32) else 1) = _; rw [if_pos z]), fun n => g 1 (by show some (if a ≤ b then (0 : Int32) else 1) = _; rw [if_neg n])⟩
  · have e := j8 c
    subst e
    exact ⟨fun z => g 0 (by show some (if a < b then (0 : Int32) else 1) = _; rw [if_pos z]), fun n => g 1 (by show some (if a < b then (0 : Int32) else 1) = _; rw [if_neg n])⟩
  · have e := j9 c
    subst e
    exact g _ rfl
  · have e := j10 c
    subst e
    exact g _ rfl
  · have e := j11 c
    subst e
    exact g _ rfl
  · rcases i2 k hm c with e | e
    · subst e
      refine ⟨fun n => ⟨fun n20 => absurd i3 n20, fun _ => ⟨n, g _ ?_⟩⟩, fun z y ey => ri_i (h _ y (Or.inr ⟨?_, ey⟩))⟩
      · show (if b = 0 then none else some (a / b)) = _
        rw [if_neg n]
      · show (if b = 0 then none else some (a / b)) = _
        rw [if_pos z]
    · subst e
      refine ⟨fun n => ⟨fun _ => ⟨n, g _ ?_⟩, fun z20 => absurd z20 (by decide)⟩, fun z y ey => ri_i (h _ y (Or.inr ⟨?_, ey⟩))⟩
      · show (if b = 0 then none else some (a - a / b * b)) = _
        rw [if_neg n]
      · show (if b = 0 then none else some (a - a / b * b)) = _
        rw [if_pos z]
theorem cQ_n0 {q : gQ} (h : qOk q) : ¬ (cQ q).1 = 0 ∧ (q.1 = 6 → ¬ (cQ q).1 = 1 ∧ ¬ (cQ q).1 = 2 ∧ ¬ (cQ q).1 = 3 ∧ ¬ (cQ q).1 = 4 ∧ ¬ (cQ q).1 = 5) := by
  obtain ⟨k, p, a⟩ := q
  obtain ⟨h1, -, h6⟩ := h
  have h1 : 1 ≤ k ∧ k ≤ 6 := h1
  have cs : k = 1 ∨ k = 2 ∨ k = 3 ∨ k = 4 ∨ k = 5 ∨ k = 6 := by omega
  rcases cs with e | e | e | e | e | e <;> subst e
  · exact ⟨show ¬ (1 : Int32) = 0 by decide, fun z => absurd z (show ¬ 1 = 6 by decide)⟩
  · exact ⟨show ¬ (2 : Int32) = 0 by decide, fun z => absurd z (show ¬ 2 = 6 by decide)⟩
  · exact ⟨show ¬ (3 : Int32) = 0 by decide, fun z => absurd z (show ¬ 3 = 6 by decide)⟩
  · exact ⟨show ¬ (2 : Int32) = 0 by decide, fun z => absurd z (show ¬ 4 = 6 by decide)⟩
  · refine ⟨?_, fun z => absurd z (show ¬ 5 = 6 by decide)⟩
    show ¬ (if a = 29 then (5 : Int32) else 4) = 0
    split <;> decide
  · have key : ∀ w ∈ [(30 : Int32), 12, 51, 52, 53, 54, 55, 56, 57, 58, 59, 60, 28], ¬ kcv w = 0 ∧ ¬ kcv w = 1 ∧ ¬ kcv w = 2 ∧ ¬ kcv w = 3 ∧ ¬ kcv w = 4 ∧ ¬ kcv w = 5 := by decide
    have r := key a (pst_in (h6 rfl))
    exact ⟨r.1, fun _ => r.2⟩
/-- what of the row that it looks at a sum takes -/
def qVl (a : Nat → Int32) (n : Nat) (b : Int32) (lv : Nat → Int32) (cv : Int32 → Int32) (q : gQ) : Prop := (q.1 = 2 → vp_in (b + Int32.ofNat q.2.1) n ∧ a (b + Int32.ofNat q.2.1).toNatClampNeg = lv q.2.1) ∧ (q.1 = 4 → vp_in (b + q.2.2) n ∧ a (b + q.2.2).toNatClampNeg = cv q.2.2)
def wkR (x y : gd) (w : Option Int32) (r : Int32) : Prop := (∃ v, w = some v ∧ r = v ∧ y.1 60 5 = 0) ∨ (w = none ∧ y.1 60 5 = 1)
theorem kf_work (hq : kV q) {a2 n2 : Nat} (ka : kK a2 = .inr (.int, n2)) (ma : a2 ∈ (kf q).2.1) (ha : ¬ a2 = 60 ∧ ¬ a2 = 65) (s b t : Int32) {Q : List gQ} {lv : Nat → Int32} {cv : Int32 → Int32} (h8 : (x.1 60 3).toInt ≤ 800) (hS : SUk x s (Q.map cQ)) (ok : okQ Q 0) (hQ : ∀ p ∈ Q, qOk p ∧ qVl (x.1 a2) n2 b lv cv p) (h : ∀ r y, fm sWk x y → wkR x y (wkQ lv cv t Q) r → F r y) : KT G q (d + 1) zk_X0_work 0 [(0, vr 60), (1, vi s), (2, vr a2), (3, vi b), (4, vi t)] [] x (ri F) := by
  have k40 : (40 : Int32).toInt = 40 := rfl
  have k1 : (1 : Int32).toInt = 1 := rfl
  have k2 : (2 : Int32).toInt = 2 := rfl
  have k0 : (0 : Int32).toInt = 0 := rfl
  have c0 : (0 : Int32).toNatClampNeg = 0 := rfl
  have v0 : vp_in 0 40 := by rw [vp_in_iff]; decide
  obtain ⟨s0, s1, s2, s3⟩ := hS
  rw [List.length_map] at s1 s3
  have us := t_cl s
  have loop : ∀ (Q1 : List gQ) (m : Nat) (st : List Int32) (p i : Int32) (y : gd), (∀ j q, Q1[j]? = some q → Q[m + j]? = some q) → m + Q1.length = Q.length → okQ Q1 st.length → fm sWk x y → p.toInt = st.length → st.length ≤ 40 → i.toInt = s.toInt + m → y.1 60 5 = 0 → STK (y.1 65) st → evQ lv cv t Q1 st = evQ lv cv t Q [] → KT G q (d + 1) zk_X0_work 11 [(0, vr 60), (2, vr a2), (3, vi b), (4, vi t), (5, vi p), (6, vi i)] [] y (ri F) := by
    intro Q1
    induction Q1 with
    | nil =>
      intro m st p i y hsub hm hok fy ep l40 ei y5 hst hev
      have hok : st.length = 1 := hok
      have hm : m = Q.length := hm
      have eN : i.toNatClampNeg = s.toNatClampNeg + Q.length := by rw [t_cl]; omega
      have yz : y.1 62 i.toNatClampNeg = 0 := by rw [fy 62 _ (by unfold sWk; omega), eN]; exact s3
      have vi9 : vp_in i 800 := by rw [vp_in_iff]; omega
      have out : ri F (some (vi (y.1 65 (0 : Int32).toNatClampNeg))) y := by
        refine ri_i (h _ y fy (Or.inl ⟨_, ?_, rfl, y5⟩))
        unfold wkQ
        rw [← hev]
        cases st with
        | nil => exact absurd hok (by show ¬ 0 = 1; decide)
        | cons v st =>
          have e0 : st.length = 0 := by have : st.length + 1 = 1 := hok; omega
          have := hst.1
          rw [e0] at this
          rw [c0, this]
          rfl
      refine kg_X0_work_11 hq ka ma _ _ _ _ ⟨fun _ => ⟨v0, out⟩, fun c => ⟨fun _ => ⟨v0, out⟩, fun c2 => ⟨fun n5 => absurd y5 n5, fun _ => ⟨vi9, fun _ => ⟨v0, out⟩, fun n => absurd yz n⟩⟩⟩⟩
    | cons e Q1 ih =>
      intro m st p i y hsub hm hok fy ep l40 ei y5 hst hev
      have hm : m + (Q1.length + 1) = Q.length := hm
      have eN : i.toNatClampNeg = s.toNatClampNeg + m := by rw [t_cl]; omega
      have at0 : Q[m]? = some e := hsub 0 e rfl
      obtain ⟨qo, qv⟩ := hQ e (List.mem_of_getElem? at0)
      obtain ⟨p62, p63⟩ := s2 m (cQ e) (by rw [List.getElem?_map, at0]; rfl)
      have y62 : y.1 62 i.toNatClampNeg = (cQ e).1 := by rw [fy 62 _ (by unfold sWk; omega), eN]; exact p62
      have y63 : y.1 63 i.toNatClampNeg = (cQ e).2 := by rw [fy 63 _ (by unfold sWk; omega), eN]; exact p63
      have ya : y.1 a2 = x.1 a2 := by funext k; exact fy a2 k (by unfold sWk; omega)
      have vi9 : vp_in i 800 := by rw [vp_in_iff]; omega
      have i1 : (i + 1).toInt = s.toInt + ((m + 1 : Nat) : Int) := by rw [t_add (by rw [k1]; omega) (by rw [k1]; omega), k1, ei]; push_cast; omega
      have next : ∀ (st2 : List Int32) (p2 : Int32) (z : gd), okQ Q1 st2.length → fm sWk x z → p2.toInt = st2.length → st2.length ≤ 40 → z.1 60 5 = 0 → STK (z.1 65) st2 → evQ lv cv t Q1 st2 = evQ lv cv t Q [] → KT G q (d + 1) zk_X0_work 11 [(0, vr 60), (2, vr a2), (3, vi b), (4, vi t), (5, vi p2), (6, vi (i + 1))] [] z (ri F) := fun st2 p2 z a1 a2' a3 a4 a5 a6 a7 => ih (m + 1) st2 p2 (i + 1) z (fun j q hj => by rw [Nat.add_assoc, Nat.add_comm 1 j]; exact hsub (j + 1) q hj) (by omega) a1 a2' a3 a4 i1 a5 a6 a7
      have up := t_cl p
      -- a value is pushed
      have push : ∀ v : Int32, (1 ≤ e.1 ∧ e.1 ≤ 4) → evQ lv cv t (e :: Q1) st = evQ lv cv t Q1 (v :: st) → st.length < 40 → vp_in p 40 ∧ ∀ z, z = si y 65 p.toNatClampNeg v → KT G q (d + 1) zk_X0_work 11 [(0, vr 60), (2, vr a2), (3, vi b), (4, vi t), (5, vi (p + 1)), (6, vi (i + 1))] [] z (ri F) := fun v c14 hv lt => by
        refine ⟨by rw [vp_in_iff]; omega, fun z ez => next (v :: st) (p + 1) z (okQ_p hok c14).2 (by rw [ez]; exact fm_si fy (Or.inr rfl)) ?_ (by show st.length + 1 ≤ 40; omega) (by rw [ez, si_cell (by decide)]; exact y5) ⟨?_, STK_eq (fun j hj => ?_) hst⟩ (by rw [← hv]; exact hev)⟩
        · rw [t_add (by rw [k1]; omega) (by rw [k1]; omega), k1, ep]; rfl
        · rw [ez, si_get, if_pos ⟨rfl, by omega⟩]
        · rw [ez, si_get, if_neg (by omega)]
      obtain ⟨c62, c6⟩ := cQ_n0 qo
      have cs : e.1 = 1 ∨ e.1 = 2 ∨ e.1 = 3 ∨ e.1 = 4 ∨ e.1 = 5 ∨ e.1 = 6 := by have := qo.1; omega
      have p69 : (1 ≤ e.1 ∧ e.1 ≤ 4) → KT G q (d + 1) zk_X0_work 69 [(0, vr 60), (2, vr a2), (3, vi b), (4, vi t), (5, vi p), (6, vi i), (7, vi (cQ e).1)] [] y (ri F) := by
        intro c14
        have lt := (okQ_p hok c14).1
        refine kg_X0_work_69 hq ka ma _ _ _ _ _ ⟨fun c => ?_, fun _ => ?_⟩
        · exfalso; rw [t_le, k40] at c; omega
        rcases cs with c | c | c | c | c | c
        · have e1 : cQ e = (1, e.2.2) := if_pos c
          have := push e.2.2 c14 (ev_1 c) lt
          rw [y63, e1]
          exact ⟨fun n => absurd rfl n, fun _ => ⟨vi9, this⟩⟩
        · have e1 : cQ e = (2, Int32.ofNat e.2.1) := by unfold cQ; rw [if_neg (by omega), if_pos c]
          obtain ⟨w1, w2⟩ := qv.1 c
          have := push (lv e.2.1) c14 (ev_2 c) lt
          rw [y63, e1, ya]
          show (¬ (2 : Int32) = 1 → (¬ (2 : Int32) = 3 → vp_in i 800 ∧ vp_in (b + Int32.ofNat e.2.1) n2 ∧ vp_in p 40 ∧ ∀ z : gd, z = si y 65 p.toNatClampNeg (x.1 a2 (b + Int32.ofNat e.2.1).toNatClampNeg) → _) ∧ _) ∧ _
          rw [w2]
          exact ⟨fun _ => ⟨fun _ => ⟨vi9, w1, this⟩, fun z => absurd z (show ¬ (2 : Int32) = 3 by decide)⟩, fun z => absurd z (show ¬ (2 : Int32) = 1 by decide)⟩
        · have e1 : cQ e = (3, 0) := by unfold cQ; rw [if_neg (by omega), if_neg (by omega), if_pos c]
          have := push t c14 (ev_3 c) lt
          rw [e1]
          exact ⟨fun _ => ⟨fun n => absurd rfl n, fun _ => this⟩, fun z => absurd z (by decide)⟩
        · have e1 : cQ e = (2, e.2.2) := by unfold cQ; rw [if_neg (by omega), if_neg (by omega), if_neg (by omega), if_pos c]
          obtain ⟨w1, w2⟩ := qv.2 c
          have := push (cv e.2.2) c14 (ev_4 c) lt
          rw [y63, e1, ya]
          show (¬ (2 : Int32) = 1 → (¬ (2 : Int32) = 3 → vp_in i 800 ∧ vp_in (b + e.2.2) n2 ∧ vp_in p 40 ∧ ∀ z : gd, z = si y 65 p.toNatClampNeg (x.1 a2 (b + e.2.2).toNatClampNeg) → _) ∧ _) ∧ _
          rw [w2]
          exact ⟨fun _ => ⟨fun _ => ⟨vi9, w1, this⟩, fun z => absurd z (show ¬ (2 : Int32) = 3 by decide)⟩, fun z => absurd z (show ¬ (2 : Int32) = 1 by decide)⟩
        · omega
        · omega
      have p139 : e.1 = 5 → KT G q (d + 1) zk_X0_work 139 [(0, vr 60), (2, vr a2), (3, vi b), (4, vi t), (5, vi p), (6, vi i), (7, vi (cQ e).1)] [] y (ri F) := by
        intro c
        obtain ⟨h1, hok'⟩ := okQ_5 hok c
        cases st with
        | nil => exact absurd h1 (by show ¬ 1 ≤ 0; decide)
        | cons v st =>
          have ep : p.toInt = st.length + 1 := by rw [ep]; rfl
          have e1 : (p - 1).toInt = st.length := by rw [t_sub (by rw [k1]; omega) (by rw [k1]; omega), k1, ep]; omega
          have eN1 : (p - 1).toNatClampNeg = st.length := by rw [t_cl, e1]; rfl
          have l40 : st.length + 1 ≤ 40 := l40
          have vp : vp_in (p - 1) 40 := by rw [vp_in_iff]; omega
          have top : y.1 65 (p - 1).toNatClampNeg = v := by rw [eN1]; exact hst.1
          have ec : (cQ e).1 = if e.2.2 = 29 then 5 else 4 := by unfold cQ; rw [if_neg (by omega), if_neg (by omega), if_neg (by omega), if_neg (by omega), if_pos c]
          have put : ∀ (r : Int32) (z : gd), unQ e.2.2 v = r → z = si y 65 (p - 1).toNatClampNeg r → KT G q (d + 1) zk_X0_work 11 [(0, vr 60), (2, vr a2), (3, vi b), (4, vi t), (5, vi p), (6, vi (i + 1))] [] z (ri F) := fun r z er ez => by
            refine next (r :: st) p z hok' (by rw [ez]; exact fm_si fy (Or.inr rfl)) (by rw [ep]; rfl) l40 (by rw [ez, si_cell (by decide)]; exact y5) ⟨?_, STK_eq (fun j hj => ?_) hst.2⟩ ?_
            · rw [ez, si_get, if_pos ⟨rfl, eN1.symm⟩]
            · rw [ez, si_get, if_neg (by omega)]
            · rw [← hev, ev_5 c, er]
          refine kg_X0_work_139 hq ka ma _ _ _ _ _ ⟨fun cc => ?_, fun _ => ⟨vp, ?_⟩⟩
          · exfalso; rw [t_lt, k1] at cc; omega
          rw [top, ec]
          by_cases c29 : e.2.2 = 29
          · rw [if_pos c29]
            refine ⟨fun _ => ⟨fun n => ⟨vp, fun z ez => put 0 z ?_ ez⟩, fun z9 => ⟨vp, fun z ez => put 1 z ?_ ez⟩⟩, fun z => absurd z (by decide)⟩
            · unfold unQ; rw [if_pos c29, if_neg n]
            · unfold unQ; rw [if_pos c29, if_pos z9]
          · rw [if_neg c29]
            refine ⟨fun n => absurd rfl n, fun _ => ⟨vp, fun z ez => put _ z ?_ ez⟩⟩
            unfold unQ; rw [if_neg c29]
      have p6 : e.1 = 6 → (p < 2 → KT G q (d + 1) zk_X0_work 11 [(0, vr 60), (2, vr a2), (3, vi b), (4, vi t), (5, vi p), (6, vi (i + 1))] [] y (ri F)) ∧ (¬ p < 2 → vp_in ((p + (-1)) - 1) 40 ∧ vp_in (p + (-1)) 40 ∧ KT G q d zk_X0_operate 0 [(0, vr 60), (1, vi (cQ e).1), (2, vi (y.1 65 ((p + (-1)) - 1 : Int32).toNatClampNeg)), (3, vi (y.1 65 (p + (-1) : Int32).toNatClampNeg))] [] y (ri (fun r20 x19 => vp_in ((p + (-1)) - 1) 40 ∧ (∀ x22 : gd, x22 = si x19 65 ((p + (-1)) - 1 : Int32).toNatClampNeg r20 → KT G q (d + 1) zk_X0_work 11 [(0, vr 60), (2, vr a2), (3, vi b), (4, vi t), (5, vi (p + (-1))), (6, vi (i + 1))] [] x22 (ri F))))) := by
        intro c
        obtain ⟨h2, hok'⟩ := okQ_6 hok c
        cases st with
        | nil => exact absurd h2 (by show ¬ 2 ≤ 0; decide)
        | cons v st =>
          cases st with
          | nil => exact absurd h2 (by show ¬ 2 ≤ 1; decide)
          | cons u st =>
            have ep : p.toInt = st.length + 2 := by rw [ep]; rfl
            have l40 : st.length + 2 ≤ 40 := l40
            obtain ⟨p2, ep2⟩ : ∃ p2, p2 = p + (-1) := ⟨_, rfl⟩
            rw [← ep2]
            have e1 : p2.toInt = st.length + 1 := by rw [ep2, t_add (by rw [tm1]; omega) (by rw [tm1]; omega), tm1]; omega
            have e2 : (p2 - 1).toInt = st.length := by rw [t_sub (by rw [k1]; omega) (by rw [k1]; omega), k1, e1]; omega
            have n1 : p2.toNatClampNeg = st.length + 1 := by rw [t_cl, e1]; rfl
            have n2' : (p2 - 1).toNatClampNeg = st.length := by rw [t_cl, e2]; rfl
            have vp : vp_in (p2 - 1) 40 := by rw [vp_in_iff]; omega
            have ec : (cQ e).1 = kcv e.2.2 := by unfold cQ; rw [if_neg (by omega), if_neg (by omega), if_neg (by omega), if_neg (by omega), if_neg (by omega)]
            refine ⟨fun cc => ?_, fun _ => ⟨vp, by rw [vp_in_iff]; omega, ?_⟩⟩
            · exfalso; rw [t_lt, k2] at cc; omega
            have hu : y.1 65 (p2 - 1).toNatClampNeg = u := by rw [n2']; exact hst.2.1
            have hv : y.1 65 p2.toNatClampNeg = v := by rw [n1]; exact hst.1
            rw [hu, hv, ec]
            refine kf_operate hq (qo.2.2 c) u v (fun r z hz => ⟨vp, fun w ew => ?_⟩)
            rcases hz with ⟨hb, ez⟩ | ⟨hb, ez⟩
            · refine next (r :: st) p2 w hok' (by rw [ew, ez]; exact fm_si fy (Or.inr rfl)) (by rw [e1]; rfl) (by show st.length + 1 ≤ 40; omega) (by rw [ew, si_cell (by decide), ez]; exact y5) ⟨?_, STK_eq (fun j hj => ?_) hst.2.2⟩ ?_
              · rw [ew, si_get, if_pos ⟨rfl, n2'.symm⟩]
              · rw [ew, si_get, if_neg (by omega), ez]
              · rw [← hev, ev_6 c hb]
            · have w5 : w.1 60 5 = 1 := by rw [ew, si_cell (by decide), ez, si_get, if_pos ⟨rfl, rfl⟩]
              have fw : fm sWk x w := by rw [ew, ez]; exact fm_si (fm_si fy (Or.inl ⟨rfl, rfl⟩)) (Or.inr rfl)
              have hn : wkQ lv cv t Q = none := by unfold wkQ; rw [← hev, ev_6n c hb]; rfl
              have out : ri F (some (vi (w.1 65 (0 : Int32).toNatClampNeg))) w := ri_i (h _ w fw (Or.inr ⟨hn, w5⟩))
              refine kg_X0_work_11 hq ka ma _ _ _ _ ⟨fun _ => ⟨v0, out⟩, fun _ => ⟨fun _ => ⟨v0, out⟩, fun _ => ⟨fun _ => ⟨v0, out⟩, fun z5 => ?_⟩⟩⟩
              rw [w5] at z5
              exact absurd z5 (by decide)
      have neg : ¬ i < 0 := by rw [t_lt, k0]; omega
      have lt3 : ¬ y.1 60 3 ≤ i := by rw [fy 60 3 (by unfold sWk; omega), t_le]; omega
      refine kg_X0_work_11 hq ka ma _ _ _ _ ⟨fun cc => absurd cc neg, fun _ => ⟨fun cc => absurd cc lt3, fun _ => ⟨fun n5 => absurd y5 n5, fun _ => ⟨vi9, ?_⟩⟩⟩⟩
      rw [y62]
      refine ⟨fun z => absurd z c62, fun _ => ⟨vi9, ?_⟩⟩
      rcases cs with c | c | c | c | c | c
      · have e1 : (cQ e).1 = 1 := by unfold cQ; rw [if_pos c]
        refine ⟨fun _ => p69 (by omega), fun n => absurd e1 n⟩
      · have e1 : (cQ e).1 = 2 := by unfold cQ; rw [if_neg (by omega), if_pos c]
        exact ⟨fun _ => p69 (by omega), fun _ => ⟨fun _ => p69 (by omega), fun n => absurd e1 n⟩⟩
      · have e1 : (cQ e).1 = 3 := by unfold cQ; rw [if_neg (by omega), if_neg (by omega), if_pos c]
        exact ⟨fun _ => p69 (by omega), fun _ => ⟨fun _ => p69 (by omega), fun _ => ⟨fun n => absurd e1 n, fun _ => p69 (by omega)⟩⟩⟩
      · have e1 : (cQ e).1 = 2 := by unfold cQ; rw [if_neg (by omega), if_neg (by omega), if_neg (by omega), if_pos c]
        exact ⟨fun _ => p69 (by omega), fun _ => ⟨fun _ => p69 (by omega), fun n => absurd e1 n⟩⟩
      · have e1 : (cQ e).1 = 5 ∨ (cQ e).1 = 4 := by
          have : (cQ e).1 = if e.2.2 = 29 then 5 else 4 := by unfold cQ; rw [if_neg (by omega), if_neg (by omega), if_neg (by omega), if_neg (by omega), if_pos c]
          rw [this]
          split
          · exact Or.inl rfl
          · exact Or.inr rfl
        refine ⟨fun z => ?_, fun _ => ⟨fun z => ?_, fun _ => ⟨fun _ => ⟨fun _ => p139 c, fun n4 => ⟨fun n5 => ?_, fun _ => p139 c⟩⟩, fun z => ?_⟩⟩⟩
        · rcases e1 with e1 | e1 <;> (rw [e1] at z; exact absurd z (by decide))
        · rcases e1 with e1 | e1 <;> (rw [e1] at z; exact absurd z (by decide))
        · exact e1.elim (fun z => absurd z n5) (fun z => absurd z n4)
        · rcases e1 with e1 | e1 <;> (rw [e1] at z; exact absurd z (by decide))
      · obtain ⟨z1, z2, z3, z4, z5⟩ := c6 c
        exact ⟨fun z => absurd z z1, fun _ => ⟨fun z => absurd z z2, fun _ => ⟨fun _ => ⟨fun z => absurd z z4, fun _ => ⟨fun _ => p6 c, fun z => absurd z z5⟩⟩, fun z => absurd z z3⟩⟩⟩
  refine kg_X0_work_0 hq ka ma _ _ _ (fun x1 e1 => loop Q 0 [] 0 s x1 (fun j q hj => by rw [Nat.zero_add]; exact hj) (by omega) ok (by rw [e1]; exact fm_si (fm_rf _ _) (Or.inl ⟨rfl, rfl⟩)) rfl (by decide) (by omega) (by rw [e1, si_get, if_pos ⟨rfl, rfl⟩]) trivial rfl)
end KWF
end
section
/-! the model: what comes of a sum -/
theorem div_m1 (a : Int32) : a / -1 = -a := by
  have e : (-1 : Int32).toInt = -1 := rfl
  rw [t_eq, Int32.toInt_div, e, Int.tdiv_neg, Int.tdiv_one, Int32.toInt_neg]
theorem mod_m1 (a : Int32) : a - a / -1 * -1 = 0 := by
  rw [div_m1, Int32.neg_mul, Int32.mul_neg, Int32.mul_one, Int32.neg_neg, Int32.sub_self]
section DSF
variable {d : Nat} {S : gS} {x : gd} {F : Int32 → gd → gS → Prop} {Fv : gd → gS → Prop}
theorem ds_onef (v : Int32) (h : F (if v = 0 then 0 else 1) x S) : MD d z_one 0 [(0, vi v)] [] S x (Di F) := sd_one_0 _ ⟨fun c => Di_i (by rw [if_pos c] at h; exact h), fun c => Di_i (by rw [if_neg c] at h; exact h)⟩
theorem ds_reckonf {k : Int32} (hk : ¬ pst k = 0) (a b : Int32) (h : ∀ r x' S', (biQ k a b = some r ∧ x' = x ∧ S' = S) ∨ (biQ k a b = none ∧ x' = si x 0 82 1 ∧ S' = sadd S 0 82) → F r x' S') : MD (d + 1) z_reckon 0 [(0, vr 0), (1, vi k), (2, vi a), (3, vi b)] [] S x (Di F) := by
  have hm := pst_in hk
  have g : ∀ r, biQ k a b = some r → Di F (some (vi r)) x S := fun r e => Di_i (h r x S (Or.inl ⟨e, rfl, rfl⟩))
  have on : ∀ (s r : Int32), (if s = 0 then (0 : Int32) else 1) = r → biQ k a b = some r → MD d z_one 0 [(0, vi s)] [] S x (Di (fun r2 x1 S1 => Di F (some (vi r2)) x1 S1)) := fun s r e1 e2 => ds_onef s (by rw [e1]; exact g r e2)
  have i2 : ∀ w ∈ [(30 : Int32), 12, 51, 52, 53, 54, 55, 56, 57, 58, 59, 60, 28], (∀ u ∈ [(30 : Int32), (12 : Int32), (51 : Int32), (52 : Int32), (53 : Int32), (54 : Int32), (55 : Int32), (56 : Int32), (57 : Int32), (58 : Int32), (59 : Int32)], ¬ w = u) → w = 60 ∨ w = 28 := by decide
  refine sd_reckon_0 _ _ _ ⟨fun c => ?_, fun c => ?_, fun c => ?_, fun c => ?_, fun c => ?_, fun c => ?_, fun c => ?_, fun c => ?_, fun c => ?_, fun c => ?_, fun c => ?_, fun c => ?_⟩
  · subst c
    exact ⟨fun n => sd_reckon_113 _ (on 1 1 rfl (by show some (if a = 0 then _ else (1 : Int32)) = _; rw [if_neg n])), fun z => ⟨fun z2 => sd_reckon_113 _ (on 0 0 rfl (by show some (if a = 0 then (if b = 0 then (0 : Int32) else 1) else 1) = _; rw [if_pos z, if_pos z2])), fun n2 => sd_reckon_113 _ (on 1 1 rfl (by show some (if a = 0 then (if b = 0 then (0 : Int32) else 1) else 1) = _; rw [if_pos z, if_neg n2]))⟩⟩
  · subst c
    exact ⟨fun z => sd_reckon_130 _ (on 0 0 rfl (by show some (if a = 0 then (0 : Int32) else if b = 0 then 0 else 1) = _; rw [if_pos z])), fun n => ⟨fun z2 => sd_reckon_130 _ (on 0 0 rfl (by show some (if a = 0 then (0 : Int32) else if b = 0 then 0 else 1) = _; rw [if_neg n, if_pos z2])), fun n2 => sd_reckon_130 _ (on 1 1 rfl (by show some (if a = 0 then (0 : Int32) else if b = 0 then 0 else 1) = _; rw [if_neg n, if_neg n2]))⟩⟩
  · subst c
    exact ⟨fun n => sd_reckon_144 _ (on 0 0 rfl (by show some (if a = b then (1 : Int32) else 0) = _; rw [if_neg n])), fun z => sd_reckon_144 _ (on 1 1 rfl (by show some (if a = b then (1 : Int32) else 0) = _; rw [if_pos z]))⟩
  · subst c
    exact ⟨fun z => sd_reckon_158 _ (on 0 0 rfl (by show some (if a = b then (0 : Int32) else 1) = _; rw [if_pos z])), fun n => sd_reckon_158 _ (on 1 1 rfl (by show some (if a = b then (0 : Int32) else 1) = _; rw [if_neg n]))⟩
  · subst c
    exact ⟨fun z => sd_reckon_172 _ (on 0 0 rfl (by show some (if b ≤ a then (0 : Int32) else 1) = _; rw [if_pos z])), fun n => sd_reckon_172 _ (on 1 1 rfl (by show some (if b ≤ a then (0 : Int32) else 1) = _; rw [if_neg n]))⟩
  · subst c
    exact ⟨fun z => sd_reckon_186 _ (on 0 0 rfl (by show some (if b < a then (0 : Int32) else 1) = _; rw [if_pos z])), fun n => sd_reckon_186 _ (on 1 1 rfl (by show some (if b < a then (0 : Int32) else 1) = _; rw [if_neg n]))⟩
  · subst c
    exact ⟨fun z => sd_reckon_200 _ (on 0 0 rfl (by show some (if a ≤ b then (0 : Int32) else 1) = _; rw [if_pos z])), fun n => sd_reckon_200 _ (on 1 1 rfl (by show some (if a ≤ b then (0 : Int32) else 1) = _; rw [if_neg n]))⟩
  · subst c
    exact ⟨fun z => sd_reckon_214 _ (on 0 0 rfl (by show some (if a < b then (0 : Int32) else 1) = _; rw [if_pos z])), fun n => sd_reckon_214 _ (on 1 1 rfl (by show some (if a < b then (0 : Int32) else 1) = _; rw [if_neg n]))⟩
  · subst c
    exact g _ rfl
  · subst c
    exact g _ rfl
  · subst c
    exact g _ rfl
  · rcases i2 k hm c with e | e
    · subst e
      refine ⟨fun n => ⟨fun n60 => absurd rfl n60, fun _ => ⟨fun nm => ⟨n, g _ ?_⟩, fun zm => g _ ?_⟩⟩, fun z y ey => Di_i (h _ y _ (Or.inr ⟨?_, ey, rfl⟩))⟩
      · show (if b = 0 then none else some (a / b)) = _
        rw [if_neg n]
      · show (if b = 0 then none else some (a / b)) = _
        rw [if_neg n, zm, div_m1]
      · show (if b = 0 then none else some (a / b)) = _
        rw [if_pos z]
    · subst e
      refine ⟨fun n => ⟨fun _ => ⟨fun nm => ⟨n, g _ ?_⟩, fun zm => g _ ?_⟩, fun z60 => absurd z60 (by decide)⟩, fun z y ey => Di_i (h _ y _ (Or.inr ⟨?_, ey, rfl⟩))⟩
      · show (if b = 0 then none else some (a - a / b * b)) = _
        rw [if_neg n]
      · show (if b = 0 then none else some (a - a / b * b)) = _
        rw [if_neg n, zm, mod_m1]
      · show (if b = 0 then none else some (a - a / b * b)) = _
        rw [if_pos z]
def wkM (y : gd) (w : Option Int32) (r : Int32) : Prop := (∃ v, w = some v ∧ r = v ∧ y.1 0 82 = 0) ∨ (w = none ∧ y.1 0 82 = 1)
def mVl (x : gd) (sl : List Nat) (t : Int32) (lv : Nat → Int32) (cv : Int32 → Int32) (q : gQ) : Prop := (q.1 = 2 → vp_in (8 * t + Int32.ofNat (slN sl q.2.1)) 48 ∧ x.1 76 (8 * t + Int32.ofNat (slN sl q.2.1)).toNatClampNeg = lv q.2.1) ∧ (q.1 = 4 → vp_in q.2.2 24 ∧ x.1 70 q.2.2.toNatClampNeg = cv q.2.2)
theorem ds_workedf {w t : Int32} {Q : List gQ} {sl : List Nat} {lv : Nat → Int32} {cv : Int32 → Int32} (hS : SUm x w (Q.map (mQp sl))) (h49 : (x.1 0 49).toInt ≤ 6000) (ok : okQ Q 0) (hQ : ∀ p ∈ Q, qOk p ∧ mVl x sl t lv cv p) (h : ∀ r x' S', md [82] [84] x x' → ssub S S' → S' 0 82 → wkM x' (wkQ lv cv t Q) r → F r x' S') : MD (d + 2) z_worked 0 [(0, vr 0), (1, vi w), (2, vi t)] [] S x (Di F) := by
  have k0 : (0 : Int32).toInt = 0 := rfl
  have k1 : (1 : Int32).toInt = 1 := rfl
  have km : (-1 : Int32).toInt = -1 := rfl
  have c0 : (0 : Int32).toNatClampNeg = 0 := rfl
  obtain ⟨s0, s1, s2, s3⟩ := hS
  rw [List.length_map] at s1 s3
  have us := t_cl w
  have loop : ∀ (Q1 : List gQ) (m : Nat) (st : List Int32) (y : gd) (S1 : gS) (l3 l4 : Int32), (∀ j q, Q1[j]? = some q → Q[m + j]? = some q) → m + Q1.length = Q.length → okQ Q1 st.length → l3.toInt = st.length → st.length ≤ 40 → l4.toInt = w.toInt + m → (∀ j : Nat, j < st.length → S1 84 j) → S1 0 82 → md [82] [84] x y → ssub S S1 → y.1 0 82 = 0 → STK (y.1 84) st → evQ lv cv t Q1 st = evQ lv cv t Q [] → MD (d + 2) z_worked 10 [(0, vr 0), (2, vi t), (3, vi l3), (4, vi l4)] [] S1 y (Di F) := by
    intro Q1
    induction Q1 with
    | nil =>
      intro m st y S1 l3 l4 hsub hm hok e3 l40 e4 sp s82 my ss y82 hst hev
      have hok : st.length = 1 := hok
      have hm : m = Q.length := hm
      have e51 : y.1 51 = x.1 51 := my.2.1 51 (by decide) (by decide)
      have eN : l4.toNatClampNeg = w.toNatClampNeg + Q.length := by rw [t_cl]; omega
      have yz : y.1 51 l4.toNatClampNeg = 0 := by rw [e51, eN]; exact s3
      refine sd_worked_10 _ _ _ ⟨by rw [vp_in_iff]; omega, fun _ => ⟨vp_in_iff.mpr (by decide), sp _ (by rw [c0]; omega), Di_i (h _ _ _ my ss s82 (Or.inl ⟨_, ?_, rfl, y82⟩))⟩, fun q => absurd yz q⟩
      unfold wkQ
      rw [← hev]
      cases st with
      | nil => exact absurd hok (by show ¬ 0 = 1; decide)
      | cons v st =>
        have e0 : st.length = 0 := by have : st.length + 1 = 1 := hok; omega
        have := hst.1
        rw [e0] at this
        rw [c0, this]
        rfl
    | cons e Q1 ih =>
      intro m st y S1 l3 l4 hsub hm hok e3 l40 e4 sp s82 my ss y82 hst hev
      have hm : m + (Q1.length + 1) = Q.length := hm
      have e51 : y.1 51 = x.1 51 := my.2.1 51 (by decide) (by decide)
      have e52 : y.1 52 = x.1 52 := my.2.1 52 (by decide) (by decide)
      have e76 : y.1 76 = x.1 76 := my.2.1 76 (by decide) (by decide)
      have e70 : y.1 70 = x.1 70 := my.2.1 70 (by decide) (by decide)
      have eN : l4.toNatClampNeg = w.toNatClampNeg + m := by rw [t_cl]; omega
      have at0 : Q[m]? = some e := hsub 0 e rfl
      obtain ⟨qo, qv⟩ := hQ e (List.mem_of_getElem? at0)
      obtain ⟨p51, p52⟩ := s2 m (mQp sl e) (by rw [List.getElem?_map, at0]; rfl)
      have y51 : y.1 51 l4.toNatClampNeg = (mQp sl e).1 := by rw [e51, eN]; exact p51
      have y52 : y.1 52 l4.toNatClampNeg = (mQp sl e).2 := by rw [e52, eN]; exact p52
      have v4 : vp_in l4 6000 := by rw [vp_in_iff]; omega
      have i4 : (l4 + 1).toInt = w.toInt + ((m + 1 : Nat) : Int) := by rw [t_add (by rw [k1]; omega) (by rw [k1]; omega), k1, e4]; push_cast; omega
      have u3 := t_cl l3
      have cs : e.1 = 1 ∨ e.1 = 2 ∨ e.1 = 3 ∨ e.1 = 4 ∨ e.1 = 5 ∨ e.1 = 6 := by have := qo.1; omega
      have next : ∀ (st2 : List Int32) (l32 : Int32) (z : gd) (S2 : gS), okQ Q1 st2.length → l32.toInt = st2.length → st2.length ≤ 40 → (∀ j : Nat, j < st2.length → S2 84 j) → S2 0 82 → md [82] [84] x z → ssub S S2 → z.1 0 82 = 0 → STK (z.1 84) st2 → evQ lv cv t Q1 st2 = evQ lv cv t Q [] → MD (d + 2) z_worked 10 [(0, vr 0), (2, vi t), (3, vi l32), (4, vi (l4 + 1))] [] S2 z (Di F) := fun st2 l32 z S2 a1 a2 a3 a4 a5 a6 a7 a8 a9 a10 => ih (m + 1) st2 z S2 l32 (l4 + 1) (fun j q hj => by rw [Nat.add_assoc, Nat.add_comm 1 j]; exact hsub (j + 1) q hj) (by omega) a1 a2 a3 i4 a4 a5 a6 a7 a8 a9 a10
      have push : ∀ v : Int32, (1 ≤ e.1 ∧ e.1 ≤ 4) → evQ lv cv t (e :: Q1) st = evQ lv cv t Q1 (v :: st) → vp_in l3 60 ∧ ∀ y2 : gd, y2 = si y 84 l3.toNatClampNeg v → MD (d + 2) z_worked 10 [(0, vr 0), (2, vi t), (3, vi (l3 + 1)), (4, vi (l4 + 1))] [] (sadd S1 84 l3.toNatClampNeg) y2 (Di F) := fun v c14 hv => by
        obtain ⟨lt, hok'⟩ := okQ_p hok c14
        refine ⟨by rw [vp_in_iff]; omega, fun y2 e2 => ?_⟩
        have m2 := md_a y 84 l3.toNatClampNeg v (by decide)
        rw [← e2] at m2
        refine next (v :: st) (l3 + 1) y2 _ hok' ?_ (by show st.length + 1 ≤ 40; omega) (fun j hj => ?_) (Or.inr s82) (md_tr my m2 rfl rfl) (ssub_tr ss (ssub_ad _ _ _)) (by rw [e2, si_cell (by decide)]; exact y82) ⟨?_, STK_eq (fun j hj => ?_) hst⟩ (by rw [← hv]; exact hev)
        · rw [t_add (by rw [k1]; omega) (by rw [k1]; omega), k1, e3]; rfl
        · by_cases q : j = l3.toNatClampNeg
          · exact Or.inl ⟨rfl, q⟩
          · have : j < st.length + 1 := hj
            exact Or.inr (sp j (by omega))
        · rw [e2, si_get, if_pos ⟨rfl, by omega⟩]
        · rw [e2, si_get, if_neg (by omega)]
      have one : ∀ k : Nat, e.1 = k → ¬ k = 2 → mQp sl e = (Int32.ofNat k, e.2.2) := fun k c n2 => by
        unfold mQp
        rw [if_neg (by omega), c]
      rcases cs with c | c | c | c | c | c
      · have em := one 1 c (by decide)
        have hp := push e.2.2 (by omega) (ev_1 c)
        refine sd_worked_10 _ _ _ ⟨v4, fun q => ?_, fun _ => ⟨v4, v4, ?_⟩⟩
        · rw [y51, em] at q; exact absurd q (by show ¬ (1 : Int32) = 0; decide)
        rw [y51, y52, em]
        exact ⟨fun _ => hp, fun z => absurd z (by show ¬ (1 : Int32) = 2; decide), fun z => absurd z (by show ¬ (1 : Int32) = 3; decide), fun z => absurd z (by show ¬ (1 : Int32) = 4; decide), fun z => absurd z (by show ¬ (1 : Int32) = 5; decide), fun z => absurd rfl (z 1 (by decide))⟩
      · have em : mQp sl e = (2, Int32.ofNat (slN sl e.2.1)) := if_pos c
        obtain ⟨w1, w2⟩ := qv.1 c
        have hp := push (lv e.2.1) (by omega) (ev_2 c)
        refine sd_worked_10 _ _ _ ⟨v4, fun q => ?_, fun _ => ⟨v4, v4, ?_⟩⟩
        · rw [y51, em] at q; exact absurd q (by show ¬ (2 : Int32) = 0; decide)
        rw [y51, y52, em, e76]
        refine ⟨fun z => absurd z (by show ¬ (2 : Int32) = 1; decide), fun _ => ⟨w1, ?_⟩, fun z => absurd z (by show ¬ (2 : Int32) = 3; decide), fun z => absurd z (by show ¬ (2 : Int32) = 4; decide), fun z => absurd z (by show ¬ (2 : Int32) = 5; decide), fun z => absurd rfl (z 2 (by decide))⟩
        show vp_in l3 60 ∧ ∀ y2 : gd, y2 = si y 84 l3.toNatClampNeg (x.1 76 (8 * t + Int32.ofNat (slN sl e.2.1)).toNatClampNeg) → _
        rw [w2]
        exact hp
      · have em := one 3 c (by decide)
        have hp := push t (by omega) (ev_3 c)
        refine sd_worked_10 _ _ _ ⟨v4, fun q => ?_, fun _ => ⟨v4, v4, ?_⟩⟩
        · rw [y51, em] at q; exact absurd q (by show ¬ (3 : Int32) = 0; decide)
        rw [y51, y52, em]
        exact ⟨fun z => absurd z (by show ¬ (3 : Int32) = 1; decide), fun z => absurd z (by show ¬ (3 : Int32) = 2; decide), fun _ => hp, fun z => absurd z (by show ¬ (3 : Int32) = 4; decide), fun z => absurd z (by show ¬ (3 : Int32) = 5; decide), fun z => absurd rfl (z 3 (by decide))⟩
      · have em := one 4 c (by decide)
        obtain ⟨w1, w2⟩ := qv.2 c
        have hp := push (cv e.2.2) (by omega) (ev_4 c)
        refine sd_worked_10 _ _ _ ⟨v4, fun q => ?_, fun _ => ⟨v4, v4, ?_⟩⟩
        · rw [y51, em] at q; exact absurd q (by show ¬ (4 : Int32) = 0; decide)
        rw [y51, y52, em, e70]
        refine ⟨fun z => absurd z (by show ¬ (4 : Int32) = 1; decide), fun z => absurd z (by show ¬ (4 : Int32) = 2; decide), fun z => absurd z (by show ¬ (4 : Int32) = 3; decide), fun _ => ⟨w1, ?_⟩, fun z => absurd z (by show ¬ (4 : Int32) = 5; decide), fun z => absurd rfl (z 4 (by decide))⟩
        show vp_in l3 60 ∧ ∀ y2 : gd, y2 = si y 84 l3.toNatClampNeg (x.1 70 e.2.2.toNatClampNeg) → _
        rw [w2]
        exact hp
      · have em := one 5 c (by decide)
        obtain ⟨h1, hok'⟩ := okQ_5 hok c
        cases st with
        | nil => exact absurd h1 (by show ¬ 1 ≤ 0; decide)
        | cons v st =>
          have e3 : l3.toInt = st.length + 1 := by rw [e3]; rfl
          have l40 : st.length + 1 ≤ 40 := l40
          obtain ⟨sq, ns⟩ := t_s1 (a := l3) (by omega)
          obtain ⟨q3, eq3⟩ : ∃ q, q = l3 - 1 := ⟨_, rfl⟩
          rw [← eq3] at sq ns
          have nN : q3.toNatClampNeg = st.length := by rw [t_cl, sq, e3]; omega
          have vs : vp_in q3 60 := by rw [vp_in_iff]; omega
          have sS : S1 84 q3.toNatClampNeg := sp _ (by rw [nN]; exact Nat.lt_succ_self _)
          have top : y.1 84 q3.toNatClampNeg = v := by rw [nN]; exact hst.1
          have set : ∀ (r : Int32) (y2 : gd), unQ e.2.2 v = r → y2 = si y 84 q3.toNatClampNeg r → MD (d + 2) z_worked 10 [(0, vr 0), (2, vi t), (3, vi l3), (4, vi (l4 + 1))] [] (sadd S1 84 q3.toNatClampNeg) y2 (Di F) := by
            intro r y2 er e2
            have m2 := md_a y 84 q3.toNatClampNeg r (by decide)
            rw [← e2] at m2
            refine next (r :: st) l3 y2 _ hok' (by rw [e3]; rfl) l40 (fun j hj => Or.inr (sp j hj)) (Or.inr s82) (md_tr my m2 rfl rfl) (ssub_tr ss (ssub_ad _ _ _)) (by rw [e2, si_cell (by decide)]; exact y82) ⟨?_, STK_eq (fun j hj => ?_) hst.2⟩ ?_
            · rw [e2, si_get, if_pos ⟨rfl, nN.symm⟩]
            · rw [e2, si_get, if_neg (by omega)]
            · rw [← hev, ev_5 c, er]
          refine sd_worked_10 _ _ _ ⟨v4, fun q => ?_, fun _ => ⟨v4, v4, ?_⟩⟩
          · rw [y51, em] at q; exact absurd q (by show ¬ (5 : Int32) = 0; decide)
          rw [y51, y52, em, ← eq3, top]
          refine ⟨fun z => absurd z (by show ¬ (5 : Int32) = 1; decide), fun z => absurd z (by show ¬ (5 : Int32) = 2; decide), fun z => absurd z (by show ¬ (5 : Int32) = 3; decide), fun z => absurd z (by show ¬ (5 : Int32) = 4; decide), fun _ => ⟨fun n29 => ⟨vs, sS, vs, fun y2 e2 => set _ y2 ?_ e2⟩, fun c29 => ⟨vs, sS, fun n => ⟨vs, fun y2 e2 => set _ y2 ?_ e2⟩, fun z => ⟨vs, fun y2 e2 => set _ y2 ?_ e2⟩⟩⟩, fun z => absurd rfl (z 5 (by decide))⟩
          · unfold unQ; rw [if_neg n29]
          · unfold unQ; rw [if_pos c29, if_neg n]
          · unfold unQ; rw [if_pos c29, if_pos z]
      · have em := one 6 c (by decide)
        obtain ⟨h2, hok'⟩ := okQ_6 hok c
        cases st with
        | nil => exact absurd h2 (by show ¬ 2 ≤ 0; decide)
        | cons v st =>
          cases st with
          | nil => exact absurd h2 (by show ¬ 2 ≤ 1; decide)
          | cons u st =>
            have e3 : l3.toInt = st.length + 2 := by rw [e3]; rfl
            have l40 : st.length + 2 ≤ 40 := l40
            obtain ⟨m3, nm⟩ := t_m1 (a := l3) (by omega)
            obtain ⟨q3, eq3⟩ : ∃ q, q = l3 + -1 := ⟨_, rfl⟩
            rw [← eq3] at m3 nm
            obtain ⟨m4, n4'⟩ := t_s1 (a := q3) (by omega)
            obtain ⟨q4, eq4⟩ : ∃ q, q = q3 - 1 := ⟨_, rfl⟩
            rw [← eq4] at m4 n4'
            have n3 : q3.toNatClampNeg = st.length + 1 := by rw [t_cl, m3, e3]; omega
            have n4 : q4.toNatClampNeg = st.length := by rw [t_cl, m4, m3, e3]; omega
            have v1 : vp_in q3 60 := by rw [vp_in_iff]; omega
            have v2 : vp_in q4 60 := by rw [vp_in_iff]; omega
            refine sd_worked_10 _ _ _ ⟨v4, fun q => ?_, fun _ => ⟨v4, v4, ?_⟩⟩
            · rw [y51, em] at q; exact absurd q (by show ¬ (6 : Int32) = 0; decide)
            have hu : y.1 84 q4.toNatClampNeg = u := by rw [n4]; exact hst.2.1
            have hv : y.1 84 q3.toNatClampNeg = v := by rw [n3]; exact hst.1
            rw [y51, y52, em, ← eq3, ← eq4, hu, hv]
            refine ⟨fun z => absurd z (by show ¬ (6 : Int32) = 1; decide), fun z => absurd z (by show ¬ (6 : Int32) = 2; decide), fun z => absurd z (by show ¬ (6 : Int32) = 3; decide), fun z => absurd z (by show ¬ (6 : Int32) = 4; decide), fun z => absurd z (by show ¬ (6 : Int32) = 5; decide), fun _ => ⟨v2, sp _ (by rw [n4]; show st.length < st.length + 2; omega), v1, sp _ (by rw [n3]; show st.length + 1 < st.length + 2; omega), ds_reckonf (qo.2.2 c) u v (fun r y3 S3 hz => ⟨v2, fun y4 e4' => ?_⟩)⟩⟩
            have m5 := md_a y3 84 q4.toNatClampNeg r (by decide)
            rw [← e4'] at m5
            rcases hz with ⟨hb, ey3, eS3⟩ | ⟨hb, ey3, eS3⟩
            · rw [eS3]
              rw [ey3] at m5 e4'
              have y4z : y4.1 0 82 = 0 := by rw [e4', si_cell (by decide)]; exact y82
              refine ⟨Or.inr s82, fun _ => next (r :: st) q3 y4 _ hok' (by rw [m3, e3]; show (st.length : Int) + 2 - 1 = ((st.length + 1 : Nat) : Int); omega) (by show st.length + 1 ≤ 40; omega) (fun j hj => Or.inr (sp j (by have : j < st.length + 1 := hj; show j < st.length + 2; omega))) (Or.inr s82) (md_tr my m5 rfl rfl) (ssub_tr ss (ssub_ad _ _ _)) y4z ⟨?_, STK_eq (fun j hj => ?_) hst.2.2⟩ ?_, fun n => ?_⟩
              · rw [e4', si_get, if_pos ⟨rfl, n4.symm⟩]
              · rw [e4', si_get, if_neg (by omega)]
              · rw [← hev, ev_6 c hb]
              · exfalso; rw [y4z] at n; exact n (by decide)
            · have y4o : y4.1 0 82 = 1 := by rw [e4', si_cell (by decide), ey3, si_get, if_pos ⟨rfl, rfl⟩]
              have mf := md_f y 82 1
              rw [← ey3] at mf
              have mm : md [82] [84] x y4 := md_tr (md_tr (L3 := [82]) (A3 := [84]) my mf rfl rfl) m5 rfl rfl
              have hn : wkQ lv cv t Q = none := by unfold wkQ; rw [← hev, ev_6n c hb]; rfl
              rw [eS3]
              have s5 : sadd (sadd S1 0 82) 84 q4.toNatClampNeg 0 82 := Or.inr (Or.inl ⟨rfl, rfl⟩)
              refine ⟨s5, fun z => ?_, fun _ => Di_i (h _ _ _ mm (ssub_tr ss (ssub_tr (ssub_ad _ _ _) (ssub_ad _ _ _))) s5 (Or.inr ⟨hn, y4o⟩))⟩
              exfalso; rw [y4o] at z; exact absurd z (by decide)
  refine sd_worked_0 _ _ (fun y e => ?_)
  have m := md_f x 82 0
  rw [← e] at m
  exact loop Q 0 [] y _ 0 w (fun j q hj => by rw [Nat.zero_add]; exact hj) (by omega) ok rfl (by decide) (by omega) (fun j hj => absurd hj (Nat.not_lt_zero _)) (Or.inl ⟨rfl, rfl⟩) (md_w m (by decide) (by decide)) (ssub_ad _ _ _) (by rw [e, si_get, if_pos ⟨rfl, rfl⟩]) trivial rfl
end DSF
end
section
/-! the model: what becomes of a thread's own steps -/
theorem slN_suf : ∀ {l l' : List Nat}, l' <:+ l → ∀ {p : Nat}, p < l'.length → slN l' p = slN l p := by
  intro l
  induction l with
  | nil => intro l' h p hp; rw [List.suffix_nil.mp h]
  | cons s l ih =>
    intro l' h p hp
    rcases List.suffix_cons_iff.mp h with e | h
    · rw [e]
    · have := h.length_le
      rw [ih h hp]
      show slN l p = if p = l.length then s else slN l p
      rw [if_neg (by omega)]
theorem slN_mem : ∀ {l : List Nat} {p : Nat}, p < l.length → slN l p ∈ l := by
  intro l
  induction l with
  | nil => intro p hp; exact absurd hp (Nat.not_lt_zero _)
  | cons s l ih =>
    intro p hp
    show (if p = l.length then s else slN l p) ∈ s :: l
    by_cases c : p = l.length
    · rw [if_pos c]; exact List.mem_cons_self
    · rw [if_neg c]
      have hp : p < l.length + 1 := hp
      exact List.mem_cons_of_mem _ (ih (by omega))
theorem slN_inj : ∀ {l : List Nat}, l.Pairwise (fun a b => b < a) → ∀ {p q : Nat}, p < l.length → q < l.length → slN l p = slN l q → p = q := by
  intro l
  induction l with
  | nil => intro _ p q hp; exact absurd hp (Nat.not_lt_zero _)
  | cons s l ih =>
    intro hl p q hp hq h
    have hp : p < l.length + 1 := hp
    have hq : q < l.length + 1 := hq
    obtain ⟨h1, h2⟩ := List.pairwise_cons.mp hl
    have h : (if p = l.length then s else slN l p) = if q = l.length then s else slN l q := h
    by_cases cp : p = l.length
    · by_cases cq : q = l.length
      · omega
      · rw [if_pos cp, if_neg cq] at h
        have := h1 _ (slN_mem (l := l) (p := q) (by omega))
        omega
    · by_cases cq : q = l.length
      · rw [if_neg cp, if_pos cq] at h
        have := h1 _ (slN_mem (l := l) (p := p) (by omega))
        omega
      · rw [if_neg cp, if_neg cq] at h
        exact ih h2 (by omega) (by omega) h
theorem mWh_i : ∀ op, op < 22 → (mWh op = 6 ↔ op < 16) ∧ (mWh op = 3 ↔ op = 20) ∧ (mWh op = 5 ↔ op = 21) ∧ (mWh op = 0 ↔ op = 16) ∧ (mWh op = 2 ↔ op = 17) ∧ (mWh op = 1 ↔ op = 18) := by decide
theorem SUm_f {x y : gd} {r : Int32} {P : List (Int32 × Int32)} (h : SUm x r P) (e49 : y.1 0 49 = x.1 0 49) (e51 : y.1 51 = x.1 51) (e52 : y.1 52 = x.1 52) : SUm y r P := by
  unfold SUm at h ⊢
  rw [e49, e51, e52]; exact h
section DOF
variable {d : Nat} {S : gS} {x : gd} {F : Int32 → gd → gS → Prop} {Fv : gd → gS → Prop} {C : gCo}
end DOF
end
section
/-! the model: how a run begins, and its first choices -/
theorem MK_f {w w' : gd} {C : gCo} (h : MK w C) (fL : ∀ k ∈ mfL, w'.1 0 k = w.1 0 k) (fA : ∀ c ∈ mfA, w'.1 c = w.1 c) : MK w' C := by
  have su : ∀ {r : Int32} {P : List (Int32 × Int32)}, SUm w r P → SUm w' r P := fun h => SUm_f h (fL 49 (by decide)) (fA 51 (by decide)) (fA 52 (by decide))
  have ns : ∀ {sl : List Nat} {v : Int32} {o : Option (List gQ)}, mNs w sl v o → mNs w' sl v o := fun {sl v o} h => by
    cases o with
    | none => exact h
    | some Q => exact su h
  obtain ⟨⟨a1, a2⟩, b, c, d, e⟩ := h
  refine ⟨⟨by rw [fL 52 (by decide)]; exact a1, fun j st hj => ?_⟩, by rw [fL 25 (by decide), fA 64 (by decide), fA 38 (by decide)]; exact b, by rw [fL 23 (by decide), fA 36 (by decide), fA 37 (by decide)]; exact c, fun k Q hQ => by rw [fA 65 (by decide)]; exact su (d k Q hQ), fun k Q hQ => by rw [fA 66 (by decide)]; exact su (e k Q hQ)⟩
  obtain ⟨g1, g2, g3, g4, g5, g6, g7, g8, g9⟩ := a2 j st hj
  unfold mN
  rw [fA 54 (by decide), fA 55 (by decide), fA 56 (by decide), fA 57 (by decide), fA 58 (by decide), fA 59 (by decide), fA 60 (by decide), fA 61 (by decide), fA 62 (by decide)]
  exact ⟨g1, g2, g3, g4, ns g5, ns g6, ns g7, g8, g9⟩
theorem MK_md {w w' : gd} {C : gCo} {L A : List Nat} (m : md L A w w') (hL : mfL.all (fun k => !L.elem k) = true) (hA : mfA.all (fun k => !A.elem k) = true) (h : MK w C) : MK w' C := MK_f h (fun k hk => m.1 k (all_no hL k hk)) (fun c hc => m.2.1 c (mfA_0 c hc) (all_no hA c hc))
section DFS
variable {d : Nat} {S : gS} {x : gd} {F : Int32 → gd → gS → Prop} {Fv : gd → gS → Prop} {C : gCo} {f : Nat → gTr}
end DFS
section DSX
variable {x : gd} {C : gCo}
end DSX
section SPB
variable {G : mG} {D d : Nat} {z : gd} {F : Int32 → gd → Prop} {Fv : gd → Prop}
end SPB
end
section
/-! the class: a machine's row -/
theorem kiM_O {q : kP} {o : Nat} (h : kiM q o) : o = 120 ∨ o = 220 := by
  rcases h with e | ⟨e, -⟩
  · exact Or.inl e
  · exact Or.inr e
/-- where a machine's things lie -/
def MG (x : gd) (o : Nat) : Prop := (x.1 o 3 = 0 ∨ x.1 o 3 = 1) ∧ (x.1 o 6).toInt = (x.1 60 6).toInt ∧ (x.1 o 7).toInt = (x.1 60 6).toInt + 2 * (x.1 60 9).toInt ∧ (x.1 o 9).toInt = 8 + (x.1 60 13).toInt ∧ (x.1 o 8).toInt = 8 + (x.1 60 13).toInt + (if x.1 o 3 = 1 then 16 else 0) ∧ (x.1 o 5).toInt = (x.1 o 7).toInt + (x.1 o 8).toInt * (x.1 60 10).toInt
/-- a thread's field -/
def pa (x : gd) (o t f : Nat) : Nat := (x.1 o 7).toInt.toNat + t * (x.1 o 8).toInt.toNat + f
def rg (x : gd) (o t f : Nat) : Int32 := x.1 (o + 5) (pa x o t f)
section KMA
variable {G : kG} {q : kP} {d : Nat} {x x0 y z : gd} {o : Nat} {F : Int32 → gd → Prop} {Fv : gd → Prop}
theorem MG_b (hC : CO x) (hG : MG x o) : (0 ≤ (x.1 o 7).toInt ∧ (x.1 o 7).toInt ≤ 36) ∧ (8 ≤ (x.1 o 8).toInt ∧ (x.1 o 8).toInt ≤ 32) ∧ (8 ≤ (x.1 o 9).toInt ∧ (x.1 o 9).toInt ≤ 16) ∧ (x.1 o 9).toInt ≤ (x.1 o 8).toInt ∧ (x.1 o 3 = 1 → (x.1 o 8).toInt = (x.1 o 9).toInt + 16) ∧ (x.1 60 6).toInt ≤ (x.1 o 7).toInt ∧ (x.1 o 9).toInt = 8 + (x.1 60 13).toInt := by
  obtain ⟨⟨h1, h2, h3, h4, -⟩, -⟩ := hC
  obtain ⟨g1, g2, g3, g4, g5, g6⟩ := hG
  rcases g1 with e | e
  · rw [e, if_neg (by decide)] at g5
    refine ⟨by omega, by omega, by omega, by omega, fun c => ?_, by omega, g4⟩
    rw [e] at c; exact absurd c (by decide)
  · rw [e, if_pos rfl] at g5
    exact ⟨by omega, by omega, by omega, by omega, fun _ => by omega, by omega, g4⟩
theorem pa_ix {a s t f : Int32} {T K : Nat} (et : t.toInt = T) (ef : f.toInt = K) (ha : 0 ≤ a.toInt ∧ a.toInt ≤ 36) (hs : 0 ≤ s.toInt ∧ s.toInt ≤ 32) (hT : T < 6) (hK : K < 32) : (a + t * s + f).toNatClampNeg = a.toInt.toNat + T * s.toInt.toNat + K ∧ vp_in (a + t * s + f) 228 := by
  have hm : 0 ≤ t.toInt * s.toInt ∧ t.toInt * s.toInt ≤ 160 ∧ (t.toInt * s.toInt).toNat = T * s.toInt.toNat := by
    rw [et]
    have : T = 0 ∨ T = 1 ∨ T = 2 ∨ T = 3 ∨ T = 4 ∨ T = 5 := by omega
    rcases this with e | e | e | e | e | e <;> subst e <;> (refine ⟨?_, ?_, ?_⟩ <;> omega)
  have e1 := t_mul (a := t) (b := s) (by omega) (by omega)
  have e2 := t_add (a := a) (b := t * s) (by omega) (by omega)
  have e3 := t_add (a := a + t * s) (b := f) (by omega) (by omega)
  refine ⟨?_, by rw [vp_in_iff]; omega⟩
  rw [t_cl, e3, e2, e1, ef]
  omega
theorem pa_inj {T S t f t' f' : Nat} (hf : f < S) (hf' : f' < S) (e : T + t * S + f = T + t' * S + f') : t = t' ∧ f = f' := by
  have h1 : ¬ t < t' := fun h => by
    have := Nat.mul_le_mul_right S (Nat.succ_le_of_lt h)
    rw [Nat.succ_mul] at this
    omega
  have h2 : ¬ t' < t := fun h => by
    have := Nat.mul_le_mul_right S (Nat.succ_le_of_lt h)
    rw [Nat.succ_mul] at this
    omega
  have : t = t' := by omega
  subst this
  exact ⟨rfl, by omega⟩
theorem kp_get (hq : kV q) (ho : kiM q o) (hC : CO x) (hG : MG x o) (t f : Int32) {T K : Nat} (et : t.toInt = T) (ef : f.toInt = K) (hT : T < 6) (hK : K < 32) (h : F (rg x o T K) x) : KT G q d zk_X5_get 0 [(0, vr o), (1, vi t), (2, vi f)] [] x (ri F) := by
  obtain ⟨b1, b2, -⟩ := MG_b hC hG
  obtain ⟨e1, e2⟩ := pa_ix et ef b1 (s := x.1 o 8) (by omega) hT hK
  refine kg_X5_get_0 hq ho _ _ ⟨e2, ri_i ?_⟩
  rw [e1]; exact h
theorem kp_set (hq : kV q) (ho : kiM q o) (hC : CO x) (hG : MG x o) (t f v : Int32) {T K : Nat} (et : t.toInt = T) (ef : f.toInt = K) (hT : T < 6) (hK : K < 32) (h : ∀ y, y = si x (o + 5) (pa x o T K) v → Fv y) : KT G q d zk_X5_set 0 [(0, vr o), (1, vi t), (2, vi f), (3, vi v)] [] x (rv Fv) := by
  obtain ⟨b1, b2, -⟩ := MG_b hC hG
  obtain ⟨e1, e2⟩ := pa_ix et ef b1 (s := x.1 o 8) (by omega) hT hK
  refine kg_X5_set_0 hq ho _ _ _ ⟨e2, fun y ey => rv_i (h y ?_)⟩
  rw [ey, e1]; rfl
/-- what acts change -/
def sMk (o c k : Nat) : Prop := c = o + 5 ∨ (c = o ∧ k = 14) ∨ c = o + 20 ∨ (c = 60 ∧ k = 5) ∨ c = 65
theorem CO_M (hO : o = 120 ∨ o = 220) (hC : CO x) (f : fm (sMk o) x y) : CO y := CO_fm hC (fun c k hc => f c k (by unfold sMk; omega))
theorem MG_M (hO : o = 120 ∨ o = 220) (hG : MG x o) (f : fm (sMk o) x y) : MG y o := by
  unfold MG at hG ⊢
  rw [f o 3 (by unfold sMk; omega), f o 5 (by unfold sMk; omega), f o 6 (by unfold sMk; omega), f o 7 (by unfold sMk; omega), f o 8 (by unfold sMk; omega), f o 9 (by unfold sMk; omega), f 60 6 (by unfold sMk; omega), f 60 9 (by unfold sMk; omega), f 60 13 (by unfold sMk; omega), f 60 10 (by unfold sMk; omega)]
  exact hG
/-- a field is set: the others stay -/
theorem rg_set (hO : o = 120 ∨ o = 220) (hC : CO x) (hG : MG x o) {T K t k : Nat} {v : Int32} (hK : (K : Int) < (x.1 o 8).toInt) (hk : (k : Int) < (x.1 o 8).toInt) (e : y = si x (o + 5) (pa x o T K) v) : rg y o t k = if t = T ∧ k = K then v else rg x o t k := by
  have hp : pa y o t k = pa x o t k := by
    unfold pa; rw [e, si_cell (by omega)]
  unfold rg
  rw [hp, e, si_get]
  by_cases h : t = T ∧ k = K
  · rw [if_pos h, if_pos ⟨rfl, by rw [h.1, h.2]⟩]
  · rw [if_neg h, if_neg (fun q => h ?_)]
    exact pa_inj (by omega) (by omega) q.2
/-- a cell or lock is set: fields stay -/
theorem rg_low {j t k : Nat} {v : Int32} (hO : o = 120 ∨ o = 220) (hj : (j : Int) < (x.1 o 7).toInt) (e : y = si x (o + 5) j v) : rg y o t k = rg x o t k := by
  have hp : pa y o t k = pa x o t k := by
    unfold pa; rw [e, si_cell (by omega)]
  unfold rg
  rw [hp, e, si_get, if_neg (fun q => ?_)]
  have := q.2
  unfold pa at this
  omega
/-- nothing of the row changes -/
theorem rg_eq (hO : o = 120 ∨ o = 220) (f : fm (fun c k => (c = o ∧ (k = 13 ∨ k = 14)) ∨ c = o + 20 ∨ (o + 11 ≤ c ∧ c ≤ o + 13) ∨ (c = 60 ∧ k = 5) ∨ c = 65) x y) (t k : Nat) : rg y o t k = rg x o t k := by
  unfold rg pa
  rw [f o 7 (by omega), f o 8 (by omega), f (o + 5) _ (by omega)]
/-- a thread stands well -/
def TA (x : gd) (o t : Nat) : Prop := (0 ≤ (rg x o t 2).toInt ∧ (rg x o t 2).toInt < ssm x) ∧ (0 ≤ (rg x o t 7).toInt ∧ (rg x o t 7).toInt ≤ 8) ∧ (¬ x.1 o 3 = 1 → rg x o t 7 = 0) ∧ (∀ j : Nat, (j : Int) < (rg x o t 7).toInt → 0 ≤ (rg x o t ((x.1 o 9).toInt.toNat + 2 * j)).toInt ∧ (rg x o t ((x.1 o 9).toInt.toNat + 2 * j)).toInt < (x.1 60 6).toInt) ∧ (rg x o t 0 = 0 → rg x o t 3 = 0)
def TGo (x : gd) (o t : Nat) : Prop := rg x o t 0 = 1 → sop x (rg x o t 2).toInt.toNat < 16 ∧ (¬ rg x o t 3 = 0 → sop x (rg x o t 2).toInt.toNat = 7)
def MM (x : gd) (o : Nat) : Prop := CO x ∧ MG x o ∧ ∀ t : Nat, (t : Int) < (x.1 60 10).toInt → TA x o t ∧ TGo x o t
/-- but for the thread that settles -/
def MS (R : Nat → Nat → Int32) (x : gd) (o T : Nat) : Prop := CO x ∧ MG x o ∧ (∀ t : Nat, (t : Int) < (x.1 60 10).toInt → TA x o t ∧ (t ≠ T → TGo x o t)) ∧ ∀ t k : Nat, t ≠ T → (k : Int) < (x.1 o 8).toInt → rg x o t k = R t k
/-- both rows' fields are alike, and the code -/
theorem TA_eq (hO : o = 120 ∨ o = 220) {t : Nat} (f : fm (sMk o) x y) (h : TA x o t) (e : ∀ k, rg y o t k = rg x o t k) : TA y o t := by
  unfold TA ssm at h ⊢
  rw [e, e, e, e, f 80 9 (by unfold sMk; omega), f o 3 (by unfold sMk; omega), f o 9 (by unfold sMk; omega), f 60 6 (by unfold sMk; omega)]
  refine ⟨h.1, h.2.1, h.2.2.1, fun j hj => ?_, h.2.2.2.2⟩
  rw [e]; exact h.2.2.2.1 j hj
theorem TGo_eq (hO : o = 120 ∨ o = 220) {t : Nat} (f : fm (sMk o) x y) (h : TGo x o t) (e : ∀ k, k < 8 → rg y o t k = rg x o t k) : TGo y o t := by
  unfold TGo sop at h ⊢
  rw [e 0 (by omega), e 2 (by omega), e 3 (by omega), f 81 _ (by unfold sMk; omega)]
  exact h
end KMA
end
section
/-! the class: a machine is looked at -/
section KML
variable {G : kG} {q : kP} {d : Nat} {x x0 y z : gd} {o : Nat} {F : Int32 → gd → Prop} {Fv : gd → Prop}
theorem MM_6 (hC : CO x) {t : Nat} (ht : (t : Int) < (x.1 60 10).toInt) : t < 6 := by have := hC.1.2.2.1.2; omega
theorem MM_st (hC : CO x) {t : Nat} (hA : TA x o t) : vp_in (rg x o t 2) 400 ∧ (rg x o t 2).toNatClampNeg = (rg x o t 2).toInt.toNat ∧ (((rg x o t 2).toInt.toNat : Nat) : Int) < ssm x := by
  have := hC.2.2.1.2
  have := hA.1
  exact ⟨by rw [vp_in_iff]; omega, rfl, by omega⟩
theorem kp_isGoing (hq : kV q) (ho : kiM q o) (hC : CO x) (hG : MG x o) (t : Int32) {T : Nat} (et : t.toInt = T) (hT : T < 6) (h1 : rg x o T 0 = 1 → F 1 x) (h0 : ¬ rg x o T 0 = 1 → F 0 x) : KT G q (d + 1) zk_X5_isGoing 0 [(0, vr o), (1, vi t)] [] x (ri F) :=
  kg_X5_isGoing_0 hq ho _ (kp_get hq ho hC hG _ _ et (show (0 : Int32).toInt = ((0 : Nat) : Int) from rfl) hT (by omega) ⟨fun c => ri_i (h0 c), fun c => ri_i (h1 c)⟩)
theorem kp_known (hq : kV q) (ho : kiM q o) (hC : CO x) (hG : MG x o) (t : Int32) {T : Nat} (et : t.toInt = T) (hT : T < 6) (hA : TA x o T) (h : ∀ r : Int32, 0 ≤ r.toInt → r.toInt ≤ 8 → F r x) : KT G q (d + 1) zk_X5_known 0 [(0, vr o), (1, vi t)] [] x (ri F) := by
  have p17 : KT G q (d + 1) zk_X5_known 17 [(0, vr o), (1, vi t)] [] x (ri F) := kg_X5_known_17 hq ho _ (kp_get hq ho hC hG _ _ et (show (2 : Int32).toInt = ((2 : Nat) : Int) from rfl) hT (by omega) (by
    obtain ⟨v, e, l⟩ := MM_st hC hA
    refine ⟨v, ri_i ?_⟩
    rw [e]
    have := (hC.2.2.2.1 _ l).2.2.1
    exact h _ this.1 this.2))
  exact kg_X5_known_0 hq ho _ (kp_get hq ho hC hG _ _ et (show (0 : Int32).toInt = ((0 : Nat) : Int) from rfl) hT (by omega) ⟨fun _ => p17, fun _ => ⟨fun _ => ri_i (h _ (by decide) (by decide)), fun _ => p17⟩⟩)
theorem kp_lineOf (hq : kV q) (ho : kiM q o) (hC : CO x) (hG : MG x o) (t : Int32) {T : Nat} (et : t.toInt = T) (hT : T < 6) (hA : TA x o T) (h : ∀ r : Int32, F r x) : KT G q (d + 2) zk_X5_lineOf 0 [(0, vr o), (1, vi t)] [] x (ri F) := by
  have p : KT G q (d + 1) zk_X5_get 0 [(0, vr o), (1, vi t), (2, vi 2)] [] x (ri (fun r5 x4 => vp_in r5 400 ∧ ri F (some (vi (x4.1 82 (r5 : Int32).toNatClampNeg))) x4)) := kp_get hq ho hC hG _ _ et (show (2 : Int32).toInt = ((2 : Nat) : Int) from rfl) hT (by omega) ⟨(MM_st hC hA).1, ri_i (h _)⟩
  exact kg_X5_lineOf_0 hq ho _ (kp_isGoing hq ho hC hG t et hT (fun _ => ⟨fun _ => ri_i (h _), fun _ => p⟩) (fun _ => ⟨fun _ => ri_i (h _), fun _ => p⟩))
theorem kp_sortOf (hq : kV q) (ho : kiM q o) (hC : CO x) (hG : MG x o) (t : Int32) {T : Nat} (et : t.toInt = T) (hT : T < 6) (hA : TA x o T) (h0 : rg x o T 3 = 0 → F (x.1 81 (rg x o T 2).toInt.toNat) x) (h1 : ¬ rg x o T 3 = 0 → F 15 x) : KT G q (d + 1) zk_X5_sortOf 0 [(0, vr o), (1, vi t)] [] x (ri F) :=
  kg_X5_sortOf_0 hq ho _ (kp_get hq ho hC hG _ _ et (show (3 : Int32).toInt = ((3 : Nat) : Int) from rfl) hT (by omega) ⟨fun c => kp_get hq ho hC hG _ _ et (show (2 : Int32).toInt = ((2 : Nat) : Int) from rfl) hT (by omega) ⟨(MM_st hC hA).1, ri_i (h0 c)⟩, fun c => ri_i (h1 c)⟩)
theorem lk_ix (hC : CO x) (hG : MG x o) {l : Int32} (h0 : 0 ≤ l.toInt) (h1 : l.toInt < (x.1 60 9).toInt) : (x.1 o 6 + 2 * l).toInt = (x.1 60 6).toInt + 2 * l.toInt ∧ (x.1 o 6 + 2 * l + 1).toInt = (x.1 60 6).toInt + 2 * l.toInt + 1 ∧ (x.1 60 6).toInt + 2 * l.toInt + 1 < (x.1 o 7).toInt ∧ 0 ≤ (x.1 60 6).toInt + 2 * l.toInt ∧ (x.1 o 7).toInt ≤ 36 := by
  have k1 : (1 : Int32).toInt = 1 := rfl
  have k2 : (2 : Int32).toInt = 2 := rfl
  obtain ⟨g1, g2, g3, -⟩ := hG
  obtain ⟨⟨c1, c2, -⟩, -⟩ := hC
  have e1 : (2 * l).toInt = 2 * l.toInt := by rw [t_mul (by rw [k2]; omega) (by rw [k2]; omega), k2]
  have e2 : (x.1 o 6 + 2 * l).toInt = (x.1 60 6).toInt + 2 * l.toInt := by rw [t_add (by omega) (by omega)]; omega
  have e3 : (x.1 o 6 + 2 * l + 1).toInt = (x.1 60 6).toInt + 2 * l.toInt + 1 := by rw [t_add (by rw [k1]; omega) (by rw [k1]; omega), k1, e2]
  exact ⟨e2, e3, by omega, by omega, by omega⟩
theorem kp_holder (hq : kV q) (ho : kiM q o) (hC : CO x) (hG : MG x o) (l : Int32) (h0 : 0 ≤ l.toInt) (h1 : l.toInt < (x.1 60 9).toInt) (h : ∀ r : Int32, F r x) : KT G q d zk_X5_holder 0 [(0, vr o), (1, vi l)] [] x (ri F) := by
  obtain ⟨e1, e2, e3, e4, e5⟩ := lk_ix hC hG h0 h1
  exact kg_X5_holder_0 hq ho _ ⟨by rw [vp_in_iff]; omega, ri_i (h _)⟩
theorem kp_often (hq : kV q) (ho : kiM q o) (hC : CO x) (hG : MG x o) (l : Int32) (h0 : 0 ≤ l.toInt) (h1 : l.toInt < (x.1 60 9).toInt) (h : ∀ r : Int32, F r x) : KT G q d zk_X5_often 0 [(0, vr o), (1, vi l)] [] x (ri F) := by
  obtain ⟨e1, e2, e3, e4, e5⟩ := lk_ix hC hG h0 h1
  exact kg_X5_often_0 hq ho _ ⟨by rw [vp_in_iff]; omega, ri_i (h _)⟩
theorem kp_heldBy (hq : kV q) (ho : kiM q o) (hC : CO x) (hG : MG x o) (t : Int32) (h : ∀ r : Int32, F r x) : KT G q (d + 1) zk_X5_heldBy 0 [(0, vr o), (1, vi t)] [] x (ri F) := by
  have hb := hC.1.2.1
  have loop : ∀ (n : Nat) (a i : Int32), 0 ≤ i.toInt → (x.1 60 9).toInt - i.toInt ≤ n → KT G q (d + 1) zk_X5_heldBy 4 [(0, vr o), (1, vi t), (2, vi a), (3, vi i)] [] x (ri F) := by
    intro n
    induction n with
    | zero =>
      intro a i i0 hn
      refine kg_X5_heldBy_4 hq ho _ _ _ ⟨fun _ => ri_i (h _), fun c => ?_⟩
      exfalso; rw [t_le] at c; omega
    | succ n ih =>
      intro a i i0 hn
      refine kg_X5_heldBy_4 hq ho _ _ _ ⟨fun _ => ri_i (h _), fun c => ?_⟩
      rw [t_le] at c
      have e1 : (i + 1).toInt = i.toInt + 1 := t_add (by show _ ≤ _ + (1 : Int); omega) (by show _ + (1 : Int) ≤ _; omega)
      exact kp_holder hq ho hC hG _ i0 (by omega) (fun r => ⟨fun _ => ih _ _ (by omega) (by omega), fun _ => ih _ _ (by omega) (by omega)⟩)
  exact kg_X5_heldBy_0 hq ho _ (loop 6 _ _ (by decide) (by show _ - (0 : Int) ≤ _; omega))
theorem kp_waiters (hq : kV q) (ho : kiM q o) (hC : CO x) (hG : MG x o) (l : Int32) (h : ∀ r : Int32, F r x) : KT G q (d + 1) zk_X5_waiters 0 [(0, vr o), (1, vi l)] [] x (ri F) := by
  have hb := hC.1.2.2.1
  have loop : ∀ (n k : Nat) (a i : Int32), i.toInt = k → (x.1 60 10).toInt - k ≤ n → KT G q (d + 1) zk_X5_waiters 4 [(0, vr o), (1, vi l), (2, vi a), (3, vi i)] [] x (ri F) := by
    intro n
    induction n with
    | zero =>
      intro k a i ei hn
      refine kg_X5_waiters_4 hq ho _ _ _ ⟨fun _ => ri_i (h _), fun c => ?_⟩
      exfalso; rw [t_le] at c; omega
    | succ n ih =>
      intro k a i ei hn
      refine kg_X5_waiters_4 hq ho _ _ _ ⟨fun _ => ri_i (h _), fun c => ?_⟩
      rw [t_le] at c
      have e1 : (i + 1).toInt = ((k + 1 : Nat) : Int) := by rw [t_add (by show _ ≤ _ + (1 : Int); omega) (by show _ + (1 : Int) ≤ _; omega), ei]; rfl
      exact kp_get hq ho hC hG _ _ ei (show (3 : Int32).toInt = ((3 : Nat) : Int) from rfl) (by omega) (by omega) ⟨fun _ => ih (k + 1) _ _ e1 (by push_cast; omega), fun _ => kp_get hq ho hC hG _ _ ei (show (5 : Int32).toInt = ((5 : Nat) : Int) from rfl) (by omega) (by omega) ⟨fun _ => ih (k + 1) _ _ e1 (by push_cast; omega), fun _ => ih (k + 1) _ _ e1 (by push_cast; omega)⟩⟩
  exact kg_X5_waiters_0 hq ho _ (loop 6 0 _ _ rfl (by omega))
theorem lt_ix (hC : CO x) (hG : MG x o) {j : Int32} {J : Nat} (ej : j.toInt = J) (hJ : J < 8) : (x.1 o 9 + 2 * j).toInt = (((x.1 o 9).toInt.toNat + 2 * J : Nat) : Int) ∧ (x.1 o 9 + 2 * j + 1).toInt = (((x.1 o 9).toInt.toNat + 2 * J + 1 : Nat) : Int) ∧ (x.1 o 9).toInt.toNat + 2 * J + 1 < 32 := by
  have k1 : (1 : Int32).toInt = 1 := rfl
  have k2 : (2 : Int32).toInt = 2 := rfl
  obtain ⟨-, -, b3, -⟩ := MG_b hC hG
  have e1 : (2 * j).toInt = 2 * J := by rw [t_mul (by rw [k2]; omega) (by rw [k2]; omega), k2, ej]
  have e2 : (x.1 o 9 + 2 * j).toInt = (x.1 o 9).toInt + 2 * J := by rw [t_add (by omega) (by omega), e1]
  have e3 : (x.1 o 9 + 2 * j + 1).toInt = (x.1 o 9).toInt + 2 * J + 1 := by rw [t_add (by rw [k1]; omega) (by rw [k1]; omega), k1, e2]
  exact ⟨by omega, by omega, by omega⟩
theorem kp_lateCell (hq : kV q) (ho : kiM q o) (hC : CO x) (hG : MG x o) (t j : Int32) {T J : Nat} (et : t.toInt = T) (hT : T < 6) (ej : j.toInt = J) (hJ : J < 8) (h : F (rg x o T ((x.1 o 9).toInt.toNat + 2 * J)) x) : KT G q (d + 1) zk_X5_lateCell 0 [(0, vr o), (1, vi t), (2, vi j)] [] x (ri F) := by
  obtain ⟨e1, e2, e3⟩ := lt_ix hC hG ej hJ
  exact kg_X5_lateCell_0 hq ho _ _ (kp_get hq ho hC hG _ _ et e1 hT (by omega) (ri_i h))
/-- what looking changes -/
def sLk (o c k : Nat) : Prop := (c = o ∧ k = 14) ∨ (c = 60 ∧ k = 5) ∨ c = 65
theorem sLk_M {c k : Nat} (h : sLk o c k) : sMk o c k := by unfold sLk at h; unfold sMk; omega
theorem rg_Lk (hO : o = 120 ∨ o = 220) (f : fm (sLk o) x y) (t k : Nat) : rg y o t k = rg x o t k := rg_eq hO (fm_w f (fun c k q => by unfold sLk at q; omega)) t k
theorem MM_Lk (hO : o = 120 ∨ o = 220) (f : fm (sLk o) x y) (h : MM x o) : MM y o := by
  have g := fm_w f (fun c k q => sLk_M q)
  refine ⟨CO_M hO h.1 g, MG_M hO h.2.1 g, fun t ht => ?_⟩
  rw [f 60 10 (by unfold sLk; omega)] at ht
  exact ⟨TA_eq hO g (h.2.2 t ht).1 (rg_Lk hO f t), TGo_eq hO g (h.2.2 t ht).2 (fun k _ => rg_Lk hO f t k)⟩
end KML
end
section
/-! the class: a thread settles -/
section KSE
variable {G : kG} {q : kP} {d : Nat} {x x0 y z : gd} {o : Nat} {R : Nat → Nat → Int32} {F : Int32 → gd → Prop} {Fv : gd → Prop}
def sSt (o c k : Nat) : Prop := c = o + 5 ∨ (c = 60 ∧ k = 5) ∨ c = 65
theorem sSt_M {c k : Nat} (h : sSt o c k) : sMk o c k := by unfold sSt at h; unfold sMk; omega
theorem TA_set (hO : o = 120 ∨ o = 220) (hC : CO x) (hG : MG x o) {T K t : Nat} {v : Int32} (hK : (K : Int) < (x.1 o 9).toInt) (h7 : K ≠ 7) (e : y = si x (o + 5) (pa x o T K) v) (hA : TA x o t) (c2 : t = T → K = 2 → 0 ≤ v.toInt ∧ v.toInt < ssm x) (c0 : t = T → K = 0 → v = 0 → rg x o T 3 = 0) (c3 : t = T → K = 3 → rg x o T 0 = 0 → v = 0) : TA y o t := by
  obtain ⟨b1, b2, b3, b4, b5, -⟩ := MG_b hC hG
  have g : ∀ k : Nat, (k : Int) < (x.1 o 8).toInt → rg y o t k = if t = T ∧ k = K then v else rg x o t k := fun k hk => rg_set hO hC hG (by omega) hk e
  have f : ∀ c k, c ≠ o + 5 → y.1 c k = x.1 c k := fun c k hc => by rw [e, si_cell hc]
  obtain ⟨a1, a2, a3, a4, a5⟩ := hA
  have e7 : rg y o t 7 = rg x o t 7 := by rw [g 7 (by omega), if_neg (fun q => h7 q.2.symm)]
  unfold TA ssm
  rw [e7, f 80 9 (by omega), f o 3 (by omega), f o 9 (by omega), f 60 6 (by omega)]
  refine ⟨?_, a2, a3, fun j hj => ?_, fun c => ?_⟩
  · rw [g 2 (by omega)]
    by_cases h : t = T ∧ 2 = K
    · rw [if_pos h]; exact c2 h.1 h.2.symm
    · rw [if_neg h]; exact a1
  · have hw : x.1 o 3 = 1 := by
      by_cases hw : x.1 o 3 = 1
      · exact hw
      · have h0 := a3 hw
        rw [h0] at hj
        have : (0 : Int32).toInt = 0 := rfl
        omega
    have := b5 hw
    rw [g _ (by omega), if_neg (fun q => by omega)]
    exact a4 j hj
  · rw [g 3 (by omega)]
    rw [g 0 (by omega)] at c
    by_cases h : t = T ∧ 3 = K
    · rw [if_pos h]
      rw [if_neg (fun q => by omega)] at c
      exact c3 h.1 h.2.symm (by rw [← h.1]; exact c)
    · rw [if_neg h]
      by_cases h0 : t = T ∧ 0 = K
      · rw [if_pos h0] at c
        rw [h0.1]; exact c0 h0.1 h0.2.symm c
      · rw [if_neg h0] at c
        exact a5 c
theorem TGo_set (hO : o = 120 ∨ o = 220) (hC : CO x) (hG : MG x o) {T K t : Nat} {v : Int32} (hK : (K : Int) < (x.1 o 8).toInt) (e : y = si x (o + 5) (pa x o T K) v) (hh : t ≠ T ∨ (K ≠ 0 ∧ K ≠ 2 ∧ K ≠ 3)) (h : TGo x o t) : TGo y o t := by
  obtain ⟨b1, b2, -⟩ := MG_b hC hG
  have g : ∀ k : Nat, k = 0 ∨ k = 2 ∨ k = 3 → rg y o t k = rg x o t k := fun k hk => by
    rw [rg_set hO hC hG hK (by omega) e, if_neg (fun q => by omega)]
  unfold TGo sop at h ⊢
  rw [g 0 (by omega), g 2 (by omega), g 3 (by omega), e, si_cell (by omega)]
  exact h
theorem st_f {z9 : Nat} {v : Int32} (e : y = si x (o + 5) z9 v) : fm (sSt o) x y := by rw [e]; exact fm_si (fm_rf _ _) (Or.inl rfl)
theorem MS_set (hO : o = 120 ∨ o = 220) {T K : Nat} {v : Int32} (h : MS R x o T) (hK : (K : Int) < (x.1 o 9).toInt) (h7 : K ≠ 7) (e : y = si x (o + 5) (pa x o T K) v) (c2 : K = 2 → 0 ≤ v.toInt ∧ v.toInt < ssm x) (c0 : K = 0 → v = 0 → rg x o T 3 = 0) (c3 : K = 3 → rg x o T 0 = 0 → v = 0) : MS R y o T := by
  have g := fm_w (st_f e) (fun c k q => sSt_M q)
  obtain ⟨b1, b2, b3, b4, -⟩ := MG_b h.1 h.2.1
  refine ⟨CO_M hO h.1 g, MG_M hO h.2.1 g, fun t ht => ?_, fun t k hne hk => ?_⟩
  · rw [g 60 10 (by unfold sMk; omega)] at ht
    exact ⟨TA_set hO h.1 h.2.1 hK h7 e (h.2.2.1 t ht).1 (fun _ => c2) (fun _ => c0) (fun _ => c3), fun hne => TGo_set hO h.1 h.2.1 (by omega) e (Or.inl hne) ((h.2.2.1 t ht).2 hne)⟩
  · rw [g o 8 (by unfold sMk; omega)] at hk
    rw [rg_set hO h.1 h.2.1 (by omega) hk e, if_neg (fun q => hne q.1)]
    exact h.2.2.2 t k hne hk
theorem MS_St (hO : o = 120 ∨ o = 220) {T : Nat} (f : fm sWk x y) (h : MS R x o T) : MS R y o T := by
  have g : fm (sMk o) x y := fm_w f (fun c k q => by unfold sWk at q; unfold sMk; omega)
  have e : ∀ t k, rg y o t k = rg x o t k := fun t k => rg_eq hO (fm_w f (fun c k q => by unfold sWk at q; omega)) t k
  refine ⟨CO_M hO h.1 g, MG_M hO h.2.1 g, fun t ht => ?_, fun t k hne hk => ?_⟩
  · rw [g 60 10 (by unfold sMk; omega)] at ht
    exact ⟨TA_eq hO g (h.2.2.1 t ht).1 (e t), fun hne => TGo_eq hO g ((h.2.2.1 t ht).2 hne) (fun k _ => e t k)⟩
  · rw [g o 8 (by unfold sMk; omega)] at hk
    rw [e]; exact h.2.2.2 t k hne hk
theorem MS_MM {T9 : Nat} (h : MS R x o T9) (hT : (T9 : Int) < (x.1 60 10).toInt → TGo x o T9) : MM x o := ⟨h.1, h.2.1, fun t ht => ⟨(h.2.2.1 t ht).1, by
  by_cases e : t = T9
  · subst e; exact hT ht
  · exact (h.2.2.1 t ht).2 e⟩⟩
theorem MM_MS {T : Nat} (h : MM x o) : MS (rg x o) x o T := ⟨h.1, h.2.1, fun t ht => ⟨(h.2.2 t ht).1, fun _ => (h.2.2 t ht).2⟩, fun _ _ _ _ => rfl⟩
def rk (x : gd) (s : Nat) : Nat := if sop x s = 17 then 0 else 401 - s
end KSE
end
section
/-! the class: what becomes of a thread that settles -/
section KSF
variable {G : kG} {q : kP} {d : Nat} {x x0 y z : gd} {o : Nat} {R : Nat → Nat → Int32} {F : Int32 → gd → Prop} {Fv : gd → Prop} {C : gCo}
theorem SUk_f {r : Int32} {P : List (Int32 × Int32)} (h : SUk x r P) (f : ∀ c k, (60 ≤ c ∧ c < 90 ∧ ¬ (c = 60 ∧ k = 5) ∧ c ≠ 65) → y.1 c k = x.1 c k) : SUk y r P := by
  obtain ⟨h1, h2, h3, h4⟩ := h
  refine ⟨h1, by rw [f 60 3 (by omega)]; exact h2, fun i q hq => ?_, by rw [f 62 _ (by omega)]; exact h4⟩
  rw [f 62 _ (by omega), f 63 _ (by omega)]
  exact h3 i q hq
theorem CK_f (h : CK x C) (f : ∀ c k, (60 ≤ c ∧ c < 90 ∧ ¬ (c = 60 ∧ k = 5) ∧ c ≠ 65) → y.1 c k = x.1 c k) : CK y C := by
  obtain ⟨⟨a1, a2⟩, ⟨b1, b2⟩, ⟨c1, c2⟩, ⟨d1, d2⟩, ⟨e1, e2⟩⟩ := h
  have ks : ∀ {v : Int32} {o : Option (List gQ)}, kNs x v o → kNs y v o := fun {v o} h => by
    cases o with
    | none => exact h
    | some Q => exact SUk_f h f
  refine ⟨⟨by rw [f 80 9 (by omega)]; exact a1, fun j st hj => ?_⟩, ⟨by rw [f 60 10 (by omega)]; exact b1, fun t q hq => by rw [f 72 _ (by omega), f 73 _ (by omega)]; exact b2 t q hq⟩, ⟨by rw [f 60 6 (by omega)]; exact c1, fun j q hq => by rw [f 68 _ (by omega), f 69 _ (by omega)]; exact c2 j q hq⟩, ⟨by rw [f 60 14 (by omega)]; exact d1, fun k Q hQ => by rw [f 76 _ (by omega)]; exact SUk_f (d2 k Q hQ) f⟩, ⟨by rw [f 60 16 (by omega)]; exact e1, fun k Q hQ => by rw [f 78 _ (by omega)]; exact SUk_f (e2 k Q hQ) f⟩⟩
  obtain ⟨g1, g2, g3, g4, g5, g6, g7, g8, g9⟩ := a2 j st hj
  unfold kN
  rw [f 81 _ (by omega), f 83 _ (by omega), f 84 _ (by omega), f 85 _ (by omega), f 86 _ (by omega), f 87 _ (by omega), f 88 _ (by omega), f 89 _ (by omega)]
  exact ⟨g1, g2, g3, g4, g5, g6, ks g7, ks g8, ks g9⟩
theorem CK_St (hO : o = 120 ∨ o = 220) (h : CK x C) (f : fm (sSt o) x y) : CK y C := CK_f h (fun c k hc => f c k (by unfold sSt; omega))
theorem kf_localsAt (hq : kV q) (ho : kiM q o) (hC : CO x) (hG : MG x o) (t : Int32) {T : Nat} (et : t.toInt = T) (hT : T < 6) (h : ∀ r : Int32, r.toInt = (pa x o T 8 : Nat) → r.toInt ≤ 204 → F r x) : KT G q d zk_X5_localsAt 0 [(0, vr o), (1, vi t)] [] x (ri F) := by
  obtain ⟨b1, b2, -⟩ := MG_b hC hG
  obtain ⟨e1, e2⟩ := pa_ix et (show (8 : Int32).toInt = ((8 : Nat) : Int) from rfl) b1 (s := x.1 o 8) (by omega) hT (by omega)
  have v := vp_in_iff.mp e2
  refine kg_X5_localsAt_0 hq ho _ (ri_i (h _ ?_ ?_))
  · rw [t_cl] at e1
    unfold pa
    omega
  · rw [t_cl] at e1
    have : T * (x.1 o 8).toInt.toNat ≤ 5 * 32 := Nat.mul_le_mul (by omega) (by omega)
    omega
/-- cells and locks stay; a thread's other fields stay -/
def lowE (x y : gd) (o : Nat) : Prop := ∀ j : Nat, (j : Int) < (x.1 o 7).toInt → y.1 (o + 5) j = x.1 (o + 5) j
def sUx (x y : gd) (o T : Nat) : Prop := (∀ k, 3 ≤ k → k < 8 → rg y o T k = rg x o T k) ∧ lowE x y o
theorem lowE_tr (hO : o = 120 ∨ o = 220) (f : fm (sSt o) x y) (a : lowE x y o) (b : lowE y z o) : lowE x z o := fun j hj => (b j (by rw [f o 7 (by unfold sSt; omega)]; exact hj)).trans (a j hj)
theorem sUx_tr {T : Nat} (hO : o = 120 ∨ o = 220) (f : fm (sSt o) x y) (a : sUx x y o T) (b : sUx y z o T) : sUx x z o T := ⟨fun k k3 k8 => (b.1 k k3 k8).trans (a.1 k k3 k8), lowE_tr hO f a.2 b.2⟩
theorem sUx_rf {T : Nat} : sUx x x o T := ⟨fun _ _ _ => rfl, fun _ _ => rfl⟩
theorem aftN_le {st : gNs} : st.2.1.length ≤ (aftN st).length ∧ (aftN st).length ≤ st.2.1.length + 1 := by
  unfold aftN
  split
  · exact ⟨Nat.le_succ _, Nat.le_refl _⟩
  · exact ⟨Nat.le_refl _, Nat.le_succ _⟩
theorem ow1_next {S : List gNs} {me : Int32} {s s2 : Nat} {st : gNs} {lv lv2 : Nat → Int32} (hn : NS S s st) (h16 : 16 ≤ st.1) (h : ow1 me s st lv = .inr (s2, lv2)) : ∃ st', S[s2]? = some st' ∧ st'.2.1.length ≤ (aftN st).length := by
  unfold ow1 at h
  split at h
  · cases h
  · next c1 =>
    have nx : ¬ st.1 = 20 → ∃ st', S[s + 1]? = some st' ∧ st'.2.1.length ≤ (aftN st).length := fun c20 => by
      obtain ⟨st', a1, a2⟩ := hn.2.1 (by omega)
      exact ⟨st', a1, a2.length_le⟩
    have tg : st.1 = 17 ∨ st.1 = 20 → ∃ st', S[st.2.2.2.1.getD 0]? = some st' ∧ st'.2.1.length ≤ (aftN st).length := fun c => by
      obtain ⟨n, st', a0, a1, a2⟩ := hn.2.2.1 c
      rw [a0]
      exact ⟨st', a1, Nat.le_trans a2.length_le aftN_le.1⟩
    split at h
    · next c2 =>
      cases h
      exact tg (Or.inr c2)
    · next c2 =>
      split at h
      · cases h
      · split at h
        · cases h
        · cases h
          split
          · next c3 => exact tg (Or.inl c3.1)
          · exact nx c2
end KSF
end
section
/-! the class: acts -/
section KAC
variable {G : kG} {q : kP} {d : Nat} {x x0 y z : gd} {o : Nat} {F : Int32 → gd → Prop} {Fv : gd → Prop}
/-- a field of a thread is put, the machine stays well -/
theorem MM_put (hO : o = 120 ∨ o = 220) (h : MM x o) {T K : Nat} {v : Int32} (hK : (K : Int) < (x.1 o 8).toInt) (e : y = si x (o + 5) (pa x o T K) v) (h0 : K ≠ 0 ∧ K ≠ 2) (h3 : K = 3 → v = 0 ∨ (rg x o T 0 = 1 ∧ sop x (rg x o T 2).toInt.toNat = 7)) (h7 : K = 7 → (0 ≤ v.toInt ∧ v.toInt ≤ 8) ∧ (¬ x.1 o 3 = 1 → v = 0) ∧ ∀ j : Nat, (j : Int) < v.toInt → 0 ≤ (rg x o T ((x.1 o 9).toInt.toNat + 2 * j)).toInt ∧ (rg x o T ((x.1 o 9).toInt.toNat + 2 * j)).toInt < (x.1 60 6).toInt) (h9 : ∀ j : Nat, (j : Int) < (rg x o T 7).toInt → K = (x.1 o 9).toInt.toNat + 2 * j → 0 ≤ v.toInt ∧ v.toInt < (x.1 60 6).toInt) : MM y o := by
  obtain ⟨hC, hG, hA⟩ := h
  obtain ⟨b1, b2, b3, b4, b5, -⟩ := MG_b hC hG
  have gM := fm_w (st_f e) (fun c k q => sSt_M q)
  have f : ∀ c k, c ≠ o + 5 → y.1 c k = x.1 c k := fun c k hc => by rw [e, si_cell hc]
  refine ⟨CO_M hO hC gM, MG_M hO hG gM, fun t ht => ?_⟩
  rw [f 60 10 (by omega)] at ht
  obtain ⟨⟨a1, a2, a3, a4, a5⟩, ag⟩ := hA t ht
  have g : ∀ k : Nat, (k : Int) < (x.1 o 8).toInt → rg y o t k = if t = T ∧ k = K then v else rg x o t k := fun k hk => rg_set hO hC hG hK hk e
  have g0 : rg y o t 0 = rg x o t 0 := by rw [g 0 (by omega), if_neg (fun q => h0.1 q.2.symm)]
  have g2 : rg y o t 2 = rg x o t 2 := by rw [g 2 (by omega), if_neg (fun q => h0.2 q.2.symm)]
  refine ⟨?_, ?_⟩
  · unfold TA ssm
    rw [g0, g2, f 80 9 (by omega), f o 3 (by omega), f o 9 (by omega), f 60 6 (by omega)]
    refine ⟨a1, ?_, ?_, ?_, ?_⟩
    · rw [g 7 (by omega)]
      by_cases hh : t = T ∧ 7 = K
      · rw [if_pos hh]; exact (h7 hh.2.symm).1
      · rw [if_neg hh]; exact a2
    · rw [g 7 (by omega)]
      by_cases hh : t = T ∧ 7 = K
      · rw [if_pos hh]; exact (h7 hh.2.symm).2.1
      · rw [if_neg hh]; exact a3
    · intro j hj
      rw [g 7 (by omega)] at hj
      by_cases hh : t = T ∧ 7 = K
      · rw [if_pos hh] at hj
        obtain ⟨p1, p2, p3⟩ := h7 hh.2.symm
        have hw : x.1 o 3 = 1 := by
          by_cases hw : x.1 o 3 = 1
          · exact hw
          · have h0 := p2 hw
            rw [h0] at hj
            have : (0 : Int32).toInt = 0 := rfl
            omega
        have := b5 hw
        rw [g _ (by omega), if_neg (fun q => by omega), hh.1]
        exact p3 j hj
      · rw [if_neg hh] at hj
        have hw : x.1 o 3 = 1 := by
          by_cases hw : x.1 o 3 = 1
          · exact hw
          · have h0 := a3 hw
            rw [h0] at hj
            have : (0 : Int32).toInt = 0 := rfl
            omega
        have := b5 hw
        rw [g _ (by omega)]
        by_cases h2 : t = T ∧ (x.1 o 9).toInt.toNat + 2 * j = K
        · rw [if_pos h2]; exact h9 j (by rw [← h2.1]; exact hj) h2.2.symm
        · rw [if_neg h2]; exact a4 j hj
    · intro c
      rw [g 3 (by omega)]
      by_cases hh : t = T ∧ 3 = K
      · rw [if_pos hh]
        rcases h3 hh.2.symm with e0 | ⟨e1, -⟩
        · exact e0
        · rw [hh.1, e1] at c; exact absurd c (by decide)
      · rw [if_neg hh]; exact a5 c
  · unfold TGo sop at *
    rw [g0, g2, f 81 _ (by omega), g 3 (by omega)]
    intro c
    refine ⟨(ag c).1, fun c3 => ?_⟩
    by_cases hh : t = T ∧ 3 = K
    · rw [if_pos hh] at c3
      rcases h3 hh.2.symm with e0 | ⟨-, e7⟩
      · exact absurd e0 c3
      · rw [hh.1]; exact e7
    · rw [if_neg hh] at c3; exact (ag c).2 c3
/-- cells of the row change, or what is no row -/
theorem MM_low (hO : o = 120 ∨ o = 220) (h : MM x o) (f : fm (sMk o) x y) (e : ∀ t k, rg y o t k = rg x o t k) : MM y o := by
  refine ⟨CO_M hO h.1 f, MG_M hO h.2.1 f, fun t ht => ?_⟩
  rw [f 60 10 (by unfold sMk; omega)] at ht
  exact ⟨TA_eq hO f (h.2.2 t ht).1 (e t), TGo_eq hO f (h.2.2 t ht).2 (fun k _ => e t k)⟩
end KAC
end
section
/-! the class: what acts do -/
section KDO
variable {G : kG} {q : kP} {d : Nat} {x x0 y z : gd} {o : Nat} {F : Int32 → gd → Prop} {Fv : gd → Prop}
/-- an act: status and step stay; of the deed only what S says changes -/
def AR (S : Nat → Prop) (x y : gd) (o : Nat) : Prop := MM y o ∧ fm (sMk o) x y ∧ (∀ t k : Nat, (k = 0 ∨ k = 2) → rg y o t k = rg x o t k) ∧ ∀ k, ¬ S k → y.1 (o + 20) k = x.1 (o + 20) k
theorem AR_tr {S : Nat → Prop} (a : AR S x y o) (b : AR S y z o) : AR S x z o := ⟨b.1, fm_tr a.2.1 b.2.1, fun t k h => (b.2.2.1 t k h).trans (a.2.2.1 t k h), fun k h => (b.2.2.2 k h).trans (a.2.2.2 k h)⟩
theorem AR_rf {S : Nat → Prop} (h : MM x o) : AR S x x o := ⟨h, fm_rf _ _, fun _ _ _ => rfl, fun _ _ => rfl⟩
theorem AR_w {S S' : Nat → Prop} (a : AR S x y o) (h : ∀ k, S k → S' k) : AR S' x y o := ⟨a.1, a.2.1, a.2.2.1, fun k hk => a.2.2.2 k (fun q => hk (h k q))⟩
theorem AR_deed {S : Nat → Prop} (hO : o = 120 ∨ o = 220) (h : MM x o) {k : Nat} {v : Int32} (hS : S k) (e : y = si x (o + 20) k v) : AR S x y o ∧ ∀ t j, rg y o t j = rg x o t j := by
  have f : fm (fun c j => c = o + 20 ∧ j = k) x y := by rw [e]; exact fm_si (fm_rf _ _) ⟨rfl, rfl⟩
  have fM : fm (sMk o) x y := fm_w f (fun c j q => by unfold sMk; omega)
  have r : ∀ t j, rg y o t j = rg x o t j := fun t j => rg_eq hO (fm_w f (fun c j q => by omega)) t j
  exact ⟨⟨MM_low hO h fM r, fM, fun t j _ => r t j, fun j hj => f _ _ (fun q => hj (by rw [q.2]; exact hS))⟩, r⟩
theorem AR_wk {S : Nat → Prop} (hO : o = 120 ∨ o = 220) (h : MM x o) (f : fm sWk x y) : AR S x y o ∧ ∀ t j, rg y o t j = rg x o t j := by
  have fM : fm (sMk o) x y := fm_w f (fun c j q => by unfold sWk at q; unfold sMk; omega)
  have r : ∀ t j, rg y o t j = rg x o t j := fun t j => rg_eq hO (fm_w f (fun c j q => by unfold sWk at q; omega)) t j
  exact ⟨⟨MM_low hO h fM r, fM, fun t j _ => r t j, fun j hj => f _ _ (by unfold sWk; omega)⟩, r⟩
theorem AR_row {S : Nat → Prop} (hO : o = 120 ∨ o = 220) (h : MM x o) (f : fm (fun c k => c = o + 5) x y) (r : ∀ t j, rg y o t j = rg x o t j) : AR S x y o := by
  have fM : fm (sMk o) x y := fm_w f (fun c j q => Or.inl q)
  exact ⟨MM_low hO h fM r, fM, fun t j _ => r t j, fun j hj => f _ _ (by omega)⟩
theorem AR_9 {S : Nat → Prop} (hO : o = 120 ∨ o = 220) (a : AR S x y o) : y.1 o 9 = x.1 o 9 ∧ y.1 60 10 = x.1 60 10 ∧ y.1 60 6 = x.1 60 6 := ⟨a.2.1 _ _ (by unfold sMk; omega), a.2.1 _ _ (by unfold sMk; omega), a.2.1 _ _ (by unfold sMk; omega)⟩
end KDO
end
section
/-! the class: a choice is performed -/
section KPF
variable {G : kG} {q : kP} {d : Nat} {x x0 y z : gd} {o : Nat} {F : Int32 → gd → Prop} {Fv : gd → Prop}
abbrev S346 : Nat → Prop := fun k => k = 2 ∨ k = 3 ∨ k = 4 ∨ k = 6
/-- the deed that was done -/
def DE (y : gd) (o : Nat) : Prop := gbool (y.1 (o + 20) 5) ∧ (y.1 (o + 20) 0 = -1 ∨ ((0 ≤ (y.1 (o + 20) 0).toInt ∧ (y.1 (o + 20) 0).toInt < (y.1 60 10).toInt) ∧ 0 ≤ (y.1 (o + 20) 1).toInt ∧ (y.1 (o + 20) 5 = 0 → ((y.1 (o + 20) 1).toInt ≤ 4 → 0 ≤ (y.1 (o + 20) 2).toInt ∧ (y.1 (o + 20) 2).toInt < (y.1 60 6).toInt) ∧ ((5 ≤ (y.1 (o + 20) 1).toInt ∧ (y.1 (o + 20) 1).toInt ≤ 8) ∨ (y.1 (o + 20) 1).toInt = 15 → 0 ≤ (y.1 (o + 20) 2).toInt ∧ (y.1 (o + 20) 2).toInt < (y.1 60 9).toInt) ∧ ((y.1 (o + 20) 1).toInt = 9 ∨ (y.1 (o + 20) 1).toInt = 10 → 0 ≤ (y.1 (o + 20) 2).toInt ∧ (y.1 (o + 20) 2).toInt < (y.1 60 10).toInt))))
/-- the choices that are listed -/
def LSk (x : gd) (o : Nat) : Prop := (0 ≤ (x.1 o 13).toInt ∧ (x.1 o 13).toInt ≤ 84) ∧ ∀ i : Nat, (i : Int) < (x.1 o 13).toInt → ∃ T : Nat, (x.1 (o + 11) i).toInt = T ∧ (T : Int) < (x.1 60 10).toInt ∧ ((x.1 (o + 12) i = -1 ∧ rg x o T 0 = 1) ∨ ∃ J : Nat, (x.1 (o + 12) i).toInt = J ∧ (J : Int) < (rg x o T 7).toInt)
theorem kp_deedClear (hq : kV q) (hd : kiD q o) (a b c : Int32) (h : ∀ y, fm (fun c k => c = o) x y → y.1 o 0 = a → y.1 o 1 = b → y.1 o 2 = c → y.1 o 5 = 0 → Fv y) : KT G q d zk_X1_clear 0 [(0, vr o), (1, vi a), (2, vi b), (3, vi c)] [] x (rv Fv) := by
  refine kg_X1_clear_0 hq hd _ _ _ (fun x1 e1 x2 e2 x3 e3 x4 e4 x5 e5 x6 e6 z ez => rv_i (h z ?_ ?_ ?_ ?_ ?_))
  · rw [ez, e6, e5, e4, e3, e2, e1]; exact fm_si (fm_si (fm_si (fm_si (fm_si (fm_si (fm_si (fm_rf _ _) rfl) rfl) rfl) rfl) rfl) rfl) rfl
  all_goals (rw [ez, e6, e5, e4, e3, e2, e1]; (simp only [si_get, sfl_get, Nat.reduceEqDiff, eq_self, and_false, false_and, and_true, true_and, if_true, if_false, reduceIte, reduceCtorEq]))
theorem MM_dc (hO : o = 120 ∨ o = 220) (h : MM x o) (f : fm (fun c k => c = o + 20) x y) : MM y o ∧ fm (sMk o) x y ∧ ∀ t k, rg y o t k = rg x o t k := by
  have fM : fm (sMk o) x y := fm_w f (fun c j q => by unfold sMk; omega)
  have r : ∀ t j, rg y o t j = rg x o t j := fun t j => rg_eq hO (fm_w f (fun c j q => by omega)) t j
  exact ⟨MM_low hO h fM r, fM, r⟩
end KPF
end
section
/-! the class: choices are listed -/
section KLI
variable {G : kG} {q : kP} {d : Nat} {x x0 y z : gd} {o : Nat} {F : Int32 → gd → Prop} {Fv : gd → Prop}
def sLi (o c k : Nat) : Prop := (c = o ∧ k = 13) ∨ (o + 11 ≤ c ∧ c ≤ o + 13)
theorem rg_Li (hO : o = 120 ∨ o = 220) (f : fm (sLi o) x y) (t k : Nat) : rg y o t k = rg x o t k := rg_eq hO (fm_w f (fun c k q => by unfold sLi at q; omega)) t k
theorem MM_Li (hO : o = 120 ∨ o = 220) (f : fm (sLi o) x y) (h : MM x o) : MM y o := by
  have e := rg_Li hO f
  refine ⟨CO_fm h.1 (fun c k hc => f c k (by unfold sLi; omega)), ?_, fun t ht => ?_⟩
  · have hG := h.2.1
    unfold MG at hG ⊢
    rw [f o 3 (by unfold sLi; omega), f o 5 (by unfold sLi; omega), f o 6 (by unfold sLi; omega), f o 7 (by unfold sLi; omega), f o 8 (by unfold sLi; omega), f o 9 (by unfold sLi; omega), f 60 6 (by unfold sLi; omega), f 60 9 (by unfold sLi; omega), f 60 13 (by unfold sLi; omega), f 60 10 (by unfold sLi; omega)]
    exact hG
  · rw [f 60 10 (by unfold sLi; omega)] at ht
    obtain ⟨a, g⟩ := h.2.2 t ht
    refine ⟨?_, ?_⟩
    · unfold TA ssm at a ⊢
      rw [e, e, e, e, f 80 9 (by unfold sLi; omega), f o 3 (by unfold sLi; omega), f o 9 (by unfold sLi; omega), f 60 6 (by unfold sLi; omega)]
      refine ⟨a.1, a.2.1, a.2.2.1, fun j hj => ?_, a.2.2.2.2⟩
      rw [e]; exact a.2.2.2.1 j hj
    · unfold TGo sop at g ⊢
      rw [e, e, e, f 81 _ (by unfold sLi; omega)]; exact g
end KLI
end
section
/-! the class: a machine is set up and compared -/
section KRS
variable {G : kG} {q : kP} {d : Nat} {x x0 y z : gd} {o : Nat} {F : Int32 → gd → Prop} {Fv : gd → Prop}
theorem th_ix (h : MM x o) {t : Int32} {T : Nat} (et : t.toInt = T) (hT : T < 6) : 0 ≤ (x.1 o 7 + t * x.1 o 8).toInt ∧ (x.1 o 7 + t * x.1 o 8).toInt ≤ 196 := by
  obtain ⟨b1, b2, -⟩ := MG_b h.1 h.2.1
  have hm : 0 ≤ t.toInt * (x.1 o 8).toInt ∧ t.toInt * (x.1 o 8).toInt ≤ 160 := by
    rw [et]
    have : T = 0 ∨ T = 1 ∨ T = 2 ∨ T = 3 ∨ T = 4 ∨ T = 5 := by omega
    rcases this with e | e | e | e | e | e <;> subst e <;> (refine ⟨?_, ?_⟩ <;> omega)
  have e1 := t_mul (a := t) (b := x.1 o 8) (by omega) (by omega)
  have e2 := t_add (a := x.1 o 7) (b := t * x.1 o 8) (by omega) (by omega)
  omega
/-- what setting up changes -/
def sRe (o c k : Nat) : Prop := (c = o ∧ 3 ≤ k ∧ k ≤ 9) ∨ c = o + 5 ∨ (c = 60 ∧ k = 5) ∨ c = 65
end KRS
end
section
/-! the class: how a run begins, and its first choices -/
section KRF
variable {G : kG} {q : kP} {d : Nat} {x x0 y z : gd} {o : Nat} {F : Int32 → gd → Prop} {Fv : gd → Prop} {C : gCo}
end KRF
end
section
/-! the class: the journal -/
theorem nar_b {v : Int32} (h : gbool v) : vp_nar .boolean v = v := by unfold vp_nar; rw [h.1]
/-- an act that was noted -/
def JA (x : gd) (a : Nat) : Prop := (0 ≤ (x.1 166 a).toInt ∧ (x.1 166 a).toInt < 6) ∧ 0 ≤ (x.1 167 a).toInt ∧ (x.1 171 a = 0 → ((x.1 167 a).toInt ≤ 4 → 0 ≤ (x.1 168 a).toInt ∧ (x.1 168 a).toInt < 24) ∧ ((5 ≤ (x.1 167 a).toInt ∧ (x.1 167 a).toInt ≤ 8) ∨ (x.1 167 a).toInt = 15 → 0 ≤ (x.1 168 a).toInt ∧ (x.1 168 a).toInt < 6) ∧ ((x.1 167 a).toInt = 9 ∨ (x.1 167 a).toInt = 10 → 0 ≤ (x.1 168 a).toInt ∧ (x.1 168 a).toInt < 6))
def JN (x : gd) : Prop := (0 ≤ (x.1 160 3).toInt ∧ (x.1 160 3).toInt ≤ (x.1 160 2).toInt ∧ (x.1 160 2).toInt ≤ 400) ∧ (∀ a : Nat, (a : Int) < (x.1 160 3).toInt → JA x a) ∧ ∀ t : Nat, t < 6 → x.1 174 t = -1 ∨ (0 ≤ (x.1 174 t).toInt ∧ (x.1 174 t).toInt < (x.1 160 3).toInt)
section KJO
variable {G : kG} {q : kP} {d : Nat} {x x0 y z : gd} {F : Int32 → gd → Prop} {Fv : gd → Prop}
/-- clocks alone change -/
def sCk (c k : Nat) : Prop := c = 172 ∨ c = 173 ∨ (175 ≤ c ∧ c ≤ 178)
theorem JA_eq {a : Nat} (f : ∀ c k, (166 ≤ c ∧ c ≤ 171) → y.1 c k = x.1 c k) (h : JA x a) : JA y a := by
  unfold JA at h ⊢
  rw [f 166 a (by omega), f 167 a (by omega), f 168 a (by omega), f 171 a (by omega)]; exact h
theorem JN_ck (f : fm sCk x y) (h : JN x) : JN y := by
  unfold JN at h ⊢
  rw [f 160 3 (by unfold sCk; omega), f 160 2 (by unfold sCk; omega)]
  refine ⟨h.1, fun a ha => JA_eq (fun c k hc => f c k (by unfold sCk; omega)) (h.2.1 a ha), fun t ht => ?_⟩
  rw [f 174 t (by unfold sCk; omega)]; exact h.2.2 t ht
theorem cl_ix {r u : Int32} {R U : Nat} (er : r.toInt = R) (eu : u.toInt = U) (hR : R < 400) (hU : U < 6) : (r * 6 + u).toInt = R * 6 + U := by
  have k6 : (6 : Int32).toInt = 6 := rfl
  have e1 : (r * 6).toInt = R * 6 := by rw [t_mul (by rw [k6]; omega) (by rw [k6]; omega), k6, er]
  rw [t_add (by omega) (by omega), e1, eu]
end KJO
end
section
/-! the class: histories -/
/-- a row that holds a structure -/
def HR (x : gd) (a : Nat) : Prop := 0 ≤ (x.1 a 0).toInt ∧ (x.1 a 0).toInt ≤ 12
theorem hh_in : ∀ k, k < 13 → 300 + k ∈ klH := by decide
theorem hh_k {k : Nat} (h : k < 13) : kK (300 + k) = .inr (.int, 14) := by
  unfold kK; rw [if_neg (by omega), if_pos (by omega)]
theorem hh_r {q : kP} {k : Nat} (h : k < 13) : (kf q).1 190 k = some (300 + k) := by
  show kR q 190 k = _
  unfold kR
  rw [if_neg (by omega), if_neg (by omega), if_neg (by omega), if_neg (by omega), if_neg (by omega), if_neg (by omega), if_neg (by omega), if_pos rfl, if_pos h]
theorem hh_m {q : kP} (hq : kV q) (hh : q.hi = true) {k : Nat} (h : k < 13) : 300 + k ∈ (kf q).2.1 := hq.2.1 hh _ (hh_in k h)
theorem tn0 : (0 : Int32).toNatClampNeg = 0 := rfl
theorem vin0 {n : Nat} (h : 0 < n) : vp_in (0 : Int32) n := by rw [vp_in_iff]; have : (0 : Int32).toInt = 0 := rfl; omega
section KHI
variable {G : kG} {q : kP} {d : Nat} {x x0 y z : gd} {F : Int32 → gd → Prop} {Fv : gd → Prop}
theorem kh_append (hq : kV q) (hh : q.hi = true) {a : Nat} (ka : kK a = .inr (.int, 14)) (ma : a ∈ (kf q).2.1) (v : Int32) (hr : HR x a) (h : ∀ y, fm (fun c k => c = a) x y → HR y a → Fv y) : KT G q d zk_X3_append 0 [(0, vr a), (1, vi v)] [] x (rv Fv) := by
  unfold HR at hr
  have k12 : (12 : Int32).toInt = 12 := rfl
  refine kg_X3_append_0 hq hh ka ma _ ⟨vin0 (by omega), fun _ => rv_i (h x (fm_rf _ _) hr), fun c => ⟨vin0 (by omega), vin0 (by omega), fun x5 e5 => ⟨vin0 (by omega), ?_⟩⟩⟩
  rw [tn0] at c e5 ⊢
  rw [t_le, k12] at c
  have e1 : (x.1 a 0 + 1).toInt = (x.1 a 0).toInt + 1 := t_add (by show _ ≤ _ + (1 : Int); omega) (by show _ + (1 : Int) ≤ _; omega)
  have g0 : x5.1 a 0 = x.1 a 0 + 1 := by rw [e5]; (simp only [si_get, sfl_get, Nat.reduceEqDiff, eq_self, and_false, false_and, and_true, true_and, if_true, if_false, reduceIte, reduceCtorEq])
  refine ⟨by rw [vp_in_iff, g0]; omega, fun z ez => rv_i (h z ?_ ?_)⟩
  · rw [ez, e5]; exact fm_si (fm_si (fm_rf _ _) rfl) rfl
  · have : z.1 a 0 = x.1 a 0 + 1 := by
      rw [ez, si_get, if_neg (fun q => ?_), g0]
      have := q.2
      rw [t_cl, g0, e1] at this; omega
    unfold HR; rw [this]; omega
theorem kh_find (hq : kV q) (hh : q.hi = true) {a : Nat} (ka : kK a = .inr (.int, 14)) (ma : a ∈ (kf q).2.1) (v : Int32) (hr : HR x a) (h : ∀ r : Int32, (¬ r = -1 → 1 ≤ r.toInt ∧ r.toInt ≤ (x.1 a 0).toInt) → F r x) : KT G q d zk_X3_find 0 [(0, vr a), (1, vi v)] [] x (ri F) := by
  unfold HR at hr
  have loop : ∀ (n k : Nat) (i : Int32), i.toInt = k → 1 ≤ k → (x.1 a 0).toInt + 1 - k ≤ n → KT G q d zk_X3_find 2 [(0, vr a), (1, vi v), (2, vi i)] [] x (ri F) := by
    intro n
    induction n with
    | zero =>
      intro k i ei hk hn
      refine kg_X3_find_2 hq hh ka ma _ _ ⟨vin0 (by omega), fun _ => ri_i (h _ (fun q => absurd rfl q)), fun c => ?_⟩
      rw [tn0, t_lt] at c; omega
    | succ n ih =>
      intro k i ei hk hn
      refine kg_X3_find_2 hq hh ka ma _ _ ⟨vin0 (by omega), fun _ => ri_i (h _ (fun q => absurd rfl q)), fun c => ?_⟩
      rw [tn0, t_lt] at c
      have e1 : (i + 1).toInt = ((k + 1 : Nat) : Int) := by rw [t_add (by show _ ≤ _ + (1 : Int); omega) (by show _ + (1 : Int) ≤ _; omega), ei]; rfl
      exact ⟨by rw [vp_in_iff]; omega, fun _ => ih (k + 1) _ e1 (by omega) (by push_cast; omega), fun _ => ri_i (h _ (fun _ => by omega))⟩
  exact kg_X3_find_0 hq hh ka ma _ (loop 13 1 _ rfl (by omega) (by omega))
theorem kh_removeAt (hq : kV q) (hh : q.hi = true) {a : Nat} (ka : kK a = .inr (.int, 14)) (ma : a ∈ (kf q).2.1) (p : Int32) (hr : HR x a) (h1 : 1 ≤ p.toInt) (h2 : p.toInt ≤ (x.1 a 0).toInt) (h : ∀ r y, fm (fun c k => c = a) x y → HR y a → F r y) : KT G q d zk_X3_removeAt 0 [(0, vr a), (1, vi p)] [] x (ri F) := by
  unfold HR at hr
  have k1 : (1 : Int32).toInt = 1 := rfl
  have loop : ∀ (n k : Nat) (i v : Int32) (y : gd), i.toInt = k → 1 ≤ k → fm (fun c k => c = a ∧ 1 ≤ k) x y → (x.1 a 0).toInt - k ≤ n → KT G q d zk_X3_removeAt 6 [(0, vr a), (2, vi v), (3, vi i)] [] y (ri F) := by
    intro n
    have out : ∀ (v : Int32) (y z : gd), fm (fun c k => c = a ∧ 1 ≤ k) x y → z = si y a (0 : Int32).toNatClampNeg ((y.1 a (0 : Int32).toNatClampNeg) - 1) → F v z := by
      intro v y z fy ez
      rw [tn0, fy a 0 (by omega)] at ez
      refine h _ _ (by rw [ez]; exact fm_si (fm_w fy (fun c k q => q.1)) rfl) ?_
      have : z.1 a 0 = x.1 a 0 - 1 := by rw [ez]; (simp only [si_get, sfl_get, Nat.reduceEqDiff, eq_self, and_false, false_and, and_true, true_and, if_true, if_false, reduceIte, reduceCtorEq])
      unfold HR; rw [this]
      have : (x.1 a 0 - 1).toInt = (x.1 a 0).toInt - 1 := by rw [t_sub (by rw [k1]; omega) (by rw [k1]; omega), k1]
      omega
    induction n with
    | zero =>
      intro k i v y ei hk fy hn
      refine kg_X3_removeAt_6 hq hh ka ma _ _ ⟨vin0 (by omega), fun _ => ⟨vin0 (by omega), vin0 (by omega), fun z ez => ri_i (out _ y z fy ez)⟩, fun c => ?_⟩
      rw [tn0, t_le, fy a 0 (by omega)] at c; omega
    | succ n ih =>
      intro k i v y ei hk fy hn
      refine kg_X3_removeAt_6 hq hh ka ma _ _ ⟨vin0 (by omega), fun _ => ⟨vin0 (by omega), vin0 (by omega), fun z ez => ri_i (out _ y z fy ez)⟩, fun c => ?_⟩
      rw [tn0, t_le, fy a 0 (by omega)] at c
      have e1 : (i + 1).toInt = ((k + 1 : Nat) : Int) := by rw [t_add (by show _ ≤ _ + (1 : Int); omega) (by show _ + (1 : Int) ≤ _; omega), ei]; rfl
      refine ⟨by rw [vp_in_iff, e1]; omega, by rw [vp_in_iff]; omega, fun z ez => ih (k + 1) _ _ z e1 (by omega) ?_ (by push_cast; omega)⟩
      rw [ez]; exact fm_si fy ⟨rfl, by rw [t_cl, ei]; omega⟩
  refine kg_X3_removeAt_0 hq hh ka ma _ ⟨by rw [vp_in_iff]; omega, loop 12 p.toInt.toNat _ _ x (by omega) (by omega) (fm_rf _ _) (by omega)⟩
theorem kh_serveCell (hq : kV q) (hh : q.hi = true) {a : Nat} (ka : kK a = .inr (.int, 14)) (ma : a ∈ (kf q).2.1) (k v : Int32) (h : ∀ r y, fm (fun c k => c = a) x y → F r y) : KT G q d zk_X3_serveCell 0 [(0, vr a), (1, vi k), (2, vi v)] [] x (ri F) := by
  have g : ∀ (o : Int32) (y : gd), fm (fun c k => c = a) x y → KT G q d zk_X3_serveCell 24 [(1, vi k), (3, vi o)] [] y (ri F) := fun o y fy => kg_X3_serveCell_24 hq hh ka ma _ _ ⟨fun _ => ri_i (h _ _ fy), fun _ => ri_i (h _ _ fy)⟩
  exact kg_X3_serveCell_0 hq hh ka ma _ _ ⟨vin0 (by omega), fun _ => g _ _ (fm_rf _ _), fun _ => ⟨fun _ => ⟨vin0 (by omega), fun z ez => g _ _ (by rw [ez]; exact fm_si (fm_rf _ _) rfl)⟩, fun _ => ⟨vin0 (by omega), fun z ez => g _ _ (by rw [ez]; exact fm_si (fm_rf _ _) rfl)⟩⟩⟩
theorem kh_serveRow (hq : kV q) (hh : q.hi = true) {a : Nat} (ka : kK a = .inr (.int, 14)) (ma : a ∈ (kf q).2.1) (k v : Int32) (hr : HR x a) (h : ∀ r y, fm (fun c k => c = a) x y → HR y a → F r y) : KT G q (d + 1) zk_X3_serveRow 0 [(0, vr 180), (1, vr a), (2, vi k), (3, vi v)] [] x (ri F) := by
  have k0 : (0 : Int32).toInt = 0 := rfl
  have k1 : (1 : Int32).toInt = 1 := rfl
  have g63 : ∀ p : Int32, 1 ≤ p.toInt → p.toInt ≤ (x.1 a 0).toInt → KT G q (d + 1) zk_X3_serveRow 63 [] [vi p, vr a] x (ri F) := fun p h1 h2 => kg_X3_serveRow_63 hq hh ka ma _ (kh_removeAt hq hh ka ma _ hr h1 h2 (fun r y fy hy => ri_i (h _ _ fy hy)))
  refine kg_X3_serveRow_0 hq hh ka ma _ _ ⟨vin0 (by omega), fun _ => kh_append hq hh ka ma _ hr (fun y fy hy => ri_i (h _ _ fy hy)), fun _ => ⟨fun c => ?_, fun _ => ri_i (h _ _ (fm_rf _ _) hr)⟩, fun _ => ri_i (h _ _ (fm_rf _ _) hr), fun _ => ⟨vin0 (by omega), fun z ez => ri_i (h _ _ ?_ ?_)⟩⟩
  · rw [tn0, t_eq, k0] at c
    unfold HR at hr
    exact ⟨fun _ => g63 _ (by rw [k1]; omega) (by rw [k1]; omega), fun _ => g63 _ (by rw [tn0]; omega) (by rw [tn0]; omega)⟩
  · rw [ez]; exact fm_si (fm_rf _ _) rfl
  · have : z.1 a 0 = 0 := by rw [ez, tn0]; (simp only [si_get, sfl_get, Nat.reduceEqDiff, eq_self, and_false, false_and, and_true, true_and, if_true, if_false, reduceIte, reduceCtorEq])
    unfold HR; rw [this, k0]; omega
theorem kh_serveSet (hq : kV q) (hh : q.hi = true) {a : Nat} (ka : kK a = .inr (.int, 14)) (ma : a ∈ (kf q).2.1) (k v : Int32) (hr : HR x a) (h : ∀ r y, fm (fun c k => c = a) x y → HR y a → F r y) : KT G q (d + 1) zk_X3_serveSet 0 [(0, vr a), (1, vi k), (2, vi v)] [] x (ri F) := by
  have g42 : ∀ (p : Int32) y, fm (fun c k => c = a) x y → HR y a → KT G q (d + 1) zk_X3_serveSet 42 [(3, vi p)] [] y (ri F) := fun p y fy hy => kg_X3_serveSet_42 hq hh ka ma _ ⟨fun _ => ri_i (h _ _ fy hy), fun _ => ri_i (h _ _ fy hy)⟩
  have g64 : ∀ (p : Int32) y, fm (fun c k => c = a) x y → HR y a → KT G q (d + 1) zk_X3_serveSet 64 [(3, vi p)] [] y (ri F) := fun p y fy hy => kg_X3_serveSet_64 hq hh ka ma _ ⟨fun _ => ri_i (h _ _ fy hy), fun _ => ri_i (h _ _ fy hy)⟩
  refine kg_X3_serveSet_0 hq hh ka ma _ _ (kh_find hq hh ka ma _ hr (fun r hr2 => ⟨fun _ => ⟨fun _ => g42 _ _ (fm_rf _ _) hr, fun _ => kh_append hq hh ka ma _ hr (fun y fy hy => g42 _ _ fy hy)⟩, fun _ => ⟨fun _ => g64 _ _ (fm_rf _ _) hr, fun c => kh_removeAt hq hh ka ma _ hr (hr2 c).1 (hr2 c).2 (fun r y fy hy => g64 _ _ fy hy)⟩, fun _ => ⟨fun _ => ri_i (h _ _ (fm_rf _ _) hr), fun _ => ri_i (h _ _ (fm_rf _ _) hr)⟩, fun _ => ⟨vin0 (by omega), ri_i (h _ _ (fm_rf _ _) hr)⟩⟩))
theorem kh_serve (hq : kV q) (hh : q.hi = true) {a : Nat} (ka : kK a = .inr (.int, 14)) (ma : a ∈ (kf q).2.1) (k v : Int32) (hr : ¬ x.1 180 10 = 0 → HR x a) (h : ∀ r y, fm (fun c k => c = a) x y → (¬ x.1 180 10 = 0 → HR y a) → F r y) : KT G q (d + 2) zk_X3_serve 0 [(0, vr 180), (1, vr a), (2, vi k), (3, vi v)] [] x (ri F) :=
  kg_X3_serve_0 hq hh ka ma _ _ ⟨fun c => ⟨fun _ => kh_serveRow hq hh ka ma _ _ (hr c) (fun r y fy hy => ri_i (h _ _ fy (fun _ => hy))), fun _ => kh_serveSet hq hh ka ma _ _ (hr c) (fun r y fy hy => ri_i (h _ _ fy (fun _ => hy)))⟩, fun c => kh_serveCell hq hh ka ma _ _ (fun r y fy => ri_i (h _ _ fy (fun q => absurd c q)))⟩
/-- the calls taken -/
def HC (x : gd) : Prop := (0 ≤ (x.1 180 6).toInt ∧ (x.1 180 6).toInt ≤ 12) ∧ (∀ t : Nat, t < 6 → x.1 189 t = -1 ∨ (0 ≤ (x.1 189 t).toInt ∧ (x.1 189 t).toInt < 12)) ∧ 0 ≤ (x.1 180 7).toInt ∧ (x.1 180 7).toInt ≤ 400
/-- what a history may change -/
def sHi (c k : Nat) : Prop := (180 ≤ c ∧ c ≤ 199) ∨ (300 ≤ c ∧ c ≤ 312)
theorem kh_begin (hq : kV q) (hh : q.hi = true) (t k v : Int32) {Tn : Nat} (et : t.toInt = Tn) (hT : Tn < 6) (hc : HC x) (h : ∀ y, fm sHi x y → HC y → y.1 180 7 = x.1 180 7 → Fv y) : KT G q d zk_X3_beginCall 0 [(0, vr 180), (1, vi t), (2, vi k), (3, vi v)] [] x (rv Fv) := by
  obtain ⟨⟨c0, c1⟩, ho, e0⟩ := hc
  have k12 : (12 : Int32).toInt = 12 := rfl
  have k1 : (1 : Int32).toInt = 1 := rfl
  have eT : t.toNatClampNeg = Tn := by rw [t_cl, et]; rfl
  have loop : ∀ (n i0 : Nat) (i : Int32) (y : gd), i.toInt = i0 → fm (fun c k => 181 ≤ c ∧ c ≤ 188) x y → (x.1 180 6).toInt < 12 → (x.1 180 6).toInt - i0 ≤ n → KT G q d zk_X3_beginCall 67 [(0, vr 180), (1, vi t), (4, vi i)] [] y (rv Fv) := by
    intro n
    have out : ∀ (i : Int32) y, fm (fun c k => 181 ≤ c ∧ c ≤ 188) x y → (x.1 180 6).toInt < 12 → vp_in t 6 ∧ (∀ x3, x3 = si y 189 (t).toNatClampNeg (y.1 180 6) → (∀ x4, x4 = si x3 180 6 ((x3.1 180 6) + 1) → rv Fv none x4)) := by
      intro i y fy h12
      refine ⟨by rw [vp_in_iff]; omega, fun x3 e3 x4 e4 => rv_i (h x4 ?_ ?_ ?_)⟩
      · rw [e4, e3]; exact fm_si (fm_si (fm_w fy (fun c k q => by unfold sHi; omega)) (by unfold sHi; omega)) (by unfold sHi; omega)
      · have g6 : x4.1 180 6 = x.1 180 6 + 1 := by rw [e4, e3]; (simp only [si_get, sfl_get, Nat.reduceEqDiff, eq_self, and_false, false_and, and_true, true_and, if_true, if_false, reduceIte, reduceCtorEq]); rw [fy 180 6 (by omega)]
        have g7 : x4.1 180 7 = x.1 180 7 := by rw [e4, e3]; (simp only [si_get, sfl_get, Nat.reduceEqDiff, eq_self, and_false, false_and, and_true, true_and, if_true, if_false, reduceIte, reduceCtorEq]); rw [fy 180 7 (by omega)]
        have e1 : (x.1 180 6 + 1).toInt = (x.1 180 6).toInt + 1 := by rw [t_add (by rw [k1]; omega) (by rw [k1]; omega), k1]
        unfold HC; rw [g6, g7, e1]
        refine ⟨by omega, fun u hu => ?_, e0⟩
        by_cases h9 : u = Tn
        · have : x4.1 189 u = x.1 180 6 := by rw [e4, e3, eT, h9]; (simp only [si_get, sfl_get, Nat.reduceEqDiff, eq_self, and_false, false_and, and_true, true_and, if_true, if_false, reduceIte, reduceCtorEq]); rw [fy 180 6 (by omega)]
          rw [this]; exact Or.inr ⟨c0, h12⟩
        · have : x4.1 189 u = x.1 189 u := by rw [e4, si_cell (by decide), e3, eT, si_get, if_neg (fun q => h9 q.2), fy 189 u (by omega)]
          rw [this]; exact ho u hu
      · rw [e4, e3]; (simp only [si_get, sfl_get, Nat.reduceEqDiff, eq_self, and_false, false_and, and_true, true_and, if_true, if_false, reduceIte, reduceCtorEq]); rw [fy 180 7 (by omega)]
    induction n with
    | zero =>
      intro i0 i y ei fy h12 hn
      refine kg_X3_beginCall_67 hq hh _ _ ⟨fun _ => out i y fy h12, fun c => ?_⟩
      rw [t_le, fy 180 6 (by omega)] at c; omega
    | succ n ih =>
      intro i0 i y ei fy h12 hn
      refine kg_X3_beginCall_67 hq hh _ _ ⟨fun _ => out i y fy h12, fun c => ?_⟩
      rw [t_le, fy 180 6 (by omega)] at c
      have e1 : (i + 1).toInt = ((i0 + 1 : Nat) : Int) := by rw [t_add (by show _ ≤ _ + (1 : Int); omega) (by show _ + (1 : Int) ≤ _; omega), ei]; rfl
      have v6 : vp_in (y.1 180 6) 12 := by rw [vp_in_iff, fy 180 6 (by omega)]; omega
      exact ⟨by rw [vp_in_iff]; omega, fun _ => ih (i0 + 1) _ y e1 fy h12 (by push_cast; omega), fun _ => ⟨v6, v6, fun z ez => ih (i0 + 1) _ z e1 (by rw [ez]; exact fm_si fy (by omega)) h12 (by push_cast; omega)⟩⟩
  refine kg_X3_beginCall_0 hq hh _ _ _ ⟨fun c => ?_, fun _ => rv_i (h x (fm_rf _ _) ⟨⟨c0, c1⟩, ho, e0⟩ rfl)⟩
  rw [t_lt, k12] at c
  have v6 : vp_in (x.1 180 6) 12 := by rw [vp_in_iff]; omega
  refine ⟨v6, fun x3 e3 => ?_⟩
  have f3 : fm (fun c k => 181 ≤ c ∧ c ≤ 188) x x3 := by rw [e3]; exact fm_si (fm_rf _ _) (by omega)
  rw [f3 180 6 (by omega)]
  refine ⟨v6, fun x5 e5 => ?_⟩
  have f5 : fm (fun c k => 181 ≤ c ∧ c ≤ 188) x x5 := by rw [e5]; exact fm_si f3 (by omega)
  rw [f5 180 6 (by omega)]
  refine ⟨v6, fun x7 e7 => ?_⟩
  have f7 : fm (fun c k => 181 ≤ c ∧ c ≤ 188) x x7 := by rw [e7]; exact fm_si f5 (by omega)
  rw [f7 180 6 (by omega)]
  refine ⟨v6, fun x9 e9 => ?_⟩
  have f9 : fm (fun c k => 181 ≤ c ∧ c ≤ 188) x x9 := by rw [e9]; exact fm_si f7 (by omega)
  rw [f9 180 6 (by omega)]
  refine ⟨v6, fun xa ea => ?_⟩
  exact loop 12 0 _ xa rfl (by rw [ea]; exact fm_si f9 (by omega)) c (by omega)
theorem kh_end (hq : kV q) (hh : q.hi = true) (t v : Int32) {Tn : Nat} (et : t.toInt = Tn) (hT : Tn < 6) (hc : HC x) (h : ∀ y, fm sHi x y → HC y → y.1 180 7 = x.1 180 7 → Fv y) : KT G q d zk_X3_endCall 0 [(0, vr 180), (1, vi t), (2, vi v)] [] x (rv Fv) := by
  obtain ⟨c0, ho, e0⟩ := hc
  have eT : t.toNatClampNeg = Tn := by rw [t_cl, et]; rfl
  have vt : vp_in t 6 := by rw [vp_in_iff]; omega
  refine kg_X3_endCall_0 hq hh _ _ ⟨vt, fun _ => rv_i (h x (fm_rf _ _) ⟨c0, ho, e0⟩ rfl), fun c => ⟨vt, ?_⟩⟩
  rw [eT] at c ⊢
  have o1 : 0 ≤ (x.1 189 Tn).toInt ∧ (x.1 189 Tn).toInt < 12 := by
    rcases ho Tn hT with e | e
    · exact absurd e c
    · exact e
  have vo : vp_in (x.1 189 Tn) 12 := by rw [vp_in_iff]; omega
  refine ⟨vo, fun x5 e5 => ⟨vt, ?_⟩⟩
  have f5 : fm (fun c k => 181 ≤ c ∧ c ≤ 188) x x5 := by rw [e5]; exact fm_si (fm_rf _ _) (by omega)
  rw [f5 189 Tn (by omega)]
  refine ⟨vo, fun x8 e8 => ⟨vt, fun z ez => rv_i (h z ?_ ?_ ?_)⟩⟩
  all_goals have f8 : fm (fun c k => 181 ≤ c ∧ c ≤ 188) x x8 := by rw [e8]; exact fm_si f5 (by omega)
  · rw [ez]; exact fm_si (fm_w f8 (fun c k q => by unfold sHi; omega)) (by unfold sHi; omega)
  · unfold HC
    have g : ∀ k, z.1 180 k = x.1 180 k := fun k => by rw [ez, si_cell (by decide), f8 180 k (by omega)]
    rw [g 6, g 7]
    refine ⟨c0, fun u hu => ?_, e0⟩
    by_cases h9 : u = Tn
    · exact Or.inl (by rw [ez, h9]; (simp only [si_get, sfl_get, Nat.reduceEqDiff, eq_self, and_false, false_and, and_true, true_and, if_true, if_false, reduceIte, reduceCtorEq]))
    · have : z.1 189 u = x.1 189 u := by rw [ez, si_get, if_neg (fun q => h9 q.2), f8 189 u (by omega)]
      rw [this]; exact ho u hu
  · rw [ez, si_cell (by decide), f8 180 7 (by omega)]
theorem kh_take (hq : kV q) (hh : q.hi = true) (hJ : JN x) (h : ∀ y, fm sHi x y → HC y → Fv y) : KT G q (d + 1) zk_X3_take 0 [(0, vr 180), (1, vr 160)] [] x (rv Fv) := by
  obtain ⟨b1, b2, b3⟩ := hJ.1
  have k0 : (0 : Int32).toInt = 0 := rfl
  have k1 : (1 : Int32).toInt = 1 := rfl
  have loop : ∀ (n k : Nat) (i : Int32) (y : gd), i.toInt = k → fm sHi x y → HC y → (y.1 180 7).toInt ≤ k → (x.1 160 3).toInt - k ≤ n → KT G q (d + 1) zk_X3_take 20 [(0, vr 180), (1, vr 160), (2, vi i)] [] y (rv Fv) := by
    intro n
    induction n with
    | zero =>
      intro k i y ei fy hy h7 hn
      refine kg_X3_take_20 hq hh _ ⟨fun _ => rv_i (h y fy hy), fun c => ?_⟩
      rw [t_le, fy 160 3 (by unfold sHi; omega)] at c; omega
    | succ n ih =>
      intro k i y ei fy hy h7 hn
      refine kg_X3_take_20 hq hh _ ⟨fun _ => rv_i (h y fy hy), fun c => ?_⟩
      rw [t_le, fy 160 3 (by unfold sHi; omega)] at c
      have e1 : (i + 1).toInt = ((k + 1 : Nat) : Int) := by rw [t_add (by show _ ≤ _ + (1 : Int); omega) (by show _ + (1 : Int) ≤ _; omega), ei]; rfl
      have vi_ : vp_in i 400 := by rw [vp_in_iff]; omega
      have go : KT G q (d + 1) zk_X3_take 20 [(0, vr 180), (1, vr 160), (2, vi (i + 1))] [] y (rv Fv) := ih (k + 1) _ y e1 fy hy (by push_cast; omega) (by push_cast; omega)
      have eN : i.toNatClampNeg = k := by rw [t_cl, ei]; rfl
      obtain ⟨jt, _⟩ := hJ.2.1 k (by omega)
      have nx : ∀ z, fm sHi x z → HC z → z.1 180 7 = y.1 180 7 → ∀ w, w = si z 180 7 ((z.1 180 7) + 1) → KT G q (d + 1) zk_X3_take 20 [(0, vr 180), (1, vr 160), (2, vi (i + 1))] [] w (rv Fv) := by
        intro z fz hz ez w ew
        have h0 := hy.2.2
        have e7 : (y.1 180 7 + 1).toInt = (y.1 180 7).toInt + 1 := by rw [t_add (by rw [k1]; omega) (by rw [k1]; omega), k1]
        have w7 : w.1 180 7 = y.1 180 7 + 1 := by rw [ew]; (simp only [si_get, sfl_get, Nat.reduceEqDiff, eq_self, and_false, false_and, and_true, true_and, if_true, if_false, reduceIte, reduceCtorEq]); rw [ez]
        refine ih (k + 1) _ w e1 (by rw [ew]; exact fm_si fz (by unfold sHi; omega)) ?_ (by rw [w7, e7]; push_cast; omega) (by push_cast; omega)
        unfold HC
        have w6 : w.1 180 6 = z.1 180 6 := by rw [ew]; (simp only [si_get, sfl_get, Nat.reduceEqDiff, eq_self, and_false, false_and, and_true, true_and, if_true, if_false, reduceIte, reduceCtorEq])
        rw [w7, e7, w6]
        exact ⟨hz.1, fun t ht => by rw [ew, si_cell (by decide)]; exact hz.2.1 t ht, by omega⟩
      have g59 : ∀ s : Int32, KT G q (d + 1) zk_X3_take 59 [(0, vr 180), (1, vr 160), (2, vi i), (3, vi s)] [] y (rv Fv) := by
        intro s
        refine kg_X3_take_59 hq hh _ _ ?_
        rw [eN, fy 166 k (by unfold sHi; omega)]
        exact ⟨fun _ => ⟨vi_, vi_, kh_end hq hh _ _ (show (x.1 166 k).toInt = (((x.1 166 k).toInt.toNat : Nat) : Int) by omega) (by omega) hy (fun z fz hz e => nx z (fm_tr fy fz) hz e)⟩, fun _ => ⟨vi_, vi_, vi_, kh_begin hq hh _ _ _ (show (x.1 166 k).toInt = (((x.1 166 k).toInt.toNat : Nat) : Int) by omega) (by omega) hy (fun z fz hz e => nx z (fm_tr fy fz) hz e)⟩⟩
      exact ⟨vi_, vi_, fun _ => go, fun _ => ⟨fun _ => g59 _, fun _ => ⟨fun _ => g59 _, fun _ => go⟩⟩⟩
  refine kg_X3_take_0 hq hh (fun x1 e1 x2 e2 x3 e3 => ?_)
  have z6 : x3.1 180 6 = 0 := by rw [e3, e2, e1]; (simp only [si_get, sfl_get, Nat.reduceEqDiff, eq_self, and_false, false_and, and_true, true_and, if_true, if_false, reduceIte, reduceCtorEq])
  have z7 : x3.1 180 7 = 0 := by rw [e3, e2, e1]; (simp only [si_get, sfl_get, Nat.reduceEqDiff, eq_self, and_false, false_and, and_true, true_and, if_true, if_false, reduceIte, reduceCtorEq])
  refine loop 400 0 _ x3 rfl ?_ ?_ (by rw [z7, k0]; omega) (by omega)
  · rw [e3, e2, e1]; exact fm_fl (fm_si (fm_si (fm_rf _ _) (by unfold sHi; omega)) (by unfold sHi; omega)) (fun k _ => by unfold sHi; omega)
  · unfold HC; rw [z6, z7, k0]
    exact ⟨by omega, fun t ht => Or.inl (by rw [e3, sfl_get, if_pos ⟨rfl, ht⟩]), by omega⟩
theorem scp_get {x : gd} {a b sp dp n c k : Nat} : (scp x a b sp dp n).1 c k = if c = b ∧ dp ≤ k ∧ k < dp + n then x.1 a (sp + (k - dp)) else x.1 c k := by
  show (if c = b then va_cpy (x.1 a) (x.1 b) sp dp n else x.1 c) k = _
  by_cases h : c = b
  · subst h
    rw [if_pos rfl]
    show (if dp ≤ k ∧ k < dp + n then _ else _) = _
    by_cases h2 : dp ≤ k ∧ k < dp + n
    · rw [if_pos h2, if_pos ⟨rfl, h2⟩]
    · rw [if_neg h2, if_neg (fun q => h2 q.2)]
  · rw [if_neg h, if_neg (fun q => h q.1)]
/-- what the search below a depth may change -/
def sHs (D c k : Nat) : Prop := 300 + D < c ∧ c ≤ 312
theorem kh_can (hq : kV q) (hh : q.hi = true) (n : Nat) : ∀ (D : Nat) (x : gd) (F : Int32 → gd → Prop) (l1 l2 : Int32), D + n = 12 → l1.toInt = D → (0 ≤ (x.1 180 6).toInt ∧ (x.1 180 6).toInt ≤ 12) → (¬ x.1 180 10 = 0 → HR x (300 + D)) → (∀ r y, gbool r → fm (sHs D) x y → F r y) → KT G q (d + n + 3) zk_X3_canGoOn 0 [(0, vr 180), (1, vi l1), (2, vi l2)] [] x (ri F) := by
  have k12 : (12 : Int32).toInt = 12 := rfl
  induction n with
  | zero =>
    intro D x F l1 l2 hD e1 hc hr h
    refine kg_X3_canGoOn_0 (d := d + 1) hq hh _ _ ⟨fun _ => ⟨fun c => ?_, fun _ => ri_i (h _ _ gbool_0 (fm_rf _ _))⟩, fun _ => ri_i (h _ _ gbool_1 (fm_rf _ _))⟩
    rw [t_lt, k12] at c; omega
  | succ n ih =>
    intro D x F l1 l2 hD e1 hc hr h
    have loop : ∀ (m k : Nat) (i : Int32) (l3 : Int32) (y : gd), i.toInt = k → fm (sHs D) x y → (x.1 180 6).toInt - k ≤ m → KT G q (d + n + 2 + 2) zk_X3_canGoOn 33 [(0, vr 180), (1, vi l1), (2, vi l2), (3, vi l3), (4, vi i)] [] y (ri F) := by
      intro m
      induction m with
      | zero =>
        intro k i l3 y ei fy hm
        refine kg_X3_canGoOn_33 (d := d + n + 2) hq hh _ _ _ _ ⟨fun _ => ri_i (h _ _ gbool_0 fy), fun c => ?_⟩
        rw [t_le, fy 180 6 (by unfold sHs; omega)] at c; omega
      | succ m ihm =>
        intro k i l3 y ei fy hm
        refine kg_X3_canGoOn_33 (d := d + n + 2) hq hh _ _ _ _ ⟨fun _ => ri_i (h _ _ gbool_0 fy), fun c => ?_⟩
        rw [t_le, fy 180 6 (by unfold sHs; omega)] at c
        have ei1 : (i + 1).toInt = ((k + 1 : Nat) : Int) := by rw [t_add (by show _ ≤ _ + (1 : Int); omega) (by show _ + (1 : Int) ≤ _; omega), ei]; rfl
        have el1 : (l1 + 1).toInt = ((D + 1 : Nat) : Int) := by rw [t_add (by show _ ≤ _ + (1 : Int); omega) (by show _ + (1 : Int) ≤ _; omega), e1]; rfl
        have go : ∀ w, fm (sHs D) x w → KT G q (d + n + 2 + 2) zk_X3_canGoOn 33 [(0, vr 180), (1, vi l1), (2, vi l2), (3, vi l3), (4, vi (i + 1))] [] w (ri F) := fun w fw => ihm (k + 1) _ _ w ei1 fw (by push_cast; omega)
        have v4 : vp_in i 12 := by rw [vp_in_iff]; omega
        have v1 : vp_in l1 13 := by rw [vp_in_iff]; omega
        have v2 : vp_in (l1 + 1) 13 := by rw [vp_in_iff]; omega
        have n1 : l1.toNatClampNeg = D := by rw [t_cl, e1]; rfl
        have n2 : (l1 + 1).toNatClampNeg = D + 1 := by rw [t_cl, el1]; rfl
        refine ⟨fun _ => go y fy, fun _ => ⟨v4, fun _ => ⟨v1, fun u6 e6 => ⟨v2, fun u8 e8 => ?_⟩⟩, fun _ => go y fy⟩⟩
        rw [n1, hh_r (by omega)] at e6
        rw [n2, hh_r (by omega)] at e8
        have hD1 : D + 1 < 13 := by omega
        refine ⟨_, e6, hh_k (by omega), hh_m hq hh (by omega), _, e8, hh_k hD1, hh_m hq hh hD1, by decide, by decide, by decide, by decide, by decide, fun z ez => ⟨v2, fun u22 e22 => ⟨v4, v4, ?_⟩⟩⟩
        rw [n2, hh_r (by omega)] at e22
        refine ⟨_, e22, hh_k hD1, hh_m hq hh hD1, ?_⟩
        have zg : ∀ c j, ¬ c = 300 + (D + 1) → z.1 c j = y.1 c j := fun c j hc => by rw [ez, scp_get, if_neg (fun q => hc q.1)]
        have fz : fm (sHs D) x z := fun c j hs => by rw [zg c j (by unfold sHs at hs; omega)]; exact fy c j hs
        have hz1 : ¬ z.1 180 10 = 0 → HR z (300 + (D + 1)) := fun h0 => by
          rw [fz 180 10 (by unfold sHs; omega)] at h0
          have : z.1 (300 + (D + 1)) 0 = x.1 (300 + D) 0 := by
            rw [ez, scp_get, if_pos ⟨rfl, by decide, by decide⟩]
            exact fy _ _ (by unfold sHs; omega)
          unfold HR; rw [this]; exact hr h0
        refine kh_serve (d := d + n + 1) hq hh (hh_k hD1) (hh_m hq hh hD1) _ _ hz1 (fun r w fw hw => ?_)
        have fw2 : fm (sHs D) x w := fm_tr fz (fm_w fw (fun c k q => by unfold sHs; omega))
        have g148 : ∀ s l5 : Int32, KT G q (d + n + 2 + 2) zk_X3_canGoOn 148 [(0, vr 180), (1, vi l1), (2, vi l2), (3, vi l3), (4, vi i), (5, vi l5)] [vi s] w (ri F) := by
          intro s l5
          refine kg_X3_canGoOn_148 (d := d + n + 2) hq hh _ _ _ _ _ _ ⟨fun _ => go w fw2, fun _ => ih (D + 1) w _ _ _ (by omega) el1 (by rw [fw2 180 6 (by unfold sHs; omega)]; exact hc) (fun h0 => ?_) (fun r2 v hr2 fv => ?_)⟩
          · refine hw (fun q => h0 ?_)
            rw [fw 180 10 (by omega)]; exact q
          · have fv2 : fm (sHs D) x v := fm_tr fw2 (fm_w fv (fun c k q => by unfold sHs at q ⊢; omega))
            exact ⟨fun _ => go v fv2, fun _ => ri_i (h _ _ gbool_1 fv2)⟩
        exact ⟨fun _ => g148 _ _, fun _ => ⟨v4, fun _ => g148 _ _, fun _ => g148 _ _⟩⟩
    exact kg_X3_canGoOn_0 (d := d + n + 2) hq hh _ _ ⟨fun _ => ⟨fun c => loop 12 0 _ _ x rfl (fm_rf _ _) (by omega), fun _ => ri_i (h _ _ gbool_0 (fm_rf _ _))⟩, fun _ => ri_i (h _ _ gbool_1 (fm_rf _ _))⟩
def sHl (c k : Nat) : Prop := (c = 180 ∧ 10 ≤ k ∧ k ≤ 12) ∨ (300 ≤ c ∧ c ≤ 312)
theorem kh_isLinear (hq : kV q) (hh : q.hi = true) (l1 : Int32) (hc : 0 ≤ (x.1 180 6).toInt ∧ (x.1 180 6).toInt ≤ 12) (h : ∀ r y, gbool r → fm sHl x y → F r y) : KT G q (d + 16) zk_X3_isLinear 0 [(0, vr 180), (1, vi l1)] [] x (ri F) := by
  have k0 : (0 : Int32).toInt = 0 := rfl
  have loop : ∀ (n k : Nat) (i : Int32) (y : gd), i.toInt = k → fm sHl x y → (x.1 180 6).toInt - k ≤ n → KT G q (d + 16) zk_X3_isLinear 12 [(0, vr 180), (1, vi l1), (2, vi i)] [] y (ri F) := by
    intro n
    have out : ∀ (y : gd), fm sHl x y → vp_in 0 13 ∧ (∀ u3, u3 = (kf q).1 190 (0 : Int32).toNatClampNeg → ∃ c4, u3 = some c4 ∧ kK c4 = .inr (.int, 14) ∧ c4 ∈ (kf q).2.1 ∧ (∀ x7, x7 = sfl y c4 0 14 → KT G q (d + 15) zk_X3_canGoOn 0 [(0, vr 180), (1, vi 0), (2, vi 0)] [] x7 (ri (fun r9 x8 => gbool r9 ∧ ri F (some (vi r9)) x8)))) := by
      intro y fy
      refine ⟨vin0 (by omega), fun u3 e3 => ?_⟩
      rw [tn0, hh_r (by omega)] at e3
      refine ⟨_, e3, hh_k (by omega), hh_m hq hh (by omega), fun z ez => ?_⟩
      have fz : fm sHl x z := by rw [ez]; exact fm_fl fy (fun k _ => by unfold sHl; omega)
      refine kh_can (d := d) hq hh 12 0 z _ _ _ (by omega) rfl (by rw [fz 180 6 (by unfold sHl; omega)]; exact hc) (fun _ => ?_) (fun r w hr fw => ⟨hr, ri_i (h _ _ hr (fm_tr fz (fm_w fw (fun c k q => by unfold sHs at q; unfold sHl; omega))))⟩)
      have : z.1 (300 + 0) 0 = 0 := by rw [ez, sfl_get, if_pos ⟨rfl, by omega⟩]
      unfold HR; rw [this, k0]; omega
    induction n with
    | zero =>
      intro k i y ei fy hn
      refine kg_X3_isLinear_12 (d := d + 15) hq hh _ _ ⟨fun _ => out y fy, fun c => ?_⟩
      rw [t_le, fy 180 6 (by unfold sHl; omega)] at c; omega
    | succ n ih =>
      intro k i y ei fy hn
      refine kg_X3_isLinear_12 (d := d + 15) hq hh _ _ ⟨fun _ => out y fy, fun c => ?_⟩
      rw [t_le, fy 180 6 (by unfold sHl; omega)] at c
      have v4 : vp_in i 12 := by rw [vp_in_iff]; omega
      have ei1 : (i + 1).toInt = ((k + 1 : Nat) : Int) := by rw [t_add (by show _ ≤ _ + (1 : Int); omega) (by show _ + (1 : Int) ≤ _; omega), ei]; rfl
      have g42 : ∀ w, fm sHl x w → KT G q (d + 16) zk_X3_isLinear 42 [(0, vr 180), (1, vi l1), (2, vi i)] [] w (ri F) := fun w fw => kg_X3_isLinear_42 (d := d + 15) hq hh _ _ ⟨v4, fun _ => ih (k + 1) _ w ei1 fw (by push_cast; omega), fun _ z ez => ih (k + 1) _ z ei1 (by rw [ez]; exact fm_si fw (by unfold sHl; omega)) (by push_cast; omega)⟩
      exact ⟨v4, fun _ => g42 y fy, fun _ z ez => g42 z (by rw [ez]; exact fm_si fy (by unfold sHl; omega))⟩
  exact kg_X3_isLinear_0 (d := d + 15) hq hh _ (fun x1 e1 x2 e2 => loop 12 0 _ x2 rfl (by rw [e2, e1]; exact fm_si (fm_si (fm_rf _ _) (by unfold sHl; omega)) (by unfold sHl; omega)) (by omega))
theorem kh_fewest (hq : kV q) (hh : q.hi = true) (l1 : Int32) (hc : 0 ≤ (x.1 180 6).toInt ∧ (x.1 180 6).toInt ≤ 12) (h : ∀ r y, fm sHl x y → F r y) : KT G q (d + 17) zk_X3_fewestThatFail 0 [(0, vr 180), (1, vi l1)] [] x (ri F) := by
  have kM : (1000000 : Int32).toInt = 1000000 := rfl
  have cy : ∀ y, fm sHl x y → 0 ≤ (y.1 180 6).toInt ∧ (y.1 180 6).toInt ≤ 12 := fun y fy => by rw [fy 180 6 (by unfold sHl; omega)]; exact hc
  have loop : ∀ (n k : Nat) (l2 l3 i : Int32) (y : gd), i.toInt = k → fm sHl x y → (1000000 : Int) - k ≤ n → KT G q (d + 17) zk_X3_fewestThatFail 28 [(0, vr 180), (2, vi l2), (3, vi l3), (4, vi i)] [] y (ri F) := by
    intro n
    induction n with
    | zero =>
      intro k l2 l3 i y ei fy hn
      refine kg_X3_fewestThatFail_28 (d := d + 16) hq hh _ _ _ ⟨fun _ => ri_i (h _ _ fy), fun c => ?_⟩
      rw [t_le, kM] at c; omega
    | succ n ih =>
      intro k l2 l3 i y ei fy hn
      refine kg_X3_fewestThatFail_28 (d := d + 16) hq hh _ _ _ ⟨fun _ => ri_i (h _ _ fy), fun c => ⟨fun _ => ri_i (h _ _ fy), fun _ => ⟨by decide, ?_⟩⟩⟩
      rw [t_le, kM] at c
      have ei1 : (i + 1).toInt = ((k + 1 : Nat) : Int) := by rw [t_add (by show _ ≤ _ + (1 : Int); omega) (by show _ + (1 : Int) ≤ _; omega), ei]; rfl
      exact kh_isLinear hq hh _ (cy y fy) (fun r z hr fz => ⟨fun _ => ih (k + 1) _ _ _ z ei1 (fm_tr fy fz) (by push_cast; omega), fun _ => ih (k + 1) _ _ _ z ei1 (fm_tr fy fz) (by push_cast; omega)⟩)
  refine kg_X3_fewestThatFail_0 (d := d + 16) hq hh _ (fun x1 e1 => ?_)
  have f1 : fm sHl x x1 := by rw [e1]; exact fm_si (fm_rf _ _) (by unfold sHl; omega)
  exact kh_isLinear hq hh _ (cy x1 f1) (fun r z hr fz => ⟨fun _ => loop 1000000 0 _ _ _ z rfl (fm_tr f1 fz) (by omega), fun _ => ri_i (h _ _ (fm_tr f1 fz))⟩)
end KHI
end
section
/-! the class: what a trying has told -/
def oN (q : kP) (o : Nat) : Nat := if o = 260 then q.o0 else q.o1
/-- outcomes: their rows are there, their order is one of them -/
def TO (x : gd) (q : kP) (o : Nat) : Prop := (0 ≤ (x.1 o 3).toInt ∧ (x.1 o 3).toInt ≤ oN q o ∧ oN q o ≤ 3000) ∧ ∀ i : Nat, (i : Int) < (x.1 o 3).toInt → 0 ≤ (x.1 (o + 14) i).toInt ∧ (x.1 (o + 14) i).toInt < (x.1 o 3).toInt
/-- states: the first of each finding, where each comes from -/
def TZ (x : gd) (o : Nat) : Prop := (0 ≤ (x.1 o 0).toInt ∧ (x.1 o 0).toInt ≤ 3000) ∧ (∀ f : Nat, f < 11 → x.1 (o + 7) f = -1 ∨ (0 ≤ (x.1 (o + 7) f).toInt ∧ (x.1 (o + 7) f).toInt < (x.1 o 0).toInt)) ∧ ∀ s : Nat, (s : Int) < (x.1 o 0).toInt → (0 ≤ (x.1 (o + 12) s).toInt ∧ (x.1 (o + 12) s).toInt ≤ s) ∧ ((x.1 (o + 12) s).toInt = 0 ∨ (0 ≤ (x.1 (o + 10) s).toInt ∧ (x.1 (o + 10) s).toInt < s ∧ (x.1 (o + 12) s).toInt = (x.1 (o + 12) (x.1 (o + 10) s).toInt.toNat).toInt + 1))
def sTr (o c k : Nat) : Prop := o ≤ c ∧ c ≤ o + 14
theorem tr_row {q : kP} {o i : Nat} (hq : kV q) (ho : kiT q o) (hi : i < oN q o) : ∃ c, (kf q).1 (o + 13) i = some c ∧ kK c = .inr (.int, 24) ∧ c ∈ (kf q).2.1 ∧ 4000 ≤ c := by
  rcases ho with ⟨rfl, h⟩ | ⟨rfl, h⟩
  · have hi : i < q.o0 := hi
    refine ⟨4000 + i, ?_, ?_, hq.2.2.2.2.2.2.1 i hi, by omega⟩
    · show kR q 273 i = _
      unfold kR
      rw [if_neg (by omega), if_neg (by omega), if_neg (by omega), if_neg (by omega), if_neg (by omega), if_pos rfl, if_pos hi]
    · unfold kK; rw [if_neg (by omega), if_neg (by omega), if_neg (by omega)]
  · have hi : i < q.o1 := hi
    refine ⟨7000 + i, ?_, ?_, hq.2.2.2.2.2.2.2 i hi, by omega⟩
    · show kR q 293 i = _
      unfold kR
      rw [if_neg (by omega), if_neg (by omega), if_neg (by omega), if_neg (by omega), if_neg (by omega), if_neg (by omega), if_pos rfl, if_pos hi]
    · unfold kK; rw [if_neg (by omega), if_neg (by omega), if_neg (by omega)]
theorem TO_fm {x y : gd} {q : kP} {o : Nat} {S : Nat → Nat → Prop} (f : fm S x y) (h1 : ¬ S o 3) (h2 : ∀ k, ¬ S (o + 14) k) (h : TO x q o) : TO y q o := by
  unfold TO at h ⊢
  rw [f o 3 h1]
  refine ⟨h.1, fun i hi => ?_⟩
  rw [f (o + 14) i (h2 i)]; exact h.2 i hi
theorem TZ_fm {x y : gd} {o : Nat} {S : Nat → Nat → Prop} (f : fm S x y) (h1 : ¬ S o 0) (h2 : ∀ c k, c = o + 7 ∨ c = o + 10 ∨ c = o + 12 → ¬ S c k) (h : TZ x o) : TZ y o := by
  unfold TZ at h ⊢
  rw [f o 0 h1]
  refine ⟨h.1, fun g hg => ?_, fun s hs => ?_⟩
  · rw [f (o + 7) g (h2 _ _ (by omega))]; exact h.2.1 g hg
  · rw [f (o + 12) s (h2 _ _ (by omega)), f (o + 10) s (h2 _ _ (by omega)), f (o + 12) _ (h2 _ _ (by omega))]; exact h.2.2 s hs
section KTR
variable {G : kG} {q : kP} {d o : Nat} {x x0 y z : gd} {F : Int32 → gd → Prop} {Fv : gd → Prop}
theorem kt_clear (hq : kV q) (ho : kiT q o) (hN : oN q o ≤ 3000) (l : Int32) (h : ∀ y, fm (sTr o) x y → y.1 o 0 = 0 → y.1 o 3 = 0 → y.1 o 1 = 0 → TZ y o → TO y q o → Fv y) : KT G q (d + 1) zk_X10_clear 0 [(0, vr o), (1, vi l)] [] x (rv Fv) := by
  have k0 : (0 : Int32).toInt = 0 := rfl
  refine kg_X10_clear_0 hq ho _ (fun x1 e1 x2 e2 x3 e3 x4 e4 x5 e5 x6 e6 x7 e7 x8 e8 z ez => ?_)
  have c0 : ∀ k, k < 6 → z.1 o k = 0 := by
    intro k hk
    have g : z.1 o k = x6.1 o k := by rw [ez, sfl_get, if_neg (by omega), e8, sfl_get, if_neg (by omega), e7, sfl_get, if_neg (by omega)]
    rw [g, e6, si_get]
    split
    · rfl
    rw [e5, si_get]
    split
    · rfl
    rw [e4, si_get]
    split
    · rfl
    rw [e3, si_get]
    split
    · rfl
    rw [e2, si_get]
    split
    · rfl
    rw [e1, si_get]
    split
    · rfl
    omega
  have z0 := c0 0 (by omega)
  have z3 := c0 3 (by omega)
  refine rv_i (h z ?_ z0 z3 (c0 1 (by omega)) ?_ ?_)
  · rw [ez, e8, e7, e6, e5, e4, e3, e2, e1]
    refine fm_fl (fm_fl (fm_fl (fm_si (fm_si (fm_si (fm_si (fm_si (fm_si (fm_rf _ _) ?_) ?_) ?_) ?_) ?_) ?_) ?_) ?_) ?_ <;> (try intro k _) <;> unfold sTr <;> omega
  · unfold TZ; rw [z0, k0]
    refine ⟨by omega, fun g hg => Or.inl ?_, fun s hs => by omega⟩
    rw [ez, sfl_get, if_neg (by omega), e8, sfl_get, if_neg (by omega), e7, sfl_get, if_pos ⟨rfl, hg⟩]
  · unfold TO; rw [z3, k0]
    exact ⟨by omega, fun i hi => by omega⟩
theorem kt_addTake (hq : kV q) (ho : kiT q o) (a b : Int32) (h : ∀ y, fm (fun c k => c = o + 9) x y → Fv y) : KT G q d zk_X10_addTake 0 [(0, vr o), (1, vi a), (2, vi b)] [] x (rv Fv) := by
  have k6 : (6 : Int32).toInt = 6 := rfl
  have loop : ∀ (n k : Nat) (i : Int32) (y : gd), i.toInt = k → (6 : Int) - k ≤ n → fm (fun c k => c = o + 9) x y → KT G q d zk_X10_addTake 2 [(0, vr o), (1, vi a), (2, vi b), (3, vi i)] [] y (rv Fv) := by
    intro n
    induction n with
    | zero =>
      intro k i y ei hn fy
      refine kg_X10_addTake_2 hq ho _ _ _ ⟨fun _ => rv_i (h y fy), fun c => ?_⟩
      rw [t_le, k6] at c; omega
    | succ n ih =>
      intro k i y ei hn fy
      refine kg_X10_addTake_2 hq ho _ _ _ ⟨fun _ => rv_i (h y fy), fun c => ?_⟩
      rw [t_le, k6] at c
      have e1 : (i + 1).toInt = ((k + 1 : Nat) : Int) := by rw [t_add (by show _ ≤ _ + (1 : Int); omega) (by show _ + (1 : Int) ≤ _; omega), ei]; rfl
      have v6 : vp_in i 6 := by rw [vp_in_iff]; omega
      have go : ∀ z, fm (fun c k => c = o + 9) x z → KT G q d zk_X10_addTake 2 [(0, vr o), (1, vi a), (2, vi b), (3, vi (i + 1))] [] z (rv Fv) := fun z fz => ih (k + 1) _ z e1 (by push_cast; omega) fz
      exact ⟨fun _ => go y fy, fun _ => ⟨fun _ => go y fy, fun _ => ⟨v6, v6, fun z ez => go z (by rw [ez]; exact fm_si fy rfl)⟩⟩⟩
  exact kg_X10_addTake_0 hq ho _ _ (loop 6 0 _ x rfl (by omega) (fm_rf _ _))
theorem kt_ringFrom (hq : kV q) (ho : kiT q o) (a : Int32) (h : ∀ r, F r x) : KT G q d zk_X10_ringFrom 0 [(0, vr o), (1, vi a)] [] x (ri F) := by
  have k6 : (6 : Int32).toInt = 6 := rfl
  have outer : ∀ (m j : Nat) (l2 l3 : Int32), l3.toInt = j → (7 : Int) - j ≤ m → KT G q d zk_X10_ringFrom 6 [(0, vr o), (1, vi a), (2, vi l2), (3, vi l3)] [] x (ri F) := by
    intro m
    induction m with
    | zero =>
      intro j l2 l3 ej hm
      refine kg_X10_ringFrom_6 hq ho _ _ _ ⟨fun _ => ri_i (h _), fun c => ?_⟩
      rw [t_lt, k6] at c; omega
    | succ m ih =>
      intro j l2 l3 ej hm
      refine kg_X10_ringFrom_6 hq ho _ _ _ ⟨fun _ => ri_i (h _), fun c => ?_⟩
      rw [t_lt, k6] at c
      have e1 : (l3 + 1).toInt = ((j + 1 : Nat) : Int) := by rw [t_add (by show _ ≤ _ + (1 : Int); omega) (by show _ + (1 : Int) ≤ _; omega), ej]; rfl
      have loop : ∀ (n k : Nat) (i l4 : Int32), i.toInt = k → (6 : Int) - k ≤ n → KT G q d zk_X10_ringFrom 18 [(0, vr o), (1, vi a), (2, vi l2), (3, vi l3), (4, vi l4), (5, vi i)] [] x (ri F) := by
        intro n
        induction n with
        | zero =>
          intro k i l4 ei hn
          refine kg_X10_ringFrom_18 hq ho _ _ _ _ _ ⟨fun _ => ⟨fun _ => ih (j + 1) _ _ e1 (by push_cast; omega), fun _ => ri_i (h _)⟩, fun c => ?_⟩
          rw [t_le, k6] at c; omega
        | succ n ihn =>
          intro k i l4 ei hn
          refine kg_X10_ringFrom_18 hq ho _ _ _ _ _ ⟨fun _ => ⟨fun _ => ih (j + 1) _ _ e1 (by push_cast; omega), fun _ => ri_i (h _)⟩, fun c => ?_⟩
          rw [t_le, k6] at c
          have ei1 : (i + 1).toInt = ((k + 1 : Nat) : Int) := by rw [t_add (by show _ ≤ _ + (1 : Int); omega) (by show _ + (1 : Int) ≤ _; omega), ei]; rfl
          exact ⟨fun _ => ihn (k + 1) _ _ ei1 (by push_cast; omega), fun _ => ⟨by rw [vp_in_iff]; omega, ihn (k + 1) _ _ ei1 (by push_cast; omega)⟩⟩
      exact loop 6 0 _ _ rfl (by omega)
  exact kg_X10_ringFrom_0 hq ho _ (outer 7 1 _ _ rfl (by omega))
theorem kt_ring (hq : kV q) (ho : kiT q o) (h : ∀ r, F r x) : KT G q (d + 1) zk_X10_shortestRing 0 [(0, vr o)] [] x (ri F) := by
  have k6 : (6 : Int32).toInt = 6 := rfl
  have loop : ∀ (n k : Nat) (i l1 : Int32), i.toInt = k → (6 : Int) - k ≤ n → KT G q (d + 1) zk_X10_shortestRing 4 [(0, vr o), (1, vi l1), (2, vi i)] [] x (ri F) := by
    intro n
    induction n with
    | zero =>
      intro k i l1 ei hn
      refine kg_X10_shortestRing_4 hq ho _ _ ⟨fun _ => ri_i (h _), fun c => ?_⟩
      rw [t_le, k6] at c; omega
    | succ n ih =>
      intro k i l1 ei hn
      refine kg_X10_shortestRing_4 hq ho _ _ ⟨fun _ => ri_i (h _), fun c => ?_⟩
      rw [t_le, k6] at c
      have ei1 : (i + 1).toInt = ((k + 1 : Nat) : Int) := by rw [t_add (by show _ ≤ _ + (1 : Int); omega) (by show _ + (1 : Int) ≤ _; omega), ei]; rfl
      have go : ∀ l, KT G q (d + 1) zk_X10_shortestRing 4 [(0, vr o), (1, vi l), (2, vi (i + 1))] [] x (ri F) := fun l => ih (k + 1) _ _ ei1 (by push_cast; omega)
      exact kt_ringFrom hq ho _ (fun r => ⟨fun _ => go _, fun _ => ⟨fun _ => go _, fun _ => ⟨fun _ => go _, fun _ => go _⟩⟩⟩)
  exact kg_X10_shortestRing_0 hq ho (loop 6 0 _ _ rfl (by omega))
theorem kt_valueOf (hq : kV q) (ho : kiT q o) (i c : Int32) (hT : TO x q o) (hi : 0 ≤ i.toInt ∧ i.toInt < (x.1 o 3).toInt) (hc : 0 ≤ c.toInt ∧ c.toInt < 24) (h : ∀ r, F r x) : KT G q d zk_X10_valueOf 0 [(0, vr o), (1, vi i), (2, vi c)] [] x (ri F) := by
  obtain ⟨⟨b0, b1, b2⟩, hO⟩ := hT
  have eI : i.toNatClampNeg = i.toInt.toNat := rfl
  obtain ⟨o0, o1⟩ := hO i.toInt.toNat (by omega)
  refine kg_X10_valueOf_0 hq ho _ _ ⟨by rw [vp_in_iff]; omega, ?_⟩
  rw [eI]
  refine ⟨by rw [vp_in_iff]; omega, fun u3 e3 => ?_⟩
  have eO : (x.1 (o + 14) i.toInt.toNat).toNatClampNeg = (x.1 (o + 14) i.toInt.toNat).toInt.toNat := rfl
  obtain ⟨c4, r1, r2, r3, -⟩ := tr_row (i := (x.1 (o + 14) i.toInt.toNat).toInt.toNat) hq ho (by omega)
  rw [eO, r1] at e3
  exact ⟨c4, e3, r2, r3, by rw [vp_in_iff]; omega, ri_i (h _)⟩
theorem kt_order (hq : kV q) (ho : kiT q o) {a b na nb : Nat} (ka : kK a = .inr (.int, na)) (ma : a ∈ (kf q).2.1) (kb : kK b = .inr (.int, nb)) (mb : b ∈ (kf q).2.1) (n : Int32) (hna : n.toInt ≤ na) (hnb : n.toInt ≤ nb) (h24 : n.toInt ≤ 24) (h : ∀ r, F r x) : KT G q d zk_X10_order 0 [(0, vr a), (1, vr b), (2, vi n)] [] x (ri F) := by
  have loop : ∀ (m k : Nat) (i : Int32), i.toInt = k → n.toInt - k ≤ m → KT G q d zk_X10_order 2 [(0, vr a), (1, vr b), (2, vi n), (3, vi i)] [] x (ri F) := by
    intro m
    induction m with
    | zero =>
      intro k i ei hn
      refine kg_X10_order_2 hq ho ka ma kb mb _ _ ⟨fun _ => ri_i (h _), fun c => ?_⟩
      rw [t_le] at c; omega
    | succ m ih =>
      intro k i ei hn
      refine kg_X10_order_2 hq ho ka ma kb mb _ _ ⟨fun _ => ri_i (h _), fun c => ?_⟩
      rw [t_le] at c
      have ei1 : (i + 1).toInt = ((k + 1 : Nat) : Int) := by rw [t_add (by show _ ≤ _ + (1 : Int); omega) (by show _ + (1 : Int) ≤ _; omega), ei]; rfl
      have va : vp_in i na := by rw [vp_in_iff]; omega
      have vb : vp_in i nb := by rw [vp_in_iff]; omega
      exact ⟨va, vb, fun _ => ih (k + 1) _ ei1 (by push_cast; omega), fun _ => ⟨va, vb, fun _ => ri_i (h _), fun _ => ri_i (h _)⟩⟩
  exact kg_X10_order_0 hq ho ka ma kb mb _ (loop 24 0 _ rfl (by omega))
theorem kt_same (hq : kV q) (ho : kiT q o) {p : Nat} (hp : kiT q p) (n : Int32) (h24 : n.toInt ≤ 24) (hT : TO x q o) (hU : TO x q p) (h : ∀ r, gbool r → F r x) : KT G q (d + 1) zk_X10_sameOutcomes 0 [(0, vr o), (1, vr p), (2, vi n)] [] x (ri F) := by
  obtain ⟨⟨b0, b1, b2⟩, hO⟩ := hT
  obtain ⟨⟨c0, c1, c2⟩, hO2⟩ := hU
  refine kg_X10_sameOutcomes_0 hq ho hp _ ⟨fun eq => ?_, fun _ => ri_i (h _ gbool_0)⟩
  rw [t_eq] at eq
  have loop : ∀ (m k : Nat) (i : Int32), i.toInt = k → (x.1 o 3).toInt - k ≤ m → KT G q (d + 1) zk_X10_sameOutcomes 15 [(0, vr o), (1, vr p), (2, vi n), (3, vi i)] [] x (ri F) := by
    intro m
    induction m with
    | zero =>
      intro k i ei hn
      refine kg_X10_sameOutcomes_15 hq ho hp _ _ ⟨fun _ => ri_i (h _ gbool_1), fun c => ?_⟩
      rw [t_le] at c; omega
    | succ m ih =>
      intro k i ei hn
      refine kg_X10_sameOutcomes_15 hq ho hp _ _ ⟨fun _ => ri_i (h _ gbool_1), fun c => ?_⟩
      rw [t_le] at c
      have ei1 : (i + 1).toInt = ((k + 1 : Nat) : Int) := by rw [t_add (by show _ ≤ _ + (1 : Int); omega) (by show _ + (1 : Int) ≤ _; omega), ei]; rfl
      have v1 : vp_in i 3000 := by rw [vp_in_iff]; omega
      have eI : i.toNatClampNeg = k := by rw [t_cl, ei]; rfl
      obtain ⟨o0, o1⟩ := hO k (by omega)
      obtain ⟨p0, p1⟩ := hO2 k (by omega)
      rw [eI]
      refine ⟨v1, by rw [vp_in_iff]; omega, fun u4 e4 => ⟨v1, by rw [vp_in_iff]; omega, fun u7 e7 => ?_⟩⟩
      have eO : ∀ w : Nat, (x.1 w k).toNatClampNeg = (x.1 w k).toInt.toNat := fun w => rfl
      obtain ⟨r, r1, r2, r3, -⟩ := tr_row (i := (x.1 (o + 14) k).toInt.toNat) hq ho (by omega)
      obtain ⟨s, s1, s2, s3, -⟩ := tr_row (i := (x.1 (p + 14) k).toInt.toNat) hq hp (by omega)
      rw [eO, r1] at e4
      rw [eO, s1] at e7
      exact ⟨r, e4, r2, r3, s, e7, s2, s3, kt_order hq ho r2 r3 s2 s3 _ h24 h24 h24 (fun r9 => ⟨fun _ => ih (k + 1) _ ei1 (by push_cast; omega), fun _ => ri_i (h _ gbool_0)⟩)⟩
  exact loop 3000 0 _ rfl (by omega)
end KTR
end
section
/-! the class: all that a program can do -/
theorem t_and8 (a : Int32) : 0 ≤ (a &&& 8191).toInt ∧ (a &&& 8191).toInt < 8192 := by
  have h : (a &&& 8191).toBitVec.toNat ≤ 8191 := by
    rw [Int32.toBitVec_and, BitVec.toNat_and]
    exact Nat.and_le_right
  have e : (a &&& 8191).toInt = ((a &&& 8191).toBitVec.toNat : Int) := by
    show (a &&& 8191).toBitVec.toInt = _
    exact BitVec.toInt_eq_toNat_of_lt (by omega)
  omega
/-- the code is alike -/
def agC (x y : gd) : Prop := ∀ c k, (60 ≤ c ∧ c < 90 ∧ ¬ (c = 60 ∧ k = 5) ∧ c ≠ 65) → y.1 c k = x.1 c k
def agM (o : Nat) (x y : gd) : Prop := ∀ k, 3 ≤ k → k ≤ 9 → y.1 o k = x.1 o k
section KEX
variable {G : kG} {q : kP} {d : Nat} {x x0 y z : gd} {o : Nat} {F : Int32 → gd → Prop} {Fv : gd → Prop}
theorem MG_ag (hc : agC x y) (hm : agM o x y) (h : MG x o) : MG y o := by
  unfold MG at h ⊢
  rw [hm 3 (by omega) (by omega), hm 5 (by omega) (by omega), hm 6 (by omega) (by omega), hm 7 (by omega) (by omega), hm 8 (by omega) (by omega), hm 9 (by omega) (by omega), hc 60 6 (by omega), hc 60 9 (by omega), hc 60 13 (by omega), hc 60 10 (by omega)]
  exact h
theorem pa_lt (hG : MG x o) {t k : Nat} (ht : (t : Int) < (x.1 60 10).toInt) (hk : (k : Int) < (x.1 o 8).toInt) (h7 : 0 ≤ (x.1 o 7).toInt) : (pa x o t k : Int) < (x.1 o 5).toInt := by
  obtain ⟨-, -, -, -, -, h5⟩ := hG
  unfold pa
  rw [h5]
  obtain ⟨S, hS⟩ : ∃ S : Nat, (x.1 o 8).toInt = S := ⟨(x.1 o 8).toInt.toNat, by omega⟩
  obtain ⟨N, hN⟩ : ∃ N : Nat, (x.1 60 10).toInt = N := ⟨(x.1 60 10).toInt.toNat, by omega⟩
  rw [hS] at hk ⊢
  rw [hN] at ht ⊢
  have h1 : (t + 1) * S ≤ N * S := Nat.mul_le_mul_right S (by omega)
  rw [Nat.succ_mul] at h1
  have h2 : ((S : Int) * N) = ((N * S : Nat) : Int) := by push_cast; exact Int.mul_comm _ _
  rw [h2]
  have h3 : (S : Int).toNat = S := by omega
  rw [h3]
  obtain ⟨P, hP⟩ : ∃ P, P = t * S := ⟨_, rfl⟩
  obtain ⟨Q, hQ⟩ : ∃ Q, Q = N * S := ⟨_, rfl⟩
  rw [← hP] at h1 ⊢
  rw [← hQ] at h1 ⊢
  omega
theorem rg_ag (hC : CO x) (hc : agC x y) (hm : agM o x y) (hr : ∀ k : Nat, (k : Int) < (x.1 o 5).toInt → y.1 (o + 5) k = x.1 (o + 5) k) (hG : MG x o) {t k : Nat} (ht : (t : Int) < (x.1 60 10).toInt) (hk : (k : Int) < (x.1 o 8).toInt) : rg y o t k = rg x o t k := by
  have hp : pa y o t k = pa x o t k := by unfold pa; rw [hm 7 (by omega) (by omega), hm 8 (by omega) (by omega)]
  have b := MG_b hC hG
  unfold rg
  rw [hp, hr _ (pa_lt hG ht hk (by omega))]
/-- a machine looks at code, places, row -/
theorem MM_ag (hc : agC x y) (hm : agM o x y) (hr : ∀ k : Nat, (k : Int) < (x.1 o 5).toInt → y.1 (o + 5) k = x.1 (o + 5) k) (h : MM x o) : MM y o := by
  obtain ⟨hC, hG, hT⟩ := h
  have b := MG_b hC hG
  have b1 := b.2.1
  have b2 := b.2.2.2.2.1
  refine ⟨CO_fm hC hc, MG_ag hc hm hG, fun t ht => ?_⟩
  rw [hc 60 10 (by omega)] at ht
  have e : ∀ k : Nat, (k : Int) < (x.1 o 8).toInt → rg y o t k = rg x o t k := fun k hk => rg_ag hC hc hm hr hG ht hk
  obtain ⟨a, g⟩ := hT t ht
  constructor
  · unfold TA ssm at a ⊢
    rw [e 2 (by omega), e 7 (by omega), e 0 (by omega), e 3 (by omega), hc 80 9 (by omega), hm 3 (by omega) (by omega), hm 9 (by omega) (by omega), hc 60 6 (by omega)]
    refine ⟨a.1, a.2.1, a.2.2.1, fun j hj => ?_, a.2.2.2.2⟩
    by_cases hw : x.1 o 3 = 1
    · have := b2 hw
      rw [e _ (by omega)]; exact a.2.2.2.1 j hj
    · rw [a.2.2.1 hw] at hj
      have : (0 : Int32).toInt = 0 := rfl
      omega
  · unfold TGo sop at g ⊢
    rw [e 0 (by omega), e 2 (by omega), e 3 (by omega), hc 81 _ (by omega)]
    exact g
theorem LSk_ag (hM : MM x o) (hc : agC x y) (hm : agM o x y) (hr : ∀ k : Nat, (k : Int) < (x.1 o 5).toInt → y.1 (o + 5) k = x.1 (o + 5) k) (h13 : y.1 o 13 = x.1 o 13) (h1 : ∀ k, y.1 (o + 11) k = x.1 (o + 11) k) (h2 : ∀ k, y.1 (o + 12) k = x.1 (o + 12) k) (h : LSk x o) : LSk y o := by
  have b := (MG_b hM.1 hM.2.1).2.1
  unfold LSk at h ⊢
  rw [h13, hc 60 10 (by omega)]
  refine ⟨h.1, fun i hi => ?_⟩
  obtain ⟨T, a1, a2, a3⟩ := h.2 i hi
  refine ⟨T, by rw [h1]; exact a1, a2, ?_⟩
  have e : ∀ k : Nat, (k : Int) < (x.1 o 8).toInt → rg y o T k = rg x o T k := fun k hk => rg_ag hM.1 hc hm hr hM.2.1 a2 hk
  rw [h2, e 0 (by omega), e 7 (by omega)]; exact a3
/-- a row that was kept is a machine's -/
def KR (x : gd) (s : Nat) : Prop := MM (scp x (1000 + s) 225 0 0 (x.1 220 5).toNatClampNeg) 220
theorem KR_ag {s : Nat} (hc : agC x y) (hm : agM 220 x y) (hr : ∀ k : Nat, k < (x.1 220 5).toNatClampNeg → y.1 (1000 + s) k = x.1 (1000 + s) k) (h : KR x s) : KR y s := by
  unfold KR at h ⊢
  rw [hm 5 (by omega) (by omega)]
  refine MM_ag ?_ ?_ ?_ h
  · intro c k hk
    rw [scp_get, if_neg (by omega), scp_get, if_neg (by omega)]; exact hc c k hk
  · intro k h1 h2
    rw [scp_get, if_neg (by omega), scp_get, if_neg (by omega)]; exact hm k h1 h2
  · intro k hk
    have h5 : (scp x (1000 + s) 225 0 0 (x.1 220 5).toNatClampNeg).1 220 5 = x.1 220 5 := by rw [scp_get, if_neg (by omega)]
    rw [h5] at hk
    have hk2 : k < (x.1 220 5).toNatClampNeg := by rw [t_cl]; omega
    rw [scp_get, if_pos ⟨rfl, by omega, by omega⟩, scp_get, if_pos ⟨rfl, by omega, by omega⟩]
    exact hr _ (by omega)
theorem ke_r {k : Nat} (h : k < q.kn) : (kf q).1 203 k = some (1000 + k) := by
  show kR q 203 k = _
  unfold kR
  rw [if_neg (by omega), if_neg (by omega), if_neg (by omega), if_neg (by omega), if_pos rfl, if_pos h]
theorem ke_k {k : Nat} (h : k < 3000) : kK (1000 + k) = .inr (.int, 228) := by
  unfold kK; rw [if_neg (by omega), if_neg (by omega), if_pos (by omega)]
theorem ke_m (hq : kV q) {k : Nat} (h : k < q.kn) : 1000 + k ∈ (kf q).2.1 := hq.2.2.2.2.2.1 k h
theorem sz_b (hC : CO x) (hG : MG x o) : 0 ≤ (x.1 o 5).toInt ∧ (x.1 o 5).toInt ≤ 228 := by
  have b := MG_b hC hG
  obtain ⟨g1, g2, g3, g4, g5, g6⟩ := hG
  obtain ⟨⟨h1, h2, h3, h4, -⟩, -⟩ := hC
  rw [g6]
  obtain ⟨N, hN⟩ : ∃ N : Nat, (x.1 60 10).toInt = N := ⟨(x.1 60 10).toInt.toNat, by omega⟩
  rw [hN] at h3 ⊢
  have : N = 0 ∨ N = 1 ∨ N = 2 ∨ N = 3 ∨ N = 4 ∨ N = 5 ∨ N = 6 := by omega
  rcases this with e | e | e | e | e | e | e <;> subst e <;> omega
theorem kx_recall (hq : kV q) (he : q.ex = true) (hC : CO x) (hG : MG x 220) (s : Int32) {S : Nat} (es : s.toInt = S) (hs : S < q.kn) (h3 : S < 3000) (hk : KR x S) (h : ∀ y, y = scp x (1000 + S) 225 0 0 (x.1 220 5).toNatClampNeg → MM y 220 → fm (fun c k => c = 225) x y → Fv y) : KT G q (d + 2) zk_X2_recall 0 [(0, vr 200), (1, vi s)] [] x (rv Fv) := by
  have k0 : (0 : Int32).toInt = 0 := rfl
  have b := sz_b hC hG
  refine kg_X2_recall_0 hq he _ ⟨by rw [vp_in_iff]; omega, fun u e => ?_⟩
  rw [t_cl, es, show ((S : Nat) : Int).toNat = S by omega, ke_r hs] at e
  refine ⟨_, e, ke_k h3, ke_m hq hs, by decide, by decide, by rw [t_lt, k0]; omega, by rw [tn0, t_cl]; omega, by rw [tn0, t_cl]; omega, fun z ez => rv_i (h z ez ?_ ?_)⟩
  · rw [ez]; exact hk
  · intro c k hc
    rw [ez, scp_get, if_neg (by omega)]
def sKp (c k : Nat) : Prop := c = 200 ∧ (k = 5 ∨ k = 6)
/-- what looking at the acts changes -/
def sIn (o c k : Nat) : Prop := c = 209 ∨ c = 210 ∨ (c = o ∧ k = 4) ∨ c = o + 8 ∨ c = o + 9 ∨ (c = 220 ∧ k = 14) ∨ (c = 60 ∧ k = 5) ∨ c = 65
theorem iT_O (ho : kiT q o) : o = 260 ∨ o = 280 := by
  rcases ho with ⟨e, -⟩ | ⟨e, -⟩
  · exact Or.inl e
  · exact Or.inr e
theorem sIn_MM (ho : kiT q o) (f : fm (sIn o) x y) (h : MM x 220) : MM y 220 := by
  have hO := iT_O ho
  exact MM_ag (fun c k hc => f c k (by unfold sIn; omega)) (fun k h1 h2 => f _ _ (by unfold sIn; omega)) (fun k hk => f _ _ (by unfold sIn; omega)) h
theorem et_r (h : q.et = some o) : (kf q).1 200 7 = some o := by
  show kR q 200 7 = _
  unfold kR
  rw [if_neg (by omega), if_neg (by omega), if_neg (by omega), if_pos ⟨rfl, rfl⟩, h]
end KEX
end
section
/-! the class: what is made while all is tried -/
theorem rm_i {q q1 : kP} {F : gd → kP → Prop} {x : gd} (hu : kU q1) (hl : kle q q1) (h : F x q1) : rm q F none x q1 := ⟨rfl, hu, hl, h⟩
theorem zn_get {x : gd} {c c' k : Nat} : (znew x c).1 c' k = if c' = c then 0 else x.1 c' k := by
  show (if c' = c then fun _ => (0 : Int32) else x.1 c') k = _
  split <;> rfl
theorem t_div2 {a : Int32} (h : 0 ≤ a.toInt) : (a / 2).toInt = a.toInt / 2 := by
  rw [Int32.toInt_div_of_ne_right _ _ (by decide), show (2 : Int32).toInt = 2 from rfl, Int.tdiv_eq_ediv_of_nonneg h]
theorem tr_none {q : kP} {o i : Nat} (ho : kiT q o) (hi : ¬ i < oN q o) : (kf q).1 (o + 13) i = none := by
  rcases ho with ⟨rfl, h⟩ | ⟨rfl, h⟩
  · have hi : ¬ i < q.o0 := hi
    show kR q 273 i = _
    unfold kR
    rw [if_neg (by omega), if_neg (by omega), if_neg (by omega), if_neg (by omega), if_neg (by omega), if_pos rfl, if_neg hi]
  · have hi : ¬ i < q.o1 := hi
    show kR q 293 i = _
    unfold kR
    rw [if_neg (by omega), if_neg (by omega), if_neg (by omega), if_neg (by omega), if_neg (by omega), if_neg (by omega), if_pos rfl, if_neg hi]
theorem ke_no {q : kP} {k : Nat} (h : ¬ k < q.kn) : (kf q).1 203 k = none := by
  show kR q 203 k = _
  unfold kR
  rw [if_neg (by omega), if_neg (by omega), if_neg (by omega), if_neg (by omega), if_pos rfl, if_neg h]
theorem oN_U {q : kP} (hu : kU q) (o : Nat) : oN q o ≤ 3000 := by
  unfold oN; split
  · exact hu.2.2.2.2.2.1
  · exact hu.2.2.2.2.2.2
theorem oN_le {q q1 : kP} (h : kle q q1) (o : Nat) : oN q o ≤ oN q1 o := by
  unfold oN; split
  · exact h.2.2.1.2.1
  · exact h.2.2.1.2.2
theorem TO_le {x : gd} {q q1 : kP} {o : Nat} (hu : kU q1) (hl : kle q q1) (h : TO x q o) : TO x q1 o := ⟨⟨h.1.1, Int.le_trans h.1.2.1 (by have := oN_le hl o; omega), oN_U hu o⟩, h.2⟩
def sOu (o c k : Nat) : Prop := (c = o ∧ k = 3) ∨ c = o + 14 ∨ 4000 ≤ c
section KMD
variable {G : kG} {q : kP} {d : Nat} {x x0 y z : gd} {o : Nat} {F : Int32 → gd → Prop} {Fv : gd → Prop} {Fm : gd → kP → Prop} {X : String → gd → kP → Prop}
theorem kt_insert (hu : kU q) (ho : kiT q o) {a n : Nat} (ka : kK a = .inr (.int, n)) (ma : a ∈ (kf q).2.1) (hn : 24 ≤ n) (l1 l3 : Int32) (hT : TO x q o) (h1 : 0 ≤ l1.toInt ∧ l1.toInt ≤ (x.1 o 3).toInt) (h3 : 0 ≤ l3.toInt ∧ l3.toInt ≤ 24) (h : ∀ y q1, kU q1 → kle q q1 → q1.et = q.et → fm (sOu o) x y → TO y q1 o → Fm y q1) : KM G q (d + 2) zk_X10_insertOutcome 0 [(0, vr o), (1, vi l1), (2, vr a), (3, vi l3)] [] x (rm q Fm) X := by
  have hO := iT_O ho
  have k3 : (3000 : Int32).toInt = 3000 := rfl
  have k0 : (0 : Int32).toInt = 0 := rfl
  have k1 : (1 : Int32).toInt = 1 := rfl
  have hT0 := hT
  obtain ⟨⟨b0, b1, b2⟩, b3⟩ := hT
  have part2 : ∀ (q1 : kP) (z : gd), kU q1 → kle q q1 → q1.et = q.et → fm (fun c k => 4000 ≤ c) x z → (x.1 o 3).toInt < oN q1 o → KM G q1 (d + 2) zk_X10_insertOutcome 36 [(0, vr o), (1, vi l1), (2, vr a), (3, vi l3)] [] z (rm q Fm) X := by
    intro q1 z hu1 hl1 et1 fz hN
    have hN3 := oN_U hu1 o
    have ho1 := kle_T hl1 ho
    refine kg_X10_insertOutcome_36 hu1 ho1 ka (hl1.1 _ ma) l1 l3 ?_
    rw [fz o 3 (by omega), t_cl (x.1 o 3)]
    refine ⟨by rw [vp_in_iff]; omega, fun u eu => ?_⟩
    obtain ⟨c, hc1, hc2, hc3, hc4⟩ := tr_row hu1.1 ho1 (i := (x.1 o 3).toInt.toNat) (by omega)
    rw [hc1] at eu
    refine ⟨c, eu, hc2, hc3, by decide, by decide, by rw [t_lt, k0]; omega, by rw [tn0, t_cl]; omega, by rw [tn0, t_cl]; omega, fun x11 e11 => ?_⟩
    have f11 : fm (fun c k => 4000 ≤ c) x x11 := by intro c' k' hn'; rw [e11, scp_get, if_neg (by omega)]; exact fz c' k' hn'
    rw [f11 o 3 (by omega)]
    have es : (x.1 o 3 - l1).toInt = (x.1 o 3).toInt - l1.toInt := t_sub (by omega) (by omega)
    have e1 : (l1 + 1).toInt = l1.toInt + 1 := by rw [t_add (by rw [k1]; omega) (by rw [k1]; omega), k1]
    have e31 : (x.1 o 3 + 1).toInt = (x.1 o 3).toInt + 1 := by rw [t_add (by rw [k1]; omega) (by rw [k1]; omega), k1]
    refine ⟨by rw [t_lt, k0]; omega, by rw [t_lt, k0, e1]; omega, by rw [t_lt, k0, es]; omega, by rw [t_cl, t_cl, es]; omega, by rw [t_cl, t_cl, es, e1]; omega, fun x17 e17 => ⟨by rw [vp_in_iff]; omega, fun x19 e19 x20 e20 => ?_⟩⟩
    have h17 : x17.1 o 3 = x.1 o 3 := by rw [e17, scp_get, if_neg (by omega), f11 o 3 (by omega)]
    rw [h17] at e19
    have h19 : x19.1 o 3 = x.1 o 3 := by rw [e19, si_get, if_neg (by omega), h17]
    rw [h19] at e20
    refine rm_i hu1 hl1 (h x20 q1 hu1 hl1 et1 ?_ ?_)
    · intro c' k' hn'
      unfold sOu at hn'
      rw [e20, si_get, if_neg (by omega), e19, si_get, if_neg (by omega), e17, scp_get, if_neg (by omega)]
      exact f11 c' k' (by omega)
    · have g3 : x20.1 o 3 = x.1 o 3 + 1 := by rw [e20, si_get, if_pos ⟨rfl, rfl⟩]
      unfold TO
      rw [g3, e31]
      refine ⟨by omega, fun i hi => ?_⟩
      have gi : x20.1 (o + 14) i = if i = l1.toInt.toNat then x.1 o 3 else if l1.toInt.toNat + 1 ≤ i ∧ i < (x.1 o 3).toInt.toNat + 1 then x.1 (o + 14) (i - 1) else x.1 (o + 14) i := by
        rw [e20, si_get, if_neg (by omega), e19, si_get, t_cl]
        by_cases q1 : i = l1.toInt.toNat
        · rw [if_pos ⟨rfl, q1⟩, if_pos q1]
        · rw [if_neg (fun z => q1 z.2), if_neg q1, e17, scp_get, t_cl, t_cl, t_cl, es, e1]
          by_cases q2 : l1.toInt.toNat + 1 ≤ i ∧ i < (x.1 o 3).toInt.toNat + 1
          · rw [if_pos ⟨rfl, by omega, by omega⟩, if_pos q2, f11 _ _ (by omega), show l1.toInt.toNat + (i - (l1.toInt + 1).toNat) = i - 1 by omega]
          · rw [if_neg (by omega), if_neg q2, f11 _ _ (by omega)]
      rw [gi]
      by_cases q1 : i = l1.toInt.toNat
      · rw [if_pos q1]; omega
      · rw [if_neg q1]
        by_cases q2 : l1.toInt.toNat + 1 ≤ i ∧ i < (x.1 o 3).toInt.toNat + 1
        · rw [if_pos q2]
          have := b3 (i - 1) (by omega)
          omega
        · rw [if_neg q2]
          have := b3 i (by omega)
          omega
  refine kg_X10_insertOutcome_0 hu ho ka ma l1 l3 ⟨fun c => ?_, fun c => rm_i hu (kle_rf q) (h x q hu (kle_rf q) rfl (fm_rf _ _) hT0)⟩
  rw [t_lt, k3] at c
  have v3 : vp_in (x.1 o 3) 3000 := by rw [vp_in_iff]; omega
  rw [t_cl]
  refine ⟨v3, fun u eu => ⟨fun hno => ?_, fun c5 h5 => part2 q x hu (kle_rf q) rfl (fm_rf _ _) ?_⟩⟩
  · have hN : (x.1 o 3).toInt.toNat = oN q o := by
      by_cases hl : (x.1 o 3).toInt.toNat < oN q o
      · obtain ⟨c9, hc1, -⟩ := tr_row hu.1 ho hl
        rw [eu, hc1] at hno; cases hno
      · omega
    refine ⟨hN, v3, fun q6 x7 e6 e7 hu6 hl6 => part2 q6 x7 hu6 hl6 ?_ ?_ ?_⟩
    · rw [e6]; unfold kOr; split <;> rfl
    · intro c' k' hn'
      rw [e7, zn_get, if_neg]
      intro z
      apply hn'
      rw [z]
      unfold oC
      split <;> omega
    · have : oN q6 o = oN q o + 1 := by
        rw [e6]
        rcases hO with e | e
        · rw [e]; rfl
        · rw [e]; rfl
      omega
  · by_cases hl : (x.1 o 3).toInt.toNat < oN q o
    · omega
    · rw [eu, tr_none ho hl] at h5; cases h5
theorem kt_addOutcome (hu : kU q) (ho : kiT q o) {a n : Nat} (ka : kK a = .inr (.int, n)) (ma : a ∈ (kf q).2.1) (hn : 24 ≤ n) (l2 : Int32) (hT : TO x q o) (h2 : 0 ≤ l2.toInt ∧ l2.toInt ≤ 24) (h : ∀ y q1, kU q1 → kle q q1 → q1.et = q.et → fm (sOu o) x y → TO y q1 o → Fm y q1) : KM G q (d + 3) zk_X10_addOutcome 0 [(0, vr o), (1, vr a), (2, vi l2)] [] x (rm q Fm) X := by
  have k3 : (3000 : Int32).toInt = 3000 := rfl
  have k1 : (1 : Int32).toInt = 1 := rfl
  have hT0 := hT
  obtain ⟨⟨b0, b1, b2⟩, b3⟩ := hT
  have fin : ∀ l3 : Int32, 0 ≤ l3.toInt → l3.toInt ≤ (x.1 o 3).toInt → KM G q (d + 3) zk_X10_addOutcome 81 [(0, vr o), (1, vr a), (2, vi l2), (3, vi l3)] [] x (rm q Fm) X := by
    intro l3 g1 g2
    exact kg_X10_addOutcome_81 hu ho ka ma l2 l3 (kt_insert hu ho ka ma hn l3 l2 hT0 ⟨g1, g2⟩ h2 (fun y q1 hu1 hl1 e f t => rm_i hu1 hl1 (h y q1 hu1 hl1 e f t)))
  have loop : ∀ (m k : Nat) (l3 l4 l5 : Int32), l5.toInt = k → 3000 - (k : Int) ≤ m → 0 ≤ l3.toInt → l3.toInt ≤ (x.1 o 3).toInt → l4.toInt ≤ (x.1 o 3).toInt → KM G q (d + 3) zk_X10_addOutcome 11 [(0, vr o), (1, vr a), (2, vi l2), (3, vi l3), (4, vi l4), (5, vi l5)] [] x (rm q Fm) X := by
    intro m
    induction m with
    | zero =>
      intro k l3 l4 l5 e5 hm g1 g2 g3
      refine kg_X10_addOutcome_11 hu ho ka ma l2 l3 l4 l5 ⟨fun _ => fin l3 g1 g2, fun c => ?_⟩
      rw [t_le, k3] at c; omega
    | succ m ih =>
      intro k l3 l4 l5 e5 hm g1 g2 g3
      refine kg_X10_addOutcome_11 hu ho ka ma l2 l3 l4 l5 ⟨fun _ => fin l3 g1 g2, fun c => ⟨fun _ => fin l3 g1 g2, fun c2 => ?_⟩⟩
      rw [t_le, k3] at c
      rw [t_le] at c2
      have es : (l3 + l4).toInt = l3.toInt + l4.toInt := t_add (by omega) (by omega)
      have em : ((l3 + l4) / 2).toInt = (l3.toInt + l4.toInt) / 2 := by rw [t_div2 (by omega), es]
      obtain ⟨mid, hmid⟩ : ∃ w : Int32, w = (l3 + l4) / 2 := ⟨_, rfl⟩
      rw [← hmid] at em ⊢
      clear hmid
      have bm := b3 mid.toInt.toNat (by omega)
      have e51 : (l5 + 1).toInt = ((k + 1 : Nat) : Int) := by rw [t_add (by rw [k1]; omega) (by rw [k1]; omega), k1, e5]; rfl
      have em1 : (mid + 1).toInt = mid.toInt + 1 := by rw [t_add (by rw [k1]; omega) (by rw [k1]; omega), k1]
      rw [t_cl mid]
      obtain ⟨w, hw⟩ : ∃ w, w = x.1 (o + 14) mid.toInt.toNat := ⟨_, rfl⟩
      rw [← hw] at bm ⊢
      refine ⟨by decide, by rw [vp_in_iff]; omega, by rw [vp_in_iff]; omega, fun u eu => ?_⟩
      obtain ⟨c9, hc1, hc2, hc3, hc4⟩ := tr_row hu.1 ho (i := w.toNatClampNeg) (by rw [t_cl]; omega)
      rw [hc1] at eu
      exact ⟨c9, eu, hc2, hc3, kt_order hu.1 ho hc2 hc3 ka ma l2 (by omega) (by omega) (by omega) (fun r => ⟨fun _ => ⟨fun _ => ih (k + 1) _ _ _ e51 (by push_cast; omega) g1 g2 (by omega), fun _ => ih (k + 1) _ _ _ e51 (by push_cast; omega) (by omega) (by omega) g3⟩, fun _ => rm_i hu (kle_rf q) (h x q hu (kle_rf q) rfl (fm_rf _ _) hT0)⟩)⟩
  exact kg_X10_addOutcome_0 hu ho ka ma l2 (loop 3000 0 _ _ _ rfl (by omega) (by decide) (by show (0 : Int) ≤ _; omega) (Int.le_refl _))
end KMD
end
section
/-! the class: all that can be done is tried -/
/-- what stands while states are looked at -/
def XI (x : gd) (q : kP) (o : Nat) : Prop := (CO x ∧ MG x 220) ∧ (TZ x o ∧ TO x q o) ∧ (x.1 o 0).toInt ≤ q.kn ∧ (∀ s : Nat, (s : Int) < (x.1 o 0).toInt → KR x s) ∧ ∀ j : Nat, j < 8192 → 0 ≤ (x.1 205 j).toInt ∧ (x.1 205 j).toInt ≤ (x.1 o 0).toInt
def sQu (o c k : Nat) : Prop := c = 225 ∨ (c = 220 ∧ (k = 13 ∨ k = 14)) ∨ (231 ≤ c ∧ c ≤ 233) ∨ c = 209 ∨ c = 210 ∨ c = 240 ∨ (c = 200 ∧ (k = 5 ∨ k = 6)) ∨ (c = o ∧ (k = 1 ∨ k = 2 ∨ k = 4 ∨ k = 5)) ∨ c = o + 8 ∨ c = o + 9 ∨ (c = 60 ∧ k = 5) ∨ c = 65
def sWd (o c k : Nat) : Prop := sQu o c k ∨ c = o + 7 ∨ (c = o ∧ k = 3) ∨ c = o + 14 ∨ 4000 ≤ c
/-- all that a trying changes -/
def sEx (o c k : Nat) : Prop := (200 ≤ c ∧ c ≤ 259) ∨ (o ≤ c ∧ c ≤ o + 14) ∨ 1000 ≤ c ∨ (c = 60 ∧ k = 5) ∨ c = 65
section KAL
variable {G : kG} {q q0 q1 : kP} {d : Nat} {x x0 y z : gd} {o : Nat} {F : Int32 → gd → Prop} {Fv : gd → Prop} {Fm : gd → kP → Prop} {X : String → gd → kP → Prop}
theorem sWd_C (hO : o = 260 ∨ o = 280) (f : fm (sWd o) x y) : agC x y ∧ agM 220 x y := ⟨fun c k hc => f c k (by unfold sWd sQu; omega), fun k h1 h2 => f _ _ (by unfold sWd sQu; omega)⟩
theorem XI_w (hO : o = 260 ∨ o = 280) (f : fm (sWd o) x y) (hz : TZ y o) (ht : TO y q1 o) (hk : q.kn ≤ q1.kn) (h : XI x q o) (h3 : q.kn ≤ 3000) : XI y q1 o := by
  obtain ⟨⟨hC, hG⟩, -, hn, hr, hb⟩ := h
  obtain ⟨hc, hm⟩ := sWd_C hO f
  have e0 : y.1 o 0 = x.1 o 0 := f o 0 (by unfold sWd sQu; omega)
  refine ⟨⟨CO_fm hC hc, MG_ag hc hm hG⟩, ⟨hz, ht⟩, by rw [e0]; omega, fun s hs => ?_, fun j hj => ?_⟩
  · rw [e0] at hs
    exact KR_ag hc hm (fun k hk => f _ _ (by unfold sWd sQu; omega)) (hr s hs)
  · rw [e0, f 205 j (by unfold sWd sQu; omega)]; exact hb j hj
theorem XI_q (hO : o = 260 ∨ o = 280) (f : fm (sQu o) x y) (h : XI x q o) (h3 : q.kn ≤ 3000) : XI y q o :=
  XI_w hO (fm_w f (fun c k q => Or.inl q)) (TZ_fm f (by unfold sQu; omega) (fun c k hc => by unfold sQu; omega) h.2.1.1) (TO_fm f (by unfold sQu; omega) (fun k => by unfold sQu; omega) h.2.1.2) (Nat.le_refl _) h h3
def sKe (o c k : Nat) : Prop := (c = 200 ∧ (k = 5 ∨ k = 6)) ∨ (c = o ∧ (k = 0 ∨ k = 1)) ∨ (o + 10 ≤ c ∧ c ≤ o + 12) ∨ c = 204 ∨ c = 205 ∨ (1000 ≤ c ∧ c < 4000)
theorem sKe_C (hO : o = 260 ∨ o = 280) (f : fm (sKe o) x y) : agC x y ∧ agM 220 x y := ⟨fun c k hc => f c k (by unfold sKe; omega), fun k h1 h2 => f _ _ (by unfold sKe; omega)⟩
end KAL
end
section
/-! the class: a state is looked at; the trying itself -/
def sVi (o c k : Nat) : Prop := (c = o ∧ (k = 2 ∨ k = 3 ∨ k = 5)) ∨ c = o + 7 ∨ c = o + 14 ∨ 4000 ≤ c ∨ (c = 60 ∧ k = 5) ∨ c = 65
section KTY
variable {G : kG} {q q0 q1 : kP} {d : Nat} {x x0 y z : gd} {o : Nat} {F : Int32 → gd → Prop} {Fv : gd → Prop} {Fm : gd → kP → Prop} {X : String → gd → kP → Prop}
/-- what looking at a state keeps: the machine, what was told of the trying -/
def VI (x0 x : gd) (q : kP) (o : Nat) : Prop := fm (sVi o) x0 x ∧ MM x 220 ∧ TZ x o ∧ TO x q o
theorem VI_st (hO : o = 260 ∨ o = 280) (h : VI x0 x q o) (f : fm (fun c k => (c = o ∧ (k = 2 ∨ k = 5)) ∨ (c = 60 ∧ k = 5) ∨ c = 65) x y) : VI x0 y q o :=
  ⟨fm_tr h.1 (fm_w f (fun c k q => by unfold sVi; omega)), MM_ag (fun c k hc => f c k (by omega)) (fun k h1 h2 => f _ _ (by omega)) (fun k hk => f _ _ (by omega)) h.2.1, TZ_fm f (by omega) (fun c k hc => by omega) h.2.2.1, TO_fm f (by omega) (fun k => by omega) h.2.2.2⟩
theorem VI_fi (hO : o = 260 ∨ o = 280) (h : VI x0 x q o) (f : fm (fun c k => c = o + 7) x y) (hz : TZ y o) : VI x0 y q o :=
  ⟨fm_tr h.1 (fm_w f (fun c k q => by unfold sVi; omega)), MM_ag (fun c k hc => f c k (by omega)) (fun k h1 h2 => f _ _ (by omega)) (fun k hk => f _ _ (by omega)) h.2.1, hz, TO_fm f (by omega) (fun k => by omega) h.2.2.2⟩
theorem VI_ou (hO : o = 260 ∨ o = 280) (h : VI x0 x q o) (f : fm (sOu o) x y) (ht : TO y q1 o) : VI x0 y q1 o :=
  ⟨fm_tr h.1 (fm_w f (fun c k q => by unfold sOu at q; unfold sVi; omega)), MM_ag (fun c k hc => f c k (by unfold sOu; omega)) (fun k h1 h2 => f _ _ (by unfold sOu; omega)) (fun k hk => f _ _ (by unfold sOu; omega)) h.2.1, TZ_fm f (by unfold sOu; omega) (fun c k hc => by unfold sOu; omega) h.2.2.1, ht⟩
theorem VI_0 (hO : o = 260 ∨ o = 280) (h : VI x0 x q o) : x.1 o 0 = x0.1 o 0 ∧ (∀ c k, 60 ≤ c → c < 90 → ¬ (c = 60 ∧ k = 5) → c ≠ 65 → x.1 c k = x0.1 c k) := ⟨h.1 o 0 (by unfold sVi; omega), fun c k h1 h2 h3 h4 => h.1 c k (by unfold sVi; omega)⟩
end KTY
end
section
/-! the class: all states, one after another -/
section KXP
variable {G : kG} {q q0 q1 : kP} {d : Nat} {x x0 y z : gd} {o : Nat} {F : Int32 → gd → Prop} {Fv : gd → Prop} {Fm : gd → kP → Prop} {X : String → gd → kP → Prop}
theorem ex_25 {c k : Nat} (h : c = 225) : sEx o c k := by unfold sEx; omega
theorem ex_Li {c k : Nat} (h : sLi 220 c k) : sEx o c k := by unfold sLi at h; unfold sEx; omega
theorem ex_In {c k : Nat} (h : sIn o c k) : sEx o c k := by unfold sIn at h; unfold sEx; omega
theorem ex_Vi {c k : Nat} (h : sVi o c k) : sEx o c k := by unfold sVi at h; unfold sEx; omega
theorem ex_Mk {c k : Nat} (h : sMk 220 c k) : sEx o c k := by unfold sMk at h; unfold sEx; omega
theorem ex_Ke {c k : Nat} (h : sKe o c k) : sEx o c k := by unfold sKe at h; unfold sEx; omega
theorem ex_Tr {c k : Nat} (h : sTr o c k) : sEx o c k := by unfold sTr at h; unfold sEx; omega
theorem ex_Re {c k : Nat} (h : sRe 220 c k) : sEx o c k := by unfold sRe at h; unfold sEx; omega
theorem qu_25 {c k : Nat} (h : c = 225) : sQu o c k := Or.inl h
theorem qu_Li {c k : Nat} (h : sLi 220 c k) : sQu o c k := by unfold sLi at h; unfold sQu; omega
theorem qu_In {c k : Nat} (h : sIn o c k) : sQu o c k := by unfold sIn at h; unfold sQu; omega
theorem qu_Mk {c k : Nat} (h : sMk 220 c k) : sQu o c k := by unfold sMk at h; unfold sQu; omega
theorem wd_Vi {c k : Nat} (h : sVi o c k) : sWd o c k := by
  unfold sVi at h
  unfold sWd
  rcases h with ⟨h1, h2 | h2 | h2⟩ | h | h | h | h | h
  · exact Or.inl (by unfold sQu; omega)
  · exact Or.inr (Or.inr (Or.inl ⟨h1, h2⟩))
  · exact Or.inl (by unfold sQu; omega)
  · exact Or.inr (Or.inl h)
  · exact Or.inr (Or.inr (Or.inr (Or.inl h)))
  · exact Or.inr (Or.inr (Or.inr (Or.inr h)))
  · exact Or.inl (by unfold sQu; omega)
  · exact Or.inl (by unfold sQu; omega)
theorem c13_25 (f : fm (fun c k => c = 225) x y) : y.1 220 13 = x.1 220 13 := f _ _ (by omega)
theorem c13_In (hO : o = 260 ∨ o = 280) (f : fm (sIn o) x y) : y.1 220 13 = x.1 220 13 := f _ _ (by unfold sIn; omega)
theorem c13_Vi (hO : o = 260 ∨ o = 280) (f : fm (sVi o) x y) : y.1 220 13 = x.1 220 13 := f _ _ (by unfold sVi; omega)
theorem c13_Mk (f : fm (sMk 220) x y) : y.1 220 13 = x.1 220 13 := f _ _ (by unfold sMk; omega)
theorem c13_Ke (hO : o = 260 ∨ o = 280) (f : fm (sKe o) x y) : y.1 220 13 = x.1 220 13 := f _ _ (by unfold sKe; omega)
theorem co0_25 (hO : o = 260 ∨ o = 280) (f : fm (fun c k => c = 225) x y) : y.1 o 0 = x.1 o 0 := f _ _ (by omega)
theorem co0_Li (hO : o = 260 ∨ o = 280) (f : fm (sLi 220) x y) : y.1 o 0 = x.1 o 0 := f _ _ (by unfold sLi; omega)
theorem co0_In (hO : o = 260 ∨ o = 280) (f : fm (sIn o) x y) : y.1 o 0 = x.1 o 0 := f _ _ (by unfold sIn; omega)
end KXP
end
section
/-! the class: the house; what stands between calls -/
def RUN (x : gd) : Prop := MM x 120 ∧ LSk x 120 ∧ JN x
def TRI (x : gd) (q : kP) (o : Nat) : Prop := TO x q o ∧ (x.1 o 0 = 0 ∨ (TZ x o ∧ CO x))
def HOI (x : gd) (q : kP) : Prop := kL x ∧ (¬ x.1 0 9 = 0 → CO x) ∧ (¬ x.1 0 10 = 0 → RUN x) ∧ ∀ o, (o = 260 ∨ o = 280) → TRI x q o ∧ (¬ kiT q o → x.1 o 0 = 0)
/-- what a run changes; what a compiling; what is beside -/
def sRn (c k : Nat) : Prop := (120 ≤ c ∧ c < 180) ∨ (c = 0 ∧ k = 10) ∨ (c = 60 ∧ k = 5) ∨ c = 65
def sCm (c k : Nat) : Prop := (20 ≤ c ∧ c < 120) ∨ c = 0 ∨ ((c = 260 ∨ c = 280) ∧ k = 0)
def sNw (c k : Nat) : Prop := (180 ≤ c ∧ c < 260) ∨ 300 ≤ c
def sFo (c k : Nat) : Prop := (c = 0 ∧ (k = 9 ∨ k = 10)) ∨ ((c = 260 ∨ c = 280) ∧ k = 0)
section KHO
variable {G : kG} {q q0 q1 : kP} {d : Nat} {x x0 y z : gd} {o : Nat} {F : Int32 → gd → Prop} {Fv : gd → Prop} {P : Option gv → gd → Prop} {X : String → gd → Prop}
theorem JN_o (f : ∀ c k, 160 ≤ c → c < 180 → y.1 c k = x.1 c k) (h : JN x) : JN y := by
  unfold JN at h ⊢
  rw [f 160 3 (by omega) (by omega), f 160 2 (by omega) (by omega)]
  refine ⟨h.1, fun a ha => JA_eq (fun c k hc => f c k (by omega) (by omega)) (h.2.1 a ha), fun t ht => ?_⟩
  rw [f 174 t (by omega) (by omega)]; exact h.2.2 t ht
theorem RUN_o (hc : agC x y) (f : ∀ c k, 120 ≤ c → c < 180 → y.1 c k = x.1 c k) (h : RUN x) : RUN y := by
  obtain ⟨h1, h2, h3⟩ := h
  exact ⟨MM_ag hc (fun k a b => f _ _ (by omega) (by omega)) (fun k hk => f _ _ (by omega) (by omega)) h1, LSk_ag h1 hc (fun k a b => f _ _ (by omega) (by omega)) (fun k hk => f _ _ (by omega) (by omega)) (f _ _ (by omega) (by omega)) (fun k => f _ _ (by omega) (by omega)) (fun k => f _ _ (by omega) (by omega)) h2, JN_o (fun c k a b => f c k (by omega) (by omega)) h3⟩
theorem RUN_Lk (f : fm (sLk 120) x y) (h : RUN x) : RUN y := by
  obtain ⟨h1, h2, h3⟩ := h
  have hc : agC x y := fun c k hc => f c k (by unfold sLk; omega)
  have hm : agM 120 x y := fun k a b => f _ _ (by unfold sLk; omega)
  have hr : ∀ k : Nat, (k : Int) < (x.1 120 5).toInt → y.1 (120 + 5) k = x.1 (120 + 5) k := fun k hk => f _ _ (by unfold sLk; omega)
  exact ⟨MM_ag hc hm hr h1, LSk_ag h1 hc hm hr (f _ _ (by unfold sLk; omega)) (fun k => f _ _ (by unfold sLk; omega)) (fun k => f _ _ (by unfold sLk; omega)) h2, JN_o (fun c k a b => f c k (by unfold sLk; omega)) h3⟩
theorem TRI_fm {S : Nat → Nat → Prop} (hO : o = 260 ∨ o = 280) (f : fm S x y) (hc : agC x y) (hS : ∀ c k, 260 ≤ c → c < 300 → ¬ S c k) (h : TRI x q o) : TRI y q o := by
  obtain ⟨h1, h2⟩ := h
  refine ⟨TO_fm f (hS _ _ (by omega) (by omega)) (fun k => hS _ _ (by omega) (by omega)) h1, ?_⟩
  rw [f o 0 (hS _ _ (by omega) (by omega))]
  rcases h2 with e | ⟨a, b⟩
  · exact Or.inl e
  · exact Or.inr ⟨TZ_fm f (hS _ _ (by omega) (by omega)) (fun c k hc => hS _ _ (by omega) (by omega)) a, CO_fm b hc⟩
theorem HOI_run (f : fm sRn x y) (hR : RUN y) (h : HOI x q) : HOI y q := by
  obtain ⟨h1, h2, h3, h4⟩ := h
  have hc : agC x y := fun c k hc => f c k (by unfold sRn; omega)
  refine ⟨?_, fun h9 => ?_, fun _ => hR, fun o hO => ⟨TRI_fm hO f hc (fun c k a b => by unfold sRn; omega) (h4 o hO).1, fun hn => ?_⟩⟩
  · unfold kL at h1 ⊢; rw [f 20 1 (by unfold sRn; omega)]; exact h1
  · rw [f 0 9 (by unfold sRn; omega)] at h9; exact CO_fm (h2 h9) hc
  · rw [f o 0 (by unfold sRn; omega)]; exact (h4 o hO).2 hn
theorem HOI_z (f : fm sCm x y) (hL : kL y) (h9 : ¬ y.1 0 9 = 0 → CO y) (h10 : y.1 0 10 = 0) (hz : ∀ o, kiT q o → y.1 o 0 = 0) (h : HOI x q) (hf : ∀ o, (o = 260 ∨ o = 280) → ¬ kiT q o → y.1 o 0 = x.1 o 0) : HOI y q := by
  refine ⟨hL, h9, fun e => absurd h10 e, fun o hO => ?_⟩
  have z0 : y.1 o 0 = 0 := by
    by_cases e : kiT q o
    · exact hz o e
    · rw [hf o hO e]; exact (h.2.2.2 o hO).2 e
  exact ⟨⟨TO_fm f (by unfold sCm; omega) (fun k => by unfold sCm; omega) (h.2.2.2 o hO).1.1, Or.inl z0⟩, fun _ => z0⟩
theorem HOI_th (h : HOI x q) : HOI x (kTh q) := h
theorem HOI_mk (hl : kle q q1) (hu1 : kU q1) (f : fm sNw x y) (h : HOI x q) : HOI y q1 := by
  obtain ⟨h1, h2, h3, h4⟩ := h
  have hc : agC x y := fun c k hc => f c k (by unfold sNw; omega)
  refine ⟨?_, fun h9 => ?_, fun h10 => ?_, fun o hO => ?_⟩
  · unfold kL at h1 ⊢; rw [f 20 1 (by unfold sNw; omega)]; exact h1
  · rw [f 0 9 (by unfold sNw; omega)] at h9; exact CO_fm (h2 h9) hc
  · rw [f 0 10 (by unfold sNw; omega)] at h10
    exact RUN_o hc (fun c k a b => f c k (by unfold sNw; omega)) (h3 h10)
  · have t := TRI_fm hO f hc (fun c k a b => by unfold sNw; omega) (h4 o hO).1
    refine ⟨⟨TO_le hu1 hl t.1, t.2⟩, fun hn => ?_⟩
    rw [f o 0 (by unfold sNw; omega)]
    exact (h4 o hO).2 (fun e => hn (kle_T hl e))
theorem HOI_ex (hl : kle q q1) (hu1 : kU q1) (ho : kiT q o) (f : fm (sEx o) x y) (hz : TZ y o) (ht : TO y q1 o) (hC : CO x) (h : HOI x q) : HOI y q1 := by
  obtain ⟨h1, h2, h3, h4⟩ := h
  have hO := iT_O ho
  have hc : agC x y := fun c k hc => f c k (by unfold sEx; omega)
  refine ⟨?_, fun h9 => CO_fm hC hc, fun h10 => ?_, fun p hp => ?_⟩
  · unfold kL at h1 ⊢; rw [f 20 1 (by unfold sEx; omega)]; exact h1
  · rw [f 0 10 (by unfold sEx; omega)] at h10
    exact RUN_o hc (fun c k a b => f c k (by unfold sEx; omega)) (h3 h10)
  · by_cases e : p = o
    · subst e
      exact ⟨⟨ht, Or.inr ⟨hz, CO_fm hC hc⟩⟩, fun hn => absurd (kle_T hl ho) hn⟩
    · obtain ⟨⟨t1, t2⟩, t3⟩ := h4 p hp
      have g0 : ∀ k, y.1 p k = x.1 p k := fun k => f p k (by unfold sEx; omega)
      have ff : fm (fun c k => ¬ (p ≤ c ∧ c ≤ p + 14)) x y := fun c k hk => f c k (by unfold sEx; omega)
      refine ⟨⟨TO_le hu1 hl (TO_fm ff (by omega) (fun k => by omega) t1), ?_⟩, fun hn => ?_⟩
      · rw [g0]
        rcases t2 with e2 | ⟨a, b⟩
        · exact Or.inl e2
        · exact Or.inr ⟨TZ_fm ff (by omega) (fun c k hc => by omega) a, CO_fm b hc⟩
      · rw [g0]; exact t3 (fun e3 => hn (kle_T hl e3))
theorem k7_T {n : Nat} (h : (kf q).1 7 n = some o) : kiT q o := by
  have h : kR q 7 n = some o := h
  unfold kR at h
  rw [if_neg (by omega), if_neg (by omega), if_pos rfl] at h
  by_cases e0 : n = 0
  · rw [if_pos e0] at h
    by_cases e : q.t0 = true
    · rw [if_pos e] at h; cases h; exact Or.inl ⟨rfl, e⟩
    · rw [if_neg e] at h; cases h
  · rw [if_neg e0] at h
    by_cases e1 : n = 1
    · rw [if_pos e1] at h
      by_cases e : q.t1 = true
      · rw [if_pos e] at h; cases h; exact Or.inr ⟨rfl, e⟩
      · rw [if_neg e] at h; cases h
    · rw [if_neg e1] at h; cases h
theorem k7_0 (h : (kf q).1 7 0 = none) : ¬ kiT q 260 := by
  intro e
  rcases e with ⟨-, e⟩ | ⟨e, -⟩
  · have h : (if q.t0 = true then some 260 else none) = (none : Option Nat) := h
    rw [if_pos e] at h; cases h
  · omega
theorem k7_1 (h : (kf q).1 7 1 = none) : ¬ kiT q 280 := by
  intro e
  rcases e with ⟨e, -⟩ | ⟨-, e⟩
  · omega
  · have h : (if q.t1 = true then some 280 else none) = (none : Option Nat) := h
    rw [if_pos e] at h; cases h
theorem kz_forget (hq : kV q) (h : ∀ y, fm sFo x y → y.1 0 9 = 0 → y.1 0 10 = 0 → (∀ o, kiT q o → y.1 o 0 = 0) → (∀ o, (o = 260 ∨ o = 280) → ¬ kiT q o → y.1 o 0 = x.1 o 0) → Fv y) : KT G q d zk_X11_forgetAll 0 [(0, vr 0)] [] x (rv Fv) := by
  have k2 : (2 : Int32).toInt = 2 := rfl
  have n0 : (0 : Int32).toNatClampNeg = 0 := rfl
  have n1 : (0 + 1 : Int32).toNatClampNeg = 1 := by decide
  have v0 : vp_in (0 : Int32) 2 := vin0 (by omega)
  have v1 : vp_in (0 + 1 : Int32) 2 := by rw [vp_in_iff]; decide
  refine kg_X11_forgetAll_0 hq (fun x1 e1 x2 e2 => ?_)
  have f2 : fm sFo x x2 := by rw [e2, e1]; exact fm_si (fm_si (fm_rf _ _) (by unfold sFo; omega)) (by unfold sFo; omega)
  have a9 : x2.1 0 9 = 0 := by rw [e2, si_get, if_neg (by omega), e1, si_get, if_pos ⟨rfl, rfl⟩]
  have a10 : x2.1 0 10 = 0 := by rw [e2, si_get, if_pos ⟨rfl, rfl⟩]
  have a26 : x2.1 260 0 = x.1 260 0 := by rw [e2, si_get, if_neg (by omega), e1, si_get, if_neg (by omega)]
  have a28 : x2.1 280 0 = x.1 280 0 := by rw [e2, si_get, if_neg (by omega), e1, si_get, if_neg (by omega)]
  have last : ∀ w : gd, fm sFo x w → w.1 0 9 = 0 → w.1 0 10 = 0 → (∀ o, kiT q o → w.1 o 0 = 0) → (∀ o, (o = 260 ∨ o = 280) → ¬ kiT q o → w.1 o 0 = x.1 o 0) → KT G q d zk_X11_forgetAll 12 [(0, vr 0), (1, vi (0 + 1 + 1))] [] w (rv Fv) := fun w a b c e g => kg_X11_forgetAll_12 hq _ ⟨fun _ => rv_i (h w a b c e g), fun c9 => absurd (by decide) c9⟩
  have second : ∀ w : gd, fm sFo x w → w.1 0 9 = 0 → w.1 0 10 = 0 → (kiT q 260 → w.1 260 0 = 0) → (¬ kiT q 260 → w.1 260 0 = x.1 260 0) → w.1 280 0 = x.1 280 0 → KT G q d zk_X11_forgetAll 12 [(0, vr 0), (1, vi (0 + 1))] [] w (rv Fv) := by
    intro w fw w9 w10 wT wF w8
    refine kg_X11_forgetAll_12 hq _ ⟨fun c9 => absurd c9 (by decide), fun _ => ⟨v1, fun u3 e3 => ?_⟩⟩
    rw [n1] at e3
    rw [n1]
    refine ⟨fun hn => last w fw w9 w10 (fun o ho => ?_) (fun o hO hno => ?_), fun c5 h5 => ⟨v1, fun u7 e7 => ⟨c5, by rw [e7, ← e3, h5], k7_T (by rw [← e3, h5]), fun x10 e10 => ?_⟩⟩⟩
    · rw [hn] at e3
      rcases iT_O ho with e | e
      · subst e; exact wT ho
      · subst e; exact absurd ho (k7_1 e3.symm)
    · rcases hO with e | e
      · subst e; exact wF hno
      · subst e; exact w8
    · have hc5 : c5 = 280 := by
        have : (if q.t1 = true then some 280 else none) = some c5 := by rw [← h5, e3]; rfl
        by_cases e : q.t1 = true
        · rw [if_pos e] at this; cases this; rfl
        · rw [if_neg e] at this; cases this
      subst hc5
      have g : ∀ c k, ¬ (c = 280 ∧ k = 0) → x10.1 c k = w.1 c k := fun c k hc => by rw [e10, si_get, if_neg hc]
      refine last x10 (fm_tr fw (by rw [e10]; exact fm_si (fm_rf _ _) (by unfold sFo; omega))) (by rw [g _ _ (by omega)]; exact w9) (by rw [g _ _ (by omega)]; exact w10) (fun o ho => ?_) (fun o hO hno => ?_)
      · rcases iT_O ho with e | e
        · subst e; rw [g _ _ (by omega)]; exact wT ho
        · subst e; rw [e10, si_get, if_pos ⟨rfl, rfl⟩]
      · rcases hO with e | e
        · subst e; rw [g _ _ (by omega)]; exact wF hno
        · subst e; exact absurd (k7_T (by rw [← e3, h5])) hno
  refine kg_X11_forgetAll_12 hq _ ⟨fun c9 => absurd c9 (by decide), fun _ => ⟨v0, fun u3 e3 => ?_⟩⟩
  rw [n0] at e3
  rw [n0]
  refine ⟨fun hn => second x2 f2 a9 a10 (fun ho => ?_) (fun _ => a26) a28, fun c5 h5 => ⟨v0, fun u7 e7 => ⟨c5, by rw [e7, ← e3, h5], k7_T (by rw [← e3, h5]), fun x10 e10 => ?_⟩⟩⟩
  · rw [hn] at e3; exact absurd ho (k7_0 e3.symm)
  · have hc5 : c5 = 260 := by
      have : (if q.t0 = true then some 260 else none) = some c5 := by rw [← h5, e3]; rfl
      by_cases e : q.t0 = true
      · rw [if_pos e] at this; cases this; rfl
      · rw [if_neg e] at this; cases this
    subst hc5
    have g : ∀ c k, ¬ (c = 260 ∧ k = 0) → x10.1 c k = x2.1 c k := fun c k hc => by rw [e10, si_get, if_neg hc]
    exact second x10 (fm_tr f2 (by rw [e10]; exact fm_si (fm_rf _ _) (by unfold sFo; omega))) (by rw [g _ _ (by omega)]; exact a9) (by rw [g _ _ (by omega)]; exact a10) (fun _ => by rw [e10, si_get, if_pos ⟨rfl, rfl⟩]) (fun hno => absurd (k7_T (by rw [← e3, h5])) hno) (by rw [g _ _ (by omega)]; exact a28)
theorem fo_cm {c k : Nat} (h : sFo c k) : sCm c k := by unfold sFo at h; unfold sCm; omega
/-! what is needed first -/
theorem kz_run (hq : kV q) (hH : HOI x q) (hS : X iSE x) (h : RUN x → Fv x) : KE G q (d + 6) zk_X11_needRun 0 [(0, vr 0)] [] x (rv Fv) X :=
  kg_X11_needRun_0 hq ⟨fun c => rv_i (h (hH.2.2.1 c)), fun _ => hS⟩
theorem kz_way (hq : kV q) (l : Int32) (hA : X iAE x) (h : (l = 0 ∨ l = 1) → Fv x) : KE G q (d + 6) zk_X11_needWay 0 [(0, vi l)] [] x (rv Fv) X := by
  refine kg_X11_needWay_0 hq l ⟨fun _ => kg_X11_needWay_9 hq hA, fun c => ⟨fun c2 => rv_i (h ?_), fun _ => kg_X11_needWay_9 hq hA⟩⟩
  have k0 : (0 : Int32).toInt = 0 := rfl
  have k1 : (1 : Int32).toInt = 1 := rfl
  have k2 : (2 : Int32).toInt = 2 := rfl
  rw [t_lt, k0] at c
  rw [t_lt, k2] at c2
  rw [t_eq, t_eq, k0, k1]; omega
theorem kz_ix (hq : kV q) (l n : Int32) (hO : X iOE x) (h : 0 ≤ l.toInt → l.toInt < n.toInt → Fv x) : KE G q (d + 6) zk_X11_needIndex 0 [(0, vi l), (1, vi n)] [] x (rv Fv) X := by
  refine kg_X11_needIndex_0 hq l n ⟨fun _ => kg_X11_needIndex_9 hq hO, fun c => ⟨fun c2 => rv_i (h ?_ ?_), fun _ => kg_X11_needIndex_9 hq hO⟩⟩
  · have k0 : (0 : Int32).toInt = 0 := rfl
    rw [t_lt, k0] at c; omega
  · rw [t_lt] at c2; exact c2
theorem kz_what (hq : kV q) (l n : Int32) (hO : X iOE x) (h : Fv x) : KE G q (d + 6) zk_X11_needWhat 0 [(0, vi l), (1, vi n)] [] x (rv Fv) X :=
  kg_X11_needWhat_0 hq l n ⟨fun _ => kg_X11_needWhat_9 hq hO, fun _ => ⟨fun _ => rv_i h, fun _ => kg_X11_needWhat_9 hq hO⟩⟩
theorem way_in {l : Int32} (hw : l = 0 ∨ l = 1) : vp_in l 2 := by
  rw [vp_in_iff]
  rcases hw with e | e <;> rw [e] <;> decide
theorem kz_was (hq : kV q) (hH : HOI x q) (l : Int32) (hw : l = 0 ∨ l = 1) (h0 : F 0 x) (h1 : ∀ o, (kf q).1 7 l.toNatClampNeg = some o → kiT q o → TZ x o → TO x q o → CO x → 0 < (x.1 o 0).toInt → F 1 x) : KT G q d zk_X11_wasTried 0 [(0, vr 0), (1, vi l)] [] x (ri F) := by
  have k0 : (0 : Int32).toInt = 0 := rfl
  have v := way_in hw
  refine kg_X11_wasTried_0 hq l ⟨v, fun u2 e2 => ⟨fun _ => ri_i h0, fun c4 h4 => ⟨v, fun u6 e6 => ⟨c4, by rw [e6, ← e2, h4], k7_T (by rw [← e2, h4]), fun _ => ri_i h0, fun c => ri_i ?_⟩⟩⟩⟩
  have ho : kiT q c4 := k7_T (by rw [← e2, h4])
  rw [t_le, k0] at c
  obtain ⟨⟨t1, t2⟩, -⟩ := hH.2.2.2 c4 (iT_O ho)
  rcases t2 with e | ⟨a, b⟩
  · rw [e, k0] at c; omega
  · exact h1 c4 (by rw [← e2, h4]) ho a t1 b (by omega)
end KHO
end
section
/-! the class: begin() -/
section KBF
variable {G : kG} {q : kP} {d : Nat} {x y : gd} {F : Int32 → gd → Prop} {Fv : gd → Prop} {X : String → gd → Prop} {C : gCo}
theorem kf_comp (hq : kV q) (hH : HOI x q) (hS : x.1 0 9 = 0 → X iSE x) (h : ¬ x.1 0 9 = 0 → CO x → Fv x) : KE G q (d + 6) zk_X11_needCompiled 0 [(0, vr 0)] [] x (rv Fv) X :=
  kg_X11_needCompiled_0 hq ⟨fun c => rv_i (h c (hH.2.1 c)), fun c => hS c⟩
theorem kf_way (hq : kV q) (l : Int32) (hA : ¬ (l = 0 ∨ l = 1) → X iAE x) (h : (l = 0 ∨ l = 1) → Fv x) : KE G q (d + 6) zk_X11_needWay 0 [(0, vi l)] [] x (rv Fv) X := by
  have k0 : (0 : Int32).toInt = 0 := rfl
  have k1 : (1 : Int32).toInt = 1 := rfl
  have k2 : (2 : Int32).toInt = 2 := rfl
  refine kg_X11_needWay_0 hq l ⟨fun c => kg_X11_needWay_9 hq (hA (fun z => ?_)), fun c => ⟨fun c2 => rv_i (h ?_), fun c2 => kg_X11_needWay_9 hq (hA (fun z => ?_))⟩⟩
  · rw [t_lt, k0] at c
    rcases z with z | z <;> rw [z] at c
    · rw [k0] at c; omega
    · rw [k1] at c; omega
  · rw [t_lt, k0] at c
    rw [t_lt, k2] at c2
    rw [t_eq, t_eq, k0, k1]
    omega
  · rw [t_lt, k2] at c2
    rcases z with z | z <;> rw [z] at c2
    · rw [k0] at c2; omega
    · rw [k1] at c2; omega
end KBF
end
section
/-! the machine: what stands, which choices there are, what one does -/
/-- a thread: status, number, step, waits (1 not woken, 2 woken), how often it held, its call's kind (-1: none), late writes, locals by place -/
abbrev gTq := Nat × Nat × Nat × Nat × Int32 × Int32 × List (Nat × Int32) × (Nat → Int32)
/-- cells, locks (holder + 1 or 0, how often), threads -/
abbrev gMa := (Nat → Int32) × (Nat → Nat × Int32) × (Nat → gTq)
def stN (C : gCo) (s : Nat) : gNs := (C.1[s]?).getD (0, [], 0, none, 0, 0, false, none, none, none)
def obM (C : gCo) (s : Nat) : Nat := (stN C s).2.2.2.2.1.toNatClampNeg
def suM (C : gCo) (c : Nat) : Bool := match C.2.2.1[c]? with
  | some q => q.2
  | none => false
/-- what comes of a thread's own steps -/
noncomputable def owR (C : gCo) (me : Int32) (s : Nat) (lv : Nat → Int32) : gTr := @dite gTr (∃ r, ∃ n, setP C me n 0 s lv = some r) (Classical.propDecidable _) (fun h => h.choose) (fun _ => (0, 0, 0, fun _ => 0))
theorem owR_is {C : gCo} {me : Int32} {n s : Nat} {lv : Nat → Int32} {r : gTr} (h : setP C me n 0 s lv = some r) : owR C me s lv = r := by
  have h' : ∃ r, ∃ n, setP C me n 0 s lv = some r := ⟨r, n, h⟩
  unfold owR
  rw [dif_pos h']
  obtain ⟨m, hm⟩ := h'.choose_spec
  exact set_det hm h
/-- locals that are known there; 0 where not -/
def kvL (C : gCo) (u s : Nat) (lv : Nat → Int32) : Nat → Int32 := fun p => if (u = 1 ∨ u = 3) ∧ p < (stN C s).2.1.length then lv p else 0
/-- a thread goes on from a step, up to before its next act -/
noncomputable def thN (C : gCo) (t : Nat) (h : gTq) (s : Nat) (lv : Nat → Int32) : gTq := ((owR C (Int32.ofNat t) s lv).1, (owR C (Int32.ofNat t) s lv).2.1, (owR C (Int32.ofNat t) s lv).2.2.1, h.2.2.2.1, h.2.2.2.2.1, h.2.2.2.2.2.1, h.2.2.2.2.2.2.1, kvL C (owR C (Int32.ofNat t) s lv).1 (owR C (Int32.ofNat t) s lv).2.2.1 (owR C (Int32.ofNat t) s lv).2.2.2)
def thF (h : gTq) (k : Nat) : gTq := (3, k, h.2.2)
def upf {α : Type} (f : Nat → α) (j : Nat) (v : α) : Nat → α := fun i => if i = j then v else f i
def upC (M : gMa) (c : Nat) (v : Int32) : gMa := (upf M.1 c v, M.2)
def upL (M : gMa) (l : Nat) (v : Nat × Int32) : gMa := (M.1, upf M.2.1 l v, M.2.2)
def upT (M : gMa) (t : Nat) (h : gTq) : gMa := (M.1, M.2.1, upf M.2.2 t h)
/-- the sort of its next act -/
def soM (C : gCo) (h : gTq) : Nat := if h.2.2.2.1 = 0 then (stN C h.2.2.1).1 else 15
/-- a thread as a run begins; a run's beginning -/
def th0 : gTq := (0, 0, 0, 0, 0, -1, [], fun _ => 0)
noncomputable def fsM (C : gCo) : gMa := (fun c => match C.2.2.1[c]? with | some q => q.1 | none => 0, fun _ => (0, 0), fun t => match C.2.1[t]? with | some q => if q.2 = 1 then th0 else thN C t th0 q.1 (fun _ => 0) | none => th0)
/-- the latest of a row of writes to a cell -/
def seL : List (Nat × Int32) → Nat → Int32 → Int32
  | [], _, v => v
  | q :: r, c, v => seL r c (if q.1 = c then q.2 else v)
def seM (M : gMa) (t c : Nat) : Int32 := seL (M.2.2 t).2.2.2.2.2.2.1 c (M.1 c)
/-- whether its next act can be done -/
abbrev canM (C : gCo) (w : Nat) (M : gMa) (t : Nat) : Prop := (M.2.2 t).1 = 1 ∧ ¬ (M.2.2 t).2.2.2.1 = 1 ∧
  (¬ (soM C (M.2.2 t) = 0 ∨ soM C (M.2.2 t) = 12 ∨ soM C (M.2.2 t) = 13 ∨ soM C (M.2.2 t) = 14 ∨ (w = 1 ∧ soM C (M.2.2 t) = 1 ∧ suM C (obM C (M.2.2 t).2.2.1) = false)) → (M.2.2 t).2.2.2.2.2.2.1 = []) ∧
  ((soM C (M.2.2 t) = 5 ∨ soM C (M.2.2 t) = 15) → (M.2.1 (obM C (M.2.2 t).2.2.1)).1 = 0 ∨ (M.2.1 (obM C (M.2.2 t).2.2.1)).1 = t + 1) ∧
  (soM C (M.2.2 t) = 10 → 2 ≤ (M.2.2 (obM C (M.2.2 t).2.2.1)).1 ∧ (M.2.2 (obM C (M.2.2 t).2.2.1)).2.2.2.2.2.2.1 = [])
/-- those that wait for a lock, not woken yet -/
def waM (C : gCo) (M : gMa) (l : Nat) : List Nat := (List.range C.2.1.length).filter (fun o => (M.2.2 o).2.2.2.1 == 1 && obM C (M.2.2 o).2.2.1 == l)
/-- a thread's late ones that may come: the first of each cell -/
def ltM (h : gTq) : List Nat := (List.range h.2.2.2.2.2.2.1.length).filter (fun i => ((h.2.2.2.2.2.2.1.take i).all (fun q => !(some q.1 == (h.2.2.2.2.2.2.1[i]?).map (fun z => z.1)))))
/-- a choice: thread, late one, woken thread -/
abbrev gCh := Nat × Option Nat × Option Nat
def ch1 (C : gCo) (w : Nat) (M : gMa) (t : Nat) : List gCh :=
  (if canM C w M t then (if soM C (M.2.2 t) = 8 ∧ (stN C (M.2.2 t).2.2.1).2.2.2.2.2.2.1 = false ∧ (M.2.1 (obM C (M.2.2 t).2.2.1)).1 = t + 1 ∧ ¬ waM C M (obM C (M.2.2 t).2.2.1) = [] then (waM C M (obM C (M.2.2 t).2.2.1)).map (fun o => (t, none, some o)) else [(t, none, none)]) else [])
  ++ (ltM (M.2.2 t)).map (fun i => (t, some i, none))
def chM (C : gCo) (w : Nat) (M : gMa) : List gCh := (List.range C.2.1.length).flatMap (ch1 C w M)
/-- where its [ ] leads: a failure, or the cell -/
def lkI (C : gCo) (M : gMa) (t : Nat) : Nat × Int32 := match (stN C (M.2.2 t).2.2.1).2.2.2.2.2.2.2.1 with
  | none => (0, (stN C (M.2.2 t).2.2.1).2.2.2.2.1)
  | some Q => match wkQ (M.2.2 t).2.2.2.2.2.2.2 (fun _ => 0) (Int32.ofNat t) Q with
    | none => (1, -1)
    | some v => if v < 0 ∨ (stN C (M.2.2 t).2.2.1).2.2.2.2.2.1 ≤ v then (2, -1) else (0, (stN C (M.2.2 t).2.2.1).2.2.2.2.1 + v)
def evO (lv : Nat → Int32) (me : Int32) : Option (List gQ) → Option Int32
  | none => some 0
  | some Q => wkQ lv (fun _ => 0) me Q
/-- what else it may fail by -/
def rsF (C : gCo) (w : Nat) (M : gMa) (t s c : Nat) : Nat :=
  if s = 6 ∧ ¬ (M.2.1 c).1 = t + 1 then 3
  else if (s = 7 ∨ s = 8) ∧ ¬ (M.2.1 c).1 = t + 1 then 4
  else if s = 9 ∧ ¬ (M.2.2 c).1 = 0 then 7
  else if (s = 13 ∧ ¬ (M.2.2 t).2.2.2.2.2.1 = -1) ∨ (s = 14 ∧ (M.2.2 t).2.2.2.2.2.1 = -1) then 8
  else if s = 1 ∧ w = 1 ∧ suM C c = false ∧ 8 ≤ (M.2.2 t).2.2.2.2.2.2.1.length then 9 else 0
/-- an act looked at: its failure (0: none), its cell, lock or thread, its values -/
def lkM (C : gCo) (w : Nat) (M : gMa) (t : Nat) : Nat × Int32 × Int32 × Int32 :=
  if ¬ (M.2.2 t).2.2.2.1 = 0 then (0, (stN C (M.2.2 t).2.2.1).2.2.2.2.1, 0, 0)
  else if ¬ (lkI C M t).1 = 0 then ((lkI C M t).1, (lkI C M t).2, 0, 0)
  else match evO (M.2.2 t).2.2.2.2.2.2.2 (Int32.ofNat t) (stN C (M.2.2 t).2.2.1).2.2.2.2.2.2.2.2.1 with
    | none => (1, (lkI C M t).2, 0, 0)
    | some e => match evO (M.2.2 t).2.2.2.2.2.2.2 (Int32.ofNat t) (stN C (M.2.2 t).2.2.1).2.2.2.2.2.2.2.2.2 with
      | none => (1, (lkI C M t).2, e, 0)
      | some f => (rsF C w M t (stN C (M.2.2 t).2.2.1).1 (lkI C M t).2.toNatClampNeg, (lkI C M t).2, e, f)
section PLK
variable {C : gCo} {w : Nat} {M : gMa} {t : Nat} {e f v : Int32} {Q : List gQ}
theorem lkI_n (h : (stN C (M.2.2 t).2.2.1).2.2.2.2.2.2.2.1 = none) : lkI C M t = (0, (stN C (M.2.2 t).2.2.1).2.2.2.2.1) := by
  unfold lkI
  rw [h]
theorem lkI_1 (h : (stN C (M.2.2 t).2.2.1).2.2.2.2.2.2.2.1 = some Q) (g : wkQ (M.2.2 t).2.2.2.2.2.2.2 (fun _ => 0) (Int32.ofNat t) Q = none) : lkI C M t = (1, -1) := by
  unfold lkI
  rw [h]
  simp only [g]
theorem lkI_2 (h : (stN C (M.2.2 t).2.2.1).2.2.2.2.2.2.2.1 = some Q) (g : wkQ (M.2.2 t).2.2.2.2.2.2.2 (fun _ => 0) (Int32.ofNat t) Q = some v) (c : v < 0 ∨ (stN C (M.2.2 t).2.2.1).2.2.2.2.2.1 ≤ v) : lkI C M t = (2, -1) := by
  unfold lkI
  rw [h]
  simp only [g]
  rw [if_pos c]
theorem lkI_0 (h : (stN C (M.2.2 t).2.2.1).2.2.2.2.2.2.2.1 = some Q) (g : wkQ (M.2.2 t).2.2.2.2.2.2.2 (fun _ => 0) (Int32.ofNat t) Q = some v) (c : ¬ (v < 0 ∨ (stN C (M.2.2 t).2.2.1).2.2.2.2.2.1 ≤ v)) : lkI C M t = (0, (stN C (M.2.2 t).2.2.1).2.2.2.2.1 + v) := by
  unfold lkI
  rw [h]
  simp only [g]
  rw [if_neg c]
theorem lkM_15 (h : ¬ (M.2.2 t).2.2.2.1 = 0) : lkM C w M t = (0, (stN C (M.2.2 t).2.2.1).2.2.2.2.1, 0, 0) := by
  unfold lkM
  rw [if_pos h]
theorem lkM_i (h : (M.2.2 t).2.2.2.1 = 0) (g : ¬ (lkI C M t).1 = 0) : lkM C w M t = ((lkI C M t).1, (lkI C M t).2, 0, 0) := by
  unfold lkM
  rw [if_neg (fun z => z h), if_pos g]
theorem lkM_1 (h : (M.2.2 t).2.2.2.1 = 0) (g : (lkI C M t).1 = 0) (e1 : evO (M.2.2 t).2.2.2.2.2.2.2 (Int32.ofNat t) (stN C (M.2.2 t).2.2.1).2.2.2.2.2.2.2.2.1 = none) : lkM C w M t = (1, (lkI C M t).2, 0, 0) := by
  unfold lkM
  rw [if_neg (fun z => z h), if_neg (fun z => z g)]
  simp only [e1]
theorem lkM_2 (h : (M.2.2 t).2.2.2.1 = 0) (g : (lkI C M t).1 = 0) (e1 : evO (M.2.2 t).2.2.2.2.2.2.2 (Int32.ofNat t) (stN C (M.2.2 t).2.2.1).2.2.2.2.2.2.2.2.1 = some e) (e2 : evO (M.2.2 t).2.2.2.2.2.2.2 (Int32.ofNat t) (stN C (M.2.2 t).2.2.1).2.2.2.2.2.2.2.2.2 = none) : lkM C w M t = (1, (lkI C M t).2, e, 0) := by
  unfold lkM
  rw [if_neg (fun z => z h), if_neg (fun z => z g)]
  simp only [e1, e2]
theorem lkM_3 (h : (M.2.2 t).2.2.2.1 = 0) (g : (lkI C M t).1 = 0) (e1 : evO (M.2.2 t).2.2.2.2.2.2.2 (Int32.ofNat t) (stN C (M.2.2 t).2.2.1).2.2.2.2.2.2.2.2.1 = some e) (e2 : evO (M.2.2 t).2.2.2.2.2.2.2 (Int32.ofNat t) (stN C (M.2.2 t).2.2.1).2.2.2.2.2.2.2.2.2 = some f) : lkM C w M t = (rsF C w M t (stN C (M.2.2 t).2.2.1).1 (lkI C M t).2.toNatClampNeg, (lkI C M t).2, e, f) := by
  unfold lkM
  rw [if_neg (fun z => z h), if_neg (fun z => z g)]
  simp only [e1, e2]
end PLK
/-- what it does to others, and what it answers -/
noncomputable def efM (C : gCo) (w : Nat) (M : gMa) (t s c : Nat) (e f : Int32) (wk : Option Nat) : gMa × Int32 :=
  if s = 0 then (M, seM M t c)
  else if s = 1 then (if w = 0 ∨ suM C c = true then (upC M c e, 0) else (upT M t ((M.2.2 t).1, (M.2.2 t).2.1, (M.2.2 t).2.2.1, (M.2.2 t).2.2.2.1, (M.2.2 t).2.2.2.2.1, (M.2.2 t).2.2.2.2.2.1, (M.2.2 t).2.2.2.2.2.2.1 ++ [(c, e)], (M.2.2 t).2.2.2.2.2.2.2), 0))
  else if s = 2 then (upC M c e, M.1 c)
  else if s = 3 then (upC M c (M.1 c + e), M.1 c)
  else if s = 4 then (upC M c (if M.1 c = e then f else M.1 c), if M.1 c = e then 1 else 0)
  else if s = 5 then (upL M c (t + 1, (M.2.1 c).2 + 1), 0)
  else if s = 6 then (upL M c (if (M.2.1 c).2 - 1 = 0 then 0 else t + 1, (M.2.1 c).2 - 1), 0)
  else if s = 7 then (upT (upL M c (0, 0)) t ((M.2.2 t).1, (M.2.2 t).2.1, (M.2.2 t).2.2.1, 1, (M.2.1 c).2, (M.2.2 t).2.2.2.2.2), 0)
  else if s = 8 then ((M.1, M.2.1, fun o => if o < C.2.1.length ∧ (M.2.2 o).2.2.2.1 = 1 ∧ obM C (M.2.2 o).2.2.1 = c ∧ ((stN C (M.2.2 t).2.2.1).2.2.2.2.2.2.1 = true ∨ wk = some o) then ((M.2.2 o).1, (M.2.2 o).2.1, (M.2.2 o).2.2.1, 2, (M.2.2 o).2.2.2.2) else M.2.2 o), 0)
  else if s = 9 then (match C.2.1[c]? with | some q => upT M c (thN C c (M.2.2 c) q.1 (M.2.2 c).2.2.2.2.2.2.2) | none => M, 0)
  else if s = 13 then (upT M t ((M.2.2 t).1, (M.2.2 t).2.1, (M.2.2 t).2.2.1, (M.2.2 t).2.2.2.1, (M.2.2 t).2.2.2.2.1, (stN C (M.2.2 t).2.2.1).2.2.2.2.1, (M.2.2 t).2.2.2.2.2.2), 0)
  else if s = 14 then (upT M t ((M.2.2 t).1, (M.2.2 t).2.1, (M.2.2 t).2.2.1, (M.2.2 t).2.2.2.1, (M.2.2 t).2.2.2.2.1, -1, (M.2.2 t).2.2.2.2.2.2), 0)
  else if s = 15 then (upT (upL M c (t + 1, (M.2.2 t).2.2.2.2.1)) t ((M.2.2 t).1, (M.2.2 t).2.1, (M.2.2 t).2.2.1, 0, 0, (M.2.2 t).2.2.2.2.2), 0)
  else (M, 0)
def toV (st : gNs) (lv : Nat → Int32) (v : Int32) : Nat → Int32 := match st.2.2.2.1 with
  | some p => fup lv p v
  | none => lv
/-- a thread's act is done -/
noncomputable def acM (C : gCo) (w : Nat) (M : gMa) (t : Nat) (wk : Option Nat) : gMa :=
  if ¬ (lkM C w M t).1 = 0 then upT M t (thF (M.2.2 t) (lkM C w M t).1)
  else if soM C (M.2.2 t) = 7 then (efM C w M t 7 (lkM C w M t).2.1.toNatClampNeg 0 0 wk).1
  else upT (efM C w M t (soM C (M.2.2 t)) (lkM C w M t).2.1.toNatClampNeg (lkM C w M t).2.2.1 (lkM C w M t).2.2.2 wk).1 t
    (thN C t ((efM C w M t (soM C (M.2.2 t)) (lkM C w M t).2.1.toNatClampNeg (lkM C w M t).2.2.1 (lkM C w M t).2.2.2 wk).1.2.2 t) ((M.2.2 t).2.2.1 + 1) (toV (stN C (M.2.2 t).2.2.1) (M.2.2 t).2.2.2.2.2.2.2 (efM C w M t (soM C (M.2.2 t)) (lkM C w M t).2.1.toNatClampNeg (lkM C w M t).2.2.1 (lkM C w M t).2.2.2 wk).2))
/-- a late one comes -/
def laM (M : gMa) (t i : Nat) : gMa := match (M.2.2 t).2.2.2.2.2.2.1[i]? with
  | some q => upT (upC M q.1 q.2) t ((M.2.2 t).1, (M.2.2 t).2.1, (M.2.2 t).2.2.1, (M.2.2 t).2.2.2.1, (M.2.2 t).2.2.2.2.1, (M.2.2 t).2.2.2.2.2.1, (M.2.2 t).2.2.2.2.2.2.1.eraseIdx i, (M.2.2 t).2.2.2.2.2.2.2)
  | none => M
/-- a choice is done -/
noncomputable def doM (C : gCo) (w : Nat) (M : gMa) (c : gCh) : gMa := match c.2.1 with
  | some i => laM M c.1 i
  | none => acM C w M c.1 c.2.2
/-- what else every code is like: sums only where they belong; wakeall's sign -/
def NXc (C : gCo) : Prop := ∀ (j : Nat) (st : gNs), C.1[j]? = some st → (¬ st.2.2.2.2.2.2.2.1 = none → st.1 ≤ 4) ∧ (¬ st.2.2.2.2.2.2.2.2.2 = none → st.1 = 4) ∧ (¬ st.2.2.2.2.2.2.2.2.1 = none → (1 ≤ st.1 ∧ st.1 ≤ 4) ∨ st.1 = 13 ∨ st.1 = 14 ∨ (16 ≤ st.1 ∧ st.1 ≤ 18)) ∧ (st.1 = 8 → st.2.2.2.2.2.1 = if st.2.2.2.2.2.2.1 = true then 1 else 0) ∧ (¬ (st.1 = 0 ∨ (2 ≤ st.1 ∧ st.1 ≤ 4) ∨ st.1 = 16 ∨ st.1 = 17 ∨ st.1 = 20) → st.2.2.2.1 = none) ∧ (st.1 ≤ 4 → 0 ≤ st.2.2.2.2.1.toInt ∧ st.2.2.2.2.1.toInt < C.2.2.1.length ∧ (¬ st.2.2.2.2.2.2.2.1 = none → st.2.2.2.2.1.toInt + st.2.2.2.2.2.1.toInt ≤ C.2.2.1.length))
end
