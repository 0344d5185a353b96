/-! the class: names are put in, the code is well -/
/-- a compiled step -/
def CSa (x : gd) (i : Nat) : Prop := (sop x i ≤ 4 → 0 ≤ (x.1 85 i).toInt ∧ (x.1 85 i).toInt + 1 ≤ (x.1 60 6).toInt ∧ (x.1 85 i).toInt + (x.1 86 i).toInt ≤ (x.1 60 6).toInt) ∧ (5 ≤ sop x i → sop x i ≤ 8 → 0 ≤ (x.1 85 i).toInt ∧ (x.1 85 i).toInt < (x.1 60 9).toInt) ∧ (9 ≤ sop x i → sop x i ≤ 10 → 0 ≤ (x.1 85 i).toInt ∧ (x.1 85 i).toInt < (x.1 60 10).toInt)
def CSb (x : gd) (i : Nat) : Prop := (0 ≤ sop x i ∧ ¬ sop x i = 15) ∧ (0 ≤ (x.1 83 i).toInt ∧ (x.1 83 i).toInt ≤ 8) ∧ ((sop x i = 0 ∨ (2 ≤ sop x i ∧ sop x i ≤ 4) ∨ sop x i = 16) → 0 ≤ stg x i ∧ stg x i < (x.1 60 13).toInt) ∧ ((sop x i = 17 ∨ sop x i = 20) → 0 ≤ stg x i ∧ stg x i < ssm x ∧ (sop x i = 20 → (i : Int) < stg x i ∨ sop x (stg x i).toNat = 17)) ∧ (¬ sop x i = 21 → (i : Int) + 1 < ssm x)
def CO (x : gd) : Prop := ((0 ≤ (x.1 60 6).toInt ∧ (x.1 60 6).toInt ≤ 24) ∧ (0 ≤ (x.1 60 9).toInt ∧ (x.1 60 9).toInt ≤ 6) ∧ (0 ≤ (x.1 60 10).toInt ∧ (x.1 60 10).toInt ≤ 6) ∧ (0 ≤ (x.1 60 13).toInt ∧ (x.1 60 13).toInt ≤ 8) ∧ (0 ≤ (x.1 60 14).toInt ∧ (x.1 60 14).toInt ≤ 4) ∧ (0 ≤ (x.1 60 16).toInt ∧ (x.1 60 16).toInt ≤ 4)) ∧ ((0 ≤ (x.1 60 3).toInt ∧ (x.1 60 3).toInt ≤ 800) ∧ ∀ i : Nat, (i : Int) < (x.1 60 3).toInt → x.1 62 i = 2 → 0 ≤ (x.1 63 i).toInt ∧ (x.1 63 i).toInt < 24) ∧ (0 ≤ ssm x ∧ ssm x ≤ 350) ∧ (∀ i : Nat, (i : Int) < ssm x → CSa x i ∧ CSb x i) ∧ ∀ t : Nat, (t : Int) < (x.1 60 10).toInt → 0 ≤ (x.1 72 t).toInt ∧ (x.1 72 t).toInt < ssm x
section KLK
variable {G : kG} {q : kP} {d : Nat} {x x0 y z : gd} {F : Int32 → gd → Prop} {Fv : gd → Prop}
theorem kp_link (hq : kV q) (hB : OT x0 x) (hJ : ∀ j : Nat, (j : Int) < mt x → JM x j) (h : ∀ y, CO y → fm (fun c k => c = 85 ∨ c = 86 ∨ c = 62 ∨ c = 63) x y → Fv y) : KT G q d zk_X7_link 0 [(0, vr 100)] [] x (rv Fv) := by
  obtain ⟨⟨hR, hU, hsp, hP⟩, hF, ⟨-, hN, hC, ⟨s0, hA⟩, hTS⟩, hSC, h5, -, acc⟩ := hB
  obtain ⟨hT, b1, b2, b3⟩ := hR
  have b4 : mt x ≤ 701 := by obtain ⟨-, n, en, hn, -⟩ := hT; unfold mt; omega
  have k10 : (10 : Int32).toInt = 10 := rfl
  have k4 : (4 : Int32).toInt = 4 := rfl
  have k2 : (2 : Int32).toInt = 2 := rfl
  have nbu : ¬ BU x := by
    rintro ⟨j, j1, j2⟩
    have := (hJ j (by omega)).1
    rcases j2 with e | e | e | e <;> rw [e] at this <;> revert this <;> decide
  have sm350 : ssm x ≤ 350 := by omega
  -- the steps that hold names still
  have step : ∀ i : Nat, (i : Int) < ssm x → sop x i ≤ 10 → ∃ t : Nat, (x.1 85 i).toInt = t ∧ (t : Int) < mt x ∧ (sop x i ≤ 4 → 0 ≤ (x.1 43 t).toInt ∧ (x.1 43 t).toInt < (x.1 40 6).toInt) ∧ (5 ≤ sop x i → sop x i ≤ 8 → 0 ≤ (x.1 43 t).toInt ∧ (x.1 43 t).toInt < (x.1 60 9).toInt) ∧ (9 ≤ sop x i → 0 ≤ (x.1 43 t).toInt ∧ (x.1 43 t).toInt < (x.1 60 10).toInt) := by
    intro i hi ho
    obtain ⟨-, -, hs, -⟩ := hA i hi
    obtain ⟨t, t1, t2, t3, t4, t5⟩ := hs ho
    obtain ⟨j1, j2, j3, j4, -⟩ := hJ t (by omega)
    refine ⟨t, t1, by omega, fun c => j4 ?_, fun c1 c2 => ?_, fun c => ?_⟩
    · rcases t3 c with e | e | e | e
      · exact Or.inl e
      · exact Or.inr e
      · exfalso; rw [e] at j1; revert j1; decide
      · exfalso; rw [e] at j1; revert j1; decide
    · rw [hC.2.1]; exact j2 (t4 c1 c2)
    · rw [hC.2.2.1]; exact j3 (t5 c)
  -- sums
  have part : ∀ i : Nat, (i : Int) < (x.1 60 3).toInt → x.1 62 i = 6 → ∃ t : Nat, (x.1 63 i).toInt = t ∧ (t : Int) < mt x ∧ (0 ≤ (x.1 43 t).toInt ∧ (x.1 43 t).toInt < (x.1 40 6).toInt) ∧ (x.1 42 t = 7 → (t : Int) + 2 < mt x ∧ 0 ≤ (x.1 27 (t + 2)).toInt ∧ (x.1 27 (t + 2)).toInt < (x.1 46 (x.1 43 t).toNatClampNeg).toInt) := by
    intro i hi c
    obtain ⟨t, t1, t2, t3⟩ := (hP i hi).2 c
    obtain ⟨-, -, -, j4, -⟩ := hJ t (by omega)
    refine ⟨t, t1, by omega, j4 (t3.imp id (fun e => e.1)), fun c7 => ?_⟩
    rcases t3 with e | ⟨-, e2, e3, e4⟩
    · rw [c7] at e; exact absurd e (by decide)
    · obtain ⟨-, -, -, -, j5⟩ := hJ (t + 2) (by push_cast; omega)
      have := j5 e3
      rw [Nat.add_sub_cancel] at this
      obtain ⟨-, n, en, hn, hw, -⟩ := hT
      exact ⟨by omega, (hw (t + 2) (by unfold mt at *; omega)).2.2 e4, this⟩
  have cell : ∀ m : Int32, 0 ≤ m.toInt → m.toInt < (x.1 40 6).toInt → vp_in m 24 ∧ 0 ≤ (x.1 45 m.toNatClampNeg).toInt ∧ (x.1 45 m.toNatClampNeg).toInt + 1 ≤ (x.1 60 6).toInt ∧ 0 ≤ (x.1 46 m.toNatClampNeg).toInt ∧ (x.1 45 m.toNatClampNeg).toInt + (x.1 46 m.toNatClampNeg).toInt ≤ (x.1 60 6).toInt := by
    intro m m0 m1
    have := hN.1.2
    obtain ⟨-, p2, p3, p4, p5, p6⟩ := hN.2.2.2.1 m.toNatClampNeg (by rw [t_cl]; omega)
    exact ⟨by rw [vp_in_iff]; omega, p2, p5, p3, p6⟩
  have c24 := hC.1
  -- the second loop
  have loop2 : ∀ (n k : Nat) (i : Int32) (y : gd), i.toInt = k → (k : Int) + n = (x.1 60 3).toInt → fm (fun c j => c = 85 ∨ c = 86 ∨ ((c = 62 ∨ c = 63) ∧ j < k)) x y → (∀ j : Nat, (j : Int) < ssm x → CSa y j) → (∀ j : Nat, j < k → y.1 62 j = 2 → 0 ≤ (y.1 63 j).toInt ∧ (y.1 63 j).toInt < 24) → KT G q d zk_X7_link 134 [(0, vr 100), (1, vi i)] [] y (rv Fv) := by
    have fin : ∀ (k : Nat) (y : gd), (k : Int) = (x.1 60 3).toInt → fm (fun c j => c = 85 ∨ c = 86 ∨ ((c = 62 ∨ c = 63) ∧ j < k)) x y → (∀ j : Nat, (j : Int) < ssm x → CSa y j) → (∀ j : Nat, j < k → y.1 62 j = 2 → 0 ≤ (y.1 63 j).toInt ∧ (y.1 63 j).toInt < 24) → Fv y := by
      intro k y ek fy hy1 hy2
      have e60 : ∀ j, y.1 60 j = x.1 60 j := fun j => fy _ _ (by omega)
      have es : ssm y = ssm x := by unfold ssm; rw [fy 80 9 (by omega)]
      have ep : ∀ j, sop y j = sop x j := fun j => by unfold sop; rw [fy 81 j (by omega)]
      have et : ∀ j, stg y j = stg x j := fun j => by unfold stg; rw [fy 84 j (by omega)]
      refine h y ⟨?_, ?_, by omega, fun i hi => ⟨hy1 i (by omega), ?_⟩, fun t ht => ?_⟩ (fm_w fy (fun c j q => by omega))
      · rw [e60, e60, e60, e60, e60, e60]
        refine ⟨hC.1, ?_, ?_, hC.2.2.2.2.2.1, hC.2.2.2.1, hC.2.2.2.2.1⟩
        · rw [hC.2.1]; exact hN.2.1
        · rw [hC.2.2.1]; exact hN.2.2.1
      · rw [e60]
        exact ⟨hsp, fun i hi c => hy2 i (by omega) c⟩
      · unfold CSb
        rw [ep, et, es, e60, ep, fy 83 i (by omega)]
        obtain ⟨a1, a2, -, a4⟩ := hA i (by omega)
        refine ⟨a1, a2, fun c => ?_, fun c => ?_, fun c => ?_⟩
        · rcases a4 c with g | g
          · exact g
          · exact absurd g nbu
        · rcases hSC i (by omega) (fun e => e) c with ⟨-, g, -⟩ | ⟨g1, g2, g3, g4⟩
          · exact absurd h5 g
          · exact ⟨g1, g3 h5, g4⟩
        · rcases hTS.2 h5 with g | g
          · omega
          · by_cases hl : (i : Int) + 1 < ssm x
            · exact hl
            · exfalso
              have : i = (ssm x).toNat - 1 := by omega
              apply c
              unfold sop
              rw [this, g]; rfl
      · rw [e60] at ht
        rw [fy 72 t (by omega), es]
        obtain ⟨p1, -, p3⟩ := hTS.1 t ht
        exact ⟨p1, p3 h5⟩
    intro n
    induction n with
    | zero =>
      intro k i y ei hk fy hy1 hy2
      refine kg_X7_link_134 hq _ ⟨fun _ => rv_i (fin k y (by omega) fy hy1 hy2), fun c => ?_⟩
      exfalso; rw [fy 60 3 (by omega), t_le] at c; omega
    | succ n ih =>
      intro k i y ei hk fy hy1 hy2
      have eN : i.toNatClampNeg = k := by rw [t_cl, ei]; rfl
      have e1 : (i + 1).toInt = ((k + 1 : Nat) : Int) := by rw [t_add (by show _ ≤ _ + (1 : Int); omega) (by show _ + (1 : Int) ≤ _; omega), ei]; rfl
      have vi9 : vp_in i 800 := by rw [vp_in_iff]; omega
      refine kg_X7_link_134 hq _ ⟨fun c => ?_, fun c => ⟨vi9, vi9, ?_⟩⟩
      · exfalso; rw [fy 60 3 (by omega), t_le] at c; omega
      rw [eN, fy 62 k (by omega), fy 63 k (by omega)]
      refine ⟨fun c6 => ih (k + 1) (i + 1) y e1 (by push_cast; omega) (fm_w fy (fun c j q => by omega)) hy1 (fun j hj c2 => ?_), fun c6 => ?_⟩
      · by_cases hjk : j = k
        · rw [hjk] at c2 ⊢
          rw [fy 62 k (by omega)] at c2
          rw [fy 63 k (by omega)]
          rcases (hP k (by omega)).1 c2 with g | g
          · exact g
          · exact absurd g nbu
        · exact hy2 j (by omega) c2
      obtain ⟨t, t1, t2, ⟨m0, m1⟩, t3⟩ := part k (by omega) c6
      have tN : (x.1 63 k).toNatClampNeg = t := by rw [t_cl, t1]; rfl
      have vt : vp_in (x.1 63 k) 702 := by rw [vp_in_iff]; omega
      obtain ⟨q1, q2, q3, q4, q5⟩ := cell _ m0 m1
      have p198 : ∀ s : Int32, 0 ≤ s.toInt → (x.1 45 (x.1 43 t).toNatClampNeg).toInt + s.toInt < 24 → KT G q d zk_X7_link 198 [(0, vr 100), (1, vi i), (2, vi (x.1 63 k))] [vi s] y (rv Fv) := by
        intro s s0' s1
        refine kg_X7_link_198 hq _ _ _ ⟨vi9, fun x2 e2 => ⟨vt, ?_⟩⟩
        rw [tN, eN]
        have f2 : ∀ c j, c ≠ 62 → x2.1 c j = y.1 c j := fun c j hc => by rw [e2, si_cell hc]
        rw [f2 43 t (by decide), fy 43 t (by omega), f2 45 _ (by decide), fy 45 _ (by omega)]
        refine ⟨q1, vi9, fun x6 e6 => ?_⟩
        rw [eN] at e2
        have es : (x.1 45 (x.1 43 t).toNatClampNeg + s).toInt = (x.1 45 (x.1 43 t).toNatClampNeg).toInt + s.toInt := t_add (by omega) (by omega)
        refine ih (k + 1) (i + 1) x6 e1 (by push_cast; omega) ?_ (fun j hj => ?_) (fun j hj c2 => ?_)
        · rw [e6, e2]; exact fm_si (fm_si (fm_w fy (fun c j q => by omega)) (by omega)) (by omega)
        · have := hy1 j hj
          unfold CSa sop at this ⊢
          have g : ∀ c j, c ≠ 62 → c ≠ 63 → x6.1 c j = y.1 c j := fun c j h1 h2 => by rw [e6, si_cell h2, f2 c j h1]
          rw [g 81 j (by decide) (by decide), g 85 j (by decide) (by decide), g 86 j (by decide) (by decide), g 60 6 (by decide) (by decide), g 60 9 (by decide) (by decide), g 60 10 (by decide) (by decide)]
          exact this
        · by_cases hjk : j = k
          · have : x6.1 63 j = x.1 45 (x.1 43 t).toNatClampNeg + s := by rw [hjk, e6]; (simp only [si_get, sfl_get, Nat.reduceEqDiff, eq_self, and_false, false_and, and_true, true_and, if_true, if_false, reduceIte, reduceCtorEq])
            rw [this, es]; omega
          · have a1 : x6.1 63 j = y.1 63 j := by rw [e6, si_get, if_neg (fun q => hjk q.2), f2 63 j (by decide)]
            have a2 : x6.1 62 j = y.1 62 j := by rw [e6, si_cell (by decide), e2, si_get, if_neg (fun q => hjk q.2)]
            rw [a1]; rw [a2] at c2
            exact hy2 j (by omega) c2
      rw [tN, fy 42 t (by omega)]
      refine ⟨vt, fun _ => p198 0 (by decide) (by show _ + (0 : Int) < _; omega), fun c7 => ?_⟩
      obtain ⟨g1, g2, g3⟩ := t3 c7
      have e2 : (x.1 63 k + 2).toInt = t + 2 := by rw [t_add (by rw [k2]; omega) (by rw [k2]; omega), k2, t1]
      have e3 : (x.1 63 k + 2).toNatClampNeg = t + 2 := by rw [t_cl, e2]; omega
      rw [e3, fy 27 (t + 2) (by omega)]
      exact ⟨by rw [vp_in_iff]; omega, p198 _ g2 (by omega)⟩
  -- the first loop
  have loop1 : ∀ (n k : Nat) (i : Int32) (y : gd), i.toInt = k → (k : Int) + n = ssm x → fm (fun c j => (c = 85 ∨ c = 86) ∧ j < k) x y → (∀ j : Nat, j < k → CSa y j) → KT G q d zk_X7_link 2 [(0, vr 100), (1, vi i)] [] y (rv Fv) := by
    intro n
    induction n with
    | zero =>
      intro k i y ei hk fy hy1
      refine kg_X7_link_2 hq _ ⟨fun _ => loop2 (x.1 60 3).toInt.toNat 0 _ y rfl (by omega) (fm_w fy (fun c j q => by omega)) (fun j hj => hy1 j (by omega)) (fun j hj => by omega), fun c => ?_⟩
      exfalso; rw [fy 80 9 (by omega), t_le] at c; unfold ssm at hk; omega
    | succ n ih =>
      intro k i y ei hk fy hy1
      have eN : i.toNatClampNeg = k := by rw [t_cl, ei]; rfl
      have e1 : (i + 1).toInt = ((k + 1 : Nat) : Int) := by rw [t_add (by show _ ≤ _ + (1 : Int); omega) (by show _ + (1 : Int) ≤ _; omega), ei]; rfl
      have vi9 : vp_in i 400 := by rw [vp_in_iff]; omega
      refine kg_X7_link_2 hq _ ⟨fun c => ?_, fun c => ⟨vi9, ?_⟩⟩
      · exfalso; rw [fy 80 9 (by omega), t_le] at c; unfold ssm at hk; omega
      rw [eN, fy 85 k (by omega), fy 81 k (by omega)]
      have keep : ¬ sop x k ≤ 10 → ∀ j : Nat, j < k + 1 → CSa y j := by
        intro hno j hj
        by_cases hjk : j = k
        · unfold CSa
          have : sop y j = sop x k := by unfold sop; rw [hjk, fy 81 k (by omega)]
          rw [this]
          exact ⟨fun c => by omega, fun c1 c2 => by omega, fun c1 c2 => by omega⟩
        · exact hy1 j (by omega)
      refine ⟨fun cm => ih (k + 1) (i + 1) y e1 (by push_cast; omega) (fm_w fy (fun c j q => by omega)) (keep (fun ho => ?_)), fun cm => ⟨vi9, fun c10 => ih (k + 1) (i + 1) y e1 (by push_cast; omega) (fm_w fy (fun c j q => by omega)) (keep (fun ho => ?_)), fun c10 => ?_⟩⟩
      · obtain ⟨t, t1, -⟩ := step k (by omega) ho
        rw [cm, tm1] at t1; omega
      · rw [t_lt, k10] at c10; unfold sop at ho; omega
      rw [t_lt, k10] at c10
      have ho : sop x k ≤ 10 := by unfold sop; omega
      obtain ⟨t, t1, t2, t3, t4, t5⟩ := step k (by omega) ho
      have tN : (x.1 85 k).toNatClampNeg = t := by rw [t_cl, t1]; rfl
      rw [tN, fy 43 t (by omega)]
      have p98 : ∀ (a s r : Int32) (hv : (a = 0 → r = 0) ∧ (¬ a = 0 → vp_in (x.1 43 t) 24 ∧ r = x.1 46 (x.1 43 t).toNatClampNeg)), ((sop x k ≤ 4 → 0 ≤ s.toInt ∧ s.toInt + 1 ≤ (x.1 60 6).toInt ∧ s.toInt + r.toInt ≤ (x.1 60 6).toInt) ∧ (5 ≤ sop x k → sop x k ≤ 8 → 0 ≤ s.toInt ∧ s.toInt < (x.1 60 9).toInt) ∧ (9 ≤ sop x k → sop x k ≤ 10 → 0 ≤ s.toInt ∧ s.toInt < (x.1 60 10).toInt)) → KT G q d zk_X7_link 98 [(0, vr 100), (1, vi i), (3, vi (x.1 43 t)), (4, vi a)] [vi s, vi i, vr 85] y (rv Fv) := by
        intro a s r hv hcs
        refine kg_X7_link_98 hq _ _ _ _ _ ⟨vi9, fun x2 e2 => ?_⟩
        rw [eN] at e2 ⊢
        have go : ∀ z, z = si x2 86 k r → KT G q d zk_X7_link 2 [(0, vr 100), (1, vi (i + 1))] [] z (rv Fv) := by
          intro z ez
          refine ih (k + 1) (i + 1) z e1 (by push_cast; omega) ?_ (fun j hj => ?_)
          · rw [ez, e2]; exact fm_si (fm_si (fm_w fy (fun c j q => by omega)) (by omega)) (by omega)
          · have g : ∀ c j, c ≠ 85 → c ≠ 86 → z.1 c j = y.1 c j := fun c j h1 h2 => by rw [ez, si_cell h2, e2, si_cell h1]
            by_cases hjk : j = k
            · have z5 : z.1 85 j = s := by rw [hjk, ez, e2]; (simp only [si_get, sfl_get, Nat.reduceEqDiff, eq_self, and_false, false_and, and_true, true_and, if_true, if_false, reduceIte, reduceCtorEq])
              have z6 : z.1 86 j = r := by rw [hjk, ez]; (simp only [si_get, sfl_get, Nat.reduceEqDiff, eq_self, and_false, false_and, and_true, true_and, if_true, if_false, reduceIte, reduceCtorEq])
              unfold CSa
              have : sop z j = sop x k := by unfold sop; rw [hjk, g 81 k (by decide) (by decide), fy 81 k (by omega)]
              rw [this, z5, z6, g 60 6 (by decide) (by decide), g 60 9 (by decide) (by decide), g 60 10 (by decide) (by decide), fy 60 6 (by omega), fy 60 9 (by omega), fy 60 10 (by omega)]
              exact hcs
            · have := hy1 j (by omega)
              unfold CSa sop at this ⊢
              have z5 : z.1 85 j = y.1 85 j := by rw [ez, si_cell (by decide), e2, si_get, if_neg (fun q => hjk q.2)]
              have z6 : z.1 86 j = y.1 86 j := by rw [ez, si_get, if_neg (fun q => hjk q.2), e2, si_cell (by decide)]
              rw [z5, z6, g 81 j (by decide) (by decide), g 60 6 (by decide) (by decide), g 60 9 (by decide) (by decide), g 60 10 (by decide) (by decide)]
              exact this
        refine ⟨fun c0 => ⟨vi9, fun z ez => go z (by rw [ez, hv.1 c0])⟩, fun c0 => ⟨(hv.2 c0).1, vi9, fun z ez => go z ?_⟩⟩
        rw [ez, (hv.2 c0).2, e2, si_cell (by decide), fy 46 _ (by omega)]
      refine ⟨by rw [vp_in_iff]; omega, vi9, fun c4 => ?_, fun c4 => ?_⟩
      · rw [t_lt, k4] at c4
        refine kg_X7_link_70 hq _ _ _ ⟨fun _ => p98 0 _ 0 ⟨fun _ => rfl, fun q => absurd rfl q⟩ ⟨fun c => ?_, t4, fun c1 _ => t5 c1⟩, fun q => absurd rfl q⟩
        unfold sop at c; omega
      · rw [t_lt, k4] at c4
        have h4 : sop x k ≤ 4 := by unfold sop; omega
        obtain ⟨m0, m1⟩ := t3 h4
        obtain ⟨q1, q2, q3, q4, q5⟩ := cell _ m0 m1
        refine kg_X7_link_70 hq _ _ _ ⟨fun q => absurd q (by decide), fun _ => ⟨q1, ?_⟩⟩
        rw [fy 45 _ (by omega)]
        exact p98 1 _ _ ⟨fun q => absurd q (by decide), fun _ => ⟨q1, rfl⟩⟩ ⟨fun _ => ⟨q2, q3, q5⟩, fun c1 _ => by omega, fun c1 _ => by omega⟩
  exact kg_X7_link_0 hq (loop1 (ssm x).toNat 0 _ x rfl (by omega) (fm_rf _ _) (fun j hj => by omega))
end KLK
