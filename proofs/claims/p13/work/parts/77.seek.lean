section
/-! trying: the states kept. many 120, isPartly 121, outcomes 123, findings 126, outcome 129, rows 133, nextRow 134, heads 135 -/
theorem t_and4 (a : Int32) : vp_in (a &&& 4095) 4096 := by
  have h : (a &&& 4095).toBitVec.toNat ≤ 4095 := by
    rw [Int32.toBitVec_and, BitVec.toNat_and]
    exact Nat.and_le_right
  have e : (a &&& 4095).toInt = ((a &&& 4095).toBitVec.toNat : Int) := by
    show (a &&& 4095).toBitVec.toInt = _
    exact BitVec.toInt_eq_toNat_of_lt (by omega)
  rw [vp_in_iff]
  omega
/-- what belongs to the other way stays -/
def ow (W : Nat) (z z' : gd) : Prop := ∀ w : Nat, w < 2 → ¬ w = W → z'.1 120 w = z.1 120 w ∧ z'.1 123 w = z.1 123 w ∧ (∀ f : Nat, f < 11 → z'.1 126 (11 * w + f) = z.1 126 (11 * w + f)) ∧ ∀ s : Nat, s < 3000 → z'.1 130 (3000 * w + s) = z.1 130 (3000 * w + s) ∧ z'.1 131 (3000 * w + s) = z.1 131 (3000 * w + s) ∧ z'.1 132 (3000 * w + s) = z.1 132 (3000 * w + s)
theorem ow_tr {W : Nat} {x y z : gd} (a : ow W x y) (b : ow W y z) : ow W x z := by
  intro w hw hn
  obtain ⟨a1, a2, a3, a4⟩ := a w hw hn
  obtain ⟨b1, b2, b3, b4⟩ := b w hw hn
  exact ⟨b1.trans a1, b2.trans a2, fun f hf => (b3 f hf).trans (a3 f hf), fun s hs => ⟨(b4 s hs).1.trans (a4 s hs).1, (b4 s hs).2.1.trans (a4 s hs).2.1, (b4 s hs).2.2.trans (a4 s hs).2.2⟩⟩
theorem ow_mi {W : Nat} {L A : List Nat} {x y : gd} (m : mi L A x y) (hA : [120, 123, 126, 130, 131, 132].all (fun k => !A.elem k) = true) : ow W x y := by
  have g := fun k (h0 : k ≠ 0) hk => m.2.1 k h0 (all_no hA k hk)
  intro w _ _
  rw [g 120 (by decide) (by decide), g 123 (by decide) (by decide), g 126 (by decide) (by decide), g 130 (by decide) (by decide), g 131 (by decide) (by decide), g 132 (by decide) (by decide)]
  exact ⟨rfl, rfl, fun _ _ => rfl, fun _ _ => ⟨rfl, rfl, rfl⟩⟩
/-- one int changed, that belongs to the way W -/
theorem ow_si {W c j : Nat} {x : gd} {v : Int32} (hW : W < 2) (h : ((c = 120 ∨ c = 123) ∧ j = W) ∨ (c = 126 ∧ ∃ f : Nat, f < 11 ∧ j = 11 * W + f) ∨ ((c = 130 ∨ c = 131 ∨ c = 132) ∧ ∃ s : Nat, s < 3000 ∧ j = 3000 * W + s)) : ow W x (si x c j v) := by
  intro w hw hn
  have o : ∀ c' j' : Nat, ¬ (c' = c ∧ j' = j) → (si x c j v).1 c' j' = x.1 c' j' := fun c' j' q => by rw [si_get, if_neg q]
  refine ⟨o _ _ ?_, o _ _ ?_, fun f hf => o _ _ ?_, fun s hs => ⟨o _ _ ?_, o _ _ ?_, o _ _ ?_⟩⟩
  all_goals
    rcases h with ⟨h1, h2⟩ | ⟨h1, f', h2, h3⟩ | ⟨h1, s', h2, h3⟩
    all_goals
      have : w = 0 ∧ W = 1 ∨ w = 1 ∧ W = 0 := by omega
      omega
/-- rows that hang together -/
def hsR (z : gd) (M : Int) : Prop := (∀ h : Nat, h < 4096 → z.1 135 h = -1 ∨ (0 ≤ (z.1 135 h).toInt ∧ (z.1 135 h).toInt < M)) ∧ ∀ s : Nat, (s : Int) < M → z.1 134 s = -1 ∨ (0 ≤ (z.1 134 s).toInt ∧ (z.1 134 s).toInt < s)
section SEK
variable {G : mG} {d D : Nat} {x z a : gd} {F : Int32 → gd → Prop} {Fv : gd → Prop}
theorem t11 {w f : Int32} (wv : vp_in w 2) (f0 : 0 ≤ f.toInt) (f1 : f.toInt < 11) : vp_in (11 * w + f) 22 ∧ (11 * w + f).toNatClampNeg = 11 * w.toNatClampNeg + f.toNatClampNeg := by
  have k : (11 : Int32).toInt = 11 := rfl
  have tv := vp_in_iff.mp wv
  have m : (11 * w).toInt = 11 * w.toInt := by rw [t_mul (by rw [k]; omega) (by rw [k]; omega), k]
  have e : (11 * w + f).toInt = 11 * w.toInt + f.toInt := by rw [t_add (by omega) (by omega), m]
  have := t_cl (11 * w + f)
  have := t_cl w
  have := t_cl f
  exact ⟨by rw [vp_in_iff]; omega, by omega⟩
/-- findings stay in range -/
def fnd (z : gd) (W : Nat) (M : Int) : Prop := ∀ f : Nat, f < 11 → z.1 126 (11 * W + f) = -1 ∨ (0 ≤ (z.1 126 (11 * W + f)).toInt ∧ (z.1 126 (11 * W + f)).toInt < M)
theorem sp_locksOf (t : Int32) (h24 : (z.1 0 24).toInt ≤ 6) (h : ∀ r, F r z) : MT G d z_locksOf 0 [(0, vr 0), (1, vi t)] [] z (ri F) := by
  have k0 : (0 : Int32).toInt = 0 := rfl
  have k1 : (1 : Int32).toInt = 1 := rfl
  have loop : ∀ (n : Nat) (m i : Int32), 0 ≤ i.toInt → (z.1 0 24).toInt - i.toInt ≤ n → MT G d z_locksOf 4 [(0, vr 0), (1, vi t), (2, vi m), (3, vi i)] [] z (ri F) := by
    intro n
    induction n with
    | zero =>
      intro m i i0 hn
      exact sg_locksOf_4 _ _ _ ⟨fun _ => ri_i (h _), fun c => absurd (t_le.mpr (by omega)) c⟩
    | succ n ih =>
      intro m i i0 hn
      refine sg_locksOf_4 _ _ _ ⟨fun _ => ri_i (h _), fun c => ?_⟩
      rw [t_le] at c
      have ii : (i + 1).toInt = i.toInt + 1 := by rw [t_add (by omega) (by omega), k1]
      exact ⟨by rw [vp_in_iff]; omega, fun _ => ih _ _ (by omega) (by omega), fun _ => ih _ _ (by omega) (by omega)⟩
  exact sg_locksOf_0 _ (loop 6 0 0 (by decide) (by rw [k0]; omega))
theorem t72 {w i c : Int32} (wv : vp_in w 2) (i0 : 0 ≤ i.toInt) (i1 : i.toInt < 3000) (c0 : 0 ≤ c.toInt) (c1 : c.toInt < 24) : vp_in (72000 * w + 24 * i + c) 144000 := by
  have k : (72000 : Int32).toInt = 72000 := rfl
  have k2 : (24 : Int32).toInt = 24 := rfl
  have tv := vp_in_iff.mp wv
  have m : (72000 * w).toInt = 72000 * w.toInt := by rw [t_mul (by rw [k]; omega) (by rw [k]; omega), k]
  have m2 : (24 * i).toInt = 24 * i.toInt := by rw [t_mul (by rw [k2]; omega) (by rw [k2]; omega), k2]
  have e : (72000 * w + 24 * i).toInt = 72000 * w.toInt + 24 * i.toInt := by rw [t_add (by omega) (by omega), m, m2]
  rw [vp_in_iff, t_add (by omega) (by omega), e]; omega
theorem sp_addOutcome (w : Int32) (wv : vp_in w 2) (o0 : 0 ≤ (z.1 123 w.toNatClampNeg).toInt) (o1 : (z.1 123 w.toNatClampNeg).toInt < 3000) (h23 : (z.1 0 23).toInt ≤ 24) (h : ∀ z', md [] [123, 129] z z' → ow w.toNatClampNeg z z' → 0 ≤ (z'.1 123 w.toNatClampNeg).toInt → (z'.1 123 w.toNatClampNeg).toInt ≤ (z.1 123 w.toNatClampNeg).toInt + 1 → Fv z') : MT G d z_addOutcome 0 [(0, vr 0), (1, vi w)] [] z (rv Fv) := by
  have k0 : (0 : Int32).toInt = 0 := rfl
  have k1 : (1 : Int32).toInt = 1 := rfl
  have k24 : (24 : Int32).toInt = 24 := rfl
  obtain ⟨O, eO⟩ : ∃ O, O = z.1 123 w.toNatClampNeg := ⟨_, rfl⟩
  rw [← eO] at o0 o1 h
  have p83 : ∀ (n : Nat) (y : gd) (c : Int32), 0 ≤ c.toInt → 24 - c.toInt ≤ n → md [] [129] z y → MT G d z_addOutcome 83 [(0, vr 0), (1, vi w), (2, vi c)] [] y (rv Fv) := by
    have last : ∀ y : gd, md [] [129] z y → vp_in w 2 ∧ vp_in w 2 ∧ (∀ x4 : gd, x4 = si y 123 w.toNatClampNeg ((y.1 123 w.toNatClampNeg) + 1) → rv Fv none x4) := by
      intro y my
      refine ⟨wv, wv, fun y4 e4 => ?_⟩
      have f : y.1 123 w.toNatClampNeg = O := by rw [my.2.1 123 (by decide) (by decide), eO]
      rw [f] at e4
      have m4 := md_a y 123 w.toNatClampNeg (O + 1) (by decide)
      rw [← e4] at m4
      have g : (y4.1 123 w.toNatClampNeg).toInt = O.toInt + 1 := by rw [e4, si_get, if_pos ⟨rfl, rfl⟩, t_add (by omega) (by omega), k1]
      refine rv_i (h y4 (md_tr my m4 rfl rfl) (ow_tr (ow_mi (mi_of my) rfl) (by rw [e4]; exact ow_si (vp_lt wv) (Or.inl ⟨Or.inr rfl, rfl⟩))) (by omega) (by omega))
    intro n
    induction n with
    | zero =>
      intro y c c0 hn my
      exact sg_addOutcome_83 _ _ ⟨fun _ => last y my, fun q => absurd (t_le.mpr (by rw [k24]; omega)) q⟩
    | succ n ih =>
      intro y c c0 hn my
      refine sg_addOutcome_83 _ _ ⟨fun _ => last y my, fun q => ?_⟩
      rw [t_le, k24] at q
      have ci : (c + 1).toInt = c.toInt + 1 := by rw [t_add (by omega) (by omega), k1]
      have f : y.1 123 w.toNatClampNeg = O := by rw [my.2.1 123 (by decide) (by decide), eO]
      rw [f]
      refine ⟨wv, by rw [vp_in_iff]; omega, t72 wv o0 o1 c0 (by omega), fun y8 e8 => ?_⟩
      have m8 := md_a y 129 (72000 * w + 24 * O + c).toNatClampNeg (y.1 70 c.toNatClampNeg) (by decide)
      rw [← e8] at m8
      exact ih y8 (c + 1) (by omega) (by omega) (md_tr my m8 rfl rfl)
  have q83 : MT G d z_addOutcome 83 [(0, vr 0), (1, vi w), (2, vi 0)] [] z (rv Fv) := p83 24 z 0 (by decide) (by decide) (md_w (md_rf z) (by decide) (by decide))
  have same : rv Fv none z := rv_i (h z (md_w (md_rf z) (by decide) (by decide)) (ow_mi (L := []) (A := []) ⟨fun _ _ => rfl, fun _ _ _ => rfl, fun _ => rfl⟩ rfl) (by rw [← eO]; exact o0) (by rw [← eO]; omega))
  have p2 : ∀ (n : Nat) (i : Int32), 0 ≤ i.toInt → O.toInt - i.toInt ≤ n → MT G d z_addOutcome 2 [(0, vr 0), (1, vi w), (2, vi i)] [] z (rv Fv) := by
    intro n
    induction n with
    | zero =>
      intro i i0 hn
      refine sg_addOutcome_2 _ _ ⟨wv, ?_⟩
      rw [← eO]
      exact ⟨fun _ => q83, fun c => absurd (t_le.mpr (by omega)) c⟩
    | succ n ih =>
      intro i i0 hn
      refine sg_addOutcome_2 _ _ ⟨wv, ?_⟩
      rw [← eO]
      refine ⟨fun _ => q83, fun c => ?_⟩
      rw [t_le] at c
      have ii : (i + 1).toInt = i.toInt + 1 := by rw [t_add (by omega) (by omega), k1]
      have p70 : ∀ v : Int32, MT G d z_addOutcome 70 [(0, vr 0), (1, vi w), (2, vi i), (3, vi v)] [] z (rv Fv) := fun v => sg_addOutcome_70 _ _ _ ⟨fun _ => ih (i + 1) (by omega) (by omega), fun _ => same⟩
      have p17 : ∀ (m : Nat) (v c : Int32), 0 ≤ c.toInt → 24 - c.toInt ≤ m → MT G d z_addOutcome 17 [(0, vr 0), (1, vi w), (2, vi i), (3, vi v), (4, vi c)] [] z (rv Fv) := by
        intro m
        induction m with
        | zero =>
          intro v c c0 hm
          exact sg_addOutcome_17 _ _ _ _ ⟨fun _ => p70 v, fun q => absurd (t_le.mpr (by omega)) q⟩
        | succ m ihm =>
          intro v c c0 hm
          refine sg_addOutcome_17 _ _ _ _ ⟨fun _ => p70 v, fun q => ⟨fun _ => p70 v, fun _ => ?_⟩⟩
          rw [t_le] at q
          have ci : (c + 1).toInt = c.toInt + 1 := by rw [t_add (by omega) (by omega), k1]
          exact ⟨t72 wv i0 (by omega) c0 (by omega), by rw [vp_in_iff]; omega, fun _ => ihm _ _ (by omega) (by omega), fun _ => ihm _ _ (by omega) (by omega)⟩
      exact p17 24 1 0 (by decide) (by decide)
  exact sg_addOutcome_0 _ (p2 O.toInt.toNat 0 (by decide) (by rw [k0]; omega))
theorem t24 {i c : Int32} (i0 : 0 ≤ i.toInt) (i1 : i.toInt < 6000) (c0 : 0 ≤ c.toInt) (c1 : c.toInt < 24) : vp_in (24 * i + c) 144000 := by
  have k2 : (24 : Int32).toInt = 24 := rfl
  have m2 : (24 * i).toInt = 24 * i.toInt := by rw [t_mul (by rw [k2]; omega) (by rw [k2]; omega), k2]
  rw [vp_in_iff, t_add (by omega) (by omega), m2]; omega
theorem sp_isLess (a b : Int32) (a0 : 0 ≤ a.toInt) (a1 : a.toInt < 6000) (b0 : 0 ≤ b.toInt) (b1 : b.toInt < 6000) (h : ∀ r, F r z) : MT G d z_isLess 0 [(0, vr 0), (1, vi a), (2, vi b)] [] z (ri F) := by
  have k1 : (1 : Int32).toInt = 1 := rfl
  have k24 : (24 : Int32).toInt = 24 := rfl
  have loop : ∀ (n : Nat) (c : Int32), 0 ≤ c.toInt → 24 - c.toInt ≤ n → MT G d z_isLess 2 [(0, vr 0), (1, vi a), (2, vi b), (3, vi c)] [] z (ri F) := by
    intro n
    induction n with
    | zero =>
      intro c c0 hn
      exact sg_isLess_2 _ _ _ ⟨fun _ => ri_i (h _), fun q => absurd (t_le.mpr (by rw [k24]; omega)) q⟩
    | succ n ih =>
      intro c c0 hn
      refine sg_isLess_2 _ _ _ ⟨fun _ => ri_i (h _), fun q => ?_⟩
      rw [t_le, k24] at q
      have ci : (c + 1).toInt = c.toInt + 1 := by rw [t_add (by omega) (by omega), k1]
      have va := t24 a0 a1 c0 (by omega)
      have vb := t24 b0 b1 c0 (by omega)
      exact ⟨va, vb, fun _ => ih _ (by omega) (by omega), fun _ => ⟨va, vb, fun _ => ri_i (h _), fun _ => ri_i (h _)⟩⟩
  exact sg_isLess_0 _ _ (loop 24 0 (by decide) (by decide))
theorem sp_sortOutcomes (w : Int32) (wv : vp_in w 2) (o0 : 0 ≤ (z.1 123 w.toNatClampNeg).toInt) (o1 : (z.1 123 w.toNatClampNeg).toInt ≤ 3000) (h : ∀ z', md [] [129] z z' → Fv z') : MT G (d + 1) z_sortOutcomes 0 [(0, vr 0), (1, vi w)] [] z (rv Fv) := by
  have k0 : (0 : Int32).toInt = 0 := rfl
  have k1 : (1 : Int32).toInt = 1 := rfl
  have k24 : (24 : Int32).toInt = 24 := rfl
  have k3 : (3000 : Int32).toInt = 3000 := rfl
  have tv := vp_in_iff.mp wv
  obtain ⟨O, eO⟩ : ∃ O, O = z.1 123 w.toNatClampNeg := ⟨_, rfl⟩
  rw [← eO] at o0 o1
  have b1 : (3000 * w).toInt = 3000 * w.toInt := by rw [t_mul (by rw [k3]; omega) (by rw [k3]; omega), k3]
  obtain ⟨B, eB⟩ : ∃ B, B = 3000 * w := ⟨_, rfl⟩
  rw [← eB] at b1
  have bo : (B + O).toInt = B.toInt + O.toInt := by rw [t_add (by omega) (by omega)]
  have p10 : ∀ (n : Nat) (y : gd) (i : Int32), md [] [129] z y → B.toInt < i.toInt → i.toInt ≤ 6001 → 6001 - i.toInt ≤ n → MT G (d + 1) z_sortOutcomes 10 [(0, vr 0), (1, vi w), (2, vi B), (3, vi i)] [] y (rv Fv) := by
    intro n
    induction n with
    | zero =>
      intro y i my hi i6 hn
      refine sg_sortOutcomes_10 _ _ _ ⟨wv, ?_⟩
      rw [my.2.1 123 (by decide) (by decide), ← eO]
      exact ⟨fun _ => rv_i (h y my), fun c => absurd (t_le.mpr (by omega)) c⟩
    | succ n ih =>
      intro y i my hi i6 hn
      refine sg_sortOutcomes_10 _ _ _ ⟨wv, ?_⟩
      rw [my.2.1 123 (by decide) (by decide), ← eO]
      refine ⟨fun _ => rv_i (h y my), fun c => ?_⟩
      rw [t_le, bo] at c
      have ii : (i + 1).toInt = i.toInt + 1 := by rw [t_add (by omega) (by omega), k1]
      have p25 : ∀ (m : Nat) (u : gd) (j : Int32), md [] [129] z u → B.toInt ≤ j.toInt → j.toInt ≤ i.toInt → j.toInt - B.toInt ≤ m → MT G (d + 1) z_sortOutcomes 25 [(0, vr 0), (1, vi w), (2, vi B), (3, vi i), (4, vi j)] [] u (rv Fv) := by
        intro m
        induction m with
        | zero =>
          intro u j mu j0 j1 hm
          exact sg_sortOutcomes_25 _ _ _ _ ⟨fun _ => ih u (i + 1) mu (by omega) (by omega) (by omega), fun q => absurd (t_le.mpr (by omega)) q⟩
        | succ m ihm =>
          intro u j mu j0 j1 hm
          refine sg_sortOutcomes_25 _ _ _ _ ⟨fun _ => ih u (i + 1) mu (by omega) (by omega) (by omega), fun q => ?_⟩
          rw [t_le] at q
          obtain ⟨js, jc⟩ := t_s1 (a := j) (by omega)
          obtain ⟨jm, jmc⟩ := t_m1 (a := j) (by omega)
          obtain ⟨J, eJ⟩ : ∃ J, J = j - 1 := ⟨_, rfl⟩
          obtain ⟨K, eK⟩ : ∃ K, K = j + -1 := ⟨_, rfl⟩
          rw [← eJ] at js jc ⊢
          rw [← eK] at jm jmc
          have p47 : ∀ (k : Nat) (u : gd) (c : Int32), md [] [129] z u → 0 ≤ c.toInt → 24 - c.toInt ≤ k → MT G (d + 1) z_sortOutcomes 47 [(0, vr 0), (1, vi w), (2, vi B), (3, vi i), (4, vi j), (5, vi c)] [] u (rv Fv) := by
            intro k
            induction k with
            | zero =>
              intro u c mu c0 hk
              refine sg_sortOutcomes_47 _ _ _ _ _ ⟨fun _ => ?_, fun q => absurd (t_le.mpr (by rw [k24]; omega)) q⟩
              rw [← eK]
              exact ihm u K mu (by omega) (by omega) (by omega)
            | succ k ihk =>
              intro u c mu c0 hk
              refine sg_sortOutcomes_47 _ _ _ _ _ ⟨fun _ => ?_, fun q2 => ?_⟩
              · rw [← eK]
                exact ihm u K mu (by omega) (by omega) (by omega)
              · rw [t_le, k24] at q2
                have ci : (c + 1).toInt = c.toInt + 1 := by rw [t_add (by omega) (by omega), k1]
                have va := t24 (i := j) (c := c) (by omega) (by omega) c0 (by omega)
                have vb := t24 (i := J) (c := c) (by omega) (by omega) c0 (by omega)
                rw [← eJ]
                refine ⟨va, vb, va, fun u5 e5 => ⟨vb, fun u7 e7 => ?_⟩⟩
                have m5 := md_a u 129 (24 * j + c).toNatClampNeg (u.1 129 (24 * J + c).toNatClampNeg) (by decide)
                rw [← e5] at m5
                have m7 := md_a u5 129 (24 * J + c).toNatClampNeg (u.1 129 (24 * j + c).toNatClampNeg) (by decide)
                rw [← e7] at m7
                exact ihk u7 (c + 1) (md_tr (md_tr (L3 := []) (A3 := [129]) mu m5 rfl rfl) m7 rfl rfl) (by omega) (by omega)
          exact sp_isLess _ _ (by omega) (by omega) (by omega) (by omega) (fun r => ⟨fun _ => ih u (i + 1) mu (by omega) (by omega) (by omega), fun _ => p47 24 u 0 mu (by decide) (by decide)⟩)
      exact p25 (i.toInt - B.toInt).toNat y i my (by omega) (by omega) (by omega)
  have bi' : (B + 1).toInt = B.toInt + 1 := by rw [t_add (by omega) (by omega), k1]
  refine sg_sortOutcomes_0 _ ?_
  rw [← eB]
  exact p10 6001 z (B + 1) (md_w (md_rf z) (by decide) (by decide)) (by omega) (by omega) (by omega)
theorem tmul {k w i : Int32} {K N n : Nat} (hk : k.toInt = K) (wv : vp_in w 2) (i0 : 0 ≤ i.toInt) (i1 : i.toInt < n) (hn : n ≤ K) (hK : K ≤ 10000) (hN : 2 * K ≤ N) : vp_in (k * w + i) N ∧ (k * w + i).toNatClampNeg = K * w.toNatClampNeg + i.toNatClampNeg := by
  have tv := vp_in_iff.mp wv
  have e1 : w.toInt = 0 ∨ w.toInt = 1 := by omega
  have cw := cl_i tv.1
  have ci := cl_i i0
  have m : (k * w).toInt = K * w.toInt := by
    rcases e1 with e1 | e1
    · rw [t_mul (by rw [e1]; omega) (by rw [e1]; omega), hk]
    · rw [t_mul (by rw [e1]; omega) (by rw [e1]; omega), hk]
  rcases e1 with e1 | e1
  · rw [e1] at m
    have e : (k * w + i).toInt = i.toInt := by rw [t_add (by omega) (by omega), m]; omega
    have w0 : w.toNatClampNeg = 0 := by omega
    have := cl_i (a := k * w + i) (by omega)
    exact ⟨by rw [vp_in_iff]; omega, by rw [w0]; omega⟩
  · rw [e1] at m
    have e : (k * w + i).toInt = K + i.toInt := by rw [t_add (by omega) (by omega), m]; omega
    have w0 : w.toNatClampNeg = 1 := by omega
    have := cl_i (a := k * w + i) (by omega)
    exact ⟨by rw [vp_in_iff]; omega, by rw [w0]; omega⟩
theorem sp_forgetTrying (w : Int32) (wv : vp_in w 2) (h : ∀ z', md [] [120, 121, 122, 123, 124, 125, 126, 127, 128] z z' → ow w.toNatClampNeg z z' → z'.1 120 w.toNatClampNeg = 0 → z'.1 121 w.toNatClampNeg = 0 → z'.1 123 w.toNatClampNeg = 0 → (∀ f : Nat, f < 11 → z'.1 126 (11 * w.toNatClampNeg + f) = -1) → Fv z') : MT G d z_forgetTrying 0 [(0, vr 0), (1, vi w)] [] z (rv Fv) := by
  have k0 : (0 : Int32).toInt = 0 := rfl
  have k1 : (1 : Int32).toInt = 1 := rfl
  have k11 : (11 : Int32).toInt = 11 := rfl
  have k24 : (24 : Int32).toInt = 24 := rfl
  have k36 : (36 : Int32).toInt = 36 := rfl
  have zb : vp_nar .boolean 0 = 0 := by decide
  obtain ⟨W, eW⟩ : ∃ W, W = w.toNatClampNeg := ⟨_, rfl⟩
  have W2 : W < 2 := by rw [eW]; exact vp_lt wv
  rw [← eW] at h
  let K : gd → Prop := fun y => md [] [120, 121, 122, 123, 124, 125, 126, 127, 128] z y ∧ ow W z y ∧ y.1 120 W = 0 ∧ y.1 121 W = 0 ∧ y.1 123 W = 0
  have p103 : ∀ (n : Nat) (y : gd) (i : Int32), 0 ≤ i.toInt → 36 - i.toInt ≤ n → K y → (∀ f : Nat, f < 11 → y.1 126 (11 * W + f) = -1) → MT G d z_forgetTrying 103 [(0, vr 0), (1, vi w), (2, vi i)] [] y (rv Fv) := by
    intro n
    induction n with
    | zero =>
      intro y i i0 hn ky hf
      exact sg_forgetTrying_103 _ _ ⟨fun _ => rv_i (h y ky.1 ky.2.1 ky.2.2.1 ky.2.2.2.1 ky.2.2.2.2 hf), fun c => absurd (t_le.mpr (by rw [k36]; omega)) c⟩
    | succ n ih =>
      intro y i i0 hn ky hf
      refine sg_forgetTrying_103 _ _ ⟨fun _ => rv_i (h y ky.1 ky.2.1 ky.2.2.1 ky.2.2.2.1 ky.2.2.2.2 hf), fun c => ?_⟩
      rw [t_le, k36] at c
      have ii : (i + 1).toInt = i.toInt + 1 := by rw [t_add (by omega) (by omega), k1]
      refine ⟨(tmul (K := 36) (N := 72) (n := 36) k36 wv i0 (by omega) (by omega) (by omega) (by omega)).1, fun y3 e3 => ?_⟩
      have m3 := md_a y 128 (36 * w + i).toNatClampNeg (vp_nar .boolean 0) (by decide)
      rw [← e3] at m3
      obtain ⟨a1, a2, a3, a4, a5⟩ := ky
      exact ih y3 (i + 1) (by omega) (by omega) ⟨md_tr a1 m3 rfl rfl, ow_tr a2 (ow_mi (mi_of m3) rfl), by rw [m3.2.1 120 (by decide) (by decide)]; exact a3, by rw [m3.2.1 121 (by decide) (by decide)]; exact a4, by rw [m3.2.1 123 (by decide) (by decide)]; exact a5⟩ (fun f hf' => by rw [m3.2.1 126 (by decide) (by decide)]; exact hf f hf')
  have p70 : ∀ (n : Nat) (y : gd) (i : Int32), 0 ≤ i.toInt → 24 - i.toInt ≤ n → K y → (∀ f : Nat, f < 11 → y.1 126 (11 * W + f) = -1) → MT G d z_forgetTrying 70 [(0, vr 0), (1, vi w), (2, vi i)] [] y (rv Fv) := by
    intro n
    induction n with
    | zero =>
      intro y i i0 hn ky hf
      exact sg_forgetTrying_70 _ _ ⟨fun _ => p103 36 y 0 (by decide) (by decide) ky hf, fun c => absurd (t_le.mpr (by rw [k24]; omega)) c⟩
    | succ n ih =>
      intro y i i0 hn ky hf
      refine sg_forgetTrying_70 _ _ ⟨fun _ => p103 36 y 0 (by decide) (by decide) ky hf, fun c => ?_⟩
      rw [t_le, k24] at c
      have ii : (i + 1).toInt = i.toInt + 1 := by rw [t_add (by omega) (by omega), k1]
      refine ⟨(tmul (K := 24) (N := 48) (n := 24) k24 wv i0 (by omega) (by omega) (by omega) (by omega)).1, fun y3 e3 => ?_⟩
      have m3 := md_a y 127 (24 * w + i).toNatClampNeg ((1 <<< ((y.1 0 24) &&& 31 : Int32)) - 1) (by decide)
      rw [← e3] at m3
      obtain ⟨a1, a2, a3, a4, a5⟩ := ky
      exact ih y3 (i + 1) (by omega) (by omega) ⟨md_tr a1 m3 rfl rfl, ow_tr a2 (ow_mi (mi_of m3) rfl), by rw [m3.2.1 120 (by decide) (by decide)]; exact a3, by rw [m3.2.1 121 (by decide) (by decide)]; exact a4, by rw [m3.2.1 123 (by decide) (by decide)]; exact a5⟩ (fun f hf' => by rw [m3.2.1 126 (by decide) (by decide)]; exact hf f hf')
  have p44 : ∀ (n : Nat) (y : gd) (i : Int32), 0 ≤ i.toInt → i.toInt ≤ 11 → 11 - i.toInt ≤ n → K y → (∀ f : Nat, (f : Int) < i.toInt → y.1 126 (11 * W + f) = -1) → MT G d z_forgetTrying 44 [(0, vr 0), (1, vi w), (2, vi i)] [] y (rv Fv) := by
    intro n
    induction n with
    | zero =>
      intro y i i0 i1 hn ky hf
      exact sg_forgetTrying_44 _ _ ⟨fun _ => p70 24 y 0 (by decide) (by decide) ky (fun f hf' => hf f (by omega)), fun c => absurd (t_le.mpr (by rw [k11]; omega)) c⟩
    | succ n ih =>
      intro y i i0 i1 hn ky hf
      refine sg_forgetTrying_44 _ _ ⟨fun c => p70 24 y 0 (by decide) (by decide) ky (fun f hf' => hf f (by rw [t_le, k11] at c; omega)), fun c => ?_⟩
      rw [t_le, k11] at c
      have ii : (i + 1).toInt = i.toInt + 1 := by rw [t_add (by omega) (by omega), k1]
      have ci := cl_i i0
      obtain ⟨v, e⟩ := t11 wv i0 (by omega)
      rw [← eW] at e
      rw [e]
      refine ⟨v, fun y3 e3 => ?_⟩
      have m3 := md_a y 126 (11 * W + i.toNatClampNeg) (-1) (by decide)
      rw [← e3] at m3
      obtain ⟨a1, a2, a3, a4, a5⟩ := ky
      refine ih y3 (i + 1) (by omega) (by omega) (by omega) ⟨md_tr a1 m3 rfl rfl, ow_tr a2 (by rw [e3]; exact ow_si W2 (Or.inr (Or.inl ⟨rfl, _, by omega, rfl⟩))), by rw [m3.2.1 120 (by decide) (by decide)]; exact a3, by rw [m3.2.1 121 (by decide) (by decide)]; exact a4, by rw [m3.2.1 123 (by decide) (by decide)]; exact a5⟩ (fun f hf' => ?_)
      rw [e3, si_get]
      by_cases q : (126 : Nat) = 126 ∧ 11 * W + f = 11 * W + i.toNatClampNeg
      · rw [if_pos q]
      · rw [if_neg q]; exact hf f (by omega)
  refine sg_forgetTrying_0 _ ?_
  rw [← eW, zb]
  refine ⟨wv, fun y2 e2 => ⟨wv, fun y4 e4 => ⟨wv, fun y6 e6 => ⟨wv, fun y8 e8 => ⟨wv, fun y10 e10 => ⟨wv, fun y12 e12 => ?_⟩⟩⟩⟩⟩⟩
  have m2 := md_a z 120 W 0 (by decide)
  rw [← e2] at m2
  have m4 := md_a y2 121 W 0 (by decide)
  rw [← e4] at m4
  have m6 := md_a y4 122 W 0 (by decide)
  rw [← e6] at m6
  have m8 := md_a y6 123 W 0 (by decide)
  rw [← e8] at m8
  have m10 := md_a y8 124 W 0 (by decide)
  rw [← e10] at m10
  have m12 := md_a y10 125 W 0 (by decide)
  rw [← e12] at m12
  have o2 : ow W z y2 := by rw [e2]; exact ow_si W2 (Or.inl ⟨Or.inl rfl, rfl⟩)
  have o8 : ow W y6 y8 := by rw [e8]; exact ow_si W2 (Or.inl ⟨Or.inr rfl, rfl⟩)
  refine p44 11 y12 0 (by decide) (by decide) (by decide) ⟨md_tr (md_tr (L3 := []) (A3 := [120, 121, 122, 123, 124]) (md_tr (L3 := []) (A3 := [120, 121, 122, 123]) (md_tr (L3 := []) (A3 := [120, 121, 122]) (md_tr (L3 := []) (A3 := [120, 121]) m2 m4 rfl rfl) m6 rfl rfl) m8 rfl rfl) m10 rfl rfl) m12 rfl rfl, ow_tr (ow_tr (ow_tr (ow_tr (ow_tr o2 (ow_mi (mi_of m4) rfl)) (ow_mi (mi_of m6) rfl)) o8) (ow_mi (mi_of m10) rfl)) (ow_mi (mi_of m12) rfl), ?_, ?_, ?_⟩ (fun f hf => by rw [k0] at hf; omega)
  · rw [m12.2.1 120 (by decide) (by decide), m10.2.1 120 (by decide) (by decide), m8.2.1 120 (by decide) (by decide), m6.2.1 120 (by decide) (by decide), m4.2.1 120 (by decide) (by decide), e2, si_get, if_pos ⟨rfl, rfl⟩]
  · rw [m12.2.1 121 (by decide) (by decide), m10.2.1 121 (by decide) (by decide), m8.2.1 121 (by decide) (by decide), m6.2.1 121 (by decide) (by decide), e4, si_get, if_pos ⟨rfl, rfl⟩]
  · rw [m12.2.1 123 (by decide) (by decide), m10.2.1 123 (by decide) (by decide), e8, si_get, if_pos ⟨rfl, rfl⟩]
end SEK
end
section
/-! a state looked at while trying -/
abbrev kA : List Nat := [70, 71, 72, 73, 74, 75, 76, 77, 78, 79, 80, 81, 82, 84, 86, 87, 88, 122, 123, 124, 125, 126, 127, 128, 129]
/-- what looking keeps -/
def LKI (z a : gd) (W : Nat) (M B : Int) (y : gd) : Prop := mi rL kA z y ∧ eqS (Sm a) a y ∧ ow W z y ∧ fnd y W M ∧ 0 ≤ (y.1 123 W).toInt ∧ (y.1 123 W).toInt ≤ B
section LOK
variable {G : mG} {d D : Nat} {x z a : gd} {F : Int32 → gd → Prop} {Fv : gd → Prop}
theorem LKI_md {W : Nat} {M B : Int} {y y' : gd} (q : LKI z a W M B y) (m : md rL rA y y') (e : eqS (Sm a) a y') : LKI z a W M B y' := by
  obtain ⟨q1, q2, q3, q4, q5, q6⟩ := q
  refine ⟨mi_tr q1 (mi_of m) rfl rfl, e, ow_tr q3 (ow_mi (mi_of m) rfl), ?_, by rw [m.2.1 123 (by decide) (by decide)]; exact q5, by rw [m.2.1 123 (by decide) (by decide)]; exact q6⟩
  unfold fnd
  rw [m.2.1 126 (by decide) (by decide)]
  exact q4
theorem LKI_c {W : Nat} {M B : Int} {y y' : gd} (q : LKI z a W M B y) (m : md [] [122, 124, 125, 127, 128] y y') : LKI z a W M B y' := by
  obtain ⟨q1, q2, q3, q4, q5, q6⟩ := q
  refine ⟨mi_tr q1 (mi_of m) rfl rfl, eqS_mi q2 (mi_of m) rfl rfl (ssub_rf _), ow_tr q3 (ow_mi (mi_of m) rfl), ?_, by rw [m.2.1 123 (by decide) (by decide)]; exact q5, by rw [m.2.1 123 (by decide) (by decide)]; exact q6⟩
  unfold fnd
  rw [m.2.1 126 (by decide) (by decide)]
  exact q4
theorem LKI_f {W : Nat} {M B : Int} {y y' : gd} (q : LKI z a W M B y) (m : md [] [126] y y') (o : ow W y y') (f : fnd y' W M) : LKI z a W M B y' := by
  obtain ⟨q1, q2, q3, q4, q5, q6⟩ := q
  exact ⟨mi_tr q1 (mi_of m) rfl rfl, eqS_mi q2 (mi_of m) rfl rfl (ssub_rf _), ow_tr q3 o, f, by rw [m.2.1 123 (by decide) (by decide)]; exact q5, by rw [m.2.1 123 (by decide) (by decide)]; exact q6⟩
/-- hasAct and worked, from what is like a -/
theorem sp_hasAct {y : gd} (av : AV a) (e : eqS (Sm a) a y) (t : Int32) (tv : vp_in t 6) (hD : 2 ≤ D) (h0 : ∀ y', md rL rA y y' → eqS (Sm a) a y' → F 0 y') (h1 : a.1 73 t.toNatClampNeg = 1 → ∀ y', md rL rA y y' → eqS (Sm a) a y' → F 1 y') : MT G D z_hasAct 0 [(0, vr 0), (1, vi t)] [] y (ri F) := by
  refine MD_top (ds_hasAct (d := 1) (S := Sm a) (x := a) (F := fun r y S1 => y = a ∧ S1 = Sm a ∧ (r = 0 ∨ (r = 1 ∧ a.1 73 t.toNatClampNeg = 1))) t tv (RI_sub (Sl_Sm a) av.1) ⟨rfl, rfl, Or.inl rfl⟩ (fun g _ => ⟨rfl, rfl, Or.inr ⟨rfl, g⟩⟩)) e (by omega) (fun o x' S' y' q eq m => ?_)
  obtain ⟨r, eo, ex, eS, hr⟩ := q
  rw [ex, eS] at eq
  rw [eo]
  rcases hr with hr | ⟨hr, g⟩
  · rw [hr]; exact ri_i (h0 y' m eq)
  · rw [hr]; exact ri_i (h1 g y' m eq)
end LOK
end
