/-! the judge: what a program that is laid is like -/
theorem tot_le (S : Nat → Nat) : ∀ (n t : Nat), t ≤ n → tot S t ≤ tot S n := by
  intro n
  induction n with
  | zero => intro t h; rw [show t = 0 by omega]; exact Nat.le_refl _
  | succ n ih =>
    intro t h
    by_cases c : t = n + 1
    · rw [c]; exact Nat.le_refl _
    · have := ih t (by omega)
      show tot S t ≤ tot S n + S n
      omega
abbrev jA : List Nat := [45, 46, 47, 51, 52, 54, 55, 56, 57, 58, 59, 60, 61, 62, 63, 64, 65, 66]
/-- a step of a thread that is laid whole -/
def sC (x : gd) (j : Nat) : Prop := sO x j ∧ ((x.1 54 j = 2 ∨ x.1 54 j = 3) → (x.1 61 j).toInt < (x.1 0 52).toInt) ∧ (x.1 54 j = 5 ∨ (j : Int) + 1 < (x.1 0 52).toInt)
theorem sC_keep {x y : gd} {n w j : Nat} (a : LF x y n w) (hj : (j : Int) < (x.1 0 52).toInt) (q : sC x j) : sC y j := by
  have h := a.2.2.1
  have e := a.2.2.2.2.2.2.2
  refine ⟨sO_keep a hj q.1, ?_, ?_⟩
  · rw [e 54 (by decide) (by decide) j hj, e 61 (by decide) (by decide) j hj]
    intro z
    have := q.2.1 z
    omega
  · rw [e 54 (by decide) (by decide) j hj]
    exact q.2.2.imp id (fun z => by omega)
/-- the work of an order -/
def oW (x : gd) (r : Int32) : Prop := 0 ≤ r.toInt ∧ cW x 1 r.toNatClampNeg (x.1 0 49).toInt
/-- steps and work up to now: thread by thread -/
def JS (x : gd) (t n w : Nat) : Prop := 0 ≤ (x.1 0 52).toInt ∧ (x.1 0 52).toInt ≤ n ∧ 0 ≤ (x.1 0 49).toInt ∧ (x.1 0 49).toInt ≤ w ∧ (∀ j : Nat, (j : Int) < (x.1 0 52).toInt → sC x j) ∧ ∀ j : Nat, j < t → 0 ≤ (x.1 64 j).toInt ∧ (x.1 64 j).toInt < (x.1 0 52).toInt
/-- a program compiled -/
def CP (x : gd) : Prop := GB x ∧ JS x (x.1 0 25).toNatClampNeg 1400 5900 ∧ (∀ k : Nat, (k : Int) < (x.1 0 26).toInt → oW x (x.1 65 k)) ∧ ∀ k : Nat, (k : Int) < (x.1 0 27).toInt → oW x (x.1 66 k)
theorem JS_fr {x y : gd} {t n w : Nat} (q : JS x t n w) {L A : List Nat} (m : md L A x y) (hL : [25, 49, 52].all (fun k => !L.elem k) = true) (hA : [51, 52, 54, 55, 56, 57, 58, 59, 60, 61, 64].all (fun k => !A.elem k) = true) : JS y t n w := by
  have f := fun k hk => m.1 k (all_no hL k hk)
  have g := fun k (h0 : k ≠ 0) hk => m.2.1 k h0 (all_no hA k hk)
  have f25 := f 25 (by decide)
  have f49 := f 49 (by decide)
  have f52 := f 52 (by decide)
  have wk : ∀ r, wo x 0 r → wo y 0 r := fun r z => wo_keep (by rw [f49]; omega) (fun j _ => by rw [g 51 (by decide) (by decide), g 52 (by decide) (by decide)]; exact ⟨rfl, rfl⟩) z
  obtain ⟨q1, q2, q3, q4, q5, q6⟩ := q
  refine ⟨by rw [f52]; exact q1, by rw [f52]; exact q2, by rw [f49]; exact q3, by rw [f49]; exact q4, fun j hj => ?_, fun j hj => ?_⟩
  · rw [f52] at hj
    obtain ⟨⟨a1, a2, a3, a4⟩, b, c⟩ := q5 j hj
    unfold sC sO gO
    rw [g 54 (by decide) (by decide), g 55 (by decide) (by decide), g 56 (by decide) (by decide), g 57 (by decide) (by decide), g 58 (by decide) (by decide), g 59 (by decide) (by decide), g 60 (by decide) (by decide), g 61 (by decide) (by decide), f25, f52]
    exact ⟨⟨wk _ a1, wk _ a2, wk _ a3, a4⟩, b, c⟩
  · rw [g 64 (by decide) (by decide), f52]
    exact q6 j hj
theorem JS_wk {x y : gd} {t n w s : Nat} {o r : Int32} (q : JS x t n w) (l : LW o s x r y) : JS y t n (w + s + 1) := by
  have lf := LF_wk l
  obtain ⟨m, wb, k, l1, l2, _⟩ := l
  obtain ⟨q1, q2, q3, q4, q5, q6⟩ := q
  have f52 := m.1 52 (by decide)
  refine ⟨by rw [f52]; exact q1, by rw [f52]; exact q2, by omega, by omega, fun j hj => ?_, fun j hj => ?_⟩
  · rw [f52] at hj
    exact sC_keep lf hj (q5 j hj)
  · rw [m.2.1 64 (by decide) (by decide), f52]
    exact q6 j hj
theorem sp_judge {G : mG} {D : Nat} {x : gd} {Fv : gd → Prop} (hD : 750 ≤ D) (pn : PN x) (pg : PG x) (wp : (x.1 0 42).toInt ≤ 3000) (h : ∀ x', md lL jA x x' → WB x' → CP x' → Fv x') : MT G D z_judge 0 [(0, vr 0)] [] x (rv Fv) := by
  obtain ⟨D, rfl⟩ : ∃ D', D = D' + 3 := ⟨D - 3, by omega⟩
  have k0 : (0 : Int32).toInt = 0 := rfl
  have k1 : (1 : Int32).toInt = 1 := rfl
  obtain ⟨n0, c0, gb, te, S, A, B, pS, pA', pB, pt⟩ := id pg
  have hnow := pn.2.1
  have nd : (x.1 0 13).toInt ≤ 3000 := by unfold cr at c0; omega
  have lb : LB x := ⟨pn.2.2.2.1, gb, te⟩
  obtain ⟨gb1, gb2, gb3, gb4, gb5, gb6, gb7, gb8, gb9, gb10, gb11, gb12⟩ := id gb
  have tS := fun t ht => tot_le S (x.1 0 25).toNatClampNeg t ht
  have tA' := fun t ht => tot_le A (x.1 0 26).toNatClampNeg t ht
  have tB := fun t ht => tot_le B (x.1 0 27).toNatClampNeg t ht
  have c25 := t_cl (x.1 0 25)
  have c26 := t_cl (x.1 0 26)
  have c27 := t_cl (x.1 0 27)
  -- finals
  have p185 : ∀ (n : Nat) (y : gd) (i : Int32), md lL jA x y → WB y → 0 ≤ i.toInt → i.toInt ≤ (x.1 0 27).toInt → (x.1 0 27).toInt - i.toInt ≤ n → JS y (x.1 0 25).toNatClampNeg 700 (2 * tot S (x.1 0 25).toNatClampNeg + 2 * tot A (x.1 0 26).toNatClampNeg + 2 * tot B i.toNatClampNeg) → (∀ k : Nat, (k : Int) < (x.1 0 26).toInt → oW y (y.1 65 k)) → (∀ k : Nat, (k : Int) < i.toInt → oW y (y.1 66 k)) → MT G (D + 3) z_judge 185 [(0, vr 0), (1, vi i)] [] y (rv Fv) := by
    intro n
    induction n with
    | zero =>
      intro y i my wy i0 i1 hi js oa of
      have f25 := my.1 25 (by decide)
      have f26 := my.1 26 (by decide)
      have f27 := my.1 27 (by decide)
      refine sg_judge_185 _ ⟨fun _ => rv_i (h y my wy ⟨(LB_md my rfl rfl lb).2.1, ?_, by rw [f26]; exact oa, fun k hk => of k (by rw [f27] at hk; omega)⟩), fun c => absurd (t_le.mpr (by rw [f27]; omega)) c⟩
      obtain ⟨j1, j2, j3, j4, j5, j6⟩ := js
      have := tB i.toNatClampNeg (by have := t_cl i; omega)
      rw [f25]
      exact ⟨j1, by omega, j3, by omega, j5, j6⟩
    | succ n ih =>
      intro y i my wy i0 i1 hi js oa of
      have f25 := my.1 25 (by decide)
      have f26 := my.1 26 (by decide)
      have f27 := my.1 27 (by decide)
      have ci := t_cl i
      refine sg_judge_185 _ ⟨fun c => rv_i (h y my wy ⟨(LB_md my rfl rfl lb).2.1, ?_, by rw [f26]; exact oa, fun k hk => of k (by rw [f27] at hk; rw [t_le, f27] at c; omega)⟩), fun c => ?_⟩
      · obtain ⟨j1, j2, j3, j4, j5, j6⟩ := js
        have := tB i.toNatClampNeg (by omega)
        rw [f25]
        exact ⟨j1, by omega, j3, by omega, j5, j6⟩
      rw [t_le, f27] at c
      have iv : vp_in i 4 := by rw [vp_in_iff]; omega
      have i2 : (i + 1).toInt = i.toInt + 1 := by rw [t_add (by omega) (by omega), k1]
      have ci2 : (i + 1).toNatClampNeg = i.toNatClampNeg + 1 := by have := t_cl (i + 1); omega
      have ve := pB i.toNatClampNeg (by omega)
      have b1 : 1 ≤ B i.toNatClampNeg := by
        cases hB : B i.toNatClampNeg with
        | zero => rw [hB] at ve; exact ve.elim
        | succ b => omega
      have tb := tB (i.toNatClampNeg + 1) (by omega)
      have tb2 : tot B (i.toNatClampNeg + 1) = tot B i.toNatClampNeg + B i.toNatClampNeg := rfl
      have nn : NN x y := NN_md my (by decide) (fun c h1 h2 q => by simp at q; omega)
      have e41 : y.1 41 = x.1 41 := my.2.1 41 (by decide) (by decide)
      refine ⟨iv, ?_⟩
      rw [e41]
      refine sp_workOf 1 (n := B i.toNatClampNeg) (s := B i.toNatClampNeg) (by omega) (Or.inr (vE_keep nn.1 (fun c h1 h2 j hj => nn.2 c h1 (by omega) j hj) _ _ _ _ ve)) (by rw [my.1 13 (by decide)]; exact nd) (LB_md my rfl rfl lb) wy (fun q => absurd q (by decide)) js.2.2.1 (by have := js.2.2.2.1; omega) (fun r z lw hr => ⟨iv, fun u eu => ?_⟩)
      have rn : ¬ r = -1 := hr (fun q => by
        have v1 : 0 ≤ (x.1 41 i.toNatClampNeg).toInt := by
          cases hB : B i.toNatClampNeg with
          | zero => rw [hB] at ve; exact ve.elim
          | succ b => rw [hB] at ve; exact ve.1.1
        rw [q] at v1
        exact absurd v1 (by decide))
      have mu := md_a z 66 i.toNatClampNeg r (by decide)
      rw [← eu] at mu
      have mz : md lL jA y z := md_w lw.1 (by decide) (by decide)
      have owz : ∀ r', oW y r' → oW z r' := fun r' q => ⟨q.1, cW_keep lw.2.2.2.1 lw.2.2.1 q.2⟩
      have owu : ∀ r', oW z r' → oW u r' := fun r' q => ⟨q.1, cW_keep (by rw [mu.1 49 (by decide)]; omega) (fun j _ => by rw [mu.2.1 51 (by decide) (by decide), mu.2.1 52 (by decide) (by decide)]; exact ⟨rfl, rfl⟩) q.2⟩
      have js2 := JS_fr (JS_wk js lw) mu rfl rfl
      refine ih u (i + 1) (md_tr (md_tr (L3 := lL) (A3 := jA) my mz rfl rfl) mu rfl rfl) ?_ (by omega) (by omega) (by omega) ?_ (fun k hk => ?_) (fun k hk => ?_)
      · have w2 := lw.2.1
        unfold WB
        rw [mu.1 41 (by decide), mu.1 42 (by decide)]
        exact w2
      · obtain ⟨j1, j2, j3, j4, j5, j6⟩ := js2
        exact ⟨j1, j2, j3, by rw [ci2, tb2]; omega, j5, j6⟩
      · rw [mu.2.1 65 (by decide) (by decide), lw.1.2.1 65 (by decide) (by decide)]
        exact owu _ (owz _ (oa k hk))
      · by_cases q : k = i.toNatClampNeg
        · rw [eu, si_get, if_pos ⟨rfl, q⟩, ← eu]
          obtain ⟨w1, w2⟩ := lw.2.2.2.2.2.resolve_left rn
          exact owu _ ⟨w1, w2⟩
        · rw [eu, si_ne 66 k q, ← eu, lw.1.2.1 66 (by decide) (by decide)]
          exact owu _ (owz _ (of k (by omega)))
  -- always
  have p152 : ∀ (n : Nat) (y : gd) (i : Int32), md lL jA x y → WB y → 0 ≤ i.toInt → i.toInt ≤ (x.1 0 26).toInt → (x.1 0 26).toInt - i.toInt ≤ n → JS y (x.1 0 25).toNatClampNeg 700 (2 * tot S (x.1 0 25).toNatClampNeg + 2 * tot A i.toNatClampNeg) → (∀ k : Nat, (k : Int) < i.toInt → oW y (y.1 65 k)) → MT G (D + 3) z_judge 152 [(0, vr 0), (1, vi i)] [] y (rv Fv) := by
    have next : ∀ (y : gd) (i : Int32), md lL jA x y → WB y → 0 ≤ i.toInt → i.toInt ≤ (x.1 0 26).toInt → (x.1 0 26).toInt ≤ i.toInt → JS y (x.1 0 25).toNatClampNeg 700 (2 * tot S (x.1 0 25).toNatClampNeg + 2 * tot A i.toNatClampNeg) → (∀ k : Nat, (k : Int) < i.toInt → oW y (y.1 65 k)) → MT G (D + 3) z_judge 185 [(0, vr 0), (1, vi 0)] [] y (rv Fv) := by
      intro y i my wy i0 i1 i2 js oa
      have := tA' i.toNatClampNeg (by have := t_cl i; omega)
      refine p185 _ y 0 my wy (by decide) (by rw [k0]; omega) (Int.self_le_toNat _) ?_ (fun k hk => oa k (by omega)) (fun k hk => by rw [k0] at hk; omega)
      obtain ⟨j1, j2, j3, j4, j5, j6⟩ := js
      exact ⟨j1, j2, j3, by omega, j5, j6⟩
    intro n
    induction n with
    | zero =>
      intro y i my wy i0 i1 hi js oa
      have f26 := my.1 26 (by decide)
      exact sg_judge_152 _ ⟨fun c => next y i my wy i0 i1 (by omega) js oa, fun c => absurd (t_le.mpr (by rw [f26]; omega)) c⟩
    | succ n ih =>
      intro y i my wy i0 i1 hi js oa
      have f26 := my.1 26 (by decide)
      have ci := t_cl i
      refine sg_judge_152 _ ⟨fun c => next y i my wy i0 i1 (by rw [t_le, f26] at c; exact c) js oa, fun c => ?_⟩
      rw [t_le, f26] at c
      have iv : vp_in i 4 := by rw [vp_in_iff]; omega
      have i2 : (i + 1).toInt = i.toInt + 1 := by rw [t_add (by omega) (by omega), k1]
      have ci2 : (i + 1).toNatClampNeg = i.toNatClampNeg + 1 := by have := t_cl (i + 1); omega
      have ve := pA' i.toNatClampNeg (by omega)
      have b1 : 1 ≤ A i.toNatClampNeg := by
        cases hB : A i.toNatClampNeg with
        | zero => rw [hB] at ve; exact ve.elim
        | succ b => omega
      have tb := tA' (i.toNatClampNeg + 1) (by omega)
      have tb2 : tot A (i.toNatClampNeg + 1) = tot A i.toNatClampNeg + A i.toNatClampNeg := rfl
      have nn : NN x y := NN_md my (by decide) (fun c h1 h2 q => by simp at q; omega)
      have e41 : y.1 40 = x.1 40 := my.2.1 40 (by decide) (by decide)
      refine ⟨iv, ?_⟩
      rw [e41]
      refine sp_workOf 1 (n := A i.toNatClampNeg) (s := A i.toNatClampNeg) (by omega) (Or.inr (vE_keep nn.1 (fun c h1 h2 j hj => nn.2 c h1 (by omega) j hj) _ _ _ _ ve)) (by rw [my.1 13 (by decide)]; exact nd) (LB_md my rfl rfl lb) wy (fun q => absurd q (by decide)) js.2.2.1 (by have := js.2.2.2.1; omega) (fun r z lw hr => ⟨iv, fun u eu => ?_⟩)
      have rn : ¬ r = -1 := hr (fun q => by
        have v1 : 0 ≤ (x.1 40 i.toNatClampNeg).toInt := by
          cases hB : A i.toNatClampNeg with
          | zero => rw [hB] at ve; exact ve.elim
          | succ b => rw [hB] at ve; exact ve.1.1
        rw [q] at v1
        exact absurd v1 (by decide))
      have mu := md_a z 65 i.toNatClampNeg r (by decide)
      rw [← eu] at mu
      have mz : md lL jA y z := md_w lw.1 (by decide) (by decide)
      have owz : ∀ r', oW y r' → oW z r' := fun r' q => ⟨q.1, cW_keep lw.2.2.2.1 lw.2.2.1 q.2⟩
      have owu : ∀ r', oW z r' → oW u r' := fun r' q => ⟨q.1, cW_keep (by rw [mu.1 49 (by decide)]; omega) (fun j _ => by rw [mu.2.1 51 (by decide) (by decide), mu.2.1 52 (by decide) (by decide)]; exact ⟨rfl, rfl⟩) q.2⟩
      have js2 := JS_fr (JS_wk js lw) mu rfl rfl
      refine ih u (i + 1) (md_tr (md_tr (L3 := lL) (A3 := jA) my mz rfl rfl) mu rfl rfl) ?_ (by omega) (by omega) (by omega) ?_ (fun k hk => ?_)
      · have w2 := lw.2.1
        unfold WB
        rw [mu.1 41 (by decide), mu.1 42 (by decide)]
        exact w2
      · obtain ⟨j1, j2, j3, j4, j5, j6⟩ := js2
        exact ⟨j1, j2, j3, by rw [ci2, tb2]; omega, j5, j6⟩
      · by_cases q : k = i.toNatClampNeg
        · rw [eu, si_get, if_pos ⟨rfl, q⟩, ← eu]
          obtain ⟨w1, w2⟩ := lw.2.2.2.2.2.resolve_left rn
          exact owu _ ⟨w1, w2⟩
        · rw [eu, si_ne 65 k q, ← eu, lw.1.2.1 65 (by decide) (by decide)]
          exact owu _ (owz _ (oa k (by omega)))
  -- threads
  have p99 : ∀ (n : Nat) (y : gd) (i : Int32), md lL jA x y → WB y → 0 ≤ i.toInt → i.toInt ≤ (x.1 0 25).toInt → (x.1 0 25).toInt - i.toInt ≤ n → JS y i.toNatClampNeg (tot S i.toNatClampNeg) (2 * tot S i.toNatClampNeg) → MT G (D + 3) z_judge 99 [(0, vr 0), (1, vi i)] [] y (rv Fv) := by
    have next : ∀ (y : gd) (i : Int32), md lL jA x y → WB y → 0 ≤ i.toInt → i.toInt ≤ (x.1 0 25).toInt → (x.1 0 25).toInt ≤ i.toInt → JS y i.toNatClampNeg (tot S i.toNatClampNeg) (2 * tot S i.toNatClampNeg) → MT G (D + 3) z_judge 152 [(0, vr 0), (1, vi 0)] [] y (rv Fv) := by
      intro y i my wy i0 i1 i2 js
      have ei : i.toNatClampNeg = (x.1 0 25).toNatClampNeg := by have := t_cl i; omega
      rw [ei] at js
      refine p152 _ y 0 my wy (by decide) (by rw [k0]; omega) (Int.self_le_toNat _) ?_ (fun k hk => by rw [k0] at hk; omega)
      obtain ⟨j1, j2, j3, j4, j5, j6⟩ := js
      exact ⟨j1, by omega, j3, by omega, j5, j6⟩
    intro n
    induction n with
    | zero =>
      intro y i my wy i0 i1 hi js
      have f25 := my.1 25 (by decide)
      exact sg_judge_99 _ ⟨fun c => next y i my wy i0 i1 (by omega) js, fun c => absurd (t_le.mpr (by rw [f25]; omega)) c⟩
    | succ n ih =>
      intro y i my wy i0 i1 hi js
      have f25 := my.1 25 (by decide)
      have ci := t_cl i
      refine sg_judge_99 _ ⟨fun c => next y i my wy i0 i1 (by rw [t_le, f25] at c; exact c) js, fun c y2 e2 y3 e3 => ?_⟩
      rw [t_le, f25] at c
      have iv : vp_in i 6 := by rw [vp_in_iff]; omega
      refine ⟨iv, fun y5 e5 => ⟨iv, ?_⟩⟩
      have i2 : (i + 1).toInt = i.toInt + 1 := by rw [t_add (by omega) (by omega), k1]
      have ci2 : (i + 1).toNatClampNeg = i.toNatClampNeg + 1 := by have := t_cl (i + 1); omega
      have vb := pS i.toNatClampNeg (by omega)
      have s2 : 2 ≤ S i.toNatClampNeg := by obtain ⟨_, _, _, L, _, _, z, _⟩ := vb; omega
      have tb := tS (i.toNatClampNeg + 1) (by omega)
      have tb2 : tot S (i.toNatClampNeg + 1) = tot S i.toNatClampNeg + S i.toNatClampNeg := rfl
      have m2 := md_f y 43 0
      rw [← e2] at m2
      have m3 := md_f y2 48 0
      rw [← e3] at m3
      have m5 := md_a y3 64 i.toNatClampNeg (y3.1 0 52) (by decide)
      rw [← e5] at m5
      have m35 : md [43, 48] [64] y y5 := md_tr (md_tr (L3 := [43, 48]) (A3 := []) m2 m3 rfl rfl) m5 rfl rfl
      have mx5 : md lL jA x y5 := md_tr my m35 rfl rfl
      have e43 : y5.1 0 43 = 0 := by rw [m5.1 43 (by decide), m3.1 43 (by decide), e2, si_get, if_pos ⟨rfl, rfl⟩]
      have e48 : y5.1 0 48 = 0 := by rw [m5.1 48 (by decide), e3, si_get, if_pos ⟨rfl, rfl⟩]
      have e52 : y5.1 0 52 = y.1 0 52 := m35.1 52 (by decide)
      have e49 : y5.1 0 49 = y.1 0 49 := m35.1 49 (by decide)
      have t52 : (y5.1 0 52).toInt = (y.1 0 52).toInt := by rw [e52]
      have t49 : (y5.1 0 49).toInt = (y.1 0 49).toInt := by rw [e49]
      have ks : KS y5 := ⟨by rw [e43]; decide, by rw [e43, e48]; omega, by rw [e48]; decide, fun j hj => by rw [e43, k0] at hj; omega⟩
      have w5 : WB y5 := by
        unfold WB
        rw [m35.1 41 (by decide), m35.1 42 (by decide)]
        exact wy
      obtain ⟨j1, j2, j3, j4, j5, j6⟩ := js
      have p5 : PL y5 := ⟨LB_md mx5 rfl rfl lb, w5, KS_KB ks, by rw [mx5.1 13 (by decide)]; exact nd, by rw [e49]; exact j3, by rw [e52]; exact j1, by rw [mx5.1 25 (by decide)]; omega⟩
      have nn : NN x y5 := NN_md mx5 (by decide) (fun c h1 h2 q => by simp at q; omega)
      rw [mx5.2.1 39 (by decide) (by decide)]
      refine sp_layBlock 17 (sp_layS 17) (m := 0) (s := S i.toNatClampNeg) (c := 8) (by omega) (by omega) (vB_NN nn vb) p5 ks (by rw [e48]; decide) (by rw [e49]; omega) (by rw [e52]; omega) (fun y7 q7 => ?_)
      obtain ⟨q7a, ks7, _⟩ := q7
      have b1 := q7a.1.2.2.1
      have b2 := q7a.1.2.2.2.1
      have b3 := q7a.1.2.2.2.2.1
      have b4 := q7a.1.2.2.2.2.2.1
      obtain ⟨z1, z2, z3, z4⟩ := LF_ok p5 q7a.1 (by rw [e52]; omega)
      refine sp_layStep _ _ z1 (KS_KB ks7) (Or.inl rfl) z2 (fun y8 h8 => ?_)
      have st := stp_s h8
      have u := stp_up st z3 z4
      have lq8 := LQ_stp st q7a.1.2.1 z3 z4 (Or.inl rfl) (Or.inl rfl) (Or.inl rfl) (by decide) (Or.inr (Or.inr (Or.inr (Or.inr (Or.inl rfl)))))
      have lf58 := LF_tr q7a.1 lq8.1
      have e64 : y8.1 64 = y5.1 64 := by rw [st.1.2.1 64 (by decide) (by decide), q7a.1.1.2.1 64 (by decide) (by decide)]
      have js5 : ∀ j : Nat, (j : Int) < (y5.1 0 52).toInt → sC y5 j := by
        intro j hj
        rw [e52] at hj
        obtain ⟨⟨a1, a2, a3, a4⟩, b, c9⟩ := j5 j hj
        have wk : ∀ r, wo y 0 r → wo y5 0 r := fun r z => wo_keep (by rw [e49]; omega) (fun j _ => by rw [m35.2.1 51 (by decide) (by decide), m35.2.1 52 (by decide) (by decide)]; exact ⟨rfl, rfl⟩) z
        unfold sC sO gO
        rw [m35.2.1 54 (by decide) (by decide), m35.2.1 55 (by decide) (by decide), m35.2.1 56 (by decide) (by decide), m35.2.1 57 (by decide) (by decide), m35.2.1 58 (by decide) (by decide), m35.2.1 59 (by decide) (by decide), m35.2.1 60 (by decide) (by decide), m35.2.1 61 (by decide) (by decide), m35.1 25 (by decide), e52]
        exact ⟨⟨wk _ a1, wk _ a2, wk _ a3, a4⟩, b, c9⟩
      refine ih y8 (i + 1) (md_tr (md_tr (L3 := lL) (A3 := jA) mx5 q7a.1.1 rfl rfl) st.1 rfl rfl) lq8.1.2.1 (by omega) (by omega) (by omega) ⟨by omega, by rw [ci2, tb2]; omega, by have := lf58.2.2.2.2.1; omega, by have := lf58.2.2.2.2.2.1; rw [ci2, tb2]; omega, fun j hj => ?_, fun j hj => ?_⟩
      · by_cases q : (j : Int) < (y5.1 0 52).toInt
        · exact sC_keep lf58 q (js5 j q)
        · by_cases q2 : (j : Int) < (y7.1 0 52).toInt
          · have so := q7a.2 j (by omega) q2
            refine ⟨sO_keep lq8.1 q2 so, ?_, Or.inr (by omega)⟩
            have r54 := lq8.1.2.2.2.2.2.2.2 54 (by decide) (by decide) j q2
            have r61 := lq8.1.2.2.2.2.2.2.2 61 (by decide) (by decide) j q2
            rw [r54, r61]
            intro z
            rcases so.2.2.2.1 with ⟨s, _⟩ | s | ⟨_, _, s⟩ | s | s | ⟨s, _⟩
            · rw [s] at z; exact absurd z (by decide)
            · rw [s] at z; exact absurd z (by decide)
            · omega
            · rw [s] at z; exact absurd z (by decide)
            · rw [s] at z; exact absurd z (by decide)
            · rw [s] at z; exact absurd z (by decide)
          · have so := lq8.2 j (by omega) hj
            have ej : j = (y7.1 0 52).toNatClampNeg := by rw [t_cl]; omega
            have e54 : y8.1 54 j = 5 := by rw [ej]; exact st.2.2.2.1
            exact ⟨so, fun z => by rw [e54] at z; exact absurd z (by decide), Or.inl e54⟩
      · rw [ci2] at hj
        rw [e64]
        by_cases q : j = i.toNatClampNeg
        · rw [e5, si_get, if_pos ⟨rfl, q⟩]
          have : y3.1 0 52 = y.1 0 52 := by rw [m3.1 52 (by decide), m2.1 52 (by decide)]
          rw [this]
          exact ⟨j1, by omega⟩
        · rw [e5, si_ne 64 j q, m3.2.1 64 (by decide) (by decide), m2.2.1 64 (by decide) (by decide)]
          have := j6 j (by omega)
          exact ⟨this.1, by omega⟩
  -- names
  have p17 : ∀ (n : Nat) (y : gd) (i : Int32), md lL jA x y → WB y → y.1 0 49 = 0 → y.1 0 52 = 0 → 0 ≤ i.toInt → (x.1 0 28).toInt - i.toInt ≤ n → MT G (D + 3) z_judge 17 [(0, vr 0), (1, vi i)] [] y (rv Fv) := by
    have next : ∀ y : gd, md lL jA x y → WB y → y.1 0 49 = 0 → y.1 0 52 = 0 → MT G (D + 3) z_judge 99 [(0, vr 0), (1, vi 0)] [] y (rv Fv) := by
      intro y my wy e49 e52
      refine p99 _ y 0 my wy (by decide) (by rw [k0]; omega) (Int.self_le_toNat _) ⟨by rw [e52]; decide, by rw [e52, k0]; omega, by rw [e49]; decide, by rw [e49, k0]; omega, fun j hj => ?_, fun j hj => ?_⟩
      · rw [e52, k0] at hj; omega
      · have : (0 : Int32).toNatClampNeg = 0 := rfl
        rw [this] at hj; omega
    intro n
    induction n with
    | zero =>
      intro y i my wy e49 e52 i0 hi
      have f28 := my.1 28 (by decide)
      exact sg_judge_17 _ ⟨fun _ => next y my wy e49 e52, fun c => absurd (t_le.mpr (by rw [f28]; omega)) c⟩
    | succ n ih =>
      intro y i my wy e49 e52 i0 hi
      have f28 := my.1 28 (by decide)
      have ly := LB_md my rfl rfl lb
      refine sg_judge_17 _ ⟨fun _ => next y my wy e49 e52, fun c => ?_⟩
      rw [t_le, f28] at c
      have iv : vp_in i 40 := by rw [vp_in_iff]; omega
      have i2 : (i + 1).toInt = i.toInt + 1 := by rw [t_add (by omega) (by omega), k1]
      have ti := LB_t ly (r := i) ⟨i0, by rw [f28]; omega⟩
      have p50 : ∀ z : gd, md lL jA x z → WB z → z.1 0 49 = 0 → z.1 0 52 = 0 → MT G (D + 3) z_judge 50 [(0, vr 0), (1, vi i)] [] z (rv Fv) := by
        intro z mz wz g49 g52
        have lz := LB_md mz rfl rfl lb
        have tz := LB_t lz (r := i) ⟨i0, by rw [mz.1 28 (by decide)]; omega⟩
        refine sg_judge_50 _ ⟨iv, fun _ => ih z _ mz wz g49 g52 (by omega) (by omega), fun c2 => ?_⟩
        have t2 := tz.2.2.resolve_left c2
        exact ⟨iv, t2, sp_in _ _ _ ⟨fun _ => ih z _ mz wz g49 g52 (by omega) (by omega), fun _ => ⟨iv, sp_wrongAt _ _ (by decide) t2 lz.1 wz (fun w mw ww => ih w _ (md_tr mz mw rfl rfl) ww (by rw [mw.1 49 (by decide)]; exact g49) (by rw [mw.1 52 (by decide)]; exact g52) (by omega) (by omega))⟩⟩⟩
      exact ⟨iv, sp_toldOf _ ti.1 ly (fun r _ => ⟨fun _ => p50 y my wy e49 e52, fun _ => ⟨iv, sp_wrongAt _ _ (by decide) ti.1 ly.1 wy (fun w mw ww => p50 w (md_tr my mw rfl rfl) ww (by rw [mw.1 49 (by decide)]; exact e49) (by rw [mw.1 52 (by decide)]; exact e52))⟩⟩)⟩
  refine sg_judge_0 (fun y1 e1 y2 e2 y3 e3 => ?_)
  have m1 := md_f x 41 0
  rw [← e1] at m1
  have m2 := md_f y1 49 0
  rw [← e2] at m2
  have m3 := md_f y2 52 0
  rw [← e3] at m3
  have m : md [41, 49, 52] [] x y3 := md_tr (md_tr (L3 := [41, 49]) (A3 := []) m1 m2 rfl rfl) m3 rfl rfl
  refine p17 _ y3 0 (md_w m (by decide) (by decide)) ⟨?_, ?_⟩ ?_ ?_ (by decide) (Int.self_le_toNat _)
  · rw [m3.1 41 (by decide), m2.1 41 (by decide), e1, si_get, if_pos ⟨rfl, rfl⟩]; decide
  · rw [m.1 42 (by decide)]; exact wp
  · rw [m3.1 49 (by decide), e2, si_get, if_pos ⟨rfl, rfl⟩]
  · rw [e3, si_get, if_pos ⟨rfl, rfl⟩]
