section
/-! the judge: when it finds something wrong -/
/-- a told name that is told already, or a row of a wrong whole -/
def jF (sN : Nat → Nat → Bool) (V : Nat → Int32) (T : gTd) (Ts As Fs : List gU) : Prop := ((jT sN V T ∨ ∃ N ∈ Ts, flt sN T V N E0v) ∨ ∃ N ∈ As, flt sN T V N E0v) ∨ ∃ N ∈ Fs, flt sN T V N E0v
def exL (L : List gU) (P : gU → Prop) (n : Nat) : Prop := ∃ (t : Nat) (N : gU), t < n ∧ L[t]? = some N ∧ P N
def exQ (T : gTd) (P : Nat → Nat × Nat × Nat × Nat → Prop) (n : Nat) : Prop := ∃ j q, j < n ∧ T[j]? = some q ∧ P j q
def wrI (y : gd) (X : Prop) : Prop := wr y ↔ X
theorem ex_all {L : List gU} {P : gU → Prop} {n : Nat} (h : L.length ≤ n) : exL L P n ↔ ∃ N ∈ L, P N := by
  refine ⟨fun ⟨t, N, _, a, b⟩ => ⟨N, List.mem_of_getElem? a, b⟩, fun ⟨N, a, b⟩ => ?_⟩
  obtain ⟨t, ht, e⟩ := List.getElem_of_mem a
  exact ⟨t, N, by omega, by rw [List.getElem?_eq_getElem ht, e], b⟩
theorem ex_up {L : List gU} {P : gU → Prop} {n : Nat} {N0 : gU} (h : L[n]? = some N0) : exL L P (n + 1) ↔ exL L P n ∨ P N0 := by
  refine ⟨fun ⟨t, N, a1, a2, a3⟩ => ?_, fun z => z.elim (fun ⟨t, N, a1, a⟩ => ⟨t, N, by omega, a⟩) (fun a => ⟨n, N0, Nat.lt_succ_self _, h, a⟩)⟩
  by_cases c : t = n
  · rw [c, h] at a2
    cases Option.some.inj a2
    exact Or.inr a3
  · exact Or.inl ⟨t, N, by omega, a2, a3⟩
/-- the model's code, as the chunks of the text say it -/
def MCd (sN : Nat → Nat → Bool) (T : gTd) (V K : Nat → Int32) (Ts As Fs : List gU) (x : gd) : Prop := (SR sN T V K x (stTs sN K Ts) ∧ (∀ i N, Ts[i]? = some N → okT sN K (stTs sN K (Ts.take i)) N) ∧ ∀ t : Nat, t < Ts.length → (x.1 64 t).toInt = (stTs sN K (Ts.take t)).length) ∧ (∀ k N, As[k]? = some N → SUm x (x.1 65 k) (nPs sN T V K [] N)) ∧ ∀ k N, Fs[k]? = some N → SUm x (x.1 66 k) (nPs sN T V K [] N)
theorem sf_judge {G : mG} {D : Nat} {x : gd} {Fv : gd → Prop} {Ds : List gU} (hD : 750 ≤ D) (pn : PN x) (pg : PG x) (wp : (x.1 0 42).toInt ≤ 3000) (pv : PV x Ds) (pn5 : PN5 x Ds) (h47 : x.1 0 47 = 0) (h : ∀ x', md lL jA x x' → WB x' → CP x' → (wr x' ↔ jF (smB x) (x.1 7) (Ds.filterMap (te (x.1 5) (x.1 7))) (Ds.filterMap (bN 34)) (Ds.filterMap (bN 35)) (Ds.filterMap (bN 36))) → (¬ wr x' → MCd (smB x) (Ds.filterMap (te (x.1 5) (x.1 7))) (x.1 7) (x.1 5) (Ds.filterMap (bN 34)) (Ds.filterMap (bN 35)) (Ds.filterMap (bN 36)) x') → Fv x') : MT G D z_judge 0 [(0, vr 0)] [] x (rv Fv) := by
  obtain ⟨D, rfl⟩ : ∃ D', D = D' + 3 := ⟨D - 3, by omega⟩
  have k0 : (0 : Int32).toInt = 0 := rfl
  have k1 : (1 : Int32).toInt = 1 := rfl
  obtain ⟨n0, c0, gb, tee, S, A, B, pS, pA', pB, pt⟩ := id pg
  have hnow := pn.2.1
  have nd : (x.1 0 13).toInt ≤ 3000 := by unfold cr at c0; omega
  have lb : LB x := ⟨pn.2.2.2.1, gb, tee⟩
  obtain ⟨gb1, gb2, gb3, gb4, gb5, gb6, gb7, gb8, gb9, gb10, gb11, gb12⟩ := id gb
  have tS := fun t ht => tot_le S (x.1 0 25).toNatClampNeg t ht
  have tA' := fun t ht => tot_le A (x.1 0 26).toNatClampNeg t ht
  have tB := fun t ht => tot_le B (x.1 0 27).toNatClampNeg t ht
  have c25 := t_cl (x.1 0 25)
  have c26 := t_cl (x.1 0 26)
  have c27 := t_cl (x.1 0 27)
  obtain ⟨T, eT⟩ : ∃ T, T = Ds.filterMap (te (x.1 5) (x.1 7)) := ⟨_, rfl⟩
  obtain ⟨Ts, eTs⟩ : ∃ Ts, Ts = Ds.filterMap (bN 34) := ⟨_, rfl⟩
  obtain ⟨As, eAs⟩ : ∃ As, As = Ds.filterMap (bN 35) := ⟨_, rfl⟩
  obtain ⟨Fs, eFs⟩ : ∃ Fs, Fs = Ds.filterMap (bN 36) := ⟨_, rfl⟩
  obtain ⟨⟨tr0, ⟨bl, bt⟩, ⟨al, at'⟩, ⟨fl, ft⟩⟩, -⟩ := pv
  have pnn := pn5.1.1
  rw [← eT] at tr0 pnn
  have tr : TRd x T := ⟨tr0.1, tr0.2, pnn⟩
  rw [← eTs] at bl bt
  rw [← eAs] at al at'
  rw [← eFs] at fl ft
  rw [← eT, ← eTs, ← eAs, ← eFs] at h
  obtain ⟨sN, esN⟩ : ∃ sN, sN = smB x := ⟨_, rfl⟩
  obtain ⟨V, eV⟩ : ∃ V, V = x.1 7 := ⟨_, rfl⟩
  obtain ⟨K, eK⟩ : ∃ K, K = x.1 5 := ⟨_, rfl⟩
  rw [← esN, ← eV, ← eK] at h
  have ctx : CT sN T V K x := ⟨esN.symm, eV.symm, tr, eK.symm⟩
  have cty : ∀ {y : gd}, md lL jA x y → CT sN T V K y := fun m => CT_md m (by decide) rfl ctx
  have ex0 : ∀ {L : List gU} {P : gU → Prop}, ¬ exL L (fun N => P N) ((0 : Int32).toNatClampNeg) := fun ⟨t, N, a, _⟩ => absurd a (Nat.not_lt_zero _)
  have fdone : ∀ i : Int32, (x.1 0 27).toInt ≤ i.toInt → ((((jT sN V T ∨ ∃ N ∈ Ts, flt sN T V N E0v) ∨ ∃ N ∈ As, flt sN T V N E0v) ∨ exL Fs (fun N => flt sN T V N E0v) (i.toNatClampNeg)) ↔ jF sN V T Ts As Fs) := by
    intro i hi
    have u := t_cl i
    rw [ex_all (by rw [fl]; omega)]
    exact Iff.rfl
  obtain ⟨JC, hJC⟩ : ∃ JC : gd → Nat → Prop, ∀ y i, JC y i ↔ (SR sN T V K y (stTs sN K (Ts.take i)) ∧ (∀ j N, j < i → Ts[j]? = some N → okT sN K (stTs sN K (Ts.take j)) N) ∧ ∀ t : Nat, t < i → (y.1 64 t).toInt = (stTs sN K (Ts.take t)).length) := ⟨_, fun _ _ => Iff.rfl⟩
  obtain ⟨JA, hJA⟩ : ∃ JA : gd → Nat → Prop, ∀ y i, JA y i ↔ ∀ k N, k < i → As[k]? = some N → SUm y (y.1 65 k) (nPs sN T V K [] N) := ⟨_, fun _ _ => Iff.rfl⟩
  obtain ⟨JF, hJF⟩ : ∃ JF : gd → Nat → Prop, ∀ y i, JF y i ↔ ∀ k N, k < i → Fs[k]? = some N → SUm y (y.1 66 k) (nPs sN T V K [] N) := ⟨_, fun _ _ => Iff.rfl⟩
  have JC_wk : ∀ {y z : gd} {o r : Int32} {s i : Nat}, LW o s y r z → JC y i → JC z i := fun {y z o r s i} lw q => by
    obtain ⟨q1, q2, q3⟩ := (hJC _ _).mp q
    exact (hJC _ _).mpr ⟨SR_keep (LF_wk lw) q1, q2, fun t ht => by rw [lw.1.2.1 64 (by decide) (by decide)]; exact q3 t ht⟩
  have JC_md : ∀ {L A : List Nat} {y z : gd} {i : Nat}, md L A y z → [49, 52].all (fun k => !L.elem k) = true → [51, 52, 54, 55, 56, 57, 58, 59, 60, 61, 62].all (fun k => !A.elem k) = true → 64 ∉ A → JC y i → JC z i := fun {L A y z i} m hL hA h64 q => by
    obtain ⟨q1, q2, q3⟩ := (hJC _ _).mp q
    exact (hJC _ _).mpr ⟨SR_md m hL hA q1, q2, fun t ht => by rw [m.2.1 64 (by decide) h64]; exact q3 t ht⟩
  have JA_wk : ∀ {y z : gd} {o r : Int32} {s i : Nat}, LW o s y r z → JA y i → JA z i := fun {y z o r s i} lw q => (hJA _ _).mpr (fun k N hk hN => by
    rw [lw.1.2.1 65 (by decide) (by decide)]
    exact SUm_keep lw.2.2.2.1 lw.2.2.1 ((hJA _ _).mp q k N hk hN))
  have JF_wk : ∀ {y z : gd} {o r : Int32} {s i : Nat}, LW o s y r z → JF y i → JF z i := fun {y z o r s i} lw q => (hJF _ _).mpr (fun k N hk hN => by
    rw [lw.1.2.1 66 (by decide) (by decide)]
    exact SUm_keep lw.2.2.2.1 lw.2.2.1 ((hJF _ _).mp q k N hk hN))
  have fin9 : ∀ (y : gd) (i : Int32), (x.1 0 27).toInt ≤ i.toInt → (¬ wr y → JC y (x.1 0 25).toNatClampNeg ∧ JA y (x.1 0 26).toNatClampNeg ∧ JF y i.toNatClampNeg) → ¬ wr y → MCd sN T V K Ts As Fs y := fun y i hi q nw => by
    obtain ⟨q1, q2, q3⟩ := q nw
    obtain ⟨q1a, q1b, q1c⟩ := (hJC _ _).mp q1
    have u := t_cl i
    rw [← bl, List.take_length] at q1a
    rw [← bl] at q1b q1c
    exact ⟨⟨q1a, fun j N hN => q1b j N (gt_lt hN) hN, q1c⟩, fun k N hN => (hJA _ _).mp q2 k N (by rw [← al]; exact gt_lt hN) hN, fun k N hN => (hJF _ _).mp q3 k N (by have := gt_lt hN; rw [fl] at this; omega) hN⟩
  -- finals
  have p185 : ∀ (n : Nat) (y : gd) (i : Int32), md lL jA x y → WB y → 0 ≤ i.toInt → i.toInt ≤ (x.1 0 27).toInt → (x.1 0 27).toInt - i.toInt ≤ n → JS y (x.1 0 25).toNatClampNeg 700 (2 * tot S (x.1 0 25).toNatClampNeg + 2 * tot A (x.1 0 26).toNatClampNeg + 2 * tot B i.toNatClampNeg) → (∀ k : Nat, (k : Int) < (x.1 0 26).toInt → oW y (y.1 65 k)) → (∀ k : Nat, (k : Int) < i.toInt → oW y (y.1 66 k)) → wrI y (((jT sN V T ∨ ∃ N ∈ Ts, flt sN T V N E0v) ∨ ∃ N ∈ As, flt sN T V N E0v) ∨ exL Fs (fun N => flt sN T V N E0v) (i.toNatClampNeg)) → (¬ wr y → JC y (x.1 0 25).toNatClampNeg ∧ JA y (x.1 0 26).toNatClampNeg ∧ JF y i.toNatClampNeg) → MT G (D + 3) z_judge 185 [(0, vr 0), (1, vi i)] [] y (rv Fv) := by
    intro n
    induction n with
    | zero =>
      intro y i my wy i0 i1 hi js oa of hwr hjc
      have f25 := my.1 25 (by decide)
      have f26 := my.1 26 (by decide)
      have f27 := my.1 27 (by decide)
      refine sg_judge_185 _ ⟨fun _ => rv_i (h y my wy ⟨(LB_md my rfl rfl lb).2.1, ?_, by rw [f26]; exact oa, fun k hk => of k (by rw [f27] at hk; omega)⟩ (Iff.trans hwr (fdone i (by omega))) (fin9 y i (by omega) hjc)), fun c => absurd (t_le.mpr (by rw [f27]; omega)) c⟩
      obtain ⟨j1, j2, j3, j4, j5, j6⟩ := js
      have := tB i.toNatClampNeg (by have := t_cl i; omega)
      rw [f25]
      exact ⟨j1, by omega, j3, by omega, j5, j6⟩
    | succ n ih =>
      intro y i my wy i0 i1 hi js oa of hwr hjc
      have f25 := my.1 25 (by decide)
      have f26 := my.1 26 (by decide)
      have f27 := my.1 27 (by decide)
      have ci := t_cl i
      refine sg_judge_185 _ ⟨fun c => rv_i (h y my wy ⟨(LB_md my rfl rfl lb).2.1, ?_, by rw [f26]; exact oa, fun k hk => of k (by rw [f27] at hk; rw [t_le, f27] at c; omega)⟩ (Iff.trans hwr (fdone i (by rw [t_le, f27] at c; exact c))) (fin9 y i (by rw [t_le, f27] at c; exact c) hjc)), fun c => ?_⟩
      · obtain ⟨j1, j2, j3, j4, j5, j6⟩ := js
        have := tB i.toNatClampNeg (by omega)
        rw [f25]
        exact ⟨j1, by omega, j3, by omega, j5, j6⟩
      rw [t_le, f27] at c
      have iv : vp_in i 4 := by rw [vp_in_iff]; omega
      have i2 : (i + 1).toInt = i.toInt + 1 := by rw [t_add (by omega) (by omega), k1]
      have ci2 : (i + 1).toNatClampNeg = i.toNatClampNeg + 1 := by have := t_cl (i + 1); omega
      have ve := pB i.toNatClampNeg (by omega)
      have b1 : 1 ≤ B i.toNatClampNeg := by
        cases hB : B i.toNatClampNeg with
        | zero => rw [hB] at ve; exact ve.elim
        | succ b => omega
      have tb := tB (i.toNatClampNeg + 1) (by omega)
      have tb2 : tot B (i.toNatClampNeg + 1) = tot B i.toNatClampNeg + B i.toNatClampNeg := rfl
      have nn : NN x y := NN_md my (by decide) (fun c h1 h2 q => by simp at q; omega)
      have e41 : y.1 41 = x.1 41 := my.2.1 41 (by decide) (by decide)
      refine ⟨iv, ?_⟩
      rw [e41]
      obtain ⟨N, hN⟩ : ∃ N, Fs[i.toNatClampNeg]? = some N := ⟨_, List.getElem?_eq_getElem (by rw [fl]; omega)⟩
      obtain ⟨n', N', vv, eN⟩ := ft _ _ hN
      refine sf_workOf 1 (E := E0v) (n := B i.toNatClampNeg) (s := B i.toNatClampNeg) (M := N') (by omega) (Or.inr ⟨vE_keep nn.1 (fun c h1 h2 j hj => nn.2 c h1 (by omega) j hj) _ _ _ _ ve, n', NN_vV nn (my.2.1 5 (by decide) (by decide)) (my.2.1 7 (by decide) (by decide)) vv⟩) (by rw [my.1 13 (by decide)]; exact nd) (LB_md my rfl rfl lb) wy (fun q => absurd q (by decide)) (cty my) js.2.2.1 (by have := js.2.2.2.1; omega) (fun r z lw hr lx su _ => ⟨iv, fun u eu => ?_⟩)
      have e41n : ¬ x.1 41 i.toNatClampNeg = -1 := (fun q => by
        have v1 : 0 ≤ (x.1 41 i.toNatClampNeg).toInt := by
          cases hB : B i.toNatClampNeg with
          | zero => rw [hB] at ve; exact ve.elim
          | succ b => rw [hB] at ve; exact ve.1.1
        rw [q] at v1
        exact absurd v1 (by decide))
      have rn : ¬ r = -1 := hr e41n
      have mu := md_a z 66 i.toNatClampNeg r (by decide)
      rw [← eu] at mu
      have mz : md lL jA y z := md_w lw.1 (by decide) (by decide)
      have owz : ∀ r', oW y r' → oW z r' := fun r' q => ⟨q.1, cW_keep lw.2.2.2.1 lw.2.2.1 q.2⟩
      have owu : ∀ r', oW z r' → oW u r' := fun r' q => ⟨q.1, cW_keep (by rw [mu.1 49 (by decide)]; omega) (fun j _ => by rw [mu.2.1 51 (by decide) (by decide), mu.2.1 52 (by decide) (by decide)]; exact ⟨rfl, rfl⟩) q.2⟩
      have js2 := JS_fr (JS_wk js lw) mu rfl rfl
      have hwu : wrI u (((jT sN V T ∨ ∃ N ∈ Ts, flt sN T V N E0v) ∨ ∃ N ∈ As, flt sN T V N E0v) ∨ exL Fs (fun N => flt sN T V N E0v) ((i + 1).toNatClampNeg)) := by
        unfold LX at lx
        unfold wrI at hwr ⊢
        rw [wr_e (mu.1 41 (by decide)), lx, hwr, ci2, ex_up hN, eN, flt_sum, or_assoc]
      have hju : ¬ wr u → JC u (x.1 0 25).toNatClampNeg ∧ JA u (x.1 0 26).toNatClampNeg ∧ JF u (i + 1).toNatClampNeg := fun nw => by
        rw [wr_e (mu.1 41 (by decide))] at nw
        have nwy : ¬ wr y := fun q => nw (lx.mpr (Or.inl q))
        have nfl : ¬ flt sN T V N' E0v := fun q => nw (lx.mpr (Or.inr q))
        obtain ⟨c1, c2, c3⟩ := hjc nwy
        refine ⟨JC_md mu rfl rfl (by decide) (JC_wk lw c1), (hJA _ _).mpr (fun k N2 hk hN2 => ?_), (hJF _ _).mpr (fun k N2 hk hN2 => ?_)⟩
        · rw [mu.2.1 65 (by decide) (by decide)]
          exact SUm_md mu (by decide) (by decide) (by decide) ((hJA _ _).mp (JA_wk lw c2) k N2 hk hN2)
        · by_cases q : k = i.toNatClampNeg
          · rw [q, hN] at hN2
            rw [← Option.some.inj hN2, eN, nPs_54, q, eu, si_get, if_pos ⟨rfl, rfl⟩, ← eu]
            exact SUm_md mu (by decide) (by decide) (by decide) (su e41n nfl)
          · rw [eu, si_ne 66 k q, ← eu]
            exact SUm_md mu (by decide) (by decide) (by decide) ((hJF _ _).mp (JF_wk lw c3) k N2 (by omega) hN2)
      refine ih u (i + 1) (md_tr (md_tr (L3 := lL) (A3 := jA) my mz rfl rfl) mu rfl rfl) ?_ (by omega) (by omega) (by omega) ?_ (fun k hk => ?_) (fun k hk => ?_) hwu hju
      · have w2 := lw.2.1
        unfold WB
        rw [mu.1 41 (by decide), mu.1 42 (by decide)]
        exact w2
      · obtain ⟨j1, j2, j3, j4, j5, j6⟩ := js2
        exact ⟨j1, j2, j3, by rw [ci2, tb2]; omega, j5, j6⟩
      · rw [mu.2.1 65 (by decide) (by decide), lw.1.2.1 65 (by decide) (by decide)]
        exact owu _ (owz _ (oa k hk))
      · by_cases q : k = i.toNatClampNeg
        · rw [eu, si_get, if_pos ⟨rfl, q⟩, ← eu]
          obtain ⟨w1, w2⟩ := lw.2.2.2.2.2.resolve_left rn
          exact owu _ ⟨w1, w2⟩
        · rw [eu, si_ne 66 k q, ← eu, lw.1.2.1 66 (by decide) (by decide)]
          exact owu _ (owz _ (of k (by omega)))
  -- always
  have p152 : ∀ (n : Nat) (y : gd) (i : Int32), md lL jA x y → WB y → 0 ≤ i.toInt → i.toInt ≤ (x.1 0 26).toInt → (x.1 0 26).toInt - i.toInt ≤ n → JS y (x.1 0 25).toNatClampNeg 700 (2 * tot S (x.1 0 25).toNatClampNeg + 2 * tot A i.toNatClampNeg) → (∀ k : Nat, (k : Int) < i.toInt → oW y (y.1 65 k)) → wrI y ((jT sN V T ∨ ∃ N ∈ Ts, flt sN T V N E0v) ∨ exL As (fun N => flt sN T V N E0v) (i.toNatClampNeg)) → (¬ wr y → JC y (x.1 0 25).toNatClampNeg ∧ JA y i.toNatClampNeg) → MT G (D + 3) z_judge 152 [(0, vr 0), (1, vi i)] [] y (rv Fv) := by
    have next : ∀ (y : gd) (i : Int32), md lL jA x y → WB y → 0 ≤ i.toInt → i.toInt ≤ (x.1 0 26).toInt → (x.1 0 26).toInt ≤ i.toInt → JS y (x.1 0 25).toNatClampNeg 700 (2 * tot S (x.1 0 25).toNatClampNeg + 2 * tot A i.toNatClampNeg) → (∀ k : Nat, (k : Int) < i.toInt → oW y (y.1 65 k)) → wrI y ((jT sN V T ∨ ∃ N ∈ Ts, flt sN T V N E0v) ∨ exL As (fun N => flt sN T V N E0v) (i.toNatClampNeg)) → (¬ wr y → JC y (x.1 0 25).toNatClampNeg ∧ JA y i.toNatClampNeg) → MT G (D + 3) z_judge 185 [(0, vr 0), (1, vi 0)] [] y (rv Fv) := by
      intro y i my wy i0 i1 i2 js oa hwr hjc
      have := tA' i.toNatClampNeg (by have := t_cl i; omega)
      refine p185 _ y 0 my wy (by decide) (by rw [k0]; omega) (Int.self_le_toNat _) ?_ (fun k hk => oa k (by omega)) (fun k hk => by rw [k0] at hk; omega) (Iff.trans hwr ?_) (fun nw => ?_)
      rotate_left
      · have u := t_cl i
        rw [ex_all (by rw [al]; omega)]
        exact ⟨Or.inl, fun z => z.resolve_right ex0⟩
      · obtain ⟨c1, c2⟩ := hjc nw
        have u := t_cl i
        refine ⟨c1, (hJA _ _).mpr (fun k N hk hN => (hJA _ _).mp c2 k N (by omega) hN), (hJF _ _).mpr (fun k N hk _ => absurd hk (Nat.not_lt_zero _))⟩
      obtain ⟨j1, j2, j3, j4, j5, j6⟩ := js
      exact ⟨j1, j2, j3, by omega, j5, j6⟩
    intro n
    induction n with
    | zero =>
      intro y i my wy i0 i1 hi js oa hwr hjc
      have f26 := my.1 26 (by decide)
      exact sg_judge_152 _ ⟨fun c => next y i my wy i0 i1 (by omega) js oa hwr hjc, fun c => absurd (t_le.mpr (by rw [f26]; omega)) c⟩
    | succ n ih =>
      intro y i my wy i0 i1 hi js oa hwr hjc
      have f26 := my.1 26 (by decide)
      have ci := t_cl i
      refine sg_judge_152 _ ⟨fun c => next y i my wy i0 i1 (by rw [t_le, f26] at c; exact c) js oa hwr hjc, fun c => ?_⟩
      rw [t_le, f26] at c
      have iv : vp_in i 4 := by rw [vp_in_iff]; omega
      have i2 : (i + 1).toInt = i.toInt + 1 := by rw [t_add (by omega) (by omega), k1]
      have ci2 : (i + 1).toNatClampNeg = i.toNatClampNeg + 1 := by have := t_cl (i + 1); omega
      have ve := pA' i.toNatClampNeg (by omega)
      have b1 : 1 ≤ A i.toNatClampNeg := by
        cases hB : A i.toNatClampNeg with
        | zero => rw [hB] at ve; exact ve.elim
        | succ b => omega
      have tb := tA' (i.toNatClampNeg + 1) (by omega)
      have tb2 : tot A (i.toNatClampNeg + 1) = tot A i.toNatClampNeg + A i.toNatClampNeg := rfl
      have nn : NN x y := NN_md my (by decide) (fun c h1 h2 q => by simp at q; omega)
      have e41 : y.1 40 = x.1 40 := my.2.1 40 (by decide) (by decide)
      refine ⟨iv, ?_⟩
      rw [e41]
      obtain ⟨N, hN⟩ : ∃ N, As[i.toNatClampNeg]? = some N := ⟨_, List.getElem?_eq_getElem (by rw [al]; omega)⟩
      obtain ⟨n', N', vv, eN⟩ := at' _ _ hN
      refine sf_workOf 1 (E := E0v) (n := A i.toNatClampNeg) (s := A i.toNatClampNeg) (M := N') (by omega) (Or.inr ⟨vE_keep nn.1 (fun c h1 h2 j hj => nn.2 c h1 (by omega) j hj) _ _ _ _ ve, n', NN_vV nn (my.2.1 5 (by decide) (by decide)) (my.2.1 7 (by decide) (by decide)) vv⟩) (by rw [my.1 13 (by decide)]; exact nd) (LB_md my rfl rfl lb) wy (fun q => absurd q (by decide)) (cty my) js.2.2.1 (by have := js.2.2.2.1; omega) (fun r z lw hr lx su _ => ⟨iv, fun u eu => ?_⟩)
      have e40n : ¬ x.1 40 i.toNatClampNeg = -1 := (fun q => by
        have v1 : 0 ≤ (x.1 40 i.toNatClampNeg).toInt := by
          cases hB : A i.toNatClampNeg with
          | zero => rw [hB] at ve; exact ve.elim
          | succ b => rw [hB] at ve; exact ve.1.1
        rw [q] at v1
        exact absurd v1 (by decide))
      have rn : ¬ r = -1 := hr e40n
      have mu := md_a z 65 i.toNatClampNeg r (by decide)
      rw [← eu] at mu
      have mz : md lL jA y z := md_w lw.1 (by decide) (by decide)
      have owz : ∀ r', oW y r' → oW z r' := fun r' q => ⟨q.1, cW_keep lw.2.2.2.1 lw.2.2.1 q.2⟩
      have owu : ∀ r', oW z r' → oW u r' := fun r' q => ⟨q.1, cW_keep (by rw [mu.1 49 (by decide)]; omega) (fun j _ => by rw [mu.2.1 51 (by decide) (by decide), mu.2.1 52 (by decide) (by decide)]; exact ⟨rfl, rfl⟩) q.2⟩
      have js2 := JS_fr (JS_wk js lw) mu rfl rfl
      have hwu : wrI u ((jT sN V T ∨ ∃ N ∈ Ts, flt sN T V N E0v) ∨ exL As (fun N => flt sN T V N E0v) ((i + 1).toNatClampNeg)) := by
        unfold LX at lx
        unfold wrI at hwr ⊢
        rw [wr_e (mu.1 41 (by decide)), lx, hwr, ci2, ex_up hN, eN, flt_sum, or_assoc]
      have hju : ¬ wr u → JC u (x.1 0 25).toNatClampNeg ∧ JA u (i + 1).toNatClampNeg := fun nw => by
        rw [wr_e (mu.1 41 (by decide))] at nw
        have nwy : ¬ wr y := fun q => nw (lx.mpr (Or.inl q))
        have nfl : ¬ flt sN T V N' E0v := fun q => nw (lx.mpr (Or.inr q))
        obtain ⟨c1, c2⟩ := hjc nwy
        refine ⟨JC_md mu rfl rfl (by decide) (JC_wk lw c1), (hJA _ _).mpr (fun k N2 hk hN2 => ?_)⟩
        by_cases q : k = i.toNatClampNeg
        · rw [q, hN] at hN2
          rw [← Option.some.inj hN2, eN, nPs_54, q, eu, si_get, if_pos ⟨rfl, rfl⟩, ← eu]
          exact SUm_md mu (by decide) (by decide) (by decide) (su e40n nfl)
        · rw [eu, si_ne 65 k q, ← eu]
          exact SUm_md mu (by decide) (by decide) (by decide) ((hJA _ _).mp (JA_wk lw c2) k N2 (by omega) hN2)
      refine ih u (i + 1) (md_tr (md_tr (L3 := lL) (A3 := jA) my mz rfl rfl) mu rfl rfl) ?_ (by omega) (by omega) (by omega) ?_ (fun k hk => ?_) hwu hju
      · have w2 := lw.2.1
        unfold WB
        rw [mu.1 41 (by decide), mu.1 42 (by decide)]
        exact w2
      · obtain ⟨j1, j2, j3, j4, j5, j6⟩ := js2
        exact ⟨j1, j2, j3, by rw [ci2, tb2]; omega, j5, j6⟩
      · by_cases q : k = i.toNatClampNeg
        · rw [eu, si_get, if_pos ⟨rfl, q⟩, ← eu]
          obtain ⟨w1, w2⟩ := lw.2.2.2.2.2.resolve_left rn
          exact owu _ ⟨w1, w2⟩
        · rw [eu, si_ne 65 k q, ← eu, lw.1.2.1 65 (by decide) (by decide)]
          exact owu _ (owz _ (oa k (by omega)))
  -- threads
  have p99 : ∀ (n : Nat) (y : gd) (i : Int32), md lL jA x y → WB y → 0 ≤ i.toInt → i.toInt ≤ (x.1 0 25).toInt → (x.1 0 25).toInt - i.toInt ≤ n → JS y i.toNatClampNeg (tot S i.toNatClampNeg) (2 * tot S i.toNatClampNeg) → 0 ≤ (y.1 0 47).toInt → (y.1 0 47).toInt ≤ tot S i.toNatClampNeg → wrI y (jT sN V T ∨ exL Ts (fun N => flt sN T V N E0v) (i.toNatClampNeg)) → (¬ wr y → JC y i.toNatClampNeg) → MT G (D + 3) z_judge 99 [(0, vr 0), (1, vi i)] [] y (rv Fv) := by
    have next : ∀ (y : gd) (i : Int32), md lL jA x y → WB y → 0 ≤ i.toInt → i.toInt ≤ (x.1 0 25).toInt → (x.1 0 25).toInt ≤ i.toInt → JS y i.toNatClampNeg (tot S i.toNatClampNeg) (2 * tot S i.toNatClampNeg) → wrI y (jT sN V T ∨ exL Ts (fun N => flt sN T V N E0v) (i.toNatClampNeg)) → (¬ wr y → JC y i.toNatClampNeg) → MT G (D + 3) z_judge 152 [(0, vr 0), (1, vi 0)] [] y (rv Fv) := by
      intro y i my wy i0 i1 i2 js hwr hjc
      have ei : i.toNatClampNeg = (x.1 0 25).toNatClampNeg := by have := t_cl i; omega
      rw [ei] at js hwr hjc
      refine p152 _ y 0 my wy (by decide) (by rw [k0]; omega) (Int.self_le_toNat _) ?_ (fun k hk => by rw [k0] at hk; omega) (Iff.trans hwr ?_) (fun nw => ⟨hjc nw, (hJA _ _).mpr (fun k N hk _ => absurd hk (Nat.not_lt_zero _))⟩)
      rotate_left
      · rw [ex_all (by rw [bl]; exact Nat.le_refl _)]
        exact ⟨Or.inl, fun z => z.resolve_right ex0⟩
      obtain ⟨j1, j2, j3, j4, j5, j6⟩ := js
      exact ⟨j1, by omega, j3, by omega, j5, j6⟩
    intro n
    induction n with
    | zero =>
      intro y i my wy i0 i1 hi js bk0 bk1 hwr hjc
      have f25 := my.1 25 (by decide)
      exact sg_judge_99 _ ⟨fun c => next y i my wy i0 i1 (by omega) js hwr hjc, fun c => absurd (t_le.mpr (by rw [f25]; omega)) c⟩
    | succ n ih =>
      intro y i my wy i0 i1 hi js bk0 bk1 hwr hjc
      have f25 := my.1 25 (by decide)
      have ci := t_cl i
      refine sg_judge_99 _ ⟨fun c => next y i my wy i0 i1 (by rw [t_le, f25] at c; exact c) js hwr hjc, fun c y2 e2 y3 e3 => ?_⟩
      rw [t_le, f25] at c
      have iv : vp_in i 6 := by rw [vp_in_iff]; omega
      refine ⟨iv, fun y5 e5 => ⟨iv, ?_⟩⟩
      have i2 : (i + 1).toInt = i.toInt + 1 := by rw [t_add (by omega) (by omega), k1]
      have ci2 : (i + 1).toNatClampNeg = i.toNatClampNeg + 1 := by have := t_cl (i + 1); omega
      have vb := pS i.toNatClampNeg (by omega)
      have s2 : 2 ≤ S i.toNatClampNeg := by obtain ⟨_, _, _, L, _, _, z, _⟩ := vb; omega
      have tb := tS (i.toNatClampNeg + 1) (by omega)
      have tb2 : tot S (i.toNatClampNeg + 1) = tot S i.toNatClampNeg + S i.toNatClampNeg := rfl
      have m2 := md_f y 43 0
      rw [← e2] at m2
      have m3 := md_f y2 48 0
      rw [← e3] at m3
      have m5 := md_a y3 64 i.toNatClampNeg (y3.1 0 52) (by decide)
      rw [← e5] at m5
      have m35 : md [43, 48] [64] y y5 := md_tr (md_tr (L3 := [43, 48]) (A3 := []) m2 m3 rfl rfl) m5 rfl rfl
      have mx5 : md lL jA x y5 := md_tr my m35 rfl rfl
      have e43 : y5.1 0 43 = 0 := by rw [m5.1 43 (by decide), m3.1 43 (by decide), e2, si_get, if_pos ⟨rfl, rfl⟩]
      have e48 : y5.1 0 48 = 0 := by rw [m5.1 48 (by decide), e3, si_get, if_pos ⟨rfl, rfl⟩]
      have e52 : y5.1 0 52 = y.1 0 52 := m35.1 52 (by decide)
      have e49 : y5.1 0 49 = y.1 0 49 := m35.1 49 (by decide)
      have t52 : (y5.1 0 52).toInt = (y.1 0 52).toInt := by rw [e52]
      have t49 : (y5.1 0 49).toInt = (y.1 0 49).toInt := by rw [e49]
      have ks : KS y5 := ⟨by rw [e43]; decide, by rw [e43, e48]; omega, by rw [e48]; decide, fun j hj => by rw [e43, k0] at hj; omega⟩
      have w5 : WB y5 := by
        unfold WB
        rw [m35.1 41 (by decide), m35.1 42 (by decide)]
        exact wy
      obtain ⟨j1, j2, j3, j4, j5, j6⟩ := js
      have p5 : PL y5 := ⟨LB_md mx5 rfl rfl lb, w5, KS_KB ks, by rw [mx5.1 13 (by decide)]; exact nd, by rw [e49]; exact j3, by rw [e52]; exact j1, by rw [mx5.1 25 (by decide)]; omega⟩
      have nn : NN x y5 := NN_md mx5 (by decide) (fun c h1 h2 q => by simp at q; omega)
      rw [mx5.2.1 39 (by decide) (by decide)]
      obtain ⟨N, hN⟩ : ∃ N, Ts[i.toNatClampNeg]? = some N := ⟨_, List.getElem?_eq_getElem (by rw [bl]; omega)⟩
      have wb5 := NN_wB nn (mx5.2.1 5 (by decide) (by decide)) (mx5.2.1 7 (by decide) (by decide)) (bt _ _ hN)
      have e47 : y5.1 0 47 = y.1 0 47 := m35.1 47 (by decide)
      have xp5 : XP sN T V K y5 E0v := ⟨⟨by rw [e43]; rfl, by decide, trivial⟩, by rw [e48]; rfl, cty mx5, fun p hp => absurd hp (Nat.not_lt_zero _), by rw [e47]; exact bk0⟩
      refine sf_layBlock 17 (sf_layS 17) (m := 0) (s := S i.toNatClampNeg) (c := 8) (z0 := 0) (M := N) (E := E0v) (by omega) (by omega) (vB_NN nn vb) wb5 p5 ks xp5 (by rw [e47]; omega) (by rw [e48]; decide) (by rw [e49]; omega) (by rw [e52]; omega) (fun y7 q7 xb7 cb7 => ?_)
      obtain ⟨lx7, xp7, -, -, xq5, xq6⟩ := xb7 0
      have nlN : nl N := wB_nl (fun e M g => (wS_env 17 e M g).1) wb5
      rw [e47] at xq5 xq6
      obtain ⟨q7a, ks7, _⟩ := q7
      have b1 := q7a.1.2.2.1
      have b2 := q7a.1.2.2.2.1
      have b3 := q7a.1.2.2.2.2.1
      have b4 := q7a.1.2.2.2.2.2.1
      obtain ⟨z1, z2, z3, z4⟩ := LF_ok p5 q7a.1 (by rw [e52]; omega)
      refine sf_layStep _ _ z1 xp7.1 (Or.inl rfl) z2 (fun y8 h8 hm8 => ?_)
      have st := stp_s h8
      have u := stp_up st z3 z4
      have lq8 := LQ_stp st q7a.1.2.1 z3 z4 (Or.inl rfl) (Or.inl rfl) (Or.inl rfl) (by decide) (Or.inr (Or.inr (Or.inr (Or.inr (Or.inl rfl)))))
      have lf58 := LF_tr q7a.1 lq8.1
      have e64 : y8.1 64 = y5.1 64 := by rw [st.1.2.1 64 (by decide) (by decide), q7a.1.1.2.1 64 (by decide) (by decide)]
      have js5 : ∀ j : Nat, (j : Int) < (y5.1 0 52).toInt → sC y5 j := by
        intro j hj
        rw [e52] at hj
        obtain ⟨⟨a1, a2, a3, a4⟩, b, c9⟩ := j5 j hj
        have wk : ∀ r, wo y 0 r → wo y5 0 r := fun r z => wo_keep (by rw [e49]; omega) (fun j _ => by rw [m35.2.1 51 (by decide) (by decide), m35.2.1 52 (by decide) (by decide)]; exact ⟨rfl, rfl⟩) z
        unfold sC sO gO
        rw [m35.2.1 54 (by decide) (by decide), m35.2.1 55 (by decide) (by decide), m35.2.1 56 (by decide) (by decide), m35.2.1 57 (by decide) (by decide), m35.2.1 58 (by decide) (by decide), m35.2.1 59 (by decide) (by decide), m35.2.1 60 (by decide) (by decide), m35.2.1 61 (by decide) (by decide), m35.1 25 (by decide), e52]
        exact ⟨⟨wk _ a1, wk _ a2, wk _ a3, a4⟩, b, c9⟩
      have f47 : y8.1 0 47 = y7.1 0 47 := st.1.1 47 (by decide)
      have hw8 : wrI y8 (jT sN V T ∨ exL Ts (fun N => flt sN T V N E0v) ((i + 1).toNatClampNeg)) := by
        unfold LX at lx7
        unfold wrI at hwr ⊢
        rw [wr_e (st.1.1 41 (by decide)), lx7, wr_e (m35.1 41 (by decide)), hwr, ci2, ex_up hN, or_assoc]
      have hj8 : ¬ wr y8 → JC y8 (i + 1).toNatClampNeg := fun nw => by
        rw [wr_e (st.1.1 41 (by decide))] at nw
        have nwy : ¬ wr y := fun q => nw (lx7.mpr (Or.inl ((wr_e (m35.1 41 (by decide))).mpr q)))
        have nfl : ¬ flt sN T V N E0v := fun q => nw (lx7.mpr (Or.inr q))
        obtain ⟨q1, q2, q3⟩ := (hJC _ _).mp (hjc nwy)
        have sr5 : SR sN T V K y5 (stTs sN K (Ts.take i.toNatClampNeg)) := SR_md m35 rfl rfl q1
        obtain ⟨S', e9, s9, x9⟩ := cb7 nfl _ [] ([], []) sr5
        have e9 : cds sN K N (E0v, stTs sN K (Ts.take i.toNatClampNeg), [], rg0, [], []) = (exs N E0v, S' ++ [(21, 0, knw (exs N E0v), none, none, false, none, none, none)], [], rg0, [], []) := e9
        have eT9 : stT sN K (stTs sN K (Ts.take i.toNatClampNeg)) N = S' ++ [(21, 0, knw (exs N E0v), none, none, false, none, none, none)] := by
          unfold stT
          rw [e9]
        have okN : okT sN K (stTs sN K (Ts.take i.toNatClampNeg)) N := ⟨exs N E0v, (nlN E0v).2, by rw [eT9]; exact e9⟩
        rw [ci2]
        refine (hJC _ _).mpr ⟨?_, fun j N2 hj hN2 => ?_, fun t ht => ?_⟩
        · rw [stTs_up hN, eT9]
          exact SR_snoc (st := (21, 0, knw (exs N E0v), none, none, false, none, none, none)) s9 (LF_wr (md_w (md_rf y7) (by decide) (by decide)) q7a.1.2.1) st z4 hm8 rfl (fun q => absurd q (show ¬ 21 < 16 by decide)) rfl rfl rfl rfl rfl rfl
        · by_cases q : j = i.toNatClampNeg
          · rw [q, hN] at hN2
            rw [q, ← Option.some.inj hN2]
            exact okN
          · exact q2 j N2 (by omega) hN2
        · rw [e64]
          by_cases q : t = i.toNatClampNeg
          · rw [q, e5, si_get, if_pos ⟨rfl, rfl⟩, m3.1 52 (by decide), m2.1 52 (by decide)]
            exact q1.1
          · rw [e5, si_ne 64 t q, m3.2.1 64 (by decide) (by decide), m2.2.1 64 (by decide) (by decide)]
            exact q3 t (by omega)
      refine ih y8 (i + 1) (md_tr (md_tr (L3 := lL) (A3 := jA) mx5 q7a.1.1 rfl rfl) st.1 rfl rfl) lq8.1.2.1 (by omega) (by omega) (by omega) ⟨by omega, by rw [ci2, tb2]; omega, by have := lf58.2.2.2.2.1; omega, by have := lf58.2.2.2.2.2.1; rw [ci2, tb2]; omega, fun j hj => ?_, fun j hj => ?_⟩ (by rw [f47]; omega) (by rw [f47, ci2, tb2]; omega) hw8 hj8
      · by_cases q : (j : Int) < (y5.1 0 52).toInt
        · exact sC_keep lf58 q (js5 j q)
        · by_cases q2 : (j : Int) < (y7.1 0 52).toInt
          · have so := q7a.2 j (by omega) q2
            refine ⟨sO_keep lq8.1 q2 so, ?_, Or.inr (by omega)⟩
            have r54 := lq8.1.2.2.2.2.2.2.2 54 (by decide) (by decide) j q2
            have r61 := lq8.1.2.2.2.2.2.2.2 61 (by decide) (by decide) j q2
            rw [r54, r61]
            intro z
            rcases so.2.2.2.1 with ⟨s, _⟩ | s | ⟨_, _, s⟩ | s | s | ⟨s, _⟩
            · rw [s] at z; exact absurd z (by decide)
            · rw [s] at z; exact absurd z (by decide)
            · omega
            · rw [s] at z; exact absurd z (by decide)
            · rw [s] at z; exact absurd z (by decide)
            · rw [s] at z; exact absurd z (by decide)
          · have so := lq8.2 j (by omega) hj
            have ej : j = (y7.1 0 52).toNatClampNeg := by rw [t_cl]; omega
            have e54 : y8.1 54 j = 5 := by rw [ej]; exact st.2.2.2.1
            exact ⟨so, fun z => by rw [e54] at z; exact absurd z (by decide), Or.inl e54⟩
      · rw [ci2] at hj
        rw [e64]
        by_cases q : j = i.toNatClampNeg
        · rw [e5, si_get, if_pos ⟨rfl, q⟩]
          have : y3.1 0 52 = y.1 0 52 := by rw [m3.1 52 (by decide), m2.1 52 (by decide)]
          rw [this]
          exact ⟨j1, by omega⟩
        · rw [e5, si_ne 64 j q, m3.2.1 64 (by decide) (by decide), m2.2.1 64 (by decide) (by decide)]
          have := j6 j (by omega)
          exact ⟨this.1, by omega⟩
  -- names
  have p17 : ∀ (n : Nat) (y : gd) (i : Int32), md lL jA x y → WB y → y.1 0 49 = 0 → y.1 0 52 = 0 → y.1 0 47 = 0 → 0 ≤ i.toInt → (x.1 0 28).toInt - i.toInt ≤ n → wrI y (exQ T (tw sN V T) (i.toNatClampNeg)) → MT G (D + 3) z_judge 17 [(0, vr 0), (1, vi i)] [] y (rv Fv) := by
    have next : ∀ (y : gd) (i : Int32), md lL jA x y → WB y → y.1 0 49 = 0 → y.1 0 52 = 0 → y.1 0 47 = 0 → (x.1 0 28).toInt ≤ i.toInt → wrI y (exQ T (tw sN V T) (i.toNatClampNeg)) → MT G (D + 3) z_judge 99 [(0, vr 0), (1, vi 0)] [] y (rv Fv) := by
      intro y i my wy e49 e52 e47 hi hwr
      refine p99 _ y 0 my wy (by decide) (by rw [k0]; omega) (Int.self_le_toNat _) ⟨by rw [e52]; decide, by rw [e52, k0]; omega, by rw [e49]; decide, by rw [e49, k0]; omega, fun j hj => ?_, fun j hj => ?_⟩ (by rw [e47]; decide) (by rw [e47, k0]; omega) (Iff.trans hwr ?_) (fun _ => (hJC _ _).mpr ⟨⟨by rw [e52]; rfl, fun j st hj => absurd (gt_lt hj) (Nat.not_lt_zero _)⟩, fun j N hj => absurd hj (Nat.not_lt_zero _), fun t ht => absurd ht (Nat.not_lt_zero _)⟩)
      · rw [e52, k0] at hj; omega
      · have : (0 : Int32).toNatClampNeg = 0 := rfl
        rw [this] at hj; omega
      · have u := t_cl i
        have u28 := t_cl (x.1 0 28)
        refine ⟨fun ⟨j, q, _, a⟩ => Or.inl ⟨j, q, a⟩, fun z => ?_⟩
        obtain ⟨j, q, a1, a2⟩ := z.resolve_right ex0
        have hj := gt_lt a1
        rw [tr.1] at hj
        exact ⟨j, q, by omega, a1, a2⟩
    intro n
    induction n with
    | zero =>
      intro y i my wy e49 e52 e47 i0 hi hwr
      have f28 := my.1 28 (by decide)
      exact sg_judge_17 _ ⟨fun _ => next y i my wy e49 e52 e47 (by omega) hwr, fun c => absurd (t_le.mpr (by rw [f28]; omega)) c⟩
    | succ n ih =>
      intro y i my wy e49 e52 e47 i0 hi hwr
      have f28 := my.1 28 (by decide)
      have ly := LB_md my rfl rfl lb
      refine sg_judge_17 _ ⟨fun c => next y i my wy e49 e52 e47 (by rw [t_le, f28] at c; exact c) hwr, fun c => ?_⟩
      rw [t_le, f28] at c
      have iv : vp_in i 40 := by rw [vp_in_iff]; omega
      have i2 : (i + 1).toInt = i.toInt + 1 := by rw [t_add (by omega) (by omega), k1]
      have ci := t_cl i
      have ci2 : (i + 1).toNatClampNeg = i.toNatClampNeg + 1 := by have := t_cl (i + 1); omega
      have ti := LB_t ly (r := i) ⟨i0, by rw [f28]; omega⟩
      obtain ⟨q, hq, hd⟩ := TRd_at tr i0 (by omega)
      have upT : (exQ T (tw sN V T) ((i + 1).toNatClampNeg)) ↔ (exQ T (tw sN V T) (i.toNatClampNeg)) ∨ tw sN V T i.toNatClampNeg q := by
        rw [ci2]
        refine ⟨fun ⟨j, q', a1, a2, a3⟩ => ?_, fun z => z.elim (fun ⟨j, q', a1, a⟩ => ⟨j, q', by omega, a⟩) (fun a => ⟨_, q, Nat.lt_succ_self _, hq, a⟩)⟩
        by_cases cj : j = i.toNatClampNeg
        · rw [cj, hq] at a2
          cases Option.some.inj a2
          rw [cj] at a3
          exact Or.inr a3
        · exact Or.inl ⟨j, q', by omega, a2, a3⟩
      -- told twice; then a row's whole
      have p50 : ∀ z : gd, md lL jA x z → WB z → z.1 0 49 = 0 → z.1 0 52 = 0 → z.1 0 47 = 0 → wrI z ((exQ T (tw sN V T) (i.toNatClampNeg)) ∨ exQ T (fun _ q' => sN q'.1 q.1 = true) i.toNatClampNeg) → MT G (D + 3) z_judge 50 [(0, vr 0), (1, vi i)] [] z (rv Fv) := by
        intro z mz wz g49 g52 g47 hwz
        have lz := LB_md mz rfl rfl lb
        have tz := LB_t lz (r := i) ⟨i0, by rw [mz.1 28 (by decide)]; omega⟩
        have hdz := (cty mz).2.2.1.2.1 _ _ hq
        refine sg_judge_50 _ ⟨iv, fun c2 => ih z _ mz wz g49 g52 g47 (by omega) (by omega) ?_, fun c2 => ?_⟩
        · unfold wrI at hwz ⊢
          rw [hwz, upT]
          refine ⟨fun w => w.imp id Or.inl, fun w => w.imp id (fun w => w.resolve_right (fun w => ?_))⟩
          rcases hdz.2.2.2 with ⟨a, _⟩ | ⟨_, a, _⟩
          · omega
          · rw [a] at c2; exact absurd c2 (by decide)
        have t2 := tz.2.2.resolve_left c2
        have hrow : 0 < q.2.2.1 ∧ (z.1 35 i.toNatClampNeg).toNatClampNeg = q.2.2.2 := by
          rcases hdz.2.2.2 with ⟨_, a⟩ | ⟨a, _, _, _, b⟩
          · exact absurd a c2
          · exact ⟨a, b⟩
        have z7 : z.1 7 = V := (cty mz).2.1
        refine ⟨iv, t2, sp_in _ _ _ ⟨fun c3 => ih z _ mz wz g49 g52 g47 (by omega) (by omega) ?_, fun c3 => ⟨iv, sf_wrongAt _ _ (by decide) t2 lz.1 wz (fun w mw ww gw => ih w _ (md_tr mz mw rfl rfl) ww (by rw [mw.1 49 (by decide)]; exact g49) (by rw [mw.1 52 (by decide)]; exact g52) (by rw [mw.1 47 (by decide)]; exact g47) (by omega) (by omega) ?_)⟩⟩⟩
        · have c4 := bi_ne.mp c3
          rw [z7, hrow.2] at c4
          unfold wrI at hwz ⊢
          rw [hwz, upT]
          exact ⟨fun w => w.imp id Or.inl, fun w => w.imp id (fun w => w.resolve_right (fun w => w.2 c4))⟩
        · have c4 := bi_eq.mp c3
          rw [z7, hrow.2] at c4
          rw [upT]
          exact ⟨fun _ => Or.inr (Or.inr ⟨hrow.1, c4⟩), fun _ => gw⟩
      have ey : smB y = sN := (cty my).1
      have hdy := (cty my).2.2.1.2.1 _ _ hq
      refine ⟨iv, sf_toldOf _ ti.1 ly (cty my).2.2.1 (fun r r0 r1 => ?_)⟩
      rw [ey, hdy.2.1] at r0 r1
      have self : sN q.1 q.1 = true := by rw [esN]; exact smB_is.mpr (smx_rf x q.1)
      have rn : ¬ r = -1 := fun z => r0 z q (List.mem_of_getElem? hq) self
      obtain ⟨⟨ra, rb⟩, ⟨q1, rq, rs⟩, rf⟩ := r1 rn
      have cr' := t_cl r
      refine ⟨fun c3 => p50 y my wy e49 e52 e47 ?_, fun c3 => ⟨iv, sf_wrongAt _ _ (by decide) ti.1 ly.1 wy (fun w mw ww gw => p50 w (md_tr my mw rfl rfl) ww (by rw [mw.1 49 (by decide)]; exact e49) (by rw [mw.1 52 (by decide)]; exact e52) (by rw [mw.1 47 (by decide)]; exact e47) ?_)⟩⟩
      · unfold wrI at hwr ⊢
        rw [hwr]
        refine ⟨Or.inl, fun w => w.resolve_right (fun ⟨j', q', a1, a2, a3⟩ => ?_)⟩
        exact rf j' q' (by rw [c3]; exact a1) a2 a3
      · refine ⟨fun _ => Or.inr ⟨r.toNatClampNeg, q1, ?_, rq, rs⟩, fun _ => gw⟩
        by_cases cl : r.toNatClampNeg < i.toNatClampNeg
        · exact cl
        · by_cases ce : r.toNatClampNeg = i.toNatClampNeg
          · exact absurd (t_eq.mpr (by omega)) c3
          · exact absurd self (rf _ q (by omega) hq)
  refine sg_judge_0 (fun y1 e1 y2 e2 y3 e3 => ?_)
  have m1 := md_f x 41 0
  rw [← e1] at m1
  have m2 := md_f y1 49 0
  rw [← e2] at m2
  have m3 := md_f y2 52 0
  rw [← e3] at m3
  have m : md [41, 49, 52] [] x y3 := md_tr (md_tr (L3 := [41, 49]) (A3 := []) m1 m2 rfl rfl) m3 rfl rfl
  have y41 : y3.1 0 41 = 0 := by rw [m3.1 41 (by decide), m2.1 41 (by decide), e1, si_get, if_pos ⟨rfl, rfl⟩]
  refine p17 _ y3 0 (md_w m (by decide) (by decide)) ⟨?_, ?_⟩ ?_ ?_ ?_ (by decide) (Int.self_le_toNat _) ?_
  · rw [y41]; decide
  · rw [m.1 42 (by decide)]; exact wp
  · rw [m3.1 49 (by decide), e2, si_get, if_pos ⟨rfl, rfl⟩]
  · rw [e3, si_get, if_pos ⟨rfl, rfl⟩]
  · rw [m.1 47 (by decide)]; exact h47
  · exact ⟨fun z => absurd y41 z, fun ⟨j, q, a, _⟩ => absurd a (Nat.not_lt_zero _)⟩
end
section
/-! the same of the whole row of uses -/
def cdl : List Nat := [3, 6, 7, 12, 20, 21, 22, 23, 24, 25, 26, 27, 50, 51, 52, 53, 54, 60, 61, 62, 63, 65, 66, 67, 68, 69, 70, 74, 75, 76, 77, 78]
def cd (L : gU) : Prop := ∀ v ∈ L, cdl.elem v.1 = true
theorem cd_k {k a b : Nat} (h : cdl.elem k = true) : cd [(k, a, b)] := fun v hv => by rw [List.mem_singleton.mp hv]; exact h
theorem cd_app {L M : gU} (h : cd L) (g : cd M) : cd (L ++ M) := fun v hv => (List.mem_append.mp hv).elim (h v) (g v)
theorem cd_nil : cd [] := fun _ h => by cases h
theorem cd_54 {M : gU} (h : cd M) : cd (M ++ [(54, 0, 0)]) := cd_app h (cd_k rfl)
theorem vV_cd {x : gd} {o : Bool} : ∀ {n : Nat} {e : Int32} {M : gU}, vV x o n e M → cd M := by
  intro n
  induction n with
  | zero => intro e M h; exact h.elim
  | succ n ih =>
    intro e M h
    obtain ⟨-, h⟩ := h
    rcases h with ⟨q, r, _⟩ | ⟨q, r⟩ | ⟨q, r⟩ | ⟨q, r, _⟩ | ⟨q, M1, g, r⟩ | ⟨q, M1, M2, g1, g2, _, r⟩
    · rw [r]; exact cd_k rfl
    · rw [r]; exact cd_k rfl
    · rw [r]; cases o <;> exact cd_k rfl
    · rw [r]; exact cd_app (L := [_]) (M := [_]) (cd_k rfl) (cd_k rfl)
    · rcases r with ⟨_, r2⟩ | ⟨_, _, r3⟩
      · rw [r2]; exact ih g
      · rw [r3]; exact cd_app (ih g) (cd_k rfl)
    · rw [r]; exact cd_app (ih g1) (cd_app (ih g2) (cd_k rfl))
theorem vQ_cd {x : gd} {p : Int32} {M : gU} (h : vQ x p M) : cd M := by
  obtain ⟨-, ⟨_, h⟩ | ⟨_, n, M1, h1, h⟩⟩ := h
  · rw [h]; exact cd_k rfl
  · rw [h]; exact cd_app (cd_k rfl) (cd_54 (vV_cd h1))
theorem vRr_cd {x : gd} {r : Int32} {tg : Option Nat} {M : gU} (h : vRr x r tg M) : cd M := by
  have sa : cd (pma tg) := by cases tg with | none => exact cd_nil | some t => exact cd_k rfl
  have se : cd (pme tg) := by cases tg with | none => exact cd_nil | some t => exact cd_k rfl
  obtain ⟨b, t, et, h⟩ := h
  rcases h with ⟨q1, q2, q3, q4, q5, q6⟩ | ⟨q1, q2, n, M1, q3, q4⟩ | ⟨q1, M1, q2, q3⟩ | ⟨q1, n, M1, M2, q2, q3, q4⟩ | ⟨q1, q2, n, m, M1, M2, M3, q3, q4, q5, q6⟩
  · rw [q3]; cases tg with | none => exact cd_k rfl | some t => exact cd_k rfl
  · rw [q4]; exact cd_app sa (cd_app (cd_54 (vV_cd q3)) (cd_k rfl))
  · rw [q3]; exact cd_app se (cd_app (vQ_cd q2) (cd_k rfl))
  · rw [q4]; exact cd_app se (cd_app (vQ_cd q2) (cd_app (cd_54 (vV_cd q3)) (cd_k rfl)))
  · rw [q6]; exact cd_app se (cd_app (vQ_cd q3) (cd_app (cd_54 (vV_cd q4)) (cd_app (cd_54 (vV_cd q5)) (cd_k rfl))))
theorem wB_cd {x : gd} {m : Int} {V : Int32 → gU → Prop} {z : Nat} {e : Int32} {M : gU} (hV : ∀ e M, V e M → cd M) (h : wB x m V z e M) : cd M := by
  obtain ⟨-, -, R, -, h5, rfl⟩ := h
  refine cd_app (cd_k rfl) (cd_app (fun v hv => ?_) (cd_k rfl))
  obtain ⟨q, hq, hv⟩ := List.mem_flatMap.mp hv
  exact hV _ _ (h5 q hq).1 v hv
theorem wS_cd {x : gd} {m : Int} : ∀ (k : Nat) (e : Int32) (M : gU), wSt x m k e M → cd M := by
  intro k
  induction k with
  | zero => intro e M h; exact h.elim
  | succ k ih =>
    intro e M h
    obtain ⟨-, -, h⟩ := h
    unfold wD at h
    rcases h with ⟨g, N1, q1, q⟩ | ⟨g, _, N1, q1, q⟩ | ⟨g, _, _, _, N1, N2, q1, q2, q⟩ | ⟨g, n1, N1, N2, N3, q1, q2, _, q3, q⟩ | ⟨g, _, N1, N2, q1, q2, _, q⟩ | ⟨g, N2, q1, _, q⟩ | ⟨g, _, ⟨_, q⟩ | ⟨_, q⟩⟩ | ⟨g, _, q⟩ | ⟨g, _, _, N1, q1, q⟩ | ⟨g, _, N1, q1, q⟩ | ⟨g, _, q⟩
    · rw [q]; exact cd_app (cd_k rfl) (cd_app (vRr_cd q1.1) (cd_k rfl))
    · rw [q]; exact cd_app (vRr_cd q1.1) (cd_k rfl)
    · rw [q]; exact cd_app (cd_k rfl) (cd_app (cd_54 (vV_cd q1)) (cd_app (cd_54 (vV_cd q2)) (cd_k rfl)))
    · rw [q]
      have n3 : cd N3 := by
        rcases q3 with ⟨_, q3⟩ | ⟨_, _, j, N4, q4, q5 | ⟨_, q5, N5, q6⟩⟩
        · rw [q3]; exact cd_nil
        · rw [q4]; exact cd_app (cd_k rfl) (wB_cd ih q5)
        · rw [q4]; exact cd_app (cd_k rfl) (ih _ _ q5)
      exact cd_app (cd_54 (vV_cd q1)) (cd_app (cd_k rfl) (cd_app (wB_cd ih q2) (cd_app n3 (cd_k rfl))))
    · rw [q]; exact cd_app (cd_54 (vV_cd q1)) (cd_app (cd_k rfl) (wB_cd ih q2))
    · rw [q]; exact cd_app (cd_k rfl) (wB_cd ih q1)
    · rw [q]; exact cd_k rfl
    · rw [q]; exact cd_k rfl
    · rw [q]; exact cd_k rfl
    · rw [q]; exact cd_app (cd_54 (vV_cd q1)) (cd_k rfl)
    · rw [q]; exact cd_app (cd_54 (vV_cd q1)) (cd_k rfl)
    · rw [q]; exact cd_k rfl
theorem kfi_len {sN : Nat → Nat → Bool} : ∀ {k k' : gK} {t : Nat}, k.map Prod.fst = k'.map Prod.fst → kfi sN k t = kfi sN k' t := by
  intro k
  induction k with
  | nil => intro k' t h; cases k' with | nil => rfl | cons a r => cases h
  | cons a r ih =>
    intro k' t h
    cases k' with
    | nil => cases h
    | cons a' r' =>
      have h1 : a.1 = a'.1 := (List.cons.inj h).1
      have h2 : r.map Prod.fst = r'.map Prod.fst := (List.cons.inj h).2
      have h3 : r.length = r'.length := by
        have := congrArg List.length h2
        rw [List.length_map, List.length_map] at this
        exact this
      rw [kfi, kfi, h1, h3, ih h2]
/-- the same locals known (whatever their slots), the same blocks open -/
def eqE (E E' : gV) : Prop := E.1.map Prod.fst = E'.1.map Prod.fst ∧ E.2.1 = E'.2.1
theorem eqE_len {E E' : gV} (h : eqE E E') : E.1.length = E'.1.length := by
  have := congrArg List.length h.1
  rw [List.length_map, List.length_map] at this
  exact this
theorem fv_q {sN : Nat → Nat → Bool} {T : gTd} {V : Nat → Int32} {E E' : gV} {v : Nat × Nat × Nat} (h : eqE E E') : fv sN T V E v ↔ fv sN T V E' v := by
  have k : ∀ t, kfi sN E.1 t = kfi sN E'.1 t := fun t => kfi_len h.1
  have l := eqE_len h
  have tk : (∃ k ∈ E.1.take (E.1.length - E.2.1.headD 0), sN k.1 v.2.1 = true) ↔ ∃ k ∈ E'.1.take (E'.1.length - E'.2.1.headD 0), sN k.1 v.2.1 = true := by
    have e : (E.1.take (E.1.length - E.2.1.headD 0)).map Prod.fst = (E'.1.take (E'.1.length - E'.2.1.headD 0)).map Prod.fst := by
      rw [List.map_take, List.map_take, h.1, l, h.2]
    refine ⟨fun ⟨a, ha, hs⟩ => ?_, fun ⟨a, ha, hs⟩ => ?_⟩
    · have m : a.1 ∈ (E'.1.take (E'.1.length - E'.2.1.headD 0)).map Prod.fst := by rw [← e]; exact List.mem_map.mpr ⟨a, ha, rfl⟩
      obtain ⟨c, hc, ec⟩ := List.mem_map.mp m
      exact ⟨c, hc, by rw [ec]; exact hs⟩
    · have m : a.1 ∈ (E.1.take (E.1.length - E.2.1.headD 0)).map Prod.fst := by rw [e]; exact List.mem_map.mpr ⟨a, ha, rfl⟩
      obtain ⟨c, hc, ec⟩ := List.mem_map.mp m
      exact ⟨c, hc, by rw [ec]; exact hs⟩
  unfold fv
  rw [k, k, tk]
theorem exV_q {E E' : gV} {v : Nat × Nat × Nat} (h : eqE E E') : eqE (exV E v) (exV E' v) := by
  have l := eqE_len h
  unfold exV
  by_cases c20 : v.1 = 20
  · rw [if_pos c20, if_pos c20]
    exact ⟨h.1, by show _ :: _ = _ :: _; rw [l, h.2]⟩
  · rw [if_neg c20, if_neg c20]
    by_cases c21 : v.1 = 21
    · rw [if_pos c21, if_pos c21]
      exact ⟨by show (E.1.drop _).map _ = (E'.1.drop _).map _; rw [List.map_drop, List.map_drop, h.1, l, h.2], by show E.2.1.tail = E'.2.1.tail; rw [h.2]⟩
    · rw [if_neg c21, if_neg c21]
      by_cases c22 : v.1 = 22
      · rw [if_pos c22, if_pos c22]
        exact ⟨by show _ :: _ = _ :: _; rw [h.1], h.2⟩
      · rw [if_neg c22, if_neg c22]; exact h
theorem flt_q {sN : Nat → Nat → Bool} {T : gTd} {V : Nat → Int32} : ∀ {L : gU} {E E' : gV}, eqE E E' → (flt sN T V L E ↔ flt sN T V L E') := by
  intro L
  induction L with
  | nil => intro E E' _; exact Iff.rfl
  | cons v L ih =>
    intro E E' h
    show fv sN T V E v ∨ flt sN T V L (exV E v) ↔ fv sN T V E' v ∨ flt sN T V L (exV E' v)
    rw [fv_q h, ih (exV_q h)]
/-- a chunk: what begins it, then uses that are none of those -/
def shp (M : gU) : Prop := ∃ v N, M = v :: N ∧ (∀ w ∈ N, ¬ (31 ≤ w.1 ∧ w.1 ≤ 36)) ∧ nl N ∧ (31 ≤ v.1 ∧ v.1 ≤ 36) ∧ (v.1 ≤ 33 → ∀ (sN : Nat → Nat → Bool) (T : gTd) (V : Nat → Int32) (E : gV), ¬ flt sN T V N E)
theorem te_flat {K V : Nat → Int32} : ∀ {Ds : List gU}, (∀ M ∈ Ds, shp M) → Ds.flatten.filterMap (te1 K V) = Ds.filterMap (te K V) := by
  intro Ds
  induction Ds with
  | nil => intro _; rfl
  | cons M Ds ih =>
    intro h
    obtain ⟨v, N, e, h1, -⟩ := h M List.mem_cons_self
    rw [List.flatten_cons, List.filterMap_append, ih (fun M' hM => h M' (List.mem_cons_of_mem _ hM)), e]
    have n0 : N.filterMap (te1 K V) = [] := List.filterMap_eq_nil_iff.mpr (fun w hw => te1_no (h1 w hw))
    have e1 : (v :: N).filterMap (te1 K V) = (te1 K V v).toList := by
      rw [List.filterMap_cons, n0]
      cases te1 K V v <;> rfl
    have e2 : te K V (v :: N) = te1 K V v := rfl
    rw [e1, List.filterMap_cons, e2]
    cases te1 K V v <;> rfl
/-- the whole row, chunk by chunk -/
theorem flt_flat {sN : Nat → Nat → Bool} {T : gTd} {V : Nat → Int32} : ∀ {Ds : List gU}, (∀ M ∈ Ds, shp M) → ∀ {E : gV}, eqE E E0v → (flt sN T V Ds.flatten E ↔ ∃ M ∈ Ds, flt sN T V M E0v) := by
  intro Ds
  induction Ds with
  | nil => intro _ E _; exact ⟨fun q => q.elim, fun ⟨M, q, _⟩ => by cases q⟩
  | cons M Ds ih =>
    intro h E hE
    obtain ⟨v, N, e, h1, hn, hv, -⟩ := h M List.mem_cons_self
    have nlM : nl M := by
      rw [e]
      exact nl_app (L := [v]) (nl_still (still_one ⟨by omega, by omega, by omega⟩)) hn
    have hE2 : eqE (exs M E) E0v := ⟨by rw [(nlM E).1]; exact hE.1, by rw [(nlM E).2]; exact hE.2⟩
    rw [List.flatten_cons, flt_app, ih (fun M' hM => h M' (List.mem_cons_of_mem _ hM)) hE2, flt_q hE]
    refine ⟨fun q => q.elim (fun q => ⟨M, List.mem_cons_self, q⟩) (fun ⟨M', a, b⟩ => ⟨M', List.mem_cons_of_mem _ a, b⟩), fun ⟨M', a, b⟩ => ?_⟩
    rcases List.mem_cons.mp a with a | a
    · rw [a] at b; exact Or.inl b
    · exact Or.inr ⟨M', a, b⟩
theorem hd_flt {sN : Nat → Nat → Bool} {T : gTd} {V : Nat → Int32} {v : Nat × Nat × Nat} {N : gU} (hv : 31 ≤ v.1 ∧ v.1 ≤ 36) : flt sN T V (v :: N) E0v ↔ flt sN T V N E0v := by
  show fv sN T V E0v v ∨ flt sN T V N (exV E0v v) ↔ _
  rw [exV_still ⟨by omega, by omega, by omega⟩]
  refine ⟨fun q => q.resolve_left (fv_no (fun u hu => ?_)), Or.inr⟩
  simp only [List.mem_cons, List.not_mem_nil, or_false] at hu
  omega
theorem PV_shp {x : gd} {Ds : List gU} (pv : PV x Ds) : ∀ M ∈ Ds, shp M := by
  obtain ⟨⟨-, ⟨-, bt⟩, ⟨-, at'⟩, ⟨-, ft⟩⟩, sq⟩ := pv
  have lowc : ∀ {N : gU}, cd N → ∀ w ∈ N, ¬ (31 ≤ w.1 ∧ w.1 ≤ 36) := fun h w hw q => by
    have a := h w hw
    have b : ∀ k, k < 37 → 31 ≤ k → cdl.elem k = false := by decide
    rw [b _ (by omega) q.1] at a
    exact absurd a (by decide)
  have idx : ∀ {u : Nat} {v : Nat × Nat × Nat} {N : gU}, v :: N ∈ Ds → v.1 = u → ∃ t : Nat, (Ds.filterMap (bN u))[t]? = some N := fun {u v N} hm hu => by
    have m : N ∈ Ds.filterMap (bN u) := List.mem_filterMap.mpr ⟨_, hm, by show (if v.1 = u then some N else none) = some N; rw [if_pos hu]⟩
    obtain ⟨t, ht, e⟩ := List.getElem_of_mem m
    exact ⟨t, by rw [List.getElem?_eq_getElem ht, e]⟩
  have hV : ∀ e M, wSt x 0 17 e M → ∀ E, sufE E (exs M E) := fun e M g => (wS_env 17 e M g).1
  intro M hM
  obtain ⟨v, N, e, q⟩ := sq M hM
  rw [e] at hM
  rcases q with ⟨q1, q2⟩ | ⟨q1, q2⟩ | q1 | q1 | q1
  · refine ⟨v, N, e, fun w hw => by have := q2 w hw; omega, nl_still (fun w hw => by have := q2 w hw; omega), by omega, fun _ sN T V E => ?_⟩
    have key : ∀ (L : gU) (E : gV), (∀ w ∈ L, 80 ≤ w.1) → ¬ flt sN T V L E := by
      intro L
      induction L with
      | nil => intro E _ z; exact z
      | cons w L ih =>
        intro E hw z
        have w8 := hw w List.mem_cons_self
        rcases z with z | z
        · refine fv_no (fun u hu => ?_) z
          simp only [List.mem_cons, List.not_mem_nil, or_false] at hu
          omega
        · exact ih _ (fun u hu => hw u (List.mem_cons_of_mem _ hu)) z
    exact key N E q2
  · rw [q2] at e
    exact ⟨v, [], e, (fun w hw => absurd hw List.not_mem_nil), nl_still still_nil, by omega, fun _ _ _ _ _ z => z⟩
  · obtain ⟨t, ht⟩ := idx hM q1
    have wb := bt t N ht
    exact ⟨v, N, e, lowc (wB_cd (fun e M g => wS_cd 17 e M g) wb), wB_nl hV wb, by omega, fun z => by omega⟩
  · obtain ⟨t, ht⟩ := idx hM q1
    obtain ⟨n, N', vv, eN⟩ := at' t N ht
    exact ⟨v, N, e, lowc (by rw [eN]; exact cd_54 (vV_cd vv)), nl_still (by rw [eN]; exact still_54 (vV_st vv)), by omega, fun z => by omega⟩
  · obtain ⟨t, ht⟩ := idx hM q1
    obtain ⟨n, N', vv, eN⟩ := ft t N ht
    exact ⟨v, N, e, lowc (by rw [eN]; exact cd_54 (vV_cd vv)), nl_still (by rw [eN]; exact still_54 (vV_st vv)), by omega, fun z => by omega⟩
theorem jF_flat {sN : Nat → Nat → Bool} {K V : Nat → Int32} {Ds : List gU} (h : ∀ M ∈ Ds, shp M) : jF sN V (Ds.filterMap (te K V)) (Ds.filterMap (bN 34)) (Ds.filterMap (bN 35)) (Ds.filterMap (bN 36)) ↔ jFl sN K V Ds.flatten := by
  unfold jFl
  rw [te_flat h, flt_flat h ⟨rfl, rfl⟩]
  unfold jF
  have one : ∀ {u : Nat}, (∃ N ∈ Ds.filterMap (bN u), flt sN (Ds.filterMap (te K V)) V N E0v) → 31 ≤ u ∧ u ≤ 36 → ∃ M ∈ Ds, flt sN (Ds.filterMap (te K V)) V M E0v := by
    intro u ⟨N, hN, hf⟩ hu
    obtain ⟨M, hM, e⟩ := List.mem_filterMap.mp hN
    cases M with
    | nil => exact absurd e (by simp [bN])
    | cons v L =>
      have e : (if v.1 = u then some L else none) = some N := e
      by_cases c : v.1 = u
      · rw [if_pos c] at e
        cases Option.some.inj e
        exact ⟨v :: N, hM, (hd_flt (by omega)).mpr hf⟩
      · rw [if_neg c] at e; exact absurd e (by simp)
  refine ⟨fun q => ?_, fun q => ?_⟩
  · rcases q with ((q | q) | q) | q
    · exact Or.inl q
    · exact Or.inr (one q (by decide))
    · exact Or.inr (one q (by decide))
    · exact Or.inr (one q (by decide))
  · rcases q with q | ⟨M, hM, hf⟩
    · exact Or.inl (Or.inl (Or.inl q))
    · obtain ⟨v, N, e, -, -, hv, hz⟩ := h M hM
      rw [e] at hf hM
      have hf2 := (hd_flt hv).mp hf
      have mem : ∀ {u : Nat}, v.1 = u → N ∈ Ds.filterMap (bN u) := fun {u} hu => List.mem_filterMap.mpr ⟨_, hM, by show (if v.1 = u then some N else none) = some N; rw [if_pos hu]⟩
      by_cases c : v.1 ≤ 33
      · exact absurd hf2 (hz c _ _ _ _)
      · have : v.1 = 34 ∨ v.1 = 35 ∨ v.1 = 36 := by omega
        rcases this with c | c | c
        · exact Or.inl (Or.inl (Or.inr ⟨N, mem c, hf2⟩))
        · exact Or.inl (Or.inr ⟨N, mem c, hf2⟩)
        · exact Or.inr ⟨N, mem c, hf2⟩
end
section
/-! the model's code, as the whole row of events says it -/
def clF (u : Nat) (l : List (Nat × gU)) : List gU := l.filterMap (fun q => if q.1 = u then some q.2 else none)
def MCo (sN : Nat → Nat → Bool) (V K : Nat → Int32) (L : gU) (x : gd) : Prop :=
  SR sN (L.filterMap (te1 K V)) V K x (cds sN K L cd0).2.1 ∧
  ((x.1 0 25).toInt = (cds sN K L cd0).2.2.2.2.1.length ∧ ∀ (t : Nat) (q : Nat × Nat), (cds sN K L cd0).2.2.2.2.1[t]? = some q → (x.1 64 t).toInt = q.1 ∧ x.1 38 t = Int32.ofNat q.2) ∧
  ((x.1 0 23).toInt = (cel K V L).length ∧ ∀ j q, (cel K V L)[j]? = some q → x.1 36 j = q.1 ∧ x.1 37 j = if q.2 = true then 1 else 0) ∧
  (∀ k N, (clF 35 (cds sN K L cd0).2.2.2.2.2)[k]? = some N → SUm x (x.1 65 k) (nPs sN (L.filterMap (te1 K V)) V K [] N)) ∧
  ∀ k N, (clF 36 (cds sN K L cd0).2.2.2.2.2)[k]? = some N → SUm x (x.1 66 k) (nPs sN (L.filterMap (te1 K V)) V K [] N)
theorem MCo_md {sN : Nat → Nat → Bool} {V K : Nat → Int32} {L : gU} {x y : gd} {L' A : List Nat} (m : md L' A x y) (hL : [23, 25, 49, 52].all (fun k => !L'.elem k) = true) (hA : [36, 37, 38, 51, 52, 54, 55, 56, 57, 58, 59, 60, 61, 62, 64, 65, 66].all (fun k => !A.elem k) = true) (h : MCo sN V K L x) : MCo sN V K L y := by
  have f := fun k hk => m.1 k (all_no' hL k hk)
  have g := fun k (h0 : k ≠ 0) hk => m.2.1 k h0 (all_no' hA k hk)
  obtain ⟨h1, h2, h3, h4, h5⟩ := h
  refine ⟨SR_md m ?_ ?_ h1, ?_, ?_, fun k N hN => ?_, fun k N hN => ?_⟩
  · rw [List.all_eq_true] at hL ⊢
    exact fun k hk => hL k (by simp only [List.mem_cons, List.not_mem_nil, or_false] at hk ⊢; omega)
  · rw [List.all_eq_true] at hA ⊢
    exact fun k hk => hA k (by simp only [List.mem_cons, List.not_mem_nil, or_false] at hk ⊢; omega)
  · rw [f 25 (by decide), g 64 (by decide) (by decide), g 38 (by decide) (by decide)]
    exact h2
  · rw [f 23 (by decide), g 36 (by decide) (by decide), g 37 (by decide) (by decide)]
    exact h3
  · rw [g 65 (by decide) (by decide)]
    exact SUm_md m (all_no' hL 49 (by decide)) (all_no' hA 51 (by decide)) (all_no' hA 52 (by decide)) (h4 k N hN)
  · rw [g 66 (by decide) (by decide)]
    exact SUm_md m (all_no' hL 49 (by decide)) (all_no' hA 51 (by decide)) (all_no' hA 52 (by decide)) (h5 k N hN)
theorem bN_2 (u : Nat) : bN2 u = bN u := by
  funext M
  cases M <;> rfl
theorem clF_is {u : Nat} (hu : u = 35 ∨ u = 36) : ∀ Ds : List gU, clF u (Ds.filterMap clE) = (Ds.filterMap (bN u)).map List.dropLast := by
  intro Ds
  induction Ds with
  | nil => rfl
  | cons M Ds ih =>
    cases M with
    | nil => exact ih
    | cons v N =>
      rw [List.filterMap_cons, List.filterMap_cons]
      by_cases c : v.1 = 35 ∨ v.1 = 36
      · rw [show clE (v :: N) = some (v.1, N.dropLast) from if_pos c]
        show clF u ((v.1, N.dropLast) :: Ds.filterMap clE) = _
        unfold clF at ih ⊢
        rw [List.filterMap_cons]
        by_cases cu : v.1 = u
        · rw [show bN u (v :: N) = some N from if_pos cu]
          simp only [if_pos cu]
          rw [ih]
          rfl
        · rw [show bN u (v :: N) = none from if_neg cu]
          simp only [if_neg cu]
          exact ih
      · rw [show clE (v :: N) = none from if_neg c, show bN u (v :: N) = none from if_neg (by omega)]
        exact ih
theorem PV_chk {x : gd} {Ds : List gU} (pv : PV x Ds) : ∀ M ∈ Ds, chk M := by
  obtain ⟨⟨-, -, ⟨-, at'⟩, ⟨-, ft⟩⟩, sq⟩ := pv
  have idx : ∀ {u : Nat} {v : Nat × Nat × Nat} {N : gU}, v :: N ∈ Ds → v.1 = u → ∃ t : Nat, (Ds.filterMap (bN u))[t]? = some N := fun {u v N} hm hu => by
    have m : N ∈ Ds.filterMap (bN u) := List.mem_filterMap.mpr ⟨_, hm, by show (if v.1 = u then some N else none) = some N; rw [if_pos hu]⟩
    obtain ⟨t, ht, e⟩ := List.getElem_of_mem m
    exact ⟨t, by rw [List.getElem?_eq_getElem ht, e]⟩
  intro M hM
  obtain ⟨v, N, e, q⟩ := sq M hM
  rw [e] at hM
  rcases q with ⟨q1, q2⟩ | ⟨q1, q2⟩ | q1 | q1 | q1
  · exact ⟨v, N, e, Or.inl ⟨by omega, q2⟩⟩
  · exact ⟨v, N, e, Or.inl ⟨by omega, fun w hw => by rw [q2] at hw; cases hw⟩⟩
  · exact ⟨v, N, e, Or.inr (Or.inl q1)⟩
  · obtain ⟨t, ht⟩ := idx hM q1
    obtain ⟨n, N', vv, eN⟩ := at' t N ht
    exact ⟨v, N, e, Or.inr (Or.inr ⟨Or.inl q1, N', vV_sE vv, eN⟩)⟩
  · obtain ⟨t, ht⟩ := idx hM q1
    obtain ⟨n, N', vv, eN⟩ := ft t N ht
    exact ⟨v, N, e, Or.inr (Or.inr ⟨Or.inr q1, N', vV_sE vv, eN⟩)⟩
theorem MCo_of {y x' : gd} {Ds : List gU} {sN : Nat → Nat → Bool} (pv : PV y Ds) (p5 : PN5 y Ds) (e23 : x'.1 0 23 = y.1 0 23) (e25 : x'.1 0 25 = y.1 0 25) (e36 : x'.1 36 = y.1 36) (e37 : x'.1 37 = y.1 37) (e38 : x'.1 38 = y.1 38) (h : MCd sN (Ds.filterMap (te (y.1 5) (y.1 7))) (y.1 7) (y.1 5) (Ds.filterMap (bN 34)) (Ds.filterMap (bN 35)) (Ds.filterMap (bN 36)) x') : MCo sN (y.1 7) (y.1 5) Ds.flatten x' := by
  have shp' := PV_shp pv
  have eT := te_flat (K := y.1 5) (V := y.1 7) shp'
  obtain ⟨⟨h1, h2, h3⟩, h4, h5⟩ := h
  obtain ⟨E, r, hE, hr, e, hl, hq⟩ := cds_flat (sN := sN) (K := y.1 5) (PV_chk pv) (by rw [bN_2]; exact h2)
  rw [bN_2] at e hl hq
  obtain ⟨⟨-, ⟨bl, -⟩, ⟨al, at'⟩, ⟨fl, ft⟩⟩, -⟩ := pv
  obtain ⟨-, ⟨c1, c2⟩, ⟨i1, i2⟩⟩ := p5
  unfold MCo
  rw [eT]
  have S1 : (cds sN (y.1 5) Ds.flatten cd0).2.1 = stTs sN (y.1 5) (Ds.filterMap (bN 34)) := by rw [e]
  have S2 : (cds sN (y.1 5) Ds.flatten cd0).2.2.2.2.2 = Ds.filterMap clE := by rw [e]
  have cla : ∀ {u c : Nat}, (u = 35 ∨ u = 36) → (∀ t N, (Ds.filterMap (bN u))[t]? = some N → ∃ n N', vV y true n (y.1 c t) N' ∧ N = N' ++ [(54, 0, 0)]) → ∀ k N, (clF u (Ds.filterMap clE))[k]? = some N → (Ds.filterMap (bN u))[k]? = some (N ++ [(54, 0, 0)]) := fun {u c} hu g k N hN => by
    rw [clF_is hu, List.getElem?_map] at hN
    obtain ⟨N1, a1, a2⟩ := Option.map_eq_some_iff.mp hN
    obtain ⟨_, N', _, eN⟩ := g k N1 a1
    rw [eN, List.dropLast_concat] at a2
    rw [a1, eN, a2]
  refine ⟨by rw [S1]; exact h1, ⟨?_, fun t q ht => ?_⟩, by rw [e23, e36, e37]; exact ⟨c1, c2⟩, fun k N hN => ?_, fun k N hN => ?_⟩
  · rw [hl, e25, bl]
    have u := t_cl (y.1 0 25)
    omega
  · obtain ⟨a1, a2⟩ := hq t q ht
    have hlt := gt_lt ht
    rw [hl] at hlt
    refine ⟨by rw [h3 t hlt, a1], ?_⟩
    rw [e38]
    exact i2 t _ a2
  · rw [S2] at hN
    have a := h4 k _ (cla (Or.inl rfl) at' k N hN)
    rw [nPs_54] at a
    exact a
  · rw [S2] at hN
    have a := h5 k _ (cla (Or.inr rfl) ft k N hN)
    rw [nPs_54] at a
    exact a
end
section
/-! forget, compile, feed, wipe: what stays between calls -/
/-- the open calls' numbers -/
def oA (x : gd) : Prop := ∀ t : Nat, t < 6 → 0 ≤ (x.1 118 t).toInt ∧ (x.1 118 t).toInt < 14
theorem oA_md {L A : List Nat} {x x' : gd} (h : md L A x x') (hA : 118 ∉ A) (q : oA x) : oA x' := by
  unfold oA
  rw [h.2.1 118 (by decide) hA]
  exact q
def G0 (x : gd) : Prop := 0 ≤ (x.1 0 2).toInt ∧ (x.1 0 2).toInt ≤ 3000 ∧ TK x ∧ (x.1 0 10).toInt ≤ 3000 ∧ (x.1 0 42).toInt ≤ 3000 ∧ oA x
def fG (x x' : gd) : Prop := md [23, 24, 25, 26, 27, 66, 67] [119] x x' ∧ x'.1 0 66 = 0 ∧ x'.1 0 67 = 0 ∧ x'.1 0 23 = 0 ∧ x'.1 0 24 = 0 ∧ x'.1 0 25 = 0 ∧ x'.1 0 26 = 0 ∧ x'.1 0 27 = 0 ∧ x'.1 119 0 = 0 ∧ x'.1 119 1 = 0
theorem G0_md {L A : List Nat} {x x' : gd} (h : md L A x x') (hL : [2, 10, 42].all (fun k => !L.elem k) = true) (hA : [6, 7, 8, 118].all (fun k => !A.elem k) = true) (q : G0 x) : G0 x' := by
  have f := fun k hk => h.1 k (all_no hL k hk)
  unfold G0
  rw [f 2 (by decide), f 10 (by decide), f 42 (by decide)]
  exact ⟨q.1, q.2.1, TK_md h (all_no hA 6 (by decide)) (all_no hA 8 (by decide)) (all_no hA 7 (by decide)) q.2.2.1, q.2.2.2.1, q.2.2.2.2.1, oA_md h (all_no hA 118 (by decide)) q.2.2.2.2.2⟩
theorem CP_md {L A : List Nat} {x x' : gd} (h : md L A x x') (hL : [23, 24, 25, 26, 27, 28, 49, 52].all (fun k => !L.elem k) = true) (hA : [51, 52, 54, 55, 56, 57, 58, 59, 60, 61, 64, 65, 66].all (fun k => !A.elem k) = true) (q : CP x) : CP x' := by
  have f := fun k hk => h.1 k (all_no hL k hk)
  have g := fun k (h0 : k ≠ 0) hk => h.2.1 k h0 (all_no hA k hk)
  have f23 := f 23 (by decide)
  have f24 := f 24 (by decide)
  have f25 := f 25 (by decide)
  have f26 := f 26 (by decide)
  have f27 := f 27 (by decide)
  have f28 := f 28 (by decide)
  have f49 := f 49 (by decide)
  have f52 := f 52 (by decide)
  have g51 := g 51 (by decide) (by decide)
  have g52 := g 52 (by decide) (by decide)
  obtain ⟨q1, q2, q3, q4⟩ := q
  have wk : ∀ r, wo x 0 r → wo x' 0 r := fun r z => wo_keep (by rw [f49]; omega) (fun j _ => by rw [g51, g52]; exact ⟨rfl, rfl⟩) z
  have ok : ∀ r, oW x r → oW x' r := fun r z => ⟨z.1, cW_keep (by rw [f49]; omega) (fun j _ => by rw [g51, g52]; exact ⟨rfl, rfl⟩) z.2⟩
  refine ⟨?_, ?_, fun k hk => ?_, fun k hk => ?_⟩
  · unfold GB
    rw [f23, f24, f25, f26, f27, f28]
    exact q1
  · obtain ⟨j1, j2, j3, j4, j5, j6⟩ := q2
    refine ⟨by rw [f52]; exact j1, by rw [f52]; exact j2, by rw [f49]; exact j3, by rw [f49]; exact j4, fun j hj => ?_, fun j hj => ?_⟩
    · rw [f52] at hj
      obtain ⟨⟨a1, a2, a3, a4⟩, b, c9⟩ := j5 j hj
      unfold sC sO gO
      rw [g 54 (by decide) (by decide), g 55 (by decide) (by decide), g 56 (by decide) (by decide), g 57 (by decide) (by decide), g 58 (by decide) (by decide), g 59 (by decide) (by decide), g 60 (by decide) (by decide), g 61 (by decide) (by decide), f25, f52]
      exact ⟨⟨wk _ a1, wk _ a2, wk _ a3, a4⟩, b, c9⟩
    · rw [f25] at hj
      rw [g 64 (by decide) (by decide), f52]
      exact j6 j hj
  · rw [f26] at hk
    rw [g 65 (by decide) (by decide)]
    exact ok _ (q3 k hk)
  · rw [f27] at hk
    rw [g 66 (by decide) (by decide)]
    exact ok _ (q4 k hk)
section SPC
variable {G : mG} {d : Nat} {x : gd} {F : Int32 → gd → Prop} {Fv : gd → Prop}
theorem sp_forget (h : ∀ x', fG x x' → Fv x') : MT G d z_forget 0 [(0, vr 0)] [] x (rv Fv) := by
  refine sg_forget_0 (fun x1 e1 x2 e2 x3 e3 x4 e4 x5 e5 x6 e6 x7 e7 => ⟨vp_in_iff.mpr (by decide), fun x9 e9 => ⟨vp_in_iff.mpr (by decide), fun x11 e11 => rv_i (h x11 ?_)⟩⟩)
  have z0 : (0 : Int32).toNatClampNeg = 0 := rfl
  have z1 : (1 : Int32).toNatClampNeg = 1 := rfl
  have zb : vp_nar .boolean 0 = 0 := by decide
  rw [z0, zb] at e9
  rw [z1, zb] at e11
  have m1 := md_f x 66 0
  rw [← e1] at m1
  have m2 := md_f x1 67 0
  rw [← e2] at m2
  have m3 := md_f x2 23 0
  rw [← e3] at m3
  have m4 := md_f x3 24 0
  rw [← e4] at m4
  have m5 := md_f x4 25 0
  rw [← e5] at m5
  have m6 := md_f x5 26 0
  rw [← e6] at m6
  have m7 := md_f x6 27 0
  rw [← e7] at m7
  have m9 := md_a x7 119 0 0 (by decide)
  rw [← e9] at m9
  have m11 := md_a x9 119 1 0 (by decide)
  rw [← e11] at m11
  have M2 : md [66, 67] [] x x2 := md_tr m1 m2 rfl rfl
  have M3 : md [66, 67, 23] [] x x3 := md_tr M2 m3 rfl rfl
  have M4 : md [66, 67, 23, 24] [] x x4 := md_tr M3 m4 rfl rfl
  have M5 : md [66, 67, 23, 24, 25] [] x x5 := md_tr M4 m5 rfl rfl
  have M6 : md [66, 67, 23, 24, 25, 26] [] x x6 := md_tr M5 m6 rfl rfl
  have M7 : md [66, 67, 23, 24, 25, 26, 27] [] x x7 := md_tr M6 m7 rfl rfl
  have M9 : md [66, 67, 23, 24, 25, 26, 27] [119] x x9 := md_tr M7 m9 rfl rfl
  refine ⟨md_tr M9 m11 rfl rfl, ?_, ?_, ?_, ?_, ?_, ?_, ?_, ?_, ?_⟩
  · rw [m11.1 66 (by decide), m9.1 66 (by decide), m7.1 66 (by decide), m6.1 66 (by decide), m5.1 66 (by decide), m4.1 66 (by decide), m3.1 66 (by decide), m2.1 66 (by decide), e1, si_get, if_pos ⟨rfl, rfl⟩]
  · rw [m11.1 67 (by decide), m9.1 67 (by decide), m7.1 67 (by decide), m6.1 67 (by decide), m5.1 67 (by decide), m4.1 67 (by decide), m3.1 67 (by decide), e2, si_get, if_pos ⟨rfl, rfl⟩]
  · rw [m11.1 23 (by decide), m9.1 23 (by decide), m7.1 23 (by decide), m6.1 23 (by decide), m5.1 23 (by decide), m4.1 23 (by decide), e3, si_get, if_pos ⟨rfl, rfl⟩]
  · rw [m11.1 24 (by decide), m9.1 24 (by decide), m7.1 24 (by decide), m6.1 24 (by decide), m5.1 24 (by decide), e4, si_get, if_pos ⟨rfl, rfl⟩]
  · rw [m11.1 25 (by decide), m9.1 25 (by decide), m7.1 25 (by decide), m6.1 25 (by decide), e5, si_get, if_pos ⟨rfl, rfl⟩]
  · rw [m11.1 26 (by decide), m9.1 26 (by decide), m7.1 26 (by decide), e6, si_get, if_pos ⟨rfl, rfl⟩]
  · rw [m11.1 27 (by decide), m9.1 27 (by decide), e7, si_get, if_pos ⟨rfl, rfl⟩]
  · rw [e11, si_ne 119 0 (by decide), e9, si_get, if_pos ⟨rfl, rfl⟩]
  · rw [e11, si_get, if_pos ⟨rfl, rfl⟩]
/-- what compile leaves -/
def cG (x x' : gd) : Prop := G0 x' ∧ x'.1 0 2 = x.1 0 2 ∧ (¬ x'.1 0 66 = 0 → CP x') ∧ x'.1 0 67 = 0 ∧ x'.1 119 0 = 0 ∧ x'.1 119 1 = 0
/-- wipe: the text's length, and nothing of it is left -/
def z5 (x : gd) : Prop := x.1 0 23 = 0 ∧ x.1 0 24 = 0 ∧ x.1 0 25 = 0 ∧ x.1 0 26 = 0 ∧ x.1 0 27 = 0
def wG (x x' : gd) : Prop := G0 x' ∧ x'.1 0 66 = 0 ∧ x'.1 0 67 = 0 ∧ x'.1 119 0 = 0 ∧ x'.1 119 1 = 0 ∧ z5 x'
theorem wG_f {x y x' : gd} (g : G0 y) (h : fG y x') : wG x x' := ⟨G0_md h.1 rfl rfl g, h.2.1, h.2.2.1, h.2.2.2.2.2.2.2.2.1, h.2.2.2.2.2.2.2.2.2, h.2.2.2.1, h.2.2.2.2.1, h.2.2.2.2.2.1, h.2.2.2.2.2.2.1, h.2.2.2.2.2.2.2.1⟩
theorem sp_wipe (g : G0 x) (h : ∀ x', wG x x' → x'.1 0 2 = 0 → F (x.1 0 2) x') : MT G (d + 1) z_wipe 0 [(0, vr 0)] [] x (ri F) := by
  refine sg_wipe_0 (fun x1 e1 x2 e2 => sp_forget (fun x3 h3 => ?_))
  have m1 := md_f x 0 0
  rw [← e1] at m1
  have m2 := md_f x1 2 0
  rw [← e2] at m2
  have m : md [0, 2] [] x x2 := md_tr m1 m2 rfl rfl
  have f2 : x2.1 0 2 = 0 := by rw [e2, si_get, if_pos ⟨rfl, rfl⟩]
  have g2 : G0 x2 := ⟨by rw [f2]; decide, by rw [f2]; decide, TK_md m (by decide) (by decide) (by decide) g.2.2.1, by rw [m.1 10 (by decide)]; exact g.2.2.2.1, by rw [m.1 42 (by decide)]; exact g.2.2.2.2.1, oA_md m (by decide) g.2.2.2.2.2⟩
  rw [m1.1 2 (by decide)]
  exact ri_i (h x3 (wG_f g2 h3) (by rw [h3.1.1 2 (by decide)]; exact f2))
/-- the bytes that feed adds -/
def FBw (b : Int64) (j : Nat) : Int32 := vp_nar .byte (((b >>> ((8 * Int32.ofNat j : Int32).toInt64 &&& 63 : Int64) : Int64).toInt32 : Int32).toInt8.toInt32)
def FBm (x : gd) (b : Int64) (n : Nat) (y : gd) : Prop := (∀ p, p < (x.1 0 2).toNatClampNeg → y.1 2 p = x.1 2 p) ∧ ∀ j, j < n → y.1 2 ((x.1 0 2).toNatClampNeg + j) = FBw b j
/-- feed: n bytes more, where n is 1 to 8 and they have room; else nothing but what was thrown -/
def okF (x : gd) (n : Int32) : Prop := 1 ≤ n.toInt ∧ n.toInt ≤ 8 ∧ (x.1 0 2).toInt + n.toInt ≤ 3000
theorem sp_feed (n : Int32) (b : Int64) (g : G0 x) (h0 : ¬ okF x n → ∀ x', md [0] [] x x' → x'.1 0 0 = 1 → F 0 x') (h1 : okF x n → ∀ x', wG x x' → x'.1 0 0 = 0 → x'.1 0 2 = x.1 0 2 + n ∧ FBm x b n.toNatClampNeg x' → F (x.1 0 2 + n) x') : MT G (d + 1) z_feed 0 [(0, vr 0), (1, vi n), (2, vl b)] [] x (ri F) := by
  have k0 : (0 : Int32).toInt = 0 := rfl
  have k1 : (1 : Int32).toInt = 1 := rfl
  have k8 : (8 : Int32).toInt = 8 := rfl
  have k3 : (3000 : Int32).toInt = 3000 := rfl
  obtain ⟨g1, g2, g3, g4, g5, g6⟩ := id g
  have loop : okF x n → ∀ (m : Nat) (y : gd) (i : Int32), FBm x b i.toNatClampNeg y → md [0, 2] [2] x y → y.1 0 0 = 0 → y.1 0 2 = x.1 0 2 + i → 0 ≤ i.toInt → i.toInt ≤ n.toInt → n.toInt - i.toInt ≤ m → MT G (d + 1) z_feed 45 [(0, vr 0), (1, vi n), (2, vl b), (4, vi i)] [] y (ri F) := by
    intro ok
    obtain ⟨o1, o2, o3⟩ := id ok
    have last : ∀ (y : gd) (i : Int32), FBm x b i.toNatClampNeg y → md [0, 2] [2] x y → y.1 0 0 = 0 → y.1 0 2 = x.1 0 2 + i → i.toInt ≤ n.toInt → n.toInt ≤ i.toInt → 0 ≤ i.toInt → MT G d z_forget 0 [(0, vr 0)] [] y (rv (fun x2 => ri F (some (vi (x2.1 0 2))) x2)) := by
      intro y i fb my y0 y2 i1 i2 i0
      have en : i = n := t_eq.mpr (by omega)
      have q : (x.1 0 2 + n).toInt = (x.1 0 2).toInt + n.toInt := t_add (by omega) (by omega)
      rw [en] at y2 fb
      refine sp_forget (fun z hz => ?_)
      have gy : G0 y := ⟨by rw [y2, q]; omega, by rw [y2, q]; omega, TK_md my (by decide) (by decide) (by decide) g3, by rw [my.1 10 (by decide)]; exact g4, by rw [my.1 42 (by decide)]; exact g5, oA_md my (by decide) g6⟩
      have z2 : z.1 0 2 = x.1 0 2 + n := by rw [hz.1.1 2 (by decide), y2]
      rw [z2]
      exact ri_i (h1 ok z (wG_f gy hz) (by rw [hz.1.1 0 (by decide)]; exact y0) ⟨z2, by unfold FBm; rw [hz.1.2.1 2 (by decide) (by decide)]; exact fb⟩)
    intro m
    induction m with
    | zero =>
      intro y i fb my y0 y2 i0 i1 hi
      exact sg_feed_45 _ _ _ ⟨fun _ => last y i fb my y0 y2 i1 (by omega) i0, fun c => absurd (t_le.mpr (by omega)) c⟩
    | succ m ih =>
      intro y i fb my y0 y2 i0 i1 hi
      have q : (x.1 0 2 + i).toInt = (x.1 0 2).toInt + i.toInt := t_add (by omega) (by omega)
      refine sg_feed_45 _ _ _ ⟨fun c => last y i fb my y0 y2 i1 (t_le.mp c) i0, fun c => ?_⟩
      rw [t_le] at c
      refine ⟨by rw [y2, vp_in_iff, q]; omega, fun y4 e4 y5 e5 => ?_⟩
      have m4 := md_a y 2 (y.1 0 2).toNatClampNeg (vp_nar .byte (((b >>> ((8 * i : Int32).toInt64 &&& 63 : Int64) : Int64).toInt32 : Int32).toInt8.toInt32)) (by decide)
      rw [← e4] at m4
      have m5 := md_f y4 2 (y4.1 0 2 + 1)
      rw [← e5] at m5
      have i2 : (i + 1).toInt = i.toInt + 1 := by rw [t_add (by omega) (by omega), k1]
      have ux := t_cl (x.1 0 2)
      have uy := t_cl (y.1 0 2)
      have ui := t_cl i
      have ui1 := t_cl (i + 1)
      rw [y2, q] at uy
      have fb5 : FBm x b (i + 1).toNatClampNeg y5 := by
        refine ⟨fun p hp => ?_, fun j hj => ?_⟩
        · rw [m5.2.1 2 (by decide) (by decide), e4, si_get, if_neg (fun z => ?_)]
          · exact fb.1 p hp
          · have := z.2
            rw [y2] at this
            omega
        · rw [m5.2.1 2 (by decide) (by decide), e4, si_get]
          by_cases cj : j = i.toNatClampNeg
          · rw [if_pos ⟨rfl, by rw [cj, y2]; omega⟩]
            have ek : i = Int32.ofNat j := by
              rw [t_eq, cj]
              exact (by omega : i.toInt = ((i.toNatClampNeg : Nat) : Int)).trans (Int32.toInt_ofNat_of_lt (by omega)).symm
            rw [ek]
            rfl
          · rw [if_neg (fun z => cj (by have := z.2; rw [y2] at this; omega))]
            exact fb.2 j (by omega)
      refine ih y5 (i + 1) fb5 (md_tr (md_tr (L3 := [0, 2]) (A3 := [2]) my m4 rfl rfl) m5 rfl rfl) (by rw [m5.1 0 (by decide), m4.1 0 (by decide)]; exact y0) ?_ (by omega) (by omega) (by omega)
      rw [e5, si_get, if_pos ⟨rfl, rfl⟩, m4.1 2 (by decide), y2]
      have q2 : (x.1 0 2 + i + 1).toInt = (x.1 0 2).toInt + i.toInt + 1 := by rw [t_add (by omega) (by omega), q, k1]
      have q3 : (x.1 0 2 + (i + 1)).toInt = (x.1 0 2).toInt + (i.toInt + 1) := by rw [t_add (by omega) (by omega), i2]
      exact t_eq.mpr (by omega)
  refine sg_feed_0 _ _ (fun x1 e1 => ?_)
  have m1 := md_f x 0 0
  rw [← e1] at m1
  have z0 : x1.1 0 0 = 0 := by rw [e1, si_get, if_pos ⟨rfl, rfl⟩]
  have z2 : x1.1 0 2 = x.1 0 2 := m1.1 2 (by decide)
  have p33 : ∀ s0 : Int32, (s0 = 0 → okF x n) → (¬ s0 = 0 → ¬ okF x n) → MT G (d + 1) z_feed 33 [(0, vr 0), (1, vi n), (2, vl b)] [vi s0, vr 0] x1 (ri F) := by
    intro s0 q0 q1
    refine sg_feed_33 _ _ _ (sp_refuses _ _ z0 (by decide) (fun c => ⟨fun _ => ?_, fun q => absurd rfl q⟩) (fun c => ⟨fun q => absurd q (by decide), fun _ => ?_⟩))
    · exact loop (q0 c) _ x1 0 ⟨fun p hp => by rw [m1.2.1 2 (by decide) (by decide)], fun j hj => absurd hj (Nat.not_lt_zero _)⟩ (md_w m1 (by decide) (by decide)) z0 (by rw [z2]; exact t_eq.mpr (by rw [t_add (by rw [k0]; omega) (by rw [k0]; omega), k0]; omega)) (by decide) (by have := (q0 c).1; rw [k0]; omega) (Int.self_le_toNat _)
    · have m2 := md_f x1 0 1
      exact ri_i (h0 (q1 c) _ (md_tr m1 m2 rfl rfl) (by rw [si_get, if_pos ⟨rfl, rfl⟩]))
  refine sp_in _ _ _ ⟨fun c => p33 1 (fun q => absurd q (by decide)) (fun _ q => ?_), fun c => ⟨fun c2 => p33 0 (fun _ => ?_) (fun q => absurd rfl q), fun c2 => p33 1 (fun q => absurd q (by decide)) (fun _ q => ?_)⟩⟩
  · refine bi_eq.mp c ⟨t_le.mpr ?_, t_le.mpr ?_⟩
    · rw [k1]; exact q.1
    · rw [k8]; exact q.2.1
  · obtain ⟨q1, q2⟩ := bi_ne.mp c
    rw [t_le, k1] at q1
    rw [t_le, k8] at q2
    rw [t_le, z2, k3, t_add (by omega) (by omega)] at c2
    exact ⟨q1, q2, c2⟩
  · obtain ⟨q1, q2⟩ := bi_ne.mp c
    rw [t_le, k1] at q1
    rw [t_le, k8] at q2
    rw [t_le, z2, k3, t_add (by omega) (by omega)] at c2
    exact c2 q.2.2
end SPC
end
section
/-! compile: whether a text is compiled, and how many of each it has -/
def MCf (x x' : gd) : Prop := ∃ (y : gd) (e : Nat), TSq (tby x) (tln x) e (y.1 5) (tP y) (tZ y) (y.1 7) ∧ y.1 2 = x.1 2 ∧ x'.1 2 = x.1 2 ∧ TK y ∧ ((∃ n j L, pAl (y.1 5) (y.1 7) 701 (0, 0, 0, 0, 0) 0 [] = some (n, j, L) ∧ ¬ jFl (smB y) (y.1 5) (y.1 7) L ∧ x'.1 0 66 = 1 ∧ cn x' = n ∧ MCo (smB y) (y.1 7) (y.1 5) L x') ∨ ((∀ n j L, pAl (y.1 5) (y.1 7) 701 (0, 0, 0, 0, 0) 0 [] = some (n, j, L) → jFl (smB y) (y.1 5) (y.1 7) L) ∧ x'.1 0 66 = 0 ∧ z5 x'))
theorem sf_compile {G : mG} {x : gd} {F : Int32 → gd → Prop} {D : Nat} (hD : 760 ≤ D) (g : G0 x) (h : ∀ r x', cG x x' → MCf x x' → F r x') : MT G D z_compile 0 [(0, vr 0)] [] x (ri F) := by
  obtain ⟨D, rfl⟩ : ∃ D', D = D' + 9 := ⟨D - 9, by omega⟩
  have k0 : (0 : Int32).toInt = 0 := rfl
  -- the state of the fields that stay
  let K : gd → Prop := fun y => y.1 0 2 = x.1 0 2 ∧ y.1 0 66 = 0 ∧ y.1 0 67 = 0 ∧ (y.1 119 0 = 0 ∧ y.1 119 1 = 0) ∧ oA y
  have Kmd : ∀ {L A : List Nat} {y z : gd}, md L A y z → [2, 66, 67].all (fun k => !L.elem k) = true → [119, 118].all (fun k => !A.elem k) = true → K y → K z := by
    intro L A y z m hL hA q
    have f := fun k hk => m.1 k (all_no hL k hk)
    have a := m.2.1 119 (by decide) (all_no hA 119 (by decide))
    show z.1 0 2 = x.1 0 2 ∧ z.1 0 66 = 0 ∧ z.1 0 67 = 0 ∧ (z.1 119 0 = 0 ∧ z.1 119 1 = 0) ∧ oA z
    rw [f 2 (by decide), f 66 (by decide), f 67 (by decide), a]
    exact ⟨q.1, q.2.1, q.2.2.1, q.2.2.2.1, oA_md m (all_no hA 118 (by decide)) q.2.2.2.2⟩
  have p96 : ∀ y : gd, K y → G0 y → ((y.1 0 9).toInt ≤ 0 → CP y) → (∀ x' : gd, ((y.1 0 9).toInt ≤ 0 → x'.1 0 66 = 1 → cn x' = cn y → x'.1 2 = y.1 2 → md [66] [] y x' → MCf x x') ∧ (¬ (y.1 0 9).toInt ≤ 0 → x'.1 0 66 = 0 → z5 x' → x'.1 2 = y.1 2 → MCf x x')) → MT G (D + 9) z_compile 96 [(0, vr 0)] [] y (ri F) := by
    intro y ky gy cy hM
    refine sg_compile_96 ⟨fun c y2 e2 => ri_i (h _ y2 ?_ ?_), fun c y3 e3 => ?_⟩
    rotate_left
    · rw [t_le, k0] at c
      have m := md_f y 66 1
      rw [← e2] at m
      refine (hM y2).1 c (by rw [e2, si_get, if_pos ⟨rfl, rfl⟩]) ?_ (m.2.1 2 (by decide) (by decide)) m
      unfold cn
      rw [m.1 23 (by decide), m.1 24 (by decide), m.1 25 (by decide), m.1 26 (by decide), m.1 27 (by decide)]
    rotate_left
    · rw [t_le, k0] at c
      have m := md_f y 66 1
      rw [← e2] at m
      refine ⟨G0_md m rfl rfl gy, by rw [m.1 2 (by decide)]; exact ky.1, fun _ => CP_md m rfl rfl (cy c), by rw [m.1 67 (by decide)]; exact ky.2.2.1, ?_, ?_⟩
      · rw [m.2.1 119 (by decide) (by decide)]; exact ky.2.2.2.1.1
      · rw [m.2.1 119 (by decide) (by decide)]; exact ky.2.2.2.1.2
    · have m := md_f y 11 (y.1 0 10)
      rw [← e3] at m
      have g3 : G0 y3 := G0_md m rfl rfl gy
      rw [t_le, k0] at c
      refine sp_lineOf _ g3.2.2.2.1 (fun r y6 e6 => sp_forget (fun z hz => ri_i (h _ z ?_ ((hM z).2 c hz.2.1 ⟨hz.2.2.2.1, hz.2.2.2.2.1, hz.2.2.2.2.2.1, hz.2.2.2.2.2.2.1, hz.2.2.2.2.2.2.2.1⟩ ?_))))
      rotate_left
      · have mm6 := md_f y3 12 r
        rw [← e6] at mm6
        rw [hz.1.2.1 2 (by decide) (by decide), mm6.2.1 2 (by decide) (by decide), m.2.1 2 (by decide) (by decide)]
      have m6 := md_f y3 12 r
      rw [← e6] at m6
      have g6 : G0 y6 := G0_md m6 rfl rfl g3
      refine ⟨G0_md hz.1 rfl rfl g6, by rw [hz.1.1 2 (by decide), m6.1 2 (by decide), m.1 2 (by decide)]; exact ky.1, fun q => absurd hz.2.1 q, hz.2.2.1, hz.2.2.2.2.2.2.2.2.1, hz.2.2.2.2.2.2.2.2.2⟩
  have p69 : ∀ y : gd, K y → (y.1 0 42).toInt ≤ 3000 → 0 ≤ (y.1 0 2).toInt → (y.1 0 2).toInt ≤ 3000 → PN y → ((y.1 0 9).toInt = 0 → PG y) → y.1 0 47 = 0 → ∀ x10 : gd, (∃ e, TSq (tby x) (tln x) e (x10.1 5) (tP x10) (tZ x10) (x10.1 7)) → x10.1 2 = x.1 2 → y.1 2 = x10.1 2 → TK x10 → smB y = smB x10 → y.1 5 = x10.1 5 → y.1 7 = x10.1 7 → FA x10 y → MT G (D + 9) z_compile 69 [(0, vr 0)] [] y (ri F) := by
    intro y ky hy s0 s1 pn pg y47 x10 ts x2 yx2 tk10 esm e5 e7 fa
    obtain ⟨e0, ts⟩ := ts
    obtain ⟨Ds, fa1, fa2⟩ := fa
    have gy : G0 y := ⟨s0, s1, pn.2.2.2.1, pn.2.2.2.2, hy, ky.2.2.2.2⟩
    have p9 := pn.2.2.1
    refine sg_compile_69 ⟨fun c => p96 y ky gy (fun q => ?_) (fun x' => ⟨fun q => ?_, fun q q1 q2 q3 => ⟨x10, e0, ts, x2, by rw [q3, yx2, x2], tk10, Or.inr ⟨fun n j L e => ?_, q1, q2⟩⟩⟩), fun c => sf_judge (by omega) pn (pg (by rw [c, k0])) hy (fa2 (by rw [c, k0])).1 (fa2 (by rw [c, k0])).2 y47 (fun y2 m2 w2 c2 hwr hcd y3 e3 y4 e4 => ?_)⟩
    · exact absurd (t_eq.mpr (by rw [k0]; omega)) c
    · exact absurd (t_eq.mpr (by rw [k0]; omega)) c
    · rw [fa1, nwo_b (by omega)] at e
      exact absurd e (by simp)
    · have m3 := md_f y2 9 (y2.1 0 41)
      rw [← e3] at m3
      have m4 := md_f y3 10 (y3.1 0 42)
      rw [← e4] at m4
      have m34 : md [9, 10] [] y2 y4 := md_tr m3 m4 rfl rfl
      have y9 : y4.1 0 9 = y2.1 0 41 := by rw [m4.1 9 (by decide), e3, si_get, if_pos ⟨rfl, rfl⟩]
      have c4 : cn y4 = cn y := by
        unfold cn
        rw [m34.1 23 (by decide), m34.1 24 (by decide), m34.1 25 (by decide), m34.1 26 (by decide), m34.1 27 (by decide), m2.1 23 (by decide), m2.1 24 (by decide), m2.1 25 (by decide), m2.1 26 (by decide), m2.1 27 (by decide)]
      have y42 : y4.1 2 = y.1 2 := by rw [m34.2.1 2 (by decide) (by decide), m2.2.1 2 (by decide) (by decide)]
      have bz : (y.1 0 9).toInt = 0 := by rw [c, k0]
      have hfl := jF_flat (sN := smB y) (K := y.1 5) (V := y.1 7) (PV_shp (fa2 bz).1)
      rw [hfl, esm, e5, e7] at hwr
      have hmco : ¬ wr y2 → MCo (smB x10) (x10.1 7) (x10.1 5) Ds.flatten y4 := fun nw => by
        have a := MCo_of (fa2 bz).1 (fa2 bz).2 (m2.1 23 (by decide)) (m2.1 25 (by decide)) (m2.2.1 36 (by decide) (by decide)) (m2.2.1 37 (by decide) (by decide)) (m2.2.1 38 (by decide) (by decide)) (hcd nw)
        rw [esm, e5, e7] at a
        exact MCo_md m34 rfl rfl a
      rw [nwo_o bz] at fa1
      have w0 := w2.1
      have key : (y4.1 0 9).toInt ≤ 0 ↔ ¬ wr y2 := by
        rw [y9]
        refine ⟨fun q z => z (t_eq.mpr (by rw [k0]; omega)), fun q => ?_⟩
        by_cases z : y2.1 0 41 = 0
        · rw [z]; decide
        · exact absurd z q
      refine p96 y4 (Kmd m34 rfl rfl (Kmd m2 rfl rfl ky)) ⟨?_, ?_, ?_, ?_, ?_, (Kmd m34 rfl rfl (Kmd m2 rfl rfl ky)).2.2.2.2⟩ (fun _ => CP_md m34 rfl rfl c2) (fun x' => ⟨fun q q1 q2 q3 q4 => ⟨x10, e0, ts, x2, by rw [q3, y42, yx2, x2], tk10, Or.inl ⟨cn y, _, _, fa1, fun z => key.mp q (hwr.mpr z), q1, by rw [q2, c4], MCo_md q4 rfl rfl (hmco (key.mp q))⟩⟩, fun q q1 q2 q3 => ⟨x10, e0, ts, x2, by rw [q3, y42, yx2, x2], tk10, Or.inr ⟨fun n j L e => ?_, q1, q2⟩⟩⟩)
      rotate_right
      · rw [fa1] at e
        have e3' : Ds.flatten = L := congrArg (fun q : gN × Nat × gU => q.2.2) (Option.some.inj e)
        rw [← e3']
        have z : ¬ ¬ wr y2 := fun z => q (key.mpr z)
        exact hwr.mp (Classical.not_not.mp z)
      · rw [m34.1 2 (by decide), m2.1 2 (by decide)]; exact s0
      · rw [m34.1 2 (by decide), m2.1 2 (by decide)]; exact s1
      · exact TK_md m34 (by decide) (by decide) (by decide) (TK_md m2 (by decide) (by decide) (by decide) gy.2.2.1)
      · rw [e4, si_get, if_pos ⟨rfl, rfl⟩, m3.1 42 (by decide)]; exact w2.2
      · rw [m34.1 42 (by decide)]; exact w2.2
  refine sg_compile_0 (fun x1 e1 => sp_forget (fun x2 h2 x3 e3 x4 e4 => ?_))
  have m1 := md_f x 0 0
  rw [← e1] at m1
  have m3 := md_f x2 11 (-1)
  rw [← e3] at m3
  have m4 := md_f x3 12 (-1)
  rw [← e4] at m4
  have m12 : md [0, 23, 24, 25, 26, 27, 66, 67] [119] x x2 := md_tr m1 h2.1 rfl rfl
  have m24 : md [11, 12] [] x2 x4 := md_tr m3 m4 rfl rfl
  have m14 : md [0, 23, 24, 25, 26, 27, 66, 67, 11, 12] [119] x x4 := md_tr m12 m24 rfl rfl
  have g4 : G0 x4 := G0_md m14 rfl rfl g
  have k2 : K x2 := ⟨by rw [m12.1 2 (by decide)], h2.2.1, h2.2.2.1, ⟨h2.2.2.2.2.2.2.2.2.1, h2.2.2.2.2.2.2.2.2.2⟩, oA_md m12 (by decide) g.2.2.2.2.2⟩
  refine sf_readTokens g4.2.2.1 g4.1 g4.2.1 (fun x5 t5 m5 ts5 x6 e6 x7 e7 x8 e8 x9 e9 x10 e10 => ?_)
  have m6 := md_f x5 8 0
  rw [← e6] at m6
  have m7 := md_f x6 9 0
  rw [← e7] at m7
  have m8 := md_f x7 28 0
  rw [← e8] at m8
  have m9 := md_f x8 13 0
  rw [← e9] at m9
  have m10 := md_f x9 47 0
  rw [← e10] at m10
  have m510 : md [8, 9, 28, 13, 47] [] x5 x10 := md_tr (md_tr (L3 := [8, 9, 28, 13]) (A3 := []) (md_tr (L3 := [8, 9, 28]) (A3 := []) (md_tr (L3 := [8, 9]) (A3 := []) m6 m7 rfl rfl) m8 rfl rfl) m9 rfl rfl) m10 rfl rfl
  have f8 : x10.1 0 8 = 0 := by rw [m10.1 8 (by decide), m9.1 8 (by decide), m8.1 8 (by decide), m7.1 8 (by decide), e6, si_get, if_pos ⟨rfl, rfl⟩]
  have f9 : x10.1 0 9 = 0 := by rw [m10.1 9 (by decide), m9.1 9 (by decide), m8.1 9 (by decide), e7, si_get, if_pos ⟨rfl, rfl⟩]
  have f28 : x10.1 0 28 = 0 := by rw [m10.1 28 (by decide), m9.1 28 (by decide), e8, si_get, if_pos ⟨rfl, rfl⟩]
  have f13 : x10.1 0 13 = 0 := by rw [m10.1 13 (by decide), e9, si_get, if_pos ⟨rfl, rfl⟩]
  have m210 : md [11, 12, 3, 8, 9, 28, 13, 47] [5, 6, 7, 8] x2 x10 := md_tr (md_tr (L3 := [11, 12, 3]) (A3 := [5, 6, 7, 8]) m24 m5 rfl rfl) m510 rfl rfl
  have f23 : x10.1 0 23 = 0 := by rw [m210.1 23 (by decide)]; exact h2.2.2.2.1
  have f24 : x10.1 0 24 = 0 := by rw [m210.1 24 (by decide)]; exact h2.2.2.2.2.1
  have f25 : x10.1 0 25 = 0 := by rw [m210.1 25 (by decide)]; exact h2.2.2.2.2.2.1
  have f26 : x10.1 0 26 = 0 := by rw [m210.1 26 (by decide)]; exact h2.2.2.2.2.2.2.1
  have f27 : x10.1 0 27 = 0 := by rw [m210.1 27 (by decide)]; exact h2.2.2.2.2.2.2.2.1
  have k10 : K x10 := Kmd m210 rfl rfl k2
  have m410 : md [3, 8, 9, 28, 13, 47] [5, 6, 7, 8] x4 x10 := md_tr m5 m510 rfl rfl
  have t10 : TK x10 := TK_md m510 (by decide) (by decide) (by decide) t5
  have pn : PN x10 := ⟨by rw [f8]; decide, by rw [f8]; decide, by rw [f9]; decide, t10, by rw [m410.1 10 (by decide)]; exact g4.2.2.2.1⟩
  have pg : PG x10 := by
    refine ⟨by rw [f13]; decide, ?_, ?_, fun j hj => ?_, fun _ => 0, fun _ => 0, fun _ => 0, fun t ht => ?_, fun t ht => ?_, fun t ht => ?_, ?_⟩
    · unfold cr
      rw [f8, f13]; decide
    · unfold GB
      rw [f23, f24, f25, f26, f27, f28]; decide
    · rw [f28, k0] at hj; omega
    · rw [f25, k0] at ht; omega
    · rw [f26, k0] at ht; omega
    · rw [f27, k0] at ht; omega
    · rw [f25, f26, f27, f8]; decide
  have g10 : (x10.1 0 42).toInt ≤ 3000 ∧ 0 ≤ (x10.1 0 2).toInt ∧ (x10.1 0 2).toInt ≤ 3000 := by
    rw [m410.1 42 (by decide), m410.1 2 (by decide)]
    exact ⟨g4.2.2.2.2.1, g4.1, g4.2.1⟩
  have f47 : x10.1 0 47 = 0 := by rw [e10, si_get, if_pos ⟨rfl, rfl⟩]
  have b10 : (x10.1 0 9).toInt = 0 := by rw [f9]; rfl
  have cn10 : cn x10 = (0, 0, 0, 0, 0) := by
    unfold cn
    rw [f23, f24, f25, f26, f27]
    rfl
  have a14 : ∀ c : Nat, c ≠ 0 → c ≠ 119 → x4.1 c = x.1 c := fun c h0 h1 => m14.2.1 c h0 (by intro q; exact h1 (List.mem_singleton.mp q))
  have tb : tby x4 = tby x := by funext p; unfold tby; rw [a14 2 (by decide) (by decide)]
  have tl : tln x4 = tln x := by unfold tln; rw [m14.1 2 (by decide)]
  have ts10 : ∃ e, TSq (tby x) (tln x) e (x10.1 5) (tP x10) (tZ x10) (x10.1 7) := by
    obtain ⟨e0, ts⟩ := ts5
    rw [tb, tl] at ts
    refine ⟨e0, ?_⟩
    have q5 := m510.2.1 5 (by decide) (by decide)
    have q7 := m510.2.1 7 (by decide) (by decide)
    have qP : tP x10 = tP x5 := by funext j; show (x10.1 6 j).toNatClampNeg = _; rw [m510.2.1 6 (by decide) (by decide)]
    have qZ : tZ x10 = tZ x5 := by funext j; show (x10.1 8 j).toNatClampNeg = _; rw [m510.2.1 8 (by decide) (by decide)]
    rw [q5, q7, qP, qZ]
    exact ts
  have x2' : x10.1 2 = x.1 2 := by rw [m410.2.1 2 (by decide) (by decide)]; exact a14 2 (by decide) (by decide)
  refine sf_defs (by omega) pn pg b10 f8 cn10 f28 (fun z mz pz pgz fa => ?_)
  have mz' : md [8, 9, 10, 13, 20, 21, 23, 24, 25, 26, 27, 28] [15, 16, 17, 18, 19, 20, 30, 31, 32, 33, 34, 35, 36, 37, 38, 39, 40, 41] x10 z := mz
  exact p69 z (Kmd mz' rfl rfl k10) (by rw [mz'.1 42 (by decide)]; exact g10.1) (by rw [mz'.1 2 (by decide)]; exact g10.2.1) (by rw [mz'.1 2 (by decide)]; exact g10.2.2) pz pgz (by rw [mz'.1 47 (by decide)]; exact f47) x10 ts10 x2' (mz'.2.1 2 (by decide) (by decide)) t10 (smB_e (mz'.2.1 2 (by decide) (by decide)) (mz'.2.1 6 (by decide) (by decide)) (mz'.2.1 8 (by decide) (by decide))) (mz'.2.1 5 (by decide) (by decide)) (mz'.2.1 7 (by decide) (by decide)) fa
end
