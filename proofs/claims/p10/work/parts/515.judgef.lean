/-! the judge: when it finds something wrong -/
/-- a told name that is told already, or a row of a wrong whole -/
def jF (sN : Nat → Nat → Bool) (V : Nat → Int32) (T : gTd) (Ts As Fs : List gU) : Prop := ((jT sN V T ∨ ∃ N ∈ Ts, flt sN T V N E0v) ∨ ∃ N ∈ As, flt sN T V N E0v) ∨ ∃ N ∈ Fs, flt sN T V N E0v
def exL (L : List gU) (P : gU → Prop) (n : Nat) : Prop := ∃ (t : Nat) (N : gU), t < n ∧ L[t]? = some N ∧ P N
def exQ (T : gTd) (P : Nat → Nat × Nat × Nat × Nat → Prop) (n : Nat) : Prop := ∃ j q, j < n ∧ T[j]? = some q ∧ P j q
def wrI (y : gd) (X : Prop) : Prop := wr y ↔ X
theorem ex_all {L : List gU} {P : gU → Prop} {n : Nat} (h : L.length ≤ n) : exL L P n ↔ ∃ N ∈ L, P N := by
  refine ⟨fun ⟨t, N, _, a, b⟩ => ⟨N, List.mem_of_getElem? a, b⟩, fun ⟨N, a, b⟩ => ?_⟩
  obtain ⟨t, ht, e⟩ := List.getElem_of_mem a
  exact ⟨t, N, by omega, by rw [List.getElem?_eq_getElem ht, e], b⟩
theorem ex_up {L : List gU} {P : gU → Prop} {n : Nat} {N0 : gU} (h : L[n]? = some N0) : exL L P (n + 1) ↔ exL L P n ∨ P N0 := by
  refine ⟨fun ⟨t, N, a1, a2, a3⟩ => ?_, fun z => z.elim (fun ⟨t, N, a1, a⟩ => ⟨t, N, by omega, a⟩) (fun a => ⟨n, N0, Nat.lt_succ_self _, h, a⟩)⟩
  by_cases c : t = n
  · rw [c, h] at a2
    cases Option.some.inj a2
    exact Or.inr a3
  · exact Or.inl ⟨t, N, by omega, a2, a3⟩
/-- the model's code, as the chunks of the text say it -/
def MCd (sN : Nat → Nat → Bool) (T : gTd) (V K : Nat → Int32) (Ts As Fs : List gU) (x : gd) : Prop := (SR sN T V K x (stTs sN K Ts) ∧ (∀ i N, Ts[i]? = some N → okT sN K (stTs sN K (Ts.take i)) N) ∧ ∀ t : Nat, t < Ts.length → (x.1 64 t).toInt = (stTs sN K (Ts.take t)).length) ∧ (∀ k N, As[k]? = some N → SUm x (x.1 65 k) (nPs sN T V K [] N)) ∧ ∀ k N, Fs[k]? = some N → SUm x (x.1 66 k) (nPs sN T V K [] N)
theorem sf_judge {G : mG} {D : Nat} {x : gd} {Fv : gd → Prop} {Ds : List gU} (hD : 750 ≤ D) (pn : PN x) (pg : PG x) (wp : (x.1 0 42).toInt ≤ 3000) (pv : PV x Ds) (pn5 : PN5 x Ds) (h47 : x.1 0 47 = 0) (h : ∀ x', md lL jA x x' → WB x' → CP x' → (wr x' ↔ jF (smB x) (x.1 7) (Ds.filterMap (te (x.1 5) (x.1 7))) (Ds.filterMap (bN 34)) (Ds.filterMap (bN 35)) (Ds.filterMap (bN 36))) → (¬ wr x' → MCd (smB x) (Ds.filterMap (te (x.1 5) (x.1 7))) (x.1 7) (x.1 5) (Ds.filterMap (bN 34)) (Ds.filterMap (bN 35)) (Ds.filterMap (bN 36)) x') → Fv x') : MT G D z_judge 0 [(0, vr 0)] [] x (rv Fv) := by
  obtain ⟨D, rfl⟩ : ∃ D', D = D' + 3 := ⟨D - 3, by omega⟩
  have k0 : (0 : Int32).toInt = 0 := rfl
  have k1 : (1 : Int32).toInt = 1 := rfl
  obtain ⟨n0, c0, gb, tee, S, A, B, pS, pA', pB, pt⟩ := id pg
  have hnow := pn.2.1
  have nd : (x.1 0 13).toInt ≤ 3000 := by unfold cr at c0; omega
  have lb : LB x := ⟨pn.2.2.2.1, gb, tee⟩
  obtain ⟨gb1, gb2, gb3, gb4, gb5, gb6, gb7, gb8, gb9, gb10, gb11, gb12⟩ := id gb
  have tS := fun t ht => tot_le S (x.1 0 25).toNatClampNeg t ht
  have tA' := fun t ht => tot_le A (x.1 0 26).toNatClampNeg t ht
  have tB := fun t ht => tot_le B (x.1 0 27).toNatClampNeg t ht
  have c25 := t_cl (x.1 0 25)
  have c26 := t_cl (x.1 0 26)
  have c27 := t_cl (x.1 0 27)
  obtain ⟨T, eT⟩ : ∃ T, T = Ds.filterMap (te (x.1 5) (x.1 7)) := ⟨_, rfl⟩
  obtain ⟨Ts, eTs⟩ : ∃ Ts, Ts = Ds.filterMap (bN 34) := ⟨_, rfl⟩
  obtain ⟨As, eAs⟩ : ∃ As, As = Ds.filterMap (bN 35) := ⟨_, rfl⟩
  obtain ⟨Fs, eFs⟩ : ∃ Fs, Fs = Ds.filterMap (bN 36) := ⟨_, rfl⟩
  obtain ⟨⟨tr0, ⟨bl, bt⟩, ⟨al, at'⟩, ⟨fl, ft⟩⟩, -⟩ := pv
  have pnn := pn5.1.1
  rw [← eT] at tr0 pnn
  have tr : TRd x T := ⟨tr0.1, tr0.2, pnn⟩
  rw [← eTs] at bl bt
  rw [← eAs] at al at'
  rw [← eFs] at fl ft
  rw [← eT, ← eTs, ← eAs, ← eFs] at h
  obtain ⟨sN, esN⟩ : ∃ sN, sN = smB x := ⟨_, rfl⟩
  obtain ⟨V, eV⟩ : ∃ V, V = x.1 7 := ⟨_, rfl⟩
  obtain ⟨K, eK⟩ : ∃ K, K = x.1 5 := ⟨_, rfl⟩
  rw [← esN, ← eV, ← eK] at h
  have ctx : CT sN T V K x := ⟨esN.symm, eV.symm, tr, eK.symm⟩
  have cty : ∀ {y : gd}, md lL jA x y → CT sN T V K y := fun m => CT_md m (by decide) rfl ctx
  have ex0 : ∀ {L : List gU} {P : gU → Prop}, ¬ exL L (fun N => P N) ((0 : Int32).toNatClampNeg) := fun ⟨t, N, a, _⟩ => absurd a (Nat.not_lt_zero _)
  have fdone : ∀ i : Int32, (x.1 0 27).toInt ≤ i.toInt → ((((jT sN V T ∨ ∃ N ∈ Ts, flt sN T V N E0v) ∨ ∃ N ∈ As, flt sN T V N E0v) ∨ exL Fs (fun N => flt sN T V N E0v) (i.toNatClampNeg)) ↔ jF sN V T Ts As Fs) := by
    intro i hi
    have u := t_cl i
    rw [ex_all (by rw [fl]; omega)]
    exact Iff.rfl
  obtain ⟨JC, hJC⟩ : ∃ JC : gd → Nat → Prop, ∀ y i, JC y i ↔ (SR sN T V K y (stTs sN K (Ts.take i)) ∧ (∀ j N, j < i → Ts[j]? = some N → okT sN K (stTs sN K (Ts.take j)) N) ∧ ∀ t : Nat, t < i → (y.1 64 t).toInt = (stTs sN K (Ts.take t)).length) := ⟨_, fun _ _ => Iff.rfl⟩
  obtain ⟨JA, hJA⟩ : ∃ JA : gd → Nat → Prop, ∀ y i, JA y i ↔ ∀ k N, k < i → As[k]? = some N → SUm y (y.1 65 k) (nPs sN T V K [] N) := ⟨_, fun _ _ => Iff.rfl⟩
  obtain ⟨JF, hJF⟩ : ∃ JF : gd → Nat → Prop, ∀ y i, JF y i ↔ ∀ k N, k < i → Fs[k]? = some N → SUm y (y.1 66 k) (nPs sN T V K [] N) := ⟨_, fun _ _ => Iff.rfl⟩
  have JC_wk : ∀ {y z : gd} {o r : Int32} {s i : Nat}, LW o s y r z → JC y i → JC z i := fun {y z o r s i} lw q => by
    obtain ⟨q1, q2, q3⟩ := (hJC _ _).mp q
    exact (hJC _ _).mpr ⟨SR_keep (LF_wk lw) q1, q2, fun t ht => by rw [lw.1.2.1 64 (by decide) (by decide)]; exact q3 t ht⟩
  have JC_md : ∀ {L A : List Nat} {y z : gd} {i : Nat}, md L A y z → [49, 52].all (fun k => !L.elem k) = true → [51, 52, 54, 55, 56, 57, 58, 59, 60, 61, 62].all (fun k => !A.elem k) = true → 64 ∉ A → JC y i → JC z i := fun {L A y z i} m hL hA h64 q => by
    obtain ⟨q1, q2, q3⟩ := (hJC _ _).mp q
    exact (hJC _ _).mpr ⟨SR_md m hL hA q1, q2, fun t ht => by rw [m.2.1 64 (by decide) h64]; exact q3 t ht⟩
  have JA_wk : ∀ {y z : gd} {o r : Int32} {s i : Nat}, LW o s y r z → JA y i → JA z i := fun {y z o r s i} lw q => (hJA _ _).mpr (fun k N hk hN => by
    rw [lw.1.2.1 65 (by decide) (by decide)]
    exact SUm_keep lw.2.2.2.1 lw.2.2.1 ((hJA _ _).mp q k N hk hN))
  have JF_wk : ∀ {y z : gd} {o r : Int32} {s i : Nat}, LW o s y r z → JF y i → JF z i := fun {y z o r s i} lw q => (hJF _ _).mpr (fun k N hk hN => by
    rw [lw.1.2.1 66 (by decide) (by decide)]
    exact SUm_keep lw.2.2.2.1 lw.2.2.1 ((hJF _ _).mp q k N hk hN))
  have fin9 : ∀ (y : gd) (i : Int32), (x.1 0 27).toInt ≤ i.toInt → (¬ wr y → JC y (x.1 0 25).toNatClampNeg ∧ JA y (x.1 0 26).toNatClampNeg ∧ JF y i.toNatClampNeg) → ¬ wr y → MCd sN T V K Ts As Fs y := fun y i hi q nw => by
    obtain ⟨q1, q2, q3⟩ := q nw
    obtain ⟨q1a, q1b, q1c⟩ := (hJC _ _).mp q1
    have u := t_cl i
    rw [← bl, List.take_length] at q1a
    rw [← bl] at q1b q1c
    exact ⟨⟨q1a, fun j N hN => q1b j N (gt_lt hN) hN, q1c⟩, fun k N hN => (hJA _ _).mp q2 k N (by rw [← al]; exact gt_lt hN) hN, fun k N hN => (hJF _ _).mp q3 k N (by have := gt_lt hN; rw [fl] at this; omega) hN⟩
  -- finals
  have p185 : ∀ (n : Nat) (y : gd) (i : Int32), md lL jA x y → WB y → 0 ≤ i.toInt → i.toInt ≤ (x.1 0 27).toInt → (x.1 0 27).toInt - i.toInt ≤ n → JS y (x.1 0 25).toNatClampNeg 700 (2 * tot S (x.1 0 25).toNatClampNeg + 2 * tot A (x.1 0 26).toNatClampNeg + 2 * tot B i.toNatClampNeg) → (∀ k : Nat, (k : Int) < (x.1 0 26).toInt → oW y (y.1 65 k)) → (∀ k : Nat, (k : Int) < i.toInt → oW y (y.1 66 k)) → wrI y (((jT sN V T ∨ ∃ N ∈ Ts, flt sN T V N E0v) ∨ ∃ N ∈ As, flt sN T V N E0v) ∨ exL Fs (fun N => flt sN T V N E0v) (i.toNatClampNeg)) → (¬ wr y → JC y (x.1 0 25).toNatClampNeg ∧ JA y (x.1 0 26).toNatClampNeg ∧ JF y i.toNatClampNeg) → MT G (D + 3) z_judge 185 [(0, vr 0), (1, vi i)] [] y (rv Fv) := by
    intro n
    induction n with
    | zero =>
      intro y i my wy i0 i1 hi js oa of hwr hjc
      have f25 := my.1 25 (by decide)
      have f26 := my.1 26 (by decide)
      have f27 := my.1 27 (by decide)
      refine sg_judge_185 _ ⟨fun _ => rv_i (h y my wy ⟨(LB_md my rfl rfl lb).2.1, ?_, by rw [f26]; exact oa, fun k hk => of k (by rw [f27] at hk; omega)⟩ (Iff.trans hwr (fdone i (by omega))) (fin9 y i (by omega) hjc)), fun c => absurd (t_le.mpr (by rw [f27]; omega)) c⟩
      obtain ⟨j1, j2, j3, j4, j5, j6⟩ := js
      have := tB i.toNatClampNeg (by have := t_cl i; omega)
      rw [f25]
      exact ⟨j1, by omega, j3, by omega, j5, j6⟩
    | succ n ih =>
      intro y i my wy i0 i1 hi js oa of hwr hjc
      have f25 := my.1 25 (by decide)
      have f26 := my.1 26 (by decide)
      have f27 := my.1 27 (by decide)
      have ci := t_cl i
      refine sg_judge_185 _ ⟨fun c => rv_i (h y my wy ⟨(LB_md my rfl rfl lb).2.1, ?_, by rw [f26]; exact oa, fun k hk => of k (by rw [f27] at hk; rw [t_le, f27] at c; omega)⟩ (Iff.trans hwr (fdone i (by rw [t_le, f27] at c; exact c))) (fin9 y i (by rw [t_le, f27] at c; exact c) hjc)), fun c => ?_⟩
      · obtain ⟨j1, j2, j3, j4, j5, j6⟩ := js
        have := tB i.toNatClampNeg (by omega)
        rw [f25]
        exact ⟨j1, by omega, j3, by omega, j5, j6⟩
      rw [t_le, f27] at c
      have iv : vp_in i 4 := by rw [vp_in_iff]; omega
      have i2 : (i + 1).toInt = i.toInt + 1 := by rw [t_add (by omega) (by omega), k1]
      have ci2 : (i + 1).toNatClampNeg = i.toNatClampNeg + 1 := by have := t_cl (i + 1); omega
      have ve := pB i.toNatClampNeg (by omega)
      have b1 : 1 ≤ B i.toNatClampNeg := by
        cases hB : B i.toNatClampNeg with
        | zero => rw [hB] at ve; exact ve.elim
        | succ b => omega
      have tb := tB (i.toNatClampNeg + 1) (by omega)
      have tb2 : tot B (i.toNatClampNeg + 1) = tot B i.toNatClampNeg + B i.toNatClampNeg := rfl
      have nn : NN x y := NN_md my (by decide) (fun c h1 h2 q => by simp at q; omega)
      have e41 : y.1 41 = x.1 41 := my.2.1 41 (by decide) (by decide)
      refine ⟨iv, ?_⟩
      rw [e41]
      obtain ⟨N, hN⟩ : ∃ N, Fs[i.toNatClampNeg]? = some N := ⟨_, List.getElem?_eq_getElem (by rw [fl]; omega)⟩
      obtain ⟨n', N', vv, eN⟩ := ft _ _ hN
      refine sf_workOf 1 (E := E0v) (n := B i.toNatClampNeg) (s := B i.toNatClampNeg) (M := N') (by omega) (Or.inr ⟨vE_keep nn.1 (fun c h1 h2 j hj => nn.2 c h1 (by omega) j hj) _ _ _ _ ve, n', NN_vV nn (my.2.1 5 (by decide) (by decide)) (my.2.1 7 (by decide) (by decide)) vv⟩) (by rw [my.1 13 (by decide)]; exact nd) (LB_md my rfl rfl lb) wy (fun q => absurd q (by decide)) (cty my) js.2.2.1 (by have := js.2.2.2.1; omega) (fun r z lw hr lx su _ => ⟨iv, fun u eu => ?_⟩)
      have e41n : ¬ x.1 41 i.toNatClampNeg = -1 := (fun q => by
        have v1 : 0 ≤ (x.1 41 i.toNatClampNeg).toInt := by
          cases hB : B i.toNatClampNeg with
          | zero => rw [hB] at ve; exact ve.elim
          | succ b => rw [hB] at ve; exact ve.1.1
        rw [q] at v1
        exact absurd v1 (by decide))
      have rn : ¬ r = -1 := hr e41n
      have mu := md_a z 66 i.toNatClampNeg r (by decide)
      rw [← eu] at mu
      have mz : md lL jA y z := md_w lw.1 (by decide) (by decide)
      have owz : ∀ r', oW y r' → oW z r' := fun r' q => ⟨q.1, cW_keep lw.2.2.2.1 lw.2.2.1 q.2⟩
      have owu : ∀ r', oW z r' → oW u r' := fun r' q => ⟨q.1, cW_keep (by rw [mu.1 49 (by decide)]; omega) (fun j _ => by rw [mu.2.1 51 (by decide) (by decide), mu.2.1 52 (by decide) (by decide)]; exact ⟨rfl, rfl⟩) q.2⟩
      have js2 := JS_fr (JS_wk js lw) mu rfl rfl
      have hwu : wrI u (((jT sN V T ∨ ∃ N ∈ Ts, flt sN T V N E0v) ∨ ∃ N ∈ As, flt sN T V N E0v) ∨ exL Fs (fun N => flt sN T V N E0v) ((i + 1).toNatClampNeg)) := by
        unfold LX at lx
        unfold wrI at hwr ⊢
        rw [wr_e (mu.1 41 (by decide)), lx, hwr, ci2, ex_up hN, eN, flt_sum, or_assoc]
      have hju : ¬ wr u → JC u (x.1 0 25).toNatClampNeg ∧ JA u (x.1 0 26).toNatClampNeg ∧ JF u (i + 1).toNatClampNeg := fun nw => by
        rw [wr_e (mu.1 41 (by decide))] at nw
        have nwy : ¬ wr y := fun q => nw (lx.mpr (Or.inl q))
        have nfl : ¬ flt sN T V N' E0v := fun q => nw (lx.mpr (Or.inr q))
        obtain ⟨c1, c2, c3⟩ := hjc nwy
        refine ⟨JC_md mu rfl rfl (by decide) (JC_wk lw c1), (hJA _ _).mpr (fun k N2 hk hN2 => ?_), (hJF _ _).mpr (fun k N2 hk hN2 => ?_)⟩
        · rw [mu.2.1 65 (by decide) (by decide)]
          exact SUm_md mu (by decide) (by decide) (by decide) ((hJA _ _).mp (JA_wk lw c2) k N2 hk hN2)
        · by_cases q : k = i.toNatClampNeg
          · rw [q, hN] at hN2
            rw [← Option.some.inj hN2, eN, nPs_54, q, eu, si_get, if_pos ⟨rfl, rfl⟩, ← eu]
            exact SUm_md mu (by decide) (by decide) (by decide) (su e41n nfl)
          · rw [eu, si_ne 66 k q, ← eu]
            exact SUm_md mu (by decide) (by decide) (by decide) ((hJF _ _).mp (JF_wk lw c3) k N2 (by omega) hN2)
      refine ih u (i + 1) (md_tr (md_tr (L3 := lL) (A3 := jA) my mz rfl rfl) mu rfl rfl) ?_ (by omega) (by omega) (by omega) ?_ (fun k hk => ?_) (fun k hk => ?_) hwu hju
      · have w2 := lw.2.1
        unfold WB
        rw [mu.1 41 (by decide), mu.1 42 (by decide)]
        exact w2
      · obtain ⟨j1, j2, j3, j4, j5, j6⟩ := js2
        exact ⟨j1, j2, j3, by rw [ci2, tb2]; omega, j5, j6⟩
      · rw [mu.2.1 65 (by decide) (by decide), lw.1.2.1 65 (by decide) (by decide)]
        exact owu _ (owz _ (oa k hk))
      · by_cases q : k = i.toNatClampNeg
        · rw [eu, si_get, if_pos ⟨rfl, q⟩, ← eu]
          obtain ⟨w1, w2⟩ := lw.2.2.2.2.2.resolve_left rn
          exact owu _ ⟨w1, w2⟩
        · rw [eu, si_ne 66 k q, ← eu, lw.1.2.1 66 (by decide) (by decide)]
          exact owu _ (owz _ (of k (by omega)))
  -- always
  have p152 : ∀ (n : Nat) (y : gd) (i : Int32), md lL jA x y → WB y → 0 ≤ i.toInt → i.toInt ≤ (x.1 0 26).toInt → (x.1 0 26).toInt - i.toInt ≤ n → JS y (x.1 0 25).toNatClampNeg 700 (2 * tot S (x.1 0 25).toNatClampNeg + 2 * tot A i.toNatClampNeg) → (∀ k : Nat, (k : Int) < i.toInt → oW y (y.1 65 k)) → wrI y ((jT sN V T ∨ ∃ N ∈ Ts, flt sN T V N E0v) ∨ exL As (fun N => flt sN T V N E0v) (i.toNatClampNeg)) → (¬ wr y → JC y (x.1 0 25).toNatClampNeg ∧ JA y i.toNatClampNeg) → MT G (D + 3) z_judge 152 [(0, vr 0), (1, vi i)] [] y (rv Fv) := by
    have next : ∀ (y : gd) (i : Int32), md lL jA x y → WB y → 0 ≤ i.toInt → i.toInt ≤ (x.1 0 26).toInt → (x.1 0 26).toInt ≤ i.toInt → JS y (x.1 0 25).toNatClampNeg 700 (2 * tot S (x.1 0 25).toNatClampNeg + 2 * tot A i.toNatClampNeg) → (∀ k : Nat, (k : Int) < i.toInt → oW y (y.1 65 k)) → wrI y ((jT sN V T ∨ ∃ N ∈ Ts, flt sN T V N E0v) ∨ exL As (fun N => flt sN T V N E0v) (i.toNatClampNeg)) → (¬ wr y → JC y (x.1 0 25).toNatClampNeg ∧ JA y i.toNatClampNeg) → MT G (D + 3) z_judge 185 [(0, vr 0), (1, vi 0)] [] y (rv Fv) := by
      intro y i my wy i0 i1 i2 js oa hwr hjc
      have := tA' i.toNatClampNeg (by have := t_cl i; omega)
      refine p185 _ y 0 my wy (by decide) (by rw [k0]; omega) (Int.self_le_toNat _) ?_ (fun k hk => oa k (by omega)) (fun k hk => by rw [k0] at hk; omega) (Iff.trans hwr ?_) (fun nw => ?_)
      rotate_left
      · have u := t_cl i
        rw [ex_all (by rw [al]; omega)]
        exact ⟨Or.inl, fun z => z.resolve_right ex0⟩
      · obtain ⟨c1, c2⟩ := hjc nw
        have u := t_cl i
        refine ⟨c1, (hJA _ _).mpr (fun k N hk hN => (hJA _ _).mp c2 k N (by omega) hN), (hJF _ _).mpr (fun k N hk _ => absurd hk (Nat.not_lt_zero _))⟩
      obtain ⟨j1, j2, j3, j4, j5, j6⟩ := js
      exact ⟨j1, j2, j3, by omega, j5, j6⟩
    intro n
    induction n with
    | zero =>
      intro y i my wy i0 i1 hi js oa hwr hjc
      have f26 := my.1 26 (by decide)
      exact sg_judge_152 _ ⟨fun c => next y i my wy i0 i1 (by omega) js oa hwr hjc, fun c => absurd (t_le.mpr (by rw [f26]; omega)) c⟩
    | succ n ih =>
      intro y i my wy i0 i1 hi js oa hwr hjc
      have f26 := my.1 26 (by decide)
      have ci := t_cl i
      refine sg_judge_152 _ ⟨fun c => next y i my wy i0 i1 (by rw [t_le, f26] at c; exact c) js oa hwr hjc, fun c => ?_⟩
      rw [t_le, f26] at c
      have iv : vp_in i 4 := by rw [vp_in_iff]; omega
      have i2 : (i + 1).toInt = i.toInt + 1 := by rw [t_add (by omega) (by omega), k1]
      have ci2 : (i + 1).toNatClampNeg = i.toNatClampNeg + 1 := by have := t_cl (i + 1); omega
      have ve := pA' i.toNatClampNeg (by omega)
      have b1 : 1 ≤ A i.toNatClampNeg := by
        cases hB : A i.toNatClampNeg with
        | zero => rw [hB] at ve; exact ve.elim
        | succ b => omega
      have tb := tA' (i.toNatClampNeg + 1) (by omega)
      have tb2 : tot A (i.toNatClampNeg + 1) = tot A i.toNatClampNeg + A i.toNatClampNeg := rfl
      have nn : NN x y := NN_md my (by decide) (fun c h1 h2 q => by simp at q; omega)
      have e41 : y.1 40 = x.1 40 := my.2.1 40 (by decide) (by decide)
      refine ⟨iv, ?_⟩
      rw [e41]
      obtain ⟨N, hN⟩ : ∃ N, As[i.toNatClampNeg]? = some N := ⟨_, List.getElem?_eq_getElem (by rw [al]; omega)⟩
      obtain ⟨n', N', vv, eN⟩ := at' _ _ hN
      refine sf_workOf 1 (E := E0v) (n := A i.toNatClampNeg) (s := A i.toNatClampNeg) (M := N') (by omega) (Or.inr ⟨vE_keep nn.1 (fun c h1 h2 j hj => nn.2 c h1 (by omega) j hj) _ _ _ _ ve, n', NN_vV nn (my.2.1 5 (by decide) (by decide)) (my.2.1 7 (by decide) (by decide)) vv⟩) (by rw [my.1 13 (by decide)]; exact nd) (LB_md my rfl rfl lb) wy (fun q => absurd q (by decide)) (cty my) js.2.2.1 (by have := js.2.2.2.1; omega) (fun r z lw hr lx su _ => ⟨iv, fun u eu => ?_⟩)
      have e40n : ¬ x.1 40 i.toNatClampNeg = -1 := (fun q => by
        have v1 : 0 ≤ (x.1 40 i.toNatClampNeg).toInt := by
          cases hB : A i.toNatClampNeg with
          | zero => rw [hB] at ve; exact ve.elim
          | succ b => rw [hB] at ve; exact ve.1.1
        rw [q] at v1
        exact absurd v1 (by decide))
      have rn : ¬ r = -1 := hr e40n
      have mu := md_a z 65 i.toNatClampNeg r (by decide)
      rw [← eu] at mu
      have mz : md lL jA y z := md_w lw.1 (by decide) (by decide)
      have owz : ∀ r', oW y r' → oW z r' := fun r' q => ⟨q.1, cW_keep lw.2.2.2.1 lw.2.2.1 q.2⟩
      have owu : ∀ r', oW z r' → oW u r' := fun r' q => ⟨q.1, cW_keep (by rw [mu.1 49 (by decide)]; omega) (fun j _ => by rw [mu.2.1 51 (by decide) (by decide), mu.2.1 52 (by decide) (by decide)]; exact ⟨rfl, rfl⟩) q.2⟩
      have js2 := JS_fr (JS_wk js lw) mu rfl rfl
      have hwu : wrI u ((jT sN V T ∨ ∃ N ∈ Ts, flt sN T V N E0v) ∨ exL As (fun N => flt sN T V N E0v) ((i + 1).toNatClampNeg)) := by
        unfold LX at lx
        unfold wrI at hwr ⊢
        rw [wr_e (mu.1 41 (by decide)), lx, hwr, ci2, ex_up hN, eN, flt_sum, or_assoc]
      have hju : ¬ wr u → JC u (x.1 0 25).toNatClampNeg ∧ JA u (i + 1).toNatClampNeg := fun nw => by
        rw [wr_e (mu.1 41 (by decide))] at nw
        have nwy : ¬ wr y := fun q => nw (lx.mpr (Or.inl q))
        have nfl : ¬ flt sN T V N' E0v := fun q => nw (lx.mpr (Or.inr q))
        obtain ⟨c1, c2⟩ := hjc nwy
        refine ⟨JC_md mu rfl rfl (by decide) (JC_wk lw c1), (hJA _ _).mpr (fun k N2 hk hN2 => ?_)⟩
        by_cases q : k = i.toNatClampNeg
        · rw [q, hN] at hN2
          rw [← Option.some.inj hN2, eN, nPs_54, q, eu, si_get, if_pos ⟨rfl, rfl⟩, ← eu]
          exact SUm_md mu (by decide) (by decide) (by decide) (su e40n nfl)
        · rw [eu, si_ne 65 k q, ← eu]
          exact SUm_md mu (by decide) (by decide) (by decide) ((hJA _ _).mp (JA_wk lw c2) k N2 (by omega) hN2)
      refine ih u (i + 1) (md_tr (md_tr (L3 := lL) (A3 := jA) my mz rfl rfl) mu rfl rfl) ?_ (by omega) (by omega) (by omega) ?_ (fun k hk => ?_) hwu hju
      · have w2 := lw.2.1
        unfold WB
        rw [mu.1 41 (by decide), mu.1 42 (by decide)]
        exact w2
      · obtain ⟨j1, j2, j3, j4, j5, j6⟩ := js2
        exact ⟨j1, j2, j3, by rw [ci2, tb2]; omega, j5, j6⟩
      · by_cases q : k = i.toNatClampNeg
        · rw [eu, si_get, if_pos ⟨rfl, q⟩, ← eu]
          obtain ⟨w1, w2⟩ := lw.2.2.2.2.2.resolve_left rn
          exact owu _ ⟨w1, w2⟩
        · rw [eu, si_ne 65 k q, ← eu, lw.1.2.1 65 (by decide) (by decide)]
          exact owu _ (owz _ (oa k (by omega)))
  -- threads
  have p99 : ∀ (n : Nat) (y : gd) (i : Int32), md lL jA x y → WB y → 0 ≤ i.toInt → i.toInt ≤ (x.1 0 25).toInt → (x.1 0 25).toInt - i.toInt ≤ n → JS y i.toNatClampNeg (tot S i.toNatClampNeg) (2 * tot S i.toNatClampNeg) → 0 ≤ (y.1 0 47).toInt → (y.1 0 47).toInt ≤ tot S i.toNatClampNeg → wrI y (jT sN V T ∨ exL Ts (fun N => flt sN T V N E0v) (i.toNatClampNeg)) → (¬ wr y → JC y i.toNatClampNeg) → MT G (D + 3) z_judge 99 [(0, vr 0), (1, vi i)] [] y (rv Fv) := by
    have next : ∀ (y : gd) (i : Int32), md lL jA x y → WB y → 0 ≤ i.toInt → i.toInt ≤ (x.1 0 25).toInt → (x.1 0 25).toInt ≤ i.toInt → JS y i.toNatClampNeg (tot S i.toNatClampNeg) (2 * tot S i.toNatClampNeg) → wrI y (jT sN V T ∨ exL Ts (fun N => flt sN T V N E0v) (i.toNatClampNeg)) → (¬ wr y → JC y i.toNatClampNeg) → MT G (D + 3) z_judge 152 [(0, vr 0), (1, vi 0)] [] y (rv Fv) := by
      intro y i my wy i0 i1 i2 js hwr hjc
      have ei : i.toNatClampNeg = (x.1 0 25).toNatClampNeg := by have := t_cl i; omega
      rw [ei] at js hwr hjc
      refine p152 _ y 0 my wy (by decide) (by rw [k0]; omega) (Int.self_le_toNat _) ?_ (fun k hk => by rw [k0] at hk; omega) (Iff.trans hwr ?_) (fun nw => ⟨hjc nw, (hJA _ _).mpr (fun k N hk _ => absurd hk (Nat.not_lt_zero _))⟩)
      rotate_left
      · rw [ex_all (by rw [bl]; exact Nat.le_refl _)]
        exact ⟨Or.inl, fun z => z.resolve_right ex0⟩
      obtain ⟨j1, j2, j3, j4, j5, j6⟩ := js
      exact ⟨j1, by omega, j3, by omega, j5, j6⟩
    intro n
    induction n with
    | zero =>
      intro y i my wy i0 i1 hi js bk0 bk1 hwr hjc
      have f25 := my.1 25 (by decide)
      exact sg_judge_99 _ ⟨fun c => next y i my wy i0 i1 (by omega) js hwr hjc, fun c => absurd (t_le.mpr (by rw [f25]; omega)) c⟩
    | succ n ih =>
      intro y i my wy i0 i1 hi js bk0 bk1 hwr hjc
      have f25 := my.1 25 (by decide)
      have ci := t_cl i
      refine sg_judge_99 _ ⟨fun c => next y i my wy i0 i1 (by rw [t_le, f25] at c; exact c) js hwr hjc, fun c y2 e2 y3 e3 => ?_⟩
      rw [t_le, f25] at c
      have iv : vp_in i 6 := by rw [vp_in_iff]; omega
      refine ⟨iv, fun y5 e5 => ⟨iv, ?_⟩⟩
      have i2 : (i + 1).toInt = i.toInt + 1 := by rw [t_add (by omega) (by omega), k1]
      have ci2 : (i + 1).toNatClampNeg = i.toNatClampNeg + 1 := by have := t_cl (i + 1); omega
      have vb := pS i.toNatClampNeg (by omega)
      have s2 : 2 ≤ S i.toNatClampNeg := by obtain ⟨_, _, _, L, _, _, z, _⟩ := vb; omega
      have tb := tS (i.toNatClampNeg + 1) (by omega)
      have tb2 : tot S (i.toNatClampNeg + 1) = tot S i.toNatClampNeg + S i.toNatClampNeg := rfl
      have m2 := md_f y 43 0
      rw [← e2] at m2
      have m3 := md_f y2 48 0
      rw [← e3] at m3
      have m5 := md_a y3 64 i.toNatClampNeg (y3.1 0 52) (by decide)
      rw [← e5] at m5
      have m35 : md [43, 48] [64] y y5 := md_tr (md_tr (L3 := [43, 48]) (A3 := []) m2 m3 rfl rfl) m5 rfl rfl
      have mx5 : md lL jA x y5 := md_tr my m35 rfl rfl
      have e43 : y5.1 0 43 = 0 := by rw [m5.1 43 (by decide), m3.1 43 (by decide), e2, si_get, if_pos ⟨rfl, rfl⟩]
      have e48 : y5.1 0 48 = 0 := by rw [m5.1 48 (by decide), e3, si_get, if_pos ⟨rfl, rfl⟩]
      have e52 : y5.1 0 52 = y.1 0 52 := m35.1 52 (by decide)
      have e49 : y5.1 0 49 = y.1 0 49 := m35.1 49 (by decide)
      have t52 : (y5.1 0 52).toInt = (y.1 0 52).toInt := by rw [e52]
      have t49 : (y5.1 0 49).toInt = (y.1 0 49).toInt := by rw [e49]
      have ks : KS y5 := ⟨by rw [e43]; decide, by rw [e43, e48]; omega, by rw [e48]; decide, fun j hj => by rw [e43, k0] at hj; omega⟩
      have w5 : WB y5 := by
        unfold WB
        rw [m35.1 41 (by decide), m35.1 42 (by decide)]
        exact wy
      obtain ⟨j1, j2, j3, j4, j5, j6⟩ := js
      have p5 : PL y5 := ⟨LB_md mx5 rfl rfl lb, w5, KS_KB ks, by rw [mx5.1 13 (by decide)]; exact nd, by rw [e49]; exact j3, by rw [e52]; exact j1, by rw [mx5.1 25 (by decide)]; omega⟩
      have nn : NN x y5 := NN_md mx5 (by decide) (fun c h1 h2 q => by simp at q; omega)
      rw [mx5.2.1 39 (by decide) (by decide)]
      obtain ⟨N, hN⟩ : ∃ N, Ts[i.toNatClampNeg]? = some N := ⟨_, List.getElem?_eq_getElem (by rw [bl]; omega)⟩
      have wb5 := NN_wB nn (mx5.2.1 5 (by decide) (by decide)) (mx5.2.1 7 (by decide) (by decide)) (bt _ _ hN)
      have e47 : y5.1 0 47 = y.1 0 47 := m35.1 47 (by decide)
      have xp5 : XP sN T V K y5 E0v := ⟨⟨by rw [e43]; rfl, by decide, trivial⟩, by rw [e48]; rfl, cty mx5, fun p hp => absurd hp (Nat.not_lt_zero _), by rw [e47]; exact bk0⟩
      refine sf_layBlock 17 (sf_layS 17) (m := 0) (s := S i.toNatClampNeg) (c := 8) (z0 := 0) (M := N) (E := E0v) (by omega) (by omega) (vB_NN nn vb) wb5 p5 ks xp5 (by rw [e47]; omega) (by rw [e48]; decide) (by rw [e49]; omega) (by rw [e52]; omega) (fun y7 q7 xb7 cb7 => ?_)
      obtain ⟨lx7, xp7, -, -, xq5, xq6⟩ := xb7 0
      have nlN : nl N := wB_nl (fun e M g => (wS_env 17 e M g).1) wb5
      rw [e47] at xq5 xq6
      obtain ⟨q7a, ks7, _⟩ := q7
      have b1 := q7a.1.2.2.1
      have b2 := q7a.1.2.2.2.1
      have b3 := q7a.1.2.2.2.2.1
      have b4 := q7a.1.2.2.2.2.2.1
      obtain ⟨z1, z2, z3, z4⟩ := LF_ok p5 q7a.1 (by rw [e52]; omega)
      refine sf_layStep _ _ z1 xp7.1 (Or.inl rfl) z2 (fun y8 h8 hm8 => ?_)
      have st := stp_s h8
      have u := stp_up st z3 z4
      have lq8 := LQ_stp st q7a.1.2.1 z3 z4 (Or.inl rfl) (Or.inl rfl) (Or.inl rfl) (by decide) (Or.inr (Or.inr (Or.inr (Or.inr (Or.inl rfl)))))
      have lf58 := LF_tr q7a.1 lq8.1
      have e64 : y8.1 64 = y5.1 64 := by rw [st.1.2.1 64 (by decide) (by decide), q7a.1.1.2.1 64 (by decide) (by decide)]
      have js5 : ∀ j : Nat, (j : Int) < (y5.1 0 52).toInt → sC y5 j := by
        intro j hj
        rw [e52] at hj
        obtain ⟨⟨a1, a2, a3, a4⟩, b, c9⟩ := j5 j hj
        have wk : ∀ r, wo y 0 r → wo y5 0 r := fun r z => wo_keep (by rw [e49]; omega) (fun j _ => by rw [m35.2.1 51 (by decide) (by decide), m35.2.1 52 (by decide) (by decide)]; exact ⟨rfl, rfl⟩) z
        unfold sC sO gO
        rw [m35.2.1 54 (by decide) (by decide), m35.2.1 55 (by decide) (by decide), m35.2.1 56 (by decide) (by decide), m35.2.1 57 (by decide) (by decide), m35.2.1 58 (by decide) (by decide), m35.2.1 59 (by decide) (by decide), m35.2.1 60 (by decide) (by decide), m35.2.1 61 (by decide) (by decide), m35.1 25 (by decide), e52]
        exact ⟨⟨wk _ a1, wk _ a2, wk _ a3, a4⟩, b, c9⟩
      have f47 : y8.1 0 47 = y7.1 0 47 := st.1.1 47 (by decide)
      have hw8 : wrI y8 (jT sN V T ∨ exL Ts (fun N => flt sN T V N E0v) ((i + 1).toNatClampNeg)) := by
        unfold LX at lx7
        unfold wrI at hwr ⊢
        rw [wr_e (st.1.1 41 (by decide)), lx7, wr_e (m35.1 41 (by decide)), hwr, ci2, ex_up hN, or_assoc]
      have hj8 : ¬ wr y8 → JC y8 (i + 1).toNatClampNeg := fun nw => by
        rw [wr_e (st.1.1 41 (by decide))] at nw
        have nwy : ¬ wr y := fun q => nw (lx7.mpr (Or.inl ((wr_e (m35.1 41 (by decide))).mpr q)))
        have nfl : ¬ flt sN T V N E0v := fun q => nw (lx7.mpr (Or.inr q))
        obtain ⟨q1, q2, q3⟩ := (hJC _ _).mp (hjc nwy)
        have sr5 : SR sN T V K y5 (stTs sN K (Ts.take i.toNatClampNeg)) := SR_md m35 rfl rfl q1
        obtain ⟨S', e9, s9, x9⟩ := cb7 nfl _ [] ([], []) sr5
        have e9 : cds sN K N (E0v, stTs sN K (Ts.take i.toNatClampNeg), [], rg0, [], []) = (exs N E0v, S' ++ [(21, 0, knw (exs N E0v), none, none, false, none, none, none)], [], rg0, [], []) := e9
        have eT9 : stT sN K (stTs sN K (Ts.take i.toNatClampNeg)) N = S' ++ [(21, 0, knw (exs N E0v), none, none, false, none, none, none)] := by
          unfold stT
          rw [e9]
        have okN : okT sN K (stTs sN K (Ts.take i.toNatClampNeg)) N := ⟨exs N E0v, (nlN E0v).2, by rw [eT9]; exact e9⟩
        rw [ci2]
        refine (hJC _ _).mpr ⟨?_, fun j N2 hj hN2 => ?_, fun t ht => ?_⟩
        · rw [stTs_up hN, eT9]
          exact SR_snoc (st := (21, 0, knw (exs N E0v), none, none, false, none, none, none)) s9 (LF_wr (md_w (md_rf y7) (by decide) (by decide)) q7a.1.2.1) st z4 hm8 rfl (fun q => absurd q (show ¬ 21 < 16 by decide)) rfl rfl rfl rfl rfl rfl
        · by_cases q : j = i.toNatClampNeg
          · rw [q, hN] at hN2
            rw [q, ← Option.some.inj hN2]
            exact okN
          · exact q2 j N2 (by omega) hN2
        · rw [e64]
          by_cases q : t = i.toNatClampNeg
          · rw [q, e5, si_get, if_pos ⟨rfl, rfl⟩, m3.1 52 (by decide), m2.1 52 (by decide)]
            exact q1.1
          · rw [e5, si_ne 64 t q, m3.2.1 64 (by decide) (by decide), m2.2.1 64 (by decide) (by decide)]
            exact q3 t (by omega)
      refine ih y8 (i + 1) (md_tr (md_tr (L3 := lL) (A3 := jA) mx5 q7a.1.1 rfl rfl) st.1 rfl rfl) lq8.1.2.1 (by omega) (by omega) (by omega) ⟨by omega, by rw [ci2, tb2]; omega, by have := lf58.2.2.2.2.1; omega, by have := lf58.2.2.2.2.2.1; rw [ci2, tb2]; omega, fun j hj => ?_, fun j hj => ?_⟩ (by rw [f47]; omega) (by rw [f47, ci2, tb2]; omega) hw8 hj8
      · by_cases q : (j : Int) < (y5.1 0 52).toInt
        · exact sC_keep lf58 q (js5 j q)
        · by_cases q2 : (j : Int) < (y7.1 0 52).toInt
          · have so := q7a.2 j (by omega) q2
            refine ⟨sO_keep lq8.1 q2 so, ?_, Or.inr (by omega)⟩
            have r54 := lq8.1.2.2.2.2.2.2.2 54 (by decide) (by decide) j q2
            have r61 := lq8.1.2.2.2.2.2.2.2 61 (by decide) (by decide) j q2
            rw [r54, r61]
            intro z
            rcases so.2.2.2.1 with ⟨s, _⟩ | s | ⟨_, _, s⟩ | s | s | ⟨s, _⟩
            · rw [s] at z; exact absurd z (by decide)
            · rw [s] at z; exact absurd z (by decide)
            · omega
            · rw [s] at z; exact absurd z (by decide)
            · rw [s] at z; exact absurd z (by decide)
            · rw [s] at z; exact absurd z (by decide)
          · have so := lq8.2 j (by omega) hj
            have ej : j = (y7.1 0 52).toNatClampNeg := by rw [t_cl]; omega
            have e54 : y8.1 54 j = 5 := by rw [ej]; exact st.2.2.2.1
            exact ⟨so, fun z => by rw [e54] at z; exact absurd z (by decide), Or.inl e54⟩
      · rw [ci2] at hj
        rw [e64]
        by_cases q : j = i.toNatClampNeg
        · rw [e5, si_get, if_pos ⟨rfl, q⟩]
          have : y3.1 0 52 = y.1 0 52 := by rw [m3.1 52 (by decide), m2.1 52 (by decide)]
          rw [this]
          exact ⟨j1, by omega⟩
        · rw [e5, si_ne 64 j q, m3.2.1 64 (by decide) (by decide), m2.2.1 64 (by decide) (by decide)]
          have := j6 j (by omega)
          exact ⟨this.1, by omega⟩
  -- names
  have p17 : ∀ (n : Nat) (y : gd) (i : Int32), md lL jA x y → WB y → y.1 0 49 = 0 → y.1 0 52 = 0 → y.1 0 47 = 0 → 0 ≤ i.toInt → (x.1 0 28).toInt - i.toInt ≤ n → wrI y (exQ T (tw sN V T) (i.toNatClampNeg)) → MT G (D + 3) z_judge 17 [(0, vr 0), (1, vi i)] [] y (rv Fv) := by
    have next : ∀ (y : gd) (i : Int32), md lL jA x y → WB y → y.1 0 49 = 0 → y.1 0 52 = 0 → y.1 0 47 = 0 → (x.1 0 28).toInt ≤ i.toInt → wrI y (exQ T (tw sN V T) (i.toNatClampNeg)) → MT G (D + 3) z_judge 99 [(0, vr 0), (1, vi 0)] [] y (rv Fv) := by
      intro y i my wy e49 e52 e47 hi hwr
      refine p99 _ y 0 my wy (by decide) (by rw [k0]; omega) (Int.self_le_toNat _) ⟨by rw [e52]; decide, by rw [e52, k0]; omega, by rw [e49]; decide, by rw [e49, k0]; omega, fun j hj => ?_, fun j hj => ?_⟩ (by rw [e47]; decide) (by rw [e47, k0]; omega) (Iff.trans hwr ?_) (fun _ => (hJC _ _).mpr ⟨⟨by rw [e52]; rfl, fun j st hj => absurd (gt_lt hj) (Nat.not_lt_zero _)⟩, fun j N hj => absurd hj (Nat.not_lt_zero _), fun t ht => absurd ht (Nat.not_lt_zero _)⟩)
      · rw [e52, k0] at hj; omega
      · have : (0 : Int32).toNatClampNeg = 0 := rfl
        rw [this] at hj; omega
      · have u := t_cl i
        have u28 := t_cl (x.1 0 28)
        refine ⟨fun ⟨j, q, _, a⟩ => Or.inl ⟨j, q, a⟩, fun z => ?_⟩
        obtain ⟨j, q, a1, a2⟩ := z.resolve_right ex0
        have hj := gt_lt a1
        rw [tr.1] at hj
        exact ⟨j, q, by omega, a1, a2⟩
    intro n
    induction n with
    | zero =>
      intro y i my wy e49 e52 e47 i0 hi hwr
      have f28 := my.1 28 (by decide)
      exact sg_judge_17 _ ⟨fun _ => next y i my wy e49 e52 e47 (by omega) hwr, fun c => absurd (t_le.mpr (by rw [f28]; omega)) c⟩
    | succ n ih =>
      intro y i my wy e49 e52 e47 i0 hi hwr
      have f28 := my.1 28 (by decide)
      have ly := LB_md my rfl rfl lb
      refine sg_judge_17 _ ⟨fun c => next y i my wy e49 e52 e47 (by rw [t_le, f28] at c; exact c) hwr, fun c => ?_⟩
      rw [t_le, f28] at c
      have iv : vp_in i 40 := by rw [vp_in_iff]; omega
      have i2 : (i + 1).toInt = i.toInt + 1 := by rw [t_add (by omega) (by omega), k1]
      have ci := t_cl i
      have ci2 : (i + 1).toNatClampNeg = i.toNatClampNeg + 1 := by have := t_cl (i + 1); omega
      have ti := LB_t ly (r := i) ⟨i0, by rw [f28]; omega⟩
      obtain ⟨q, hq, hd⟩ := TRd_at tr i0 (by omega)
      have upT : (exQ T (tw sN V T) ((i + 1).toNatClampNeg)) ↔ (exQ T (tw sN V T) (i.toNatClampNeg)) ∨ tw sN V T i.toNatClampNeg q := by
        rw [ci2]
        refine ⟨fun ⟨j, q', a1, a2, a3⟩ => ?_, fun z => z.elim (fun ⟨j, q', a1, a⟩ => ⟨j, q', by omega, a⟩) (fun a => ⟨_, q, Nat.lt_succ_self _, hq, a⟩)⟩
        by_cases cj : j = i.toNatClampNeg
        · rw [cj, hq] at a2
          cases Option.some.inj a2
          rw [cj] at a3
          exact Or.inr a3
        · exact Or.inl ⟨j, q', by omega, a2, a3⟩
      -- told twice; then a row's whole
      have p50 : ∀ z : gd, md lL jA x z → WB z → z.1 0 49 = 0 → z.1 0 52 = 0 → z.1 0 47 = 0 → wrI z ((exQ T (tw sN V T) (i.toNatClampNeg)) ∨ exQ T (fun _ q' => sN q'.1 q.1 = true) i.toNatClampNeg) → MT G (D + 3) z_judge 50 [(0, vr 0), (1, vi i)] [] z (rv Fv) := by
        intro z mz wz g49 g52 g47 hwz
        have lz := LB_md mz rfl rfl lb
        have tz := LB_t lz (r := i) ⟨i0, by rw [mz.1 28 (by decide)]; omega⟩
        have hdz := (cty mz).2.2.1.2.1 _ _ hq
        refine sg_judge_50 _ ⟨iv, fun c2 => ih z _ mz wz g49 g52 g47 (by omega) (by omega) ?_, fun c2 => ?_⟩
        · unfold wrI at hwz ⊢
          rw [hwz, upT]
          refine ⟨fun w => w.imp id Or.inl, fun w => w.imp id (fun w => w.resolve_right (fun w => ?_))⟩
          rcases hdz.2.2.2 with ⟨a, _⟩ | ⟨_, a, _⟩
          · omega
          · rw [a] at c2; exact absurd c2 (by decide)
        have t2 := tz.2.2.resolve_left c2
        have hrow : 0 < q.2.2.1 ∧ (z.1 35 i.toNatClampNeg).toNatClampNeg = q.2.2.2 := by
          rcases hdz.2.2.2 with ⟨_, a⟩ | ⟨a, _, _, _, b⟩
          · exact absurd a c2
          · exact ⟨a, b⟩
        have z7 : z.1 7 = V := (cty mz).2.1
        refine ⟨iv, t2, sp_in _ _ _ ⟨fun c3 => ih z _ mz wz g49 g52 g47 (by omega) (by omega) ?_, fun c3 => ⟨iv, sf_wrongAt _ _ (by decide) t2 lz.1 wz (fun w mw ww gw => ih w _ (md_tr mz mw rfl rfl) ww (by rw [mw.1 49 (by decide)]; exact g49) (by rw [mw.1 52 (by decide)]; exact g52) (by rw [mw.1 47 (by decide)]; exact g47) (by omega) (by omega) ?_)⟩⟩⟩
        · have c4 := bi_ne.mp c3
          rw [z7, hrow.2] at c4
          unfold wrI at hwz ⊢
          rw [hwz, upT]
          exact ⟨fun w => w.imp id Or.inl, fun w => w.imp id (fun w => w.resolve_right (fun w => w.2 c4))⟩
        · have c4 := bi_eq.mp c3
          rw [z7, hrow.2] at c4
          rw [upT]
          exact ⟨fun _ => Or.inr (Or.inr ⟨hrow.1, c4⟩), fun _ => gw⟩
      have ey : smB y = sN := (cty my).1
      have hdy := (cty my).2.2.1.2.1 _ _ hq
      refine ⟨iv, sf_toldOf _ ti.1 ly (cty my).2.2.1 (fun r r0 r1 => ?_)⟩
      rw [ey, hdy.2.1] at r0 r1
      have self : sN q.1 q.1 = true := by rw [esN]; exact smB_is.mpr (smx_rf x q.1)
      have rn : ¬ r = -1 := fun z => r0 z q (List.mem_of_getElem? hq) self
      obtain ⟨⟨ra, rb⟩, ⟨q1, rq, rs⟩, rf⟩ := r1 rn
      have cr' := t_cl r
      refine ⟨fun c3 => p50 y my wy e49 e52 e47 ?_, fun c3 => ⟨iv, sf_wrongAt _ _ (by decide) ti.1 ly.1 wy (fun w mw ww gw => p50 w (md_tr my mw rfl rfl) ww (by rw [mw.1 49 (by decide)]; exact e49) (by rw [mw.1 52 (by decide)]; exact e52) (by rw [mw.1 47 (by decide)]; exact e47) ?_)⟩⟩
      · unfold wrI at hwr ⊢
        rw [hwr]
        refine ⟨Or.inl, fun w => w.resolve_right (fun ⟨j', q', a1, a2, a3⟩ => ?_)⟩
        exact rf j' q' (by rw [c3]; exact a1) a2 a3
      · refine ⟨fun _ => Or.inr ⟨r.toNatClampNeg, q1, ?_, rq, rs⟩, fun _ => gw⟩
        by_cases cl : r.toNatClampNeg < i.toNatClampNeg
        · exact cl
        · by_cases ce : r.toNatClampNeg = i.toNatClampNeg
          · exact absurd (t_eq.mpr (by omega)) c3
          · exact absurd self (rf _ q (by omega) hq)
  refine sg_judge_0 (fun y1 e1 y2 e2 y3 e3 => ?_)
  have m1 := md_f x 41 0
  rw [← e1] at m1
  have m2 := md_f y1 49 0
  rw [← e2] at m2
  have m3 := md_f y2 52 0
  rw [← e3] at m3
  have m : md [41, 49, 52] [] x y3 := md_tr (md_tr (L3 := [41, 49]) (A3 := []) m1 m2 rfl rfl) m3 rfl rfl
  have y41 : y3.1 0 41 = 0 := by rw [m3.1 41 (by decide), m2.1 41 (by decide), e1, si_get, if_pos ⟨rfl, rfl⟩]
  refine p17 _ y3 0 (md_w m (by decide) (by decide)) ⟨?_, ?_⟩ ?_ ?_ ?_ (by decide) (Int.self_le_toNat _) ?_
  · rw [y41]; decide
  · rw [m.1 42 (by decide)]; exact wp
  · rw [m3.1 49 (by decide), e2, si_get, if_pos ⟨rfl, rfl⟩]
  · rw [e3, si_get, if_pos ⟨rfl, rfl⟩]
  · rw [m.1 47 (by decide)]; exact h47
  · exact ⟨fun z => absurd y41 z, fun ⟨j, q, a, _⟩ => absurd a (Nat.not_lt_zero _)⟩
