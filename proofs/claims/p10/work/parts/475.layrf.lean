/-! laying right sides: what is found wrong -/
theorem vQ_st {x : gd} {p : Int32} {M : gU} (h : vQ x p M) : still M := by
  obtain ⟨-, ⟨_, h⟩ | ⟨_, n, M1, h1, h⟩⟩ := h
  · rw [h]; exact still_one ⟨by show ¬ 6 = 20; decide, by show ¬ 6 = 21; decide, by show ¬ 6 = 22; decide⟩
  · rw [h]; exact still_app (still_one ⟨by show ¬ 7 = 20; decide, by show ¬ 7 = 21; decide, by show ¬ 7 = 22; decide⟩) (still_app (vV_st h1) (still_one ⟨by show ¬ 54 = 20; decide, by show ¬ 54 = 21; decide, by show ¬ 54 = 22; decide⟩))
/-- a right side of a let, and the same behind a name that is set -/
theorem vRs_none {x : gd} {r : Int32} {t' : Nat} {M : gU} (h : vRs x r (some t') M) : ∃ M0, vRs x r none M0 ∧ ((x.1 15 r.toNatClampNeg = 10 ∧ x.1 15 (x.1 16 r.toNatClampNeg).toNatClampNeg = 3 ∧ ∃ t, (x.1 19 (x.1 16 r.toNatClampNeg).toNatClampNeg).toNatClampNeg = t ∧ M = [(27, t', t)] ∧ M0 = [(24, t, 0)]) ∨ (x.1 15 r.toNatClampNeg = 10 ∧ ¬ x.1 15 (x.1 16 r.toNatClampNeg).toNatClampNeg = 3 ∧ M = [(25, t', 0)] ++ M0) ∨ (¬ x.1 15 r.toNatClampNeg = 10 ∧ M = [(26, t', 0)] ++ M0)) := by
  obtain ⟨⟨b, t, et, h⟩, h2⟩ := h
  rcases h with ⟨q1, q2, q3, q4, q5, q6⟩ | ⟨q1, q2, n, M1, q3, q4⟩ | ⟨q1, M1, q2, q3⟩ | ⟨q1, n, M1, M2, q2, q3, q4⟩ | ⟨q1, q2, n, m, M1, M2, M3, q3, q4, q5, q6⟩
  · exact ⟨[pal none t], ⟨⟨b, t, et, Or.inl ⟨q1, q2, rfl, q4, q5, q6⟩⟩, h2⟩, Or.inl ⟨q1, q5, t, q6, q3, rfl⟩⟩
  · refine ⟨pma none ++ ((M1 ++ [(54, 0, 0)]) ++ [(76, t, 0)]), ⟨⟨b, t, et, Or.inr (Or.inl ⟨q1, q2, n, M1, q3, rfl⟩)⟩, h2⟩, Or.inr (Or.inl ⟨q1, fun z => q2 ?_, q4⟩)⟩
    rw [et]
    exact h2 q1 z
  · exact ⟨pme none ++ (M1 ++ [(75, t, 0)]), ⟨⟨b, t, et, Or.inr (Or.inr (Or.inl ⟨q1, M1, q2, rfl⟩))⟩, h2⟩, Or.inr (Or.inr ⟨by rw [q1]; decide, q3⟩)⟩
  · refine ⟨pme none ++ (M1 ++ ((M2 ++ [(54, 0, 0)]) ++ [(74, t, 0)])), ⟨⟨b, t, et, Or.inr (Or.inr (Or.inr (Or.inl ⟨q1, n, M1, M2, q2, q3, rfl⟩)))⟩, h2⟩, Or.inr (Or.inr ⟨?_, q4⟩)⟩
    rcases q1 with ⟨q1, _⟩ | ⟨q1, _⟩ <;> (rw [q1]; decide)
  · exact ⟨pme none ++ (M1 ++ ((M2 ++ [(54, 0, 0)]) ++ ((M3 ++ [(54, 0, 0)]) ++ [(74, t, 0)]))), ⟨⟨b, t, et, Or.inr (Or.inr (Or.inr (Or.inr ⟨q1, q2, n, m, M1, M2, M3, q3, q4, q5, rfl⟩)))⟩, h2⟩, Or.inr (Or.inr ⟨by rw [q1]; decide, q6⟩)⟩
section LRF
variable {sN : Nat → Nat → Bool} {T : gTd} {V K : Nat → Int32} {E : gV}
theorem flt_sum {M : gU} : flt sN T V (M ++ [(54, 0, 0)]) E ↔ flt sN T V M E := by
  rw [flt_app]
  exact ⟨fun z => z.elim id (fun z => absurd z (flt_k rfl)), Or.inl⟩
theorem flt_end {M : gU} {k a b : Nat} (h : [3, 6, 7, 12, 23, 24, 25, 26, 27, 65, 66, 67, 70].elem k = false) : flt sN T V (M ++ [(k, a, b)]) E ↔ flt sN T V M E := by
  rw [flt_app]
  exact ⟨fun z => z.elim id (fun z => absurd z (flt_k h)), Or.inl⟩
theorem still_54 {M : gU} (h : still M) : still (M ++ [(54, 0, 0)]) := still_app h (still_one ⟨by show ¬ 54 = 20; decide, by show ¬ 54 = 21; decide, by show ¬ 54 = 22; decide⟩)
theorem NF_LF {x y : gd} {n w : Nat} (f : LF x y n w) : NF x y := ⟨⟨(NN_LF f).1, fun c h1 h2 j hj => (NN_LF f).2 c h1 (by omega) j hj⟩, f.1.2.1 5 (by decide) (by decide), f.1.2.1 7 (by decide) (by decide)⟩
theorem sf_layR {G : mG} {D a : Nat} {x : gd} {Fv : gd → Prop} {M0 : gU} (r slot s : Int32) (hD : a + 4 ≤ D) (p : PL x) (v : vR x a r) (vs : vRs x r none M0) (ke : KEn x E) (ct : CT sN T V K x) (s0 : 0 ≤ slot.toInt) (s8 : slot.toInt < 8) (hs : vp_in s 3000) (hs2 : vp_in (x.1 19 s.toNatClampNeg) 710) (hw : (x.1 0 49).toInt + a ≤ 5980) (hn : (x.1 0 52).toInt ≤ 1499) (h : ∀ x', LQ x x' 1 (a + 3) → md pL pA x x' → LX x x' (flt sN T V M0 E) → RQ sN T V K x x' E M0 slot → Fv x') : MT G D z_layR 0 [(0, vr 0), (1, vi r), (2, vi slot), (3, vi s)] [] x (rv Fv) := by
  obtain ⟨D, rfl⟩ : ∃ D', D = D' + 3 := ⟨D - 3, by omega⟩
  obtain ⟨lb, wb, kb, hN, w0, n0, t1⟩ := id p
  obtain ⟨v1, v2, v3⟩ := v
  obtain ⟨esm, e7, tr, e5⟩ := id ct
  obtain ⟨X, eX⟩ : ∃ X : Prop, X = flt sN T V M0 E := ⟨_, rfl⟩
  rw [← eX] at h
  have k0 : (0 : Int32).toInt = 0 := rfl
  have rv' : vp_in r 3000 := by rw [vp_in_iff]; omega
  have sn : vp_in (x.1 0 52) 1500 := by rw [vp_in_iff]; omega
  -- the last: a step laid behind y
  have out : ∀ (y z : gd) (w1 a1 b1 c1 d1 e1 f1 : Int32) (k : Nat), RQ sN T V K x z E M0 slot → LF x y 0 k → md pL pA x y → LX x y X → k ≤ a + 3 → stp y z w1 a1 b1 c1 d1 e1 f1 slot → wo y 0 d1 → wo y 0 e1 → wo y 0 f1 → ¬ w1 = 3 → sV (x.1 0 25).toInt ((x.1 0 52).toInt + 1) w1 a1 b1 c1 d1 slot → rv Fv none z := by
    intro y z w1 a1 b1 c1 d1 e1 f1 k hrq lf m lx hk st q1 q2 q3 w3 q4
    have e52 : (y.1 0 52).toInt = (x.1 0 52).toInt := by have := lf.2.2.1; have := lf.2.2.2.1; omega
    refine rv_i (h z (LQ_mono (by omega) (by omega) (LQ_tr (LQ_0 lf) (LQ_stp st lf.2.1 (by omega) (by omega) q1 q2 q3 w3 (by rw [e52, lf.1.1 25 (by decide)]; exact q4)))) (md_tr m st.1 rfl rfl) (LX_md lx st.1 (by decide)) hrq)
  have lay : ∀ (y : gd) (k : Nat), LF x y 0 k → md pL pA x y → vp_in (y.1 0 52) 1500 ∧ KEn y E ∧ (s = -1 ∨ (vp_in s 3000 ∧ vp_in (y.1 19 s.toNatClampNeg) 710)) ∧ TK y := by
    intro y k lf m
    have e52 : (y.1 0 52).toInt = (x.1 0 52).toInt := by have := lf.2.2.1; have := lf.2.2.2.1; omega
    exact ⟨by rw [vp_in_iff]; omega, KEn_md m (by decide) (by decide) (by decide) ke, Or.inr ⟨hs, by rw [m.2.1 19 (by decide) (by decide)]; exact hs2⟩, (LB_md m rfl rfl lb).1⟩
  have nv : ∀ (y : gd) (k : Nat), LF x y 0 k → vp_in (y.1 0 52) 1500 := by
    intro y k lf
    have e52 : (y.1 0 52).toInt = (x.1 0 52).toInt := by have := lf.2.2.1; have := lf.2.2.2.1; omega
    rw [vp_in_iff]; omega
  have rf : LF x x 0 0 := LF_wr (md_w (md_rf x) (by decide) (by decide)) wb
  have rfm : md pL pA x x := md_w (md_rf x) (by decide) (by decide)
  -- a read of a cell alone
  have p106 : ∀ (y : gd) (n : Int32), LF x y 0 0 → md pL pA x y → LX x y X → 0 ≤ n.toInt → n.toInt < 24 → (¬ X → ¬ E.2.1 = [] → ∃ i, M0 = [(24, i, 0)] ∧ kfi sN E.1 i = none ∧ n.toInt = nmT sN 0 i T) → MT G (D + 3) z_layR 106 [(0, vr 0), (2, vi slot), (3, vi s)] [vi n, vi 0, vr 0] y (rv Fv) := by
    intro y n lf m lx h1 h2 hc
    obtain ⟨l1, l2, l3, l4⟩ := lay y 0 lf m
    refine sg_layR_106 _ _ _ _ (sf_layAct _ _ _ l1 l2 l3 l4 (fun z hz hzm => ⟨l1, fun z2 e2 => ?_⟩))
    refine out y z2 _ _ _ _ _ _ _ 0 ?_ lf m lx (by omega) (stp_61 (stp_a hz) e2) (Or.inl rfl) (Or.inl rfl) (Or.inl rfl) (by decide) (Or.inr (Or.inr (Or.inr (Or.inr (Or.inr ⟨rfl, Or.inr ⟨s0, s8⟩, Or.inl ⟨by decide, by decide, h1, h2, by decide, Or.inl rfl⟩⟩)))))
    have hst := stp_61 (stp_a hz) e2
    have c0 : X ∨ ¬ X := Classical.em X
    by_cases cE : E.2.1 = []
    · exact fun _ hE => absurd cE hE
    rcases c0 with c0 | c0
    · exact fun nf => absurd (by rw [← eX]; exact c0) nf
    obtain ⟨i, eM, ek, en⟩ := hc c0 cE
    refine RQ_mk (op := 0) (ob := some i) (ro := false) (ix := none) (es := none) (fs := none) lf hst hn (by rw [e2, si_cell (by decide)]; exact hzm) rfl (fun _ => rfl) (by decide) (fun _ _ => ⟨fun S k w tg tk p hto => ?_, i32_of en, rfl, rfl, rfl, rfl⟩)
    rw [eM, cds_one, cd_24]
    unfold cAl
    rw [ek]
    show cEm _ (0, tk, knw E, toL sN E.1 tg, some i, false, none, none, none) = _
    rw [hto]
    rfl
  -- an act
  obtain ⟨PA, hPA⟩ : ∃ PA : gd → Int32 → Int32 → Int32 → Int32 → Int32 → Int32 → Prop, ∀ y a1 b1 c1 d1 e1 f1, PA y a1 b1 c1 d1 e1 f1 ↔ (¬ X → ¬ E.2.1 = [] → ∃ (op : Nat) (ob : Option Nat) (ro : Bool) (ix es fs : Option gU), op < 16 ∧ a1 = Int32.ofNat op ∧ (∀ S k w tg tk p, toL sN E.1 tg = some p → cds sN K M0 (E, S, k, ([], [], 0, false, tg, tk), w) = (E, S ++ [(op, tk, knw E, some p, ob, ro, ix, es, fs)], k, rg0, w)) ∧ b1 = mOf sN T V (op, 0, knw E, none, ob, ro, ix, es, fs) ∧ c1 = mSz sN T (op, 0, knw E, none, ob, ro, ix, es, fs) ∧ mSu sN T V K y E.1 d1 ix ∧ mSu sN T V K y E.1 e1 es ∧ mSu sN T V K y E.1 f1 fs) := ⟨_, fun _ _ _ _ _ _ _ => Iff.rfl⟩
  have p330 : ∀ (y z : gd) (k : Nat) (a1 b1 c1 d1 e1 f1 : Int32), LF x y 0 k → md pL pA x y → LX x y X → k ≤ a + 3 → aD y z a1 b1 → wo y 0 d1 → wo y 0 e1 → wo y 0 f1 → 0 ≤ a1.toInt → a1.toInt ≤ 4 → 0 ≤ b1.toInt → b1.toInt < 24 → 0 ≤ c1.toInt → b1.toInt + c1.toInt ≤ 24 → z.1 62 (y.1 0 52).toNatClampNeg = kms E.1 → PA y a1 b1 c1 d1 e1 f1 → MT G (D + 3) z_layR 330 [(0, vr 0), (2, vi slot), (7, vi d1), (8, vi e1), (9, vi f1), (10, vi (y.1 0 52))] [vi c1, vi (y.1 0 52), vr 57] z (rv Fv) := by
    intro y z k a1 b1 c1 d1 e1 f1 lf m lx hk hz q1 q2 q3 g1 g2 g3 g4 g5 g6 hzm hpa
    have l1 := nv y k lf
    refine sg_layR_330 _ _ _ _ _ _ _ ⟨l1, fun z2 e2 => ⟨l1, fun z4 e4 => ⟨l1, fun z6 e6 => ⟨l1, fun z8 e8 => ⟨l1, fun z10 e10 => ?_⟩⟩⟩⟩⟩
    refine out y z10 _ _ _ _ _ _ _ k ?_ lf m lx hk (stp_61 (stp_60 (stp_59 (stp_58 (stp_57 (stp_a hz) e2) e4) e6) e8) e10) q1 q2 q3 (by decide) (Or.inr (Or.inr (Or.inr (Or.inr (Or.inr ⟨rfl, Or.inr ⟨s0, s8⟩, Or.inl ⟨g1, g2, g3, g4, g5, Or.inr g6⟩⟩)))))
    have hst := stp_61 (stp_60 (stp_59 (stp_58 (stp_57 (stp_a hz) e2) e4) e6) e8) e10
    by_cases cE : E.2.1 = []
    · exact fun _ hE => absurd cE hE
    rcases Classical.em X with c0 | c0
    · exact fun nf => absurd (by rw [← eX]; exact c0) nf
    obtain ⟨op, ob, ro, ix, es, fs, o1, o2, o3, o4, o5, o6, o7, o8⟩ := (hPA _ _ _ _ _ _ _).mp hpa c0 cE
    exact RQ_mk (op := op) (ob := ob) (ro := ro) (ix := ix) (es := es) (fs := fs) lf hst hn (by rw [e10, si_cell (by decide), e8, si_cell (by decide), e6, si_cell (by decide), e4, si_cell (by decide), e2, si_cell (by decide)]; exact hzm) (by unfold mWh; rw [if_pos (by omega)]) (fun _ => o2) (by omega) (fun _ _ => ⟨o3, o4, o5, o6, o7, o8⟩)
  have p296 : ∀ (y : gd) (k : Nat) (a1 b1 d1 e1 f1 l5 l6 : Int32), LF x y 0 k → md pL pA x y → LX x y X → k ≤ a + 3 → wo y 0 d1 → wo y 0 e1 → wo y 0 f1 → 0 ≤ a1.toInt → a1.toInt ≤ 4 → cN x l6 → (l6 = -1 → b1 = 0) → (¬ l6 = -1 → b1 = y.1 32 l6.toNatClampNeg) → (l6 = -1 → X) → (¬ l6 = -1 → PA y a1 b1 (if l5 = 0 then 0 else y.1 33 l6.toNatClampNeg) d1 e1 f1) → MT G (D + 3) z_layR 296 [(0, vr 0), (2, vi slot), (3, vi s), (5, vi l5), (6, vi l6), (7, vi d1), (8, vi e1), (9, vi f1)] [vi b1, vi a1, vr 0] y (rv Fv) := by
    intro y k a1 b1 d1 e1 f1 l5 l6 lf m lx hk q1 q2 q3 g1 g2 g3 g4 g5 hx6 hpa
    obtain ⟨l1, l2, l3, l4⟩ := lay y k lf m
    refine sg_layR_296 _ _ _ _ _ _ _ _ _ (sf_layAct _ _ _ l1 l2 l3 l4 (fun z hz hzm => ⟨fun c => ?_, fun c => ?_⟩))
    · have e : b1.toInt = 0 := by rw [g4 c, k0]
      exact p330 y z k _ _ _ _ _ _ lf m lx hk hz q1 q2 q3 g1 g2 (by omega) (by omega) (by decide) (by rw [k0]; omega) hzm ((hPA _ _ _ _ _ _ _).mpr (fun nx => absurd (hx6 c) nx))
    · obtain ⟨c1, c2, c3, c4⟩ := cN_v lb lf g3 c
      rw [← g5 c] at c2 c4
      have hpa2 := hpa c
      refine ⟨fun cl => ⟨c1, ?_⟩, fun cl => p330 y z k _ _ _ _ _ _ lf m lx hk hz q1 q2 q3 g1 g2 (by omega) (by omega) (by decide) (by rw [k0]; omega) hzm (by rw [if_pos cl] at hpa2; exact hpa2)⟩
      rw [if_neg cl] at hpa2
      rw [hz.1.2.1 33 (by decide) (by decide)]
      exact p330 y z k _ _ _ _ _ _ lf m lx hk hz q1 q2 q3 g1 g2 (by omega) (by omega) (by omega) (by omega) hzm hpa2
  have p279 : ∀ (y : gd) (k : Nat) (a1 d1 e1 f1 l5 l6 : Int32), LF x y 0 k → md pL pA x y → LX x y X → k ≤ a + 3 → wo y 0 d1 → wo y 0 e1 → wo y 0 f1 → 0 ≤ a1.toInt → a1.toInt ≤ 4 → cN x l6 → (l6 = -1 → X) → (¬ l6 = -1 → PA y a1 (y.1 32 l6.toNatClampNeg) (if l5 = 0 then 0 else y.1 33 l6.toNatClampNeg) d1 e1 f1) → MT G (D + 3) z_layR 279 [(0, vr 0), (2, vi slot), (3, vi s), (5, vi l5), (6, vi l6), (7, vi d1), (8, vi e1), (9, vi f1)] [vi a1, vr 0] y (rv Fv) := by
    intro y k a1 d1 e1 f1 l5 l6 lf m lx hk q1 q2 q3 g1 g2 g3 hx6 hpa
    refine sg_layR_279 _ _ _ _ _ _ _ _ ⟨fun c => ⟨(cN_v lb lf g3 c).1, p296 y k _ _ _ _ _ _ _ lf m lx hk q1 q2 q3 g1 g2 g3 (fun q => absurd q c) (fun _ => rfl) hx6 hpa⟩, fun c => p296 y k _ _ _ _ _ _ _ lf m lx hk q1 q2 q3 g1 g2 g3 (fun _ => rfl) (fun q => absurd c q) hx6 (fun q => absurd c q)⟩
  have p230 : ∀ (y : gd) (k : Nat) (d1 e1 f1 l5 l6 : Int32), LF x y 0 k → md pL pA x y → LX x y X → k ≤ a + 3 → wo y 0 d1 → wo y 0 e1 → wo y 0 f1 → cN x l6 → (l6 = -1 → X) → (¬ l6 = -1 → ∀ a1 : Int32, (y.1 15 r.toNatClampNeg = 11 → a1 = 0) → (y.1 15 r.toNatClampNeg = 12 → a1 = 2) → (y.1 15 r.toNatClampNeg = 13 → a1 = 3) → (¬ y.1 15 r.toNatClampNeg = 11 → ¬ y.1 15 r.toNatClampNeg = 12 → ¬ y.1 15 r.toNatClampNeg = 13 → a1 = 4) → PA y a1 (y.1 32 l6.toNatClampNeg) (if l5 = 0 then 0 else y.1 33 l6.toNatClampNeg) d1 e1 f1) → MT G (D + 3) z_layR 230 [(0, vr 0), (1, vi r), (2, vi slot), (3, vi s), (5, vi l5), (6, vi l6), (7, vi d1), (8, vi e1)] [vi f1] y (rv Fv) := by
    intro y k d1 e1 f1 l5 l6 lf m lx hk q1 q2 q3 g3 hx6 hpa
    have f := fun (a1 : Int32) g1 g2 h11 h12 h13 h14 => p279 y k a1 d1 e1 f1 l5 l6 lf m lx hk q1 q2 q3 g1 g2 g3 hx6 (fun c => hpa c a1 h11 h12 h13 h14)
    exact sg_layR_230 _ _ _ _ _ _ _ _ ⟨rv', fun n11 => ⟨rv', fun n12 => ⟨rv', fun n13 => f 4 (by decide) (by decide) (fun q => absurd q n11) (fun q => absurd q n12) (fun q => absurd q n13) (fun _ _ _ => rfl), fun y13 => f 3 (by decide) (by decide) (fun q => absurd q n11) (fun q => absurd q n12) (fun _ => rfl) (fun _ _ q => absurd y13 q)⟩, fun y12 => f 2 (by decide) (by decide) (fun q => absurd q n11) (fun _ => rfl) (fun q => by rw [y12] at q; exact absurd q (by decide)) (fun _ q => absurd y12 q)⟩, fun y11 => f 0 (by decide) (by decide) (fun _ => rfl) (fun q => by rw [y11] at q; exact absurd q (by decide)) (fun q => by rw [y11] at q; exact absurd q (by decide)) (fun q => absurd y11 q)⟩
  have wk : ∀ (y : gd) (k s1 : Nat) (e1 : Int32) (M : gU) (F : Int32 → gd → Prop), LF x y 0 k → md pL pA x y → (x.1 0 49).toInt + k + s1 ≤ 5990 → s1 ≤ a → ((e1 = -1 ∧ M = []) ∨ (vE x s1 s1 17 e1 ∧ ∃ n', vV x false n' e1 M)) → (∀ r2 z, LW 0 s1 y r2 z → LX y z (flt sN T V M E) → (¬ e1 = -1 → ¬ flt sN T V M E → SUm z r2 (nPs sN T V K E.1 M)) → (e1 = -1 → r2 = -1) → F r2 z) → MT G (D + 2) z_workOf 0 [(0, vr 0), (1, vi e1), (2, vi 0)] [] y (ri F) := by
    intro y k s1 e1 M F lf m hk hsa hv hF
    obtain ⟨y1, y2, y3, y4, y5, y6, y7⟩ := PL_up p lf m
    have b6 := lf.2.2.2.2.2.1
    exact sf_workOf 0 (n := s1) (s := s1) (M := M) (by omega) (hv.imp id (fun z => ⟨vE_LF lf z.1, z.2.elim (fun n' g => ⟨n', vV_NF (NF_LF lf) g⟩)⟩)) y4 y1 y2 (fun _ => KEn_md m (by decide) (by decide) (by decide) ke) (CT_md m (by decide) rfl ct) y5 (by omega) (fun r2 z q _ lx su hm1 => hF r2 z q lx su hm1)
  obtain ⟨⟨vb, t, et, vs⟩, vs2⟩ := vs
  refine sg_layR_0 _ _ _ ⟨rv', fun c => ?_, fun c => ?_⟩
  · -- not an E
    have vp : ∃ (i j q : Nat) (N1 N2 N3 : gU), i + j + q ≤ a ∧ vP x i (x.1 16 r.toNatClampNeg) ∧ ((x.1 15 r.toNatClampNeg = 11 ∧ N2 = []) ∨ (¬ x.1 15 r.toNatClampNeg = 11 ∧ vE x j j 17 (x.1 17 r.toNatClampNeg) ∧ ∃ n, vV x false n (x.1 17 r.toNatClampNeg) N2)) ∧ ((¬ x.1 15 r.toNatClampNeg = 14 ∧ N3 = []) ∨ (x.1 15 r.toNatClampNeg = 14 ∧ vE x q q 17 (x.1 18 r.toNatClampNeg) ∧ ∃ n, vV x false n (x.1 18 r.toNatClampNeg) N3)) ∧ vQ x (x.1 16 r.toNatClampNeg) N1 ∧ (X ↔ flt sN T V N1 E ∨ flt sN T V N2 E ∨ flt sN T V N3 E) ∧ ((x.1 15 r.toNatClampNeg = 11 ∧ M0 = N1 ++ [(75, t, 0)]) ∨ (((x.1 15 r.toNatClampNeg = 12 ∧ K t = 35) ∨ (x.1 15 r.toNatClampNeg = 13 ∧ K t = 10)) ∧ M0 = N1 ++ ((N2 ++ [(54, 0, 0)]) ++ [(74, t, 0)])) ∨ (x.1 15 r.toNatClampNeg = 14 ∧ K t = 16 ∧ M0 = N1 ++ ((N2 ++ [(54, 0, 0)]) ++ ((N3 ++ [(54, 0, 0)]) ++ [(74, t, 0)])))) := by
      rcases v3 with q | q | ⟨q, i, j, g1, g2, g3⟩ | ⟨q, i, j, l, g1, g2, g3, g4⟩
      · exact absurd q.1 c
      · rcases vs with ⟨q1, _⟩ | ⟨q1, _⟩ | ⟨q1, M1, q2, q3⟩ | ⟨q1, _⟩ | ⟨q1, _⟩
        · exact absurd q1 c
        · exact absurd q1 c
        · refine ⟨a, 0, 0, M1, [], [], by omega, q.2, Or.inl ⟨q.1, rfl⟩, Or.inl ⟨by rw [q.1]; decide, rfl⟩, q2, ?_, Or.inl ⟨q.1, q3⟩⟩
          rw [eX, q3]
          show flt sN T V (M1 ++ [(75, t, 0)]) E ↔ _
          rw [flt_end rfl, flt_nil, or_false, or_false]
        · rw [q.1] at q1; rcases q1 with ⟨q1, _⟩ | ⟨q1, _⟩ <;> exact absurd q1 (by decide)
        · rw [q.1] at q1; exact absurd q1 (by decide)
      · rcases vs with ⟨q1, _⟩ | ⟨q1, _⟩ | ⟨q1, _⟩ | ⟨q1, n, M1, M2, q2, q3, q4⟩ | ⟨q1, _⟩
        · exact absurd q1 c
        · exact absurd q1 c
        · rw [q1] at q; exact absurd q (by decide)
        · refine ⟨i, j, 0, M1, M2, [], by omega, g2, Or.inr ⟨?_, g3, n, q3⟩, Or.inl ⟨?_, rfl⟩, q2, ?_, Or.inr (Or.inl ⟨by rw [← e5]; exact q1, q4⟩)⟩
          · rcases q with q | q <;> (rw [q]; decide)
          · rcases q with q | q <;> (rw [q]; decide)
          · rw [eX, q4]
            show flt sN T V (M1 ++ ((M2 ++ [(54, 0, 0)]) ++ [(74, t, 0)])) E ↔ _
            rw [flt_app, exs_still (vQ_st q2), flt_end rfl, flt_sum, flt_nil, or_false]
        · rw [q1] at q; exact absurd q (by decide)
      · rcases vs with ⟨q1, _⟩ | ⟨q1, _⟩ | ⟨q1, _⟩ | ⟨q1, _⟩ | ⟨q1, q2, n, m, M1, M2, M3, q3, q4, q5, q6⟩
        · exact absurd q1 c
        · exact absurd q1 c
        · rw [q1] at q; exact absurd q (by decide)
        · rw [q] at q1; rcases q1 with ⟨q1, _⟩ | ⟨q1, _⟩ <;> exact absurd q1 (by decide)
        · refine ⟨i, j, l, M1, M2, M3, g1, g2, Or.inr ⟨by rw [q]; decide, g3, n, q4⟩, Or.inr ⟨q, g4, m, q5⟩, q3, ?_, Or.inr (Or.inr ⟨q, by rw [← e5]; exact q2, q6⟩)⟩
          rw [eX, q6]
          show flt sN T V (M1 ++ ((M2 ++ [(54, 0, 0)]) ++ ((M3 ++ [(54, 0, 0)]) ++ [(74, t, 0)]))) E ↔ _
          rw [flt_app, exs_still (vQ_st q3), flt_app, exs_still (still_54 (vV_st q4)), flt_sum, flt_end rfl, flt_sum]
    obtain ⟨i, j, q, N1, N2, N3, g1, ⟨g2, g3, g4⟩, g5, g6, vq, hX, hkind⟩ := vp
    have pv : vp_in (x.1 16 r.toNatClampNeg) 3000 := by rw [vp_in_iff]; omega
    obtain ⟨tp, etp⟩ : ∃ tp, tp = (x.1 19 (x.1 16 r.toNatClampNeg).toNatClampNeg).toNatClampNeg := ⟨_, rfl⟩
    have s2 : ¬ x.1 15 r.toNatClampNeg = 11 → sEv false N2 := fun z => by
      rcases g5 with ⟨w, _⟩ | ⟨_, _, n, w⟩
      · exact absurd w z
      · exact vV_sE w
    have s3 : x.1 15 r.toNatClampNeg = 14 → sEv false N3 := fun z => by
      rcases g6 with ⟨w, _⟩ | ⟨_, _, n, w⟩
      · exact absurd z w
      · exact vV_sE w
    have mk : ∀ (y : gd) (b l6 d1 e1 f1 : Int32) (N0 : gU) (ro : Bool) (ix : Option gU), pPl tp N0 ro ix N1 → ro = decide (¬ b = 0) → (y.1 32 l6.toNatClampNeg).toInt = nmT sN 0 tp T → (¬ b = 0 → (y.1 33 l6.toNatClampNeg).toInt = rsT sN T tp) → (¬ X → mSu sN T V K y E.1 d1 ix) → (x.1 15 r.toNatClampNeg = 11 → e1 = -1) → (¬ x.1 15 r.toNatClampNeg = 11 → ¬ X → SUm y e1 (nPs sN T V K E.1 N2)) → (¬ x.1 15 r.toNatClampNeg = 14 → f1 = -1) → (x.1 15 r.toNatClampNeg = 14 → ¬ X → SUm y f1 (nPs sN T V K E.1 N3)) → ∀ a1 : Int32, (x.1 15 r.toNatClampNeg = 11 → a1 = 0) → (x.1 15 r.toNatClampNeg = 12 → a1 = 2) → (x.1 15 r.toNatClampNeg = 13 → a1 = 3) → (x.1 15 r.toNatClampNeg = 14 → a1 = 4) → PA y a1 (y.1 32 l6.toNatClampNeg) (if b = 0 then 0 else y.1 33 l6.toNatClampNeg) d1 e1 f1 := by
      intro y b l6 d1 e1 f1 N0 ro ix hpl hro h32 h33 hd1 he0 he1 hf0 hf1 a1 a11 a12 a13 a14
      have hsz : ∀ (op : Nat) (es fs : Option gU), op ≤ 4 → (if b = 0 then 0 else y.1 33 l6.toNatClampNeg) = mSz sN T (op, 0, knw E, none, some tp, ro, ix, es, fs) := fun op es fs ho => by
        unfold mSz
        show _ = if ro = true then (if op ≤ 4 then Int32.ofNat (rsT sN T tp) else 1) else 0
        rw [if_pos ho, hro]
        by_cases cb : b = 0
        · rw [if_pos cb, if_neg (by rw [cb]; decide)]
        · rw [if_neg cb, if_pos (decide_eq_true cb)]; exact i32_of (h33 cb)
      have hof : ∀ (op : Nat) (es fs : Option gU), op ≤ 4 → y.1 32 l6.toNatClampNeg = mOf sN T V (op, 0, knw E, none, some tp, ro, ix, es, fs) := fun op es fs ho => by
        show _ = if op ≤ 4 then Int32.ofNat (nmT sN 0 tp T) else _
        rw [if_pos ho]; exact i32_of h32
      refine (hPA _ _ _ _ _ _ _).mpr (fun nx hE => ?_)
      rcases hkind with ⟨z1, z2⟩ | ⟨z1, z2⟩ | ⟨z1, z2, z3⟩
      · refine ⟨0, some tp, ro, ix, none, none, by decide, a11 z1, fun S k w tg tk p hto => ?_, hof 0 none none (by decide), hsz 0 none none (by decide), hd1 nx, he0 z1, hf0 (by rw [z1]; decide)⟩
        rw [z2, cds_r75 hpl hE, hto]
      · have n11 : ¬ x.1 15 r.toNatClampNeg = 11 := by rcases z1 with ⟨z1, _⟩ | ⟨z1, _⟩ <;> (rw [z1]; decide)
        have n14 : ¬ x.1 15 r.toNatClampNeg = 14 := by rcases z1 with ⟨z1, _⟩ | ⟨z1, _⟩ <;> (rw [z1]; decide)
        have n16 : ¬ K t = 16 := by rcases z1 with ⟨_, z1⟩ | ⟨_, z1⟩ <;> (rw [z1]; decide)
        have ho : opX (K t) ≤ 4 ∧ a1 = Int32.ofNat (opX (K t)) := by
          rcases z1 with ⟨z0, z1⟩ | ⟨z0, z1⟩
          · rw [z1, a12 z0]; exact ⟨by decide, rfl⟩
          · rw [z1, a13 z0]; exact ⟨by decide, rfl⟩
        refine ⟨opX (K t), some tp, ro, ix, some N2, none, by omega, ho.2, fun S k w tg tk p hto => ?_, hof _ _ _ ho.1, hsz _ _ _ ho.1, hd1 nx, he1 n11 nx, hf0 n14⟩
        rw [z2, cds_r74 hpl (s2 n11) hE n16, hto]
      · have n11 : ¬ x.1 15 r.toNatClampNeg = 11 := by rw [z1]; decide
        refine ⟨4, some tp, ro, ix, some N2, some N3, by decide, a14 z1, fun S k w tg tk p hto => ?_, hof 4 _ _ (by decide), hsz 4 _ _ (by decide), hd1 nx, he1 n11 nx, hf1 z1 nx⟩
        rw [z3, cds_r74c hpl (s2 n11) (s3 z1) hE z2, hto]
    obtain ⟨DX, hDX⟩ : ∃ DX : gd → Int32 → Int32 → Int32 → Prop, ∀ y b l6 d1, DX y b l6 d1 ↔ ∃ (N0 : gU) (ro : Bool) (ix : Option gU), pPl tp N0 ro ix N1 ∧ ro = decide (¬ b = 0) ∧ (l6 = -1 → X) ∧ (¬ l6 = -1 → (x.1 32 l6.toNatClampNeg).toInt = nmT sN 0 tp T) ∧ (¬ l6 = -1 → ¬ b = 0 → (x.1 33 l6.toNatClampNeg).toInt = rsT sN T tp) ∧ (¬ X → mSu sN T V K y E.1 d1 ix) := ⟨_, fun _ _ _ _ => Iff.rfl⟩
    have DX_up : ∀ (y z : gd) (b l6 d1 : Int32) (n w : Nat), LF y z n w → DX y b l6 d1 → DX z b l6 d1 := fun y z b l6 d1 n w lf q => by
      obtain ⟨N0, ro, ix, h1, h2, h3, h4, h5, h6⟩ := (hDX _ _ _ _).mp q
      exact (hDX _ _ _ _).mpr ⟨N0, ro, ix, h1, h2, h3, h4, h5, fun nx => mSu_keep lf (h6 nx)⟩
    have p202 : ∀ (y : gd) (d1 e1 l5 l6 : Int32), LF x y 0 (i + 1 + (j + 1)) → md pL pA x y → LX x y (flt sN T V N1 E ∨ flt sN T V N2 E) → wo y 0 d1 → wo y 0 e1 → cN x l6 → DX y l5 l6 d1 → (x.1 15 r.toNatClampNeg = 11 → e1 = -1) → (¬ x.1 15 r.toNatClampNeg = 11 → ¬ X → SUm y e1 (nPs sN T V K E.1 N2)) → MT G (D + 3) z_layR 202 [(0, vr 0), (1, vi r), (2, vi slot), (3, vi s), (5, vi l5), (6, vi l6), (7, vi d1)] [vi e1] y (rv Fv) := by
      intro y d1 e1 l5 l6 lf m lx q1 q2 q6 hdx he0 he1
      have fin2 : ∀ (z : gd) (f1 : Int32) (n w : Nat), LF y z n w → md pL pA x z → (¬ x.1 15 r.toNatClampNeg = 14 → f1 = -1) → (x.1 15 r.toNatClampNeg = 14 → ¬ X → SUm z f1 (nPs sN T V K E.1 N3)) → (l6 = -1 → X) ∧ (¬ l6 = -1 → ∀ a1 : Int32, (z.1 15 r.toNatClampNeg = 11 → a1 = 0) → (z.1 15 r.toNatClampNeg = 12 → a1 = 2) → (z.1 15 r.toNatClampNeg = 13 → a1 = 3) → (¬ z.1 15 r.toNatClampNeg = 11 → ¬ z.1 15 r.toNatClampNeg = 12 → ¬ z.1 15 r.toNatClampNeg = 13 → a1 = 4) → PA z a1 (z.1 32 l6.toNatClampNeg) (if l5 = 0 then 0 else z.1 33 l6.toNatClampNeg) d1 e1 f1) := by
        intro z f1 n w lfz mz hf0 hf1
        obtain ⟨N0, ro, ix, h1, h2, h3, h4, h5, h6⟩ := (hDX _ _ _ _).mp (DX_up y z l5 l6 d1 n w lfz hdx)
        refine ⟨h3, fun c6 a1 => ?_⟩
        rw [mz.2.1 15 (by decide) (by decide), mz.2.1 32 (by decide) (by decide), mz.2.1 33 (by decide) (by decide)]
        intro a11 a12 a13 a14
        have e32 : z.1 32 = x.1 32 := mz.2.1 32 (by decide) (by decide)
        have e33 : z.1 33 = x.1 33 := mz.2.1 33 (by decide) (by decide)
        have := mk z l5 l6 d1 e1 f1 N0 ro ix h1 h2 (by rw [e32]; exact h4 c6) (by rw [e33]; exact h5 c6) h6 he0 (fun q nx => SUm_keep lfz.2.2.2.2.1 lfz.2.2.2.2.2.2.1 (he1 q nx)) hf0 hf1 a1 a11 a12 a13 (fun q => a14 (by rw [q]; decide) (by rw [q]; decide) (by rw [q]; decide))
        rw [e32, e33] at this
        exact this
      have e15 : y.1 15 = x.1 15 := m.2.1 15 (by decide) (by decide)
      have e18 : y.1 18 = x.1 18 := m.2.1 18 (by decide) (by decide)
      have f0 := fun c2 : ¬ y.1 15 r.toNatClampNeg = 14 => fin2 y (-1) 0 0 (LF_wr (md_w (md_rf y) (by decide) (by decide)) lf.2.1) m (fun _ => rfl) (fun q => absurd (by rw [e15]; exact q) c2)
      refine sg_layR_202 _ _ _ _ _ _ _ ⟨rv', fun c2 => p230 y _ _ _ _ _ _ lf m (LX_eq lx ?_) (by omega) q1 q2 (Or.inl rfl) q6 (f0 c2).1 (f0 c2).2, fun c2 => ⟨rv', ?_⟩⟩
      · rw [e15] at c2
        rcases g6 with ⟨_, z⟩ | ⟨z, _⟩
        · rw [hX, z, flt_nil, or_false]
        · exact absurd z c2
      rw [e15] at c2
      rw [e18]
      refine wk y _ q _ N3 _ lf m (by omega) (by omega) (Or.inr ?_) (fun r2 z lw lx2 su2 _ => ?_)
      · rcases g6 with ⟨z, _⟩ | ⟨_, z⟩
        · exact absurd c2 z
        · exact z
      have lf2 := LF_wk lw
      have h1 := lf2.2.2.2.2.1
      have h2 := lw.2.2.1
      have f1 := fin2 z r2 _ _ lf2 (md_tr m (LW_md lw) rfl rfl) (fun q => absurd c2 q) (fun _ nx => su2 (fun q => by
        rcases g6 with ⟨z, _⟩ | ⟨_, z, _⟩
        · exact absurd c2 z
        · rw [q] at z; exact absurd (vE_pos z) (by decide)) (fun q => nx (hX.mpr (Or.inr (Or.inr q)))))
      exact p230 z _ _ _ _ _ _ (LF_tr lf lf2) (md_tr m (LW_md lw) rfl rfl) (LX_eq (LX_tr lx lx2) (by rw [hX, or_assoc])) (by omega) (wo_keep h1 h2 q1) (wo_keep h1 h2 q2) lw.2.2.2.2.2 q6 f1.1 f1.2
    have p145 : ∀ b : Int32, (x.1 16 (x.1 16 r.toNatClampNeg).toNatClampNeg = -1 → b = 0) → (¬ x.1 16 (x.1 16 r.toNatClampNeg).toNatClampNeg = -1 → b = 1) → MT G (D + 3) z_layR 145 [(0, vr 0), (1, vi r), (2, vi slot), (3, vi s), (4, vi (x.1 16 r.toNatClampNeg))] [vi b] x (rv Fv) := by
      intro b hb0 hb1
      -- the place: its name, its index
      have hq : ∃ (N0 : gU) (ro : Bool) (ix : Option gU), (pPl tp N0 ro ix N1 ∧ ro = decide (¬ b = 0) ∧ (b = 0 → ix = none) ∧ (¬ b = 0 → ix = some N0 ∧ ¬ x.1 16 (x.1 16 r.toNatClampNeg).toNatClampNeg = -1) ∧ (b = 0 → x.1 16 (x.1 16 r.toNatClampNeg).toNatClampNeg = -1)) ∧ ((x.1 16 (x.1 16 r.toNatClampNeg).toNatClampNeg = -1 ∧ N0 = []) ∨ (vE x i i 17 (x.1 16 (x.1 16 r.toNatClampNeg).toNatClampNeg) ∧ ∃ n, vV x false n (x.1 16 (x.1 16 r.toNatClampNeg).toNatClampNeg) N0)) ∧ (b = 0 ∨ b = 1) ∧ (flt sN T V N1 E ↔ (((b = 0 → ¬ plc sN T (x.1 19 (x.1 16 r.toNatClampNeg).toNatClampNeg).toNatClampNeg) ∧ (b = 1 → ¬ ∃ n, rwc sN T (x.1 19 (x.1 16 r.toNatClampNeg).toNatClampNeg).toNatClampNeg n)) ∨ flt sN T V N0 E)) := by
        obtain ⟨-, ⟨z1, z2⟩ | ⟨z1, n, M1, z2, z3⟩⟩ := id vq
        · refine ⟨[], false, none, ⟨Or.inl ⟨rfl, rfl, by rw [etp]; exact z2⟩, by rw [hb0 z1]; rfl, fun _ => rfl, fun q => absurd (hb0 z1) q, fun _ => z1⟩, Or.inl ⟨z1, rfl⟩, Or.inl (hb0 z1), ?_⟩
          rw [z2, flt_one, fv_6, flt_nil, or_false, hb0 z1]
          exact ⟨fun z => ⟨fun _ => z, fun q => absurd q (by decide)⟩, fun z => z.1 rfl⟩
        · refine ⟨M1, true, some M1, ⟨Or.inr ⟨rfl, rfl, vV_sE z2, by rw [etp]; exact z3⟩, by rw [hb1 z1]; rfl, fun q => by rw [hb1 z1] at q; exact absurd q (by decide), fun _ => ⟨rfl, z1⟩, fun q => by rw [hb1 z1] at q; exact absurd q (by decide)⟩, Or.inr ⟨g4.resolve_left z1, n, z2⟩, Or.inr (hb1 z1), ?_⟩
          rw [z3, flt_app, flt_one, fv_7, exs_one, exV_still ⟨by show ¬ 7 = 20; decide, by show ¬ 7 = 21; decide, by show ¬ 7 = 22; decide⟩, flt_sum, hb1 z1]
          exact ⟨fun z => z.imp (fun z => ⟨fun q => absurd q (by decide), fun _ => z⟩) id, fun z => z.imp (fun z => z.2 rfl) id⟩
      obtain ⟨N0, ro, ix, ⟨pl1, pl2, pl3, pl4, pl5⟩, hN0, hb2, hfl⟩ := hq
      refine sg_layR_145 _ _ _ _ _ ⟨pv, sf_cellOf _ _ hb2 g3 lb wb tr (fun c2 y m wy hc lx hc2 hcn => ⟨pv, ?_⟩)⟩
      rw [esm] at hc2 hcn
      rw [← etp] at hcn
      have lf := LF_wr m wy
      have mm : md pL pA x y := md_w m (by decide) (by decide)
      have cn : cN x c2 := hc.imp id (fun q => ⟨q.1, q.2.1⟩)
      rw [m.2.1 16 (by decide) (by decide)]
      refine wk y 0 i _ N0 _ lf mm (by omega) (by omega) hN0 (fun r2 z lw lx2 su2 hm2 => ?_)
      have lx3 : LX x z (flt sN T V N1 E) := LX_eq (LX_tr lx lx2) (by rw [hc2, hfl])
      have hdx : DX z b c2 r2 := by
        refine (hDX _ _ _ _).mpr ⟨N0, ro, ix, pl1, pl2, fun q => hX.mpr (Or.inl (hfl.mpr (Or.inl (hc2.mp q)))), fun q => (hcn q).1, fun q q2 => (hcn q).2 (hb2.resolve_left q2), fun nx => ?_⟩
        by_cases cb : b = 0
        · rw [pl3 cb]; exact hm2 (pl5 cb)
        · rw [(pl4 cb).1]; exact su2 (pl4 cb).2 (fun q => nx (hX.mpr (Or.inl (hfl.mpr (Or.inr q)))))
      refine ⟨rv', fun c3 => ⟨rv', ?_⟩, fun c3 => ?_⟩
      · have lf2 := LF_tr lf (LF_wk lw)
        have m2 : md pL pA x z := md_tr mm (LW_md lw) rfl rfl
        rw [m2.2.1 15 (by decide) (by decide)] at c3
        rw [m2.2.1 17 (by decide) (by decide)]
        refine wk z _ j _ N2 _ lf2 m2 (by omega) (by omega) (Or.inr ?_) (fun r3 z3 lw3 lx4 su3 _ => ?_)
        · rcases g5 with ⟨z, _⟩ | ⟨_, z⟩
          · exact absurd z c3
          · exact z
        have lf3 := LF_wk lw3
        have := LF_tr lf2 lf3
        exact p202 z3 _ _ _ _ (by rw [show i + 1 + (j + 1) = 0 + (i + 1) + (j + 1) by omega]; exact this) (md_tr m2 (LW_md lw3) rfl rfl) (LX_tr lx3 lx4) (wo_keep lf3.2.2.2.2.1 lw3.2.2.1 lw.2.2.2.2.2) lw3.2.2.2.2.2 cn (DX_up _ _ _ _ _ _ _ lf3 hdx) (fun q => absurd q c3) (fun _ nx => su3 (fun q => by
          rcases g5 with ⟨z, _⟩ | ⟨_, z, _⟩
          · exact absurd z c3
          · rw [q] at z; exact absurd (vE_pos z) (by decide)) (fun q => nx (hX.mpr (Or.inr (Or.inl q)))))
      · have lf2 := LF_tr lf (LF_wk lw)
        have m2 : md pL pA x z := md_tr mm (LW_md lw) rfl rfl
        rw [m2.2.1 15 (by decide) (by decide)] at c3
        obtain ⟨a1, a2, a3, a4, a5, a6, a7, a8⟩ := lf2
        refine p202 z _ _ _ _ ⟨a1, a2, a3, a4, a5, by omega, a7, a8⟩ m2 (LX_eq lx3 ?_) lw.2.2.2.2.2 (Or.inl rfl) cn hdx (fun _ => rfl) (fun q => absurd c3 q)
        rcases g5 with ⟨_, z⟩ | ⟨z, _⟩
        · rw [z, flt_nil, or_false]
        · exact absurd c3 z
    exact sg_layR_58 _ _ _ ⟨rv', fun _ => ⟨rv', pv, fun z => p145 0 (fun _ => rfl) (fun q => absurd z q), fun z => p145 1 (fun q => absurd q z) (fun _ => rfl)⟩, fun q => absurd q c⟩
  · have ve : vE x a a 17 (x.1 16 r.toNatClampNeg) := by
      rcases v3 with q | q | ⟨q, _⟩ | ⟨q, _⟩
      · exact q.2
      · rw [c] at q; exact absurd q.1 (by decide)
      · rw [c] at q; exact absurd q (by decide)
      · rw [c] at q; exact absurd q (by decide)
    have pv : vp_in (x.1 16 r.toNatClampNeg) 3000 ∧ vp_in (x.1 19 (x.1 16 r.toNatClampNeg).toNatClampNeg) 710 := by
      cases a with
      | zero => exact ve.elim
      | succ a => exact ⟨by rw [vp_in_iff]; have := ve.1; omega, ve.2.2.2.1⟩
    -- a name alone, or a sum
    have hM : ∃ (n : Nat) (M1 : gU), vV x false n (x.1 16 r.toNatClampNeg) M1 ∧ (¬ (x.1 15 (x.1 16 r.toNatClampNeg).toNatClampNeg = 3 ∧ kfi sN E.1 (x.1 19 (x.1 16 r.toNatClampNeg).toNatClampNeg).toNatClampNeg = none) → (X ↔ flt sN T V M1 E)) ∧ (x.1 15 (x.1 16 r.toNatClampNeg).toNatClampNeg = 3 → kfi sN E.1 (x.1 19 (x.1 16 r.toNatClampNeg).toNatClampNeg).toNatClampNeg = none → (X ↔ ¬ plc sN T (x.1 19 (x.1 16 r.toNatClampNeg).toNatClampNeg).toNatClampNeg)) ∧ ((M0 = [(24, (x.1 19 (x.1 16 r.toNatClampNeg).toNatClampNeg).toNatClampNeg, 0)] ∧ M1 = [(3, (x.1 19 (x.1 16 r.toNatClampNeg).toNatClampNeg).toNatClampNeg, 0)] ∧ x.1 15 (x.1 16 r.toNatClampNeg).toNatClampNeg = 3) ∨ (M0 = (M1 ++ [(54, 0, 0)]) ++ [(76, t, 0)] ∧ ¬ x.1 15 (x.1 16 r.toNatClampNeg).toNatClampNeg = 3)) := by
      rcases vs with ⟨q1, q2, q3, ⟨n, M1, q4⟩, q5, q6⟩ | ⟨q1, q2, n, M1, q3, q4⟩ | ⟨q1, _⟩ | ⟨q1, _⟩ | ⟨q1, _⟩
      · have hx : X ↔ kfi sN E.1 t = none ∧ ¬ plc sN T t := by
          rw [eX, q3]
          show flt sN T V [(24, t, 0)] E ↔ _
          rw [flt_one, fv_24]
        refine ⟨n, M1, q4, fun z => ?_, fun _ z => ?_, Or.inl ⟨by rw [q6]; exact q3, (vV_c q4).2.2.1 q5, q5⟩⟩
        · rw [q6] at z
          have z2 : ¬ kfi sN E.1 t = none := fun w => z ⟨q5, w⟩
          have eM := (vV_c q4).2.2.1 q5
          rw [hx, eM, if_neg (by decide), flt_one, fv_3, q6]
          exact ⟨fun w => absurd w.1 z2, fun w => absurd w z2⟩
        · rw [q6] at z ⊢
          rw [hx]
          exact ⟨fun w => w.2, fun w => ⟨z, w⟩⟩
      · have n3 : ¬ x.1 15 (x.1 16 r.toNatClampNeg).toNatClampNeg = 3 := fun z => q2 (by rw [et]; exact vs2 q1 z)
        refine ⟨n, M1, q3, fun _ => ?_, fun z => absurd z n3, Or.inr ⟨q4, n3⟩⟩
        rw [eX, q4]
        show flt sN T V ((M1 ++ [(54, 0, 0)]) ++ [(76, t, 0)]) E ↔ _
        rw [flt_end rfl, flt_sum]
      · rw [q1] at c; exact absurd c (by decide)
      · rcases q1 with ⟨q1, _⟩ | ⟨q1, _⟩ <;> (rw [q1] at c; exact absurd c (by decide))
      · rw [q1] at c; exact absurd c (by decide)
    obtain ⟨n, M1, vv, hX1, hX2, hM3⟩ := hM
    refine sf_isCellAlone _ rv' (fun _ => pv) lb.1 ke (fun q0 => ⟨fun q => absurd rfl q, fun _ => ⟨rv', ?_⟩⟩) (fun _ a3 a4 => ⟨fun _ => ?_, fun q => absurd q (by decide)⟩)
    · rw [esm] at q0
      refine wk x 0 a _ M1 _ rf rfm (by omega) (by omega) (Or.inr ⟨ve, n, vv⟩) (fun r2 z lw lx su2 _ => ?_)
      have lf2 := LF_wk lw
      have m2 := LW_md lw
      obtain ⟨l1, l2, l3, l4⟩ := lay z _ lf2 m2
      refine sf_layStep _ _ l1 l2 l3 l4 (fun w hw2 hwm => ⟨l1, fun w2 e2 => ⟨l1, fun w4 e4 => ?_⟩⟩)
      refine out z w4 _ _ _ _ _ _ _ _ ?_ lf2 m2 (LX_eq lx (hX1 (fun z => q0 ⟨c, z.1, z.2⟩)).symm) (by omega) (stp_61 (stp_59 (stp_s hw2) e2) e4) (Or.inl rfl) lw.2.2.2.2.2 (Or.inl rfl) (by decide) (Or.inl ⟨rfl, s0, s8⟩)
      have hnk : ¬ (x.1 15 (x.1 16 r.toNatClampNeg).toNatClampNeg = 3 ∧ kfi sN E.1 (x.1 19 (x.1 16 r.toNatClampNeg).toNatClampNeg).toNatClampNeg = none) := fun z => q0 ⟨c, z.1, z.2⟩
      have hst := stp_61 (stp_59 (stp_s hw2) e2) e4
      refine RQ_mk (op := 16) (ob := none) (ro := false) (ix := none) (es := some M1) (fs := none) lf2 hst hn (by rw [e4, si_cell (by decide), e2, si_cell (by decide)]; exact hwm) rfl (fun q => absurd q (by decide)) (by decide) (fun nf hE => ⟨fun S k w tg tk p hto => ?_, rfl, rfl, rfl, su2 (fun q => ?_) (fun q => nf ?_), rfl⟩)
      · rcases hM3 with ⟨z1, z2, z3⟩ | ⟨z1, z2⟩
        · rw [z1, z2, cds_one, cd_24]
          unfold cAl
          cases hk : kfi sN E.1 (x.1 19 (x.1 16 r.toNatClampNeg).toNatClampNeg).toNatClampNeg with
          | none => exact absurd ⟨z3, hk⟩ hnk
          | some p2 =>
            show cSe sN (E, S, k, ([], [], 0, false, tg, tk), w) tg tk _ = _
            unfold cSe
            rw [show toL sN (E, S, k, (([], [], 0, false, tg, tk) : gRg), w).1.1 tg = some p from hto]
            rfl
        · rw [z1, cds_app, cds_x (vV_sE vv) hE, cds_one, cd_76]
          unfold cSe
          rw [show toL sN (E, S, k, (([], [] ++ [M1], 0, false, tg, tk) : gRg), w).1.1 tg = some p from hto]
          rfl
      · rw [q] at ve; exact absurd (vE_pos ve) (by decide)
      · rw [← eX]; exact (hX1 hnk).mpr q
    · rw [esm] at a4
      have hX3 := hX2 a3 a4
      refine sg_layR_58 _ _ _ ⟨rv', fun q => absurd c q, fun _ => ⟨rv', pv.1, sf_cellOf _ _ (Or.inl rfl) pv.2 lb wb tr (fun c2 y m wy hc lx hc2 hcn => ?_)⟩⟩
      rw [esm] at hc2 hcn
      have hal := fun nx : ¬ X => hM3.resolve_right (fun z => z.2 a3)
      have lx2 : LX x y X := LX_eq lx (by rw [hc2, hX3]; exact ⟨fun z => z.1 rfl, fun z => ⟨fun _ => z, fun q => absurd q (by decide)⟩⟩)
      refine ⟨fun c3 => ?_, fun c3 => ?_⟩
      · have lf := LF_wr m wy
        have c39 := c3
        obtain ⟨c1, c2, c3, c4⟩ := cN_v lb lf (hc.imp id (fun q => ⟨q.1, q.2.1⟩)) c3
        exact ⟨c1, p106 y _ lf (md_w m (by decide) (by decide)) lx2 c2 (by omega) (fun nx _ => ⟨_, (hal nx).1, a4, by rw [m.2.1 32 (by decide) (by decide)]; exact (hcn c39).1⟩)⟩
      · exact p106 y _ (LF_wr m wy) (md_w m (by decide) (by decide)) lx2 (by decide) (by decide) (fun nx => absurd (hX3.mpr ((hc2.mp c3).1 rfl)) nx)
end LRF
