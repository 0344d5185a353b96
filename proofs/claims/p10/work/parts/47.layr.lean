theorem vE_LF {x y : gd} {n w : Nat} (f : LF x y n w) {i s h : Nat} {e : Int32} (q : vE x i s h e) : vE y i s h e :=
  vE_keep (NN_LF f).1 (fun c h1 h2 j hj => (NN_LF f).2 c h1 (by omega) j hj) _ _ _ _ q
theorem LW_md {o r : Int32} {s : Nat} {x y : gd} (q : LW o s x r y) : md pL pA x y := md_w q.1 (by decide) (by decide)
/-- a cell's number and size, as cellOf tells them -/
def cN (x : gd) (r : Int32) : Prop := r = -1 ∨ ((0 ≤ r.toInt ∧ r.toInt < (x.1 0 28).toInt) ∧ x.1 31 r.toNatClampNeg = 0)
theorem cN_v {x y : gd} {n w : Nat} (lb : LB x) (f : LF x y n w) {r : Int32} (q : cN x r) (h : ¬ r = -1) : vp_in r 40 ∧ 0 ≤ (y.1 32 r.toNatClampNeg).toInt ∧ 1 ≤ (y.1 33 r.toNatClampNeg).toInt ∧ (y.1 32 r.toNatClampNeg).toInt + (y.1 33 r.toNatClampNeg).toInt ≤ 24 := by
  obtain ⟨q1, q2⟩ := q.resolve_left h
  rw [f.1.2.1 32 (by decide) (by decide), f.1.2.1 33 (by decide) (by decide)]
  exact ⟨LB_v lb q1, LB_num lb q1 q2⟩
theorem sp_layR {G : mG} {D a : Nat} {x : gd} {Fv : gd → Prop} (r slot s : Int32) (hD : a + 4 ≤ D) (p : PL x) (v : vR x a r) (s0 : 0 ≤ slot.toInt) (s8 : slot.toInt < 8) (hs : vp_in s 3000) (hs2 : vp_in (x.1 19 s.toNatClampNeg) 710) (hw : (x.1 0 49).toInt + a ≤ 5980) (hn : (x.1 0 52).toInt ≤ 1499) (h : ∀ x', LQ x x' 1 (a + 3) → md pL pA x x' → Fv x') : MT G D z_layR 0 [(0, vr 0), (1, vi r), (2, vi slot), (3, vi s)] [] x (rv Fv) := by
  obtain ⟨D, rfl⟩ : ∃ D', D = D' + 3 := ⟨D - 3, by omega⟩
  obtain ⟨lb, wb, kb, hN, w0, n0, t1⟩ := id p
  obtain ⟨v1, v2, v3⟩ := v
  have k0 : (0 : Int32).toInt = 0 := rfl
  have rv' : vp_in r 3000 := by rw [vp_in_iff]; omega
  have sn : vp_in (x.1 0 52) 1500 := by rw [vp_in_iff]; omega
  -- the last: a step laid behind y
  have out : ∀ (y z : gd) (w1 a1 b1 c1 d1 e1 f1 : Int32) (k : Nat), LF x y 0 k → md pL pA x y → k ≤ a + 3 → stp y z w1 a1 b1 c1 d1 e1 f1 slot → wo y 0 d1 → wo y 0 e1 → wo y 0 f1 → ¬ w1 = 3 → sV (x.1 0 25).toInt ((x.1 0 52).toInt + 1) w1 a1 b1 c1 d1 slot → rv Fv none z := by
    intro y z w1 a1 b1 c1 d1 e1 f1 k lf m hk st q1 q2 q3 w3 q4
    have e52 : (y.1 0 52).toInt = (x.1 0 52).toInt := by have := lf.2.2.1; have := lf.2.2.2.1; omega
    refine rv_i (h z (LQ_mono (by omega) (by omega) (LQ_tr (LQ_0 lf) (LQ_stp st lf.2.1 (by omega) (by omega) q1 q2 q3 w3 (by rw [e52, lf.1.1 25 (by decide)]; exact q4)))) (md_tr m st.1 rfl rfl))
  have lay : ∀ (y : gd) (k : Nat), LF x y 0 k → md pL pA x y → vp_in (y.1 0 52) 1500 ∧ KB y ∧ (s = -1 ∨ (vp_in s 3000 ∧ vp_in (y.1 19 s.toNatClampNeg) 710)) ∧ TK y := by
    intro y k lf m
    have e52 : (y.1 0 52).toInt = (x.1 0 52).toInt := by have := lf.2.2.1; have := lf.2.2.2.1; omega
    exact ⟨by rw [vp_in_iff]; omega, KB_md m (by decide) (by decide) (by decide) kb, Or.inr ⟨hs, by rw [m.2.1 19 (by decide) (by decide)]; exact hs2⟩, (LB_md m rfl rfl lb).1⟩
  have nv : ∀ (y : gd) (k : Nat), LF x y 0 k → vp_in (y.1 0 52) 1500 := by
    intro y k lf
    have e52 : (y.1 0 52).toInt = (x.1 0 52).toInt := by have := lf.2.2.1; have := lf.2.2.2.1; omega
    rw [vp_in_iff]; omega
  have rf : LF x x 0 0 := LF_wr (md_w (md_rf x) (by decide) (by decide)) wb
  have rfm : md pL pA x x := md_w (md_rf x) (by decide) (by decide)
  -- a read of a cell alone
  have p106 : ∀ (y : gd) (n : Int32), LF x y 0 0 → md pL pA x y → 0 ≤ n.toInt → n.toInt < 24 → MT G (D + 3) z_layR 106 [(0, vr 0), (2, vi slot), (3, vi s)] [vi n, vi 0, vr 0] y (rv Fv) := by
    intro y n lf m h1 h2
    obtain ⟨l1, l2, l3, l4⟩ := lay y 0 lf m
    refine sg_layR_106 _ _ _ _ (sp_layAct _ _ _ l1 l2 l3 l4 (fun z hz => ⟨l1, fun z2 e2 => ?_⟩))
    exact out y z2 _ _ _ _ _ _ _ 0 lf m (by omega) (stp_61 (stp_a hz) e2) (Or.inl rfl) (Or.inl rfl) (Or.inl rfl) (by decide) (Or.inr (Or.inr (Or.inr (Or.inr (Or.inr ⟨rfl, Or.inr ⟨s0, s8⟩, Or.inl ⟨by decide, by decide, h1, h2, by decide, Or.inl rfl⟩⟩)))))
  -- an act
  have p330 : ∀ (y z : gd) (k : Nat) (a1 b1 c1 d1 e1 f1 : Int32), LF x y 0 k → md pL pA x y → k ≤ a + 3 → aD y z a1 b1 → wo y 0 d1 → wo y 0 e1 → wo y 0 f1 → 0 ≤ a1.toInt → a1.toInt ≤ 4 → 0 ≤ b1.toInt → b1.toInt < 24 → 0 ≤ c1.toInt → b1.toInt + c1.toInt ≤ 24 → MT G (D + 3) z_layR 330 [(0, vr 0), (2, vi slot), (7, vi d1), (8, vi e1), (9, vi f1), (10, vi (y.1 0 52))] [vi c1, vi (y.1 0 52), vr 57] z (rv Fv) := by
    intro y z k a1 b1 c1 d1 e1 f1 lf m hk hz q1 q2 q3 g1 g2 g3 g4 g5 g6
    have l1 := nv y k lf
    refine sg_layR_330 _ _ _ _ _ _ _ ⟨l1, fun z2 e2 => ⟨l1, fun z4 e4 => ⟨l1, fun z6 e6 => ⟨l1, fun z8 e8 => ⟨l1, fun z10 e10 => ?_⟩⟩⟩⟩⟩
    exact out y z10 _ _ _ _ _ _ _ k lf m hk (stp_61 (stp_60 (stp_59 (stp_58 (stp_57 (stp_a hz) e2) e4) e6) e8) e10) q1 q2 q3 (by decide) (Or.inr (Or.inr (Or.inr (Or.inr (Or.inr ⟨rfl, Or.inr ⟨s0, s8⟩, Or.inl ⟨g1, g2, g3, g4, g5, Or.inr g6⟩⟩)))))
  have p296 : ∀ (y : gd) (k : Nat) (a1 b1 d1 e1 f1 l5 l6 : Int32), LF x y 0 k → md pL pA x y → k ≤ a + 3 → wo y 0 d1 → wo y 0 e1 → wo y 0 f1 → 0 ≤ a1.toInt → a1.toInt ≤ 4 → cN x l6 → (l6 = -1 → b1 = 0) → (¬ l6 = -1 → b1 = y.1 32 l6.toNatClampNeg) → MT G (D + 3) z_layR 296 [(0, vr 0), (2, vi slot), (3, vi s), (5, vi l5), (6, vi l6), (7, vi d1), (8, vi e1), (9, vi f1)] [vi b1, vi a1, vr 0] y (rv Fv) := by
    intro y k a1 b1 d1 e1 f1 l5 l6 lf m hk q1 q2 q3 g1 g2 g3 g4 g5
    obtain ⟨l1, l2, l3, l4⟩ := lay y k lf m
    refine sg_layR_296 _ _ _ _ _ _ _ _ _ (sp_layAct _ _ _ l1 l2 l3 l4 (fun z hz => ⟨fun c => ?_, fun c => ?_⟩))
    · have e : b1.toInt = 0 := by rw [g4 c, k0]
      exact p330 y z k _ _ _ _ _ _ lf m hk hz q1 q2 q3 g1 g2 (by omega) (by omega) (by decide) (by rw [k0]; omega)
    · obtain ⟨c1, c2, c3, c4⟩ := cN_v lb lf g3 c
      rw [← g5 c] at c2 c4
      refine ⟨fun _ => ⟨c1, ?_⟩, fun _ => p330 y z k _ _ _ _ _ _ lf m hk hz q1 q2 q3 g1 g2 (by omega) (by omega) (by decide) (by rw [k0]; omega)⟩
      rw [hz.1.2.1 33 (by decide) (by decide)]
      exact p330 y z k _ _ _ _ _ _ lf m hk hz q1 q2 q3 g1 g2 (by omega) (by omega) (by omega) (by omega)
  have p279 : ∀ (y : gd) (k : Nat) (a1 d1 e1 f1 l5 l6 : Int32), LF x y 0 k → md pL pA x y → k ≤ a + 3 → wo y 0 d1 → wo y 0 e1 → wo y 0 f1 → 0 ≤ a1.toInt → a1.toInt ≤ 4 → cN x l6 → MT G (D + 3) z_layR 279 [(0, vr 0), (2, vi slot), (3, vi s), (5, vi l5), (6, vi l6), (7, vi d1), (8, vi e1), (9, vi f1)] [vi a1, vr 0] y (rv Fv) := by
    intro y k a1 d1 e1 f1 l5 l6 lf m hk q1 q2 q3 g1 g2 g3
    refine sg_layR_279 _ _ _ _ _ _ _ _ ⟨fun c => ⟨(cN_v lb lf g3 c).1, p296 y k _ _ _ _ _ _ _ lf m hk q1 q2 q3 g1 g2 g3 (fun q => absurd q c) (fun _ => rfl)⟩, fun c => p296 y k _ _ _ _ _ _ _ lf m hk q1 q2 q3 g1 g2 g3 (fun _ => rfl) (fun q => absurd c q)⟩
  have p230 : ∀ (y : gd) (k : Nat) (d1 e1 f1 l5 l6 : Int32), LF x y 0 k → md pL pA x y → k ≤ a + 3 → wo y 0 d1 → wo y 0 e1 → wo y 0 f1 → cN x l6 → MT G (D + 3) z_layR 230 [(0, vr 0), (1, vi r), (2, vi slot), (3, vi s), (5, vi l5), (6, vi l6), (7, vi d1), (8, vi e1)] [vi f1] y (rv Fv) := by
    intro y k d1 e1 f1 l5 l6 lf m hk q1 q2 q3 g3
    have f := fun (a1 : Int32) g1 g2 => p279 y k a1 d1 e1 f1 l5 l6 lf m hk q1 q2 q3 g1 g2 g3
    exact sg_layR_230 _ _ _ _ _ _ _ _ ⟨rv', fun _ => ⟨rv', fun _ => ⟨rv', fun _ => f 4 (by decide) (by decide), fun _ => f 3 (by decide) (by decide)⟩, fun _ => f 2 (by decide) (by decide)⟩, fun _ => f 0 (by decide) (by decide)⟩
  have wk : ∀ (y : gd) (k s1 : Nat) (e1 : Int32) (F : Int32 → gd → Prop), LF x y 0 k → md pL pA x y → (x.1 0 49).toInt + k + s1 ≤ 5990 → s1 ≤ a → (e1 = -1 ∨ vE x s1 s1 17 e1) → (∀ r2 z, LW 0 s1 y r2 z → F r2 z) → MT G (D + 2) z_workOf 0 [(0, vr 0), (1, vi e1), (2, vi 0)] [] y (ri F) := by
    intro y k s1 e1 F lf m hk hsa hv hF
    obtain ⟨y1, y2, y3, y4, y5, y6, y7⟩ := PL_up p lf m
    have b6 := lf.2.2.2.2.2.1
    exact sp_workOf 0 (n := s1) (s := s1) (by omega) (hv.imp id (vE_LF lf)) y4 y1 y2 (fun _ => y3) y5 (by omega) (fun r2 z q _ => hF r2 z q)
  refine sg_layR_0 _ _ _ ⟨rv', fun c => ?_, fun c => ?_⟩
  · -- not an E
    have vp : ∃ i j q : Nat, i + j + q ≤ a ∧ vP x i (x.1 16 r.toNatClampNeg) ∧ (x.1 15 r.toNatClampNeg = 11 ∨ vE x j j 17 (x.1 17 r.toNatClampNeg)) ∧ (¬ x.1 15 r.toNatClampNeg = 14 ∨ vE x q q 17 (x.1 18 r.toNatClampNeg)) := by
      rcases v3 with q | q | ⟨q, i, j, g1, g2, g3⟩ | ⟨q, i, j, l, g1, g2, g3, g4⟩
      · exact absurd q.1 c
      · exact ⟨a, 0, 0, by omega, q.2, Or.inl q.1, Or.inl (by rw [q.1]; decide)⟩
      · refine ⟨i, j, 0, by omega, g2, Or.inr g3, Or.inl ?_⟩
        rcases q with q | q <;> (rw [q]; decide)
      · exact ⟨i, j, l, g1, g2, Or.inr g3, Or.inr g4⟩
    obtain ⟨i, j, q, g1, ⟨g2, g3, g4⟩, g5, g6⟩ := vp
    have pv : vp_in (x.1 16 r.toNatClampNeg) 3000 := by rw [vp_in_iff]; omega
    have p202 : ∀ (y : gd) (d1 e1 l5 l6 : Int32), LF x y 0 (i + 1 + (j + 1)) → md pL pA x y → wo y 0 d1 → wo y 0 e1 → cN x l6 → MT G (D + 3) z_layR 202 [(0, vr 0), (1, vi r), (2, vi slot), (3, vi s), (5, vi l5), (6, vi l6), (7, vi d1)] [vi e1] y (rv Fv) := by
      intro y d1 e1 l5 l6 lf m q1 q2 q6
      have e15 : y.1 15 = x.1 15 := m.2.1 15 (by decide) (by decide)
      have e18 : y.1 18 = x.1 18 := m.2.1 18 (by decide) (by decide)
      refine sg_layR_202 _ _ _ _ _ _ _ ⟨rv', fun _ => p230 y _ _ _ _ _ _ lf m (by omega) q1 q2 (Or.inl rfl) q6, fun c2 => ⟨rv', ?_⟩⟩
      rw [e15] at c2
      rw [e18]
      refine wk y _ q _ _ lf m (by omega) (by omega) (Or.inr (g6.resolve_left (fun z => z c2))) (fun r2 z lw => ?_)
      have lf2 := LF_wk lw
      have h1 := lf2.2.2.2.2.1
      have h2 := lw.2.2.1
      exact p230 z _ _ _ _ _ _ (LF_tr lf lf2) (md_tr m (LW_md lw) rfl rfl) (by omega) (wo_keep h1 h2 q1) (wo_keep h1 h2 q2) lw.2.2.2.2.2 q6
    have p145 : ∀ b : Int32, MT G (D + 3) z_layR 145 [(0, vr 0), (1, vi r), (2, vi slot), (3, vi s), (4, vi (x.1 16 r.toNatClampNeg))] [vi b] x (rv Fv) := by
      intro b
      refine sg_layR_145 _ _ _ _ _ ⟨pv, sp_cellOf _ _ g3 lb wb (fun c2 y m wy hc => ⟨pv, ?_⟩)⟩
      have lf := LF_wr m wy
      have mm : md pL pA x y := md_w m (by decide) (by decide)
      have cn : cN x c2 := hc.imp id (fun q => ⟨q.1, q.2.1⟩)
      rw [m.2.1 16 (by decide) (by decide)]
      refine wk y 0 i _ _ lf mm (by omega) (by omega) g4 (fun r2 z lw => ⟨rv', fun c3 => ⟨rv', ?_⟩, fun c3 => ?_⟩)
      · have lf2 := LF_tr lf (LF_wk lw)
        have m2 : md pL pA x z := md_tr mm (LW_md lw) rfl rfl
        rw [m2.2.1 15 (by decide) (by decide)] at c3
        rw [m2.2.1 17 (by decide) (by decide)]
        refine wk z _ j _ _ lf2 m2 (by omega) (by omega) (Or.inr (g5.resolve_left c3)) (fun r3 z3 lw3 => ?_)
        have lf3 := LF_wk lw3
        have := LF_tr lf2 lf3
        exact p202 z3 _ _ _ _ (by rw [show i + 1 + (j + 1) = 0 + (i + 1) + (j + 1) by omega]; exact this) (md_tr m2 (LW_md lw3) rfl rfl) (wo_keep lf3.2.2.2.2.1 lw3.2.2.1 lw.2.2.2.2.2) lw3.2.2.2.2.2 cn
      · have lf2 := LF_tr lf (LF_wk lw)
        obtain ⟨a1, a2, a3, a4, a5, a6, a7, a8⟩ := lf2
        exact p202 z _ _ _ _ ⟨a1, a2, a3, a4, a5, by omega, a7, a8⟩ (md_tr mm (LW_md lw) rfl rfl) lw.2.2.2.2.2 (Or.inl rfl) cn
    exact sg_layR_58 _ _ _ ⟨rv', fun _ => ⟨rv', pv, fun _ => p145 0, fun _ => p145 1⟩, fun q => absurd q c⟩
  · have ve : vE x a a 17 (x.1 16 r.toNatClampNeg) := by
      rcases v3 with q | q | ⟨q, _⟩ | ⟨q, _⟩
      · exact q.2
      · rw [c] at q; exact absurd q.1 (by decide)
      · rw [c] at q; exact absurd q (by decide)
      · rw [c] at q; exact absurd q (by decide)
    have pv : vp_in (x.1 16 r.toNatClampNeg) 3000 ∧ vp_in (x.1 19 (x.1 16 r.toNatClampNeg).toNatClampNeg) 710 := by
      cases a with
      | zero => exact ve.elim
      | succ a => exact ⟨by rw [vp_in_iff]; have := ve.1; omega, ve.2.2.2.1⟩
    refine sp_isCellAlone _ rv' (fun _ => pv) lb.1 kb ⟨fun q => absurd rfl q, fun _ => ⟨rv', ?_⟩⟩ (fun _ _ => ⟨fun _ => ?_, fun q => absurd q (by decide)⟩)
    · refine wk x 0 a _ _ rf rfm (by omega) (by omega) (Or.inr ve) (fun r2 z lw => ?_)
      have lf2 := LF_wk lw
      have m2 := LW_md lw
      obtain ⟨l1, l2, l3, l4⟩ := lay z _ lf2 m2
      refine sp_layStep _ _ l1 l2 l3 l4 (fun w hw2 => ⟨l1, fun w2 e2 => ⟨l1, fun w4 e4 => ?_⟩⟩)
      exact out z w4 _ _ _ _ _ _ _ _ lf2 m2 (by omega) (stp_61 (stp_59 (stp_s hw2) e2) e4) (Or.inl rfl) lw.2.2.2.2.2 (Or.inl rfl) (by decide) (Or.inl ⟨rfl, s0, s8⟩)
    · refine sg_layR_58 _ _ _ ⟨rv', fun q => absurd c q, fun _ => ⟨rv', pv.1, sp_cellOf _ _ pv.2 lb wb (fun c2 y m wy hc => ⟨fun c3 => ?_, fun c3 => ?_⟩)⟩⟩
      · have lf := LF_wr m wy
        obtain ⟨c1, c2, c3, c4⟩ := cN_v lb lf (hc.imp id (fun q => ⟨q.1, q.2.1⟩)) c3
        exact ⟨c1, p106 y _ lf (md_w m (by decide) (by decide)) c2 (by omega)⟩
      · exact p106 y _ (LF_wr m wy) (md_w m (by decide) (by decide)) (by decide) (by decide)
