/-! steps whose target is still open -/
def sP (x : gd) (j : Nat) : Prop := wo x 0 (x.1 58 j) ∧ wo x 0 (x.1 59 j) ∧ wo x 0 (x.1 60 j) ∧ (x.1 54 j = 2 ∨ x.1 54 j = 3)
theorem sP_keep {x y : gd} {n w j : Nat} (a : LF x y n w) (hj : (j : Int) < (x.1 0 52).toInt) (q : sP x j) : sP y j := by
  obtain ⟨a1, a2, a3, a4, a5, a6, a7, a8⟩ := a
  have e := fun c h1 h2 => a8 c h1 h2 j hj
  obtain ⟨q1, q2, q3, q4⟩ := q
  unfold sP
  rw [e 54 (by decide) (by decide), e 58 (by decide) (by decide), e 59 (by decide) (by decide), e 60 (by decide) (by decide)]
  exact ⟨wo_keep a5 a7 q1, wo_keep a5 a7 q2, wo_keep a5 a7 q3, q4⟩
def LO (x y : gd) (n w : Nat) (S : Nat → Prop) : Prop := LF x y n w ∧ ∀ j : Nat, (x.1 0 52).toInt ≤ (j : Int) → (j : Int) < (y.1 0 52).toInt → (¬ S j → sO y j) ∧ (S j → sP y j)
theorem LO_of {x y : gd} {n w : Nat} (q : LQ x y n w) : LO x y n w (fun _ => False) := ⟨q.1, fun j h1 h2 => ⟨fun _ => q.2 j h1 h2, fun q => q.elim⟩⟩
theorem LO_done {x y : gd} {n w : Nat} {S : Nat → Prop} (q : LO x y n w S) (h : ∀ j, ¬ S j) : LQ x y n w := ⟨q.1, fun j h1 h2 => (q.2 j h1 h2).1 (h j)⟩
theorem LO_LQ {x y z : gd} {n w n' w' : Nat} {S : Nat → Prop} (q : LO x y n w S) (r : LQ y z n' w') (h : ∀ j, S j → (j : Int) < (y.1 0 52).toInt) : LO x z (n + n') (w + w') S := by
  refine ⟨LF_tr q.1 r.1, fun j h1 h2 => ?_⟩
  by_cases c : (j : Int) < (y.1 0 52).toInt
  · have q2 := q.2 j h1 c
    exact ⟨fun s => sO_keep r.1 c (q2.1 s), fun s => sP_keep r.1 c (q2.2 s)⟩
  · exact ⟨fun _ => r.2 j (by omega) h2, fun s => absurd (h j s) c⟩
theorem LO_stp {x y z : gd} {n w : Nat} {S : Nat → Prop} {w1 a b c d e f t : Int32} (q : LO x y n w S) (h : stp y z w1 a b c d e f t) (h0 : 0 ≤ (y.1 0 52).toInt) (hn : (y.1 0 52).toInt ≤ 1499) (hw : w1 = 2 ∨ w1 = 3) (q1 : wo y 0 d) (q2 : wo y 0 e) (q3 : wo y 0 f) (hS : ∀ j, S j → (j : Int) < (y.1 0 52).toInt) : LO x z (n + 1) w (fun j => S j ∨ j = (y.1 0 52).toNatClampNeg) := by
  have lf := LF_stp h q.1.2.1 h0 hn
  have u := stp_up h h0 hn
  refine ⟨LF_tr q.1 lf, fun j h1 h2 => ?_⟩
  by_cases c0 : (j : Int) < (y.1 0 52).toInt
  · have q2 := q.2 j h1 c0
    refine ⟨fun s => sO_keep lf c0 (q2.1 (fun z => s (Or.inl z))), fun s => sP_keep lf c0 (q2.2 (s.resolve_right (fun z => ?_)))⟩
    rw [t_cl] at z; omega
  · have ej : j = (y.1 0 52).toNatClampNeg := by rw [t_cl]; omega
    refine ⟨fun s => absurd (Or.inr ej) s, fun _ => ?_⟩
    obtain ⟨g1, g2, g3, v54, v55, v56, v57, v58, v59, v60, v61⟩ := h
    obtain ⟨a1, a2, a3, a4, a5, a6, a7, a8⟩ := lf
    rw [ej]
    unfold sP
    rw [v54, v58, v59, v60]
    exact ⟨wo_keep a5 a7 q1, wo_keep a5 a7 q2, wo_keep a5 a7 q3, hw⟩
theorem LO_set {x y z : gd} {n w k : Nat} {S : Nat → Prop} {v : Int32} (q : LO x y n w S) (e : z = si y 61 k v) (h1 : (x.1 0 52).toInt ≤ (k : Int)) (h2 : (k : Int) < (y.1 0 52).toInt) (hk : S k) (v0 : 0 ≤ v.toInt) (v1 : v.toInt ≤ (y.1 0 52).toInt) (hg : (k : Int) < v.toInt ∨ (v.toInt < (y.1 0 52).toInt ∧ y.1 54 v.toNatClampNeg = 2)) : LO x z n w (fun j => S j ∧ ¬ j = k) ∧ md [] [61] y z := by
  have m := md_a y 61 k v (by decide)
  rw [← e] at m
  obtain ⟨⟨a1, a2, a3, a4, a5, a6, a7, a8⟩, b⟩ := q
  have e52 := m.1 52 (by decide)
  have e49 := m.1 49 (by decide)
  have o : ∀ c j : Nat, ¬ (c = 61 ∧ j = k) → z.1 c j = y.1 c j := fun c j h => by rw [e, si_get, if_neg h]
  have w51 : ∀ j : Nat, (j : Int) < (y.1 0 49).toInt → z.1 51 j = y.1 51 j ∧ z.1 52 j = y.1 52 j := fun j _ => ⟨o 51 j (by omega), o 52 j (by omega)⟩
  have wk : ∀ r, wo y 0 r → wo z 0 r := fun r q => wo_keep (by rw [e49]; omega) w51 q
  refine ⟨⟨⟨md_tr a1 m rfl rfl, ?_, by rw [e52]; exact a3, by rw [e52]; exact a4, by rw [e49]; exact a5, by rw [e49]; exact a6, fun j hj => ?_, fun c c1 c2 j hj => ?_⟩, fun j j1 j2 => ?_⟩, m⟩
  · unfold WB
    rw [m.1 41 (by decide), m.1 42 (by decide)]
    exact a2
  · rw [o 51 j (by omega), o 52 j (by omega)]; exact a7 j hj
  · rw [o c j (by omega)]; exact a8 c c1 c2 j hj
  · rw [e52] at j2
    obtain ⟨b1, b2⟩ := b j j1 j2
    by_cases c : j = k
    · refine ⟨fun _ => ?_, fun s => absurd c s.2⟩
      rw [c] at b2 ⊢
      obtain ⟨q1, q2, q3, q4⟩ := b2 hk
      have e61 : z.1 61 k = v := by rw [e, si_get, if_pos ⟨rfl, rfl⟩]
      unfold sO gO
      rw [e61, o 54 k (by omega), o 54 _ (by omega), o 55 k (by omega), o 56 k (by omega), o 57 k (by omega), o 58 k (by omega), o 59 k (by omega), o 60 k (by omega), e52]
      exact ⟨wk _ q1, wk _ q2, wk _ q3, Or.inr (Or.inr (Or.inl ⟨q4, v0, v1⟩)), fun _ => hg.imp id (fun w => ⟨v0, w⟩)⟩
    · refine ⟨fun s => ?_, fun s => ?_⟩
      · obtain ⟨q1, q2, q3, q4⟩ := b1 (fun z => s ⟨z, c⟩)
        unfold sO gO
        rw [o 61 j (by omega), o 54 j (by omega), o 54 (y.1 61 j).toNatClampNeg (by omega), o 55 j (by omega), o 56 j (by omega), o 57 j (by omega), o 58 j (by omega), o 59 j (by omega), o 60 j (by omega), e52, m.1 25 (by decide)]
        exact ⟨wk _ q1, wk _ q2, wk _ q3, q4⟩
      · obtain ⟨q1, q2, q3, q4⟩ := b2 s.1
        unfold sP
        rw [o 54 j (by omega), o 58 j (by omega), o 59 j (by omega), o 60 j (by omega)]
        exact ⟨wk _ q1, wk _ q2, wk _ q3, q4⟩
theorem LF_fr {x y : gd} (m : md [43, 47, 48] [45, 46, 47] x y) (wb : WB x) : LF x y 0 0 := by
  have e49 := m.1 49 (by decide)
  have e52 := m.1 52 (by decide)
  refine ⟨md_w m (by decide) (by decide), ?_, by rw [e52]; omega, by rw [e52]; omega, by rw [e49]; omega, by rw [e49]; omega, fun j _ => ?_, fun c h1 h2 j _ => ?_⟩
  · unfold WB
    rw [m.1 41 (by decide), m.1 42 (by decide)]
    exact wb
  · rw [m.2.1 51 (by decide) (by decide), m.2.1 52 (by decide) (by decide)]; exact ⟨rfl, rfl⟩
  · rw [m.2.1 c (by omega) (fun q => by simp at q; omega)]
/-- lets known: known 43 (45, 46), slots 48 -/
def KS (x : gd) : Prop := 0 ≤ (x.1 0 43).toInt ∧ (x.1 0 43).toInt ≤ (x.1 0 48).toInt ∧ (x.1 0 48).toInt ≤ 8 ∧ ∀ j : Nat, (j : Int) < (x.1 0 43).toInt → vp_in (x.1 45 j) 710 ∧ 0 ≤ (x.1 46 j).toInt ∧ (x.1 46 j).toInt < 8
theorem KS_KB {x : gd} (q : KS x) : KB x := ⟨q.1, by have := q.2.1; have := q.2.2.1; omega, q.2.2.2⟩
theorem KS_md {L A : List Nat} {x x' : gd} (h : md L A x x') (h43 : 43 ∉ L) (h48 : 48 ∉ L) (h45 : 45 ∉ A) (h46 : 46 ∉ A) (q : KS x) : KS x' := by
  unfold KS
  rw [h.1 43 h43, h.1 48 h48, h.2.1 45 (by decide) h45, h.2.1 46 (by decide) h46]
  exact q
section LWS
variable {G : mG} {D : Nat} {x : gd} {Fv : gd → Prop}
theorem sp_layWord (s : Int32) (hD : 4 ≤ D) (p : PL x) (hs : vp_in s 3000) (hs2 : vp_in (x.1 19 s.toNatClampNeg) 710) (hb : vp_in (x.1 17 s.toNatClampNeg) 710) (hn : (x.1 0 52).toInt ≤ 1499) (h : ∀ x', LQ x x' 1 0 → md pL pA x x' → Fv x') : MT G D z_layWord 0 [(0, vr 0), (1, vi s)] [] x (rv Fv) := by
  obtain ⟨D, rfl⟩ : ∃ D', D = D' + 3 := ⟨D - 3, by omega⟩
  obtain ⟨lb, wb, kb, hN, w0, n0, t1⟩ := id p
  have g := lb.2.1
  have p102 : ∀ (y : gd) (n w : Int32), md [41, 42] [] x y → WB y → 5 ≤ w.toInt → w.toInt ≤ 10 → 0 ≤ n.toInt → n.toInt < 6 → (w = 9 → n.toInt < (x.1 0 25).toInt) → MT G (D + 3) z_layWord 102 [(0, vr 0), (1, vi s), (2, vi (x.1 16 s.toNatClampNeg)), (4, vi n)] [vi w] y (rv Fv) := by
    intro y n w m wy w1 w2 n1 n2 n3
    have lf := LF_wr m wy
    have e52 : y.1 0 52 = x.1 0 52 := m.1 52 (by decide)
    have sn : vp_in (y.1 0 52) 1500 := by rw [e52, vp_in_iff]; omega
    refine sg_layWord_102 _ _ _ _ (sp_layAct _ _ _ sn (KB_md m (by decide) (by decide) (by decide) kb) (Or.inr ⟨hs, by rw [m.2.1 19 (by decide) (by decide)]; exact hs2⟩) (LB_md m rfl rfl lb).1 (fun z hz => ?_))
    have fin : ∀ (v : Int32) (z2 : gd), z2 = si z 57 (y.1 0 52).toNatClampNeg v → rv Fv none z2 := by
      intro v z2 e2
      have st := stp_57 (stp_a hz) e2
      exact rv_i (h z2 (LQ_tr (LQ_0 lf) (LQ_stp st wy (by rw [e52]; exact n0) (by rw [e52]; exact hn) (Or.inl rfl) (Or.inl rfl) (Or.inl rfl) (by decide) (Or.inr (Or.inr (Or.inr (Or.inr (Or.inr ⟨rfl, Or.inl rfl, Or.inr (Or.inl ⟨w1, w2, n1, n2, fun q => by rw [m.1 25 (by decide)]; exact n3 q, rfl⟩)⟩))))))) (md_tr m st.1 rfl rfl))
    exact ⟨fun _ => ⟨sn, fin 0⟩, fun _ => ⟨sn, fin 1⟩⟩
  have p41 : ∀ b : Int32, (b = 1 ∨ b = 2) → (x.1 16 s.toNatClampNeg = 33 → b = 2) → MT G (D + 3) z_layWord 41 [(0, vr 0), (1, vi s), (2, vi (x.1 16 s.toNatClampNeg))] [vi b, vi (x.1 17 s.toNatClampNeg), vr 0] x (rv Fv) := by
    intro b hb2 hb3
    refine sg_layWord_41 _ _ _ _ (sp_numberOf _ _ hb lb wb (fun r y m wy hr => ?_))
    have n1 : 0 ≤ r.toInt ∧ r.toInt < 6 ∧ (b = 2 → r.toInt < (x.1 0 25).toInt) := by
      rcases hr with hr | ⟨k, h1, h2, h3⟩
      · rw [hr]; exact ⟨by decide, by decide, fun _ => by show (0 : Int) < _; omega⟩
      · have t := LB_t lb h1
        rw [h3]
        obtain ⟨_, _, g3, g4, g5, g6, _⟩ := g
        rcases t.2.1 with ⟨q, _⟩ | ⟨q, q1, q2⟩ | ⟨q, q1, q2⟩
        · rw [h2] at q; rcases hb2 with e | e <;> (rw [e] at q; exact absurd q (by decide))
        · exact ⟨q1, by omega, fun e => by rw [h2, e] at q; exact absurd q (by decide)⟩
        · exact ⟨q1, by omega, fun _ => q2⟩
    have f := fun (w : Int32) w1 w2 w3 => p102 y r w m wy w1 w2 n1.1 n1.2.1 w3
    exact ⟨fun _ => ⟨fun _ => ⟨fun _ => ⟨fun _ => ⟨fun _ => f 8 (by decide) (by decide) (fun q => absurd q (by decide)), fun _ => f 10 (by decide) (by decide) (fun q => absurd q (by decide))⟩, fun c => f 9 (by decide) (by decide) (fun _ => n1.2.2 (hb3 c))⟩, fun _ => f 7 (by decide) (by decide) (fun q => absurd q (by decide))⟩, fun _ => f 6 (by decide) (by decide) (fun q => absurd q (by decide))⟩, fun _ => f 5 (by decide) (by decide) (fun q => absurd q (by decide))⟩
  have p24 : ∀ b : Int32, (x.1 16 s.toNatClampNeg = 33 → ¬ b = 0) → MT G (D + 3) z_layWord 24 [(0, vr 0), (1, vi s), (2, vi (x.1 16 s.toNatClampNeg))] [vi b] x (rv Fv) := fun b q => sg_layWord_24 _ _ _ ⟨hs, fun c => p41 1 (Or.inl rfl) (fun e => absurd c (q e)), fun _ => p41 2 (Or.inr rfl) (fun _ => rfl)⟩
  exact sg_layWord_0 _ ⟨hs, fun _ => p24 1 (fun _ => by decide), fun c => ⟨fun _ => p24 0 (fun q => absurd q c), fun _ => p24 1 (fun _ => by decide)⟩⟩
theorem sp_laySet {a : Nat} (s : Int32) (hD : a + 5 ≤ D) (p : PL x) (hs : vp_in s 3000) (hs2 : vp_in (x.1 19 s.toNatClampNeg) 710) (ha : vp_in (x.1 16 s.toNatClampNeg) 710) (v : vR x a (x.1 17 s.toNatClampNeg)) (hw : (x.1 0 49).toInt + a ≤ 5980) (hn : (x.1 0 52).toInt ≤ 1499) (h : ∀ x', LQ x x' 1 (a + 3) → md pL pA x x' → Fv x') : MT G D z_laySet 0 [(0, vr 0), (1, vi s)] [] x (rv Fv) := by
  obtain ⟨D, rfl⟩ : ∃ D', D = D' + 4 := ⟨D - 4, by omega⟩
  obtain ⟨lb, wb, kb, hN, w0, n0, t1⟩ := id p
  obtain ⟨r, er⟩ : ∃ r, r = x.1 17 s.toNatClampNeg := ⟨_, rfl⟩
  rw [← er] at v
  have rv' : vp_in r 3000 := by rw [vp_in_iff]; have := v.1; omega
  have R : ∀ (y : gd) (slot : Int32), md [41, 42] [] x y → WB y → 0 ≤ slot.toInt → slot.toInt < 8 → MT G (D + 3) z_layR 0 [(0, vr 0), (1, vi r), (2, vi slot), (3, vi s)] [] y (rv (fun z => rv Fv none z)) := by
    intro y slot m wy h1 h2
    have lf := LF_wr m wy
    have mm : md pL pA x y := md_w m (by decide) (by decide)
    have e49 : y.1 0 49 = x.1 0 49 := m.1 49 (by decide)
    have e52 : y.1 0 52 = x.1 0 52 := m.1 52 (by decide)
    refine sp_layR r slot s (a := a) (by omega) (PL_up p lf mm) (vR_NK ⟨(NN_LF lf).1, fun c h1 h2 j hj => (NN_LF lf).2 c h1 (by omega) j hj⟩ v) h1 h2 hs (by rw [m.2.1 19 (by decide) (by decide)]; exact hs2) (by rw [e49]; exact hw) (by rw [e52]; exact hn) (fun z q mz => rv_i (h z ?_ (md_tr mm mz rfl rfl)))
    exact LQ_mono (by omega) (by omega) (LQ_tr (LQ_0 lf) q)
  have ve : x.1 15 r.toNatClampNeg = 10 → vE x a a 17 (x.1 16 r.toNatClampNeg) := by
    intro c
    rcases v.2.2 with q | q | ⟨q, _⟩ | ⟨q, _⟩
    · exact q.2
    · rw [c] at q; exact absurd q.1 (by decide)
    · rw [c] at q; exact absurd q (by decide)
    · rw [c] at q; exact absurd q (by decide)
  have pv : x.1 15 r.toNatClampNeg = 10 → vp_in (x.1 16 r.toNatClampNeg) 3000 ∧ vp_in (x.1 19 (x.1 16 r.toNatClampNeg).toNatClampNeg) 710 := by
    intro c
    have q := ve c
    cases a with
    | zero => exact q.elim
    | succ a => exact ⟨by rw [vp_in_iff]; have := q.1; omega, q.2.2.2.1⟩
  have p158 : ∀ (y : gd) (n e : Int32), LF x y 0 (a + 1) → md pL pA x y → 0 ≤ n.toInt → n.toInt < 24 → wo y 0 e → MT G (D + 4) z_laySet 158 [(0, vr 0), (1, vi s), (5, vi e)] [vi n, vi 1, vr 0] y (rv Fv) := by
    intro y n e lf m n1 n2 q
    have e52 : (y.1 0 52).toInt = (x.1 0 52).toInt := by have := lf.2.2.1; have := lf.2.2.2.1; omega
    have sn : vp_in (y.1 0 52) 1500 := by rw [vp_in_iff]; omega
    refine sg_laySet_158 _ _ _ _ (sp_layAct _ _ _ sn (KB_md m (by decide) (by decide) (by decide) kb) (Or.inr ⟨hs, by rw [m.2.1 19 (by decide) (by decide)]; exact hs2⟩) (LB_md m rfl rfl lb).1 (fun z hz => ⟨sn, fun z2 e2 => ?_⟩))
    have st := stp_59 (stp_a hz) e2
    refine rv_i (h z2 (LQ_mono (by omega) (by omega) (LQ_tr (LQ_0 lf) (LQ_stp st lf.2.1 (by omega) (by omega) (Or.inl rfl) q (Or.inl rfl) (by decide) (Or.inr (Or.inr (Or.inr (Or.inr (Or.inr ⟨rfl, Or.inl rfl, Or.inl ⟨by decide, by decide, n1, n2, by decide, Or.inl rfl⟩⟩)))))))) (md_tr m st.1 rfl rfl))
  have p107 : ∀ (y : gd) (c : Int32), md [41, 42] [] x y → WB y → cN x c → MT G (D + 4) z_laySet 107 [(0, vr 0), (1, vi s), (3, vi r), (4, vi c)] [] y (rv Fv) := by
    intro y c m wy cn
    have lf := LF_wr m wy
    have mm : md pL pA x y := md_w m (by decide) (by decide)
    have e49 : y.1 0 49 = x.1 0 49 := m.1 49 (by decide)
    refine sg_laySet_107 _ _ _ ⟨rv', fun c2 => ⟨rv', ?_⟩, fun _ => R y 0 m wy (by decide) (by decide)⟩
    rw [m.2.1 15 (by decide) (by decide)] at c2
    rw [m.2.1 16 (by decide) (by decide)]
    obtain ⟨y1, y2, y3, y4, y5, y6, y7⟩ := PL_up p lf mm
    refine sp_workOf 0 (n := a) (s := a) (by omega) (Or.inr (vE_LF lf (ve c2))) y4 y1 y2 (fun _ => y3) y5 (by rw [e49]; omega) (fun r2 z lw _ => ?_)
    have lf2 := LF_tr lf (LF_wk lw)
    have m2 : md pL pA x z := md_tr mm (LW_md lw) rfl rfl
    rw [show 0 + (a + 1) = a + 1 by omega] at lf2
    refine ⟨fun c3 => ?_, fun _ => p158 z 0 _ lf2 m2 (by decide) (by decide) lw.2.2.2.2.2⟩
    obtain ⟨b1, b2, b3, b4⟩ := cN_v lb lf2 cn c3
    exact ⟨b1, p158 z _ _ lf2 m2 b2 (by omega) lw.2.2.2.2.2⟩
  have p87 : ∀ y : gd, md [41, 42] [] x y → WB y → MT G (D + 4) z_laySet 87 [(0, vr 0), (1, vi s), (3, vi r)] [] y (rv Fv) := by
    intro y m wy
    refine sg_laySet_87 _ _ ⟨rv', sp_wrongAt _ _ (by decide) (by rw [m.2.1 19 (by decide) (by decide)]; exact v.2.1) (LB_md m rfl rfl lb).1 wy (fun z mz wz => R z 0 (md_tr m mz rfl rfl) wz (by decide) (by decide))⟩
  refine sg_laySet_0 _ ⟨hs, sp_slotOf _ ha lb.1 kb (fun sl hsl => ⟨hs, fun c => ⟨hs, ?_⟩, fun c => ?_⟩)⟩
  · rw [← er]
    refine sp_cellOf _ _ ha lb wb (fun c2 y m wy hc => ?_)
    have cn : cN x c2 := hc.imp id (fun q => ⟨q.1, q.2.1⟩)
    have e15 : y.1 15 = x.1 15 := m.2.1 15 (by decide) (by decide)
    have e16 : y.1 16 = x.1 16 := m.2.1 16 (by decide) (by decide)
    have e19 : y.1 19 = x.1 19 := m.2.1 19 (by decide) (by decide)
    refine ⟨fun _ => p107 y c2 m wy cn, fun _ => ⟨rv', fun _ => p87 y m wy, fun c3 => ?_⟩⟩
    rw [e15] at c3
    have pv3 := pv c3
    refine sp_isCellAlone _ rv' (fun _ => by rw [e16, e19]; exact pv3) (LB_md m rfl rfl lb).1 (KB_md m (by decide) (by decide) (by decide) kb) ⟨fun _ => p107 y c2 m wy cn, fun q => absurd rfl q⟩ (fun _ _ => ⟨fun q => absurd q (by decide), fun _ => ⟨rv', by rw [e16]; exact pv3.1, ?_⟩⟩)
    exact sp_isCellName _ (by rw [e16, e19]; exact pv3.2) (LB_md m rfl rfl lb) (fun r18 => ⟨fun _ => p107 y c2 m wy cn, fun _ => p87 y m wy⟩)
  · rw [← er]
    exact R x sl (md_w (md_rf x) (by decide) (by decide)) wb (hsl.resolve_left c).1 (hsl.resolve_left c).2
end LWS
