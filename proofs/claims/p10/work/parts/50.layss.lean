theorem vD_20 {x : gd} {m : Int} {V : Nat → Nat → Int32 → Prop} {s c : Nat} {w a b d e : Int32} (h : w = 20) (q : vD x m V s c w a b d e) : vp_in a 710 ∧ 1 ≤ c ∧ vR x (s - 1) b := by
  rw [h] at q
  unfold vD at q
  rcases q with ⟨g, q⟩ | ⟨g, q⟩ | ⟨g, q⟩ | ⟨g, q⟩ | ⟨g, q⟩ | ⟨g, q⟩ | ⟨g, q⟩ | g | ⟨g, q⟩ | ⟨g, q⟩ | g
  all_goals first | exact absurd g (by decide) | exact q
theorem vD_21 {x : gd} {m : Int} {V : Nat → Nat → Int32 → Prop} {s c : Nat} {w a b d e : Int32} (h : w = 21) (q : vD x m V s c w a b d e) : vp_in a 710 ∧ vR x (s - 1) b := by
  rw [h] at q
  unfold vD at q
  rcases q with ⟨g, q⟩ | ⟨g, q⟩ | ⟨g, q⟩ | ⟨g, q⟩ | ⟨g, q⟩ | ⟨g, q⟩ | ⟨g, q⟩ | g | ⟨g, q⟩ | ⟨g, q⟩ | g
  all_goals first | exact absurd g (by decide) | exact q
theorem vD_22 {x : gd} {m : Int} {V : Nat → Nat → Int32 → Prop} {s c : Nat} {w a b d e : Int32} (h : w = 22) (q : vD x m V s c w a b d e) : vp_in a 710 ∧ ∃ i j : Nat, i + j + 1 ≤ s ∧ vE x i i 17 b ∧ vE x j j 17 d := by
  rw [h] at q
  unfold vD at q
  rcases q with ⟨g, q⟩ | ⟨g, q⟩ | ⟨g, q⟩ | ⟨g, q⟩ | ⟨g, q⟩ | ⟨g, q⟩ | ⟨g, q⟩ | g | ⟨g, q⟩ | ⟨g, q⟩ | g
  all_goals first | exact absurd g (by decide) | exact q
theorem vD_23 {x : gd} {m : Int} {V : Nat → Nat → Int32 → Prop} {s c : Nat} {w a b d e : Int32} (h : w = 23) (q : vD x m V s c w a b d e) : ∃ i j q c1 c2 : Nat, i + j + q + 1 ≤ s ∧ c1 + c2 ≤ c ∧ vE x i i 17 a ∧ vB x m V j c1 b ∧ b.toInt < e.toInt ∧ (d = -1 ∨ (d.toInt < e.toInt ∧ (vB x m V q c2 d ∨ V q c2 d))) := by
  rw [h] at q
  unfold vD at q
  rcases q with ⟨g, q⟩ | ⟨g, q⟩ | ⟨g, q⟩ | ⟨g, q⟩ | ⟨g, q⟩ | ⟨g, q⟩ | ⟨g, q⟩ | g | ⟨g, q⟩ | ⟨g, q⟩ | g
  all_goals first | exact absurd g (by decide) | exact q
theorem vD_24 {x : gd} {m : Int} {V : Nat → Nat → Int32 → Prop} {s c : Nat} {w a b d e : Int32} (h : w = 24) (q : vD x m V s c w a b d e) : ∃ i j : Nat, i + j + 1 ≤ s ∧ vE x i i 17 a ∧ vB x m V j c b ∧ b.toInt < e.toInt := by
  rw [h] at q
  unfold vD at q
  rcases q with ⟨g, q⟩ | ⟨g, q⟩ | ⟨g, q⟩ | ⟨g, q⟩ | ⟨g, q⟩ | ⟨g, q⟩ | ⟨g, q⟩ | g | ⟨g, q⟩ | ⟨g, q⟩ | g
  all_goals first | exact absurd g (by decide) | exact q
theorem vD_25 {x : gd} {m : Int} {V : Nat → Nat → Int32 → Prop} {s c : Nat} {w a b d e : Int32} (h : w = 25) (q : vD x m V s c w a b d e) : vp_in a 710 ∧ vB x m V (s - 2) c b ∧ b.toInt < e.toInt := by
  rw [h] at q
  unfold vD at q
  rcases q with ⟨g, q⟩ | ⟨g, q⟩ | ⟨g, q⟩ | ⟨g, q⟩ | ⟨g, q⟩ | ⟨g, q⟩ | ⟨g, q⟩ | g | ⟨g, q⟩ | ⟨g, q⟩ | g
  all_goals first | exact absurd g (by decide) | exact q
theorem vD_26 {x : gd} {m : Int} {V : Nat → Nat → Int32 → Prop} {s c : Nat} {w a b d e : Int32} (h : w = 26) (q : vD x m V s c w a b d e) : vp_in b 710 := by
  rw [h] at q
  unfold vD at q
  rcases q with ⟨g, q⟩ | ⟨g, q⟩ | ⟨g, q⟩ | ⟨g, q⟩ | ⟨g, q⟩ | ⟨g, q⟩ | ⟨g, q⟩ | g | ⟨g, q⟩ | ⟨g, q⟩ | g
  all_goals first | exact absurd g (by decide) | exact q
theorem vD_28 {x : gd} {m : Int} {V : Nat → Nat → Int32 → Prop} {s c : Nat} {w a b d e : Int32} (h : w = 28) (q : vD x m V s c w a b d e) : vE x (s - 1) (s - 1) 17 a := by
  rw [h] at q
  unfold vD at q
  rcases q with ⟨g, q⟩ | ⟨g, q⟩ | ⟨g, q⟩ | ⟨g, q⟩ | ⟨g, q⟩ | ⟨g, q⟩ | ⟨g, q⟩ | g | ⟨g, q⟩ | ⟨g, q⟩ | g
  all_goals first | exact absurd g (by decide) | exact q
theorem vD_29 {x : gd} {m : Int} {V : Nat → Nat → Int32 → Prop} {s c : Nat} {w a b d e : Int32} (h : w = 29) (q : vD x m V s c w a b d e) : vp_in a 710 ∧ vE x (s - 1) (s - 1) 17 b := by
  rw [h] at q
  unfold vD at q
  rcases q with ⟨g, q⟩ | ⟨g, q⟩ | ⟨g, q⟩ | ⟨g, q⟩ | ⟨g, q⟩ | ⟨g, q⟩ | ⟨g, q⟩ | g | ⟨g, q⟩ | ⟨g, q⟩ | g
  all_goals first | exact absurd g (by decide) | exact q
theorem vD_30 {x : gd} {m : Int} {V : Nat → Nat → Int32 → Prop} {s c : Nat} {w a b d e : Int32} (h : w = 30) (q : vD x m V s c w a b d e) : vE x (s - 1) (s - 1) 17 a := by
  rw [h] at q
  unfold vD at q
  rcases q with ⟨g, q⟩ | ⟨g, q⟩ | ⟨g, q⟩ | ⟨g, q⟩ | ⟨g, q⟩ | ⟨g, q⟩ | ⟨g, q⟩ | g | ⟨g, q⟩ | ⟨g, q⟩ | g
  all_goals first | exact absurd g (by decide) | exact q
theorem vD_no {x : gd} {m : Int} {V : Nat → Nat → Int32 → Prop} {s c : Nat} {w a b d e : Int32} (h : w = 32) (q : vD x m V s c w a b d e) : False := by
  rw [h] at q
  unfold vD at q
  rcases q with ⟨g, q⟩ | ⟨g, q⟩ | ⟨g, q⟩ | ⟨g, q⟩ | ⟨g, q⟩ | ⟨g, q⟩ | ⟨g, q⟩ | g | ⟨g, q⟩ | ⟨g, q⟩ | g
  all_goals exact absurd g (by decide)
theorem LF_ok {x y : gd} {n w : Nat} (p : PL x) (lf : LF x y n w) (hn : (x.1 0 52).toInt + n ≤ 1499) : vp_in (y.1 0 52) 1500 ∧ TK y ∧ 0 ≤ (y.1 0 52).toInt ∧ (y.1 0 52).toInt ≤ 1499 := by
  have := p.2.2.2.2.2.1
  obtain ⟨a1, a2, a3, a4, a5, a6, a7, a8⟩ := lf
  exact ⟨by rw [vp_in_iff]; omega, (LB_md a1 rfl rfl p.1).1, by omega, by omega⟩
theorem LF_s {x y : gd} {n w : Nat} {s : Int32} (lf : LF x y n w) (hs : vp_in s 3000) (hs2 : vp_in (x.1 19 s.toNatClampNeg) 710) : s = -1 ∨ (vp_in s 3000 ∧ vp_in (y.1 19 s.toNatClampNeg) 710) := Or.inr ⟨hs, by rw [lf.1.2.1 19 (by decide) (by decide)]; exact hs2⟩
theorem layS_step (k : Nat) (ih : SpLS k) : SpLS (k + 1) := by
  intro G D x Fv m s c e blk hD hs v p ks hc hw hn h
  obtain ⟨D, rfl⟩ : ∃ D', D = D' + 3 := ⟨D - 3, by omega⟩
  obtain ⟨v1, v2, v3, v4⟩ := v
  obtain ⟨lb, wb, kb, hN, w0, n0, t1⟩ := id p
  have ev : vp_in e 3000 := by rw [vp_in_iff]; omega
  have rf : LF x x 0 0 := LF_wr (md_w (md_rf x) (by decide) (by decide)) wb
  have rfm : md pL pA x x := md_w (md_rf x) (by decide) (by decide)
  have k1 : (1 : Int32).toInt = 1 := rfl
  -- the work of an expression
  have wk : ∀ (y : gd) (n j s1 : Nat) (e1 : Int32) (F : Int32 → gd → Prop), LF x y n j → KB y → (x.1 0 49).toInt + j + s1 ≤ 5990 → s1 ≤ 700 → vE x s1 s1 17 e1 → (∀ r2 z, LW 0 s1 y r2 z → LF x z n (j + (s1 + 1)) → KB z → F r2 z) → MT G (D + 2) z_workOf 0 [(0, vr 0), (1, vi e1), (2, vi 0)] [] y (ri F) := by
    intro y n j s1 e1 F lf kby hj hsa hv hF
    obtain ⟨y1, y2, y3, y4, y5, y6, y7⟩ := PL_LF p lf kby
    have b6 := lf.2.2.2.2.2.1
    exact sp_workOf 0 (n := s1) (s := s1) (by omega) (Or.inr (vE_LF lf hv)) y4 y1 y2 (fun _ => y3) y5 (by omega) (fun r2 z q _ => hF r2 z q (LF_tr lf (LF_wk q)) (KB_md q.1 (by decide) (by decide) (by decide) kby))
  -- one step at the end
  have fin : ∀ (y z : gd) (n j : Nat) (w1 a1 b1 c1 d1 e1 f1 t1 : Int32), LF x y 0 j → md pL pA x y → j ≤ 2 * s → stp y z w1 a1 b1 c1 d1 e1 f1 t1 → wo y 0 d1 → wo y 0 e1 → wo y 0 f1 → ¬ w1 = 3 → sV (x.1 0 25).toInt ((x.1 0 52).toInt + 1) w1 a1 b1 c1 d1 t1 → rv Fv none z := by
    intro y z n j w1 a1 b1 c1 d1 e1 f1 t1 lf my hj st q1 q2 q3 w3 q4
    have e52 : (y.1 0 52).toInt = (x.1 0 52).toInt := by have := lf.2.2.1; have := lf.2.2.2.1; omega
    exact rv_i (h z (QL_1 (LQ_mono (n := 1) (w := j + 0) (by omega) (by omega) (LQ_mono (by omega) (by omega) (LQ_tr (LQ_0 lf) (LQ_stp st lf.2.1 (by omega) (by omega) q1 q2 q3 w3 (by rw [e52, lf.1.1 25 (by decide)]; exact q4))))) (md_tr my st.1 rfl rfl) ks (by omega) v3))
  have one : ∀ (z : gd) (w1 a1 b1 : Int32), stp x z w1 a1 b1 0 (-1) (-1) (-1) (-1) → ¬ w1 = 3 → sV (x.1 0 25).toInt ((x.1 0 52).toInt + 1) w1 a1 b1 0 (-1) (-1) → rv Fv none z := fun z w1 a1 b1 st w3 q => fin x z 0 0 _ _ _ _ _ _ _ _ rf rfm (by omega) st (Or.inl rfl) (Or.inl rfl) (Or.inl rfl) w3 q
  obtain ⟨o1, o2, o3, o4⟩ := LF_ok p rf (by omega)
  have os := LF_s rf ev v2
  refine sg_layS_0 _ _ ⟨ev, fun c0 => ?_, fun c0 => ?_, fun c0 => ⟨ev, ?_⟩, fun c0 => ⟨ev, ?_⟩, fun c0 => ⟨ev, ?_⟩, fun c0 => ⟨ev, ?_⟩, fun c0 => ?_, fun c0 => ⟨ev, ?_⟩, fun c0 => ⟨ev, ?_⟩, fun c0 => ⟨ev, ?_⟩, fun c0 => ⟨ev, ?_⟩, fun c0 => ?_⟩
  · -- let
    obtain ⟨g1, g2, g3⟩ := vD_20 c0 v4
    have last : ∀ y : gd, md [41, 42] [] x y → WB y → ∀ y2 : gd, y2 = si y 0 48 (y.1 0 48 + 1) → vp_in e 3000 ∧ MT G (D + 2) z_layR 0 [(0, vr 0), (1, vi (y2.1 17 e.toNatClampNeg)), (2, vi (y.1 0 48)), (3, vi e)] [] y2 (rv (fun x4 => vp_in e 3000 ∧ vp_in (x4.1 0 43) 40 ∧ (∀ x7 : gd, x7 = si x4 45 (x4.1 0 43 : Int32).toNatClampNeg (x4.1 16 (e : Int32).toNatClampNeg) → vp_in (x7.1 0 43) 40 ∧ (∀ x9 : gd, x9 = si x7 46 (x7.1 0 43 : Int32).toNatClampNeg (y.1 0 48) → vp_in (x9.1 0 43) 40 ∧ (∀ x11 : gd, x11 = si x9 47 (x9.1 0 43 : Int32).toNatClampNeg blk → (∀ x12 : gd, x12 = si x11 0 43 ((x11.1 0 43) + 1) → rv Fv none x12)))))) := by
      intro y my wy y2 e2
      refine ⟨ev, ?_⟩
      have m2 := md_f y 48 (y.1 0 48 + 1)
      rw [← e2] at m2
      have f48 : y.1 0 48 = x.1 0 48 := my.1 48 (by decide)
      have s2 : (y2.1 0 48).toInt = (x.1 0 48).toInt + 1 := by
        have := ks.1
        have := ks.2.1
        rw [e2, si_get, if_pos ⟨rfl, rfl⟩, f48, t_add (by omega) (by omega), k1]
      have lf2 : LF x y2 0 0 := LF_tr (LF_wr my wy) (LF_fr (md_w m2 (by decide) (by decide)) wy)
      have mx2 : md [41, 42, 48] [] x y2 := md_tr my m2 rfl rfl
      have kb2 : KB y2 := KB_md mx2 (by decide) (by decide) (by decide) kb
      rw [mx2.2.1 17 (by decide) (by decide)]
      have hks := ks.1
      have hks2 := ks.2.1
      refine sp_layR _ _ _ (a := s - 1) (by omega) (PL_LF p lf2 kb2) (vR_NK ⟨(NN_LF lf2).1, fun c h1 h2 j hj => (NN_LF lf2).2 c h1 (by omega) j hj⟩ g3) (by rw [f48]; omega) (by rw [f48]; omega) ev (by rw [mx2.2.1 19 (by decide) (by decide)]; exact v2) (by rw [mx2.1 49 (by decide)]; omega) (by rw [mx2.1 52 (by decide)]; omega) (fun x4 q4 m4 => ?_)
      have e43 : x4.1 0 43 = x.1 0 43 := by rw [m4.1 43 (by decide), mx2.1 43 (by decide)]
      have kv : vp_in (x4.1 0 43) 40 := by rw [e43, vp_in_iff]; have := kb.2.1; omega
      refine ⟨ev, kv, fun x7 e7 => ?_⟩
      have m7 := md_a x4 45 (x4.1 0 43).toNatClampNeg (x4.1 16 e.toNatClampNeg) (by decide)
      rw [← e7] at m7
      have f7 : x7.1 0 43 = x.1 0 43 := by rw [m7.1 43 (by decide), e43]
      refine ⟨by rw [f7, ← e43]; exact kv, fun x9 e9 => ?_⟩
      have m9 := md_a x7 46 (x7.1 0 43).toNatClampNeg (y.1 0 48) (by decide)
      rw [← e9] at m9
      have f9 : x9.1 0 43 = x.1 0 43 := by rw [m9.1 43 (by decide), f7]
      refine ⟨by rw [f9, ← e43]; exact kv, fun x11 e11 x12 e12 => ?_⟩
      have m11 := md_a x9 47 (x9.1 0 43).toNatClampNeg blk (by decide)
      rw [← e11] at m11
      have f11 : x11.1 0 43 = x.1 0 43 := by rw [m11.1 43 (by decide), f9]
      have m12 := md_f x11 43 (x11.1 0 43 + 1)
      rw [← e12] at m12
      have m412 : md [43] [45, 46, 47] x4 x12 := md_tr (md_tr (L3 := []) (A3 := [45, 46, 47]) (md_tr (L3 := []) (A3 := [45, 46]) m7 m9 rfl rfl) m11 rfl rfl) m12 rfl rfl
      have f12 : (x12.1 0 43).toInt = (x.1 0 43).toInt + 1 := by rw [e12, si_get, if_pos ⟨rfl, rfl⟩, f11, t_add (by omega) (by omega), k1]
      have s12 : (x12.1 0 48).toInt = (x.1 0 48).toInt + 1 := by rw [m412.1 48 (by decide), m4.1 48 (by decide), s2]
      refine rv_i (h x12 ⟨LQ_mono (by omega) (by omega) (LQ_tr (LQ_tr (LQ_0 lf2) q4) (LQ_0 (LF_fr (md_w m412 (by decide) (by decide)) q4.1.2.1))), ⟨by omega, by omega, by omega, fun j hj => ?_⟩, by omega, by omega, by omega⟩)
      have e45 : x12.1 45 j = if j = (x.1 0 43).toNatClampNeg then x4.1 16 e.toNatClampNeg else x4.1 45 j := by
        rw [e12, si_cell (by decide), e11, si_cell (by decide), e9, si_cell (by decide), e7, si_get, e43]
        by_cases q : j = (x.1 0 43).toNatClampNeg
        · rw [if_pos ⟨rfl, q⟩, if_pos q]
        · rw [if_neg (fun z => q z.2), if_neg q]
      have e46 : x12.1 46 j = if j = (x.1 0 43).toNatClampNeg then y.1 0 48 else x4.1 46 j := by
        rw [e12, si_cell (by decide), e11, si_cell (by decide), e9, si_get, f7]
        by_cases q : j = (x.1 0 43).toNatClampNeg
        · rw [if_pos ⟨rfl, q⟩, if_pos q]
        · rw [if_neg (fun z => q z.2), if_neg q, e7, si_cell (by decide)]
      rw [e45, e46]
      by_cases q : j = (x.1 0 43).toNatClampNeg
      · rw [if_pos q, if_pos q, m4.2.1 16 (by decide) (by decide), mx2.2.1 16 (by decide) (by decide), f48]
        exact ⟨g1, by omega, by omega⟩
      · rw [if_neg q, if_neg q, m4.2.1 45 (by decide) (by decide), mx2.2.1 45 (by decide) (by decide), m4.2.1 46 (by decide) (by decide), mx2.2.1 46 (by decide) (by decide)]
        exact ks.2.2.2 j (by rw [t_cl] at q; omega)
    have loop : ∀ (n : Nat) (y : gd) (i : Int32), md [41, 42] [] x y → WB y → 0 ≤ i.toInt → (x.1 0 43).toInt - i.toInt ≤ n → MT G (D + 3) z_layS 67 [(0, vr 0), (1, vi e), (2, vi blk), (4, vi i)] [] y (rv Fv) := by
      intro n
      induction n with
      | zero =>
        intro y i my wy i0 hi
        have e43 : y.1 0 43 = x.1 0 43 := my.1 43 (by decide)
        exact sg_layS_67 _ _ _ ⟨fun _ => last y my wy, fun c => absurd (t_le.mpr (by rw [e43]; omega)) c⟩
      | succ n ihn =>
        intro y i my wy i0 hi
        have e43 : y.1 0 43 = x.1 0 43 := my.1 43 (by decide)
        refine sg_layS_67 _ _ _ ⟨fun _ => last y my wy, fun c => ?_⟩
        rw [t_le, e43] at c
        have iv : vp_in i 40 := by rw [vp_in_iff]; have := kb.2.1; omega
        have kb8 := kb.2.1
        have i1 : (i + 1).toInt = i.toInt + 1 := by rw [t_add (by omega) (by omega), k1]
        have hk := kb.2.2 i.toNatClampNeg (by rw [t_cl]; omega)
        have ly := LB_md my rfl rfl lb
        refine ⟨iv, fun _ => ihn y _ my wy (by omega) (by omega), fun _ => ⟨iv, ev, ?_⟩⟩
        rw [my.2.1 45 (by decide) (by decide), my.2.1 16 (by decide) (by decide)]
        exact sp_isSameName _ _ hk.1 g1 ly.1 (fun r _ => ⟨fun _ => ihn y _ my wy (by omega) (by omega), fun _ => ⟨ev, sp_wrongAt _ _ (by decide) (by rw [my.2.1 16 (by decide) (by decide)]; exact g1) ly.1 wy (fun z mz wz => ihn z _ (md_tr my mz rfl rfl) wz (by omega) (by omega))⟩⟩)
    exact loop _ x 0 (md_w (md_rf x) (by decide) (by decide)) wb (by decide) (Int.self_le_toNat _)
  · -- set
    obtain ⟨g1, g2⟩ := vD_21 c0 v4
    exact sp_laySet (a := s - 1) e (by omega) p ev v2 g1 g2 (by omega) (by omega) (fun z q mz => rv_i (h z (QL_1 q mz ks (by omega) v3)))
  · -- put
    obtain ⟨g1, i, j, g2, g3, g4⟩ := vD_22 c0 v4
    refine sp_cellOf _ _ g1 lb wb (fun r8 y my wy hc2 => ⟨ev, ?_⟩)
    have cn : cN x r8 := hc2.imp id (fun q => ⟨q.1, q.2.1⟩)
    have lf := LF_wr my wy
    rw [my.2.1 17 (by decide) (by decide)]
    refine wk y 0 0 i _ _ lf (KB_md my (by decide) (by decide) (by decide) kb) (by omega) (by omega) g3 (fun r11 z lw lfz kbz => ⟨ev, ?_⟩)
    have mz : md pL pA x z := md_tr my (LW_md lw) rfl rfl
    rw [mz.2.1 18 (by decide) (by decide)]
    refine wk z 0 _ j _ _ lfz kbz (by omega) (by omega) g4 (fun r14 u lu lfu kbu => ?_)
    have mu : md pL pA x u := md_tr mz (LW_md lu) rfl rfl
    have q11 : wo u 0 r11 := wo_keep (LF_wk lu).2.2.2.2.1 lu.2.2.1 lw.2.2.2.2.2
    obtain ⟨u1, u2, u3, u4⟩ := LF_ok p lfu (by omega)
    have p291 : ∀ (w2 : gd) (n1 sz : Int32), aD u w2 1 n1 → 0 ≤ n1.toInt → n1.toInt < 24 → 0 ≤ sz.toInt → n1.toInt + sz.toInt ≤ 24 → MT G (D + 3) z_layS 291 [(0, vr 0), (3, vi (u.1 0 52)), (6, vi r11), (7, vi r14)] [vi sz, vi (u.1 0 52), vr 57] w2 (rv Fv) := by
      intro w2 n1 sz hw2 h1 h2 h3 h4
      refine sg_layS_291 _ _ _ _ _ ⟨u1, fun y2 e2 => ⟨u1, fun y4 e4 => ⟨u1, fun y6 e6 => ?_⟩⟩⟩
      exact fin u y6 0 _ _ _ _ _ _ _ _ _ lfu mu (by omega) (stp_59 (stp_58 (stp_57 (stp_a hw2) e2) e4) e6) q11 lu.2.2.2.2.2 (Or.inl rfl) (by decide) (Or.inr (Or.inr (Or.inr (Or.inr (Or.inr ⟨rfl, Or.inl rfl, Or.inl ⟨by decide, by decide, h1, h2, h3, Or.inr h4⟩⟩)))))
    have k0 : (0 : Int32).toInt = 0 := rfl
    refine ⟨fun c3 => ?_, fun c3 => ?_⟩
    · obtain ⟨b1, b2, b3, b4⟩ := cN_v lb lfu cn c3
      refine ⟨b1, sg_layS_264 _ _ _ _ _ _ (sp_layAct _ _ _ u1 kbu (LF_s lfu ev v2) u2 (fun w2 hw2 => ⟨fun _ => ⟨b1, ?_⟩, fun q => absurd q c3⟩))⟩
      rw [hw2.1.2.1 33 (by decide) (by decide)]
      exact p291 w2 _ _ hw2 b2 (by omega) (by omega) b4
    · exact sg_layS_264 _ _ _ _ _ _ (sp_layAct _ _ _ u1 kbu (LF_s lfu ev v2) u2 (fun w2 hw2 => ⟨fun q => absurd c3 q, fun _ => p291 w2 _ _ hw2 (by decide) (by decide) (by decide) (by decide)⟩))
  · -- if
    obtain ⟨i, j, q, c1, c2, g1, g2, g3, g4, g5, g6⟩ := vD_23 c0 v4
    have j2 : 2 ≤ j := by obtain ⟨_, _, _, L, _, _, z, _⟩ := g4; omega
    refine wk x 0 0 i _ _ rf kb (by omega) (by omega) g3 (fun r20 y lw lfy kby => ?_)
    obtain ⟨y1, y2, y3, y4⟩ := LF_ok p lfy (by omega)
    have ey : (y.1 0 52).toInt = (x.1 0 52).toInt := by have := lfy.2.2.1; have := lfy.2.2.2.1; omega
    refine sp_layStep _ _ y1 kby (LF_s lfy ev v2) y2 (fun y21 h21 => ⟨y1, fun y24 e24 => ⟨ev, ?_⟩⟩)
    have st := stp_59 (stp_s h21) e24
    have lo24 := LO_stp (LO_of (LQ_0 lfy)) st y3 y4 (Or.inl rfl) (Or.inl rfl) lw.2.2.2.2.2 (Or.inl rfl) (fun _ q => q.elim)
    have u24 := stp_up st y3 y4
    have m24 : md pL pA x y24 := md_tr (LW_md lw) st.1 rfl rfl
    have ks24 := KS_md m24 (by decide) (by decide) (by decide) (by decide) ks
    have e48 : y24.1 0 48 = x.1 0 48 := m24.1 48 (by decide)
    have e43 : y24.1 0 43 = x.1 0 43 := m24.1 43 (by decide)
    have lf24 := lo24.1
    have b4 := lf24.2.2.2.1
    have b6 := lf24.2.2.2.2.2.1
    rw [m24.2.1 17 (by decide) (by decide)]
    refine sp_layBlock k ih (m := m) (s := j) (c := c1) (by omega) (by omega) (vB_LF lf24 g4) (PL_LF p lf24 (KS_KB ks24)) ks24 (by rw [e48]; omega) (by omega) (by omega) (fun y26 q26 => ⟨ev, ?_⟩)
    obtain ⟨q26a, ks26, q26c, q26d, q26e⟩ := q26
    have hK : (((y.1 0 52).toNatClampNeg : Nat) : Int) = (x.1 0 52).toInt := by rw [t_cl]; omega
    have lo26 := LO_LQ lo24 q26a (fun z hz => by
      have hz := hz.resolve_left id
      rw [hz, hK]; omega)
    have lf26 := lo26.1
    have b26 := q26a.1.2.2.1
    have e18 : y26.1 18 = x.1 18 := lf26.1.2.1 18 (by decide) (by decide)
    rw [e18]
    obtain ⟨z1, z2, z3, z4⟩ := LF_ok p lf26 (by omega)
    have yv : vp_in (y.1 0 52) 1500 := y1
    refine ⟨fun c3 => ⟨yv, fun y30 e30 => ?_⟩, fun c3 => ?_⟩
    · obtain ⟨lo30, m30⟩ := LO_set lo26 e30 (by omega) (by omega) (Or.inr rfl) z3 (by omega) (Or.inl (by omega))
      have lq := LO_done lo30 (fun j hj => hj.2 (hj.1.resolve_left id))
      have f48 : y30.1 0 48 = y26.1 0 48 := m30.1 48 (by decide)
      have f43 : y30.1 0 43 = y26.1 0 43 := m30.1 43 (by decide)
      exact rv_i (h y30 ⟨LQ_mono (by omega) (by omega) lq, KS_md m30 (by decide) (by decide) (by decide) (by decide) ks26, by rw [f43, q26c, e43]; omega, by rw [f48]; rw [e48] at q26d; omega, by rw [f48]; rw [e48] at q26e; omega⟩)
    · refine sp_layStep _ _ z1 (KS_KB ks26) (Or.inl rfl) z2 (fun y31 h31 => ⟨yv, fun y34 e34 => ?_⟩)
      have st31 := stp_s h31
      have u31 := stp_up st31 z3 z4
      have lo31 := LO_stp lo26 st31 z3 z4 (Or.inr rfl) (Or.inl rfl) (Or.inl rfl) (Or.inl rfl) (fun z hz => by
        have hz := hz.resolve_left id
        rw [hz, hK]; omega)
      obtain ⟨lo34, m34⟩ := LO_set lo31 e34 (by omega) (by omega) (Or.inl (Or.inr rfl)) (by omega) (by omega) (Or.inl (by omega))
      have hK2 : (((y26.1 0 52).toNatClampNeg : Nat) : Int) = (y26.1 0 52).toInt := by rw [t_cl]; omega
      have lf34 := lo34.1
      have ks34 : KS y34 := KS_md (md_tr (L3 := [52]) (A3 := tA) st31.1 m34 rfl rfl) (by decide) (by decide) (by decide) (by decide) ks26
      have f48 : y34.1 0 48 = y26.1 0 48 := by rw [m34.1 48 (by decide), st31.1.1 48 (by decide)]
      have f43 : y34.1 0 43 = y26.1 0 43 := by rw [m34.1 43 (by decide), st31.1.1 43 (by decide)]
      have f52 : (y34.1 0 52).toInt = (y26.1 0 52).toInt + 1 := by rw [m34.1 52 (by decide), u31]
      have f18 : y34.1 18 = x.1 18 := lf34.1.2.1 18 (by decide) (by decide)
      have f15 : y34.1 15 = x.1 15 := lf34.1.2.1 15 (by decide) (by decide)
      obtain ⟨g7, g8⟩ := g6.resolve_left c3
      have b34 := lf34.2.2.2.1
      have b346 := lf34.2.2.2.2.2.1
      have dv : vp_in (x.1 18 e.toNatClampNeg) 3000 := by
        rcases g8 with g8 | g8
        · rw [vp_in_iff]; have := g8.1; omega
        · cases k with
          | zero => exact g8.elim
          | succ k => rw [vp_in_iff]; have := g8.1; omega
      have set2 : ∀ (y39 y41 : gd) (n2 w2 : Nat), LQ y34 y39 n2 w2 → n2 ≤ q → w2 ≤ 2 * q → KS y39 → (y34.1 0 43).toInt ≤ (y39.1 0 43).toInt → (y34.1 0 48).toInt ≤ (y39.1 0 48).toInt → (y39.1 0 48).toInt ≤ (y34.1 0 48).toInt + c2 → y41 = si y39 61 (y26.1 0 52).toNatClampNeg (y39.1 0 52) → rv Fv none y41 := by
        intro y39 y41 n2 w2 lq hn2 hw2 k39 a43 a48 a48b e41
        have b39 := lq.1.2.2.1
        have lo39 := LO_LQ lo34 lq (fun z hz => by
          rcases hz.1 with hz1 | hz1
          · exact absurd (hz1.resolve_left id) hz.2
          · rw [hz1, hK2]; omega)
        obtain ⟨lo41, m41⟩ := LO_set lo39 e41 (by omega) (by omega) ⟨Or.inr rfl, fun z => by
          have z2 : (((y26.1 0 52).toNatClampNeg : Nat) : Int) = ((y.1 0 52).toNatClampNeg : Nat) := by rw [z]
          omega⟩ (by omega) (by omega) (Or.inl (by omega))
        have lq41 := LO_done lo41 (fun j hj => by
          rcases hj.1.1 with z | z
          · exact hj.1.2 (z.resolve_left id)
          · exact hj.2 z)
        have d48 : y41.1 0 48 = y39.1 0 48 := m41.1 48 (by decide)
        have d43 : y41.1 0 43 = y39.1 0 43 := m41.1 43 (by decide)
        rw [f43, q26c, e43] at a43
        rw [e48] at q26e q26d
        rw [f48] at a48 a48b
        exact rv_i (h y41 ⟨LQ_mono (by omega) (by omega) lq41, KS_md m41 (by decide) (by decide) (by decide) (by decide) k39, by rw [d43]; exact a43, by rw [d48]; omega, by rw [d48]; omega⟩)
      rw [e48] at q26e q26d
      refine ⟨ev, by rw [f18]; exact dv, fun c4 => ⟨ev, ?_⟩, fun c4 => ⟨ev, ?_⟩⟩
      · rw [f18, f15] at c4
        rw [f18]
        have g9 := g8.resolve_left (fun z => c4 z.2.2.1)
        exact ih G (D + 2) y34 _ m q c2 _ _ (by omega) (by omega) (vS_LF lf34 g9) (PL_LF p lf34 (KS_KB ks34)) ks34 (by rw [f48]; omega) (by omega) (by omega) (fun y39 q39 => ⟨z1, fun y41 e41 => set2 y39 y41 _ _ q39.1 (by omega) (by omega) q39.2.1 q39.2.2.1 q39.2.2.2.1 q39.2.2.2.2 e41⟩)
      · rw [f18, f15] at c4
        rw [f18]
        have g9 : vB x m (vS x m k) q c2 (x.1 18 e.toNatClampNeg) := g8.resolve_right (fun z => by
          cases k with
          | zero => exact z.elim
          | succ k => exact vD_no c4 z.2.2.2)
        exact sp_layBlock k ih (m := m) (s := q) (c := c2) (by omega) (by omega) (vB_LF lf34 g9) (PL_LF p lf34 (KS_KB ks34)) ks34 (by rw [f48]; omega) (by omega) (by omega) (fun y43 q43 => ⟨z1, fun y45 e45 => set2 y43 y45 _ _ q43.1 (by omega) (by omega) q43.2.1 (by rw [q43.2.2.1]; omega) q43.2.2.2.1 q43.2.2.2.2 e45⟩)
  · -- while
    obtain ⟨i, j, g1, g3, g4, g5⟩ := vD_24 c0 v4
    have j2 : 2 ≤ j := by obtain ⟨_, _, _, L, _, _, z, _⟩ := g4; omega
    refine wk x 0 0 i _ _ rf kb (by omega) (by omega) g3 (fun r20 y lw lfy kby => ?_)
    obtain ⟨y1, y2, y3, y4⟩ := LF_ok p lfy (by omega)
    have ey : (y.1 0 52).toInt = (x.1 0 52).toInt := by have := lfy.2.2.1; have := lfy.2.2.2.1; omega
    refine sp_layStep _ _ y1 kby (LF_s lfy ev v2) y2 (fun y21 h21 => ⟨y1, fun y24 e24 => ⟨ev, ?_⟩⟩)
    have st := stp_59 (stp_s h21) e24
    have lo24 := LO_stp (LO_of (LQ_0 lfy)) st y3 y4 (Or.inl rfl) (Or.inl rfl) lw.2.2.2.2.2 (Or.inl rfl) (fun _ q => q.elim)
    have u24 := stp_up st y3 y4
    have m24 : md pL pA x y24 := md_tr (LW_md lw) st.1 rfl rfl
    have ks24 := KS_md m24 (by decide) (by decide) (by decide) (by decide) ks
    have e48 : y24.1 0 48 = x.1 0 48 := m24.1 48 (by decide)
    have e43 : y24.1 0 43 = x.1 0 43 := m24.1 43 (by decide)
    have lf24 := lo24.1
    have b4 := lf24.2.2.2.1
    have b6 := lf24.2.2.2.2.2.1
    rw [m24.2.1 17 (by decide) (by decide)]
    refine sp_layBlock k ih (m := m) (s := j) (c := c) (by omega) (by omega) (vB_LF lf24 g4) (PL_LF p lf24 (KS_KB ks24)) ks24 (by rw [e48]; omega) (by omega) (by omega) (fun y26 q26 => ?_)
    obtain ⟨q26a, ks26, q26c, q26d, q26e⟩ := q26
    have hK : (((y.1 0 52).toNatClampNeg : Nat) : Int) = (x.1 0 52).toInt := by rw [t_cl]; omega
    have lo26 := LO_LQ lo24 q26a (fun z hz => by
      have hz := hz.resolve_left id
      rw [hz, hK]; omega)
    have lf26 := lo26.1
    have b26 := q26a.1.2.2.1
    obtain ⟨z1, z2, z3, z4⟩ := LF_ok p lf26 (by omega)
    refine sp_layStep _ _ z1 (KS_KB ks26) (Or.inl rfl) z2 (fun y31 h31 => ⟨z1, fun y34 e34 => ⟨y1, fun y36 e36 => ?_⟩⟩)
    have st31 := stp_s h31
    have u31 := stp_up st31 z3 z4
    have lo31 := LO_stp lo26 st31 z3 z4 (Or.inr rfl) (Or.inl rfl) (Or.inl rfl) (Or.inl rfl) (fun z hz => by
      have hz := hz.resolve_left id
      rw [hz, hK]; omega)
    have hK2 : (((y26.1 0 52).toNatClampNeg : Nat) : Int) = (y26.1 0 52).toInt := by rw [t_cl]; omega
    have y52 : x.1 0 52 = y.1 0 52 := (lw.1.1 52 (by decide)).symm
    have w2 : y31.1 54 (x.1 0 52).toNatClampNeg = 2 := by
      rw [y52, st31.2.2.1 54 (by decide) _ (fun z => by
        have z2 : (((y26.1 0 52).toNatClampNeg : Nat) : Int) = ((y.1 0 52).toNatClampNeg : Nat) := by rw [z]
        omega), q26a.1.2.2.2.2.2.2.2 54 (by decide) (by decide) _ (by omega)]
      exact st.2.2.2.1
    obtain ⟨lo34, m34⟩ := LO_set lo31 e34 (by omega) (by omega) (Or.inr rfl) n0 (by omega) (Or.inr ⟨by omega, w2⟩)
    have f52 : (y34.1 0 52).toInt = (y26.1 0 52).toInt + 1 := by rw [m34.1 52 (by decide), u31]
    obtain ⟨lo36, m36⟩ := LO_set lo34 e36 (by omega) (by omega) ⟨Or.inl (Or.inr rfl), fun z => by
      have z2 : (((y26.1 0 52).toNatClampNeg : Nat) : Int) = ((y.1 0 52).toNatClampNeg : Nat) := by rw [z]
      omega⟩ (by omega) (by omega) (Or.inl (by omega))
    have lq := LO_done lo36 (fun j hj => by
      rcases hj.1.1 with z | z
      · exact hj.2 (z.resolve_left id)
      · exact hj.1.2 z)
    have mm : md [52] tA y26 y36 := md_tr (md_tr (L3 := [52]) (A3 := tA) st31.1 m34 rfl rfl) m36 rfl rfl
    have f48 : y36.1 0 48 = y26.1 0 48 := mm.1 48 (by decide)
    have f43 : y36.1 0 43 = y26.1 0 43 := mm.1 43 (by decide)
    rw [e48] at q26d q26e
    exact rv_i (h y36 ⟨LQ_mono (by omega) (by omega) lq, KS_md mm (by decide) (by decide) (by decide) (by decide) ks26, by rw [f43, q26c, e43]; omega, by rw [f48]; omega, by rw [f48]; omega⟩)
  · -- lock
    obtain ⟨g1, g2, g3⟩ := vD_25 c0 v4
    have j2 : 2 ≤ s - 2 := by obtain ⟨_, _, _, L, _, _, z, _⟩ := g2; omega
    refine sp_numberOf _ _ g1 lb wb (fun r65 y my wy hr => ?_)
    have n1 : 0 ≤ r65.toInt ∧ r65.toInt < 6 := by
      rcases hr with hr | ⟨k9, h1, h2, h3⟩
      · rw [hr]; exact ⟨by decide, by decide⟩
      · have t := LB_t lb h1
        rw [h3]
        obtain ⟨_, _, g3, g4, g5, g6, _⟩ := lb.2.1
        rcases t.2.1 with ⟨q, _⟩ | ⟨q, q1, q2⟩ | ⟨q, q1, q2⟩
        · rw [h2] at q; exact absurd q (by decide)
        · exact ⟨q1, by omega⟩
        · exact ⟨q1, by omega⟩
    have lf := LF_wr my wy
    obtain ⟨y1, y2, y3, y4⟩ := LF_ok p lf (by omega)
    have ey : y.1 0 52 = x.1 0 52 := my.1 52 (by decide)
    refine sp_layAct _ _ _ y1 (KB_md my (by decide) (by decide) (by decide) kb) (LF_s lf ev v2) y2 (fun y24 h24 => ⟨ev, ?_⟩)
    have st := stp_a h24
    have a5 : sV (y.1 0 25).toInt ((y.1 0 52).toInt + 1) 6 5 r65 0 (-1) (-1) := Or.inr (Or.inr (Or.inr (Or.inr (Or.inr ⟨rfl, Or.inl rfl, Or.inr (Or.inl ⟨by decide, by decide, n1.1, n1.2, fun q => absurd q (by decide), rfl⟩)⟩))))
    have lq24 := LQ_tr (LQ_0 lf) (LQ_stp st wy y3 y4 (Or.inl rfl) (Or.inl rfl) (Or.inl rfl) (by decide) a5)
    have m24 : md pL pA x y24 := md_tr my st.1 rfl rfl
    have ks24 := KS_md m24 (by decide) (by decide) (by decide) (by decide) ks
    have e48 : y24.1 0 48 = x.1 0 48 := m24.1 48 (by decide)
    have e43 : y24.1 0 43 = x.1 0 43 := m24.1 43 (by decide)
    have lf24 := lq24.1
    have b4 := lf24.2.2.2.1
    have b6 := lf24.2.2.2.2.2.1
    rw [m24.2.1 17 (by decide) (by decide)]
    refine sp_layBlock k ih (m := m) (s := s - 2) (c := c) (by omega) (by omega) (vB_LF lf24 g2) (PL_LF p lf24 (KS_KB ks24)) ks24 (by rw [e48]; omega) (by omega) (by omega) (fun y26 q26 => ?_)
    obtain ⟨q26a, ks26, q26c, q26d, q26e⟩ := q26
    have lq26 := LQ_tr lq24 q26a
    obtain ⟨z1, z2, z3, z4⟩ := LF_ok p lq26.1 (by omega)
    refine sp_layAct _ _ _ z1 (KS_KB ks26) (LF_s lq26.1 ev v2) z2 (fun y31 h31 => ?_)
    have st31 := stp_a h31
    have a6 : sV (y26.1 0 25).toInt ((y26.1 0 52).toInt + 1) 6 6 r65 0 (-1) (-1) := Or.inr (Or.inr (Or.inr (Or.inr (Or.inr ⟨rfl, Or.inl rfl, Or.inr (Or.inl ⟨by decide, by decide, n1.1, n1.2, fun q => absurd q (by decide), rfl⟩)⟩))))
    have lq31 := LQ_tr lq26 (LQ_stp st31 lq26.1.2.1 z3 z4 (Or.inl rfl) (Or.inl rfl) (Or.inl rfl) (by decide) a6)
    have f48 : y31.1 0 48 = y26.1 0 48 := st31.1.1 48 (by decide)
    have f43 : y31.1 0 43 = y26.1 0 43 := st31.1.1 43 (by decide)
    rw [e48] at q26d q26e
    exact rv_i (h y31 ⟨LQ_mono (by omega) (by omega) lq31, KS_md st31.1 (by decide) (by decide) (by decide) (by decide) ks26, by rw [f43, q26c, e43]; omega, by rw [f48]; omega, by rw [f48]; omega⟩)
  · -- word
    exact sp_layWord e (by omega) p ev v2 (vD_26 c0 v4) (by omega) (fun z q mz => rv_i (h z (QL_1 q mz ks (by omega) v3)))
  · -- fence
    have f : ∀ w : Int32, 11 ≤ w.toInt → w.toInt ≤ 14 → MT G (D + 3) z_layS 585 [(0, vr 0), (1, vi e)] [vi w, vr 0] x (rv Fv) := fun w w1 w2 => sg_layS_585 _ _ (sp_layAct _ _ _ o1 kb os o2 (fun z hz => one z _ _ _ (stp_a hz) (by decide) (Or.inr (Or.inr (Or.inr (Or.inr (Or.inr ⟨rfl, Or.inl rfl, Or.inr (Or.inr ⟨w1, w2⟩)⟩)))))))
    exact ⟨fun _ => f 12 (by decide) (by decide), fun _ => f 11 (by decide) (by decide)⟩
  · -- assert
    refine wk x 0 0 (s - 1) _ _ rf kb (by omega) (by omega) (vD_28 c0 v4) (fun r80 y lw lfy kby => ?_)
    obtain ⟨y1, y2, y3, y4⟩ := LF_ok p lfy (by omega)
    exact sp_layStep _ _ y1 kby (LF_s lfy ev v2) y2 (fun z hz => ⟨y1, fun z2 e2 => fin y z2 0 _ _ _ _ _ _ _ _ _ lfy (LW_md lw) (by omega) (stp_59 (stp_s hz) e2) (Or.inl rfl) lw.2.2.2.2.2 (Or.inl rfl) (by decide) (Or.inr (Or.inl rfl))⟩)
  · -- call
    obtain ⟨g1, g2⟩ := vD_29 c0 v4
    have p648 : ∀ y : gd, md [41, 42] [] x y → WB y → MT G (D + 3) z_layS 648 [(0, vr 0), (1, vi e)] [] y (rv Fv) := by
      intro y my wy
      refine sg_layS_648 _ ⟨ev, ?_⟩
      rw [my.2.1 17 (by decide) (by decide)]
      refine wk y 0 0 (s - 1) _ _ (LF_wr my wy) (KB_md my (by decide) (by decide) (by decide) kb) (by omega) (by omega) g2 (fun r3 z lw lfz kbz => ⟨ev, ?_, ?_⟩)
      · rw [lfz.1.2.1 16 (by decide) (by decide)]; exact g1
      · obtain ⟨z1, z2, z3, z4⟩ := LF_ok p lfz (by omega)
        exact sp_layAct _ _ _ z1 kbz (LF_s lfz ev v2) z2 (fun u hu => ⟨z1, fun u2 e2 => fin z u2 0 _ _ _ _ _ _ _ _ _ lfz (md_tr my (LW_md lw) rfl rfl) (by omega) (stp_59 (stp_a hu) e2) (Or.inl rfl) lw.2.2.2.2.2 (Or.inl rfl) (by decide) (Or.inr (Or.inr (Or.inr (Or.inr (Or.inr ⟨rfl, Or.inl rfl, Or.inr (Or.inr ⟨by decide, by decide⟩)⟩)))))⟩)
    exact ⟨g1, fun _ => p648 x (md_w (md_rf x) (by decide) (by decide)) wb, fun _ => ⟨ev, sp_wrongAt _ _ (by decide) g1 lb.1 wb (fun y my wy => p648 y my wy)⟩⟩
  · -- back
    refine wk x 0 0 (s - 1) _ _ rf kb (by omega) (by omega) (vD_30 c0 v4) (fun r80 y lw lfy kby => ?_)
    obtain ⟨y1, y2, y3, y4⟩ := LF_ok p lfy (by omega)
    exact sp_layAct _ _ _ y1 kby (LF_s lfy ev v2) y2 (fun z hz => ⟨y1, fun z2 e2 => fin y z2 0 _ _ _ _ _ _ _ _ _ lfy (LW_md lw) (by omega) (stp_59 (stp_a hz) e2) (Or.inl rfl) lw.2.2.2.2.2 (Or.inl rfl) (by decide) (Or.inr (Or.inr (Or.inr (Or.inr (Or.inr ⟨rfl, Or.inl rfl, Or.inr (Or.inr ⟨by decide, by decide⟩)⟩)))))⟩)
  · -- end
    exact sp_layStep _ _ o1 kb os o2 (fun z hz => one z _ _ _ (stp_s hz) (by decide) (Or.inr (Or.inr (Or.inr (Or.inl rfl)))))
theorem sp_layS : ∀ k : Nat, SpLS k := by
  intro k
  induction k with
  | zero => intro G D x Fv m s c e blk _ _ v; exact v.elim
  | succ k ih => exact layS_step k ih
