section
/-! laying statements: what is found wrong, what is known then -/
/-- the lets of the innermost block, by place -/
theorem kl_top {x : gd} {sN : Nat → Nat → Bool} {nt b : Nat} : ∀ {ks : gK}, KL x ks → ((∃ q : Nat, q < ks.length ∧ b ≤ q ∧ sN (x.1 45 q).toNatClampNeg nt = true) ↔ ∃ k ∈ ks.take (ks.length - b), sN k.1 nt = true) := by
  intro ks
  induction ks with
  | nil => intro _; exact ⟨fun ⟨q, a, _⟩ => absurd a (Nat.not_lt_zero _), fun ⟨k, a, _⟩ => by rw [List.take_nil] at a; cases a⟩
  | cons k ks ih =>
    intro h
    have ih := ih h.2
    by_cases cb : b ≤ ks.length
    · have e : (k :: ks).length - b = (ks.length - b) + 1 := by show ks.length + 1 - b = _; omega
      rw [e, List.take_succ_cons]
      refine ⟨fun ⟨q, a1, a2, a3⟩ => ?_, fun ⟨k', a1, a2⟩ => ?_⟩
      · by_cases cq : q = ks.length
        · rw [cq, h.1.2.1] at a3
          exact ⟨k, List.mem_cons_self, a3⟩
        · have a1 : q < ks.length + 1 := a1
          obtain ⟨k', b1, b2⟩ := ih.mp ⟨q, by omega, a2, a3⟩
          exact ⟨k', List.mem_cons_of_mem _ b1, b2⟩
      · rcases List.mem_cons.mp a1 with a1 | a1
        · refine ⟨ks.length, Nat.lt_succ_self _, cb, ?_⟩
          rw [h.1.2.1, ← a1]
          exact a2
        · obtain ⟨q, b1, b2⟩ := ih.mpr ⟨k', a1, a2⟩
          exact ⟨q, Nat.lt_succ_of_lt b1, b2⟩
    · have e : (k :: ks).length - b = 0 := by show ks.length + 1 - b = 0; omega
      rw [e]
      refine ⟨fun ⟨q, a1, a2, _⟩ => ?_, fun ⟨k', a1, _⟩ => by cases a1⟩
      have a1 : q < ks.length + 1 := a1
      omega
section WDT
variable {x : gd} {m : Int} {V : Int32 → gU → Prop} {i : Nat} {w a b d e : Int32} {M : gU}
theorem wD_28a (h : w = 28) (q : wD x m V i w a b d e M) : x.1 5 i = 13 ∧ ∃ n1 N1, vV x false n1 a N1 ∧ M = (N1 ++ [(54, 0, 0)]) ++ [(69, i, 0)] := by
  rw [h] at q
  unfold wD at q
  rcases q with ⟨g, q⟩ | ⟨g, q⟩ | ⟨g, q⟩ | ⟨g, q⟩ | ⟨g, q⟩ | ⟨g, q⟩ | ⟨g, q⟩ | ⟨g, q⟩ | ⟨g, q0, q⟩ | ⟨g, q⟩ | ⟨g, q⟩
  all_goals first | exact absurd g (by decide) | exact ⟨q0.elim (fun z => z.2) (fun z => absurd z.1 (by decide)), q⟩
theorem wD_28b (h : w = 30) (q : wD x m V i w a b d e M) : x.1 5 i = 14 ∧ ∃ n1 N1, vV x false n1 a N1 ∧ M = (N1 ++ [(54, 0, 0)]) ++ [(69, i, 0)] := by
  rw [h] at q
  unfold wD at q
  rcases q with ⟨g, q⟩ | ⟨g, q⟩ | ⟨g, q⟩ | ⟨g, q⟩ | ⟨g, q⟩ | ⟨g, q⟩ | ⟨g, q⟩ | ⟨g, q⟩ | ⟨g, q0, q⟩ | ⟨g, q⟩ | ⟨g, q⟩
  all_goals first | exact absurd g (by decide) | exact ⟨q0.elim (fun z => absurd z.1 (by decide)) (fun z => z.2), q⟩
theorem wD_31a (h : ∀ k ∈ [(20 : Int32), 21, 22, 23, 24, 25, 26, 27, 28, 29, 30], ¬ w = k) (q : wD x m V i w a b d e M) : x.1 5 i = 19 ∧ M = [(68, i, 0)] := by
  unfold wD at q
  rcases q with ⟨g, q⟩ | ⟨g, q⟩ | ⟨g, q⟩ | ⟨g, q⟩ | ⟨g, q⟩ | ⟨g, q⟩ | ⟨g, q⟩ | ⟨g, q⟩ | ⟨g, q⟩ | ⟨g, q⟩ | ⟨g, q⟩
  · exact absurd g (h _ (by decide))
  · exact absurd g (h _ (by decide))
  · exact absurd g (h _ (by decide))
  · exact absurd g (h _ (by decide))
  · exact absurd g (h _ (by decide))
  · exact absurd g (h _ (by decide))
  · exact absurd g (h _ (by decide))
  · exact absurd g (h _ (by decide))
  · exact g.elim (fun g => absurd g (h _ (by decide))) (fun g => absurd g (h _ (by decide)))
  · exact absurd g (h _ (by decide))
  · exact q
end WDT
theorem layF_step {sN : Nat → Nat → Bool} {T : gTd} {V K : Nat → Int32} (k : Nat) (ih : SfLS sN T V K k) : SfLS sN T V K (k + 1) := by
  intro G D x Fv m s c e blk M E hD hs v wv p ks xp hbk hb1 hb2 hc hw hn h
  obtain ⟨D, rfl⟩ : ∃ D', D = D' + 3 := ⟨D - 3, by omega⟩
  obtain ⟨v1, v2, v3, v4⟩ := v
  obtain ⟨-, -, wv⟩ := wv
  obtain ⟨ke, sl, ct, ids, bl0⟩ := id xp
  obtain ⟨esm, e7, tr, e5⟩ := id ct
  have hV : ∀ e M, wSt x m k e M → ∀ E, sufE E (exs M E) := fun e M g => (wS_env k e M g).1
  obtain ⟨lb, wb, kb, hN, w0, n0, t1⟩ := id p
  have ev : vp_in e 3000 := by rw [vp_in_iff]; omega
  have rf : LF x x 0 0 := LF_wr (md_w (md_rf x) (by decide) (by decide)) wb
  have rfm : md pL pA x x := md_w (md_rf x) (by decide) (by decide)
  have k1 : (1 : Int32).toInt = 1 := rfl
  -- the work of an expression
  have wk : ∀ (y : gd) (n j s1 : Nat) (e1 : Int32) (N : gU) (F : Int32 → gd → Prop), LF x y n j → md pL pA x y → (x.1 0 49).toInt + j + s1 ≤ 5990 → s1 ≤ 700 → vE x s1 s1 17 e1 → (∃ n', vV x false n' e1 N) → (∀ r2 z, LW 0 s1 y r2 z → LF x z n (j + (s1 + 1)) → KEn z E → LX y z (flt sN T V N E) → (¬ flt sN T V N E → SUm z r2 (nPs sN T V K E.1 N)) → F r2 z) → MT G (D + 2) z_workOf 0 [(0, vr 0), (1, vi e1), (2, vi 0)] [] y (ri F) := by
    intro y n j s1 e1 N F lf my hj hsa hv hvv hF
    have kby : KB y := KB_md my (by decide) (by decide) (by decide) kb
    obtain ⟨y1, y2, y3, y4, y5, y6, y7⟩ := PL_LF p lf kby
    have b6 := lf.2.2.2.2.2.1
    exact sf_workOf 0 (n := s1) (s := s1) (M := N) (by omega) (Or.inr ⟨vE_LF lf hv, hvv.elim (fun n' g => ⟨n', vV_NF (NF_LF lf) g⟩)⟩) y4 y1 y2 (fun _ => KEn_md my (by decide) (by decide) (by decide) ke) (CT_md my (by decide) rfl ct) y5 (by omega) (fun r2 z q _ lx su _ => hF r2 z q (LF_tr lf (LF_wk q)) (KEn_md q.1 (by decide) (by decide) (by decide) (KEn_md my (by decide) (by decide) (by decide) ke)) lx (su (fun q => by rw [q] at hv; exact absurd (vE_pos hv) (by decide))))
  -- one step at the end
  have fin : ∀ (y z : gd) (n j : Nat) (w1 a1 b1 c1 d1 e1 f1 t1 : Int32), LF x y 0 j → md pL pA x y → LX x y (flt sN T V M E) → still M → j ≤ 2 * s → stp y z w1 a1 b1 c1 d1 e1 f1 t1 → wo y 0 d1 → wo y 0 e1 → wo y 0 f1 → ¬ w1 = 3 → sV (x.1 0 25).toInt ((x.1 0 52).toInt + 1) w1 a1 b1 c1 d1 t1 → CQ sN T V K x z E M → rv Fv none z := by
    intro y z n j w1 a1 b1 c1 d1 e1 f1 t1 lf my lx sM hj st q1 q2 q3 w3 q4 hcq
    have e52 : (y.1 0 52).toInt = (x.1 0 52).toInt := by have := lf.2.2.1; have := lf.2.2.2.1; omega
    exact rv_i (h z (QL_1 (LQ_mono (n := 1) (w := j + 0) (by omega) (by omega) (LQ_mono (by omega) (by omega) (LQ_tr (LQ_0 lf) (LQ_stp st lf.2.1 (by omega) (by omega) q1 q2 q3 w3 (by rw [e52, lf.1.1 25 (by decide)]; exact q4))))) (md_tr my st.1 rfl rfl) ks (by omega) v3) (XQ_md (md_tr my st.1 rfl rfl) xp (LX_md lx st.1 (by decide)) sM) hcq)
  have one : ∀ (z : gd) (w1 a1 b1 : Int32), ¬ flt sN T V M E → still M → stp x z w1 a1 b1 0 (-1) (-1) (-1) (-1) → ¬ w1 = 3 → sV (x.1 0 25).toInt ((x.1 0 52).toInt + 1) w1 a1 b1 0 (-1) (-1) → CQ sN T V K x z E M → rv Fv none z := fun z w1 a1 b1 nf sM st w3 q hcq => fin x z 0 0 _ _ _ _ _ _ _ _ rf rfm (LX_no nf) sM (by omega) st (Or.inl rfl) (Or.inl rfl) (Or.inl rfl) w3 q hcq
  obtain ⟨o1, o2, o3, o4⟩ := LF_ok p rf (by omega)
  have os := LF_s rf ev v2
  refine sg_layS_0 _ _ ⟨ev, fun c0 => ?_, fun c0 => ?_, fun c0 => ⟨ev, ?_⟩, fun c0 => ⟨ev, ?_⟩, fun c0 => ⟨ev, ?_⟩, fun c0 => ⟨ev, ?_⟩, fun c0 => ?_, fun c0 => ⟨ev, ?_⟩, fun c0 => ⟨ev, ?_⟩, fun c0 => ⟨ev, ?_⟩, fun c0 => ⟨ev, ?_⟩, fun c0 => ?_⟩
  · -- let
    obtain ⟨g1, g2, g3⟩ := vD_20 c0 v4
    obtain ⟨N, wv1, eM⟩ := wD_20 c0 wv
    have hbk := hbk c0
    obtain ⟨nt, ent⟩ : ∃ nt, nt = (x.1 16 e.toNatClampNeg).toNatClampNeg := ⟨_, rfl⟩
    rw [← ent] at eM
    have hE : exs M E = ((nt, E.2.2) :: E.1, E.2.1, E.2.2 + 1) := by
      rw [eM, exs_app, exs_app, exs_still (E := E) (still_k (k := 23) (a := nt) (b := 0) rfl), exs_still (vRr_st wv1.1), exs_one]
      rfl
    have hE2 : exs M E = exV E (22, nt, (x.1 19 e.toNatClampNeg).toNatClampNeg) := by
      rw [eM, exs_app, exs_app, exs_still (E := E) (still_k (k := 23) (a := nt) (b := 0) rfl), exs_still (vRr_st wv1.1), exs_one]
    have hX : flt sN T V M E ↔ (∃ k ∈ E.1.take (E.1.length - E.2.1.headD 0), sN k.1 nt = true) ∨ flt sN T V N E := by
      rw [eM, flt_app, flt_one, fv_23, exs_one, exV_still ⟨by show ¬ 23 = 20; decide, by show ¬ 23 = 21; decide, by show ¬ 23 = 22; decide⟩, flt_end rfl]
    have last : ∀ y : gd, md [41, 42] [] x y → WB y → LX x y (∃ k ∈ E.1.take (E.1.length - E.2.1.headD 0), sN k.1 nt = true) → ∀ y2 : gd, y2 = si y 0 48 (y.1 0 48 + 1) → vp_in e 3000 ∧ MT G (D + 2) z_layR 0 [(0, vr 0), (1, vi (y2.1 17 e.toNatClampNeg)), (2, vi (y.1 0 48)), (3, vi e)] [] y2 (rv (fun x4 => vp_in e 3000 ∧ vp_in (x4.1 0 43) 40 ∧ (∀ x7 : gd, x7 = si x4 45 (x4.1 0 43 : Int32).toNatClampNeg (x4.1 16 (e : Int32).toNatClampNeg) → vp_in (x7.1 0 43) 40 ∧ (∀ x9 : gd, x9 = si x7 46 (x7.1 0 43 : Int32).toNatClampNeg (y.1 0 48) → vp_in (x9.1 0 43) 40 ∧ (∀ x11 : gd, x11 = si x9 47 (x9.1 0 43 : Int32).toNatClampNeg blk → (∀ x12 : gd, x12 = si x11 0 43 ((x11.1 0 43) + 1) → rv Fv none x12)))))) := by
      intro y my wy lxy y2 e2
      refine ⟨ev, ?_⟩
      have m2 := md_f y 48 (y.1 0 48 + 1)
      rw [← e2] at m2
      have f48 : y.1 0 48 = x.1 0 48 := my.1 48 (by decide)
      have s2 : (y2.1 0 48).toInt = (x.1 0 48).toInt + 1 := by
        have := ks.1
        have := ks.2.1
        rw [e2, si_get, if_pos ⟨rfl, rfl⟩, f48, t_add (by omega) (by omega), k1]
      have lf2 : LF x y2 0 0 := LF_tr (LF_wr my wy) (LF_fr (md_w m2 (by decide) (by decide)) wy)
      have mx2 : md [41, 42, 48] [] x y2 := md_tr my m2 rfl rfl
      have kb2 : KB y2 := KB_md mx2 (by decide) (by decide) (by decide) kb
      rw [mx2.2.1 17 (by decide) (by decide)]
      have hks := ks.1
      have hks2 := ks.2.1
      refine sf_layR _ _ _ (a := s - 1) (M0 := N) (by omega) (PL_LF p lf2 kb2) (vR_NK ⟨(NN_LF lf2).1, fun c h1 h2 j hj => (NN_LF lf2).2 c h1 (by omega) j hj⟩ g3) (vRs_NF (NF_LF lf2) wv1) (KEn_md mx2 (by decide) (by decide) (by decide) ke) (CT_md mx2 (by decide) rfl ct) (by rw [f48]; omega) (by rw [f48]; omega) ev (by rw [mx2.2.1 19 (by decide) (by decide)]; exact v2) (by rw [mx2.1 49 (by decide)]; omega) (by rw [mx2.1 52 (by decide)]; omega) (fun x4 q4 m4 lx4 rq4 => ?_)
      have e43 : x4.1 0 43 = x.1 0 43 := by rw [m4.1 43 (by decide), mx2.1 43 (by decide)]
      have kv : vp_in (x4.1 0 43) 40 := by rw [e43, vp_in_iff]; have := kb.2.1; omega
      refine ⟨ev, kv, fun x7 e7 => ?_⟩
      have m7 := md_a x4 45 (x4.1 0 43).toNatClampNeg (x4.1 16 e.toNatClampNeg) (by decide)
      rw [← e7] at m7
      have f7 : x7.1 0 43 = x.1 0 43 := by rw [m7.1 43 (by decide), e43]
      refine ⟨by rw [f7, ← e43]; exact kv, fun x9 e9 => ?_⟩
      have m9 := md_a x7 46 (x7.1 0 43).toNatClampNeg (y.1 0 48) (by decide)
      rw [← e9] at m9
      have f9 : x9.1 0 43 = x.1 0 43 := by rw [m9.1 43 (by decide), f7]
      refine ⟨by rw [f9, ← e43]; exact kv, fun x11 e11 x12 e12 => ?_⟩
      have m11 := md_a x9 47 (x9.1 0 43).toNatClampNeg blk (by decide)
      rw [← e11] at m11
      have f11 : x11.1 0 43 = x.1 0 43 := by rw [m11.1 43 (by decide), f9]
      have m12 := md_f x11 43 (x11.1 0 43 + 1)
      rw [← e12] at m12
      have m412 : md [43] [45, 46, 47] x4 x12 := md_tr (md_tr (L3 := []) (A3 := [45, 46, 47]) (md_tr (L3 := []) (A3 := [45, 46]) m7 m9 rfl rfl) m11 rfl rfl) m12 rfl rfl
      have f12 : (x12.1 0 43).toInt = (x.1 0 43).toInt + 1 := by rw [e12, si_get, if_pos ⟨rfl, rfl⟩, f11, t_add (by omega) (by omega), k1]
      have s12 : (x12.1 0 48).toInt = (x.1 0 48).toInt + 1 := by rw [m412.1 48 (by decide), m4.1 48 (by decide), s2]
      have c43 : (x.1 0 43).toNatClampNeg = E.1.length := by rw [t_cl]; have := ke.1; omega
      have a45 : ∀ j : Nat, x12.1 45 j = if j = E.1.length then x.1 16 e.toNatClampNeg else x.1 45 j := fun j => by
        rw [e12, si_cell (by decide), e11, si_cell (by decide), e9, si_cell (by decide), e7, si_get, e43, c43, m4.2.1 45 (by decide) (by decide), mx2.2.1 45 (by decide) (by decide), m4.2.1 16 (by decide) (by decide), mx2.2.1 16 (by decide) (by decide)]
        by_cases q : j = E.1.length
        · rw [if_pos ⟨rfl, q⟩, if_pos q]
        · rw [if_neg (fun z => q z.2), if_neg q]
      have a46 : ∀ j : Nat, x12.1 46 j = if j = E.1.length then x.1 0 48 else x.1 46 j := fun j => by
        rw [e12, si_cell (by decide), e11, si_cell (by decide), e9, si_get, f7, c43, f48]
        by_cases q : j = E.1.length
        · rw [if_pos ⟨rfl, q⟩, if_pos q]
        · rw [if_neg (fun z => q z.2), if_neg q, e7, si_cell (by decide), m4.2.1 46 (by decide) (by decide), mx2.2.1 46 (by decide) (by decide)]
      have a47 : ∀ j : Nat, x12.1 47 j = if j = E.1.length then blk else x.1 47 j := fun j => by
        rw [e12, si_cell (by decide), e11, si_get, f9, c43]
        by_cases q : j = E.1.length
        · rw [if_pos ⟨rfl, q⟩, if_pos q]
        · rw [if_neg (fun z => q z.2), if_neg q, e9, si_cell (by decide), e7, si_cell (by decide), m4.2.1 47 (by decide) (by decide), mx2.2.1 47 (by decide) (by decide)]
      have b47 : x12.1 0 47 = x.1 0 47 := by rw [m412.1 47 (by decide), m4.1 47 (by decide), mx2.1 47 (by decide)]
      have klow : ∀ ks : gK, ks.length ≤ E.1.length → KL x ks → KL x12 ks := by
        intro ks
        induction ks with
        | nil => intro _ _; trivial
        | cons k1 ks ihk =>
          intro hl hk
          have hl : ks.length + 1 ≤ E.1.length := hl
          refine ⟨?_, ihk (by omega) hk.2⟩
          rw [a45, a46, if_neg (by omega), if_neg (by omega)]
          exact hk.1
      have xqlet : XQ sN T V K x x12 E M blk s := by
        refine ⟨LX_md (LX_eq (LX_tr (LX_md lxy m2 (by decide)) lx4) hX.symm) m412 (by decide), ?_, fun t ht => by rw [a47, if_neg (by omega)], fun t t1 t2 => ?_, by rw [b47]; omega, by rw [b47]; omega⟩
        · rw [hE]
          have kl8 := ke.2.1
          have ks3 := ks.2.2.1
          refine ⟨⟨?_, ?_, ⟨?_, klow E.1 (Nat.le_refl _) ke.2.2⟩⟩, ?_, ?_, fun t ht => ?_, by rw [b47]; exact bl0⟩
          · show (x12.1 0 43).toInt = ((E.1.length + 1 : Nat) : Int)
            have := ke.1
            omega
          · show E.1.length + 1 ≤ 8
            have := ke.1
            omega
          · rw [a45, a46, if_pos rfl, if_pos rfl]
            exact ⟨g1, ent.symm, sl, by show E.2.2 < 8; omega⟩
          · rw [s12, sl]; rfl
          · have ctx4 : CT sN T V K x4 := CT_md m4 (by decide) rfl (CT_md mx2 (by decide) rfl ct)
            exact CT_md m412 (by decide) rfl ctx4
          · rw [a47, b47]
            by_cases q : t = E.1.length
            · rw [if_pos q]; exact hb1
            · rw [if_neg q]
              exact ids t (by have : t < E.1.length + 1 := ht; omega)
        · rw [hE] at t2
          have t2 : t < E.1.length + 1 := t2
          rw [a47, if_pos (by omega)]
      have cqlet : CQ sN T V K x x12 E M := by
        intro nf hE S k w hS
        have nfN : ¬ flt sN T V N E := fun q => nf (hX.mpr (Or.inr q))
        obtain ⟨S', e9, s9, x9⟩ := rq4 nfN hE S k w none (nt - 1) E.1.length rfl (by
          show _ = ((if E.1.length = E.1.length then E.2.2 else slt E.1 E.1.length : Nat) : Int)
          rw [if_pos rfl, f48]; exact sl) (SR_keep lf2 hS)
        refine ⟨S', ?_, SR_keep (LF_fr (md_w m412 (by decide) (by decide)) q4.1.2.1) s9, x9⟩
        rw [eM, cds_app, cds_one, cd_23, cds_app, e9, cds_one, cd_22, ← eM, hE2]
      refine rv_i (h x12 ⟨LQ_mono (by omega) (by omega) (LQ_tr (LQ_tr (LQ_0 lf2) q4) (LQ_0 (LF_fr (md_w m412 (by decide) (by decide)) q4.1.2.1))), ⟨by omega, by omega, by omega, fun j hj => ?_⟩, by omega, by omega, by omega⟩ ?_ ?_)
      rotate_left
      · exact xqlet
      · exact cqlet
      have e45 : x12.1 45 j = if j = (x.1 0 43).toNatClampNeg then x4.1 16 e.toNatClampNeg else x4.1 45 j := by
        rw [e12, si_cell (by decide), e11, si_cell (by decide), e9, si_cell (by decide), e7, si_get, e43]
        by_cases q : j = (x.1 0 43).toNatClampNeg
        · rw [if_pos ⟨rfl, q⟩, if_pos q]
        · rw [if_neg (fun z => q z.2), if_neg q]
      have e46 : x12.1 46 j = if j = (x.1 0 43).toNatClampNeg then y.1 0 48 else x4.1 46 j := by
        rw [e12, si_cell (by decide), e11, si_cell (by decide), e9, si_get, f7]
        by_cases q : j = (x.1 0 43).toNatClampNeg
        · rw [if_pos ⟨rfl, q⟩, if_pos q]
        · rw [if_neg (fun z => q z.2), if_neg q, e7, si_cell (by decide)]
      rw [e45, e46]
      by_cases q : j = (x.1 0 43).toNatClampNeg
      · rw [if_pos q, if_pos q, m4.2.1 16 (by decide) (by decide), mx2.2.1 16 (by decide) (by decide), f48]
        exact ⟨g1, by omega, by omega⟩
      · rw [if_neg q, if_neg q, m4.2.1 45 (by decide) (by decide), mx2.2.1 45 (by decide) (by decide), m4.2.1 46 (by decide) (by decide), mx2.2.1 46 (by decide) (by decide)]
        exact ks.2.2.2 j (by rw [t_cl] at q; omega)
    have ldone : ∀ i : Int32, (x.1 0 43).toInt ≤ i.toInt → ((∃ q : Nat, q < i.toNatClampNeg ∧ q < E.1.length ∧ E.2.1.headD 0 ≤ q ∧ sN (x.1 45 q).toNatClampNeg nt = true) ↔ ∃ k ∈ E.1.take (E.1.length - E.2.1.headD 0), sN k.1 nt = true) := by
      intro i hi
      have := ke.1
      have ui := t_cl i
      rw [← kl_top ke.2.2]
      exact ⟨fun ⟨q, a, b⟩ => ⟨q, b⟩, fun ⟨q, b⟩ => ⟨q, by omega, b⟩⟩
    have loop : ∀ (n : Nat) (y : gd) (i : Int32), md [41, 42] [] x y → WB y → LX x y (∃ q : Nat, q < i.toNatClampNeg ∧ q < E.1.length ∧ E.2.1.headD 0 ≤ q ∧ sN (x.1 45 q).toNatClampNeg nt = true) → 0 ≤ i.toInt → (x.1 0 43).toInt - i.toInt ≤ n → MT G (D + 3) z_layS 67 [(0, vr 0), (1, vi e), (2, vi blk), (4, vi i)] [] y (rv Fv) := by
      intro n
      induction n with
      | zero =>
        intro y i my wy lxy i0 hi
        have e43 : y.1 0 43 = x.1 0 43 := my.1 43 (by decide)
        exact sg_layS_67 _ _ _ ⟨fun c => last y my wy (LX_eq lxy (ldone i (by rw [t_le, e43] at c; exact c))), fun c => absurd (t_le.mpr (by rw [e43]; omega)) c⟩
      | succ n ihn =>
        intro y i my wy lxy i0 hi
        have e43 : y.1 0 43 = x.1 0 43 := my.1 43 (by decide)
        refine sg_layS_67 _ _ _ ⟨fun c => last y my wy (LX_eq lxy (ldone i (by rw [t_le, e43] at c; exact c))), fun c => ?_⟩
        rw [t_le, e43] at c
        have iv : vp_in i 40 := by rw [vp_in_iff]; have := kb.2.1; omega
        have kb8 := kb.2.1
        have i1 : (i + 1).toInt = i.toInt + 1 := by rw [t_add (by omega) (by omega), k1]
        have hk := kb.2.2 i.toNatClampNeg (by rw [t_cl]; omega)
        have ly := LB_md my rfl rfl lb
        have i2 : (i + 1).toNatClampNeg = i.toNatClampNeg + 1 := by rw [t_cl, t_cl]; omega
        have hil : i.toNatClampNeg < E.1.length := by rw [t_cl]; have := ke.1; omega
        -- one place more is looked at
        have up0 : ¬ (E.2.1.headD 0 ≤ i.toNatClampNeg ∧ sN (x.1 45 i.toNatClampNeg).toNatClampNeg nt = true) → ((∃ q : Nat, q < i.toNatClampNeg ∧ q < E.1.length ∧ E.2.1.headD 0 ≤ q ∧ sN (x.1 45 q).toNatClampNeg nt = true) ↔ ∃ q : Nat, q < (i + 1).toNatClampNeg ∧ q < E.1.length ∧ E.2.1.headD 0 ≤ q ∧ sN (x.1 45 q).toNatClampNeg nt = true) := by
          intro no
          rw [i2]
          refine ⟨fun ⟨q, a, b⟩ => ⟨q, by omega, b⟩, fun ⟨q, a, b⟩ => ⟨q, ?_, b⟩⟩
          by_cases cq : q = i.toNatClampNeg
          · rw [cq] at b; exact absurd ⟨b.2.1, b.2.2⟩ no
          · omega
        have hid := hbk i.toNatClampNeg hil
        refine ⟨iv, fun c2 => ihn y _ my wy (LX_eq lxy (up0 (fun z => c2 (by rw [my.2.1 47 (by decide) (by decide)]; exact hid.mpr z.1)))) (by omega) (by omega), fun c2 => ⟨iv, ev, ?_⟩⟩
        rw [my.2.1 47 (by decide) (by decide)] at c2
        rw [my.2.1 45 (by decide) (by decide), my.2.1 16 (by decide) (by decide)]
        have sy : smB y = sN := (CT_md my (by decide) rfl ct).1
        refine sf_isSameName _ _ hk.1 g1 ly.1 (fun r hr => ?_)
        rw [sy, ← ent] at hr
        refine ⟨fun c3 => ihn y _ my wy (LX_eq lxy (up0 (fun z => hr.mpr z.2 c3))) (by omega) (by omega), fun c3 => ⟨ev, sf_wrongAt _ _ (by decide) (by rw [my.2.1 16 (by decide) (by decide)]; exact g1) ly.1 wy (fun z mz wz gz => ihn z _ (md_tr my mz rfl rfl) wz (LX_yes ⟨i.toNatClampNeg, by rw [i2]; omega, hil, hid.mp c2, hr.mp c3⟩ gz) (by omega) (by omega))⟩⟩
    exact loop _ x 0 (md_w (md_rf x) (by decide) (by decide)) wb (LX_no (fun ⟨q, a, _⟩ => absurd a (by show ¬ q < 0; omega))) (by decide) (Int.self_le_toNat _)
  · -- set
    obtain ⟨g1, g2⟩ := vD_21 c0 v4
    obtain ⟨ea, N, wv1, eM⟩ := wD_21 c0 wv
    rw [← ea] at wv1
    exact sf_laySet (a := s - 1) e ct ke wv1 (by omega) p ev v2 g1 g2 (by omega) (by omega) (fun z q mz lx cq => rv_i (h z (QL_1 q mz ks (by omega) v3) (XQ_md mz xp (LX_eq lx (by rw [eM, flt_end rfl])) (by rw [eM]; exact still_app (vRr_st wv1.1) (still_k rfl))) (fun nf hE S k w hS => by
      rw [eM, flt_end rfl] at nf
      obtain ⟨S', e9, s9, x9⟩ := cq nf hE S k w hS
      refine ⟨S', ?_, s9, x9⟩
      rw [eM, cds_app, e9, cds_one, cd_77, exs_app, exs_still (still_k rfl)])))
  · -- put
    obtain ⟨g1, i, j, g2, g3, g4⟩ := vD_22 c0 v4
    obtain ⟨ea, n1, n2, N1, N2, wv1, wv2, eM⟩ := wD_22 c0 wv
    have sM : still M := by rw [eM]; exact still_app (still_k rfl) (still_app (still_54 (vV_st wv1)) (still_app (still_54 (vV_st wv2)) (still_k rfl)))
    have hX : ((¬ ∃ n, rwc sN T (x.1 16 e.toNatClampNeg).toNatClampNeg n) ∨ flt sN T V N1 E) ∨ flt sN T V N2 E ↔ flt sN T V M E := by
      rw [eM, flt_app, flt_one, fv_7, exs_one, exV_still ⟨by show ¬ 7 = 20; decide, by show ¬ 7 = 21; decide, by show ¬ 7 = 22; decide⟩, flt_app, exs_still (still_54 (vV_st wv1)), flt_sum, flt_end rfl, flt_sum, ea, or_assoc]
    refine sf_cellOf _ _ (Or.inr rfl) g1 lb wb tr (fun r8 y my wy hc2 lxy hc3 hcn => ⟨ev, ?_⟩)
    rw [esm] at hc3 hcn
    have lxy2 : LX x y (¬ ∃ n, rwc sN T (x.1 16 e.toNatClampNeg).toNatClampNeg n) := LX_eq lxy (by rw [hc3]; exact ⟨fun z => z.2 rfl, fun z => ⟨fun q => absurd q (by decide), fun _ => z⟩⟩)
    have cn : cN x r8 := hc2.imp id (fun q => ⟨q.1, q.2.1⟩)
    have lf := LF_wr my wy
    rw [my.2.1 17 (by decide) (by decide)]
    refine wk y 0 0 i _ N1 _ lf (md_w my (by decide) (by decide)) (by omega) (by omega) g3 ⟨_, wv1⟩ (fun r11 z lw lfz kbz lxz su1 => ⟨ev, ?_⟩)
    have mz : md pL pA x z := md_tr my (LW_md lw) rfl rfl
    rw [mz.2.1 18 (by decide) (by decide)]
    refine wk z 0 _ j _ N2 _ lfz mz (by omega) (by omega) g4 ⟨_, wv2⟩ (fun r14 u lu lfu kbu lxu su2 => ?_)
    have lxm : LX x u (flt sN T V M E) := LX_eq (LX_tr (LX_tr lxy2 lxz) lxu) hX
    have mu : md pL pA x u := md_tr mz (LW_md lu) rfl rfl
    have q11 : wo u 0 r11 := wo_keep (LF_wk lu).2.2.2.2.1 lu.2.2.1 lw.2.2.2.2.2
    obtain ⟨u1, u2, u3, u4⟩ := LF_ok p lfu (by omega)
    have p291 : ∀ (w2 : gd) (n1 sz : Int32), w2.1 62 (u.1 0 52).toNatClampNeg = kms E.1 → (¬ flt sN T V M E → n1.toInt = nmT sN 0 (x.1 16 e.toNatClampNeg).toNatClampNeg T ∧ sz.toInt = rsT sN T (x.1 16 e.toNatClampNeg).toNatClampNeg) → aD u w2 1 n1 → 0 ≤ n1.toInt → n1.toInt < 24 → 0 ≤ sz.toInt → n1.toInt + sz.toInt ≤ 24 → MT G (D + 3) z_layS 291 [(0, vr 0), (3, vi (u.1 0 52)), (6, vi r11), (7, vi r14)] [vi sz, vi (u.1 0 52), vr 57] w2 (rv Fv) := by
      intro w2 n1 sz hwm hnn hw2 h1 h2 h3 h4
      refine sg_layS_291 _ _ _ _ _ ⟨u1, fun y2 e2 => ⟨u1, fun y4 e4 => ⟨u1, fun y6 e6 => ?_⟩⟩⟩
      have hst := stp_59 (stp_58 (stp_57 (stp_a hw2) e2) e4) e6
      refine fin u y6 0 _ _ _ _ _ _ _ _ _ lfu mu lxm sM (by omega) (stp_59 (stp_58 (stp_57 (stp_a hw2) e2) e4) e6) q11 lu.2.2.2.2.2 (Or.inl rfl) (by decide) (Or.inr (Or.inr (Or.inr (Or.inr (Or.inr ⟨rfl, Or.inl rfl, Or.inl ⟨by decide, by decide, h1, h2, h3, Or.inr h4⟩⟩))))) ?_
      refine CQ_mk (st := (1, (x.1 19 e.toNatClampNeg).toNatClampNeg, knw E, none, some (x.1 19 e.toNatClampNeg).toNatClampNeg, true, some N1, some N2, none)) lfu hst (by omega) (by rw [e6, si_cell (by decide), e4, si_cell (by decide), e2, si_cell (by decide)]; exact hwm) (exs_still sM) (fun nf hE => ⟨fun S k w => ?_, rfl, fun _ => rfl, ?_, ?_, SUm_keep (LF_wk lu).2.2.2.2.1 lu.2.2.1 (su1 (fun q => nf (hX.mp (Or.inl (Or.inr q))))), su2 (fun q => nf (hX.mp (Or.inr q))), rfl, rfl⟩)
      · rw [eM, cds_app, cds_one, cd_7 hE, cds_app, cds_x (vV_sE wv1) hE, cds_app, cds_x (vV_sE wv2) hE, cds_one, cd_78]; rfl
      · rw [← ea]; exact i32_of (hnn nf).1
      · rw [← ea]; exact i32_of (hnn nf).2
    have k0 : (0 : Int32).toInt = 0 := rfl
    refine ⟨fun c3 => ?_, fun c3 => ?_⟩
    · obtain ⟨b1, b2, b3, b4⟩ := cN_v lb lfu cn c3
      refine ⟨b1, sg_layS_264 _ _ _ _ _ _ (sf_layAct _ _ _ u1 kbu (LF_s lfu ev v2) u2 (fun w2 hw2 hwm => ⟨fun _ => ⟨b1, ?_⟩, fun q => absurd q c3⟩))⟩
      rw [hw2.1.2.1 33 (by decide) (by decide)]
      exact p291 w2 _ _ hwm (fun _ => by rw [mu.2.1 32 (by decide) (by decide), mu.2.1 33 (by decide) (by decide)]; exact ⟨(hcn c3).1, (hcn c3).2 rfl⟩) hw2 b2 (by omega) (by omega) b4
    · exact sg_layS_264 _ _ _ _ _ _ (sf_layAct _ _ _ u1 kbu (LF_s lfu ev v2) u2 (fun w2 hw2 hwm => ⟨fun q => absurd c3 q, fun _ => p291 w2 _ _ hwm (fun nf => absurd (hX.mp (Or.inl (Or.inl ((hc3.mp c3).2 rfl)))) nf) hw2 (by decide) (by decide) (by decide) (by decide)⟩))
  · -- if
    obtain ⟨i, j, q, c1, c2, g1, g2, g3, g4, g5, g6⟩ := vD_23 c0 v4
    obtain ⟨n1, N1, N2, N3, wv1, wv2, -, wv3, eM⟩ := wD_23 c0 wv
    have nlB2 : nl N2 := wB_nl hV wv2
    have s60 : still ((N1 ++ [(54, 0, 0)]) ++ [(60, (x.1 19 e.toNatClampNeg).toNatClampNeg, 0)]) := still_app (still_54 (vV_st wv1)) (still_k rfl)
    have j2 : 2 ≤ j := by obtain ⟨_, _, _, L, _, _, z, _⟩ := g4; omega
    refine wk x 0 0 i _ N1 _ rf rfm (by omega) (by omega) g3 ⟨_, wv1⟩ (fun r20 y lw lfy kby lxy suy => ?_)
    obtain ⟨y1, y2, y3, y4⟩ := LF_ok p lfy (by omega)
    have ey : (y.1 0 52).toInt = (x.1 0 52).toInt := by have := lfy.2.2.1; have := lfy.2.2.2.1; omega
    refine sf_layStep _ _ y1 kby (LF_s lfy ev v2) y2 (fun y21 h21 hm21 => ⟨y1, fun y24 e24 => ⟨ev, ?_⟩⟩)
    have st := stp_59 (stp_s h21) e24
    obtain ⟨i0, ei0⟩ : ∃ i0, i0 = (x.1 19 e.toNatClampNeg).toNatClampNeg := ⟨_, rfl⟩
    have srT : ¬ flt sN T V N1 E → ∀ S, SR sN T V K x S → SR sN T V K y24 (S ++ [(17, i0, knw E, none, none, false, none, some N1, none)]) := fun nf S hS => SR_snoc (st := (17, i0, knw E, none, none, false, none, some N1, none)) hS lfy st (by omega) (by rw [e24, si_cell (by decide)]; exact hm21) rfl (fun q => absurd q (show ¬ 17 < 16 by decide)) rfl rfl rfl (suy nf) rfl rfl
    have lo24 := LO_stp (LO_of (LQ_0 lfy)) st y3 y4 (Or.inl rfl) (Or.inl rfl) lw.2.2.2.2.2 (Or.inl rfl) (fun _ q => q.elim)
    have u24 := stp_up st y3 y4
    have m24 : md pL pA x y24 := md_tr (LW_md lw) st.1 rfl rfl
    have ks24 := KS_md m24 (by decide) (by decide) (by decide) (by decide) ks
    have e48 : y24.1 0 48 = x.1 0 48 := m24.1 48 (by decide)
    have e43 : y24.1 0 43 = x.1 0 43 := m24.1 43 (by decide)
    have lf24 := lo24.1
    have b4 := lf24.2.2.2.1
    have b6 := lf24.2.2.2.2.2.1
    rw [m24.2.1 17 (by decide) (by decide)]
    have xq24 : XQ sN T V K x y24 E ((N1 ++ [(54, 0, 0)]) ++ [(60, (x.1 19 e.toNatClampNeg).toNatClampNeg, 0)]) blk 0 := XQ_md m24 xp (LX_md (LX_eq lxy (by rw [flt_end rfl, flt_sum])) st.1 (by decide)) s60
    have xp24 : XP sN T V K y24 E := XP_md m24 rfl rfl xp
    have e47 : y24.1 0 47 = x.1 0 47 := m24.1 47 (by decide)
    refine sf_layBlock k ih (m := m) (s := j) (c := c1) (z0 := 3) (M := N2) (E := E) (by omega) (by omega) (vB_LF lf24 g4) (wB_LF lf24 wv2) (PL_LF p lf24 (KS_KB ks24)) ks24 xp24 (by rw [e47]; omega) (by rw [e48]; omega) (by omega) (by omega) (fun y26 q26 xb26 cb26 => ⟨ev, ?_⟩)
    have xq26 : XQ sN T V K x y26 E (((N1 ++ [(54, 0, 0)]) ++ [(60, (x.1 19 e.toNatClampNeg).toNatClampNeg, 0)]) ++ N2) blk (0 + j) := XQ_tr xq24 (by rw [exs_still s60]; exact xb26 blk) (by rw [exs_still s60]; exact Nat.le_refl _)
    have e60 : exs (((N1 ++ [(54, 0, 0)]) ++ [(60, (x.1 19 e.toNatClampNeg).toNatClampNeg, 0)]) ++ N2) E = exs N2 E := by rw [exs_app, exs_still s60]
    have x26 : XP sN T V K y26 (exs N2 E) := by rw [← e60]; exact xq26.2.1
    have nfM : ¬ flt sN T V M E → ¬ flt sN T V N1 E ∧ ¬ flt sN T V N2 E ∧ ¬ flt sN T V N3 (exs N2 E) := fun nf => by
      rw [eM, flt_app, flt_sum, exs_still (still_54 (vV_st wv1)), flt_app, exs_still (still_k rfl), flt_app] at nf
      exact ⟨fun q => nf (Or.inl q), fun q => nf (Or.inr (Or.inr (Or.inl q))), fun q => nf (Or.inr (Or.inr (Or.inr (by rw [flt_end rfl]; exact q))))⟩
    have hd26 : ¬ flt sN T V M E → ¬ E.2.1 = [] → ∀ S k w, SR sN T V K x S → ∃ S2, cds sN K (((N1 ++ [(54, 0, 0)]) ++ [(60, i0, 0)]) ++ N2) (E, S, k, rg0, w) = (exs N2 E, S2, S.length :: k, rg0, w) ∧ SR sN T V K y26 S2 ∧ xtS (S ++ [(17, i0, knw E, none, none, false, none, some N1, none)]) S2 := by
      intro nf hE S k w hS
      obtain ⟨n1', n2', -⟩ := nfM nf
      obtain ⟨S2, e9, s9, x9⟩ := cb26 n2' _ (S.length :: k) w (srT n1' S hS)
      refine ⟨S2, ?_, s9, x9⟩
      rw [cds_app, cds_app, cds_x (vV_sE wv1) hE, cds_one, cd_60]
      exact e9
    have L26 : ∀ S, SR sN T V K x S → (y.1 0 52).toNatClampNeg = S.length := fun S hS => by rw [t_cl, ey, hS.1]; omega
    have l26 : (exs N2 E).1 = E.1 := (nlB2 E).1
    have t26 := xq26.2.2.2.2
    obtain ⟨q26a, ks26, q26c, q26d, q26e⟩ := q26
    have hK : (((y.1 0 52).toNatClampNeg : Nat) : Int) = (x.1 0 52).toInt := by rw [t_cl]; omega
    have lo26 := LO_LQ lo24 q26a (fun z hz => by
      have hz := hz.resolve_left id
      rw [hz, hK]; omega)
    have lf26 := lo26.1
    have b26 := q26a.1.2.2.1
    have e18 : y26.1 18 = x.1 18 := lf26.1.2.1 18 (by decide) (by decide)
    rw [e18]
    obtain ⟨z1, z2, z3, z4⟩ := LF_ok p lf26 (by omega)
    have yv : vp_in (y.1 0 52) 1500 := y1
    refine ⟨fun c3 => ⟨yv, fun y30 e30 => ?_⟩, fun c3 => ?_⟩
    · obtain ⟨lo30, m30⟩ := LO_set lo26 e30 (by omega) (by omega) (Or.inr rfl) z3 (by omega) (Or.inl (by omega))
      have lq := LO_done lo30 (fun j hj => hj.2 (hj.1.resolve_left id))
      have f48 : y30.1 0 48 = y26.1 0 48 := m30.1 48 (by decide)
      have f43 : y30.1 0 43 = y26.1 0 43 := m30.1 43 (by decide)
      have e3 : N3 = [] := by
        rcases wv3 with ⟨_, z⟩ | ⟨_, z, _⟩
        · exact z
        · rw [c3] at z; exact absurd z (by decide)
      have xq30 : XQ sN T V K x y30 E M blk s := by
        have a := XQ_to xq26 m30 rfl rfl
        have b : XQ sN T V K y30 y30 (exs (((N1 ++ [(54, 0, 0)]) ++ [(60, (x.1 19 e.toNatClampNeg).toNatClampNeg, 0)]) ++ N2) E) [(63, 0, 0)] blk 0 := XQ_md (md_w (md_rf y30) (by decide) (by decide)) a.2.1 (LX_no (flt_k rfl)) (still_k rfl)
        exact XQ_eq (XQ_tr a b (by rw [e60, l26]; exact Nat.le_refl _)) (by rw [eM, e3]; simp only [List.append_assoc, List.nil_append]) (by omega)
      exact rv_i (h y30 ⟨LQ_mono (by omega) (by omega) lq, KS_md m30 (by decide) (by decide) (by decide) (by decide) ks26, by rw [f43, q26c, e43]; omega, by rw [f48]; rw [e48] at q26d; omega, by rw [f48]; rw [e48] at q26e; omega⟩ xq30 (fun nf hE S k w hS => by
        obtain ⟨S2, e9, s9, x9⟩ := hd26 nf hE S k w hS
        have hl := L26 S hS
        rw [hl] at e30
        have hl2 : S.length < S2.length := by have := x9.1; rw [List.length_append] at this; exact this
        have e26 : exs M E = exs N2 E := by
          rw [eM, e3, exs_app, exs_still (still_54 (vV_st wv1)), exs_app, exs_still (still_k rfl), List.nil_append, exs_app, exs_still (still_k rfl)]
        refine ⟨cTo S2 S.length S2.length, ?_, SR_to s9 e30 hl2 (fun st hst => ?_) s9.1, xtS_to (xtS_tr xtS_sn x9) (Nat.le_refl _)⟩
        · have eM2 : M = (((N1 ++ [(54, 0, 0)]) ++ [(60, i0, 0)]) ++ N2) ++ [(63, 0, 0)] := by rw [eM, e3, ei0]; simp only [List.append_assoc, List.nil_append]
          rw [e26, eM2, cds_app, e9, cds_one, cd_63]; rfl
        · rw [x9.2 S.length (by rw [List.length_append]; exact Nat.lt_succ_self _), List.getElem?_append_right (Nat.le_refl _), Nat.sub_self] at hst
          rw [← Option.some.inj hst]
          exact Or.inl rfl))
    · refine sf_layStep _ _ z1 x26.1 (Or.inl rfl) z2 (fun y31 h31 hm31 => ⟨yv, fun y34 e34 => ?_⟩)
      have st31 := stp_s h31
      have u31 := stp_up st31 z3 z4
      have lo31 := LO_stp lo26 st31 z3 z4 (Or.inr rfl) (Or.inl rfl) (Or.inl rfl) (Or.inl rfl) (fun z hz => by
        have hz := hz.resolve_left id
        rw [hz, hK]; omega)
      obtain ⟨lo34, m34⟩ := LO_set lo31 e34 (by omega) (by omega) (Or.inl (Or.inr rfl)) (by omega) (by omega) (Or.inl (by omega))
      have hK2 : (((y26.1 0 52).toNatClampNeg : Nat) : Int) = (y26.1 0 52).toInt := by rw [t_cl]; omega
      have lf34 := lo34.1
      have ks34 : KS y34 := KS_md (md_tr (L3 := [52]) (A3 := tA) st31.1 m34 rfl rfl) (by decide) (by decide) (by decide) (by decide) ks26
      have f48 : y34.1 0 48 = y26.1 0 48 := by rw [m34.1 48 (by decide), st31.1.1 48 (by decide)]
      have f43 : y34.1 0 43 = y26.1 0 43 := by rw [m34.1 43 (by decide), st31.1.1 43 (by decide)]
      have f52 : (y34.1 0 52).toInt = (y26.1 0 52).toInt + 1 := by rw [m34.1 52 (by decide), u31]
      have f18 : y34.1 18 = x.1 18 := lf34.1.2.1 18 (by decide) (by decide)
      have f15 : y34.1 15 = x.1 15 := lf34.1.2.1 15 (by decide) (by decide)
      obtain ⟨g7, g8⟩ := g6.resolve_left c3
      obtain ⟨-, d0, je, N4, e3, wv4⟩ := wv3.resolve_left (fun z => c3 z.1)
      have x34 : XP sN T V K y34 (exs N2 E) := XP_md (md_tr (L3 := [52]) (A3 := tA) st31.1 m34 rfl rfl) rfl rfl x26
      have xq34 : XQ sN T V K x y34 E ((((N1 ++ [(54, 0, 0)]) ++ [(60, (x.1 19 e.toNatClampNeg).toNatClampNeg, 0)]) ++ N2) ++ [(62, je, 0)]) blk (0 + j + 0) := by
        have a := XQ_to xq26 (md_tr (L3 := [52]) (A3 := tA) st31.1 m34 rfl rfl) rfl rfl
        exact XQ_tr a (XQ_md (md_w (md_rf y34) (by decide) (by decide)) a.2.1 (LX_no (flt_k rfl)) (still_k rfl)) (by rw [e60, l26]; exact Nat.le_refl _)
      have e62 : exs ((((N1 ++ [(54, 0, 0)]) ++ [(60, (x.1 19 e.toNatClampNeg).toNatClampNeg, 0)]) ++ N2) ++ [(62, je, 0)]) E = exs N2 E := by rw [exs_app, e60, exs_still (still_k rfl)]
      have t34 := xq34.2.2.2.2
      have hd34 : ¬ flt sN T V M E → ¬ E.2.1 = [] → ∀ S k w, SR sN T V K x S → ∃ S2, cds sN K ((((N1 ++ [(54, 0, 0)]) ++ [(60, i0, 0)]) ++ N2) ++ [(62, je, 0)]) (E, S, k, rg0, w) = (exs N2 E, cTo (S2 ++ [(20, 0, knw (exs N2 E), none, none, false, none, none, none)]) S.length (S2.length + 1), S2.length :: k, rg0, w) ∧ SR sN T V K y34 (cTo (S2 ++ [(20, 0, knw (exs N2 E), none, none, false, none, none, none)]) S.length (S2.length + 1)) ∧ (y26.1 0 52).toInt = S2.length ∧ S.length < S2.length ∧ xtS S S2 := by
        intro nf hE S k w hS
        obtain ⟨S2, e9, s9, x9⟩ := hd26 nf hE S k w hS
        have hl := L26 S hS
        rw [hl] at e34
        have hl2 : S.length < S2.length := by have := x9.1; rw [List.length_append] at this; exact this
        have sr31 : SR sN T V K y31 (S2 ++ [(20, 0, knw (exs N2 E), none, none, false, none, none, none)]) := SR_snoc (st := (20, 0, knw (exs N2 E), none, none, false, none, none, none)) s9 (LF_wr (md_w (md_rf y26) (by decide) (by decide)) lf26.2.1) st31 (by omega) hm31 rfl (fun q => absurd q (show ¬ 20 < 16 by decide)) rfl rfl rfl rfl rfl rfl
        refine ⟨S2, ?_, SR_to sr31 e34 (by rw [List.length_append]; omega) (fun st hst => ?_) (by rw [sr31.1, List.length_append]; rfl), s9.1, hl2, xtS_tr xtS_sn x9⟩
        · rw [cds_app, e9, cds_one, cd_62]; rfl
        · rw [List.getElem?_append_left hl2, x9.2 S.length (by rw [List.length_append]; exact Nat.lt_succ_self _), List.getElem?_append_right (Nat.le_refl _), Nat.sub_self] at hst
          rw [← Option.some.inj hst]
          exact Or.inl rfl
      have nl4 : nl N4 := by
        rcases wv4 with z | ⟨_, z, N5, z2⟩
        · exact wB_nl hV z
        · refine (wS_env k _ _ z).2 (fun w => ?_)
          cases k with
          | zero => exact z.elim
          | succ k =>
            rw [z2] at z
            have := wD_63 z.2.2
            rw [w] at this
            exact absurd this (by decide)
      have b34 := lf34.2.2.2.1
      have b346 := lf34.2.2.2.2.2.1
      have dv : vp_in (x.1 18 e.toNatClampNeg) 3000 := by
        rcases g8 with g8 | g8
        · rw [vp_in_iff]; have := g8.1; omega
        · cases k with
          | zero => exact g8.elim
          | succ k => rw [vp_in_iff]; have := g8.1; omega
      have set2 : ∀ (y39 y41 : gd) (n2 w2 : Nat), LQ y34 y39 n2 w2 → n2 ≤ q → w2 ≤ 2 * q → KS y39 → (y34.1 0 43).toInt ≤ (y39.1 0 43).toInt → (y34.1 0 48).toInt ≤ (y39.1 0 48).toInt → (y39.1 0 48).toInt ≤ (y34.1 0 48).toInt + c2 → XQ sN T V K y34 y39 (exs N2 E) N4 blk q → (¬ flt sN T V N4 (exs N2 E) → ¬ E.2.1 = [] → ∀ S k w, SR sN T V K y34 S → ∃ S', cds sN K N4 (exs N2 E, S, k, rg0, w) = (exs N4 (exs N2 E), S', k, rg0, w) ∧ SR sN T V K y39 S' ∧ xtS S S') → y41 = si y39 61 (y26.1 0 52).toNatClampNeg (y39.1 0 52) → rv Fv none y41 := by
        intro y39 y41 n2 w2 lq hn2 hw2 k39 a43 a48 a48b xq39 cq39 e41
        have b39 := lq.1.2.2.1
        have lo39 := LO_LQ lo34 lq (fun z hz => by
          rcases hz.1 with hz1 | hz1
          · exact absurd (hz1.resolve_left id) hz.2
          · rw [hz1, hK2]; omega)
        obtain ⟨lo41, m41⟩ := LO_set lo39 e41 (by omega) (by omega) ⟨Or.inr rfl, fun z => by
          have z2 : (((y26.1 0 52).toNatClampNeg : Nat) : Int) = ((y.1 0 52).toNatClampNeg : Nat) := by rw [z]
          omega⟩ (by omega) (by omega) (Or.inl (by omega))
        have lq41 := LO_done lo41 (fun j hj => by
          rcases hj.1.1 with z | z
          · exact hj.1.2 (z.resolve_left id)
          · exact hj.2 z)
        have d48 : y41.1 0 48 = y39.1 0 48 := m41.1 48 (by decide)
        have d43 : y41.1 0 43 = y39.1 0 43 := m41.1 43 (by decide)
        rw [f43, q26c, e43] at a43
        rw [e48] at q26e q26d
        rw [f48] at a48 a48b
        have xq41 : XQ sN T V K x y41 E M blk s := by
          have a := XQ_to (XQ_tr xq34 (by rw [e62]; exact xq39) (by rw [e62, l26]; exact Nat.le_refl _)) m41 rfl rfl
          have b := XQ_md (b := blk) (s := 0) (md_w (md_rf y41) (by decide) (by decide)) a.2.1 (LX_no (flt_k (k := 63) (a := 0) (b := 0) rfl)) (still_k rfl)
          refine XQ_eq (XQ_tr a b ?_) (by rw [eM, e3]; simp only [List.append_assoc]) (by omega)
          rw [exs_app, e62, (nl4 _).1, l26]
          exact Nat.le_refl _
        exact rv_i (h y41 ⟨LQ_mono (by omega) (by omega) lq41, KS_md m41 (by decide) (by decide) (by decide) (by decide) k39, by rw [d43]; exact a43, by rw [d48]; omega, by rw [d48]; omega⟩ xq41 (fun nf hE S k w hS => by
          obtain ⟨S2, e9, s9, l9, hl2, x9⟩ := hd34 nf hE S k w hS
          have n4 : ¬ flt sN T V N4 (exs N2 E) := fun q => (nfM nf).2.2 (by rw [e3, flt_app, exs_still (still_k rfl)]; exact Or.inr q)
          obtain ⟨S4, e8, s8, x8⟩ := cq39 n4 hE _ (S2.length :: k) w s9
          have hl : (y26.1 0 52).toNatClampNeg = S2.length := by rw [t_cl, l9]; omega
          rw [hl] at e41
          have hx : xtS S (cTo (S2 ++ [(20, 0, knw (exs N2 E), none, none, false, none, none, none)]) S.length (S2.length + 1)) := xtS_to (xtS_tr x9 xtS_sn) (Nat.le_refl _)
          have hlt : S2.length < (cTo (S2 ++ [(20, 0, knw (exs N2 E), none, none, false, none, none, none)]) S.length (S2.length + 1)).length := by rw [cTo_len, List.length_append]; exact Nat.lt_succ_self _
          have e26 : exs M E = exs N4 (exs N2 E) := by
            rw [eM, e3, exs_app, exs_still (still_54 (vV_st wv1)), exs_app, exs_still (still_k rfl), exs_app, exs_app, exs_app, exs_still (still_k (k := 62) rfl), exs_still (still_k (k := 63) rfl)]
          refine ⟨cTo S4 S2.length S4.length, ?_, SR_to s8 e41 (Nat.lt_of_lt_of_le hlt x8.1) (fun st hst => ?_) s8.1, xtS_to (xtS_tr hx x8) (Nat.le_of_lt hl2)⟩
          · have eM2 : M = ((((((N1 ++ [(54, 0, 0)]) ++ [(60, i0, 0)]) ++ N2) ++ [(62, je, 0)]) ++ N4)) ++ [(63, 0, 0)] := by rw [eM, e3, ei0]; simp only [List.append_assoc]
            rw [e26, eM2, cds_app, cds_app, e9, e8, cds_one, cd_63]; rfl
          · rw [x8.2 S2.length hlt, cTo_at, List.getElem?_append_right (Nat.le_refl _), Nat.sub_self] at hst
            have hst := Option.some.inj hst
            have hne : ¬ S2.length = S.length := by omega
            rw [← hst]
            show (if S2.length = S.length then _ else _ : gSt).1 = 17 ∨ (if S2.length = S.length then _ else _ : gSt).1 = 20
            rw [if_neg hne]
            exact Or.inr rfl))
      rw [e48] at q26e q26d
      refine ⟨ev, by rw [f18]; exact dv, fun c4 => ⟨ev, ?_⟩, fun c4 => ⟨ev, ?_⟩⟩
      · rw [f18, f15] at c4
        rw [f18]
        have g9 := g8.resolve_left (fun z => c4 z.2.2.1)
        have wv5 : wSt x m k (x.1 18 e.toNatClampNeg) N4 ∧ ¬ x.1 15 (x.1 18 e.toNatClampNeg).toNatClampNeg = 20 := by
          rcases wv4 with z | ⟨_, z, N5, z2⟩
          · exact absurd z.2.1 c4
          · refine ⟨z, fun w => ?_⟩
            cases k with
            | zero => exact z.elim
            | succ k =>
              rw [z2] at z
              have := wD_63 z.2.2
              rw [w] at this
              exact absurd this (by decide)
        exact ih G (D + 2) y34 _ m q c2 _ _ N4 (exs N2 E) (by omega) (by omega) (vS_LF lf34 g9) (wS_LF lf34 wv5.1) (PL_LF p lf34 (KS_KB ks34)) ks34 x34 (fun z => absurd (by rw [← f15]; exact z) wv5.2) (by show (-1 : Int) ≤ _; have := x34.2.2.2.2; omega) (by omega) (by rw [f48]; omega) (by omega) (by omega) (fun y39 q39 xq39 cq39 => ⟨z1, fun y41 e41 => set2 y39 y41 _ _ q39.1 (by omega) (by omega) q39.2.1 q39.2.2.1 q39.2.2.2.1 q39.2.2.2.2 (XQ_b xq39 nl4) (fun n4 hE => cq39 n4 (by rw [(nlB2 E).2]; exact hE)) e41⟩)
      · rw [f18, f15] at c4
        rw [f18]
        have g9 : vB x m (vS x m k) q c2 (x.1 18 e.toNatClampNeg) := g8.resolve_right (fun z => by
          cases k with
          | zero => exact z.elim
          | succ k => exact vD_no c4 z.2.2.2)
        have wv5 : wB x m (wSt x m k) 4 (x.1 18 e.toNatClampNeg) N4 := by
          rcases wv4 with z | ⟨z, _⟩
          · exact z
          · exact absurd c4 z
        exact sf_layBlock k ih (m := m) (s := q) (c := c2) (z0 := 4) (M := N4) (E := exs N2 E) (by omega) (by omega) (vB_LF lf34 g9) (wB_LF lf34 wv5) (PL_LF p lf34 (KS_KB ks34)) ks34 x34 (by omega) (by rw [f48]; omega) (by omega) (by omega) (fun y43 q43 xb43 cb43 => ⟨z1, fun y45 e45 => set2 y43 y45 _ _ q43.1 (by omega) (by omega) q43.2.1 (by rw [q43.2.2.1]; omega) q43.2.2.2.1 q43.2.2.2.2 (xb43 blk) (fun n4 _ => cb43 n4) e45⟩)
  · -- while
    obtain ⟨i, j, g1, g3, g4, g5⟩ := vD_24 c0 v4
    obtain ⟨n1, N1, N2, wv1, wv2, -, eM⟩ := wD_24 c0 wv
    have s61 : still ((N1 ++ [(54, 0, 0)]) ++ [(61, (x.1 19 e.toNatClampNeg).toNatClampNeg, 0)]) := still_app (still_54 (vV_st wv1)) (still_k rfl)
    have j2 : 2 ≤ j := by obtain ⟨_, _, _, L, _, _, z, _⟩ := g4; omega
    refine wk x 0 0 i _ N1 _ rf rfm (by omega) (by omega) g3 ⟨_, wv1⟩ (fun r20 y lw lfy kby lxy suy => ?_)
    obtain ⟨y1, y2, y3, y4⟩ := LF_ok p lfy (by omega)
    have ey : (y.1 0 52).toInt = (x.1 0 52).toInt := by have := lfy.2.2.1; have := lfy.2.2.2.1; omega
    refine sf_layStep _ _ y1 kby (LF_s lfy ev v2) y2 (fun y21 h21 hm21 => ⟨y1, fun y24 e24 => ⟨ev, ?_⟩⟩)
    have st := stp_59 (stp_s h21) e24
    obtain ⟨i0, ei0⟩ : ∃ i0, i0 = (x.1 19 e.toNatClampNeg).toNatClampNeg := ⟨_, rfl⟩
    have srT : ¬ flt sN T V N1 E → ∀ S, SR sN T V K x S → SR sN T V K y24 (S ++ [(17, i0, knw E, none, none, false, none, some N1, none)]) := fun nf S hS => SR_snoc (st := (17, i0, knw E, none, none, false, none, some N1, none)) hS lfy st (by omega) (by rw [e24, si_cell (by decide)]; exact hm21) rfl (fun q => absurd q (show ¬ 17 < 16 by decide)) rfl rfl rfl (suy nf) rfl rfl
    have lo24 := LO_stp (LO_of (LQ_0 lfy)) st y3 y4 (Or.inl rfl) (Or.inl rfl) lw.2.2.2.2.2 (Or.inl rfl) (fun _ q => q.elim)
    have u24 := stp_up st y3 y4
    have m24 : md pL pA x y24 := md_tr (LW_md lw) st.1 rfl rfl
    have ks24 := KS_md m24 (by decide) (by decide) (by decide) (by decide) ks
    have e48 : y24.1 0 48 = x.1 0 48 := m24.1 48 (by decide)
    have e43 : y24.1 0 43 = x.1 0 43 := m24.1 43 (by decide)
    have lf24 := lo24.1
    have b4 := lf24.2.2.2.1
    have b6 := lf24.2.2.2.2.2.1
    rw [m24.2.1 17 (by decide) (by decide)]
    have xq24 : XQ sN T V K x y24 E ((N1 ++ [(54, 0, 0)]) ++ [(61, (x.1 19 e.toNatClampNeg).toNatClampNeg, 0)]) blk 0 := XQ_md m24 xp (LX_md (LX_eq lxy (by rw [flt_end rfl, flt_sum])) st.1 (by decide)) s61
    have xp24 : XP sN T V K y24 E := XP_md m24 rfl rfl xp
    have e47 : y24.1 0 47 = x.1 0 47 := m24.1 47 (by decide)
    refine sf_layBlock k ih (m := m) (s := j) (c := c) (z0 := 1) (M := N2) (E := E) (by omega) (by omega) (vB_LF lf24 g4) (wB_LF lf24 wv2) (PL_LF p lf24 (KS_KB ks24)) ks24 xp24 (by rw [e47]; omega) (by rw [e48]; omega) (by omega) (by omega) (fun y26 q26 xb26 cb26 => ?_)
    have x26 : XP sN T V K y26 (exs N2 E) := (xb26 blk).2.1
    have xq26 : XQ sN T V K x y26 E M blk s := XQ_eq (XQ_tr xq24 (by rw [exs_still s61]; exact xb26 blk) (by rw [exs_still s61]; exact Nat.le_refl _)) (by rw [eM, List.append_assoc]) (by omega)
    obtain ⟨q26a, ks26, q26c, q26d, q26e⟩ := q26
    have hK : (((y.1 0 52).toNatClampNeg : Nat) : Int) = (x.1 0 52).toInt := by rw [t_cl]; omega
    have lo26 := LO_LQ lo24 q26a (fun z hz => by
      have hz := hz.resolve_left id
      rw [hz, hK]; omega)
    have lf26 := lo26.1
    have b26 := q26a.1.2.2.1
    obtain ⟨z1, z2, z3, z4⟩ := LF_ok p lf26 (by omega)
    refine sf_layStep _ _ z1 x26.1 (Or.inl rfl) z2 (fun y31 h31 hm31 => ⟨z1, fun y34 e34 => ⟨y1, fun y36 e36 => ?_⟩⟩)
    have st31 := stp_s h31
    have u31 := stp_up st31 z3 z4
    have lo31 := LO_stp lo26 st31 z3 z4 (Or.inr rfl) (Or.inl rfl) (Or.inl rfl) (Or.inl rfl) (fun z hz => by
      have hz := hz.resolve_left id
      rw [hz, hK]; omega)
    have hK2 : (((y26.1 0 52).toNatClampNeg : Nat) : Int) = (y26.1 0 52).toInt := by rw [t_cl]; omega
    have y52 : x.1 0 52 = y.1 0 52 := (lw.1.1 52 (by decide)).symm
    have w2 : y31.1 54 (x.1 0 52).toNatClampNeg = 2 := by
      rw [y52, st31.2.2.1 54 (by decide) _ (fun z => by
        have z2 : (((y26.1 0 52).toNatClampNeg : Nat) : Int) = ((y.1 0 52).toNatClampNeg : Nat) := by rw [z]
        omega), q26a.1.2.2.2.2.2.2.2 54 (by decide) (by decide) _ (by omega)]
      exact st.2.2.2.1
    obtain ⟨lo34, m34⟩ := LO_set lo31 e34 (by omega) (by omega) (Or.inr rfl) n0 (by omega) (Or.inr ⟨by omega, w2⟩)
    have f52 : (y34.1 0 52).toInt = (y26.1 0 52).toInt + 1 := by rw [m34.1 52 (by decide), u31]
    obtain ⟨lo36, m36⟩ := LO_set lo34 e36 (by omega) (by omega) ⟨Or.inl (Or.inr rfl), fun z => by
      have z2 : (((y26.1 0 52).toNatClampNeg : Nat) : Int) = ((y.1 0 52).toNatClampNeg : Nat) := by rw [z]
      omega⟩ (by omega) (by omega) (Or.inl (by omega))
    have lq := LO_done lo36 (fun j hj => by
      rcases hj.1.1 with z | z
      · exact hj.2 (z.resolve_left id)
      · exact hj.1.2 z)
    have mm : md [52] tA y26 y36 := md_tr (md_tr (L3 := [52]) (A3 := tA) st31.1 m34 rfl rfl) m36 rfl rfl
    have f48 : y36.1 0 48 = y26.1 0 48 := mm.1 48 (by decide)
    have f43 : y36.1 0 43 = y26.1 0 43 := mm.1 43 (by decide)
    rw [e48] at q26d q26e
    exact rv_i (h y36 ⟨LQ_mono (by omega) (by omega) lq, KS_md mm (by decide) (by decide) (by decide) (by decide) ks26, by rw [f43, q26c, e43]; omega, by rw [f48]; omega, by rw [f48]; omega⟩ (XQ_to xq26 mm rfl rfl) (fun nf hE S k w hS => by
      have nf2 : ¬ flt sN T V N1 E ∧ ¬ flt sN T V N2 E := by
        rw [eM, flt_app, flt_sum, exs_still (still_54 (vV_st wv1)), flt_app, exs_still (still_k rfl)] at nf
        exact ⟨fun q => nf (Or.inl q), fun q => nf (Or.inr (Or.inr q))⟩
      obtain ⟨S2, e9, s9, x9⟩ := cb26 nf2.2 _ (S.length :: k) w (srT nf2.1 S hS)
      have hl : (y.1 0 52).toNatClampNeg = S.length := by rw [t_cl, ey, hS.1]; omega
      have hl2 : S.length < S2.length := by have := x9.1; rw [List.length_append] at this; exact this
      have sr34 : SR sN T V K y34 (S2 ++ [(20, 0, knw (exs N2 E), some S.length, none, false, none, none, none)]) := SR_snoc (st := (20, 0, knw (exs N2 E), some S.length, none, false, none, none, none)) s9 (LF_wr (md_w (md_rf y26) (by decide) (by decide)) lf26.2.1) (stp_61 st31 e34) (by omega) (by rw [e34, si_cell (by decide)]; exact hm31) rfl (fun q => absurd q (show ¬ 20 < 16 by decide)) rfl rfl rfl rfl rfl (i32_of hS.1)
      rw [hl] at e36
      have e26 : exs M E = exs N2 E := by
        rw [eM, exs_app, exs_still (still_54 (vV_st wv1)), exs_app, exs_still (still_k rfl)]
      refine ⟨cTo (S2 ++ [(20, 0, knw (exs N2 E), some S.length, none, false, none, none, none)]) S.length (S2.length + 1), ?_, SR_to sr34 e36 (by rw [List.length_append]; omega) (fun st hst => ?_) (by rw [sr34.1, List.length_append]; rfl), xtS_to (xtS_tr (xtS_tr xtS_sn x9) xtS_sn) (Nat.le_refl _)⟩
      · rw [e26, eM, ← ei0, cds_app, cds_x (vV_sE wv1) hE, cds_app, cds_one, cd_61]
        exact e9
      · rw [List.getElem?_append_left hl2, x9.2 S.length (by rw [List.length_append]; exact Nat.lt_succ_self _), List.getElem?_append_right (Nat.le_refl _), Nat.sub_self] at hst
        rw [← Option.some.inj hst]
        exact Or.inl rfl))
  · -- lock
    obtain ⟨g1, g2, g3⟩ := vD_25 c0 v4
    have j2 : 2 ≤ s - 2 := by obtain ⟨_, _, _, L, _, _, z, _⟩ := g2; omega
    obtain ⟨N2, wv2, -, eM⟩ := wD_25 c0 wv
    refine sf_numberOf _ _ 1 rfl g1 lb wb tr (fun r65 y my wy hr lxy hrn => ?_)
    rw [esm] at lxy hrn
    have n1 : 0 ≤ r65.toInt ∧ r65.toInt < 6 := by
      rcases hr with hr | ⟨k9, h1, h2, h3⟩
      · rw [hr]; exact ⟨by decide, by decide⟩
      · have t := LB_t lb h1
        rw [h3]
        obtain ⟨_, _, g3, g4, g5, g6, _⟩ := lb.2.1
        rcases t.2.1 with ⟨q, _⟩ | ⟨q, q1, q2⟩ | ⟨q, q1, q2⟩
        · rw [h2] at q; exact absurd q (by decide)
        · exact ⟨q1, by omega⟩
        · exact ⟨q1, by omega⟩
    have lf := LF_wr my wy
    obtain ⟨y1, y2, y3, y4⟩ := LF_ok p lf (by omega)
    have ey : y.1 0 52 = x.1 0 52 := my.1 52 (by decide)
    refine sf_layAct _ _ _ y1 (KEn_md my (by decide) (by decide) (by decide) ke) (LF_s lf ev v2) y2 (fun y24 h24 hm24 => ⟨ev, ?_⟩)
    have st := stp_a h24
    have a5 : sV (y.1 0 25).toInt ((y.1 0 52).toInt + 1) 6 5 r65 0 (-1) (-1) := Or.inr (Or.inr (Or.inr (Or.inr (Or.inr ⟨rfl, Or.inl rfl, Or.inr (Or.inl ⟨by decide, by decide, n1.1, n1.2, fun q => absurd q (by decide), rfl⟩)⟩))))
    have lq24 := LQ_tr (LQ_0 lf) (LQ_stp st wy y3 y4 (Or.inl rfl) (Or.inl rfl) (Or.inl rfl) (by decide) a5)
    have m24 : md pL pA x y24 := md_tr my st.1 rfl rfl
    have ks24 := KS_md m24 (by decide) (by decide) (by decide) (by decide) ks
    have e48 : y24.1 0 48 = x.1 0 48 := m24.1 48 (by decide)
    have e43 : y24.1 0 43 = x.1 0 43 := m24.1 43 (by decide)
    have lf24 := lq24.1
    have b4 := lf24.2.2.2.1
    have b6 := lf24.2.2.2.2.2.1
    rw [m24.2.1 17 (by decide) (by decide)]
    have xq24 : XQ sN T V K x y24 E [(65, (x.1 19 e.toNatClampNeg).toNatClampNeg, (x.1 16 e.toNatClampNeg).toNatClampNeg)] blk 0 := XQ_md m24 xp (LX_md (LX_eq lxy (by rw [flt_one, fv_lk (Or.inl rfl)])) st.1 (by decide)) (still_k rfl)
    have xp24 : XP sN T V K y24 E := XP_md m24 rfl rfl xp
    have e47 : y24.1 0 47 = x.1 0 47 := m24.1 47 (by decide)
    refine sf_layBlock k ih (m := m) (s := s - 2) (c := c) (z0 := 2) (M := N2) (E := E) (by omega) (by omega) (vB_LF lf24 g2) (wB_LF lf24 wv2) (PL_LF p lf24 (KS_KB ks24)) ks24 xp24 (by rw [e47]; omega) (by rw [e48]; omega) (by omega) (by omega) (fun y26 q26 xb26 cb26 => ?_)
    have x26 : XP sN T V K y26 (exs N2 E) := (xb26 blk).2.1
    have xq26 : XQ sN T V K x y26 E M blk s := XQ_eq (XQ_tr xq24 (by rw [exs_still (still_k rfl)]; exact xb26 blk) (by rw [exs_still (still_k rfl)]; exact Nat.le_refl _)) eM.symm (by omega)
    obtain ⟨q26a, ks26, q26c, q26d, q26e⟩ := q26
    have lq26 := LQ_tr lq24 q26a
    obtain ⟨z1, z2, z3, z4⟩ := LF_ok p lq26.1 (by omega)
    refine sf_layAct _ _ _ z1 x26.1 (LF_s lq26.1 ev v2) z2 (fun y31 h31 hm31 => ?_)
    have st31 := stp_a h31
    have a6 : sV (y26.1 0 25).toInt ((y26.1 0 52).toInt + 1) 6 6 r65 0 (-1) (-1) := Or.inr (Or.inr (Or.inr (Or.inr (Or.inr ⟨rfl, Or.inl rfl, Or.inr (Or.inl ⟨by decide, by decide, n1.1, n1.2, fun q => absurd q (by decide), rfl⟩)⟩))))
    have lq31 := LQ_tr lq26 (LQ_stp st31 lq26.1.2.1 z3 z4 (Or.inl rfl) (Or.inl rfl) (Or.inl rfl) (by decide) a6)
    have f48 : y31.1 0 48 = y26.1 0 48 := st31.1.1 48 (by decide)
    have f43 : y31.1 0 43 = y26.1 0 43 := st31.1.1 43 (by decide)
    rw [e48] at q26d q26e
    exact rv_i (h y31 ⟨LQ_mono (by omega) (by omega) lq31, KS_md st31.1 (by decide) (by decide) (by decide) (by decide) ks26, by rw [f43, q26c, e43]; omega, by rw [f48]; omega, by rw [f48]; omega⟩ (XQ_to xq26 st31.1 rfl rfl) (fun nf hE S k w hS => by
      have nf2 : ¬ mtP sN T 1 (x.1 16 e.toNatClampNeg).toNatClampNeg = none ∧ ¬ flt sN T V N2 E := by
        rw [eM, flt_app, flt_one, fv_lk (Or.inl rfl), exs_one, exV_still ⟨by show ¬ 65 = 20; decide, by show ¬ 65 = 21; decide, by show ¬ 65 = 22; decide⟩] at nf
        exact ⟨fun q => nf (Or.inl q), fun q => nf (Or.inr q)⟩
      have hof := i32_of (hrn nf2.1)
      have sr24 : SR sN T V K y24 (S ++ [(5, (x.1 19 e.toNatClampNeg).toNatClampNeg, knw E, none, some (x.1 16 e.toNatClampNeg).toNatClampNeg, false, none, none, none)]) := SR_snoc (st := (5, (x.1 19 e.toNatClampNeg).toNatClampNeg, knw E, none, some (x.1 16 e.toNatClampNeg).toNatClampNeg, false, none, none, none)) hS lf st (by omega) hm24 rfl (fun _ => rfl) hof rfl rfl rfl rfl rfl
      obtain ⟨S2, e9, s9, x9⟩ := cb26 nf2.2 _ (S.length :: k) w sr24
      have hl2 : S.length < S2.length := by have := x9.1; rw [List.length_append] at this; exact this
      have e26 : exs M E = exs N2 E := by
        rw [eM, exs_app, exs_still (still_k rfl)]
      have ht : gtS S2 S.length = (5, (x.1 19 e.toNatClampNeg).toNatClampNeg, knw E, none, some (x.1 16 e.toNatClampNeg).toNatClampNeg, false, none, none, none) := by
        unfold gtS
        rw [x9.2 S.length (by rw [List.length_append]; exact Nat.lt_succ_self _), List.getElem?_append_right (Nat.le_refl _), Nat.sub_self]
        rfl
      refine ⟨S2 ++ [(6, (x.1 19 e.toNatClampNeg).toNatClampNeg, knw (exs N2 E), none, some (x.1 16 e.toNatClampNeg).toNatClampNeg, false, none, none, none)], ?_, SR_snoc (st := (6, (x.1 19 e.toNatClampNeg).toNatClampNeg, knw (exs N2 E), none, some (x.1 16 e.toNatClampNeg).toNatClampNeg, false, none, none, none)) s9 (LF_wr (md_w (md_rf y26) (by decide) (by decide)) lq26.1.2.1) st31 (by omega) hm31 rfl (fun _ => rfl) hof rfl rfl rfl rfl rfl, xtS_tr (xtS_tr xtS_sn x9) xtS_sn⟩
      rw [e26, eM, cds_app, cds_one, cd_65, e9]
      show (exs N2 E, S2 ++ [(6, (gtS S2 S.length).2.1, knw (exs N2 E), none, (gtS S2 S.length).2.2.2.2.1, false, none, none, none)], k, rg0, w) = _
      rw [ht]))
  · -- word
    obtain ⟨ek, ⟨wv1, eM⟩ | ⟨wv1, eM⟩⟩ := wD_26 c0 wv
    · exact sf_layWord (wn := 1) e ke ct ⟨fun q => absurd q wv1, fun _ => rfl⟩ (by omega) p ev v2 (vD_26 c0 v4) (by omega) (fun z q mz lx sr => rv_i (h z (QL_1 q mz ks (by omega) v3) (XQ_md mz xp (LX_eq lx (by rw [eM, flt_one, fv_lk (Or.inr rfl)])) (by rw [eM]; exact still_k rfl)) (fun nf hE S k w hS => ⟨_, by rw [eM, cds_one, cd_66, exs_still (still_k rfl)], sr (fun q => nf (by rw [eM, flt_one, fv_lk (Or.inr rfl)]; exact q)) S _ (by rw [← e5]; exact ek.symm) hS, xtS_sn⟩)))
    · exact sf_layWord (wn := 2) e ke ct ⟨fun _ => rfl, fun q => absurd wv1 q⟩ (by omega) p ev v2 (vD_26 c0 v4) (by omega) (fun z q mz lx sr => rv_i (h z (QL_1 q mz ks (by omega) v3) (XQ_md mz xp (LX_eq lx (by rw [eM, flt_one, fv_67])) (by rw [eM]; exact still_k rfl)) (fun nf hE S k w hS => ⟨_, by rw [eM, cds_one, cd_67, exs_still (still_k rfl)], sr (fun q => nf (by rw [eM, flt_one, fv_67]; exact q)) S _ (by rw [← e5]; exact ek.symm) hS, xtS_sn⟩)))
  · -- fence
    obtain ⟨⟨ek, hfk⟩, eM⟩ := wD_27 c0 wv
    rw [e5] at ek
    have nf : ¬ flt sN T V M E := by rw [eM]; exact flt_k rfl
    have sM : still M := by rw [eM]; exact still_k rfl
    have f : ∀ w : Int32, w = Int32.ofNat (opP (x.1 16 e.toNatClampNeg)) → opP (x.1 16 e.toNatClampNeg) < 16 → 11 ≤ w.toInt → w.toInt ≤ 14 → MT G (D + 3) z_layS 585 [(0, vr 0), (1, vi e)] [vi w, vr 0] x (rv Fv) := fun w wo1 wo2 w1 w2 => sg_layS_585 _ _ (sf_layAct _ _ _ o1 ke os o2 (fun z hz hzm => one z _ _ _ nf sM (stp_a hz) (by decide) (Or.inr (Or.inr (Or.inr (Or.inr (Or.inr ⟨rfl, Or.inl rfl, Or.inr (Or.inr ⟨w1, w2⟩)⟩))))) (CQ_mk (st := (opP (x.1 16 e.toNatClampNeg), (x.1 19 e.toNatClampNeg).toNatClampNeg, knw E, none, none, false, none, none, none)) rf (stp_a hz) (by omega) hzm (exs_still sM) (fun _ _ => ⟨fun S k w => by rw [eM, cds_one, cd_68, ← ek], by show _ = mWh _; unfold mWh; rw [if_pos wo2], fun _ => wo1, rfl, rfl, rfl, rfl, rfl, rfl⟩))))
    rcases hfk with hfk | hfk
    · exact ⟨fun q => absurd hfk q, fun _ => f 11 (by rw [hfk]; rfl) (by rw [hfk]; decide) (by decide) (by decide)⟩
    · exact ⟨fun _ => f 12 (by rw [hfk]; rfl) (by rw [hfk]; decide) (by decide) (by decide), fun q => by rw [hfk] at q; exact absurd q (by decide)⟩
  · -- assert
    obtain ⟨ek, n1, N1, wv1, eM⟩ := wD_28a c0 wv
    rw [e5] at ek
    have sM : still M := by rw [eM]; exact still_app (still_54 (vV_st wv1)) (still_k rfl)
    refine wk x 0 0 (s - 1) _ N1 _ rf rfm (by omega) (by omega) (vD_28 c0 v4) ⟨_, wv1⟩ (fun r80 y lw lfy kby lxy suy => ?_)
    have lxm : LX x y (flt sN T V M E) := LX_eq lxy (by rw [eM, flt_end rfl, flt_sum])
    obtain ⟨y1, y2, y3, y4⟩ := LF_ok p lfy (by omega)
    exact sf_layStep _ _ y1 kby (LF_s lfy ev v2) y2 (fun z hz hzm => ⟨y1, fun z2 e2 => fin y z2 0 _ _ _ _ _ _ _ _ _ lfy (LW_md lw) lxm sM (by omega) (stp_59 (stp_s hz) e2) (Or.inl rfl) lw.2.2.2.2.2 (Or.inl rfl) (by decide) (Or.inr (Or.inl rfl)) (CQ_mk (st := (18, (x.1 19 e.toNatClampNeg).toNatClampNeg, knw E, none, none, false, none, some N1, none)) lfy (stp_59 (stp_s hz) e2) (by omega) (by rw [e2, si_cell (by decide)]; exact hzm) (exs_still sM) (fun nf hE => ⟨fun S k w => by rw [eM, cds_app, cds_x (vV_sE wv1) hE, cds_one, cd_69, ek]; rfl, rfl, fun q => absurd q (show ¬ 18 < 16 by decide), rfl, rfl, rfl, suy (fun q => nf (by rw [eM, flt_end rfl, flt_sum]; exact q)), rfl, rfl⟩))⟩)
  · -- call
    obtain ⟨g1, g2⟩ := vD_29 c0 v4
    obtain ⟨n1, N1, wv1, eM⟩ := wD_29 c0 wv
    have sM : still M := by rw [eM]; exact still_app (still_54 (vV_st wv1)) (still_k rfl)
    have hX : (3 < (V (x.1 16 e.toNatClampNeg).toNatClampNeg).toInt ∨ flt sN T V N1 E) ↔ flt sN T V M E := by
      rw [eM, flt_app, flt_one, fv_70, flt_sum]
      exact ⟨fun z => z.elim Or.inr Or.inl, fun z => z.elim Or.inr Or.inl⟩
    have k3 : (3 : Int32).toInt = 3 := rfl
    have p648 : ∀ y : gd, md [41, 42] [] x y → WB y → LX x y (3 < (V (x.1 16 e.toNatClampNeg).toNatClampNeg).toInt) → MT G (D + 3) z_layS 648 [(0, vr 0), (1, vi e)] [] y (rv Fv) := by
      intro y my wy lxy
      refine sg_layS_648 _ ⟨ev, ?_⟩
      rw [my.2.1 17 (by decide) (by decide)]
      refine wk y 0 0 (s - 1) _ N1 _ (LF_wr my wy) (md_w my (by decide) (by decide)) (by omega) (by omega) g2 ⟨_, wv1⟩ (fun r3 z lw lfz kbz lxz suz => ⟨ev, ?_, ?_⟩)
      · rw [lfz.1.2.1 16 (by decide) (by decide)]; exact g1
      · obtain ⟨z1, z2, z3, z4⟩ := LF_ok p lfz (by omega)
        exact sf_layAct _ _ _ z1 kbz (LF_s lfz ev v2) z2 (fun u hu hum => ⟨z1, fun u2 e2 => fin z u2 0 _ _ _ _ _ _ _ _ _ lfz (md_tr my (LW_md lw) rfl rfl) (LX_eq (LX_tr lxy lxz) hX) sM (by omega) (stp_59 (stp_a hu) e2) (Or.inl rfl) lw.2.2.2.2.2 (Or.inl rfl) (by decide) (Or.inr (Or.inr (Or.inr (Or.inr (Or.inr ⟨rfl, Or.inl rfl, Or.inr (Or.inr ⟨by decide, by decide⟩)⟩))))) (CQ_mk (st := (13, (x.1 19 e.toNatClampNeg).toNatClampNeg, knw E, none, some (x.1 16 e.toNatClampNeg).toNatClampNeg, false, none, some N1, none)) lfz (stp_59 (stp_a hu) e2) (by omega) (by rw [e2, si_cell (by decide)]; exact hum) (exs_still sM) (fun nf hE => ⟨fun S k w => by rw [eM, cds_app, cds_x (vV_sE wv1) hE, cds_one, cd_70]; rfl, rfl, fun _ => rfl, by rw [lfz.1.2.1 7 (by decide) (by decide), lfz.1.2.1 16 (by decide) (by decide), e7]; rfl, rfl, rfl, suz (fun q => nf (hX.mp (Or.inr q))), rfl, rfl⟩))⟩)
    exact ⟨g1, fun c3 => p648 x (md_w (md_rf x) (by decide) (by decide)) wb (LX_no (by rw [t_le, e7, k3] at c3; omega)), fun c3 => ⟨ev, sf_wrongAt _ _ (by decide) g1 lb.1 wb (fun y my wy gy => p648 y my wy (LX_yes (by rw [t_le, e7, k3] at c3; omega) gy))⟩⟩
  · -- back
    obtain ⟨ek, n1, N1, wv1, eM⟩ := wD_28b c0 wv
    rw [e5] at ek
    have sM : still M := by rw [eM]; exact still_app (still_54 (vV_st wv1)) (still_k rfl)
    refine wk x 0 0 (s - 1) _ N1 _ rf rfm (by omega) (by omega) (vD_30 c0 v4) ⟨_, wv1⟩ (fun r80 y lw lfy kby lxy suy => ?_)
    have lxm : LX x y (flt sN T V M E) := LX_eq lxy (by rw [eM, flt_end rfl, flt_sum])
    obtain ⟨y1, y2, y3, y4⟩ := LF_ok p lfy (by omega)
    exact sf_layAct _ _ _ y1 kby (LF_s lfy ev v2) y2 (fun z hz hzm => ⟨y1, fun z2 e2 => fin y z2 0 _ _ _ _ _ _ _ _ _ lfy (LW_md lw) lxm sM (by omega) (stp_59 (stp_a hz) e2) (Or.inl rfl) lw.2.2.2.2.2 (Or.inl rfl) (by decide) (Or.inr (Or.inr (Or.inr (Or.inr (Or.inr ⟨rfl, Or.inl rfl, Or.inr (Or.inr ⟨by decide, by decide⟩)⟩))))) (CQ_mk (st := (14, (x.1 19 e.toNatClampNeg).toNatClampNeg, knw E, none, none, false, none, some N1, none)) lfy (stp_59 (stp_a hz) e2) (by omega) (by rw [e2, si_cell (by decide)]; exact hzm) (exs_still sM) (fun nf hE => ⟨fun S k w => by rw [eM, cds_app, cds_x (vV_sE wv1) hE, cds_one, cd_69, ek]; rfl, rfl, fun _ => rfl, rfl, rfl, rfl, suy (fun q => nf (by rw [eM, flt_end rfl, flt_sum]; exact q)), rfl, rfl⟩))⟩)
  · -- end
    obtain ⟨ek, eM⟩ := wD_31a c0 wv
    rw [e5] at ek
    exact sf_layStep _ _ o1 ke os o2 (fun z hz hzm => one z _ _ _ (by rw [eM]; exact flt_k rfl) (by rw [eM]; exact still_k rfl) (stp_s hz) (by decide) (Or.inr (Or.inr (Or.inr (Or.inl rfl)))) (CQ_mk (st := (19, (x.1 19 e.toNatClampNeg).toNatClampNeg, knw E, none, none, false, none, none, none)) rf (stp_s hz) (by omega) hzm (exs_still (by rw [eM]; exact still_k rfl)) (fun _ _ => ⟨fun S k w => by rw [eM, cds_one, cd_68, ek]; rfl, rfl, fun q => absurd q (show ¬ 19 < 16 by decide), rfl, rfl, rfl, rfl, rfl, rfl⟩)))
theorem sf_layS {sN : Nat → Nat → Bool} {T : gTd} {V K : Nat → Int32} : ∀ k : Nat, SfLS sN T V K k := by
  intro k
  induction k with
  | zero => intro G D x Fv m s c e blk M E _ _ v; exact v.elim
  | succ k ih => exact layF_step k ih
end
section
/-! the judge: what a program that is laid is like -/
theorem tot_le (S : Nat → Nat) : ∀ (n t : Nat), t ≤ n → tot S t ≤ tot S n := by
  intro n
  induction n with
  | zero => intro t h; rw [show t = 0 by omega]; exact Nat.le_refl _
  | succ n ih =>
    intro t h
    by_cases c : t = n + 1
    · rw [c]; exact Nat.le_refl _
    · have := ih t (by omega)
      show tot S t ≤ tot S n + S n
      omega
abbrev jA : List Nat := [45, 46, 47, 51, 52, 54, 55, 56, 57, 58, 59, 60, 61, 62, 63, 64, 65, 66]
/-- a step of a thread that is laid whole -/
def sC (x : gd) (j : Nat) : Prop := sO x j ∧ ((x.1 54 j = 2 ∨ x.1 54 j = 3) → (x.1 61 j).toInt < (x.1 0 52).toInt) ∧ (x.1 54 j = 5 ∨ (j : Int) + 1 < (x.1 0 52).toInt)
theorem sC_keep {x y : gd} {n w j : Nat} (a : LF x y n w) (hj : (j : Int) < (x.1 0 52).toInt) (q : sC x j) : sC y j := by
  have h := a.2.2.1
  have e := a.2.2.2.2.2.2.2
  refine ⟨sO_keep a hj q.1, ?_, ?_⟩
  · rw [e 54 (by decide) (by decide) j hj, e 61 (by decide) (by decide) j hj]
    intro z
    have := q.2.1 z
    omega
  · rw [e 54 (by decide) (by decide) j hj]
    exact q.2.2.imp id (fun z => by omega)
/-- the work of an order -/
def oW (x : gd) (r : Int32) : Prop := 0 ≤ r.toInt ∧ cW x 1 r.toNatClampNeg (x.1 0 49).toInt
/-- steps and work up to now: thread by thread -/
def JS (x : gd) (t n w : Nat) : Prop := 0 ≤ (x.1 0 52).toInt ∧ (x.1 0 52).toInt ≤ n ∧ 0 ≤ (x.1 0 49).toInt ∧ (x.1 0 49).toInt ≤ w ∧ (∀ j : Nat, (j : Int) < (x.1 0 52).toInt → sC x j) ∧ ∀ j : Nat, j < t → 0 ≤ (x.1 64 j).toInt ∧ (x.1 64 j).toInt < (x.1 0 52).toInt
/-- a program compiled -/
def CP (x : gd) : Prop := GB x ∧ JS x (x.1 0 25).toNatClampNeg 1400 5900 ∧ (∀ k : Nat, (k : Int) < (x.1 0 26).toInt → oW x (x.1 65 k)) ∧ ∀ k : Nat, (k : Int) < (x.1 0 27).toInt → oW x (x.1 66 k)
theorem JS_fr {x y : gd} {t n w : Nat} (q : JS x t n w) {L A : List Nat} (m : md L A x y) (hL : [25, 49, 52].all (fun k => !L.elem k) = true) (hA : [51, 52, 54, 55, 56, 57, 58, 59, 60, 61, 64].all (fun k => !A.elem k) = true) : JS y t n w := by
  have f := fun k hk => m.1 k (all_no hL k hk)
  have g := fun k (h0 : k ≠ 0) hk => m.2.1 k h0 (all_no hA k hk)
  have f25 := f 25 (by decide)
  have f49 := f 49 (by decide)
  have f52 := f 52 (by decide)
  have wk : ∀ r, wo x 0 r → wo y 0 r := fun r z => wo_keep (by rw [f49]; omega) (fun j _ => by rw [g 51 (by decide) (by decide), g 52 (by decide) (by decide)]; exact ⟨rfl, rfl⟩) z
  obtain ⟨q1, q2, q3, q4, q5, q6⟩ := q
  refine ⟨by rw [f52]; exact q1, by rw [f52]; exact q2, by rw [f49]; exact q3, by rw [f49]; exact q4, fun j hj => ?_, fun j hj => ?_⟩
  · rw [f52] at hj
    obtain ⟨⟨a1, a2, a3, a4⟩, b, c⟩ := q5 j hj
    unfold sC sO gO
    rw [g 54 (by decide) (by decide), g 55 (by decide) (by decide), g 56 (by decide) (by decide), g 57 (by decide) (by decide), g 58 (by decide) (by decide), g 59 (by decide) (by decide), g 60 (by decide) (by decide), g 61 (by decide) (by decide), f25, f52]
    exact ⟨⟨wk _ a1, wk _ a2, wk _ a3, a4⟩, b, c⟩
  · rw [g 64 (by decide) (by decide), f52]
    exact q6 j hj
theorem JS_wk {x y : gd} {t n w s : Nat} {o r : Int32} (q : JS x t n w) (l : LW o s x r y) : JS y t n (w + s + 1) := by
  have lf := LF_wk l
  obtain ⟨m, wb, k, l1, l2, _⟩ := l
  obtain ⟨q1, q2, q3, q4, q5, q6⟩ := q
  have f52 := m.1 52 (by decide)
  refine ⟨by rw [f52]; exact q1, by rw [f52]; exact q2, by omega, by omega, fun j hj => ?_, fun j hj => ?_⟩
  · rw [f52] at hj
    exact sC_keep lf hj (q5 j hj)
  · rw [m.2.1 64 (by decide) (by decide), f52]
    exact q6 j hj
end
