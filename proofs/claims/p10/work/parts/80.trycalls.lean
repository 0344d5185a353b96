/-! the calls of trying: attempt, tried, outcome, finding, show, common, ring, alike -/
section TCA
variable {G : mG} {d D : Nat} {x z a : gd} {F : Int32 → gd → Prop} {Fv : gd → Prop}
theorem w_in {w : Int32} (h : (0 : Int32) ≤ w ∧ w ≤ 1) : vp_in w 2 ∧ (w = 0 ∨ w = 1) := by
  have k0 : (0 : Int32).toInt = 0 := rfl
  have k1 : (1 : Int32).toInt = 1 := rfl
  obtain ⟨a, b⟩ := h
  rw [t_le, k0] at a
  rw [t_le, k1] at b
  exact ⟨by rw [vp_in_iff]; omega, by rw [t_eq, t_eq, k0, k1]; omega⟩
theorem TY_TI {z y : gd} {W M : Nat} {A : Nat → gd} (hM : M ≤ 3000) (q : TI z W A M y) : TY y W := by
  obtain ⟨t1, t2, t3, t4, t5, t6, t7, t8, t9⟩ := q
  have oM := ofN hM
  refine ⟨A, St_pr (prE_mi (prE_rf z) t1 rfl rfl) t8, by rw [t3, oM]; omega, by rw [t3, oM]; omega, t4, by omega, fun s hs => (t7 s (by rw [t3, oM] at hs; omega)).1, fun f hf => ?_⟩
  rw [t3, oM]
  exact t6 f hf
/-- the other way's trying stays -/
theorem TY_ow {z y : gd} {W w : Nat} (hw : w < 2) (ne : ¬ w = W) (o : ow W z y) (p : prE z y) (q : TY z w) : TY y w := by
  obtain ⟨o1, o2, o3, o4⟩ := o w hw ne
  obtain ⟨A, q1, q2, q3, q4, q5, q6, q7⟩ := q
  refine ⟨A, St_pr p q1, by rw [o1]; exact q2, by rw [o1]; exact q3, by rw [o2]; exact q4, by rw [o2]; exact q5, fun s hs => ?_, fun f hf => by rw [o3 f hf, o1]; exact q7 f hf⟩
  rw [o1] at hs
  obtain ⟨r1, r2, r3, r4⟩ := q6 s hs
  obtain ⟨e1, e2, e3⟩ := o4 s (by omega)
  refine ⟨r1, by rw [e3]; exact r2, by rw [e3]; exact r3, fun h => ?_⟩
  obtain ⟨p', p1, p2, p3, p4, p5, p6⟩ := r4 h
  exact ⟨p', p1, by rw [e1]; exact p2, by rw [e3, (o4 p' (by omega)).2.2]; exact p3, by rw [e2]; exact p4, by rw [e2]; exact p5, by rw [e2]; exact p6⟩
theorem sp_attempt (q : MI z) (w l : Int32) (hD : 8 ≤ D) (h : ∀ r z', PM z z' → F r z') : MT G D z_attempt 0 [(0, vr 0), (1, vi w), (2, vi l)] [] z (ri F) := by
  obtain ⟨D, rfl⟩ : ∃ D', D = D' + 1 := ⟨D - 1, by omega⟩
  have k0 : (0 : Int32).toInt = 0 := rfl
  have k1 : (1 : Int32).toInt = 1 := rfl
  have k3 : (3000 : Int32).toInt = 3000 := rfl
  have z0' : (0 : Int32).toNatClampNeg = 0 := rfl
  refine sg_attempt_0 _ _ (fun y e => ?_)
  have hy := z0_s e
  have no : ∀ y', mi [0] [] z y' → ri F (some (vi 0)) y' := fun y' m => ri_i (h 0 y' (MI_0 m q))
  have qy := (MI_0 hy.1 q).1
  have y2 : y.1 0 2 = z.1 0 2 := hy.1.1 2 (by decide)
  have p51 : ¬ y.1 0 66 = 0 → ∀ b : Int32, (b = 0 → (vp_in w 2 ∧ (w = 0 ∨ w = 1)) ∧ 1 ≤ l.toInt ∧ l.toInt ≤ 3000) → MT G (D + 1) z_attempt 51 [(0, vr 0), (1, vi w), (2, vi l)] [vi b, vr 0] y (ri F) := by
    intro hc b hb
    refine sg_attempt_51 _ _ _ (sp_ref b 2 hy (by decide) (fun b0 => ⟨fun _ => ?_, fun q => absurd rfl q⟩) (fun _ y' m => ⟨fun q => absurd q (by decide), fun _ => no y' m⟩))
    obtain ⟨⟨wv, w01⟩, l1, l3⟩ := hb b0
    obtain ⟨W, eW⟩ : ∃ W, W = w.toNatClampNeg := ⟨_, rfl⟩
    have W2 : W < 2 := by rw [eW]; exact vp_lt wv
    have cp := qy.2.1 hc
    -- the trying itself; u: behind the state kept
    have p81 : ∀ u : gd, mi [136] [136] y u → (¬ y.1 0 67 = 0 → ∀ i : Nat, i < 222 → u.1 136 i = pv y i) → MT G (D + 1) z_attempt 81 [(0, vr 0), (1, vi w), (2, vi l), (3, vi (y.1 0 68))] [] u (ri F) := by
      intro u mu ru
      refine sg_attempt_81 _ _ _ (fun u1 e1 => ?_)
      have m1 := md_f u 68 w
      rw [← e1] at m1
      have h1 : u1.1 0 68 = w := by rw [e1, si_get, if_pos ⟨rfl, rfl⟩]
      have myu1 : mi [68, 136] [136] y u1 := mi_tr mu (mi_of m1) rfl rfl
      refine sp_tryAll w l wv (CP_mi myu1 rfl rfl cp) h1 l1 l3 (by omega) (fun A M v hM ti => ⟨wv, fun v4 e4 v5 e5 => ?_⟩)
      rw [← eW] at ti e4
      have m4 := md_a v 119 W (vp_nar .boolean 1) (by decide)
      rw [← e4] at m4
      have m5 := md_f v4 68 (y.1 0 68)
      rw [← e5] at m5
      have h5 : v5.1 0 68 = y.1 0 68 := by rw [e5, si_get, if_pos ⟨rfl, rfl⟩]
      have mv5 : mi [68] [119] v v5 := mi_tr (mi_of m4) (mi_of m5) rfl rfl
      have my5 : mi (68 :: tL) (119 :: 136 :: tA') y v5 := mi_tr (mi_tr (L3 := 68 :: tL) (A3 := 136 :: tA') myu1 ti.1 rfl rfl) mv5 rfl rfl
      have pr5 : prE y v5 := prE_mi (prE_rf y) my5 rfl rfl
      have tyW : TY v5 W := TY_mi mv5 rfl rfl (TY_TI hM ti)
      have ow5 : ow W y v5 := ow_tr (ow_tr (ow_mi myu1 rfl) ti.2.1) (ow_mi mv5 rfl)
      have e119 : ∀ w' : Nat, ¬ w' = W → v5.1 119 w' = y.1 119 w' := fun w' hw' => by
        rw [m5.2.1 119 (by decide) (by decide), e4, si_ne 119 w' hw', ti.1.2 119 (by decide) (by decide), myu1.2 119 (by decide) (by decide)]
      have tys : ∀ w' : Nat, w' < 2 → ¬ v5.1 119 w' = 0 → ¬ v5.1 0 66 = 0 ∧ TY v5 w' := by
        intro w' hw' hn
        refine ⟨by rw [my5.1 66 (by decide)]; exact hc, ?_⟩
        by_cases q9 : w' = W
        · rw [q9]; exact tyW
        · rw [e119 w' q9] at hn
          exact TY_ow hw' q9 ow5 pr5 (qy.2.2.2 w' hw' hn).2
      have g5 : G0 v5 := G0_mi my5 rfl rfl qy.1
      have cp5 : CP v5 := CP_mi my5 rfl rfl cp
      refine ⟨fun n67 => ⟨wv, ri_i (h _ v5 (PM_0 hy.1 ⟨⟨g5, fun _ => cp5, fun q9 => absurd n67 q9, tys⟩, my5.1 2 (by decide), fun k hk => my5.1 k (all_no (M := mfL) rfl k hk), fun c hc => my5.2 c (mfA_0 c hc) (all_no (M := mfA) rfl c hc)⟩))⟩, fun h67 => ?_⟩
      rw [my5.1 67 (by decide)] at h67
      obtain ⟨_, s, n, q1, q2, q3, q4, q5, q6, q7⟩ := qy.2.2.1 h67
      have av := q2 n (Nat.le_refl _)
      have el : eqS (Sl (s n)) (s n) y := eqS_w (Sl_Sm _) q4
      have r136 : ∀ i : Nat, i < 222 → v5.1 136 (0 + i) = pv (s n) i := fun i hi => by
        rw [Nat.zero_add, m5.2.1 136 (by decide) (by decide), m4.2.1 136 (by decide) (by decide), ti.1.2 136 (by decide) (by decide), m1.2.1 136 (by decide) (by decide), ru h67 i hi]
        exact pv_eq el hi
      refine sp_unpack (Or.inr rfl) mk_136 ml_136 0 (by decide) (by decide) (by decide) (fun v8 m8 r8 => ?_)
      rw [z0'] at r8
      have e8 : eqS (Sl (s n)) (s n) v8 := by
        refine un_eq ?_ ?_ (fun t ht => (av.1.2 t ht).2.2.2.1) (fun i hi => by rw [r8 i hi, r136 i hi])
        · exact prE_tr (prE_eqS el) (prE_mi pr5 (mi_of m8) rfl rfl)
        · rw [m8.1 68 (by decide), h5, cF el (by decide)]
      refine MT_up (by omega) (MTv_mono (av.2.2.2.2.2 G v8 e8) (fun v9 g9 => ⟨wv, ri_i (h _ v9 ?_)⟩))
      have m59 : mi [82, 84, 88, 89, 90, 91, 92, 93] [70, 71, 72, 73, 74, 75, 76, 77, 78, 79, 80, 81, 82, 84, 86, 87, 88] v5 v9 := mi_tr (mi_of m8) (mi_of g9.2) rfl rfl
      have my9 : mi (68 :: tL) (119 :: 136 :: tA') y v9 := mi_tr my5 m59 rfl rfl
      have h9 : v9.1 0 68 = y.1 0 68 := by rw [m59.1 68 (by decide)]; exact h5
      have hist : Hist v9 := ⟨s, n, by rw [my9.1 94 (by decide)]; exact q1, q2, by rw [my9.2 96 (by decide) (by decide)]; exact q3, g9.1, by rw [h9]; exact St_pr (prE_mi (prE_rf y) my9 rfl rfl) q5, by unfold wy01; rw [h9]; exact q6, HA_mi my9 rfl rfl q7⟩
      refine PM_0 hy.1 ⟨⟨G0_mi my9 rfl rfl qy.1, fun _ => CP_mi my9 rfl rfl cp, fun _ => ⟨by rw [my9.1 66 (by decide)]; exact hc, hist⟩, fun w' hw' hn => ?_⟩, my9.1 2 (by decide), fun k hk => my9.1 k (all_no (M := mfL) rfl k hk), fun c hc => my9.2 c (mfA_0 c hc) (all_no (M := mfA) rfl c hc)⟩
      rw [m59.2 119 (by decide) (by decide)] at hn
      exact ⟨by rw [my9.1 66 (by decide)]; exact hc, TY_mi m59 rfl rfl (tys w' hw' hn).2⟩
    refine ⟨fun n67 => p81 y ⟨fun _ _ => rfl, fun _ _ _ => rfl⟩ (fun q => absurd n67 q), fun h67 => ?_⟩
    obtain ⟨_, s, n, q1, q2, q3, q4, q5, q6, q7⟩ := qy.2.2.1 h67
    refine sp_pack (Or.inr rfl) mk_136 ml_136 0 (by decide) (by decide) (by decide) (fun t ht => by rw [cA q4 (c := 80) (n := 6) (by decide) ht]; exact ((q2 n (Nat.le_refl _)).1.2 t ht).2.2.2.1) (fun u mu _ ru _ => p81 u (mi_of mu) (fun _ i hi => ?_))
    have := ru i hi
    rw [z0', Nat.zero_add] at this
    exact this
  have p18 : ∀ b : Int32, (b = 0 → ¬ y.1 0 66 = 0) → MT G (D + 1) z_attempt 18 [(0, vr 0), (1, vi w), (2, vi l)] [vi b, vr 0] y (ri F) := by
    intro b hb
    refine sg_attempt_18 _ _ _ (sp_ref b 1 hy (by decide) (fun b0 => ⟨fun q => absurd rfl q, fun _ => sp_in _ _ _ ⟨fun _ => p51 (hb b0) 1 (fun q => absurd q (by decide)), fun c1 => sp_in _ _ _ ⟨fun c2 => p51 (hb b0) 0 (fun _ => ⟨w_in (bi_ne.mp c1), ?_⟩), fun _ => p51 (hb b0) 1 (fun q => absurd q (by decide))⟩⟩⟩) (fun _ y' m => ⟨fun _ => no y' m, fun q => absurd q (by decide)⟩))
    obtain ⟨a1, a2⟩ := bi_ne.mp c2
    rw [t_le, k1] at a1
    rw [t_le, k3] at a2
    exact ⟨a1, a2⟩
  exact ⟨fun c => p18 0 (fun _ => c), fun _ => p18 1 (fun q => absurd q (by decide))⟩
theorem sp_tried (q : MI z) (w v : Int32) (hD : 3 ≤ D) (h : ∀ r z', PM z z' → F r z') : MT G D z_tried 0 [(0, vr 0), (1, vi w), (2, vi v)] [] z (ri F) := by
  obtain ⟨D, rfl⟩ : ∃ D', D = D' + 1 := ⟨D - 1, by omega⟩
  refine sg_tried_0 _ _ (fun y e => ?_)
  have hy := z0_s e
  have no : ∀ y', mi [0] [] z y' → ri F (some (vi 0)) y' := fun y' m => ri_i (h 0 y' (MI_0 m q))
  have ok : ∀ r, ri F (some (vi r)) y := fun r => ri_i (h r y (MI_0 hy.1 q))
  have p42 : vp_in w 2 → ∀ b : Int32, MT G (D + 1) z_tried 42 [(0, vr 0), (1, vi w), (2, vi v)] [vi b, vr 0] y (ri F) := fun wv b => sg_tried_42 _ _ _ (sp_ref b 2 hy (by decide) (fun _ => ⟨fun q => absurd rfl q, fun _ => ⟨wv, fun _ => ⟨fun _ => ⟨fun _ => ⟨fun _ => ⟨fun _ => ⟨fun _ => ⟨wv, ok _⟩, fun _ => ⟨wv, ok _⟩⟩, fun _ => ⟨wv, ok _⟩⟩, fun _ => ⟨wv, ok _⟩⟩, fun _ => ⟨wv, sp_one _ (fun r => ok r)⟩⟩, fun _ => ⟨wv, ok _⟩⟩, fun _ => ok _⟩⟩) (fun _ y' m => ⟨fun _ => no y' m, fun q => absurd q (by decide)⟩))
  have p20 : ∀ b : Int32, (b = 0 → vp_in w 2) → MT G (D + 1) z_tried 20 [(0, vr 0), (1, vi w), (2, vi v)] [vi b, vr 0] y (ri F) := fun b hb => sg_tried_20 _ _ _ (sp_ref b 1 hy (by decide) (fun b0 => ⟨fun q => absurd rfl q, fun _ => sp_in _ _ _ ⟨fun _ => p42 (hb b0) _, fun _ => p42 (hb b0) _⟩⟩) (fun _ y' m => ⟨fun _ => no y' m, fun q => absurd q (by decide)⟩))
  exact sp_in _ _ _ ⟨fun c => p20 0 (fun _ => (w_in (bi_ne.mp c)).1), fun _ => p20 1 (fun q => absurd q (by decide))⟩
theorem sp_outcome (q : MI z) (w i c : Int32) (hD : 3 ≤ D) (h : ∀ r z', PM z z' → F r z') : MT G D z_outcome 0 [(0, vr 0), (1, vi w), (2, vi i), (3, vi c)] [] z (ri F) := by
  obtain ⟨D, rfl⟩ : ∃ D', D = D' + 1 := ⟨D - 1, by omega⟩
  refine sg_outcome_0 _ _ _ (fun y e => ?_)
  have hy := z0_s e
  have no : ∀ y', mi [0] [] z y' → ri F (some (vi 0)) y' := fun y' m => ri_i (h 0 y' (MI_0 m q))
  have ok : ∀ r, ri F (some (vi r)) y := fun r => ri_i (h r y (MI_0 hy.1 q))
  have qy := (MI_0 hy.1 q).1
  have p72 : ∀ b : Int32, (b = 0 → vp_in w 2 ∧ (0 ≤ i.toInt ∧ i.toInt < 3000) ∧ 0 ≤ c.toInt ∧ c.toInt < 24) → MT G (D + 1) z_outcome 72 [(0, vr 0), (1, vi w), (2, vi i), (3, vi c)] [vi b, vr 0] y (ri F) := fun b hb => sg_outcome_72 _ _ _ _ (sp_ref b 2 hy (by decide) (fun b0 => ⟨fun _ => ⟨t72 (hb b0).1 (hb b0).2.1.1 (hb b0).2.1.2 (hb b0).2.2.1 (hb b0).2.2.2, ok _⟩, fun q => absurd rfl q⟩) (fun _ y' m => ⟨fun q => absurd q (by decide), fun _ => no y' m⟩))
  have p20 : ∀ b : Int32, (b = 0 → vp_in w 2) → MT G (D + 1) z_outcome 20 [(0, vr 0), (1, vi w), (2, vi i), (3, vi c)] [vi b, vr 0] y (ri F) := by
    intro b hb
    refine sg_outcome_20 _ _ _ _ (sp_ref b 1 hy (by decide) (fun b0 => ⟨fun q => absurd rfl q, fun _ => ?_⟩) (fun _ y' m => ⟨fun _ => no y' m, fun q => absurd q (by decide)⟩))
    have wv := hb b0
    refine ⟨wv, fun _ => p72 1 (fun q => absurd q (by decide)), fun tr => ⟨wv, ?_⟩⟩
    obtain ⟨hc, A, t1, t2, t3, t4, t5, _⟩ := qy.2.2.2 _ (vp_lt wv) tr
    have g := (qy.2.1 hc).1
    refine sp_in _ _ _ ⟨fun _ => p72 1 (fun q => absurd q (by decide)), fun c1 => sp_in _ _ _ ⟨fun c2 => p72 0 (fun _ => ?_), fun _ => p72 1 (fun q => absurd q (by decide))⟩⟩
    have a1 := in_lt (bi_ne.mp c1) t4
    have a2 := in_lt (bi_ne.mp c2) g.1
    have g2 := g.2.1
    exact ⟨wv, ⟨a1.1, by omega⟩, a2.1, by omega⟩
  exact sp_in _ _ _ ⟨fun cc => p20 0 (fun _ => (w_in (bi_ne.mp cc)).1), fun _ => p20 1 (fun q => absurd q (by decide))⟩
theorem f_in {f : Int32} (h : (0 : Int32) ≤ f ∧ f ≤ 10) : 0 ≤ f.toInt ∧ f.toInt < 11 := by
  have k0 : (0 : Int32).toInt = 0 := rfl
  have k1 : (10 : Int32).toInt = 10 := rfl
  obtain ⟨a, b⟩ := h
  rw [t_le, k0] at a
  rw [t_le, k1] at b
  exact ⟨a, by omega⟩
theorem sp_finding (q : MI z) (w f : Int32) (hD : 3 ≤ D) (h : ∀ r z', PM z z' → F r z') : MT G D z_finding 0 [(0, vr 0), (1, vi w), (2, vi f)] [] z (ri F) := by
  obtain ⟨D, rfl⟩ : ∃ D', D = D' + 1 := ⟨D - 1, by omega⟩
  refine sg_finding_0 _ _ (fun y e => ?_)
  have hy := z0_s e
  have no : ∀ y', mi [0] [] z y' → ri F (some (vi 0)) y' := fun y' m => ri_i (h 0 y' (MI_0 m q))
  have ok : ∀ r, ri F (some (vi r)) y := fun r => ri_i (h r y (MI_0 hy.1 q))
  have qy := (MI_0 hy.1 q).1
  have p63 : vp_in w 2 → ∀ s : Int32, (s = -1 ∨ (0 ≤ s.toInt ∧ s.toInt < 3000)) → MT G (D + 1) z_finding 63 [(0, vr 0), (1, vi w)] [vi s] y (ri F) := fun wv s hs => sg_finding_63 _ _ ⟨fun ne => ⟨(tmul (k := 3000) (K := 3000) (N := 6000) (n := 3000) rfl wv (hs.resolve_left ne).1 (hs.resolve_left ne).2 (by omega) (by omega) (by omega)).1, ok _⟩, fun _ => ok _⟩
  have p30 : ∀ b : Int32, (b = 0 → vp_in w 2 ∧ 0 ≤ f.toInt ∧ f.toInt < 11) → MT G (D + 1) z_finding 30 [(0, vr 0), (1, vi w), (2, vi f)] [vi b, vr 0] y (ri F) := by
    intro b hb
    refine sg_finding_30 _ _ _ (sp_ref b 1 hy (by decide) (fun b0 => ⟨fun _ => ?_, fun q => absurd rfl q⟩) (fun _ y' m => ⟨fun q => absurd q (by decide), fun _ => no y' m⟩))
    obtain ⟨wv, f0, f1⟩ := hb b0
    obtain ⟨fv, fe⟩ := t11 wv f0 f1
    refine ⟨wv, fun _ => p63 wv _ (Or.inl rfl), fun tr => ⟨fv, p63 wv _ ?_⟩⟩
    obtain ⟨hc, A, t1, t2, t3, t4, t5, t6, t7⟩ := qy.2.2.2 _ (vp_lt wv) tr
    rw [fe]
    exact (t7 f.toNatClampNeg (by have := cl_i f0; omega)).imp id (fun w => by omega)
  exact sp_in _ _ _ ⟨fun _ => p30 1 (fun q => absurd q (by decide)), fun c1 => sp_in _ _ _ ⟨fun c2 => p30 0 (fun _ => ⟨(w_in (bi_ne.mp c1)).1, f_in (bi_ne.mp c2)⟩), fun _ => p30 1 (fun q => absurd q (by decide))⟩⟩
theorem sp_common (q : MI z) (w c : Int32) (hD : 3 ≤ D) (h : ∀ r z', PM z z' → F r z') : MT G D z_common 0 [(0, vr 0), (1, vi w), (2, vi c)] [] z (ri F) := by
  obtain ⟨D, rfl⟩ : ∃ D', D = D' + 1 := ⟨D - 1, by omega⟩
  have k0 : (0 : Int32).toInt = 0 := rfl
  refine sg_common_0 _ _ (fun y e => ?_)
  have hy := z0_s e
  have no : ∀ y', mi [0] [] z y' → ri F (some (vi 0)) y' := fun y' m => ri_i (h 0 y' (MI_0 m q))
  have ok : ∀ r, ri F (some (vi r)) y := fun r => ri_i (h r y (MI_0 hy.1 q))
  have qy := (MI_0 hy.1 q).1
  have p47 : vp_in w 2 → ∀ b : Int32, (b = 0 → (0 : Int32) ≤ c ∧ c ≤ y.1 0 23 - 1) → MT G (D + 1) z_common 47 [(0, vr 0), (1, vi w), (2, vi c)] [vi b, vr 0] y (ri F) := by
    intro wv b hb
    refine sg_common_47 _ _ _ (sp_ref b 2 hy (by decide) (fun b0 => ⟨fun _ => ⟨wv, fun _ => ok _, fun tr => ⟨?_, ok _⟩⟩, fun q => absurd rfl q⟩) (fun _ y' m => ⟨fun q => absurd q (by decide), fun _ => no y' m⟩))
    obtain ⟨hc, _⟩ := qy.2.2.2 _ (vp_lt wv) tr
    have g := (qy.2.1 hc).1
    have a2 := in_lt (hb b0) g.1
    have g2 := g.2.1
    exact (tmul (k := 24) (K := 24) (N := 48) (n := 24) rfl wv a2.1 (by omega) (by omega) (by omega) (by omega)).1
  have p20 : ∀ b : Int32, (b = 0 → vp_in w 2) → MT G (D + 1) z_common 20 [(0, vr 0), (1, vi w), (2, vi c)] [vi b, vr 0] y (ri F) := fun b hb => sg_common_20 _ _ _ (sp_ref b 1 hy (by decide) (fun b0 => ⟨fun q => absurd rfl q, fun _ => sp_in _ _ _ ⟨fun c2 => p47 (hb b0) 0 (fun _ => bi_ne.mp c2), fun _ => p47 (hb b0) 1 (fun q => absurd q (by decide))⟩⟩) (fun _ y' m => ⟨fun _ => no y' m, fun q => absurd q (by decide)⟩))
  exact sp_in _ _ _ ⟨fun cc => p20 0 (fun _ => (w_in (bi_ne.mp cc)).1), fun _ => p20 1 (fun q => absurd q (by decide))⟩
theorem sp_alike (q : MI z) (h : ∀ r z', PM z z' → F r z') : MT G d z_alike 0 [(0, vr 0)] [] z (ri F) := by
  have k0 : (0 : Int32).toInt = 0 := rfl
  have k1 : (1 : Int32).toInt = 1 := rfl
  have k24 : (24 : Int32).toInt = 24 := rfl
  have k72 : (72000 : Int32).toInt = 72000 := rfl
  have z0' : (0 : Int32).toNatClampNeg = 0 := rfl
  have v0 : vp_in 0 2 := vp_in_iff.mpr (by decide)
  have v1 : vp_in 1 2 := vp_in_iff.mpr (by decide)
  refine sg_alike_0 (fun y e => ?_)
  have hy := z0_s e
  have ok : ∀ r, ri F (some (vi r)) y := fun r => ri_i (h r y (MI_0 hy.1 q))
  have qy := (MI_0 hy.1 q).1
  refine ⟨v0, fun _ => ok _, fun tr => ⟨v1, fun _ => ok _, fun _ => ⟨v0, fun _ => ok _, fun _ => ⟨v1, fun _ => ⟨v0, v1, fun _ => ?_, fun _ => ok _⟩, fun _ => ok _⟩⟩⟩⟩
  obtain ⟨hc, A, t1, t2, t3, t4, t5, _⟩ := qy.2.2.2 _ (vp_lt v0) tr
  obtain ⟨O, eO⟩ : ∃ O, O = y.1 123 (0 : Int32).toNatClampNeg := ⟨_, rfl⟩
  rw [← eO] at t4 t5
  have bO : (24 * O).toInt = 24 * O.toInt := by rw [t_mul (by rw [k24]; omega) (by rw [k24]; omega), k24]
  have loop : ∀ (n : Nat) (i : Int32), 0 ≤ i.toInt → 72000 - i.toInt ≤ n → MT G d z_alike 62 [(0, vr 0), (1, vi i)] [] y (ri F) := by
    intro n
    induction n with
    | zero =>
      intro i i0 hn
      refine sg_alike_62 _ ⟨v0, ?_⟩
      rw [← eO]
      exact ⟨fun _ => ok _, fun c => absurd (t_le.mpr (by omega)) c⟩
    | succ n ih =>
      intro i i0 hn
      refine sg_alike_62 _ ⟨v0, ?_⟩
      rw [← eO]
      refine ⟨fun _ => ok _, fun c => ?_⟩
      rw [t_le, bO] at c
      have ii : (i + 1).toInt = i.toInt + 1 := by rw [t_add (by omega) (by omega), k1]
      exact ⟨by rw [vp_in_iff]; omega, by rw [vp_in_iff, t_add (by omega) (by omega), k72]; omega, fun _ => ih _ (by omega) (by omega), fun _ => ok _⟩
  exact loop 72000 0 (by decide) (by decide)
theorem sp_ring (q : MI z) (w : Int32) (hD : 3 ≤ D) (h : ∀ r z', PM z z' → F r z') : MT G D z_ring 0 [(0, vr 0), (1, vi w)] [] z (ri F) := by
  obtain ⟨D, rfl⟩ : ∃ D', D = D' + 1 := ⟨D - 1, by omega⟩
  have k0 : (0 : Int32).toInt = 0 := rfl
  have k1 : (1 : Int32).toInt = 1 := rfl
  have k6 : (6 : Int32).toInt = 6 := rfl
  have k36 : (36 : Int32).toInt = 36 := rfl
  refine sg_ring_0 _ (fun y e => ?_)
  have hy := z0_s e
  have no : ∀ y', mi [0] [] z y' → ri F (some (vi 0)) y' := fun y' m => ri_i (h 0 y' (MI_0 m q))
  have qy := (MI_0 hy.1 q).1
  have p20 : ∀ b : Int32, (b = 0 → vp_in w 2) → MT G (D + 1) z_ring 20 [(0, vr 0), (1, vi w)] [vi b, vr 0] y (ri F) := by
    intro b hb
    refine sg_ring_20 _ _ (sp_ref b 1 hy (by decide) (fun b0 => ⟨fun q => absurd rfl q, fun _ => ⟨hb b0, fun tr => ?_, fun _ => no y hy.1⟩⟩) (fun _ y' m => ⟨fun _ => no y' m, fun q => absurd q (by decide)⟩))
    have wv := hb b0
    have wb := vp_in_iff.mp wv
    obtain ⟨hc, _⟩ := qy.2.2.2 _ (vp_lt wv) tr
    have g := (qy.2.1 hc).1
    have g6 := g.2.2.2.1
    have g60 := g.2.2.1
    obtain ⟨N, eN⟩ : ∃ N, N = y.1 0 24 := ⟨_, rfl⟩
    rw [← eN] at g6 g60
    have fin : ∀ (u : gd) (r : Int32), mi [] [139] y u → ri F (some (vi r)) u := fun u r mu => ri_i (h r u (by
      have p := PM_mi mu rfl rfl qy
      exact PM_0 hy.1 p))
    have f24 : ∀ u : gd, mi [] [139] y u → u.1 0 24 = N := fun u mu => by rw [mu.1 24 (by decide), eN]
    have st : ∀ (u u2 : gd) (j : Nat) (v : Int32), mi [] [139] y u → u2 = si u 139 j v → mi [] [139] y u2 := fun u u2 j v mu e2 => by
      have m := md_a u 139 j v (by decide)
      rw [← e2] at m
      exact mi_tr mu (mi_of m) rfl rfl
    have p42 : ∀ (n : Nat) (u : gd) (r l : Int32), mi [] [139] y u → 0 ≤ l.toInt → N.toInt - l.toInt ≤ n → MT G (D + 1) z_ring 42 [(0, vr 0), (1, vi w), (2, vi r), (3, vi l)] [] u (ri F) := by
      intro n
      induction n with
      | zero =>
        intro u r l mu l0 hn
        exact sg_ring_42 _ _ _ ⟨fun _ => fin u r mu, fun c => absurd (t_le.mpr (by rw [f24 u mu]; omega)) c⟩
      | succ n ih =>
        intro u r l mu l0 hn
        refine sg_ring_42 _ _ _ ⟨fun _ => fin u r mu, fun c => ?_⟩
        rw [t_le, f24 u mu] at c
        have lv : vp_in l 6 := by rw [vp_in_iff]; omega
        have li : (l + 1).toInt = l.toInt + 1 := by rw [t_add (by omega) (by omega), k1]
        have p79 : ∀ (m : Nat) (u : gd) (k : Int32), mi [] [139] y u → 1 ≤ k.toInt → N.toInt + 1 - k.toInt ≤ m → MT G (D + 1) z_ring 79 [(0, vr 0), (1, vi w), (2, vi r), (3, vi l), (4, vi k)] [] u (ri F) := by
          have last : ∀ u : gd, mi [] [139] y u → vp_in l 6 ∧ (((u.1 139 l.toNatClampNeg) ≤ (0 : Int32) → MT G (D + 1) z_ring 42 [(0, vr 0), (1, vi w), (2, vi r), (3, vi (l + 1))] [] u (ri F)) ∧ (¬ ((u.1 139 l.toNatClampNeg) ≤ (0 : Int32)) → ((r = (0 : Int32) → vp_in l 6 ∧ MT G (D + 1) z_ring 42 [(0, vr 0), (1, vi w), (2, vi (u.1 139 l.toNatClampNeg)), (3, vi (l + 1))] [] u (ri F)) ∧ (¬ (r = (0 : Int32)) → vp_in l 6 ∧ ((r ≤ (u.1 139 l.toNatClampNeg) → MT G (D + 1) z_ring 42 [(0, vr 0), (1, vi w), (2, vi r), (3, vi (l + 1))] [] u (ri F)) ∧ (¬ (r ≤ (u.1 139 l.toNatClampNeg)) → vp_in l 6 ∧ MT G (D + 1) z_ring 42 [(0, vr 0), (1, vi w), (2, vi (u.1 139 l.toNatClampNeg)), (3, vi (l + 1))] [] u (ri F))))))) := by
            intro u mu
            have nx : ∀ r : Int32, MT G (D + 1) z_ring 42 [(0, vr 0), (1, vi w), (2, vi r), (3, vi (l + 1))] [] u (ri F) := fun r => ih u r (l + 1) mu (by omega) (by omega)
            exact ⟨lv, fun _ => nx _, fun _ => ⟨fun _ => ⟨lv, nx _⟩, fun _ => ⟨lv, fun _ => nx _, fun _ => ⟨lv, nx _⟩⟩⟩⟩
          intro m
          induction m with
          | zero =>
            intro u k mu k1' hm
            exact sg_ring_79 _ _ _ _ ⟨fun _ => last u mu, fun q => absurd (t_lt.mpr (by rw [f24 u mu]; omega)) q⟩
          | succ m ihm =>
            intro u k mu k1' hm
            refine sg_ring_79 _ _ _ _ ⟨fun _ => last u mu, fun q => ?_⟩
            rw [t_lt, f24 u mu] at q
            have ki : (k + 1).toInt = k.toInt + 1 := by rw [t_add (by omega) (by omega), k1]
            have p91 : ∀ (p : Nat) (u : gd) (i : Int32), mi [] [139] y u → 0 ≤ i.toInt → N.toInt - i.toInt ≤ p → MT G (D + 1) z_ring 91 [(0, vr 0), (1, vi w), (2, vi r), (3, vi l), (4, vi k), (5, vi i)] [] u (ri F) := by
              intro p
              induction p with
              | zero =>
                intro u i mu i0 hp
                exact sg_ring_91 _ _ _ _ _ ⟨fun _ => ihm u (k + 1) mu (by omega) (by omega), fun q => absurd (t_le.mpr (by rw [f24 u mu]; omega)) q⟩
              | succ p ihp =>
                intro u i mu i0 hp
                refine sg_ring_91 _ _ _ _ _ ⟨fun _ => ihm u (k + 1) mu (by omega) (by omega), fun q2 => ?_⟩
                rw [t_le, f24 u mu] at q2
                have iv : vp_in i 6 := by rw [vp_in_iff]; omega
                have ii : (i + 1).toInt = i.toInt + 1 := by rw [t_add (by omega) (by omega), k1]
                have p144 : ∀ (s : Nat) (u : gd) (v j : Int32), mi [] [139] y u → 0 ≤ j.toInt → N.toInt - j.toInt ≤ s → MT G (D + 1) z_ring 144 [(0, vr 0), (1, vi w), (2, vi r), (3, vi l), (4, vi k), (5, vi i), (6, vi v), (7, vi j)] [] u (ri F) := by
                  intro s
                  induction s with
                  | zero =>
                    intro u v j mu j0 hs
                    exact sg_ring_144 _ _ _ _ _ _ _ ⟨fun _ => ihp u (i + 1) mu (by omega) (by omega), fun q => absurd (t_le.mpr (by rw [f24 u mu]; omega)) q⟩
                  | succ s ihs =>
                    intro u v j mu j0 hs
                    refine sg_ring_144 _ _ _ _ _ _ _ ⟨fun _ => ihp u (i + 1) mu (by omega) (by omega), fun q3 => ⟨fun _ => ihp u (i + 1) mu (by omega) (by omega), fun _ => ?_⟩⟩
                    rw [t_le, f24 u mu] at q3
                    have jv : vp_in j 6 := by rw [vp_in_iff]; omega
                    have ji : (j + 1).toInt = j.toInt + 1 := by rw [t_add (by omega) (by omega), k1]
                    have a1 : (36 * w).toInt = 36 * w.toInt := by rw [t_mul (by rw [k36]; omega) (by rw [k36]; omega), k36]
                    have a2 : (6 * i).toInt = 6 * i.toInt := by rw [t_mul (by rw [k6]; omega) (by rw [k6]; omega), k6]
                    have a3 : (36 * w + 6 * i).toInt = 36 * w.toInt + 6 * i.toInt := by rw [t_add (by omega) (by omega), a1, a2]
                    refine ⟨by rw [vp_in_iff, t_add (by omega) (by omega), a3]; omega, fun _ => ihs u v (j + 1) mu (by omega) (by omega), fun _ => ⟨jv, fun _ => ihs u v (j + 1) mu (by omega) (by omega), fun _ => ⟨jv, fun u8 e8 => ihs u8 v (j + 1) (st u u8 _ _ mu e8) (by omega) (by omega)⟩⟩⟩
                have go : ∀ v : Int32, MT G (D + 1) z_ring 144 [(0, vr 0), (1, vi w), (2, vi r), (3, vi l), (4, vi k), (5, vi i), (6, vi v), (7, vi 0)] [] u (ri F) := fun v => p144 6 u v 0 mu (by decide) (by rw [k0]; omega)
                exact ⟨fun _ => ⟨iv, fun _ => go _, fun _ => go _⟩, fun _ => ⟨fun _ => go _, fun _ => go _⟩⟩
            exact p91 6 u 0 mu (by decide) (by rw [k0]; omega)
        have p53 : ∀ (m : Nat) (u : gd) (k : Int32), mi [] [139] y u → 0 ≤ k.toInt → N.toInt - k.toInt ≤ m → MT G (D + 1) z_ring 53 [(0, vr 0), (1, vi w), (2, vi r), (3, vi l), (4, vi k)] [] u (ri F) := by
          intro m
          induction m with
          | zero =>
            intro u k mu k0' hm
            exact sg_ring_53 _ _ _ _ ⟨fun _ => p79 6 u 1 mu (by decide) (by rw [k1]; omega), fun q => absurd (t_le.mpr (by rw [f24 u mu]; omega)) q⟩
          | succ m ihm =>
            intro u k mu k0' hm
            refine sg_ring_53 _ _ _ _ ⟨fun _ => p79 6 u 1 mu (by decide) (by rw [k1]; omega), fun q => ?_⟩
            rw [t_le, f24 u mu] at q
            have ki : (k + 1).toInt = k.toInt + 1 := by rw [t_add (by omega) (by omega), k1]
            exact ⟨by rw [vp_in_iff]; omega, fun u3 e3 => ihm u3 (k + 1) (st u u3 _ _ mu e3) (by omega) (by omega)⟩
        exact p53 6 u 0 mu (by decide) (by rw [k0]; omega)
    exact p42 6 y 0 0 ⟨fun _ _ => rfl, fun _ _ _ => rfl⟩ (by decide) (by rw [k0]; omega)
  exact sp_in _ _ _ ⟨fun cc => p20 0 (fun _ => (w_in (bi_ne.mp cc)).1), fun _ => p20 1 (fun q => absurd q (by decide))⟩
end TCA
