/-! a state looked at while trying -/
abbrev kA : List Nat := [70, 71, 72, 73, 74, 75, 76, 77, 78, 79, 80, 81, 82, 84, 86, 87, 88, 122, 123, 124, 125, 126, 127, 128, 129]
/-- what looking keeps -/
def LKI (z a : gd) (W : Nat) (M B : Int) (y : gd) : Prop := mi rL kA z y ∧ eqS (Sm a) a y ∧ ow W z y ∧ fnd y W M ∧ 0 ≤ (y.1 123 W).toInt ∧ (y.1 123 W).toInt ≤ B
section LOK
variable {G : mG} {d D : Nat} {x z a : gd} {F : Int32 → gd → Prop} {Fv : gd → Prop}
theorem LKI_md {W : Nat} {M B : Int} {y y' : gd} (q : LKI z a W M B y) (m : md rL rA y y') (e : eqS (Sm a) a y') : LKI z a W M B y' := by
  obtain ⟨q1, q2, q3, q4, q5, q6⟩ := q
  refine ⟨mi_tr q1 (mi_of m) rfl rfl, e, ow_tr q3 (ow_mi (mi_of m) rfl), ?_, by rw [m.2.1 123 (by decide) (by decide)]; exact q5, by rw [m.2.1 123 (by decide) (by decide)]; exact q6⟩
  unfold fnd
  rw [m.2.1 126 (by decide) (by decide)]
  exact q4
theorem LKI_c {W : Nat} {M B : Int} {y y' : gd} (q : LKI z a W M B y) (m : md [] [122, 124, 125, 127, 128] y y') : LKI z a W M B y' := by
  obtain ⟨q1, q2, q3, q4, q5, q6⟩ := q
  refine ⟨mi_tr q1 (mi_of m) rfl rfl, eqS_mi q2 (mi_of m) rfl rfl (ssub_rf _), ow_tr q3 (ow_mi (mi_of m) rfl), ?_, by rw [m.2.1 123 (by decide) (by decide)]; exact q5, by rw [m.2.1 123 (by decide) (by decide)]; exact q6⟩
  unfold fnd
  rw [m.2.1 126 (by decide) (by decide)]
  exact q4
theorem LKI_f {W : Nat} {M B : Int} {y y' : gd} (q : LKI z a W M B y) (m : md [] [126] y y') (o : ow W y y') (f : fnd y' W M) : LKI z a W M B y' := by
  obtain ⟨q1, q2, q3, q4, q5, q6⟩ := q
  exact ⟨mi_tr q1 (mi_of m) rfl rfl, eqS_mi q2 (mi_of m) rfl rfl (ssub_rf _), ow_tr q3 o, f, by rw [m.2.1 123 (by decide) (by decide)]; exact q5, by rw [m.2.1 123 (by decide) (by decide)]; exact q6⟩
/-- hasAct and worked, from what is like a -/
theorem sp_hasAct {y : gd} (av : AV a) (e : eqS (Sm a) a y) (t : Int32) (tv : vp_in t 6) (hD : 2 ≤ D) (h0 : ∀ y', md rL rA y y' → eqS (Sm a) a y' → F 0 y') (h1 : a.1 73 t.toNatClampNeg = 1 → ∀ y', md rL rA y y' → eqS (Sm a) a y' → F 1 y') : MT G D z_hasAct 0 [(0, vr 0), (1, vi t)] [] y (ri F) := by
  refine MD_top (ds_hasAct (d := 1) (S := Sm a) (x := a) (F := fun r y S1 => y = a ∧ S1 = Sm a ∧ (r = 0 ∨ (r = 1 ∧ a.1 73 t.toNatClampNeg = 1))) t tv (RI_sub (Sl_Sm a) av.1) ⟨rfl, rfl, Or.inl rfl⟩ (fun g _ => ⟨rfl, rfl, Or.inr ⟨rfl, g⟩⟩)) e (by omega) (fun o x' S' y' q eq m => ?_)
  obtain ⟨r, eo, ex, eS, hr⟩ := q
  rw [ex, eS] at eq
  rw [eo]
  rcases hr with hr | ⟨hr, g⟩
  · rw [hr]; exact ri_i (h0 y' m eq)
  · rw [hr]; exact ri_i (h1 g y' m eq)
theorem sp_workedO {y : gd} (av : AV a) (e : eqS (Sm a) a y) (r : Int32) (q : oW a r) (hD : 2 ≤ D) (h : ∀ v y', md rL rA y y' → eqS (Sm a) a y' → F v y') : MT G D z_worked 0 [(0, vr 0), (1, vi r), (2, vi (-1))] [] y (ri F) := by
  have w6 : (a.1 0 49).toInt ≤ 6000 := by have := av.1.1.2.1.2.2.2.1; omega
  refine MD_top (ds_worked (d := 0) (S := Sm a) (x := a) (o := 1) (F := fun _ y S1 => md [82] [84] a y ∧ ssub (Sm a) S1) q.1 q.2 w6 (fun h => absurd h (by decide)) (fun _ y S1 h1 h2 _ => ⟨h1, h2⟩)) e (by omega) (fun o x' S' y' q eq m => ?_)
  obtain ⟨v, eo, mx, ss⟩ := q
  rw [eo]
  refine ri_i (h v y' m (fun c j hc => ?_))
  have hx : eqS (Sm a) a x' := eqS_mi (eqS_rf _ _) (mi_of mx) rfl rfl (ssub_rf _)
  rw [eq c j (hc.imp id (ss c j)), hx c j hc]
theorem sp_look {M : Int} (w s : Int32) (wv : vp_in w 2) (av : AV a) (e : eqS (Sl a) a z) (s0 : 0 ≤ s.toInt) (s1 : s.toInt < M) (hf : fnd z w.toNatClampNeg M) (o0 : 0 ≤ (z.1 123 w.toNatClampNeg).toInt) (o1 : (z.1 123 w.toNatClampNeg).toInt < 3000) (hD : 5 ≤ D) (h : ∀ z', LKI z a w.toNatClampNeg M ((z.1 123 w.toNatClampNeg).toInt + 1) z' → Fv z') : MT G D z_look 0 [(0, vr 0), (1, vi w), (2, vi s)] [] z (rv Fv) := by
  obtain ⟨D, rfl⟩ : ∃ D', D = D' + 2 := ⟨D - 2, by omega⟩
  have k0 : (0 : Int32).toInt = 0 := rfl
  have k1 : (1 : Int32).toInt = 1 := rfl
  have k4 : (4 : Int32).toInt = 4 := rfl
  obtain ⟨W, eW⟩ : ∃ W, W = w.toNatClampNeg := ⟨_, rfl⟩
  have W2 : W < 2 := by rw [eW]; exact vp_lt wv
  rw [← eW] at hf o0 o1 h
  obtain ⟨O, eO⟩ : ∃ O, O = (z.1 123 W).toInt := ⟨_, rfl⟩
  rw [← eO] at o0 o1 h
  obtain ⟨ri, wy, ch, c0, c84, fa⟩ := id av
  obtain ⟨g1, g2, g3, g4, g5, g6, g7, g8, g9, g10, _⟩ := id ri.1.1
  have wk1 := ri.1.2.2.1
  have wk2 := ri.1.2.2.2
  have f25 : ∀ {y : gd}, eqS (Sm a) a y → y.1 0 25 = a.1 0 25 := fun e => cF e (by decide)
  have f24 : ∀ {y : gd}, eqS (Sm a) a y → y.1 0 24 = a.1 0 24 := fun e => cF e (by decide)
  -- threads: their acts
  have p292 : ∀ (n : Nat) (y : gd) (t : Int32), 0 ≤ t.toInt → (a.1 0 25).toInt - t.toInt ≤ n → LKI z a W M (O + 1) y → MT G (D + 2) z_look 292 [(0, vr 0), (1, vi w), (2, vi s), (6, vi t)] [] y (rv Fv) := by
    intro n
    induction n with
    | zero =>
      intro y t t0 hn ky
      exact sg_look_292 _ _ _ ⟨fun _ => rv_i (h y ky), fun c => absurd (t_le.mpr (by rw [f25 ky.2.1]; omega)) c⟩
    | succ n ih =>
      intro y t t0 hn ky
      refine sg_look_292 _ _ _ ⟨fun _ => rv_i (h y ky), fun c => ?_⟩
      rw [t_le, f25 ky.2.1] at c
      have tv : vp_in t 6 := by rw [vp_in_iff]; omega
      have ti : (t + 1).toInt = t.toInt + 1 := by rw [t_add (by omega) (by omega), k1]
      have nx : ∀ y, LKI z a W M (O + 1) y → MT G (D + 2) z_look 292 [(0, vr 0), (1, vi w), (2, vi s), (6, vi (t + 1))] [] y (rv Fv) := fun y ky => ih y (t + 1) (by omega) (by omega) ky
      refine sp_hasAct av ky.2.1 t tv (by omega) (fun y' m e' => ⟨fun q => absurd rfl q, fun _ => nx y' (LKI_md ky m e')⟩) (fun st y' m e' => ⟨fun _ => ?_, fun q => absurd q (by decide)⟩)
      have ky' := LKI_md ky m e'
      refine sp_locksOf t (by rw [f24 e']; exact g4) (fun mine => sp_lookAt av e' t tv st (by omega) (fun y7 x7 e7 m7 lp e88 e89 => ?_))
      have ky7 := LKI_md ky' m7 e7
      obtain ⟨kv, kn, so, avv⟩ := RI_step ri (vt tv) st
      obtain ⟨r1, r2, r3⟩ := srt_of ri (vt tv) st
      have k74 : y7.1 74 t.toNatClampNeg = a.1 74 t.toNatClampNeg := cA e7 (n := 6) (by decide) (vt tv)
      have esl : eqS (Sl a) a y7 := eqS_w (Sl_Sm a) e7
      have es := srt_eq esl ri (vt tv)
      refine sp_sortOf t tv (by rw [k74]; exact kv) ?_
      rw [es]
      obtain ⟨so', eso⟩ : ∃ q, q = srt a t.toNatClampNeg := ⟨_, rfl⟩
      obtain ⟨cc, ecc⟩ : ∃ q, q = y7.1 0 88 := ⟨_, rfl⟩
      unfold lkP at lp
      rw [← eso] at lp r1 r2 r3 ⊢
      rw [← e88, ← ecc] at lp
      rw [← e89] at lp
      obtain ⟨l1, l2, l3⟩ := lp
      -- races with the other threads
      have p464 : ∀ v : Int32, (¬ v = 0 → (y7.1 0 89).toInt ≤ 0) → ∀ (m : Nat) (u : gd) (o : Int32), 0 ≤ o.toInt → (a.1 0 25).toInt - o.toInt ≤ m → LKI z a W M (O + 1) u → MT G (D + 2) z_look 464 [(0, vr 0), (1, vi w), (2, vi s), (6, vi t), (8, vi so'), (9, vi cc), (10, vi v), (11, vi o)] [] u (rv Fv) := by
        intro v hv m
        induction m with
        | zero =>
          intro u o o0' hm ku
          exact sg_look_464 _ _ _ _ _ _ _ ⟨fun _ => nx u ku, fun c2 => absurd (t_le.mpr (by rw [f25 ku.2.1]; omega)) c2⟩
        | succ m ihm =>
          intro u o o0' hm ku
          refine sg_look_464 _ _ _ _ _ _ _ ⟨fun _ => nx u ku, fun c2 => ?_⟩
          rw [t_le, f25 ku.2.1] at c2
          have ov : vp_in o 6 := by rw [vp_in_iff]; omega
          have oi : (o + 1).toInt = o.toInt + 1 := by rw [t_add (by omega) (by omega), k1]
          have go : ∀ u, LKI z a W M (O + 1) u → MT G (D + 2) z_look 464 [(0, vr 0), (1, vi w), (2, vi s), (6, vi t), (8, vi so'), (9, vi cc), (10, vi v), (11, vi (o + 1))] [] u (rv Fv) := fun u ku => ihm u (o + 1) (by omega) (by omega) ku
          refine sp_isAccess _ (fun _ => ⟨fun _ => nx u ku, fun q => absurd rfl q⟩) (fun sa => ⟨fun q => absurd q (by decide), fun _ => ⟨fun _ => nx u ku, fun nv => ?_⟩⟩)
          have cr' := (l3 (hv nv)).1 sa
          have cv : vp_in cc 24 := by rw [vp_in_iff]; exact cr'
          refine sp_hasAct av ku.2.1 o ov (by omega) (fun u' mu eu => ⟨fun _ => go u' (LKI_md ku mu eu), fun q => absurd rfl q⟩) (fun so2 u' mu eu => ⟨fun q => absurd q (by decide), fun _ => ?_⟩)
          have ku' := LKI_md ku mu eu
          refine sp_lookAt av eu o ov so2 (by omega) (fun u9 x9 e9 m9 _ _ _ => ⟨fun _ => go u9 (LKI_md ku' m9 e9), fun _ => ?_⟩)
          have ku9 := LKI_md ku' m9 e9
          obtain ⟨kv2, _, _, _⟩ := RI_step ri (vt ov) so2
          refine sp_sortOf o ov (by rw [cA e9 (c := 74) (n := 6) (by decide) (vt ov)]; exact kv2) (sp_mayRace _ _ ⟨fun _ => go u9 ku9, fun q => absurd rfl q⟩ (fun _ => ⟨fun q => absurd q (by decide), fun _ => ⟨fun _ => go u9 ku9, fun _ => ⟨cv, fun _ => go u9 ku9, fun _ => ?_⟩⟩⟩))
          exact sp_find w 10 s wv (by decide) (by decide) s0 s1 (by rw [← eW]; exact ku9.2.2.2.1) (fun u10 m10 o10 f10 => go u10 (LKI_f ku9 m10 (by rw [← eW] at o10; exact o10) (by rw [← eW] at f10; exact f10)))
      -- locks that it holds
      have p400 : ∀ v : Int32, (¬ v = 0 → (y7.1 0 89).toInt ≤ 0) → ∀ (m : Nat) (u : gd) (l : Int32), 0 ≤ l.toInt → (a.1 0 24).toInt - l.toInt ≤ m → LKI z a W M (O + 1) u → MT G (D + 2) z_look 400 [(0, vr 0), (1, vi w), (2, vi s), (6, vi t), (7, vi mine), (8, vi so'), (9, vi cc), (10, vi v), (11, vi l)] [] u (rv Fv) := by
        intro v hv m
        have last : ∀ u, LKI z a W M (O + 1) u → MT G (D + 2) z_look 464 [(0, vr 0), (1, vi w), (2, vi s), (6, vi t), (8, vi so'), (9, vi cc), (10, vi v), (11, vi (t + 1))] [] u (rv Fv) := fun u ku => p464 v hv 6 u (t + 1) (by omega) (by omega) ku
        induction m with
        | zero =>
          intro u l l0 hm ku
          exact sg_look_400 _ _ _ _ _ _ _ _ ⟨fun _ => last u ku, fun c2 => absurd (t_le.mpr (by rw [f24 ku.2.1]; omega)) c2⟩
        | succ m ihm =>
          intro u l l0 hm ku
          refine sg_look_400 _ _ _ _ _ _ _ _ ⟨fun _ => last u ku, fun c2 => ⟨fun _ => last u ku, fun e5 => ?_⟩⟩
          rw [t_le, f24 ku.2.1] at c2
          have li : (l + 1).toInt = l.toInt + 1 := by rw [t_add (by omega) (by omega), k1]
          have o := r2 (Or.inl (by rw [e5]; decide))
          have ccv : cc.toInt = (a.1 56 (a.1 74 t.toNatClampNeg).toNatClampNeg).toInt := by rw [l2 (Or.inl (by rw [e5]; decide))]
          have k6 : (6 : Int32).toInt = 6 := rfl
          have k36 : (36 : Int32).toInt = 36 := rfl
          have wb := vp_in_iff.mp wv
          have a1 : (36 * w).toInt = 36 * w.toInt := by rw [t_mul (by rw [k36]; omega) (by rw [k36]; omega), k36]
          have a2 : (6 * l).toInt = 6 * l.toInt := by rw [t_mul (by rw [k6]; omega) (by rw [k6]; omega), k6]
          have a3 : (36 * w + 6 * l).toInt = 36 * w.toInt + 6 * l.toInt := by rw [t_add (by omega) (by omega), a1, a2]
          refine ⟨fun _ => ihm u (l + 1) (by omega) (by omega) ku, fun _ => ⟨fun _ => ihm u (l + 1) (by omega) (by omega) ku, fun _ => ⟨?_, fun u6 e6 => ?_⟩⟩⟩
          · rw [vp_in_iff, t_add (by omega) (by omega), a3]; omega
          · have m6 := md_a u 128 (36 * w + 6 * l + cc).toNatClampNeg (vp_nar .boolean 1) (by decide)
            rw [← e6] at m6
            exact ihm u6 (l + 1) (by omega) (by omega) (LKI_c ku (md_w m6 (by decide) (by decide)))
      have p353 : ∀ v : Int32, (¬ v = 0 → (y7.1 0 89).toInt ≤ 0) → MT G (D + 2) z_look 353 [(0, vr 0), (1, vi w), (2, vi s), (6, vi t), (7, vi mine), (8, vi so'), (9, vi cc)] [vi v] y7 (rv Fv) := by
        intro v hv
        have q400 : ∀ u, LKI z a W M (O + 1) u → MT G (D + 2) z_look 400 [(0, vr 0), (1, vi w), (2, vi s), (6, vi t), (7, vi mine), (8, vi so'), (9, vi cc), (10, vi v), (11, vi 0)] [] u (rv Fv) := fun u ku => p400 v hv 6 u 0 (by decide) (by rw [k0]; omega) ku
        refine sg_look_353 _ _ _ _ _ _ _ (sp_isAccess _ (fun _ => ⟨fun _ => q400 y7 ky7, fun q => absurd rfl q⟩) (fun sa => ⟨fun q => absurd q (by decide), fun _ => ⟨fun _ => q400 y7 ky7, fun ne => ?_⟩⟩))
        have cr' := (l1 sa).resolve_left ne
        have vv := (tmul (k := 24) (K := 24) (N := 48) (n := 24) rfl wv cr'.1 (by omega) (by omega) (by omega) (by omega)).1
        refine ⟨vv, vv, fun u7 e7' => ?_⟩
        have m7' := md_a y7 127 (24 * w + cc).toNatClampNeg (y7.1 127 (24 * w + cc).toNatClampNeg &&& mine) (by decide)
        rw [← e7'] at m7'
        exact q400 u7 (LKI_c ky7 (md_w m7' (by decide) (by decide)))
      rw [← ecc]
      refine ⟨fun _ => p353 0 (fun q => absurd rfl q), fun c9 => p353 1 (fun _ => ?_)⟩
      rw [c9, k0]; omega
  -- quiet
  have p275 : ∀ (y : gd) (v : Int32), LKI z a W M (O + 1) y → MT G (D + 2) z_look 275 [(0, vr 0), (1, vi w), (2, vi s), (5, vi v)] [] y (rv Fv) := by
    intro y v ky
    refine sg_look_275 _ _ _ ⟨wv, sp_one _ (fun r => ⟨wv, fun y5 e5 => ?_⟩)⟩
    have m5 := md_a y 124 w.toNatClampNeg (y.1 124 w.toNatClampNeg + r) (by decide)
    rw [← e5] at m5
    exact p292 6 y5 0 (by decide) (by rw [k0]; omega) (LKI_c ky (md_w m5 (by decide) (by decide)))
  have fi : ∀ (y : gd) (f : Int32) (B : Int), 0 ≤ f.toInt → f.toInt < 11 → LKI z a W M B y → (∀ y', LKI z a W M B y' → Fv y' → True) → ∀ Fq : gd → Prop, (∀ y', LKI z a W M B y' → Fq y') → MT G (D + 1) z_find 0 [(0, vr 0), (1, vi w), (2, vi f), (3, vi s)] [] y (rv Fq) := by
    intro y f B f0 f1 ky _ Fq hq
    exact sp_find w f s wv f0 f1 s0 s1 (by rw [← eW]; exact ky.2.2.2.1) (fun u m o f' => hq u (LKI_f ky m (by rw [← eW] at o; exact o) (by rw [← eW] at f'; exact f')))
  have tr : ∀ y', LKI z a W M (O + 1) y' → Fv y' → True := fun _ _ _ => trivial
  have p262 : ∀ (y : gd) (v4 v5 : Int32), LKI z a W M (O + 1) y → MT G (D + 2) z_look 262 [(0, vr 0), (1, vi w), (2, vi s), (4, vi v4), (5, vi v5)] [] y (rv Fv) := fun y v4 v5 ky => sg_look_262 _ _ _ _ ⟨fun _ => p275 y v5 ky, fun _ => fi y 9 (O + 1) (by decide) (by decide) ky tr _ (fun y' ky' => p275 y' v5 ky')⟩
  have up : ∀ {y : gd}, LKI z a W M O y → LKI z a W M (O + 1) y := fun q => ⟨q.1, q.2.1, q.2.2.1, q.2.2.2.1, q.2.2.2.2.1, by have := q.2.2.2.2.2; omega⟩
  have p228 : ∀ (y : gd) (v3 v4 v5 : Int32), LKI z a W M O y → MT G (D + 2) z_look 228 [(0, vr 0), (1, vi w), (2, vi s), (3, vi v3), (4, vi v4), (5, vi v5)] [] y (rv Fv) := by
    intro y v3 v4 v5 ky
    refine sg_look_228 _ _ _ _ _ ⟨fun _ => p262 y v4 v5 (up ky), fun _ => ⟨wv, wv, fun y4 e4 => ?_⟩⟩
    have m4 := md_a y 122 w.toNatClampNeg (y.1 122 w.toNatClampNeg + 1) (by decide)
    rw [← e4] at m4
    have k4' := LKI_c ky (md_w m4 (by decide) (by decide))
    have b1 := k4'.2.2.2.2.1
    have b2 := k4'.2.2.2.2.2
    refine sp_addOutcome w wv (by rw [← eW]; exact b1) (by rw [← eW]; omega) (by rw [cF k4'.2.1 (by decide)]; exact g2) (fun y5 m5 o5 q0 q1 => ?_)
    rw [← eW] at o5 q0 q1
    have k5 : LKI z a W M (O + 1) y5 := by
      obtain ⟨q1', q2', q3', q4', q5', q6'⟩ := k4'
      refine ⟨mi_tr q1' (mi_of m5) rfl rfl, eqS_mi q2' (mi_of m5) rfl rfl (ssub_rf _), ow_tr q3' o5, ?_, q0, by omega⟩
      unfold fnd
      rw [m5.2.1 126 (by decide) (by decide)]
      exact q4'
    exact ⟨fun _ => p262 y5 v4 v5 k5, fun _ => fi y5 8 (O + 1) (by decide) (by decide) k5 tr _ (fun y' ky' => p262 y' v4 v5 ky')⟩
  have fi0 : ∀ (y : gd) (f : Int32), 0 ≤ f.toInt → f.toInt < 11 → LKI z a W M O y → ∀ Fq : gd → Prop, (∀ y', LKI z a W M O y' → Fq y') → MT G (D + 1) z_find 0 [(0, vr 0), (1, vi w), (2, vi f), (3, vi s)] [] y (rv Fq) := by
    intro y f f0 f1 ky Fq hq
    exact sp_find w f s wv f0 f1 s0 s1 (by rw [← eW]; exact ky.2.2.2.1) (fun u m o f' => hq u (LKI_f ky m (by rw [← eW] at o; exact o) (by rw [← eW] at f'; exact f')))
  -- finals
  have p170 : ∀ (n : Nat) (y : gd) (v3 v4 v5 i : Int32), 0 ≤ i.toInt → (a.1 0 27).toInt - i.toInt ≤ n → LKI z a W M O y → MT G (D + 2) z_look 170 [(0, vr 0), (1, vi w), (2, vi s), (3, vi v3), (4, vi v4), (5, vi v5), (6, vi i)] [] y (rv Fv) := by
    intro n
    induction n with
    | zero =>
      intro y v3 v4 v5 i i0 hn ky
      exact sg_look_170 _ _ _ _ _ _ ⟨fun _ => p228 y v3 v4 v5 ky, fun c => absurd (t_le.mpr (by rw [cF ky.2.1 (by decide)]; omega)) c⟩
    | succ n ih =>
      intro y v3 v4 v5 i i0 hn ky
      refine sg_look_170 _ _ _ _ _ _ ⟨fun _ => p228 y v3 v4 v5 ky, fun c => ⟨fun _ => p228 y v3 v4 v5 ky, fun _ => ⟨fun _ => p228 y v3 v4 v5 ky, fun _ => ?_⟩⟩⟩
      rw [t_le, cF ky.2.1 (by decide)] at c
      have ci := cl_i i0
      have iv : vp_in i 4 := by rw [vp_in_iff]; omega
      have ii : (i + 1).toInt = i.toInt + 1 := by rw [t_add (by omega) (by omega), k1]
      refine ⟨iv, ?_⟩
      rw [cA ky.2.1 (c := 66) (n := 4) (by decide) (vp_lt iv)]
      refine sp_workedO av ky.2.1 _ (wk2 _ (by omega)) (by omega) (fun v y' m e' => ?_)
      have ky' := LKI_md ky m e'
      have p212 : MT G (D + 2) z_look 212 [(0, vr 0), (1, vi w), (2, vi s), (3, vi v3), (4, vi v4), (5, vi v5), (6, vi i)] [] y' (rv Fv) := sg_look_212 _ _ _ _ _ _ (fi0 y' (4 + i) (by rw [t_add (by omega) (by omega)]; omega) (by rw [t_add (by omega) (by omega)]; omega) ky' _ (fun u ku => ih u _ _ _ _ (by omega) (by omega) ku))
      exact ⟨fun _ => p212, fun _ => ⟨fun _ => ih y' _ _ _ _ (by omega) (by omega) ky', fun _ => p212⟩⟩
  -- always
  have p122 : ∀ (n : Nat) (y : gd) (v3 v4 v5 i : Int32), 0 ≤ i.toInt → (a.1 0 26).toInt - i.toInt ≤ n → LKI z a W M O y → MT G (D + 2) z_look 122 [(0, vr 0), (1, vi w), (2, vi s), (3, vi v3), (4, vi v4), (5, vi v5), (6, vi i)] [] y (rv Fv) := by
    intro n
    induction n with
    | zero =>
      intro y v3 v4 v5 i i0 hn ky
      exact sg_look_122 _ _ _ _ _ _ ⟨fun _ => p170 4 y v3 v4 v5 0 (by decide) (by rw [k0]; omega) ky, fun c => absurd (t_le.mpr (by rw [cF ky.2.1 (by decide)]; omega)) c⟩
    | succ n ih =>
      intro y v3 v4 v5 i i0 hn ky
      refine sg_look_122 _ _ _ _ _ _ ⟨fun _ => p170 4 y v3 v4 v5 0 (by decide) (by rw [k0]; omega) ky, fun c => ?_⟩
      rw [t_le, cF ky.2.1 (by decide)] at c
      have ci := cl_i i0
      have iv : vp_in i 4 := by rw [vp_in_iff]; omega
      have ii : (i + 1).toInt = i.toInt + 1 := by rw [t_add (by omega) (by omega), k1]
      refine ⟨iv, ?_⟩
      rw [cA ky.2.1 (c := 65) (n := 4) (by decide) (vp_lt iv)]
      refine sp_workedO av ky.2.1 _ (wk1 _ (by omega)) (by omega) (fun v y' m e' => ?_)
      have ky' := LKI_md ky m e'
      have p153 : MT G (D + 2) z_look 153 [(0, vr 0), (1, vi w), (2, vi s), (3, vi v3), (4, vi v4), (5, vi v5), (6, vi i)] [] y' (rv Fv) := sg_look_153 _ _ _ _ _ _ (fi0 y' i i0 (by omega) ky' _ (fun u ku => ih u _ _ _ _ (by omega) (by omega) ku))
      exact ⟨fun _ => p153, fun _ => ⟨fun _ => ih y' _ _ _ _ (by omega) (by omega) ky', fun _ => p153⟩⟩
  -- going, failed, idle
  have p28 : ∀ (n : Nat) (y : gd) (v3 v4 v5 i : Int32), 0 ≤ i.toInt → (a.1 0 25).toInt - i.toInt ≤ n → LKI z a W M O y → MT G (D + 2) z_look 28 [(0, vr 0), (1, vi w), (2, vi s), (3, vi v3), (4, vi v4), (5, vi v5), (6, vi i)] [] y (rv Fv) := by
    intro n
    induction n with
    | zero =>
      intro y v3 v4 v5 i i0 hn ky
      exact sg_look_28 _ _ _ _ _ _ ⟨fun _ => p122 4 y v3 v4 v5 0 (by decide) (by rw [k0]; omega) ky, fun c => absurd (t_le.mpr (by rw [f25 ky.2.1]; omega)) c⟩
    | succ n ih =>
      intro y v3 v4 v5 i i0 hn ky
      refine sg_look_28 _ _ _ _ _ _ ⟨fun _ => p122 4 y v3 v4 v5 0 (by decide) (by rw [k0]; omega) ky, fun c => ?_⟩
      rw [t_le, f25 ky.2.1] at c
      have iv : vp_in i 6 := by rw [vp_in_iff]; omega
      have ii : (i + 1).toInt = i.toInt + 1 := by rw [t_add (by omega) (by omega), k1]
      have nx : ∀ (y : gd) (v3 v4 v5 : Int32), LKI z a W M O y → MT G (D + 2) z_look 28 [(0, vr 0), (1, vi w), (2, vi s), (3, vi v3), (4, vi v4), (5, vi v5), (6, vi (i + 1))] [] y (rv Fv) := fun y v3 v4 v5 ky => ih y v3 v4 v5 (i + 1) (by omega) (by omega) ky
      have p79 : ∀ u v : Int32, MT G (D + 2) z_look 79 [(0, vr 0), (1, vi w), (2, vi s), (3, vi u), (5, vi v5), (6, vi i)] [vi v] y (rv Fv) := fun u v => sg_look_79 _ _ _ _ _ _ ⟨fun _ => nx _ _ _ _ ky, fun _ => ⟨iv, fun _ => nx _ _ _ _ ky, fun _ => sp_hasAct av ky.2.1 i iv (by omega) (fun y' m e' => ⟨fun q => absurd rfl q, fun _ => nx _ _ _ _ (LKI_md ky m e')⟩) (fun _ y' m e' => ⟨fun _ => nx _ _ _ _ (LKI_md ky m e'), fun q => absurd q (by decide)⟩)⟩⟩
      have p57 : ∀ u : Int32, MT G (D + 2) z_look 57 [(0, vr 0), (1, vi w), (2, vi s), (4, vi v4), (5, vi v5), (6, vi i)] [vi u] y (rv Fv) := fun u => sg_look_57 _ _ _ _ _ _ ⟨fun _ => p79 _ _, fun _ => ⟨iv, fun _ => p79 _ _, fun _ => p79 _ _⟩⟩
      exact ⟨fun _ => p57 _, fun _ => ⟨iv, fun _ => p57 _, fun _ => p57 _⟩⟩
  refine sg_look_0 _ _ (MT_up (by omega) (MTv_mono (fa G z e) (fun y q => ⟨wv, wv, fun y4 e4 => ?_⟩)))
  have m4 := md_a y 125 w.toNatClampNeg (y.1 125 w.toNatClampNeg + y.1 0 84) (by decide)
  rw [← e4] at m4
  have ky : LKI z a W M O y := by
    refine ⟨mi_w (mi_of q.2) (by decide) (by decide), q.1, ow_mi (mi_of q.2) rfl, ?_, by rw [q.2.2.1 123 (by decide) (by decide)]; omega, by rw [q.2.2.1 123 (by decide) (by decide)]; omega⟩
    unfold fnd
    rw [q.2.2.1 126 (by decide) (by decide)]
    exact hf
  exact p28 6 y4 0 0 0 0 (by decide) (by rw [k0]; omega) (LKI_c ky (md_w m4 (by decide) (by decide)))
end LOK
