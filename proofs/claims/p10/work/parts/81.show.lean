/-! show: the way to a finding, gone again -/
section TSH
variable {G : mG} {d D : Nat} {x z a : gd} {F : Int32 → gd → Prop} {Fv : gd → Prop}
theorem sp_show (q : MI z) (w f : Int32) (hD : 8 ≤ D) (h : ∀ r z', PM z z' → F r z') : MT G D z_show 0 [(0, vr 0), (1, vi w), (2, vi f)] [] z (ri F) := by
  obtain ⟨D, rfl⟩ : ∃ D', D = D' + 1 := ⟨D - 1, by omega⟩
  have k0 : (0 : Int32).toInt = 0 := rfl
  have k1 : (1 : Int32).toInt = 1 := rfl
  have km1 : (-1 : Int32).toInt = -1 := rfl
  have k4 : (400 : Int32).toInt = 400 := rfl
  refine sg_show_0 _ _ (fun y e => ?_)
  have hy := z0_s e
  have no : ∀ y', mi [0] [] z y' → ri F (some (vi 0)) y' := fun y' m => ri_i (h 0 y' (MI_0 m q))
  have qy := (MI_0 hy.1 q).1
  have p75 : vp_in w 2 → (w = 0 ∨ w = 1) → ∀ s b : Int32, (b = 0 → ¬ y.1 119 w.toNatClampNeg = 0 ∧ 0 ≤ s.toInt ∧ s.toInt < (y.1 120 w.toNatClampNeg).toInt) → MT G (D + 1) z_show 75 [(0, vr 0), (1, vi w), (3, vi s)] [vi b, vr 0] y (ri F) := by
    intro wv w01 s b hb
    refine sg_show_75 _ _ _ (sp_ref b 2 hy (by decide) (fun b0 => ⟨fun q => absurd rfl q, fun _ => ?_⟩) (fun _ y' m => ⟨fun _ => no y' m, fun q => absurd q (by decide)⟩))
    obtain ⟨tr, s0, s1⟩ := hb b0
    obtain ⟨W, eW⟩ : ∃ W, W = w.toNatClampNeg := ⟨_, rfl⟩
    have wW : w32 W = w := by
      rw [eW]
      rcases w01 with c | c
      · rw [c]; rfl
      · rw [c]; rfl
    obtain ⟨hc, A, t1, t2, t3, t4, t5, t6, t7⟩ := qy.2.2.2 _ (vp_lt wv) tr
    rw [← eW] at t1 t2 t3 t6 s1
    rw [wW] at t1
    have ix : ∀ c : Int32, 0 ≤ c.toInt → c.toInt < (y.1 120 W).toInt → vp_in (3000 * w + c) 6000 ∧ (3000 * w + c).toNatClampNeg = 3000 * W + c.toNatClampNeg := fun c c0 c1 => by
      rw [eW]
      exact tmul (k := 3000) (K := 3000) (N := 6000) (n := 3000) rfl wv c0 (by omega) (by omega) (by omega) (by omega)
    obtain ⟨sv, se⟩ := ix s s0 s1
    obtain ⟨N, eN⟩ : ∃ N, N = y.1 132 (3000 * w + s).toNatClampNeg := ⟨_, rfl⟩
    rw [← eN]
    have cs := cl_i s0
    have N0 : 0 ≤ N.toInt := by
      have := (t6 s.toNatClampNeg (by omega)).2.1
      rw [eN, se]
      exact this
    -- the run gone again
    have loop : N.toInt ≤ 400 → ∀ (av : Nat → gd) (p : Nat → Int32), (∀ k : Nat, (k : Int) ≤ N.toInt → AV (av k)) → (∀ k : Nat, (k : Int) < N.toInt → 0 ≤ (p k).toInt ∧ (p k).toInt < ((av k).1 0 84).toInt ∧ Lk (av k) (p k).toNatClampNeg (av (k + 1))) → av 0 = A 0 → ∀ (m : Nat) (u : gd) (i : Int32), 0 ≤ i.toInt → i.toInt ≤ N.toInt → N.toInt - i.toInt ≤ m → eqS (Sm (av i.toNatClampNeg)) (av i.toNatClampNeg) u → HA u → (u.1 0 94).toInt = i.toInt → (∀ k : Nat, (k : Int) < N.toInt → u.1 138 k = p k) → (∀ k : Nat, (k : Int) < i.toInt → u.1 96 k = p k) → u.1 0 68 = w → mi (67 :: 68 :: dL) (138 :: dA) y u → MT G (D + 1) z_show 186 [(0, vr 0), (4, vi N), (5, vi i)] [] u (ri F) := by
      intro N4 av p q2 q3 q0
      have end' : ∀ (u : gd) (i : Int32), 0 ≤ i.toInt → i.toInt ≤ N.toInt → eqS (Sm (av i.toNatClampNeg)) (av i.toNatClampNeg) u → HA u → (u.1 0 94).toInt = i.toInt → (∀ k : Nat, (k : Int) < i.toInt → u.1 96 k = p k) → u.1 0 68 = w → mi (67 :: 68 :: dL) (138 :: dA) y u → ri F (some (vi (u.1 0 94))) u := by
        intro u i i0 iN eu hu u94 u96 u68 mu
        have ci := cl_i i0
        have hist : Hist u := ⟨av, i.toNatClampNeg, by omega, fun k hk => q2 k (by omega), fun k hk => by rw [u96 k (by omega)]; exact q3 k (by omega), eu, by rw [u68, q0]; exact St_pr (prE_mi (prE_rf y) mu rfl rfl) t1, by unfold wy01; rw [u68]; exact w01, hu⟩
        refine ri_i (h _ u ?_)
        have p := MI_new mu rfl rfl hc hist qy
        exact PM_0 hy.1 p
      intro m
      induction m with
      | zero =>
        intro u i i0 i1 hm eu hu u94 u138 u96 u68 mu
        exact sg_show_186 _ _ ⟨fun _ => end' u i i0 i1 eu hu u94 u96 u68 mu, fun c => absurd (t_le.mpr (by omega)) c⟩
      | succ m ih =>
        intro u i i0 i1 hm eu hu u94 u138 u96 u68 mu
        have ci := cl_i i0
        refine sg_show_186 _ _ ⟨fun _ => end' u i i0 i1 eu hu u94 u96 u68 mu, fun c => ?_⟩
        rw [t_le] at c
        refine ⟨by rw [vp_in_iff]; omega, ?_⟩
        rw [u138 _ (by omega)]
        obtain ⟨b1, b2, b3⟩ := q3 i.toNatClampNeg (by omega)
        have ii : (i + 1).toInt = i.toInt + 1 := by rw [t_add (by omega) (by omega), k1]
        have ci1 : (i + 1).toNatClampNeg = i.toNatClampNeg + 1 := by have := cl_i (a := i + 1) (by omega); omega
        refine sp_doChoice (q2 _ (by omega)) _ b1 b2 b3 eu hu (by omega) (by omega) (fun u' eu' hu' df => ?_)
        obtain ⟨mm, e94, e96, e96b⟩ := df
        have cu : (u.1 0 94).toNatClampNeg = i.toNatClampNeg := by have := cl_i (a := u.1 0 94) (by omega); omega
        rw [cu] at e96 e96b
        refine ih u' (i + 1) (by omega) (by omega) (by omega) (by rw [ci1]; exact eu') hu' (by omega) (fun k hk => by rw [mm.2 138 (by decide) (by decide)]; exact u138 k hk) (fun k hk => ?_) (by rw [mm.1 68 (by decide)]; exact u68) (mi_tr mu mm rfl rfl)
        by_cases w : k = i.toNatClampNeg
        · rw [w, e96]
        · rw [e96b k w]; exact u96 k (by omega)
    -- the way back to the first state
    have back : N.toInt ≤ 400 → ∀ (m : Nat) (u : gd) (c i : Int32) (av : Nat → gd), i.toInt + 1 ≤ m → -1 ≤ i.toInt → i.toInt < N.toInt → 0 ≤ c.toInt → c.toInt < (y.1 120 W).toInt → (y.1 132 (3000 * W + c.toNatClampNeg)).toInt = i.toInt + 1 → mi [] [138] y u → (∀ k : Nat, (k : Int) = i.toInt + 1 → av k = A c.toNatClampNeg) → (∀ k : Nat, i.toInt < (k : Int) → (k : Int) ≤ N.toInt → AV (av k)) → (∀ k : Nat, i.toInt < (k : Int) → (k : Int) < N.toInt → 0 ≤ (u.1 138 k).toInt ∧ (u.1 138 k).toInt < ((av k).1 0 84).toInt ∧ Lk (av k) (u.1 138 k).toNatClampNeg (av (k + 1))) → MT G (D + 1) z_show 135 [(0, vr 0), (1, vi w), (3, vi c), (4, vi N), (5, vi i)] [] u (ri F) := by
      intro N4
      have fin : ∀ (u : gd) (c i : Int32) (av : Nat → gd), i.toInt = -1 → 0 ≤ c.toInt → c.toInt < (y.1 120 W).toInt → (y.1 132 (3000 * W + c.toNatClampNeg)).toInt = i.toInt + 1 → mi [] [138] y u → (∀ k : Nat, (k : Int) = i.toInt + 1 → av k = A c.toNatClampNeg) → (∀ k : Nat, i.toInt < (k : Int) → (k : Int) ≤ N.toInt → AV (av k)) → (∀ k : Nat, i.toInt < (k : Int) → (k : Int) < N.toInt → 0 ≤ (u.1 138 k).toInt ∧ (u.1 138 k).toInt < ((av k).1 0 84).toInt ∧ Lk (av k) (u.1 138 k).toNatClampNeg (av (k + 1))) → MT G D z_startRun 0 [(0, vr 0), (1, vi w)] [] u (rv (fun x2 => MT G (D + 1) z_show 186 [(0, vr 0), (4, vi N), (5, vi 0)] [] x2 (ri F))) := by
        intro u c i av hi c0 c1 c2 mu q0 q2 q3
        have cc := cl_i c0
        have cz : c.toNatClampNeg = 0 := by
          by_cases cz : c.toNatClampNeg = 0
          · exact cz
          · obtain ⟨p, p1, p2, p3, _⟩ := (t6 c.toNatClampNeg (by omega)).2.2.2 (by omega)
            have := (t6 p (by omega)).2.1
            omega
        rw [cz] at q0
        refine t1 G D u _ (by omega) (prE_mi (prE_rf y) mu rfl rfl) (fun u' eu sf => ?_)
        obtain ⟨mm, f94, hu, f67, f68⟩ := sf
        have a0 := q0 0 (by omega)
        have g138 : u'.1 138 = u.1 138 := mm.2 138 (by decide) (by decide)
        exact loop N4 av (fun k => u.1 138 k) (fun k hk => q2 k (by omega) hk) (fun k hk => q3 k (by omega) hk) a0 N.toInt.toNat u' 0 (by decide) (by rw [k0]; exact N0) (by rw [k0]; omega) (by show eqS (Sm (av 0)) (av 0) u'; rw [a0]; exact eu) hu (by rw [f94]) (fun k _ => by rw [g138]) (fun k hk => absurd hk (by rw [k0]; omega)) f68 (mi_tr mu mm rfl rfl)
      intro m
      induction m with
      | zero =>
        intro u c i av hm i0 i1 c0 c1 c2 mu q0 q2 q3
        exact sg_show_135 _ _ _ _ ⟨fun _ => fin u c i av (by omega) c0 c1 c2 mu q0 q2 q3, fun cc => absurd (t_lt.mpr (by rw [k0]; omega)) cc⟩
      | succ m ih =>
        intro u c i av hm i0 i1 c0 c1 c2 mu q0 q2 q3
        refine sg_show_135 _ _ _ _ ⟨fun cc => fin u c i av (by rw [t_lt, k0] at cc; omega) c0 c1 c2 mu q0 q2 q3, fun cc => ?_⟩
        rw [t_lt, k0] at cc
        obtain ⟨cv, ce⟩ := ix c c0 c1
        have lv : vp_in i 400 := by rw [vp_in_iff]; omega
        refine ⟨cv, lv, fun v ev => ⟨cv, ?_⟩⟩
        rw [ce] at ev ⊢
        have ccl := cl_i c0
        have ci := cl_i (a := i) (by omega)
        have cp : 0 < c.toNatClampNeg := by
          by_cases cz : c.toNatClampNeg = 0
          · have := (t6 c.toNatClampNeg (by omega)).2.2.1 cz
            omega
          · omega
        obtain ⟨p, p1, p2, p3, p4, p5, p6⟩ := (t6 c.toNatClampNeg (by omega)).2.2.2 cp
        have mv := md_a u 138 i.toNatClampNeg (u.1 131 (3000 * W + c.toNatClampNeg)) (by decide)
        rw [← ev] at mv
        have g130 : v.1 130 = y.1 130 := by rw [mv.2.1 130 (by decide) (by decide), mu.2 130 (by decide) (by decide)]
        have g131 : u.1 131 = y.1 131 := mu.2 131 (by decide) (by decide)
        rw [g131] at ev
        rw [g130]
        obtain ⟨c', ec'⟩ : ∃ c', c' = y.1 130 (3000 * W + c.toNatClampNeg) := ⟨_, rfl⟩
        rw [← ec'] at p2 ⊢
        have cc' : c'.toNatClampNeg = p := by have := cl_i (a := c') (by omega); omega
        obtain ⟨j, ej⟩ : ∃ j, j = i + (-1) := ⟨_, rfl⟩
        have ji : j.toInt = i.toInt - 1 := by rw [ej, t_add (by rw [km1]; omega) (by rw [km1]; omega), km1]; omega
        rw [← ej]
        refine ih v c' j (fun k => if k = i.toNatClampNeg then A p else av k) (by omega) (by omega) (by omega) (by omega) (by omega) (by rw [cc']; omega) (mi_tr mu (mi_of mv) rfl rfl) (fun k hk => ?_) (fun k hk hk2 => ?_) (fun k hk hk2 => ?_)
        · rw [cc']
          show (if k = i.toNatClampNeg then A p else av k) = A p
          rw [if_pos (by omega)]
        · show AV (if k = i.toNatClampNeg then A p else av k)
          by_cases w : k = i.toNatClampNeg
          · rw [if_pos w]; exact (t6 p (by omega)).1
          · rw [if_neg w]; exact q2 k (by omega) hk2
        · show 0 ≤ (v.1 138 k).toInt ∧ (v.1 138 k).toInt < (((if k = i.toNatClampNeg then A p else av k)).1 0 84).toInt ∧ Lk (if k = i.toNatClampNeg then A p else av k) (v.1 138 k).toNatClampNeg (if k + 1 = i.toNatClampNeg then A p else av (k + 1))
          rw [if_neg (show ¬ k + 1 = i.toNatClampNeg by omega)]
          by_cases w : k = i.toNatClampNeg
          · rw [if_pos w, q0 (k + 1) (by omega), ev, si_get, if_pos ⟨rfl, w⟩]
            exact ⟨p4, p5, p6⟩
          · rw [if_neg w, ev, si_ne 138 k w]
            exact q3 k (by omega) hk2
    have p106 : ∀ b : Int32, (b = 0 → N.toInt ≤ 400) → MT G (D + 1) z_show 106 [(0, vr 0), (1, vi w), (3, vi s)] [vi b, vr 0] y (ri F) := by
      intro b hb
      refine sg_show_106 _ _ _ (sp_ref b 2 hy (by decide) (fun b0 => ⟨fun _ => ⟨sv, ?_⟩, fun q => absurd rfl q⟩) (fun _ y' m => ⟨fun q => absurd q (by decide), fun _ => no y' m⟩))
      rw [← eN]
      have N4 := hb b0
      obtain ⟨j, ej⟩ : ∃ j, j = N - 1 := ⟨_, rfl⟩
      have ji : j.toInt = N.toInt - 1 := by rw [ej, t_sub (by rw [k1]; omega) (by rw [k1]; omega), k1]
      rw [← ej]
      refine back N4 (N.toInt.toNat) y s j (fun _ => A s.toNatClampNeg) (by omega) (by omega) (by omega) s0 s1 (by rw [← se, ← eN]; omega) ⟨fun _ _ => rfl, fun _ _ _ => rfl⟩ (fun _ _ => rfl) (fun k _ _ => (t6 _ (by omega)).1) (fun k h1 h2 => by omega)
    exact ⟨sv, fun c => p106 0 (fun _ => by rw [t_le, k4] at c; exact c), fun _ => p106 1 (fun q => absurd q (by decide))⟩
  have p63 : vp_in w 2 → (w = 0 ∨ w = 1) → ∀ s : Int32, (s = -1 ∨ (¬ y.1 119 w.toNatClampNeg = 0 ∧ 0 ≤ s.toInt ∧ s.toInt < (y.1 120 w.toNatClampNeg).toInt)) → MT G (D + 1) z_show 63 [(0, vr 0), (1, vi w)] [vi s] y (ri F) := fun wv w01 s hs => sg_show_63 _ _ ⟨fun ne => p75 wv w01 s 0 (fun _ => hs.resolve_left ne), fun _ => p75 wv w01 s 1 (fun q => absurd q (by decide))⟩
  have p30 : ∀ b : Int32, (b = 0 → (vp_in w 2 ∧ (w = 0 ∨ w = 1)) ∧ 0 ≤ f.toInt ∧ f.toInt < 11) → MT G (D + 1) z_show 30 [(0, vr 0), (1, vi w), (2, vi f)] [vi b, vr 0] y (ri F) := by
    intro b hb
    refine sg_show_30 _ _ _ (sp_ref b 1 hy (by decide) (fun b0 => ⟨fun _ => ?_, fun q => absurd rfl q⟩) (fun _ y' m => ⟨fun q => absurd q (by decide), fun _ => no y' m⟩))
    obtain ⟨⟨wv, w01⟩, f0, f1⟩ := hb b0
    obtain ⟨fv, fe⟩ := t11 wv f0 f1
    refine ⟨wv, fun _ => p63 wv w01 _ (Or.inl rfl), fun tr => ⟨fv, p63 wv w01 _ ?_⟩⟩
    obtain ⟨hc, A, t1, t2, t3, t4, t5, t6, t7⟩ := qy.2.2.2 _ (vp_lt wv) tr
    rw [fe]
    exact (t7 f.toNatClampNeg (by have := cl_i f0; omega)).imp id (fun w => ⟨tr, w⟩)
  exact sp_in _ _ _ ⟨fun _ => p30 1 (fun q => absurd q (by decide)), fun c1 => sp_in _ _ _ ⟨fun c2 => p30 0 (fun _ => ⟨w_in (bi_ne.mp c1), f_in (bi_ne.mp c2)⟩), fun _ => p30 1 (fun q => absurd q (by decide))⟩⟩
end TSH
