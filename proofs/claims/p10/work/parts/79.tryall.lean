/-! all that the program can do, state by state -/
abbrev tL : List Nat := [82, 84, 88, 89, 90, 91, 92, 93, 136]
abbrev tA' : List Nat := [70, 71, 72, 73, 74, 75, 76, 77, 78, 79, 80, 81, 82, 84, 86, 87, 88, 120, 121, 122, 123, 124, 125, 126, 127, 128, 129, 130, 131, 132, 133, 134, 135]
/-- the choices found change nothing of the state -/
theorem sl_sw {a b z : gd} (m : md [84] [86, 87, 88] b a) (e : eqS (Sl b) b z) : eqS (Sl a) a z := by
  have e80 : a.1 80 = b.1 80 := m.2.1 80 (by decide) (by decide)
  intro c j h
  have hb : coreP c j ∨ Sl b c j := h.imp id (fun q => by unfold Sl at q ⊢; rw [← e80]; exact q)
  rw [e c j hb]
  symm
  rcases h with h | h
  · rcases h with ⟨h1, h2⟩ | ⟨n, h1, h2⟩
    · rw [h1]
      refine m.1 j (fun w => ?_)
      rw [List.mem_singleton.mp w] at h2
      exact absurd h2 (by decide)
    · have hc : c ≠ 0 ∧ c ∉ [86, 87, 88] := by
        simp at h1
        refine ⟨by omega, ?_⟩
        simp
        omega
      rw [m.2.1 c hc.1 hc.2]
  · obtain ⟨hc, _⟩ := h
    rw [m.2.1 c (by omega) (by simp; omega)]
/-- a state that was kept, with its row -/
def TR (y : gd) (W : Nat) (A : Nat → gd) (s : Nat) : Prop := TN y W A s ∧ ∀ i : Nat, i < 222 → y.1 133 (240 * s + i) = pv (A s) i
/-- what trying keeps -/
def TI (z : gd) (W : Nat) (A : Nat → gd) (M : Nat) (y : gd) : Prop := mi tL tA' z y ∧ ow W z y ∧ y.1 120 W = Int32.ofNat M ∧ 0 ≤ (y.1 123 W).toInt ∧ (y.1 123 W).toInt ≤ M ∧ fnd y W M ∧ (∀ s : Nat, s < M → TR y W A s) ∧ St z (w32 W) (A 0) ∧ ∀ s : Nat, s < M → prE z (A s) ∧ (A s).1 0 68 = z.1 0 68
theorem ofN {M : Nat} (h : M ≤ 3000) : (Int32.ofNat M).toInt = M := by
  have : (Int32.ofNat M).toInt = (M : Int).bmod (2 ^ 32) := Int32.toInt_ofNat
  rw [this]
  exact Int.bmod_eq_of_le (by omega) (by omega)
theorem TI_mi {z y y' : gd} {W M : Nat} {A : Nat → gd} {L B : List Nat} (q : TI z W A M y) (m : mi L B y y') (hL : L.all (tL.elem ·) = true) (hB : B.all (tA'.elem ·) = true) (hN : [120, 123, 126, 130, 131, 132, 133].all (fun k => !B.elem k) = true) : TI z W A M y' := by
  obtain ⟨q1, q2, q3, q4, q5, q6, q7, q8, q9⟩ := q
  have g := fun k (h0 : k ≠ 0) hk => m.2 k h0 (all_no hN k hk)
  refine ⟨mi_tr q1 m ?_ ?_, ow_tr q2 (ow_mi m (all_sub hN rfl)), by rw [g 120 (by decide) (by decide)]; exact q3, by rw [g 123 (by decide) (by decide)]; exact q4, by rw [g 123 (by decide) (by decide)]; exact q5, ?_, fun s hs => ?_, q8, q9⟩
  · rw [List.all_append, hL]; rfl
  · rw [List.all_append, hB]; rfl
  · unfold fnd
    rw [g 126 (by decide) (by decide)]
    exact q6
  · have r := q7 s hs
    unfold TR TN at r ⊢
    rw [g 130 (by decide) (by decide), g 131 (by decide) (by decide), g 132 (by decide) (by decide), g 133 (by decide) (by decide)]
    exact r
section TRY
variable {G : mG} {d D : Nat} {x z a : gd} {F : Int32 → gd → Prop} {Fv : gd → Prop}
theorem sp_tryAll (w l : Int32) (wv : vp_in w 2) (cp : CP z) (hw : z.1 0 68 = w) (l1 : 1 ≤ l.toInt) (l3 : l.toInt ≤ 3000) (hD : 7 ≤ D) (h : ∀ (A : Nat → gd) (M : Nat) (y : gd), M ≤ 3000 → TI z w.toNatClampNeg A M y → Fv y) : MT G D z_tryAll 0 [(0, vr 0), (1, vi w), (2, vi l)] [] z (rv Fv) := by
  obtain ⟨D, rfl⟩ : ∃ D', D = D' + 2 := ⟨D - 2, by omega⟩
  have k0 : (0 : Int32).toInt = 0 := rfl
  have k1 : (1 : Int32).toInt = 1 := rfl
  have k24 : (240 : Int32).toInt = 240 := rfl
  have k40 : (4096 : Int32).toInt = 4096 := rfl
  have k3 : (3000 : Int32).toInt = 3000 := rfl
  have nb1 : ¬ vp_nar .boolean 1 = 0 := by decide
  obtain ⟨W, eW⟩ : ∃ W, W = w.toNatClampNeg := ⟨_, rfl⟩
  have W2 : W < 2 := by rw [eW]; exact vp_lt wv
  have wb := vp_in_iff.mp wv
  have cw := cl_i wb.1
  rw [← eW] at h cw
  have e32 : w32 W = w := by
    unfold w32
    by_cases q : W = 0
    · rw [if_pos q]; exact t_eq.mpr (by rw [k0]; omega)
    · rw [if_neg q]; exact t_eq.mpr (by rw [k1]; omega)
  have w01 : w = 0 ∨ w = 1 := by rw [← e32]; exact w32_01 W
  obtain ⟨a0, av0, e68, pa0, st0, b0, mb0, first⟩ := start_ex cp w w01
  -- a row unpacked
  have unp : ∀ (A : Nat → gd) (M f : Nat) (y : gd) (i : Int32) (Fq : gd → Prop), M ≤ 3000 → f < M → i.toInt = f → TI z W A M y → (∀ y', TI z W A M y' → (y.1 121 = y'.1 121) → (y.1 134 = y'.1 134) → (y.1 135 = y'.1 135) → eqS (Sl (A f)) (A f) y' → Fq y') → MT G (D + 1) z_unpack 0 [(0, vr 0), (1, vr 133), (2, vi (240 * i))] [] y (rv Fq) := by
    intro A M f y i Fq hM hf hi q hq
    have b1 : (240 * i).toInt = 240 * i.toInt := by rw [t_mul (by rw [k24]; omega) (by rw [k24]; omega), k24]
    have cb : (240 * i).toNatClampNeg = 240 * f := by have := cl_i (a := 240 * i) (by omega); omega
    refine sp_unpack (Or.inl rfl) mk_133 ml_133 (240 * i) (by omega) (by omega) (by omega) (fun y' m' r' => ?_)
    rw [cb] at r'
    have q' := TI_mi q (mi_of m') rfl rfl rfl
    obtain ⟨p1, p2⟩ := q.2.2.2.2.2.2.2.2 f hf
    have rr := (q.2.2.2.2.2.2.1 f hf).2
    have av := (q.2.2.2.2.2.2.1 f hf).1.1
    refine hq y' q' (m'.2.1 121 (by decide) (by decide)).symm (m'.2.1 134 (by decide) (by decide)).symm (m'.2.1 135 (by decide) (by decide)).symm (un_eq ?_ ?_ (fun t ht => ((av.1).2 t ht).2.2.2.1) (fun k hk => by rw [r' k hk, rr k hk]))
    · exact prE_tr (prE_sy p1) (prE_mi (prE_rf z) q'.1 rfl rfl)
    · rw [q'.1.1 68 (by decide), p2]
  have hs_up : ∀ {y y' : gd} {M : Int}, y.1 134 = y'.1 134 → y.1 135 = y'.1 135 → hsR y M → hsR y' M := fun e1 e2 q => by unfold hsR at q ⊢; rw [← e1, ← e2]; exact q
  have m134 : ∀ {y y' : gd}, md rL rA y y' → y.1 134 = y'.1 134 ∧ y.1 135 = y'.1 135 ∧ y.1 121 = y'.1 121 := fun m => ⟨(m.2.1 134 (by decide) (by decide)).symm, (m.2.1 135 (by decide) (by decide)).symm, (m.2.1 121 (by decide) (by decide)).symm⟩
  have p320 : ∀ (A : Nat → gd) (M : Nat) (y : gd), M ≤ 3000 → TI z W A M y → MT G (D + 2) z_tryAll 320 [(0, vr 0), (1, vi w)] [] y (rv Fv) := by
    intro A M y hM q
    exact sg_tryAll_320 _ (sp_sortOutcomes w wv (by rw [← eW]; exact q.2.2.2.1) (by rw [← eW]; have := q.2.2.2.2.1; omega) (fun y' m' => rv_i (h A M y' hM (TI_mi q (mi_of m') rfl rfl rfl))))
  have p75 : ∀ (n : Nat) (A : Nat → gd) (M : Nat) (y : gd) (f : Int32), 0 ≤ f.toInt → f.toInt ≤ 3000 → 3000 - f.toInt ≤ n → 1 ≤ M → (M : Int) ≤ l.toInt → TI z W A M y → (y.1 121 W = 0 → hsR y M) → MT G (D + 2) z_tryAll 75 [(0, vr 0), (1, vi w), (2, vi l), (4, vi f)] [] y (rv Fv) := by
    intro n
    induction n with
    | zero =>
      intro A M y f f0 f3 hn M1 Ml q hs
      have e120 := q.2.2.1
      refine sg_tryAll_75 _ _ _ ⟨wv, ?_⟩
      rw [← eW, e120]
      exact ⟨fun _ => p320 A M y (by omega) q, fun c => absurd (t_le.mpr (by rw [ofN (by omega)]; omega)) c⟩
    | succ n ih =>
      intro A M y f f0 f3 hn M1 Ml q hs
      have e120 := q.2.2.1
      refine sg_tryAll_75 _ _ _ ⟨wv, ?_⟩
      rw [← eW, e120]
      refine ⟨fun _ => p320 A M y (by omega) q, fun c => ⟨wv, fun _ => p320 A M y (by omega) q, fun np => ?_⟩⟩
      rw [t_le, ofN (by omega)] at c
      have hs := hs np
      have cf := cl_i f0
      obtain ⟨fn, efn⟩ : ∃ fn, fn = f.toNatClampNeg := ⟨_, rfl⟩
      rw [← efn] at cf
      have fi : (f + 1).toInt = f.toInt + 1 := by rw [t_add (by omega) (by omega), k1]
      refine unp A M fn y f _ (by omega) (by omega) (by omega) q (fun y5 q5 e121 e134 e135 eq5 => ?_)
      have avf := (q5.2.2.2.2.2.2.1 fn (by omega)).1.1
      refine MT_up (by omega) (MTv_mono (avf.2.2.2.2.2 G y5 eq5) (fun y6 g6 => ?_))
      have q6 := TI_mi q5 (mi_of g6.2) rfl rfl rfl
      have e84 : y6.1 0 84 = (A fn).1 0 84 := g6.1 0 84 (Or.inr (Or.inl ⟨rfl, rfl⟩))
      have hs6 := hs_up (m134 g6.2).1 (m134 g6.2).2.1 (hs_up e134 e135 hs)
      have c84 := avf.2.2.2.2.1
      have c840 := avf.2.2.2.1
      obtain ⟨C84, eC⟩ : ∃ C, C = (A fn).1 0 84 := ⟨_, rfl⟩
      rw [e84, ← eC]
      rw [← eC] at c84 c840
      -- the choices of this state
      have p122 : ∀ (m : Nat) (A2 : Nat → gd) (M2 : Nat) (u : gd) (i : Int32), 0 ≤ i.toInt → C84.toInt - i.toInt ≤ m → 1 ≤ M2 → (M2 : Int) ≤ l.toInt → fn < M2 → A2 fn = A fn → TI z W A2 M2 u → (u.1 121 W = 0 → hsR u M2) → MT G (D + 2) z_tryAll 122 [(0, vr 0), (1, vi w), (2, vi l), (4, vi f), (5, vi C84), (6, vi i)] [] u (rv Fv) := by
        intro m
        induction m with
        | zero =>
          intro A2 M2 u i i0 hm m1 ml fm ea qu hu
          exact sg_tryAll_122 _ _ _ _ _ ⟨fun _ => ih A2 M2 u (f + 1) (by omega) (by omega) (by omega) m1 ml qu hu, fun c => absurd (t_le.mpr (by omega)) c⟩
        | succ m ihm =>
          intro A2 M2 u i i0 hm m1 ml fm ea qu hu
          refine sg_tryAll_122 _ _ _ _ _ ⟨fun _ => ih A2 M2 u (f + 1) (by omega) (by omega) (by omega) m1 ml qu hu, fun c => ⟨wv, ?_⟩⟩
          rw [t_le] at c
          rw [← eW]
          refine ⟨fun _ => ih A2 M2 u (f + 1) (by omega) (by omega) (by omega) m1 ml qu hu, fun np => ?_⟩
          have hu := hu np
          have ci := cl_i i0
          have iv : vp_in i 200 := by rw [vp_in_iff]; omega
          have ii : (i + 1).toInt = i.toInt + 1 := by rw [t_add (by omega) (by omega), k1]
          refine unp A2 M2 fn u f _ (by omega) fm (by omega) qu (fun u4 q4 e121 e134 e135 eq4 => ?_)
          rw [ea] at eq4
          refine MT_up (by omega) (MTv_mono (avf.2.2.2.2.2 G u4 eq4) (fun u5 g5 => ?_))
          have q5' := TI_mi q4 (mi_of g5.2) rfl rfl rfl
          have hu5 := hs_up (m134 g5.2).1 (m134 g5.2).2.1 (hs_up e134 e135 hu)
          have p5' : u5.1 121 W = 0 := by rw [← (m134 g5.2).2.2, ← e121]; exact np
          have lt84 : ((i.toNatClampNeg : Nat) : Int) < ((A fn).1 0 84).toInt := by rw [← eC]; omega
          obtain ⟨b, rb, wyb, trb⟩ := st_ex avf lt84
          obtain ⟨a', av', fb, mb⟩ := fc_ex rb wyb
          obtain ⟨u86, u87, u88, _, _⟩ := avf.2.2.1 i.toNatClampNeg lt84
          have e86 := g5.1 _ _ (Or.inr u86)
          have e87 := g5.1 _ _ (Or.inr u87)
          have e88 := g5.1 _ _ (Or.inr u88)
          have el5 : eqS (Sl (A fn)) (A fn) u5 := eqS_w (Sl_Sm _) g5.1
          rw [e86, e87, e88]
          -- the state come to: is it new?
          have p206 : ∀ v : gd, eqS (Sl b) b v → md rL rA u5 v → MT G (D + 2) z_tryAll 206 [(0, vr 0), (1, vi w), (2, vi l), (4, vi f), (5, vi C84), (6, vi i)] [] v (rv Fv) := by
            intro v ev mv
            have qv := TI_mi q5' (mi_of mv) rfl rfl rfl
            have hv := hs_up (m134 mv).1 (m134 mv).2.1 hu5
            have pv0 : v.1 121 W = 0 := by rw [← (m134 mv).2.2]; exact p5'
            have e120 := qv.2.2.1
            have oM := ofN (M := M2) (by omega)
            refine sg_tryAll_206 _ _ _ _ _ (sp_seek w wv (by rw [← eW, e120, oM]; omega) (by rw [← eW, e120, oM]; omega) (by rw [← eW, e120, oM]; exact hv) (fun t ht => by rw [cA ev (c := 80) (n := 6) (by decide) ht]; exact (rb.2 t ht).2.2.2.1) (fun r v1 mv1 lo alt => ⟨wv, ?_⟩))
            rw [← eW, e120, oM] at lo alt
            have cM : (Int32.ofNat M2).toNatClampNeg = M2 := by have := cl_i (a := Int32.ofNat M2) (by omega); omega
            rw [cM] at alt
            have e120' : v1.1 120 W = Int32.ofNat M2 := by rw [mv1.2.1 120 (by decide) (by decide), e120]
            have e121' : v1.1 121 W = 0 := by rw [mv1.2.1 121 (by decide) (by decide)]; exact pv0
            -- the rows before stay
            have qv1 : TI z W A2 M2 v1 := by
              obtain ⟨t1, t2, t3, t4, t5, t6, t7, t8, t9⟩ := qv
              have g := fun k (h0 : k ≠ 0) hk => mv1.2.1 k h0 hk
              refine ⟨mi_tr t1 (mi_of mv1) rfl rfl, ow_tr t2 (ow_mi (mi_of mv1) rfl), e120', by rw [g 123 (by decide) (by decide)]; exact t4, by rw [g 123 (by decide) (by decide)]; exact t5, ?_, fun s hs2 => ⟨?_, fun k hk => ?_⟩, t8, t9⟩
              · unfold fnd
                rw [g 126 (by decide) (by decide)]
                exact t6
              · have r9 := (t7 s hs2).1
                unfold TN at r9 ⊢
                rw [g 130 (by decide) (by decide), g 131 (by decide) (by decide), g 132 (by decide) (by decide)]
                exact r9
              · rw [lo _ (by omega)]
                exact (t7 s hs2).2 k hk
            rw [← eW, e120']
            have nx : ∀ (A3 : Nat → gd) (M3 : Nat) (u : gd), 1 ≤ M3 → (M3 : Int) ≤ l.toInt → fn < M3 → A3 fn = A fn → TI z W A3 M3 u → (u.1 121 W = 0 → hsR u M3) → MT G (D + 2) z_tryAll 122 [(0, vr 0), (1, vi w), (2, vi l), (4, vi f), (5, vi C84), (6, vi (i + 1))] [] u (rv Fv) := fun A3 M3 u h1 h2 h3 h4 h5 h6 => ihm A3 M3 u (i + 1) (by omega) (by omega) h1 h2 h3 h4 h5 h6
            rcases alt with ⟨er, row, hsn⟩ | ⟨⟨r0, r1⟩, hso⟩
            rotate_left
            · refine ⟨fun _ => nx A2 M2 v1 m1 ml fm ea qv1 (fun _ => hso), fun er => ?_⟩
              rw [er, oM] at r1
              omega
            refine ⟨fun ne => absurd er ne, fun _ => ⟨fun nl => ?_, fun el => ⟨wv, fun v18 e18 => ?_⟩⟩⟩
            rotate_left
            · -- the limit
              have m18 := md_a v1 121 W (vp_nar .boolean 1) (by decide)
              rw [← e18] at m18
              refine nx A2 M2 v18 m1 ml fm ea (TI_mi qv1 (mi_of m18) rfl rfl rfl) (fun q9 => ?_)
              rw [e18, si_get, if_pos ⟨rfl, rfl⟩] at q9
              exact absurd q9 nb1
            -- a new state
            have Ml' : (M2 : Int) < l.toInt := by
              by_cases q9 : (M2 : Int) = l.toInt
              · exact absurd (by rw [er]; exact t_eq.mpr (by rw [oM]; exact q9)) nl
              · omega
            have rv2 := tmul (k := 3000) (K := 3000) (N := 6000) (n := 3000) (i := r) rfl wv (by rw [er, oM]; omega) (by rw [er, oM]; omega) (by omega) (by omega) (by omega)
            have fv2 := tmul (k := 3000) (K := 3000) (N := 6000) (n := 3000) (i := f) rfl wv f0 (by omega) (by omega) (by omega) (by omega)
            rw [← eW, ← efn] at fv2
            rw [← eW, er, cM] at rv2
            rw [er, rv2.2, fv2.2]
            refine ⟨rv2.1, fun v7 e7 => ⟨rv2.1, fun v9 e9 => ⟨fv2.1, rv2.1, fun v12 e12 => ⟨wv, wv, fun v15 e15 => ?_⟩⟩⟩⟩
            have m7 := md_a v1 130 (3000 * W + M2) f (by decide)
            rw [← e7] at m7
            have m9 := md_a v7 131 (3000 * W + M2) i (by decide)
            rw [← e9] at m9
            have m12 := md_a v9 132 (3000 * W + M2) (v9.1 132 (3000 * W + fn) + 1) (by decide)
            rw [← e12] at m12
            have f120 : v12.1 120 W = Int32.ofNat M2 := by rw [m12.2.1 120 (by decide) (by decide), m9.2.1 120 (by decide) (by decide), m7.2.1 120 (by decide) (by decide), e120']
            rw [f120] at e15
            have m15 := md_a v12 120 W (Int32.ofNat M2 + 1) (by decide)
            rw [← e15] at m15
            have MM : md [] [120, 130, 131, 132] v1 v15 := md_tr (md_tr (L3 := []) (A3 := [130, 131, 132]) (md_tr (L3 := []) (A3 := [130, 131]) m7 m9 rfl rfl) m12 rfl rfl) m15 rfl rfl
            have o12 : ow W v1 v15 := by
              refine ow_tr (y := v12) (ow_tr (y := v9) (ow_tr (y := v7) ?_ ?_) ?_) ?_
              · rw [e7]; exact ow_si W2 (Or.inr (Or.inr ⟨Or.inl rfl, M2, by omega, rfl⟩))
              · rw [e9]; exact ow_si W2 (Or.inr (Or.inr ⟨Or.inr (Or.inl rfl), M2, by omega, rfl⟩))
              · rw [e12]; exact ow_si W2 (Or.inr (Or.inr ⟨Or.inr (Or.inr rfl), M2, by omega, rfl⟩))
              · rw [e15]; exact ow_si W2 (Or.inl ⟨Or.inl rfl, rfl⟩)
            have g120 : v15.1 120 W = Int32.ofNat (M2 + 1) := by
              rw [e15, si_get, if_pos ⟨rfl, rfl⟩]
              refine t_eq.mpr ?_
              rw [t_add (by omega) (by omega), oM, k1, ofN (by omega)]; omega
            have h130 : ∀ s : Nat, ¬ s = M2 → v15.1 130 (3000 * W + s) = v1.1 130 (3000 * W + s) := fun s hs2 => by rw [e15, si_cell (by decide), e12, si_cell (by decide), e9, si_cell (by decide), e7, si_ne 130 _ (by omega)]
            have h131 : ∀ s : Nat, ¬ s = M2 → v15.1 131 (3000 * W + s) = v1.1 131 (3000 * W + s) := fun s hs2 => by rw [e15, si_cell (by decide), e12, si_cell (by decide), e9, si_ne 131 _ (by omega), e7, si_cell (by decide)]
            have h132 : ∀ s : Nat, ¬ s = M2 → v15.1 132 (3000 * W + s) = v1.1 132 (3000 * W + s) := fun s hs2 => by rw [e15, si_cell (by decide), e12, si_ne 132 _ (by omega), e9, si_cell (by decide), e7, si_cell (by decide)]
            have i130 : v15.1 130 (3000 * W + M2) = f := by rw [e15, si_cell (by decide), e12, si_cell (by decide), e9, si_cell (by decide), e7, si_get, if_pos ⟨rfl, rfl⟩]
            have i131 : v15.1 131 (3000 * W + M2) = i := by rw [e15, si_cell (by decide), e12, si_cell (by decide), e9, si_get, if_pos ⟨rfl, rfl⟩]
            have i132 : v15.1 132 (3000 * W + M2) = v1.1 132 (3000 * W + fn) + 1 := by rw [e15, si_cell (by decide), e12, si_get, if_pos ⟨rfl, rfl⟩, e9, si_cell (by decide), e7, si_cell (by decide)]
            have j133 : v15.1 133 = v1.1 133 := MM.2.1 133 (by decide) (by decide)
            obtain ⟨A3, eA3⟩ : ∃ A3 : Nat → gd, A3 = fun s => if s = M2 then a' else A2 s := ⟨_, rfl⟩
            have A3n : ∀ s : Nat, ¬ s = M2 → A3 s = A2 s := fun s hs2 => by rw [eA3]; simp only [if_neg hs2]
            have A3m : A3 M2 = a' := by rw [eA3]; simp only [if_pos]
            have eva : eqS (Sl a') a' v := sl_sw mb ev
            -- the chain of far stays small
            have farb : ∀ s : Nat, s < M2 → 0 ≤ (v1.1 132 (3000 * W + s)).toInt ∧ (v1.1 132 (3000 * W + s)).toInt ≤ s := by
              intro s
              induction s using Nat.strongRecOn with
              | ind s ihs =>
                intro hs2
                obtain ⟨_, t2, t3, t4⟩ := (qv1.2.2.2.2.2.2.1 s hs2).1
                refine ⟨t2, ?_⟩
                by_cases q9 : s = 0
                · have := t3 q9; omega
                · obtain ⟨p, p1, p2, p3, _⟩ := t4 (by omega)
                  have := (ihs p p1 (by omega)).2
                  omega
            have ff := farb fn fm
            have j132 : (v15.1 132 (3000 * W + M2)).toInt = (v1.1 132 (3000 * W + fn)).toInt + 1 := by rw [i132, t_add (by omega) (by omega), k1]
            have q15 : TI z W A3 (M2 + 1) v15 := by
              obtain ⟨t1, t2, t3, t4, t5, t6, t7, t8, t9⟩ := qv1
              refine ⟨mi_tr t1 (mi_of MM) rfl rfl, ow_tr t2 o12, g120, by rw [MM.2.1 123 (by decide) (by decide)]; exact t4, by rw [MM.2.1 123 (by decide) (by decide)]; omega, ?_, fun s hs2 => ?_, ?_, fun s hs2 => ?_⟩
              · unfold fnd at t6 ⊢
                rw [MM.2.1 126 (by decide) (by decide)]
                exact fun g hg => (t6 g hg).imp id (fun w => by omega)
              · by_cases q9 : s = M2
                · rw [q9]
                  refine ⟨⟨by rw [A3m]; exact av', by omega, fun z9 => by omega, fun _ => ⟨fn, fm, by rw [i130]; omega, ?_, by rw [i131]; exact i0, ?_, ?_⟩⟩, fun k hk => ?_⟩
                  · rw [h132 fn (by omega)]; exact j132
                  · rw [i131, A3n fn (by omega), ea, ← eC]; omega
                  · rw [i131, A3n fn (by omega), ea, A3m]; exact ⟨b, trb, fb⟩
                  · rw [A3m, j133, row k hk]; exact pv_eq eva hk
                · obtain ⟨⟨u1, u2, u3, u4⟩, u5'⟩ := t7 s (by omega)
                  refine ⟨⟨by rw [A3n s q9]; exact u1, by rw [h132 s q9]; exact u2, by rw [h132 s q9]; exact u3, fun z9 => ?_⟩, fun k hk => by rw [A3n s q9, j133]; exact u5' k hk⟩
                  obtain ⟨p, p1, p2, p3, p4, p5, p6⟩ := u4 z9
                  refine ⟨p, p1, by rw [h130 s q9]; exact p2, by rw [h132 s q9, h132 p (by omega)]; exact p3, by rw [h131 s q9]; exact p4, by rw [h131 s q9, A3n p (by omega)]; exact p5, by rw [h131 s q9, A3n p (by omega), A3n s q9]; exact p6⟩
              · rw [A3n 0 (by omega)]; exact t8
              · by_cases q9 : s = M2
                · rw [q9, A3m]
                  have pz : prE z v := prE_mi (prE_rf z) qv.1 rfl rfl
                  have pav : prE a' v := prE_eqS eva
                  refine ⟨prE_tr pz (prE_sy pav), ?_⟩
                  rw [← cF eva (k := 68) (by decide), qv.1.1 68 (by decide)]
                · rw [A3n s q9]; exact t9 s (by omega)
            have e15s : eqS (Sl a') a' v15 := eqS_mi eva (mi_tr (L3 := [136]) (A3 := [133, 134, 135, 120, 130, 131, 132]) (mi_of mv1) (mi_of MM) rfl rfl) rfl rfl (Sl_Sm a')
            have o15 := q15.2.2.2.1
            have o15b : (v15.1 123 W).toInt ≤ M2 := by rw [MM.2.1 123 (by decide) (by decide)]; exact qv1.2.2.2.2.1
            refine sp_look w (Int32.ofNat M2) wv av' e15s (by omega) (M := ((M2 + 1 : Nat) : Int)) (by omega) (by rw [← eW]; exact q15.2.2.2.2.2.1) (by rw [← eW]; exact o15) (by rw [← eW]; omega) (by omega) (fun v16 k16 => ?_)
            rw [← eW] at k16
            obtain ⟨n1, n2, n3, n4, n5, n6⟩ := k16
            have g := fun k (h0 : k ≠ 0) hk => n1.2 k h0 hk
            refine nx A3 (M2 + 1) v16 (by omega) (by omega) (by omega) (by rw [A3n fn (by omega)]; exact ea) ?_ (fun _ => ?_)
            · obtain ⟨t1, t2, t3, t4, t5, t6, t7, t8, t9⟩ := q15
              refine ⟨mi_tr t1 n1 rfl rfl, ow_tr t2 n3, by rw [g 120 (by decide) (by decide)]; exact t3, n5, by omega, n4, fun s hs2 => ?_, t8, t9⟩
              have r9 := t7 s hs2
              unfold TR TN at r9 ⊢
              rw [g 130 (by decide) (by decide), g 131 (by decide) (by decide), g 132 (by decide) (by decide), g 133 (by decide) (by decide)]
              exact r9
            · refine hs_up (y := v1) ?_ ?_ hsn
              · rw [g 134 (by decide) (by decide), MM.2.1 134 (by decide) (by decide)]
              · rw [g 135 (by decide) (by decide), MM.2.1 135 (by decide) (by decide)]
          refine ⟨iv, fun cl => ⟨iv, iv, ?_⟩, fun cl => ⟨iv, iv, ?_⟩⟩
          · exact MT_up (by omega) (MTv_mono (trb.1 cl G u5 el5) (fun v q9 => p206 v q9.1 q9.2.1))
          · exact MT_up (by omega) (MTv_mono (trb.2 cl G u5 el5) (fun v q9 => p206 v q9.1 q9.2))
      exact p122 84 A M y6 0 (by decide) (by rw [k0]; omega) M1 Ml (by omega) rfl q6 (fun _ => hs6)
  -- the beginning
  refine sg_tryAll_0 _ _ (sp_forgetTrying w wv (fun y1 m1 o1 n120 n121 n123 nf => ?_))
  rw [← eW] at o1 n120 n121 n123 nf
  have loop : ∀ (n : Nat) (y : gd) (i : Int32), 0 ≤ i.toInt → i.toInt ≤ 4096 → 4096 - i.toInt ≤ n → md [] [135] y1 y → (∀ k : Nat, (k : Int) < i.toInt → y.1 135 k = -1) → MT G (D + 2) z_tryAll 7 [(0, vr 0), (1, vi w), (2, vi l), (3, vi i)] [] y (rv Fv) := by
    have last : ∀ y : gd, md [] [135] y1 y → (∀ k : Nat, k < 4096 → y.1 135 k = -1) → MT G (D + 1) z_setFirst 0 [(0, vr 0)] [] y (rv (fun x2 => MT G (D + 1) z_seek 0 [(0, vr 0), (1, vi w)] [] x2 (ri (fun r4 x3 => vp_in w 2 ∧ (∀ x6 : gd, x6 = si x3 120 (w : Int32).toNatClampNeg 1 → vp_in (3000 * w) 6000 ∧ (∀ x8 : gd, x8 = si x6 130 (3000 * w : Int32).toNatClampNeg (-1) → vp_in (3000 * w) 6000 ∧ (∀ x10 : gd, x10 = si x8 132 (3000 * w : Int32).toNatClampNeg 0 → MT G (D + 1) z_look 0 [(0, vr 0), (1, vi w), (2, vi 0)] [] x10 (rv (fun x11 => MT G (D + 2) z_tryAll 75 [(0, vr 0), (1, vi w), (2, vi l), (4, vi 0)] [] x11 (rv Fv))))))))))  := by
      intro y my hh
      have mzy : mi [] [120, 121, 122, 123, 124, 125, 126, 127, 128, 135] z y := mi_tr (mi_of m1) (mi_of my) rfl rfl
      have py : prE z y := prE_mi (prE_rf z) mzy rfl rfl
      have wy' : y.1 0 68 = w := by rw [mzy.1 68 (by decide)]; exact hw
      refine MTv_mono (first G (D + 1) y (by omega) py wy') (fun y2 g2 => ?_)
      have e2 : eqS (Sl a0) a0 y2 := sl_sw mb0 g2.1
      have y120 : y2.1 120 W = 0 := by rw [g2.2.2.1 120 (by decide) (by decide), my.2.1 120 (by decide) (by decide)]; exact n120
      have y121 : y2.1 121 W = 0 := by rw [g2.2.2.1 121 (by decide) (by decide), my.2.1 121 (by decide) (by decide)]; exact n121
      have y123 : y2.1 123 W = 0 := by rw [g2.2.2.1 123 (by decide) (by decide), my.2.1 123 (by decide) (by decide)]; exact n123
      have y126 : ∀ f : Nat, f < 11 → y2.1 126 (11 * W + f) = -1 := fun f hf => by rw [g2.2.2.1 126 (by decide) (by decide), my.2.1 126 (by decide) (by decide)]; exact nf f hf
      have y135 : y2.1 135 = y.1 135 := g2.2.2.1 135 (by decide) (by decide)
      refine sp_seek w wv (by rw [← eW, y120]; decide) (by rw [← eW, y120]; decide) (by rw [← eW, y120]; exact ⟨fun k hk => Or.inl (by rw [y135]; exact hh k hk), fun s hs2 => by rw [k0] at hs2; omega⟩) (fun t ht => by rw [cA e2 (c := 80) (n := 6) (by decide) ht]; exact (av0.1.2 t ht).2.2.2.1) (fun r y3 m3 lo alt => ⟨wv, fun y6 e6 => ?_⟩)
      rw [← eW, y120] at alt
      have z0' : (0 : Int32).toNatClampNeg = 0 := rfl
      rcases alt with ⟨er, row, hsn⟩ | ⟨⟨r0, r1⟩, _⟩
      rotate_left
      · rw [k0] at r1; omega
      rw [z0'] at row
      have bw : (3000 * w).toInt = 3000 * w.toInt := by rw [t_mul (by rw [k3]; omega) (by rw [k3]; omega), k3]
      have bv : vp_in (3000 * w) 6000 := by rw [vp_in_iff]; omega
      have cb : (3000 * w).toNatClampNeg = 3000 * W + 0 := by have := cl_i (a := 3000 * w) (by omega); omega
      rw [cb]
      rw [← eW] at e6
      refine ⟨bv, fun y8 e8 => ⟨bv, fun y10 e10 => ?_⟩⟩
      have m6 := md_a y3 120 W 1 (by decide)
      rw [← e6] at m6
      have m8 := md_a y6 130 (3000 * W + 0) (-1) (by decide)
      rw [← e8] at m8
      have m10 := md_a y8 132 (3000 * W + 0) 0 (by decide)
      rw [← e10] at m10
      have MM : md [] [120, 130, 132] y3 y10 := md_tr (md_tr (L3 := []) (A3 := [120, 130]) m6 m8 rfl rfl) m10 rfl rfl
      have o310 : ow W y3 y10 := by
        refine ow_tr (y := y8) (ow_tr (y := y6) ?_ ?_) ?_
        · rw [e6]; exact ow_si W2 (Or.inl ⟨Or.inl rfl, rfl⟩)
        · rw [e8]; exact ow_si W2 (Or.inr (Or.inr ⟨Or.inl rfl, 0, by omega, rfl⟩))
        · rw [e10]; exact ow_si W2 (Or.inr (Or.inr ⟨Or.inr (Or.inr rfl), 0, by omega, rfl⟩))
      have oz3 : ow W z y3 := ow_tr (ow_tr (ow_tr o1 (ow_mi (mi_of my) rfl)) (ow_mi (mi_of g2.2) rfl)) (ow_mi (mi_of m3) rfl)
      have mz10 : mi tL tA' z y10 := mi_tr (mi_tr (L3 := tL) (A3 := tA') (mi_tr (L3 := tL) (A3 := tA') mzy (mi_of g2.2) rfl rfl) (mi_of m3) rfl rfl) (mi_of MM) rfl rfl
      have h132 : y10.1 132 (3000 * W + 0) = 0 := by rw [e10, si_get, if_pos ⟨rfl, rfl⟩]
      have h120 : y10.1 120 W = Int32.ofNat 1 := by rw [m10.2.1 120 (by decide) (by decide), m8.2.1 120 (by decide) (by decide), e6, si_get, if_pos ⟨rfl, rfl⟩]; rfl
      have h123 : y10.1 123 W = 0 := by rw [MM.2.1 123 (by decide) (by decide), m3.2.1 123 (by decide) (by decide)]; exact y123
      have h126 : fnd y10 W 1 := fun f hf => Or.inl (by rw [MM.2.1 126 (by decide) (by decide), m3.2.1 126 (by decide) (by decide)]; exact y126 f hf)
      have q10 : TI z W (fun _ => a0) 1 y10 := by
        refine ⟨mz10, ow_tr oz3 o310, h120, by rw [h123]; decide, by rw [h123]; decide, h126, fun s hs2 => ⟨⟨av0, ?_, fun _ => ?_, fun z9 => by omega⟩, fun k hk => ?_⟩, by rw [e32]; exact st0, fun s hs2 => ⟨pa0, by rw [hw]; exact e68⟩⟩
        · rw [show s = 0 by omega, h132]; decide
        · rw [show s = 0 by omega, h132]; rfl
        · rw [show s = 0 by omega, MM.2.1 133 (by decide) (by decide), row k hk]
          exact pv_eq e2 hk
      have e10s : eqS (Sl a0) a0 y10 := eqS_mi e2 (mi_tr (L3 := [136]) (A3 := [133, 134, 135, 120, 130, 132]) (mi_of m3) (mi_of MM) rfl rfl) rfl rfl (Sl_Sm a0)
      refine sp_look w 0 wv av0 e10s (by decide) (M := 1) (by decide) (by rw [← eW]; exact h126) (by rw [← eW, h123]; decide) (by rw [← eW, h123]; decide) (by omega) (fun y11 k11 => ?_)
      rw [← eW] at k11
      obtain ⟨n1, n2, n3, n4, n5, n6⟩ := k11
      rw [h123, k0] at n6
      have g := fun k (h0 : k ≠ 0) hk => n1.2 k h0 hk
      refine p75 3000 (fun _ => a0) 1 y11 0 (by decide) (by decide) (by decide) (by omega) (by omega) ?_ (fun _ => ?_)
      · obtain ⟨t1, t2, t3, t4, t5, t6, t7, t8, t9⟩ := q10
        refine ⟨mi_tr t1 n1 rfl rfl, ow_tr t2 n3, by rw [g 120 (by decide) (by decide)]; exact t3, n5, by omega, n4, fun s hs2 => ?_, t8, t9⟩
        have r9 := t7 s hs2
        unfold TR TN at r9 ⊢
        rw [g 130 (by decide) (by decide), g 131 (by decide) (by decide), g 132 (by decide) (by decide), g 133 (by decide) (by decide)]
        exact r9
      · rw [k0] at hsn
        refine hs_up (y := y3) ?_ ?_ hsn
        · rw [g 134 (by decide) (by decide), MM.2.1 134 (by decide) (by decide)]
        · rw [g 135 (by decide) (by decide), MM.2.1 135 (by decide) (by decide)]
    intro n
    induction n with
    | zero =>
      intro y i i0 i1 hn my hh
      exact sg_tryAll_7 _ _ _ ⟨fun _ => last y my (fun k hk => hh k (by omega)), fun c => absurd (t_le.mpr (by rw [k40]; omega)) c⟩
    | succ n ih =>
      intro y i i0 i1 hn my hh
      refine sg_tryAll_7 _ _ _ ⟨fun c => last y my (fun k hk => hh k (by rw [t_le, k40] at c; omega)), fun c => ?_⟩
      rw [t_le, k40] at c
      have ci := cl_i i0
      have ii : (i + 1).toInt = i.toInt + 1 := by rw [t_add (by omega) (by omega), k1]
      refine ⟨by rw [vp_in_iff]; omega, fun y13 e13 => ?_⟩
      have m13 := md_a y 135 i.toNatClampNeg (-1) (by decide)
      rw [← e13] at m13
      refine ih y13 (i + 1) (by omega) (by omega) (by omega) (md_tr my m13 rfl rfl) (fun k hk => ?_)
      rw [e13, si_get]
      by_cases q : (135 : Nat) = 135 ∧ k = i.toNatClampNeg
      · rw [if_pos q]
      · rw [if_neg q]; exact hh k (by omega)
  exact loop 4096 y1 0 (by decide) (by decide) (by decide) (md_w (md_rf y1) (by decide) (by decide)) (fun k hk => by rw [k0] at hk; omega)
end TRY
