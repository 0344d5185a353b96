theorem sp_readDef {G : mG} {D : Nat} {x : gd} {Fv : gd → Prop} (hD : 86 ≤ D) (pn : PN x) (pg : PG x) (hb : (x.1 0 9).toInt = 0) (h : ∀ x', QD x x' → Fv x') : MT G D z_readDef 0 [(0, vr 0)] [] x (rv Fv) := by
  obtain ⟨D, rfl⟩ : ∃ m, D = m + 86 := ⟨D - 86, by omega⟩
  have k0 : (0 : Int32).toInt = 0 := rfl
  have k1 : (1 : Int32).toInt = 1 := rfl
  have k4 : (4 : Int32).toInt = 4 := rfl
  have k6 : (6 : Int32).toInt = 6 := rfl
  have pv := PN_v pn
  obtain ⟨x13, xc, xg, xt, xp⟩ := id pg
  obtain ⟨g1, g2, g3, g4, g5, g6, g7, g8, g9, g10, g11, g12⟩ := id xg
  have ne0 : ∀ {y : gd}, ¬ y.1 0 9 = 0 → ¬ (y.1 0 9).toInt = 0 := fun c q => c (t_eq.mpr q)
  have p99 : ∀ y : gd, SS x y → ((y.1 0 9).toInt = 0 → ¬ x.1 0 24 = 6) → MT G (D + 86) z_readDef 99 [(0, vr 0)] [] y (rv Fv) := by
    intro y sy hy
    refine sg_readDef_99 (sp_step sy.2.1 (fun y1 s1 t1 => sp_passName s1.2.1 (fun y2 s2 t2 => sp_pass _ s2.2.1 (fun z s3 t3 => ⟨fun c => ?_, fun c => ?_⟩))))
    · exact rv_i (h _ (QD_bad (SS_tr (SS_tr (SS_tr sy s1) s2) s3) (ne0 c)))
    have sz := SS_tr (SS_tr (SS_tr sy s1) s2) s3
    have bz : (z.1 0 9).toInt = 0 := by rw [c]; rfl
    have pz := PG_ss sz pg
    have gz := pz.2.2.1
    have e24x : z.1 0 24 = x.1 0 24 := sz.1.1 24 (by decide)
    have n6 := hy (s1.2.2.2.2 (s2.2.2.2.2 (s3.2.2.2.2 bz)))
    rw [t_eq, k6, ← e24x] at n6
    have st1 := t1 (s2.2.2.2.2 (s3.2.2.2.2 bz))
    have st2 := t2 (s3.2.2.2.2 bz)
    have st3 := t3 bz
    have st0 := sy.2.2.1
    refine sp_tell _ _ _ _ _ _ (GB_v gz) (fun w td y7 e7 => rv_i (h _ ?_))
    obtain ⟨b1, b2, b3, b4, b5, b6, b7, b8, b9, b10, b11, b12⟩ := id gz
    have mw := td.1
    have m7 := md_f w 24 (w.1 0 24 + 1)
    rw [← e7] at m7
    have mzy : md [24, 28] [30, 31, 32, 33, 34, 35] z y7 := md_tr mw m7 rfl rfl
    have e8 : y7.1 0 8 = z.1 0 8 := mzy.1 8 (by decide)
    have e9 : y7.1 0 9 = z.1 0 9 := mzy.1 9 (by decide)
    have e13 : y7.1 0 13 = z.1 0 13 := mzy.1 13 (by decide)
    have e23 : y7.1 0 23 = z.1 0 23 := mzy.1 23 (by decide)
    have e24 : (y7.1 0 24).toInt = (z.1 0 24).toInt + 1 := by rw [e7, si_get, if_pos ⟨rfl, rfl⟩, mw.1 24 (by decide), t_add (by omega) (by omega), k1]
    have e25 : y7.1 0 25 = z.1 0 25 := mzy.1 25 (by decide)
    have e26 : y7.1 0 26 = z.1 0 26 := mzy.1 26 (by decide)
    have e27 : y7.1 0 27 = z.1 0 27 := mzy.1 27 (by decide)
    obtain ⟨n28, nT⟩ := tell_tE td gz (y := y7) (fun c h1 h2 => m7.2.1 c (by omega) (by intro q; cases q)) (m7.1 28 (by decide)) (by rw [e23]; exact Int.le_refl _) (by omega) (by rw [e25]; exact Int.le_refl _) pz.2.2.2.1 ⟨PN_v s1.2.1, Or.inr (Or.inl ⟨rfl, b3, by omega⟩), Or.inl rfl⟩
    refine ⟨md_tr sz.1 mzy rfl rfl, ⟨by rw [e8]; exact sz.2.1.1, by rw [e8]; exact sz.2.1.2.1, by rw [e9]; exact sz.2.1.2.2.1, TX_md mzy (by decide) (by decide) (by decide) (by decide) sz.2.1.2.2.2⟩, fun _ => ⟨⟨by rw [e13]; exact pz.1, by unfold cr; rw [e8, e13]; exact pz.2.1, ?_, nT, ?_⟩, by rw [e8]; omega⟩⟩
    · unfold GB
      rw [e23, e25, e26, e27]
      exact ⟨b1, b2, by omega, by omega, b5, b6, b7, b8, b9, b10, by omega, by omega⟩
    · exact PT_keep (NN_md mzy (by decide) (by intro c h1 h2 q; simp only [List.mem_cons, List.not_mem_nil, or_false] at q; omega)) (by rw [e8]; exact Int.le_refl _) e25 e26 e27 (mzy.2.1 39 (by decide) (by decide)) (mzy.2.1 40 (by decide) (by decide)) (mzy.2.1 41 (by decide) (by decide)) pz.2.2.2.2
  have p163 : ∀ y : gd, SS x y → ((y.1 0 9).toInt = 0 → ¬ x.1 0 25 = 6) → MT G (D + 86) z_readDef 163 [(0, vr 0)] [] y (rv Fv) := by
    intro y sy hy
    have tl : ∀ (r2 : Int32) (y1 : gd), SS y y1 → MT G (D + 85) z_pass 0 [(0, vr 0), (1, vi 37)] [] y1 (rv (fun x3 => MT G (D + 85) z_passName 0 [(0, vr 0)] [] x3 (ri (fun r5 x4 => (∀ x6 : gd, x6 = si x4 0 21 0 → (∀ x7 : gd, x7 = si x6 0 20 0 → MT G (D + 85) z_readBlock 0 [(0, vr 0)] [] x7 (ri (fun r9 x8 => ((¬ ((x8.1 0 9) = (0 : Int32)) → rv Fv none x8) ∧ ((x8.1 0 9) = (0 : Int32) → MT G (D + 85) z_tell 0 [(0, vr 0), (1, vi r5), (2, vi 2), (3, vi (x8.1 0 25)), (4, vi 1), (5, vi 0), (6, vi (-1))] [] x8 (rv (fun x11 => vp_in (x11.1 0 25) 6 ∧ (∀ x13 : gd, x13 = si x11 38 (x11.1 0 25 : Int32).toNatClampNeg (vp_nar .boolean r2) → vp_in (x13.1 0 25) 6 ∧ (∀ x15 : gd, x15 = si x13 39 (x13.1 0 25 : Int32).toNatClampNeg r9 → (∀ x16 : gd, x16 = si x15 0 25 ((x15.1 0 25) + 1) → rv Fv none x16))))))))))))))) := by
      intro r2 y1 s1
      refine sp_pass _ s1.2.1 (fun y3 s3 t3 => sp_passName s3.2.1 (fun y4 s4 t4 y6 e6 y7 e7 => ?_))
      have s14 := SS_tr s3 s4
      have sx4 := SS_tr (SS_tr sy s1) s14
      have p4 := PG_ss sx4 pg
      have m6 := md_f y4 21 0
      rw [← e6] at m6
      have m7 := md_f y6 20 0
      rw [← e7] at m7
      have m47 : md [20, 21] [] y4 y7 := md_tr m6 m7 rfl rfl
      have a8 : y7.1 0 8 = y4.1 0 8 := m47.1 8 (by decide)
      have a9 : y7.1 0 9 = y4.1 0 9 := m47.1 9 (by decide)
      have a13 : y7.1 0 13 = y4.1 0 13 := m47.1 13 (by decide)
      have a20 : y7.1 0 20 = 0 := by rw [e7, si_get, if_pos ⟨rfl, rfl⟩]
      have a21 : y7.1 0 21 = 0 := by rw [m7.1 21 (by decide), e6, si_get, if_pos ⟨rfl, rfl⟩]
      have p7 : PN y7 := ⟨by rw [a8]; exact sx4.2.1.1, by rw [a8]; exact sx4.2.1.2.1, by rw [a9]; exact sx4.2.1.2.2.1, TX_md m47 (by decide) (by decide) (by decide) (by decide) sx4.2.1.2.2.2⟩
      have c7 : cr y7 = cr y4 := by unfold cr; rw [a8, a13]
      have p4c := p4.2.1
      have lt7 : LT y7 := by unfold LT; rw [a21]; exact ⟨by decide, by decide⟩
      refine sp_readBlock 16 (sp_readS 16) (by omega) ⟨p7, by rw [a13]; exact p4.1, by omega, by decide, fun _ => ⟨by rw [a20]; rfl, by omega⟩⟩ (fun _ => lt7) (fun r9 z hz => ?_)
      obtain ⟨rz, -, -, -, okz⟩ := hz
      have mxz : md [8, 9, 10, 13, 20, 21] [15, 16, 17, 18, 19, 20] x z := md_tr (md_tr (L3 := [8, 9, 10, 20, 21]) (A3 := []) sx4.1 m47 rfl rfl) rz.1 rfl rfl
      refine ⟨fun c => rv_i (h _ ⟨md_w mxz (by decide) (by decide), rz.2.1, fun q => absurd q (ne0 c)⟩), fun c => ?_⟩
      have bz : (z.1 0 9).toInt = 0 := by rw [c]; rfl
      obtain ⟨o1, o2, o3, o4, o5, o6⟩ := okz bz
      have b7 := rz.2.2.2.1 bz
      rw [a9] at b7
      have n6 := hy (s1.2.2.2.2 (s14.2.2.2.2 b7))
      have e25x : z.1 0 25 = x.1 0 25 := mxz.1 25 (by decide)
      rw [t_eq, k6] at n6
      have st3 := t3 (s4.2.2.2.2 b7)
      have st4 := t4 b7
      have st0 := (SS_tr sy s1).2.2.1
      have f23 : z.1 0 23 = x.1 0 23 := mxz.1 23 (by decide)
      have f24 : z.1 0 24 = x.1 0 24 := mxz.1 24 (by decide)
      have f26 : z.1 0 26 = x.1 0 26 := mxz.1 26 (by decide)
      have f27 : z.1 0 27 = x.1 0 27 := mxz.1 27 (by decide)
      have f28 : z.1 0 28 = x.1 0 28 := mxz.1 28 (by decide)
      have gz : GB z := by unfold GB; rw [f23, f24, e25x, f26, f27, f28]; exact xg
      have nn47 : NN y4 y7 := NN_md m47 (by decide) (by intro c h1 h2 q; cases q)
      have nn4z : NN y4 z := ⟨by have := rz.2.2.2.2.1; rw [← a13]; exact this, fun c h1 h2 j hj => by rw [rz.2.2.2.2.2 c h1 h2 j (by rw [a13]; exact hj)]; exact nn47.2 c h1 h2 j hj⟩
      have m4z : md [8, 9, 10, 13, 20, 21] [15, 16, 17, 18, 19, 20] y4 z := md_tr m47 rz.1 rfl rfl
      have tz : ∀ j : Nat, (j : Int) < (z.1 0 28).toInt → tE z j := fun j hj => by
        rw [f28] at hj
        refine tE_keep (fun c h1 h2 i _ => ?_) (by rw [f23]; exact Int.le_refl _) (by rw [f24]; exact Int.le_refl _) (by rw [e25x]; exact Int.le_refl _) hj (xt j hj)
        rw [mxz.2.1 c (by omega) (by intro q; simp only [List.mem_cons, List.not_mem_nil, or_false] at q; omega)]
      have ptz : PT (y4.1 0 8).toInt z := PT_keep nn4z (Int.le_refl _) (m4z.1 25 (by decide)) (m4z.1 26 (by decide)) (m4z.1 27 (by decide)) (m4z.2.1 39 (by decide) (by decide)) (m4z.2.1 40 (by decide) (by decide)) (m4z.2.1 41 (by decide) (by decide)) p4.2.2.2.2
      refine sp_tell _ _ _ _ _ _ (GB_v gz) (fun w td => ?_)
      have mw := td.1
      have w25 : w.1 0 25 = z.1 0 25 := mw.1 25 (by decide)
      have hv : vp_in (w.1 0 25) 6 := by rw [w25, vp_in_iff, e25x]; omega
      refine ⟨hv, fun y13 e13 => ?_⟩
      have m13 := md_a w 38 (w.1 0 25).toNatClampNeg (vp_nar .boolean r2) (by decide)
      rw [← e13] at m13
      have v25 : y13.1 0 25 = w.1 0 25 := m13.1 25 (by decide)
      refine ⟨by rw [v25]; exact hv, fun y15 e15 y16 e16 => rv_i (h _ ?_)⟩
      have m15 := md_a y13 39 (y13.1 0 25).toNatClampNeg r9 (by decide)
      rw [← e15] at m15
      have u25 : y15.1 0 25 = y13.1 0 25 := m15.1 25 (by decide)
      have m16 := md_f y15 25 (y15.1 0 25 + 1)
      rw [← e16] at m16
      have mw13 : md [28] [30, 31, 32, 33, 34, 35, 38] z y13 := md_tr mw m13 rfl rfl
      have mw15 : md [28] [30, 31, 32, 33, 34, 35, 38, 39] z y15 := md_tr mw13 m15 rfl rfl
      have mzy : md [25, 28] [30, 31, 32, 33, 34, 35, 38, 39] z y16 := md_tr mw15 m16 rfl rfl
      have mwy : md [25] [38, 39] w y16 := md_tr (md_tr (L3 := []) (A3 := [38, 39]) m13 m15 rfl rfl) m16 rfl rfl
      have e8 : y16.1 0 8 = z.1 0 8 := mzy.1 8 (by decide)
      have e9 : y16.1 0 9 = z.1 0 9 := mzy.1 9 (by decide)
      have e13' : y16.1 0 13 = z.1 0 13 := mzy.1 13 (by decide)
      have e23 : y16.1 0 23 = z.1 0 23 := mzy.1 23 (by decide)
      have e24 : y16.1 0 24 = z.1 0 24 := mzy.1 24 (by decide)
      have e25 : (y16.1 0 25).toInt = (z.1 0 25).toInt + 1 := by rw [e16, si_get, if_pos ⟨rfl, rfl⟩, u25, v25, w25, e25x, t_add (by omega) (by omega), k1]
      have e26 : y16.1 0 26 = z.1 0 26 := mzy.1 26 (by decide)
      have e27 : y16.1 0 27 = z.1 0 27 := mzy.1 27 (by decide)
      have z25 : (z.1 0 25).toInt = (x.1 0 25).toInt := by rw [e25x]
      obtain ⟨b1, b2, b3, b4, b5, b6, b7', b8, b9, b10, b11, b12⟩ := id gz
      obtain ⟨n28, nT⟩ := tell_tE td gz (y := y16) (fun c h1 h2 => mwy.2.1 c (by omega) (by intro q; simp only [List.mem_cons, List.not_mem_nil, or_false] at q; omega)) (mwy.1 28 (by decide)) (by rw [e23]; exact Int.le_refl _) (by rw [e24]; exact Int.le_refl _) (by omega) tz ⟨PN_v s3.2.1, Or.inr (Or.inr ⟨rfl, b5, by omega⟩), Or.inl rfl⟩
      have nzy : NN z y16 := NN_md mzy (by decide) (by intro c h1 h2 q; simp only [List.mem_cons, List.not_mem_nil, or_false] at q; omega)
      have n8 : (y7.1 0 8).toInt = (y4.1 0 8).toInt := by rw [a8]
      have cz : 0 ≤ cr z := by omega
      have l7 : (y7.1 0 21).toInt = 0 := by rw [a21]; rfl
      have lz := o5.2
      have hm : (0 : Int) ≤ (y7.1 0 13).toInt := by rw [a13]; exact p4.1
      have o9 := vB_keep hm (l := r9.toInt) ⟨NK_rfl z, fun _ _ _ _ => rfl⟩ (fun _ _ _ _ g => vS_low hm g) (Int.le_refl _) o6
      refine ⟨md_tr mxz mzy rfl rfl, ⟨by rw [e8]; exact rz.2.1.1, by rw [e8]; exact rz.2.1.2.1, by rw [e9]; exact rz.2.1.2.2.1, TX_md mzy (by decide) (by decide) (by decide) (by decide) rz.2.1.2.2.2⟩, fun _ => ⟨⟨by rw [e13']; have := rz.2.2.2.2.1; omega, by unfold cr; rw [e8, e13']; exact cz, ?_, nT, ?_⟩, by rw [e8]; omega⟩⟩
      · unfold GB
        rw [e23, e24, e26, e27]
        exact ⟨b1, b2, b3, b4, by omega, by omega, b7', b8, b9, b10, by omega, by omega⟩
      · refine PT_th ptz nzy b5 e25 (e := r9) (fun j => ?_) e26 (mzy.2.1 40 (by decide) (by decide)) e27 (mzy.2.1 41 (by decide) (by decide)) (vB_mono (Nat.le_refl _) (by omega) o9) (by rw [e8]; omega)
        rw [m16.2.1 39 (by decide) (by intro q; cases q), e15, si_get, v25, w25]
        by_cases q : j = (z.1 0 25).toNatClampNeg
        · rw [if_pos ⟨rfl, q⟩, if_pos q]
        · rw [if_neg (fun z => q z.2), if_neg q, mw13.2.1 39 (by decide) (by decide)]
    exact sg_readDef_163 (sp_take _ sy.2.1 (tl 0 y (SS_rf sy.2.1)) (fun y1 _ s1 _ => tl 1 y1 s1))
  have p279 : ∀ (l1 : Int32) (y : gd), SS x y → ((y.1 0 9).toInt = 0 → (l1 = 11 → ¬ x.1 0 26 = 4) ∧ (¬ l1 = 11 → ¬ x.1 0 27 = 4)) → MT G (D + 86) z_readDef 279 [(0, vr 0), (1, vi l1)] [] y (rv Fv) := by
    intro l1 y sy hy
    refine sg_readDef_279 _ (sp_step sy.2.1 (fun y1 s1 t1 y2 e2 => ?_))
    have sx1 := SS_tr sy s1
    have p1 := PG_ss sx1 pg
    have m2 := md_f y1 20 0
    rw [← e2] at m2
    have a8 : y2.1 0 8 = y1.1 0 8 := m2.1 8 (by decide)
    have a9 : y2.1 0 9 = y1.1 0 9 := m2.1 9 (by decide)
    have a13 : y2.1 0 13 = y1.1 0 13 := m2.1 13 (by decide)
    have a20 : y2.1 0 20 = 0 := by rw [e2, si_get, if_pos ⟨rfl, rfl⟩]
    have p2 : PN y2 := ⟨by rw [a8]; exact sx1.2.1.1, by rw [a8]; exact sx1.2.1.2.1, by rw [a9]; exact sx1.2.1.2.2.1, TX_md m2 (by decide) (by decide) (by decide) (by decide) sx1.2.1.2.2.2⟩
    have c2 : cr y2 = cr y1 := by unfold cr; rw [a8, a13]
    have p1c := p1.2.1
    refine sp_E 16 (g := 0) _ _ (by omega) ⟨p2, by rw [a13]; exact p1.1, by omega, by decide, fun _ => ⟨by rw [a20]; rfl, by omega⟩⟩ (fun r4 y3 h3 => ?_)
    obtain ⟨r3, -, -, -, -, ok3⟩ := h3
    refine sp_pass _ r3.2.1 (fun z s5 t5 => ?_)
    have c5 := (cr_ss s5).1
    have rz : RP y2 z := RP_tr r3 (RP_ss s5)
    have m1z : md [8, 9, 10, 13, 20, 21] [15, 16, 17, 18, 19, 20] y1 z := md_tr m2 rz.1 rfl rfl
    have mxz : md [8, 9, 10, 13, 20, 21] [15, 16, 17, 18, 19, 20] x z := md_tr sx1.1 m1z rfl rfl
    have f23 : z.1 0 23 = x.1 0 23 := mxz.1 23 (by decide)
    have f24 : z.1 0 24 = x.1 0 24 := mxz.1 24 (by decide)
    have f25 : z.1 0 25 = x.1 0 25 := mxz.1 25 (by decide)
    have f26 : z.1 0 26 = x.1 0 26 := mxz.1 26 (by decide)
    have f27 : z.1 0 27 = x.1 0 27 := mxz.1 27 (by decide)
    have f28 : z.1 0 28 = x.1 0 28 := mxz.1 28 (by decide)
    have bad : ¬ z.1 0 9 = 0 → QD x z := fun c => ⟨md_w mxz (by decide) (by decide), rz.2.1, fun q => absurd q (ne0 c)⟩
    -- what holds where all went well
    have good : (z.1 0 9).toInt = 0 → ((l1 = 11 → ¬ x.1 0 26 = 4) ∧ (¬ l1 = 11 → ¬ x.1 0 27 = 4)) ∧ (x.1 0 8).toInt + 1 ≤ (z.1 0 8).toInt ∧ 0 ≤ (z.1 0 13).toInt ∧ 0 ≤ cr z ∧ GB z ∧ (∀ j : Nat, (j : Int) < (z.1 0 28).toInt → tE z j) ∧ PT (y1.1 0 8).toInt z ∧ ∃ s : Nat, vE z s s 17 r4 ∧ (y1.1 0 8).toInt + s ≤ (z.1 0 8).toInt := by
      intro bz
      have b3 := s5.2.2.2.2 bz
      obtain ⟨o1, o2, o3, o4⟩ := ok3 b3
      have b1 := r3.2.2.2.1 b3
      rw [a9] at b1
      have st5 := t5 bz
      have st1 := t1 b1
      have st0 := sy.2.2.1
      have n8 : (y2.1 0 8).toInt = (y1.1 0 8).toInt := by rw [a8]
      have nn2 : NN y1 y2 := NN_md m2 (by decide) (by intro c h1 h2 q; cases q)
      have nn1z : NN y1 z := ⟨by have := rz.2.2.2.2.1; rw [← a13]; exact this, fun c h1 h2 j hj => by rw [rz.2.2.2.2.2 c h1 h2 j (by rw [a13]; exact hj)]; exact nn2.2 c h1 h2 j hj⟩
      refine ⟨hy (s1.2.2.2.2 b1), by omega, Int.le_trans p1.1 nn1z.1, by omega, by unfold GB; rw [f23, f24, f25, f26, f27, f28]; exact xg, fun j hj => ?_, ?_, ((y3.1 0 8).toInt - (y2.1 0 8).toInt).toNat, vE_RP (RP_ss s5) o4, by omega⟩
      · rw [f28] at hj
        refine tE_keep (fun c h1 h2 i _ => ?_) (by rw [f23]; exact Int.le_refl _) (by rw [f24]; exact Int.le_refl _) (by rw [f25]; exact Int.le_refl _) hj (xt j hj)
        rw [mxz.2.1 c (by omega) (by intro q; simp only [List.mem_cons, List.not_mem_nil, or_false] at q; omega)]
      · exact PT_keep nn1z (Int.le_refl _) (m1z.1 25 (by decide)) (m1z.1 26 (by decide)) (m1z.1 27 (by decide)) (m1z.2.1 39 (by decide) (by decide)) (m1z.2.1 40 (by decide) (by decide)) (m1z.2.1 41 (by decide) (by decide)) p1.2.2.2.2
    have p339 : (¬ z.1 0 9 = 0 ∨ ¬ l1 = 11) → MT G (D + 86) z_readDef 339 [(0, vr 0), (5, vi r4)] [] z (rv Fv) := by
      intro hc
      refine sg_readDef_339 _ ⟨fun c => rv_i (h _ (bad c)), fun c => ?_⟩
      have bz : (z.1 0 9).toInt = 0 := by rw [c]; rfl
      obtain ⟨w1, w2, w3, w4, w5, w6, w7, s, w8, w9⟩ := good bz
      have n4 := w1.2 (hc.resolve_left (fun q => q c))
      rw [← f27, t_eq, k4] at n4
      obtain ⟨b1, b2, b3, b4, b5, b6, b7, b8, b9, b10, b11, b12⟩ := id w5
      refine ⟨by rw [vp_in_iff]; omega, fun v ev y' ey => rv_i (h _ ?_)⟩
      have mv := md_a z 41 (z.1 0 27).toNatClampNeg r4 (by decide)
      rw [← ev] at mv
      have my := md_f v 27 (v.1 0 27 + 1)
      rw [← ey] at my
      have mzy : md [27] [41] z y' := md_tr mv my rfl rfl
      have e8 : y'.1 0 8 = z.1 0 8 := mzy.1 8 (by decide)
      have e9 : y'.1 0 9 = z.1 0 9 := mzy.1 9 (by decide)
      have e13 : y'.1 0 13 = z.1 0 13 := mzy.1 13 (by decide)
      have e23 : y'.1 0 23 = z.1 0 23 := mzy.1 23 (by decide)
      have e24 : y'.1 0 24 = z.1 0 24 := mzy.1 24 (by decide)
      have e25 : y'.1 0 25 = z.1 0 25 := mzy.1 25 (by decide)
      have e26 : y'.1 0 26 = z.1 0 26 := mzy.1 26 (by decide)
      have e28 : y'.1 0 28 = z.1 0 28 := mzy.1 28 (by decide)
      have e27 : (y'.1 0 27).toInt = (z.1 0 27).toInt + 1 := by rw [ey, si_get, if_pos ⟨rfl, rfl⟩, mv.1 27 (by decide), t_add (by omega) (by omega), k1]
      refine ⟨md_tr mxz mzy rfl rfl, ⟨by rw [e8]; exact rz.2.1.1, by rw [e8]; exact rz.2.1.2.1, by rw [e9]; exact rz.2.1.2.2.1, TX_md mzy (by decide) (by decide) (by decide) (by decide) rz.2.1.2.2.2⟩, fun _ => ⟨⟨by rw [e13]; exact w3, by unfold cr; rw [e8, e13]; exact w4, ?_, fun j hj => ?_, ?_⟩, by rw [e8]; exact w2⟩⟩
      · unfold GB
        rw [e23, e24, e25, e26, e28]
        exact ⟨b1, b2, b3, b4, b5, b6, b7, b8, by omega, by omega, b11, b12⟩
      · rw [e28] at hj
        exact tE_keep (fun c h1 h2 i _ => by rw [mzy.2.1 c (by omega) (by intro q; simp only [List.mem_cons, List.not_mem_nil, or_false] at q; omega)]) (by rw [e23]; exact Int.le_refl _) (by rw [e24]; exact Int.le_refl _) (by rw [e25]; exact Int.le_refl _) hj (w6 j hj)
      · refine PT_fi w7 (NN_md mzy (by decide) (by intro c h1 h2 q; simp only [List.mem_cons, List.not_mem_nil, or_false] at q; omega)) b9 e27 (e := r4) (fun j => ?_) e25 (mzy.2.1 39 (by decide) (by decide)) e26 (mzy.2.1 40 (by decide) (by decide)) w8 (by rw [e8]; exact w9)
        rw [my.2.1 41 (by decide) (by intro q; cases q), ev, si_get]
        by_cases q : j = (z.1 0 27).toNatClampNeg
        · rw [if_pos ⟨rfl, q⟩, if_pos q]
        · rw [if_neg (fun z => q z.2), if_neg q]
    refine ⟨fun c => p339 (Or.inl c), fun c => ⟨fun c2 => p339 (Or.inr c2), fun c2 => ?_⟩⟩
    have bz : (z.1 0 9).toInt = 0 := by rw [c]; rfl
    obtain ⟨w1, w2, w3, w4, w5, w6, w7, s, w8, w9⟩ := good bz
    have n4 := w1.1 c2
    rw [← f26, t_eq, k4] at n4
    obtain ⟨b1, b2, b3, b4, b5, b6, b7, b8, b9, b10, b11, b12⟩ := id w5
    refine ⟨by rw [vp_in_iff]; omega, fun v ev y' ey => rv_i (h _ ?_)⟩
    have mv := md_a z 40 (z.1 0 26).toNatClampNeg r4 (by decide)
    rw [← ev] at mv
    have my := md_f v 26 (v.1 0 26 + 1)
    rw [← ey] at my
    have mzy : md [26] [40] z y' := md_tr mv my rfl rfl
    have e8 : y'.1 0 8 = z.1 0 8 := mzy.1 8 (by decide)
    have e9 : y'.1 0 9 = z.1 0 9 := mzy.1 9 (by decide)
    have e13 : y'.1 0 13 = z.1 0 13 := mzy.1 13 (by decide)
    have e23 : y'.1 0 23 = z.1 0 23 := mzy.1 23 (by decide)
    have e24 : y'.1 0 24 = z.1 0 24 := mzy.1 24 (by decide)
    have e25 : y'.1 0 25 = z.1 0 25 := mzy.1 25 (by decide)
    have e27 : y'.1 0 27 = z.1 0 27 := mzy.1 27 (by decide)
    have e28 : y'.1 0 28 = z.1 0 28 := mzy.1 28 (by decide)
    have e26 : (y'.1 0 26).toInt = (z.1 0 26).toInt + 1 := by rw [ey, si_get, if_pos ⟨rfl, rfl⟩, mv.1 26 (by decide), t_add (by omega) (by omega), k1]
    refine ⟨md_tr mxz mzy rfl rfl, ⟨by rw [e8]; exact rz.2.1.1, by rw [e8]; exact rz.2.1.2.1, by rw [e9]; exact rz.2.1.2.2.1, TX_md mzy (by decide) (by decide) (by decide) (by decide) rz.2.1.2.2.2⟩, fun _ => ⟨⟨by rw [e13]; exact w3, by unfold cr; rw [e8, e13]; exact w4, ?_, fun j hj => ?_, ?_⟩, by rw [e8]; exact w2⟩⟩
    · unfold GB
      rw [e23, e24, e25, e27, e28]
      exact ⟨b1, b2, b3, b4, b5, b6, by omega, by omega, b9, b10, b11, b12⟩
    · rw [e28] at hj
      exact tE_keep (fun c h1 h2 i _ => by rw [mzy.2.1 c (by omega) (by intro q; simp only [List.mem_cons, List.not_mem_nil, or_false] at q; omega)]) (by rw [e23]; exact Int.le_refl _) (by rw [e24]; exact Int.le_refl _) (by rw [e25]; exact Int.le_refl _) hj (w6 j hj)
    · refine PT_al w7 (NN_md mzy (by decide) (by intro c h1 h2 q; simp only [List.mem_cons, List.not_mem_nil, or_false] at q; omega)) b7 e26 (e := r4) (fun j => ?_) e25 (mzy.2.1 39 (by decide) (by decide)) e27 (mzy.2.1 41 (by decide) (by decide)) w8 (by rw [e8]; exact w9)
      rw [my.2.1 40 (by decide) (by intro q; cases q), ev, si_get]
      by_cases q : j = (z.1 0 26).toNatClampNeg
      · rw [if_pos ⟨rfl, q⟩, if_pos q]
      · rw [if_neg (fun z => q z.2), if_neg q]
  have p266 : ∀ (l1 s0 : Int32), ((l1 = 11 → s0 = x.1 0 26) ∧ (¬ l1 = 11 → s0 = x.1 0 27)) → MT G (D + 86) z_readDef 266 [(0, vr 0), (1, vi l1)] [vi s0] x (rv Fv) := by
    intro l1 s0 hs
    refine sg_readDef_266 _ _ ⟨fun c => p279 l1 x (SS_rf pn) (fun _ => ⟨fun e => ?_, fun e => ?_⟩), fun c => sp_fault _ _ (by decide) pv pn (fun y s hb' _ _ => p279 l1 y s (fun q => by omega))⟩
    · rw [← hs.1 e]; exact c
    · rw [← hs.2 e]; exact c
  refine sg_readDef_0 (sp_here pn (fun r2 _ _ => ⟨fun _ => sp_readCell pn pg (fun x' q => rv_i (h x' q)), fun _ => ⟨fun c => p99 x (SS_rf pn) (fun _ => c), fun _ => sp_fault _ _ (by decide) pv pn (fun y s hb' _ _ => p99 y s (fun q => by omega))⟩, fun _ => ⟨fun c => p163 x (SS_rf pn) (fun _ => c), fun _ => sp_fault _ _ (by decide) pv pn (fun y s hb' _ _ => p163 y s (fun q => by omega))⟩, fun _ => ⟨fun c => p266 r2 _ ⟨fun e => absurd e c, fun _ => rfl⟩, fun c => p266 r2 _ ⟨fun _ => rfl, fun e => absurd c e⟩⟩, fun _ => sp_fault _ _ (by decide) pv pn (fun y s hb' _ _ => rv_i (h _ (QD_bad s (by omega))))⟩))
