section
/-! a definition, its small readings in a row -/
section PDF
variable {K V : Nat → Int32} {n : gN} {i : Nat} {L : gU}
theorem pD_lk (h : K i = 27) (hn : n.2.1 < 6) : pD K V n i L = (ps1 i).bind (fun t => (psw K 1 t).bind (fun j => (psw K 67 j).bind (fun q => some ((n.1, n.2.1 + 1, n.2.2), q, L ++ [(33, t, 0)])))) := by
  unfold pD ps1
  rw [if_neg (by rw [h]; decide), if_neg (by rw [h]; decide), if_pos h]
  by_cases a : i < 700
  · rw [if_pos a, Option.bind_some, psw]
    by_cases b : K (i + 1) = 1 ∧ i + 1 < 700
    · rw [if_pos b, Option.bind_some, psw]
      by_cases c : K (i + 1 + 1) = 67 ∧ i + 1 + 1 < 700
      · rw [if_pos c, if_pos (show n.2.1 < 6 ∧ i < 700 ∧ (K (i + 1) = 1 ∧ i + 1 < 700) ∧ K (i + 2) = 67 ∧ i + 2 < 700 from ⟨hn, a, b, c⟩)]; rfl
      · rw [if_neg c, if_neg (fun z => c z.2.2.2)]; rfl
    · rw [if_neg b, if_neg (fun z => b z.2.2.1)]; rfl
  · rw [if_neg a, if_neg (fun z => a z.2.1)]; rfl
theorem pD_lk0 (h : K i = 27) (hn : ¬ n.2.1 < 6) : pD K V n i L = none := by
  unfold pD
  rw [if_neg (by rw [h]; decide), if_neg (by rw [h]; decide), if_pos h, if_neg (fun z => hn z.1)]
theorem pD_th1 {tb : Nat → Nat → gD} (h : K i = 23) (hn : n.2.2.1 < 6) (et : ∀ t j, tb t j = (pBk (pS K 16) K 0 0 j (L ++ [(34, t, 1)])).bind (fun q => some ((n.1, n.2.1, n.2.2.1 + 1, n.2.2.2), q.2))) : pD K V n i L = (ps1 i).bind (fun i1 => (psw K 37 i1).bind (fun t => (psw K 1 t).bind (fun j => tb t j))) := by
  unfold pD ps1
  rw [if_neg (by rw [h]; decide), if_neg (by rw [h]; decide), if_neg (by rw [h]; decide), if_pos h]
  by_cases a : i < 700
  · rw [if_pos a, Option.bind_some, psw]
    by_cases b : K (i + 1) = 37 ∧ i + 1 < 700
    · rw [if_pos b, Option.bind_some, psw]
      by_cases c : K (i + 1 + 1) = 1 ∧ i + 1 + 1 < 700
      · rw [if_pos c, Option.bind_some, et, if_pos (show n.2.2.1 < 6 ∧ i < 700 ∧ (K (i + 1) = 37 ∧ i + 1 < 700) ∧ K (i + 2) = 1 ∧ i + 2 < 700 from ⟨hn, a, b, c⟩)]
      · rw [if_neg c, if_neg (fun z => c z.2.2.2)]; rfl
    · rw [if_neg b, if_neg (fun z => b z.2.2.1)]; rfl
  · rw [if_neg a, if_neg (fun z => a z.2.1)]; rfl
theorem pD_th0 {tb : Nat → Nat → gD} (h : K i = 37) (hn : n.2.2.1 < 6) (et : ∀ t j, tb t j = (pBk (pS K 16) K 0 0 j (L ++ [(34, t, 0)])).bind (fun q => some ((n.1, n.2.1, n.2.2.1 + 1, n.2.2.2), q.2))) : pD K V n i L = (psw K 37 i).bind (fun t => (psw K 1 t).bind (fun j => tb t j)) := by
  unfold pD
  rw [if_neg (by rw [h]; decide), if_neg (by rw [h]; decide), if_neg (by rw [h]; decide), if_neg (by rw [h]; decide), if_pos h, psw]
  by_cases a : i < 700
  · rw [if_pos (show K i = 37 ∧ i < 700 from ⟨h, a⟩), Option.bind_some, psw]
    by_cases c : K (i + 1) = 1 ∧ i + 1 < 700
    · rw [if_pos c, Option.bind_some, et, if_pos (show n.2.2.1 < 6 ∧ i < 700 ∧ K (i + 1) = 1 ∧ i + 1 < 700 from ⟨hn, a, c⟩)]
    · rw [if_neg c, if_neg (fun z => c z.2.2)]; rfl
  · rw [if_neg (fun z : K i = 37 ∧ i < 700 => a z.2), if_neg (fun z => a z.2.1)]; rfl
theorem pD_th6 (h : K i = 23 ∨ K i = 37) (hn : ¬ n.2.2.1 < 6) : pD K V n i L = none := by
  unfold pD
  rcases h with h | h
  · rw [if_neg (by rw [h]; decide), if_neg (by rw [h]; decide), if_neg (by rw [h]; decide), if_pos h, if_neg (fun z => hn z.1)]
  · rw [if_neg (by rw [h]; decide), if_neg (by rw [h]; decide), if_neg (by rw [h]; decide), if_neg (by rw [h]; decide), if_pos h, if_neg (fun z => hn z.1)]
theorem pD_cl {l : Int32} {e : Nat} {nc : gN} (el : l = K i) (h : l = 11 ∨ l = 21) (ee : e = if l = 11 then 35 else 36) (en : nc = if l = 11 then (n.1, n.2.1, n.2.2.1, n.2.2.2.1 + 1, n.2.2.2.2) else (n.1, n.2.1, n.2.2.1, n.2.2.2.1, n.2.2.2.2 + 1)) : pD K V n i L = if (if l = 11 then n.2.2.2.1 else n.2.2.2.2) < 4 then (ps1 i).bind (fun j => ((pX K true 16 j (L ++ [(e, i, 0)])).bind (pt K 67)).bind (fun q => some (nc, q))) else none := by
  rw [ee, en]
  unfold pD ps1
  rcases h with h | h
  · rw [h] at el
    rw [if_neg (by rw [← el]; decide), if_neg (by rw [← el]; decide), if_neg (by rw [← el]; decide), if_neg (by rw [← el]; decide), if_neg (by rw [← el]; decide), if_pos el.symm, if_pos h, if_pos h, if_pos h]
    by_cases a : n.2.2.2.1 < 4
    · rw [if_pos a]
      by_cases b : i < 700
      · rw [if_pos b, if_pos (show n.2.2.2.1 < 4 ∧ i < 700 from ⟨a, b⟩)]; rfl
      · rw [if_neg b, if_neg (fun z => b z.2)]; rfl
    · rw [if_neg a, if_neg (fun z => a z.1)]
  · have nl : ¬ l = 11 := by rw [h]; decide
    rw [h] at el
    rw [if_neg (by rw [← el]; decide), if_neg (by rw [← el]; decide), if_neg (by rw [← el]; decide), if_neg (by rw [← el]; decide), if_neg (by rw [← el]; decide), if_neg (by rw [← el]; decide), if_pos el.symm, if_neg nl, if_neg nl, if_neg nl]
    by_cases a : n.2.2.2.2 < 4
    · rw [if_pos a]
      by_cases b : i < 700
      · rw [if_pos b, if_pos (show n.2.2.2.2 < 4 ∧ i < 700 from ⟨a, b⟩)]; rfl
      · rw [if_neg b, if_neg (fun z => b z.2)]; rfl
    · rw [if_neg a, if_neg (fun z => a z.1)]
end PDF
theorem sf_readDef {G : mG} {D : Nat} {x : gd} {Fv : gd → Prop} (hD : 86 ≤ D) (pn : PN x) (pg : PG x) (hb : (x.1 0 9).toInt = 0) (h : ∀ x', QD x x' → FD x x' → Fv x') : MT G D z_readDef 0 [(0, vr 0)] [] x (rv Fv) := by
  obtain ⟨D, rfl⟩ : ∃ m, D = m + 86 := ⟨D - 86, by omega⟩
  have k0 : (0 : Int32).toInt = 0 := rfl
  have k1 : (1 : Int32).toInt = 1 := rfl
  have k4 : (4 : Int32).toInt = 4 := rfl
  have k6 : (6 : Int32).toInt = 6 := rfl
  have pv := PN_v pn
  obtain ⟨x13, xc, xg, xt, xp⟩ := id pg
  obtain ⟨g1, g2, g3, g4, g5, g6, g7, g8, g9, g10, g11, g12⟩ := id xg
  have ne0 : ∀ {y : gd}, ¬ y.1 0 9 = 0 → ¬ (y.1 0 9).toInt = 0 := fun c q => c (t_eq.mpr q)
  obtain ⟨i, ei⟩ : ∃ i, i = (x.1 0 8).toNatClampNeg := ⟨_, rfl⟩
  have ni : nwo x = some i := by rw [nwo_o hb, ei]
  obtain ⟨K, eK⟩ : ∃ K, K = x.1 5 := ⟨_, rfl⟩
  obtain ⟨V, eV⟩ : ∃ V, V = x.1 7 := ⟨_, rfl⟩
  obtain ⟨n, en⟩ : ∃ n, n = cn x := ⟨_, rfl⟩
  have n1 : n.1 = (x.1 0 23).toNatClampNeg := by rw [en]; rfl
  have n2 : n.2.1 = (x.1 0 24).toNatClampNeg := by rw [en]; rfl
  have n3 : n.2.2.1 = (x.1 0 25).toNatClampNeg := by rw [en]; rfl
  have n4 : n.2.2.2.1 = (x.1 0 26).toNatClampNeg := by rw [en]; rfl
  have n5 : n.2.2.2.2 = (x.1 0 27).toNatClampNeg := by rw [en]; rfl
  have K5 : ∀ {z : gd}, SS x z → z.1 5 = K := fun s => by rw [eK]; exact s.1.2.1 5 (by decide) (by decide)
  have hx : eqD x x (fun L i => pD K V n i L) := fun L => by rw [eK, eV, en]
  have at_i : ∀ {g : gU → Nat → gD}, (∀ L, pD K V n i L = g L i) → eqD x x g := fun e => eqD_cg hx (fun L j hj => by
    rw [ni] at hj
    cases Option.some.inj hj
    exact e L)
  have no_i : ∀ {y : gd} {g : gU → Nat → gD}, (∀ L, pD K V n i L = none) → nwo y = none → eqD x y g := fun e hy => eqD_x hx (fun L j hj => by
    rw [ni] at hj
    cases Option.some.inj hj
    exact e L) hy
  have p99 : ∀ y : gd, SS x y → ((y.1 0 9).toInt = 0 → ¬ x.1 0 24 = 6) → eqD x y (fun L i => (ps1 i).bind (fun t => (psw K 1 t).bind (fun j => (psw K 67 j).bind (fun q => some ((n.1, n.2.1 + 1, n.2.2), q, L ++ [(33, t, 0)]))))) → MT G (D + 86) z_readDef 99 [(0, vr 0)] [] y (rv Fv) := by
    intro y sy hy hE
    refine sg_readDef_99 (sf_step sy.2.1 (fun y1 s1 t1 ey1 => sf_passName s1.2.1 (fun y2 s2 t2 ey2 => sf_pass _ s2.2.1 (fun z s3 t3 ez => ?_))))
    rw [K5 (SS_tr sy s1)] at ey2
    rw [K5 (SS_tr (SS_tr sy s1) s2)] at ez
    have hE3 : eqD x z (fun L q => some ((n.1, n.2.1 + 1, n.2.2), q, L ++ [(33, (y1.1 0 8).toNatClampNeg, 0)])) := by
      refine eqD_w (eqD_w (eqD_cg (eqD_s hE ey1) (fun L t ht => ?_)) ey2) ez
      rw [(nwo_is ht).2]
    refine ⟨fun c => ?_, fun c => ?_⟩
    · exact rv_i (h _ (QD_bad (SS_tr (SS_tr (SS_tr sy s1) s2) s3) (ne0 c)) (FD_x hE3 (ne0 c) s3.2.1.2.2.1))
    have sz := SS_tr (SS_tr (SS_tr sy s1) s2) s3
    have bz : (z.1 0 9).toInt = 0 := by rw [c]; rfl
    have pz := PG_ss sz pg
    have gz := pz.2.2.1
    have e24x : z.1 0 24 = x.1 0 24 := sz.1.1 24 (by decide)
    have n6 := hy (s1.2.2.2.2 (s2.2.2.2.2 (s3.2.2.2.2 bz)))
    rw [t_eq, k6, ← e24x] at n6
    have st1 := t1 (s2.2.2.2.2 (s3.2.2.2.2 bz))
    have st2 := t2 (s3.2.2.2.2 bz)
    have st3 := t3 bz
    have st0 := sy.2.2.1
    refine sp_tell _ _ _ _ _ _ (GB_v gz) (fun w td y7 e7 => ?_)
    obtain ⟨b1, b2, b3, b4, b5, b6, b7, b8, b9, b10, b11, b12⟩ := id gz
    have mw := td.1
    have m7 := md_f w 24 (w.1 0 24 + 1)
    rw [← e7] at m7
    have mzy : md [24, 28] [30, 31, 32, 33, 34, 35] z y7 := md_tr mw m7 rfl rfl
    have e8 : y7.1 0 8 = z.1 0 8 := mzy.1 8 (by decide)
    have e9 : y7.1 0 9 = z.1 0 9 := mzy.1 9 (by decide)
    have e13 : y7.1 0 13 = z.1 0 13 := mzy.1 13 (by decide)
    have e23 : y7.1 0 23 = z.1 0 23 := mzy.1 23 (by decide)
    have e24 : (y7.1 0 24).toInt = (z.1 0 24).toInt + 1 := by rw [e7, si_get, if_pos ⟨rfl, rfl⟩, mw.1 24 (by decide), t_add (by omega) (by omega), k1]
    have e25 : y7.1 0 25 = z.1 0 25 := mzy.1 25 (by decide)
    have e26 : y7.1 0 26 = z.1 0 26 := mzy.1 26 (by decide)
    have e27 : y7.1 0 27 = z.1 0 27 := mzy.1 27 (by decide)
    obtain ⟨n28, nT⟩ := tell_tE td gz (y := y7) (fun c h1 h2 => m7.2.1 c (by omega) (by intro q; cases q)) (m7.1 28 (by decide)) (by rw [e23]; exact Int.le_refl _) (by omega) (by rw [e25]; exact Int.le_refl _) pz.2.2.2.1 ⟨PN_v s1.2.1, Or.inr (Or.inl ⟨rfl, b3, by omega⟩), Or.inl rfl⟩
    have mxy : md [8, 9, 10, 24, 28] [30, 31, 32, 33, 34, 35] x y7 := md_tr sz.1 mzy rfl rfl
    refine rv_i (h _ ?_ ⟨[(33, (y1.1 0 8).toNatClampNeg, 0)], fun L => ?_, fun _ => ⟨NN_md mxy (by decide) (by intro c h1 h2 q; simp only [List.mem_cons, List.not_mem_nil, or_false] at q; omega), Or.inr (Or.inl ⟨y1.1 0 8, mxy, ?_, PN_v s1.2.1, by rw [e24, e24x], rfl⟩)⟩⟩)
    rotate_left
    · rw [hE3 L, nwo_e e8 e9]
      have ec : cn y7 = (n.1, n.2.1 + 1, n.2.2) := by
        have a : (y7.1 0 24).toNatClampNeg = n.2.1 + 1 := by
          have : (z.1 0 24).toInt = (x.1 0 24).toInt := by rw [e24x]
          rw [n2, t_cl, t_cl]; omega
        unfold cn
        rw [a, en]
        unfold cn
        rw [mxy.1 23 (by decide), mxy.1 25 (by decide), mxy.1 26 (by decide), mxy.1 27 (by decide)]
      rw [ec]
      cases nwo z <;> rfl
    · rw [e24x] at td
      exact tAd_of td (fun c h1 h2 => sz.1.2.1 c (by omega) (by intro q; cases q)) (sz.1.1 28 (by decide)) (fun c h1 h2 => m7.2.1 c (by omega) (by intro q; cases q)) (m7.1 28 (by decide))
    refine ⟨md_tr sz.1 mzy rfl rfl, ⟨by rw [e8]; exact sz.2.1.1, by rw [e8]; exact sz.2.1.2.1, by rw [e9]; exact sz.2.1.2.2.1, TX_md mzy (by decide) (by decide) (by decide) (by decide) sz.2.1.2.2.2⟩, fun _ => ⟨⟨by rw [e13]; exact pz.1, by unfold cr; rw [e8, e13]; exact pz.2.1, ?_, nT, ?_⟩, by rw [e8]; omega⟩⟩
    · unfold GB
      rw [e23, e25, e26, e27]
      exact ⟨b1, b2, by omega, by omega, b5, b6, b7, b8, b9, b10, by omega, by omega⟩
    · exact PT_keep (NN_md mzy (by decide) (by intro c h1 h2 q; simp only [List.mem_cons, List.not_mem_nil, or_false] at q; omega)) (by rw [e8]; exact Int.le_refl _) e25 e26 e27 (mzy.2.1 39 (by decide) (by decide)) (mzy.2.1 40 (by decide) (by decide)) (mzy.2.1 41 (by decide) (by decide)) pz.2.2.2.2
  obtain ⟨tb, etb⟩ : ∃ tb : Nat → gU → Nat → Nat → gD, ∀ d L t j, tb d L t j = (pBk (pS K 16) K 0 0 j (L ++ [(34, t, d)])).bind (fun q => some ((n.1, n.2.1, n.2.2.1 + 1, n.2.2.2), q.2)) := ⟨_, fun _ _ _ _ => rfl⟩
  have p163 : ∀ y : gd, SS x y → ((y.1 0 9).toInt = 0 → ¬ x.1 0 25 = 6) → ((K i = 23 → eqD x y (fun L i => (ps1 i).bind (fun i1 => (psw K 37 i1).bind (fun t => (psw K 1 t).bind (fun j => tb 1 L t j))))) ∧ (¬ K i = 23 → eqD x y (fun L i1 => (psw K 37 i1).bind (fun t => (psw K 1 t).bind (fun j => tb 0 L t j))))) → (nwo y = none ∨ nwo y = some i) → MT G (D + 86) z_readDef 163 [(0, vr 0)] [] y (rv Fv) := by
    intro y sy hy hE ny
    have tl : ∀ (r2 : Int32) (y1 : gd), SS y y1 → (r2 = 0 ∨ r2 = 1) → eqD x y1 (fun L i1 => (psw K 37 i1).bind (fun t => (psw K 1 t).bind (fun j => tb r2.toNatClampNeg L t j))) → MT G (D + 85) z_pass 0 [(0, vr 0), (1, vi 37)] [] y1 (rv (fun x3 => MT G (D + 85) z_passName 0 [(0, vr 0)] [] x3 (ri (fun r5 x4 => (∀ x6 : gd, x6 = si x4 0 21 0 → (∀ x7 : gd, x7 = si x6 0 20 0 → MT G (D + 85) z_readBlock 0 [(0, vr 0)] [] x7 (ri (fun r9 x8 => ((¬ ((x8.1 0 9) = (0 : Int32)) → rv Fv none x8) ∧ ((x8.1 0 9) = (0 : Int32) → MT G (D + 85) z_tell 0 [(0, vr 0), (1, vi r5), (2, vi 2), (3, vi (x8.1 0 25)), (4, vi 1), (5, vi 0), (6, vi (-1))] [] x8 (rv (fun x11 => vp_in (x11.1 0 25) 6 ∧ (∀ x13 : gd, x13 = si x11 38 (x11.1 0 25 : Int32).toNatClampNeg (vp_nar .boolean r2) → vp_in (x13.1 0 25) 6 ∧ (∀ x15 : gd, x15 = si x13 39 (x13.1 0 25 : Int32).toNatClampNeg r9 → (∀ x16 : gd, x16 = si x15 0 25 ((x15.1 0 25) + 1) → rv Fv none x16))))))))))))))) := by
      intro r2 y1 s1 hr2 hE1
      refine sf_pass _ s1.2.1 (fun y3 s3 t3 ey3 => sf_passName s3.2.1 (fun y4 s4 t4 ey4 y6 e6 y7 e7 => ?_))
      rw [K5 (SS_tr sy s1)] at ey3
      rw [K5 (SS_tr (SS_tr sy s1) s3)] at ey4
      have hE4 : eqD x y4 (fun L j => tb r2.toNatClampNeg L (y3.1 0 8).toNatClampNeg j) := by
        refine eqD_w (eqD_cg (eqD_w hE1 ey3) (fun L t ht => ?_)) ey4
        rw [(nwo_is ht).2]
      have s14 := SS_tr s3 s4
      have sx4 := SS_tr (SS_tr sy s1) s14
      have p4 := PG_ss sx4 pg
      have m6 := md_f y4 21 0
      rw [← e6] at m6
      have m7 := md_f y6 20 0
      rw [← e7] at m7
      have m47 : md [20, 21] [] y4 y7 := md_tr m6 m7 rfl rfl
      have a8 : y7.1 0 8 = y4.1 0 8 := m47.1 8 (by decide)
      have a9 : y7.1 0 9 = y4.1 0 9 := m47.1 9 (by decide)
      have a13 : y7.1 0 13 = y4.1 0 13 := m47.1 13 (by decide)
      have a20 : y7.1 0 20 = 0 := by rw [e7, si_get, if_pos ⟨rfl, rfl⟩]
      have a21 : y7.1 0 21 = 0 := by rw [m7.1 21 (by decide), e6, si_get, if_pos ⟨rfl, rfl⟩]
      have p7 : PN y7 := ⟨by rw [a8]; exact sx4.2.1.1, by rw [a8]; exact sx4.2.1.2.1, by rw [a9]; exact sx4.2.1.2.2.1, TX_md m47 (by decide) (by decide) (by decide) (by decide) sx4.2.1.2.2.2⟩
      have c7 : cr y7 = cr y4 := by unfold cr; rw [a8, a13]
      have p4c := p4.2.1
      have lt7 : LT y7 := by unfold LT; rw [a21]; exact ⟨by decide, by decide⟩
      refine sf_readBlock 16 (sf_readS 16) (by omega) ⟨p7, by rw [a13]; exact p4.1, by omega, by decide, fun _ => ⟨by rw [a20]; rfl, by omega⟩⟩ (fun _ => lt7) (fun r9 z hz hfz => ?_)
      obtain ⟨rz, -, -, -, okz⟩ := hz
      obtain ⟨MB, fB, vBk⟩ := hfz 0
      have y75 : y7.1 5 = K := by rw [m47.2.1 5 (by decide) (by decide)]; exact K5 sx4
      rw [y75] at fB
      have hEz : ∀ L, (nwo x).bind (fun i => pD (x.1 5) (x.1 7) (cn x) i L) = (nwo z).map (fun j => ((n.1, n.2.1, n.2.2.1 + 1, n.2.2.2), j, L ++ ([(34, (y3.1 0 8).toNatClampNeg, r2.toNatClampNeg)] ++ MB))) := by
        intro L
        rw [hE4 L]
        have n47 : nwo y7 = nwo y4 := nwo_e a8 a9
        have l7' : lts y7 = 0 := by unfold lts; rw [a21]; rfl
        have e := fB (L ++ [(34, (y3.1 0 8).toNatClampNeg, r2.toNatClampNeg)])
        rw [n47, l7'] at e
        have e2 : (nwo y4).bind (fun j => tb r2.toNatClampNeg L (y3.1 0 8).toNatClampNeg j) = ((nwo y4).bind (fun j => pBk (pS K 16) K 0 0 j (L ++ [(34, (y3.1 0 8).toNatClampNeg, r2.toNatClampNeg)]))).bind (fun q => some ((n.1, n.2.1, n.2.2.1 + 1, n.2.2.2), q.2)) := by
          rw [Option.bind_assoc]
          congr 1
          funext j
          exact etb _ _ _ _
        rw [e2, e, List.append_assoc]
        cases nwo z <;> rfl
      have mxz : md [8, 9, 10, 13, 20, 21] [15, 16, 17, 18, 19, 20] x z := md_tr (md_tr (L3 := [8, 9, 10, 20, 21]) (A3 := []) sx4.1 m47 rfl rfl) rz.1 rfl rfl
      refine ⟨fun c => rv_i (h _ ⟨md_w mxz (by decide) (by decide), rz.2.1, fun q => absurd q (ne0 c)⟩ ⟨[], fun L => ?_, fun q => absurd q (ne0 c)⟩), fun c => ?_⟩
      · have hz0 := rz.2.1.2.2.1
        have hz1 := ne0 c
        rw [hEz L, nwo_b (by omega)]; rfl
      have bz : (z.1 0 9).toInt = 0 := by rw [c]; rfl
      obtain ⟨o1, o2, o3, o4, o5, o6⟩ := okz bz
      have b7 := rz.2.2.2.1 bz
      rw [a9] at b7
      have n6 := hy (s1.2.2.2.2 (s14.2.2.2.2 b7))
      have e25x : z.1 0 25 = x.1 0 25 := mxz.1 25 (by decide)
      rw [t_eq, k6] at n6
      have st3 := t3 (s4.2.2.2.2 b7)
      have st4 := t4 b7
      have st0 := (SS_tr sy s1).2.2.1
      have f23 : z.1 0 23 = x.1 0 23 := mxz.1 23 (by decide)
      have f24 : z.1 0 24 = x.1 0 24 := mxz.1 24 (by decide)
      have f26 : z.1 0 26 = x.1 0 26 := mxz.1 26 (by decide)
      have f27 : z.1 0 27 = x.1 0 27 := mxz.1 27 (by decide)
      have f28 : z.1 0 28 = x.1 0 28 := mxz.1 28 (by decide)
      have gz : GB z := by unfold GB; rw [f23, f24, e25x, f26, f27, f28]; exact xg
      have nn47 : NN y4 y7 := NN_md m47 (by decide) (by intro c h1 h2 q; cases q)
      have nn4z : NN y4 z := ⟨by have := rz.2.2.2.2.1; rw [← a13]; exact this, fun c h1 h2 j hj => by rw [rz.2.2.2.2.2 c h1 h2 j (by rw [a13]; exact hj)]; exact nn47.2 c h1 h2 j hj⟩
      have m4z : md [8, 9, 10, 13, 20, 21] [15, 16, 17, 18, 19, 20] y4 z := md_tr m47 rz.1 rfl rfl
      have tz : ∀ j : Nat, (j : Int) < (z.1 0 28).toInt → tE z j := fun j hj => by
        rw [f28] at hj
        refine tE_keep (fun c h1 h2 i _ => ?_) (by rw [f23]; exact Int.le_refl _) (by rw [f24]; exact Int.le_refl _) (by rw [e25x]; exact Int.le_refl _) hj (xt j hj)
        rw [mxz.2.1 c (by omega) (by intro q; simp only [List.mem_cons, List.not_mem_nil, or_false] at q; omega)]
      have ptz : PT (y4.1 0 8).toInt z := PT_keep nn4z (Int.le_refl _) (m4z.1 25 (by decide)) (m4z.1 26 (by decide)) (m4z.1 27 (by decide)) (m4z.2.1 39 (by decide) (by decide)) (m4z.2.1 40 (by decide) (by decide)) (m4z.2.1 41 (by decide) (by decide)) p4.2.2.2.2
      refine sp_tell _ _ _ _ _ _ (GB_v gz) (fun w td => ?_)
      have mw := td.1
      have w25 : w.1 0 25 = z.1 0 25 := mw.1 25 (by decide)
      have hv : vp_in (w.1 0 25) 6 := by rw [w25, vp_in_iff, e25x]; omega
      refine ⟨hv, fun y13 e13 => ?_⟩
      have m13 := md_a w 38 (w.1 0 25).toNatClampNeg (vp_nar .boolean r2) (by decide)
      rw [← e13] at m13
      have v25 : y13.1 0 25 = w.1 0 25 := m13.1 25 (by decide)
      refine ⟨by rw [v25]; exact hv, fun y15 e15 y16 e16 => ?_⟩
      have m15 := md_a y13 39 (y13.1 0 25).toNatClampNeg r9 (by decide)
      rw [← e15] at m15
      have u25 : y15.1 0 25 = y13.1 0 25 := m15.1 25 (by decide)
      have m16 := md_f y15 25 (y15.1 0 25 + 1)
      rw [← e16] at m16
      have mw13 : md [28] [30, 31, 32, 33, 34, 35, 38] z y13 := md_tr mw m13 rfl rfl
      have mw15 : md [28] [30, 31, 32, 33, 34, 35, 38, 39] z y15 := md_tr mw13 m15 rfl rfl
      have mzy : md [25, 28] [30, 31, 32, 33, 34, 35, 38, 39] z y16 := md_tr mw15 m16 rfl rfl
      have mwy : md [25] [38, 39] w y16 := md_tr (md_tr (L3 := []) (A3 := [38, 39]) m13 m15 rfl rfl) m16 rfl rfl
      have e8 : y16.1 0 8 = z.1 0 8 := mzy.1 8 (by decide)
      have e9 : y16.1 0 9 = z.1 0 9 := mzy.1 9 (by decide)
      have e13' : y16.1 0 13 = z.1 0 13 := mzy.1 13 (by decide)
      have e23 : y16.1 0 23 = z.1 0 23 := mzy.1 23 (by decide)
      have e24 : y16.1 0 24 = z.1 0 24 := mzy.1 24 (by decide)
      have e25 : (y16.1 0 25).toInt = (z.1 0 25).toInt + 1 := by rw [e16, si_get, if_pos ⟨rfl, rfl⟩, u25, v25, w25, e25x, t_add (by omega) (by omega), k1]
      have e26 : y16.1 0 26 = z.1 0 26 := mzy.1 26 (by decide)
      have e27 : y16.1 0 27 = z.1 0 27 := mzy.1 27 (by decide)
      have z25 : (z.1 0 25).toInt = (x.1 0 25).toInt := by rw [e25x]
      obtain ⟨b1, b2, b3, b4, b5, b6, b7', b8, b9, b10, b11, b12⟩ := id gz
      obtain ⟨n28, nT⟩ := tell_tE td gz (y := y16) (fun c h1 h2 => mwy.2.1 c (by omega) (by intro q; simp only [List.mem_cons, List.not_mem_nil, or_false] at q; omega)) (mwy.1 28 (by decide)) (by rw [e23]; exact Int.le_refl _) (by rw [e24]; exact Int.le_refl _) (by omega) tz ⟨PN_v s3.2.1, Or.inr (Or.inr ⟨rfl, b5, by omega⟩), Or.inl rfl⟩
      have nzy : NN z y16 := NN_md mzy (by decide) (by intro c h1 h2 q; simp only [List.mem_cons, List.not_mem_nil, or_false] at q; omega)
      have n8 : (y7.1 0 8).toInt = (y4.1 0 8).toInt := by rw [a8]
      have cz : 0 ≤ cr z := by omega
      have l7 : (y7.1 0 21).toInt = 0 := by rw [a21]; rfl
      have lz := o5.2
      have hm : (0 : Int) ≤ (y7.1 0 13).toInt := by rw [a13]; exact p4.1
      have o9 := vB_keep hm (l := r9.toInt) ⟨NK_rfl z, fun _ _ _ _ => rfl⟩ (fun _ _ _ _ g => vS_low hm g) (Int.le_refl _) o6
      have mxy : md [8, 9, 10, 13, 20, 21, 25, 28] [15, 16, 17, 18, 19, 20, 30, 31, 32, 33, 34, 35, 38, 39] x y16 := md_tr mxz mzy rfl rfl
      have m39 : ∀ j : Nat, y16.1 39 j = if j = (z.1 0 25).toNatClampNeg then r9 else z.1 39 j := fun j => by
        rw [m16.2.1 39 (by decide) (by intro q; cases q), e15, si_get, v25, w25]
        by_cases q : j = (z.1 0 25).toNatClampNeg
        · rw [if_pos ⟨rfl, q⟩, if_pos q]
        · rw [if_neg (fun z => q z.2), if_neg q, mw13.2.1 39 (by decide) (by decide)]
      have m38 : ∀ j : Nat, y16.1 38 j = if j = (z.1 0 25).toNatClampNeg then vp_nar .boolean r2 else z.1 38 j := fun j => by
        rw [m16.2.1 38 (by decide) (by intro q; cases q), m15.2.1 38 (by decide) (by decide), e13, si_get, w25]
        by_cases q : j = (z.1 0 25).toNatClampNeg
        · rw [if_pos ⟨rfl, q⟩, if_pos q]
        · rw [if_neg (fun z => q z.2), if_neg q, mw.2.1 38 (by decide) (by decide)]
      have nn04 : NN x y4 := NN_RP (RP_ss sx4)
      have nnx : NN x y16 := ⟨by have := nn04.1; have := nn4z.1; have := nzy.1; omega, fun c h1 h2 j hj => by rw [nzy.2 c h1 h2 j (by have := nn04.1; have := nn4z.1; omega), nn4z.2 c h1 h2 j (by have := nn04.1; omega), nn04.2 c h1 h2 j hj]⟩
      have xzy : NX 0 r9.toInt z y16 := ⟨NN_NL 0 r9.toInt nzy, mzy.2.1 5 (by decide) (by decide), mzy.2.1 7 (by decide) (by decide)⟩
      refine rv_i (h _ ?_ ⟨[(34, (y3.1 0 8).toNatClampNeg, r2.toNatClampNeg)] ++ MB, fun L => ?_, fun _ => ⟨nnx, Or.inr (Or.inr (Or.inl ⟨y3.1 0 8, r9, r2, MB, mxy, ?_, PN_v s3.2.1, by rw [e25, e25x], hr2, fun j => ?_, fun j => ?_, ?_, rfl⟩))⟩⟩)
      rotate_left
      · rw [hEz L, nwo_e e8 e9]
        have ec : cn y16 = (n.1, n.2.1, n.2.2.1 + 1, n.2.2.2) := by
          have a : (y16.1 0 25).toNatClampNeg = n.2.2.1 + 1 := by
            rw [n3, t_cl, t_cl]; omega
          unfold cn
          rw [a, en]
          unfold cn
          rw [mxy.1 23 (by decide), mxy.1 24 (by decide), mxy.1 26 (by decide), mxy.1 27 (by decide)]
        rw [ec]
      · rw [e25x] at td
        exact tAd_of td (fun c h1 h2 => mxz.2.1 c (by omega) (by intro q; simp only [List.mem_cons, List.not_mem_nil, or_false] at q; omega)) f28 (fun c h1 h2 => mwy.2.1 c (by omega) (by intro q; simp only [List.mem_cons, List.not_mem_nil, or_false] at q; omega)) (mwy.1 28 (by decide))
      · rw [m38, e25x, mxz.2.1 38 (by decide) (by decide)]
      · rw [m39, e25x, mxz.2.1 39 (by decide) (by decide)]
      · exact wB_keep (Int.le_refl _) xzy (fun _ _ he g => wS_keep (Int.le_refl _) xzy _ _ _ he g) (Int.le_refl _) (wB_low hm (vBk bz))
      refine ⟨md_tr mxz mzy rfl rfl, ⟨by rw [e8]; exact rz.2.1.1, by rw [e8]; exact rz.2.1.2.1, by rw [e9]; exact rz.2.1.2.2.1, TX_md mzy (by decide) (by decide) (by decide) (by decide) rz.2.1.2.2.2⟩, fun _ => ⟨⟨by rw [e13']; have := rz.2.2.2.2.1; omega, by unfold cr; rw [e8, e13']; exact cz, ?_, nT, ?_⟩, by rw [e8]; omega⟩⟩
      · unfold GB
        rw [e23, e24, e26, e27]
        exact ⟨b1, b2, b3, b4, by omega, by omega, b7', b8, b9, b10, by omega, by omega⟩
      · exact PT_th ptz nzy b5 e25 (e := r9) m39 e26 (mzy.2.1 40 (by decide) (by decide)) e27 (mzy.2.1 41 (by decide) (by decide)) (vB_mono (Nat.le_refl _) (by omega) o9) (by rw [e8]; omega)
    refine sg_readDef_163 (sf_take _ sy.2.1 (fun hno => tl 0 y (SS_rf sy.2.1) (Or.inl rfl) ?_) (fun y1 j hj hKj _ s1 _ ey1 => tl 1 y1 s1 (Or.inr rfl) ?_))
    · rw [K5 sy] at hno
      by_cases c : K i = 23
      · refine eqD_x (hE.1 c) (fun L j hj => ?_) ?_
        · rcases ny with q | q
          · rw [q] at hj; exact absurd hj (by simp)
          · exact absurd c (hno i q)
        · rcases ny with q | q
          · exact q
          · exact absurd c (hno i q)
      · exact hE.2 c
    · rw [K5 sy] at hKj
      have ej : j = i := by
        rcases ny with q | q
        · rw [q] at hj; exact absurd hj (by simp)
        · rw [q] at hj; exact (Option.some.inj hj).symm
      subst ej
      exact eqD_1 (hE.1 hKj) hj ey1
  obtain ⟨nc, enc⟩ : ∃ nc : Int32 → gN, ∀ l, nc l = if l = 11 then (n.1, n.2.1, n.2.2.1, n.2.2.2.1 + 1, n.2.2.2.2) else (n.1, n.2.1, n.2.2.1, n.2.2.2.1, n.2.2.2.2 + 1) := ⟨_, fun _ => rfl⟩
  obtain ⟨ev, eev⟩ : ∃ ev : Int32 → Nat, ∀ l, ev l = if l = 11 then 35 else 36 := ⟨_, fun _ => rfl⟩
  have p279 : ∀ (l1 : Int32) (y : gd), SS x y → ((y.1 0 9).toInt = 0 → (l1 = 11 → ¬ x.1 0 26 = 4) ∧ (¬ l1 = 11 → ¬ x.1 0 27 = 4)) → eqD x y (fun L i1 => (ps1 i1).bind (fun j => ((pX K true 16 j (L ++ [(ev l1, i, 0)])).bind (pt K 67)).bind (fun q => some (nc l1, q)))) → MT G (D + 86) z_readDef 279 [(0, vr 0), (1, vi l1)] [] y (rv Fv) := by
    intro l1 y sy hy hE
    refine sg_readDef_279 _ (sf_step sy.2.1 (fun y1 s1 t1 ey1 y2 e2 => ?_))
    have hE1 := eqD_s hE ey1
    have sx1 := SS_tr sy s1
    have p1 := PG_ss sx1 pg
    have m2 := md_f y1 20 0
    rw [← e2] at m2
    have a8 : y2.1 0 8 = y1.1 0 8 := m2.1 8 (by decide)
    have a9 : y2.1 0 9 = y1.1 0 9 := m2.1 9 (by decide)
    have a13 : y2.1 0 13 = y1.1 0 13 := m2.1 13 (by decide)
    have a20 : y2.1 0 20 = 0 := by rw [e2, si_get, if_pos ⟨rfl, rfl⟩]
    have p2 : PN y2 := ⟨by rw [a8]; exact sx1.2.1.1, by rw [a8]; exact sx1.2.1.2.1, by rw [a9]; exact sx1.2.1.2.2.1, TX_md m2 (by decide) (by decide) (by decide) (by decide) sx1.2.1.2.2.2⟩
    have c2 : cr y2 = cr y1 := by unfold cr; rw [a8, a13]
    have p1c := p1.2.1
    refine sf_E 16 (g := 0) _ _ (by omega) (by decide) ⟨p2, by rw [a13]; exact p1.1, by omega, by decide, fun _ => ⟨by rw [a20]; rfl, by omega⟩⟩ (fun r4 y3 h3 hf3 => ?_)
    obtain ⟨r3, -, -, -, -, ok3⟩ := h3
    obtain ⟨ME, fE, vEk⟩ := hf3
    refine sf_pass _ r3.2.1 (fun z s5 t5 ez => ?_)
    have y25 : y2.1 5 = K := by rw [m2.2.1 5 (by decide) (by decide)]; exact K5 sx1
    have y35 : y3.1 5 = K := by rw [r3.1.2.1 5 (by decide) (by decide)]; exact y25
    rw [y25] at fE
    rw [y35] at ez
    have hEz : ∀ L, (nwo x).bind (fun i => pD (x.1 5) (x.1 7) (cn x) i L) = (nwo z).map (fun j => (nc l1, j, L ++ ([(ev l1, i, 0)] ++ (ME ++ [(54, 0, 0)])))) := by
      intro L
      rw [hE1 L]
      have n12 : nwo y2 = nwo y1 := nwo_e a8 a9
      have fX : FX y2 z (fun i L => (pX K true 16 i L).bind (pt K 67)) ((ME ++ [(54, 0, 0)]) ++ []) := FX_seq (FX_X fE) (FX_pass ez)
      have e := fX (L ++ [(ev l1, i, 0)])
      rw [n12] at e
      have e2 : (nwo y1).bind (fun j => ((pX K true 16 j (L ++ [(ev l1, i, 0)])).bind (pt K 67)).bind (fun q => some (nc l1, q))) = ((nwo y1).bind (fun j => (pX K true 16 j (L ++ [(ev l1, i, 0)])).bind (pt K 67))).bind (fun q => some (nc l1, q)) := by
        rw [Option.bind_assoc]
      rw [e2, e, List.append_nil, List.append_assoc]
      cases nwo z <;> rfl
    have cz0 : ∀ y' : gd, nwo y' = nwo z → cn y' = nc l1 → ∀ L, (nwo x).bind (fun i => pD (x.1 5) (x.1 7) (cn x) i L) = (nwo y').map (fun j => (cn y', j, L ++ ([(ev l1, i, 0)] ++ (ME ++ [(54, 0, 0)])))) := fun y' e1 e2 L => by rw [hEz L, e1, e2]
    have c5 := (cr_ss s5).1
    have rz : RP y2 z := RP_tr r3 (RP_ss s5)
    have m1z : md [8, 9, 10, 13, 20, 21] [15, 16, 17, 18, 19, 20] y1 z := md_tr m2 rz.1 rfl rfl
    have mxz : md [8, 9, 10, 13, 20, 21] [15, 16, 17, 18, 19, 20] x z := md_tr sx1.1 m1z rfl rfl
    have f23 : z.1 0 23 = x.1 0 23 := mxz.1 23 (by decide)
    have f24 : z.1 0 24 = x.1 0 24 := mxz.1 24 (by decide)
    have f25 : z.1 0 25 = x.1 0 25 := mxz.1 25 (by decide)
    have f26 : z.1 0 26 = x.1 0 26 := mxz.1 26 (by decide)
    have f27 : z.1 0 27 = x.1 0 27 := mxz.1 27 (by decide)
    have f28 : z.1 0 28 = x.1 0 28 := mxz.1 28 (by decide)
    have bad : ¬ z.1 0 9 = 0 → QD x z := fun c => ⟨md_w mxz (by decide) (by decide), rz.2.1, fun q => absurd q (ne0 c)⟩
    have badF : ¬ z.1 0 9 = 0 → FD x z := fun c => ⟨[], fun L => by
      have hz0 := rz.2.1.2.2.1
      have hz1 := ne0 c
      rw [hEz L, nwo_b (by omega)]; rfl, fun q => absurd q (ne0 c)⟩
    have nnxz : NN x z := ⟨by have := (NN_RP (RP_ss sx1)).1; have := rz.2.2.2.2.1; rw [a13] at this; omega, fun c h1 h2 j hj => by
      have q1 := (NN_RP (RP_ss sx1)).1
      rw [rz.2.2.2.2.2 c h1 h2 j (by rw [a13]; omega), m2.2.1 c (by omega) (by intro q; cases q), (NN_RP (RP_ss sx1)).2 c h1 h2 j hj]⟩
    have vz : (z.1 0 9).toInt = 0 → ∃ n, vV z true n r4 ME := fun q => by
      obtain ⟨k, g⟩ := (vEk (s5.2.2.2.2 q)).1
      exact ⟨k, vV_RP (RP_ss s5) g⟩
    -- what holds where all went well
    have good : (z.1 0 9).toInt = 0 → ((l1 = 11 → ¬ x.1 0 26 = 4) ∧ (¬ l1 = 11 → ¬ x.1 0 27 = 4)) ∧ (x.1 0 8).toInt + 1 ≤ (z.1 0 8).toInt ∧ 0 ≤ (z.1 0 13).toInt ∧ 0 ≤ cr z ∧ GB z ∧ (∀ j : Nat, (j : Int) < (z.1 0 28).toInt → tE z j) ∧ PT (y1.1 0 8).toInt z ∧ ∃ s : Nat, vE z s s 17 r4 ∧ (y1.1 0 8).toInt + s ≤ (z.1 0 8).toInt := by
      intro bz
      have b3 := s5.2.2.2.2 bz
      obtain ⟨o1, o2, o3, o4⟩ := ok3 b3
      have b1 := r3.2.2.2.1 b3
      rw [a9] at b1
      have st5 := t5 bz
      have st1 := t1 b1
      have st0 := sy.2.2.1
      have n8 : (y2.1 0 8).toInt = (y1.1 0 8).toInt := by rw [a8]
      have nn2 : NN y1 y2 := NN_md m2 (by decide) (by intro c h1 h2 q; cases q)
      have nn1z : NN y1 z := ⟨by have := rz.2.2.2.2.1; rw [← a13]; exact this, fun c h1 h2 j hj => by rw [rz.2.2.2.2.2 c h1 h2 j (by rw [a13]; exact hj)]; exact nn2.2 c h1 h2 j hj⟩
      refine ⟨hy (s1.2.2.2.2 b1), by omega, Int.le_trans p1.1 nn1z.1, by omega, by unfold GB; rw [f23, f24, f25, f26, f27, f28]; exact xg, fun j hj => ?_, ?_, ((y3.1 0 8).toInt - (y2.1 0 8).toInt).toNat, vE_RP (RP_ss s5) o4, by omega⟩
      · rw [f28] at hj
        refine tE_keep (fun c h1 h2 i _ => ?_) (by rw [f23]; exact Int.le_refl _) (by rw [f24]; exact Int.le_refl _) (by rw [f25]; exact Int.le_refl _) hj (xt j hj)
        rw [mxz.2.1 c (by omega) (by intro q; simp only [List.mem_cons, List.not_mem_nil, or_false] at q; omega)]
      · exact PT_keep nn1z (Int.le_refl _) (m1z.1 25 (by decide)) (m1z.1 26 (by decide)) (m1z.1 27 (by decide)) (m1z.2.1 39 (by decide) (by decide)) (m1z.2.1 40 (by decide) (by decide)) (m1z.2.1 41 (by decide) (by decide)) p1.2.2.2.2
    have p339 : (¬ z.1 0 9 = 0 ∨ ¬ l1 = 11) → MT G (D + 86) z_readDef 339 [(0, vr 0), (5, vi r4)] [] z (rv Fv) := by
      intro hc
      refine sg_readDef_339 _ ⟨fun c => rv_i (h _ (bad c) (badF c)), fun c => ?_⟩
      have bz : (z.1 0 9).toInt = 0 := by rw [c]; rfl
      obtain ⟨w1, w2, w3, w4, w5, w6, w7, s, w8, w9⟩ := good bz
      have nl1 : ¬ l1 = 11 := hc.resolve_left (fun q => q c)
      have n4 := w1.2 nl1
      rw [← f27, t_eq, k4] at n4
      obtain ⟨b1, b2, b3, b4, b5, b6, b7, b8, b9, b10, b11, b12⟩ := id w5
      refine ⟨by rw [vp_in_iff]; omega, fun v ev' y' ey => ?_⟩
      have mv := md_a z 41 (z.1 0 27).toNatClampNeg r4 (by decide)
      rw [← ev'] at mv
      have my := md_f v 27 (v.1 0 27 + 1)
      rw [← ey] at my
      have mzy : md [27] [41] z y' := md_tr mv my rfl rfl
      have e8 : y'.1 0 8 = z.1 0 8 := mzy.1 8 (by decide)
      have e9 : y'.1 0 9 = z.1 0 9 := mzy.1 9 (by decide)
      have e13 : y'.1 0 13 = z.1 0 13 := mzy.1 13 (by decide)
      have e23 : y'.1 0 23 = z.1 0 23 := mzy.1 23 (by decide)
      have e24 : y'.1 0 24 = z.1 0 24 := mzy.1 24 (by decide)
      have e25 : y'.1 0 25 = z.1 0 25 := mzy.1 25 (by decide)
      have e26 : y'.1 0 26 = z.1 0 26 := mzy.1 26 (by decide)
      have e28 : y'.1 0 28 = z.1 0 28 := mzy.1 28 (by decide)
      have e27 : (y'.1 0 27).toInt = (z.1 0 27).toInt + 1 := by rw [ey, si_get, if_pos ⟨rfl, rfl⟩, mv.1 27 (by decide), t_add (by omega) (by omega), k1]
      have m41 : ∀ j : Nat, y'.1 41 j = if j = (z.1 0 27).toNatClampNeg then r4 else z.1 41 j := fun j => by
        rw [my.2.1 41 (by decide) (by intro q; cases q), ev', si_get]
        by_cases q : j = (z.1 0 27).toNatClampNeg
        · rw [if_pos ⟨rfl, q⟩, if_pos q]
        · rw [if_neg (fun z => q z.2), if_neg q]
      have mxy : md [8, 9, 10, 13, 20, 21, 27] [15, 16, 17, 18, 19, 20, 41] x y' := md_tr mxz mzy rfl rfl
      have nzy : NN z y' := NN_md mzy (by decide) (by intro c h1 h2 q; simp only [List.mem_cons, List.not_mem_nil, or_false] at q; omega)
      have nnx : NN x y' := ⟨by have := nnxz.1; have := nzy.1; omega, fun c h1 h2 j hj => by rw [nzy.2 c h1 h2 j (by have := nnxz.1; omega), nnxz.2 c h1 h2 j hj]⟩
      obtain ⟨vn, vg⟩ := vz bz
      have vy : vV y' true vn r4 ME := vV_keep nzy.1 (mzy.2.1 5 (by decide) (by decide)) (mzy.2.1 7 (by decide) (by decide)) (fun c h1 h2 j hj => nzy.2 c h1 (by omega) j hj) vn r4 ME vg
      refine rv_i (h _ ?_ ⟨_, cz0 y' (nwo_e e8 e9) ?_, fun _ => ⟨nnx, Or.inr (Or.inr (Or.inr (Or.inr ⟨vn, i, r4, ME, mxy, by rw [e27, f27], fun j => by rw [m41, f27, mxz.2.1 41 (by decide) (by decide)], vy, by rw [eev, if_neg nl1]⟩)))⟩⟩)
      rotate_left
      · have a : (y'.1 0 27).toNatClampNeg = n.2.2.2.2 + 1 := by
          have : (z.1 0 27).toInt = (x.1 0 27).toInt := by rw [f27]
          rw [n5, t_cl, t_cl]; omega
        rw [enc, if_neg nl1]
        unfold cn
        rw [a, en]
        unfold cn
        rw [mxy.1 23 (by decide), mxy.1 24 (by decide), mxy.1 25 (by decide), mxy.1 26 (by decide)]
      refine ⟨md_tr mxz mzy rfl rfl, ⟨by rw [e8]; exact rz.2.1.1, by rw [e8]; exact rz.2.1.2.1, by rw [e9]; exact rz.2.1.2.2.1, TX_md mzy (by decide) (by decide) (by decide) (by decide) rz.2.1.2.2.2⟩, fun _ => ⟨⟨by rw [e13]; exact w3, by unfold cr; rw [e8, e13]; exact w4, ?_, fun j hj => ?_, ?_⟩, by rw [e8]; exact w2⟩⟩
      · unfold GB
        rw [e23, e24, e25, e26, e28]
        exact ⟨b1, b2, b3, b4, b5, b6, b7, b8, by omega, by omega, b11, b12⟩
      · rw [e28] at hj
        exact tE_keep (fun c h1 h2 i _ => by rw [mzy.2.1 c (by omega) (by intro q; simp only [List.mem_cons, List.not_mem_nil, or_false] at q; omega)]) (by rw [e23]; exact Int.le_refl _) (by rw [e24]; exact Int.le_refl _) (by rw [e25]; exact Int.le_refl _) hj (w6 j hj)
      · exact PT_fi w7 (NN_md mzy (by decide) (by intro c h1 h2 q; simp only [List.mem_cons, List.not_mem_nil, or_false] at q; omega)) b9 e27 (e := r4) m41 e25 (mzy.2.1 39 (by decide) (by decide)) e26 (mzy.2.1 40 (by decide) (by decide)) w8 (by rw [e8]; exact w9)
    refine ⟨fun c => p339 (Or.inl c), fun c => ⟨fun c2 => p339 (Or.inr c2), fun c2 => ?_⟩⟩
    have bz : (z.1 0 9).toInt = 0 := by rw [c]; rfl
    obtain ⟨w1, w2, w3, w4, w5, w6, w7, s, w8, w9⟩ := good bz
    have n4' := w1.1 c2
    rw [← f26, t_eq, k4] at n4'
    obtain ⟨b1, b2, b3, b4, b5, b6, b7, b8, b9, b10, b11, b12⟩ := id w5
    refine ⟨by rw [vp_in_iff]; omega, fun v ev' y' ey => ?_⟩
    have mv := md_a z 40 (z.1 0 26).toNatClampNeg r4 (by decide)
    rw [← ev'] at mv
    have my := md_f v 26 (v.1 0 26 + 1)
    rw [← ey] at my
    have mzy : md [26] [40] z y' := md_tr mv my rfl rfl
    have e8 : y'.1 0 8 = z.1 0 8 := mzy.1 8 (by decide)
    have e9 : y'.1 0 9 = z.1 0 9 := mzy.1 9 (by decide)
    have e13 : y'.1 0 13 = z.1 0 13 := mzy.1 13 (by decide)
    have e23 : y'.1 0 23 = z.1 0 23 := mzy.1 23 (by decide)
    have e24 : y'.1 0 24 = z.1 0 24 := mzy.1 24 (by decide)
    have e25 : y'.1 0 25 = z.1 0 25 := mzy.1 25 (by decide)
    have e27 : y'.1 0 27 = z.1 0 27 := mzy.1 27 (by decide)
    have e28 : y'.1 0 28 = z.1 0 28 := mzy.1 28 (by decide)
    have e26 : (y'.1 0 26).toInt = (z.1 0 26).toInt + 1 := by rw [ey, si_get, if_pos ⟨rfl, rfl⟩, mv.1 26 (by decide), t_add (by omega) (by omega), k1]
    have m40 : ∀ j : Nat, y'.1 40 j = if j = (z.1 0 26).toNatClampNeg then r4 else z.1 40 j := fun j => by
      rw [my.2.1 40 (by decide) (by intro q; cases q), ev', si_get]
      by_cases q : j = (z.1 0 26).toNatClampNeg
      · rw [if_pos ⟨rfl, q⟩, if_pos q]
      · rw [if_neg (fun z => q z.2), if_neg q]
    have mxy : md [8, 9, 10, 13, 20, 21, 26] [15, 16, 17, 18, 19, 20, 40] x y' := md_tr mxz mzy rfl rfl
    have nzy : NN z y' := NN_md mzy (by decide) (by intro c h1 h2 q; simp only [List.mem_cons, List.not_mem_nil, or_false] at q; omega)
    have nnx : NN x y' := ⟨by have := nnxz.1; have := nzy.1; omega, fun c h1 h2 j hj => by rw [nzy.2 c h1 h2 j (by have := nnxz.1; omega), nnxz.2 c h1 h2 j hj]⟩
    obtain ⟨vn, vg⟩ := vz bz
    have vy : vV y' true vn r4 ME := vV_keep nzy.1 (mzy.2.1 5 (by decide) (by decide)) (mzy.2.1 7 (by decide) (by decide)) (fun c h1 h2 j hj => nzy.2 c h1 (by omega) j hj) vn r4 ME vg
    refine rv_i (h _ ?_ ⟨_, cz0 y' (nwo_e e8 e9) ?_, fun _ => ⟨nnx, Or.inr (Or.inr (Or.inr (Or.inl ⟨vn, i, r4, ME, mxy, by rw [e26, f26], fun j => by rw [m40, f26, mxz.2.1 40 (by decide) (by decide)], vy, by rw [eev, if_pos c2]⟩)))⟩⟩)
    rotate_left
    · have a : (y'.1 0 26).toNatClampNeg = n.2.2.2.1 + 1 := by
        have : (z.1 0 26).toInt = (x.1 0 26).toInt := by rw [f26]
        rw [n4, t_cl, t_cl]; omega
      rw [enc, if_pos c2]
      unfold cn
      rw [a, en]
      unfold cn
      rw [mxy.1 23 (by decide), mxy.1 24 (by decide), mxy.1 25 (by decide), mxy.1 27 (by decide)]
    refine ⟨md_tr mxz mzy rfl rfl, ⟨by rw [e8]; exact rz.2.1.1, by rw [e8]; exact rz.2.1.2.1, by rw [e9]; exact rz.2.1.2.2.1, TX_md mzy (by decide) (by decide) (by decide) (by decide) rz.2.1.2.2.2⟩, fun _ => ⟨⟨by rw [e13]; exact w3, by unfold cr; rw [e8, e13]; exact w4, ?_, fun j hj => ?_, ?_⟩, by rw [e8]; exact w2⟩⟩
    · unfold GB
      rw [e23, e24, e25, e27, e28]
      exact ⟨b1, b2, b3, b4, b5, b6, by omega, by omega, b9, b10, b11, b12⟩
    · rw [e28] at hj
      exact tE_keep (fun c h1 h2 i _ => by rw [mzy.2.1 c (by omega) (by intro q; simp only [List.mem_cons, List.not_mem_nil, or_false] at q; omega)]) (by rw [e23]; exact Int.le_refl _) (by rw [e24]; exact Int.le_refl _) (by rw [e25]; exact Int.le_refl _) hj (w6 j hj)
    · exact PT_al w7 (NN_md mzy (by decide) (by intro c h1 h2 q; simp only [List.mem_cons, List.not_mem_nil, or_false] at q; omega)) b7 e26 (e := r4) m40 e25 (mzy.2.1 39 (by decide) (by decide)) e27 (mzy.2.1 41 (by decide) (by decide)) w8 (by rw [e8]; exact w9)
  have p266 : ∀ (l1 s0 : Int32), l1 = K i → (l1 = 11 ∨ l1 = 21) → ((l1 = 11 → s0 = x.1 0 26) ∧ (¬ l1 = 11 → s0 = x.1 0 27)) → MT G (D + 86) z_readDef 266 [(0, vr 0), (1, vi l1)] [vi s0] x (rv Fv) := by
    intro l1 s0 el1 h1 hs
    have pd : ∀ L, pD K V n i L = if (if l1 = 11 then n.2.2.2.1 else n.2.2.2.2) < 4 then (ps1 i).bind (fun j => ((pX K true 16 j (L ++ [(ev l1, i, 0)])).bind (pt K 67)).bind (fun q => some (nc l1, q))) else none := fun L => pD_cl el1 h1 (eev l1) (enc l1)
    have cnt : (if l1 = 11 then n.2.2.2.1 else n.2.2.2.2) = s0.toNatClampNeg := by
      by_cases c : l1 = 11
      · rw [if_pos c, n4, hs.1 c]
      · rw [if_neg c, n5, hs.2 c]
    have s4 : s0.toInt ≤ 4 := by
      by_cases c : l1 = 11
      · rw [hs.1 c]; exact g8
      · rw [hs.2 c]; exact g10
    have u := t_cl s0
    refine sg_readDef_266 _ _ ⟨fun c => p279 l1 x (SS_rf pn) (fun _ => ⟨fun e => ?_, fun e => ?_⟩) (at_i (fun L => ?_)), fun c => sp_fault _ _ (by decide) pv pn (fun y s hb' _ _ => p279 l1 y s (fun q => by omega) (no_i (fun L => ?_) (nwo_b hb')))⟩
    · rw [← hs.1 e]; exact c
    · rw [← hs.2 e]; exact c
    · rw [t_eq, k4] at c
      rw [pd L, cnt, if_pos (by omega)]
    · rw [t_eq, k4] at c
      rw [pd L, cnt, if_neg (by omega)]
  have r2i : ∀ r2 : Int32, ((x.1 0 9).toInt = 0 → r2 = x.1 5 (x.1 0 8).toNatClampNeg) → r2 = K i := fun r2 q => by rw [q hb, eK, ei]
  have u2 := t_cl (x.1 0 24)
  have u3 := t_cl (x.1 0 25)
  refine sg_readDef_0 (sp_here pn (fun r2 _ hr => ⟨fun c0 => sf_readCell pn pg hb ?_ (fun x' q1 q2 => rv_i (h x' q1 q2)), fun c0 => ⟨fun c => p99 x (SS_rf pn) (fun _ => c) (at_i (fun L => ?_)), fun c => sp_fault _ _ (by decide) pv pn (fun y s hb' _ _ => p99 y s (fun q => by omega) (no_i (fun L => ?_) (nwo_b hb')))⟩, fun c0 => ⟨fun c => p163 x (SS_rf pn) (fun _ => c) ⟨fun q => at_i (fun L => ?_), fun q => at_i (fun L => ?_)⟩ (Or.inr ni), fun c => sp_fault _ _ (by decide) pv pn (fun y s hb' _ _ => p163 y s (fun q => by omega) ⟨fun q => no_i (fun L => ?_) (nwo_b hb'), fun q => no_i (fun L => ?_) (nwo_b hb')⟩ (Or.inl (nwo_b hb')))⟩, fun c0 => ⟨fun c => p266 r2 _ (r2i r2 hr) c0 ⟨fun e => absurd e c, fun _ => rfl⟩, fun c => p266 r2 _ (r2i r2 hr) c0 ⟨fun _ => rfl, fun e => absurd c e⟩⟩, fun c0 => sp_fault _ _ (by decide) pv pn (fun y s hb' _ _ => rv_i (h _ (QD_bad s (by omega)) ⟨[], fun L => ?_, fun q => by omega⟩))⟩))
  · rw [← hr hb]; exact c0.elim Or.inr Or.inl
  · rw [t_eq, k6] at c
    exact pD_lk ((r2i r2 hr).symm.trans c0) (by omega)
  · rw [t_eq, k6] at c
    exact pD_lk0 ((r2i r2 hr).symm.trans c0) (by omega)
  · rw [t_eq, k6] at c
    exact pD_th1 q (by omega) (fun t j => etb 1 L t j)
  · rw [t_eq, k6] at c
    exact pD_th0 ((r2i r2 hr).symm.trans (c0.resolve_left (fun z => q ((r2i r2 hr).symm.trans z)))) (by omega) (fun t j => etb 0 L t j)
  · rw [t_eq, k6] at c
    exact pD_th6 (c0.imp (fun z => (r2i r2 hr).symm.trans z) (fun z => (r2i r2 hr).symm.trans z)) (by omega)
  · rw [t_eq, k6] at c
    exact pD_th6 (c0.imp (fun z => (r2i r2 hr).symm.trans z) (fun z => (r2i r2 hr).symm.trans z)) (by omega)
  · rw [hx L, ni, nwo_b hb']
    have q := r2i r2 hr
    have no : ∀ k ∈ [(17 : Int32), 34, 27, 23, 37, 11, 21], ¬ K i = k := fun k hk e => c0 k hk (q.trans e)
    show pD K V n i L = none
    unfold pD
    rw [if_neg (no 34 (by decide)), if_neg (no 17 (by decide)), if_neg (no 27 (by decide)), if_neg (no 23 (by decide)), if_neg (no 37 (by decide)), if_neg (no 11 (by decide)), if_neg (no 21 (by decide))]
end
section
/-- the definitions one behind the other -/
def mQ (x x' : gd) : Prop := md [8, 9, 10, 13, 20, 21, 23, 24, 25, 26, 27, 28] [15, 16, 17, 18, 19, 20, 30, 31, 32, 33, 34, 35, 36, 37, 38, 39, 40, 41] x x'
end
section
/-! the whole text as it is read: Ds, what each definition told -/
def te (K V : Nat → Int32) : gU → Option (Nat × Nat × Nat × Nat)
  | [] => none
  | v :: _ => if v.1 = 31 then some (v.2.1, 0, 0, 0) else if v.1 = 32 then some (v.2.1, 0, prz K V v.2.2, v.2.2) else if v.1 = 33 then some (v.2.1, 1, 0, 0) else if v.1 = 34 then some (v.2.1, 2, 0, 0) else none
def bN (u : Nat) : gU → Option gU
  | [] => none
  | v :: M => if v.1 = u then some M else none
/-- a told name: its token, sort, how many cells its row has (0: no row), the row's whole -/
def tdE (z : gd) (j : Nat) (q : Nat × Nat × Nat × Nat) : Prop := vp_in (z.1 30 j) 710 ∧ (z.1 30 j).toNatClampNeg = q.1 ∧ (z.1 31 j).toInt = q.2.1 ∧ ((q.2.2.1 = 0 ∧ z.1 34 j = 0) ∨ (0 < q.2.2.1 ∧ z.1 34 j = 1 ∧ (z.1 33 j).toNatClampNeg = q.2.2.1 ∧ vp_in (z.1 35 j) 710 ∧ (z.1 35 j).toNatClampNeg = q.2.2.2))
def PV4 (z : gd) (Ds : List gU) : Prop :=
  ((Ds.filterMap (te (z.1 5) (z.1 7))).length = (z.1 0 28).toNatClampNeg ∧ ∀ j q, (Ds.filterMap (te (z.1 5) (z.1 7)))[j]? = some q → tdE z j q) ∧
  ((Ds.filterMap (bN 34)).length = (z.1 0 25).toNatClampNeg ∧ ∀ t N, (Ds.filterMap (bN 34))[t]? = some N → wB z 0 (wSt z 0 17) 0 (z.1 39 t) N) ∧
  ((Ds.filterMap (bN 35)).length = (z.1 0 26).toNatClampNeg ∧ ∀ t N, (Ds.filterMap (bN 35))[t]? = some N → ∃ n N', vV z true n (z.1 40 t) N' ∧ N = N' ++ [(54, 0, 0)]) ∧
  ((Ds.filterMap (bN 36)).length = (z.1 0 27).toNatClampNeg ∧ ∀ t N, (Ds.filterMap (bN 36))[t]? = some N → ∃ n N', vV z true n (z.1 41 t) N' ∧ N = N' ++ [(54, 0, 0)])
/-- a definition's uses: what begins it, and which may follow -/
def shq (M : gU) : Prop := ∃ v N, M = v :: N ∧ (((v.1 = 31 ∨ v.1 = 32) ∧ ∀ w ∈ N, 80 ≤ w.1) ∨ (v.1 = 33 ∧ N = []) ∨ v.1 = 34 ∨ v.1 = 35 ∨ v.1 = 36)
def PV (z : gd) (Ds : List gU) : Prop := PV4 z Ds ∧ ∀ M ∈ Ds, shq M
theorem sn_get {α : Type} {T : List α} {q : α} {P : Nat → α → Prop} (h : ∀ j r, T[j]? = some r → P j r) (hq : P T.length q) : ∀ j r, (T ++ [q])[j]? = some r → P j r := by
  intro j r e
  by_cases c : j < T.length
  · rw [List.getElem?_append_left c] at e
    exact h j r e
  · rw [List.getElem?_append_right (by omega)] at e
    have c2 : j - T.length = 0 := by
      by_cases d : j - T.length = 0
      · exact d
      · rw [List.getElem?_eq_none (by show 1 ≤ j - T.length; omega)] at e
        exact absurd e (by simp)
    rw [c2] at e
    have e2 : q = r := by simpa using e
    have ej : j = T.length := by omega
    rw [ej, ← e2]
    exact hq
theorem fm_one {α β : Type} {f : α → Option β} {D : List α} {M : α} {r : β} (h : f M = some r) : (D ++ [M]).filterMap f = D.filterMap f ++ [r] := by
  rw [List.filterMap_append]
  simp [h]
theorem fm_no {α β : Type} {f : α → Option β} {D : List α} {M : α} (h : f M = none) : (D ++ [M]).filterMap f = D.filterMap f := by
  rw [List.filterMap_append]
  simp [h]
theorem gt_lt {α : Type} {T : List α} {j : Nat} {r : α} (h : T[j]? = some r) : j < T.length := by
  by_cases c : j < T.length
  · exact c
  · rw [List.getElem?_eq_none (by omega)] at h
    exact absurd h (by simp)
theorem prz_pos {K V : Nat → Int32} {w : Nat} : 0 < prz K V w := by
  unfold prz
  split
  · next c =>
    have c1 := c.2.1
    rw [t_le] at c1
    have k1 : (1 : Int32).toInt = 1 := rfl
    rw [t_cl]
    omega
  · omega
/-- what is told before stays told -/
theorem tdE_keep {z y : gd} {j : Nat} {q : Nat × Nat × Nat × Nat} (h : ∀ c : Nat, 30 ≤ c → c ≤ 35 → y.1 c j = z.1 c j) (g : tdE z j q) : tdE y j q := by
  unfold tdE at g ⊢
  rw [h 30 (by decide) (by decide), h 31 (by decide) (by decide), h 33 (by decide) (by decide), h 34 (by decide) (by decide), h 35 (by decide) (by decide)]
  exact g
theorem tAd_low {x y : gd} {a b c d e f : Int32} (h : tAd x y a b c d e f) {j : Nat} (hj : j < (x.1 0 28).toNatClampNeg) : ∀ c : Nat, 30 ≤ c → c ≤ 35 → y.1 c j = x.1 c j := by
  intro c' h1 h2
  have hne : ¬ j = (x.1 0 28).toNatClampNeg := by omega
  obtain ⟨-, a0, a1, a2, a3, a4, a5⟩ := h
  have hc : c' = 30 ∨ c' = 31 ∨ c' = 32 ∨ c' = 33 ∨ c' = 34 ∨ c' = 35 := by omega
  rcases hc with rfl | rfl | rfl | rfl | rfl | rfl
  · rw [a0, if_neg hne]
  · rw [a1, if_neg hne]
  · rw [a2, if_neg hne]
  · rw [a3, if_neg hne]
  · rw [a4, if_neg hne]
  · rw [a5, if_neg hne]
theorem vV_80 {x : gd} {o : Bool} : ∀ {n : Nat} {e : Int32} {M : gU}, vV x o n e M → ∀ v ∈ M, v.1 < 31 ∨ (36 < v.1 ∧ v.1 < 80) := by
  intro n
  induction n with
  | zero => intro e M h; exact h.elim
  | succ n ih =>
    intro e M h
    obtain ⟨-, h⟩ := h
    have one : ∀ {k a b : Nat}, k < 31 ∨ (36 < k ∧ k < 80) → ∀ v ∈ [(k, a, b)], v.1 < 31 ∨ (36 < v.1 ∧ v.1 < 80) := fun hk v hv => by rw [List.mem_singleton.mp hv]; exact hk
    rcases h with ⟨q, r, _⟩ | ⟨q, r⟩ | ⟨q, r⟩ | ⟨q, r, _⟩ | ⟨q, M1, g, r⟩ | ⟨q, M1, M2, g1, g2, _, r⟩
    · rw [r]; exact one (by decide)
    · rw [r]; exact one (by decide)
    · rw [r]; cases o <;> exact one (by decide)
    · rw [r]
      intro v hv
      rcases List.mem_cons.mp hv with hv | hv
      · rw [hv]; exact Or.inl (by show 7 < 31; decide)
      · exact one (by decide) v hv
    · rcases r with ⟨_, r2⟩ | ⟨_, _, r3⟩
      · rw [r2]; exact ih g
      · rw [r3]; exact fun v hv => (List.mem_append.mp hv).elim (ih g v) (one (by decide) v)
    · rw [r]
      exact fun v hv => (List.mem_append.mp hv).elim (ih g1 v) (fun hv => (List.mem_append.mp hv).elim (ih g2 v) (one (by decide) v))
def lo80 (M : gU) : Prop := ∀ v ∈ M, v.1 < 31 ∨ (36 < v.1 ∧ v.1 < 80)
theorem lo_k {k a b : Nat} (h : k < 31 ∨ (36 < k ∧ k < 80)) : lo80 [(k, a, b)] := fun v hv => by rw [List.mem_singleton.mp hv]; exact h
theorem lo_app {M N : gU} (h : lo80 M) (g : lo80 N) : lo80 (M ++ N) := fun v hv => (List.mem_append.mp hv).elim (h v) (g v)
theorem lo_54 {M : gU} (h : lo80 M) : lo80 (M ++ [(54, 0, 0)]) := lo_app h (lo_k (by decide))
theorem lo_nil : lo80 [] := fun _ h => by cases h
theorem vQ_80 {x : gd} {p : Int32} {M : gU} (h : vQ x p M) : lo80 M := by
  obtain ⟨-, ⟨_, h⟩ | ⟨_, n, M1, h1, h⟩⟩ := h
  · rw [h]; exact lo_k (by decide)
  · rw [h]; exact lo_app (lo_k (by decide)) (lo_54 (vV_80 h1))
theorem vRr_80 {x : gd} {r : Int32} {tg : Option Nat} {M : gU} (h : vRr x r tg M) : lo80 M := by
  have sa : lo80 (pma tg) := by cases tg with | none => exact lo_nil | some t => exact lo_k (by decide)
  have se : lo80 (pme tg) := by cases tg with | none => exact lo_nil | some t => exact lo_k (by decide)
  obtain ⟨b, t, et, h⟩ := h
  rcases h with ⟨q1, q2, q3, q4, q5, q6⟩ | ⟨q1, q2, n, M1, q3, q4⟩ | ⟨q1, M1, q2, q3⟩ | ⟨q1, n, M1, M2, q2, q3, q4⟩ | ⟨q1, q2, n, m, M1, M2, M3, q3, q4, q5, q6⟩
  · rw [q3]; cases tg with | none => exact lo_k (by decide) | some t => exact lo_k (by decide)
  · rw [q4]; exact lo_app sa (lo_app (lo_54 (vV_80 q3)) (lo_k (by decide)))
  · rw [q3]; exact lo_app se (lo_app (vQ_80 q2) (lo_k (by decide)))
  · rw [q4]; exact lo_app se (lo_app (vQ_80 q2) (lo_app (lo_54 (vV_80 q3)) (lo_k (by decide))))
  · rw [q6]; exact lo_app se (lo_app (vQ_80 q3) (lo_app (lo_54 (vV_80 q4)) (lo_app (lo_54 (vV_80 q5)) (lo_k (by decide)))))
theorem wB_lo {x : gd} {m : Int} {V : Int32 → gU → Prop} {z : Nat} {e : Int32} {M : gU} (hV : ∀ e M, V e M → lo80 M) (h : wB x m V z e M) : lo80 M := by
  obtain ⟨-, -, R, -, h5, rfl⟩ := h
  refine lo_app (lo_k (by decide)) (lo_app ?_ (lo_k (by decide)))
  intro v hv
  obtain ⟨q, hq, hv⟩ := List.mem_flatMap.mp hv
  exact hV _ _ (h5 q hq).1 v hv
theorem wS_lo {x : gd} {m : Int} : ∀ (k : Nat) (e : Int32) (M : gU), wSt x m k e M → lo80 M := by
  intro k
  induction k with
  | zero => intro e M h; exact h.elim
  | succ k ih =>
    intro e M h
    obtain ⟨-, -, h⟩ := h
    unfold wD at h
    rcases h with ⟨g, N, q1, q⟩ | ⟨g, _, N1, q1, q⟩ | ⟨g, _, _, _, N1, N2, q1, q2, q⟩ | ⟨g, n1, N1, N2, N3, q1, q2, _, q3, q⟩ | ⟨g, _, N1, N2, q1, q2, _, q⟩ | ⟨g, N2, q1, _, q⟩ | ⟨g, _, ⟨_, q⟩ | ⟨_, q⟩⟩ | ⟨g, _, q⟩ | ⟨g, _, _, N1, q1, q⟩ | ⟨g, _, N1, q1, q⟩ | ⟨g, _, q⟩
    · rw [q]; exact lo_app (lo_k (by decide)) (lo_app (vRr_80 q1.1) (lo_k (by decide)))
    · rw [q]; exact lo_app (vRr_80 q1.1) (lo_k (by decide))
    · rw [q]; exact lo_app (lo_k (by decide)) (lo_app (lo_54 (vV_80 q1)) (lo_app (lo_54 (vV_80 q2)) (lo_k (by decide))))
    · rw [q]
      have n3 : lo80 N3 := by
        rcases q3 with ⟨_, q3⟩ | ⟨_, _, j, N4, q4, q5 | ⟨_, q5, N5, q6⟩⟩
        · rw [q3]; exact lo_nil
        · rw [q4]; exact lo_app (lo_k (by decide)) (wB_lo ih q5)
        · rw [q4]; exact lo_app (lo_k (by decide)) (ih _ _ q5)
      exact lo_app (lo_54 (vV_80 q1)) (lo_app (lo_k (by decide)) (lo_app (wB_lo ih q2) (lo_app n3 (lo_k (by decide)))))
    · rw [q]; exact lo_app (lo_54 (vV_80 q1)) (lo_app (lo_k (by decide)) (wB_lo ih q2))
    · rw [q]; exact lo_app (lo_k (by decide)) (wB_lo ih q1)
    · rw [q]; exact lo_k (by decide)
    · rw [q]; exact lo_k (by decide)
    · rw [q]; exact lo_k (by decide)
    · rw [q]; exact lo_app (lo_54 (vV_80 q1)) (lo_k (by decide))
    · rw [q]; exact lo_app (lo_54 (vV_80 q1)) (lo_k (by decide))
    · rw [q]; exact lo_k (by decide)
theorem lo_not {M : gU} (h : lo80 M) : ∀ v ∈ M, ¬ (v.1 = 31 ∨ v.1 = 32 ∨ 80 ≤ v.1) := fun v hv q => by
  have := h v hv
  omega
section PVS
variable {z y : gd} {Ds : List gU} {M : gU}
theorem NN_vV (h : NN z y) (h5 : y.1 5 = z.1 5) (h7 : y.1 7 = z.1 7) {o : Bool} {n : Nat} {e : Int32} {N : gU} (g : vV z o n e N) : vV y o n e N := vV_keep h.1 h5 h7 (fun c h1 h2 j hj => h.2 c h1 (by omega) j hj) n e N g
theorem NN_wB (h : NN z y) (h5 : y.1 5 = z.1 5) (h7 : y.1 7 = z.1 7) {v : Nat} {e : Int32} {N : gU} (g : wB z 0 (wSt z 0 17) v e N) : wB y 0 (wSt y 0 17) v e N :=
  wB_keep (Int.le_refl _) (l := e.toInt) ⟨NN_NL 0 e.toInt h, h5, h7⟩ (fun _ _ he g => wS_keep (Int.le_refl _) (l := e.toInt) ⟨NN_NL 0 e.toInt h, h5, h7⟩ _ _ _ he g) (Int.le_refl _) g
/-- the told names, one more -/
theorem PV_told {a b c d e f : Int32} {q : Nat × Nat × Nat × Nat} (h : (Ds.filterMap (te (z.1 5) (z.1 7))).length = (z.1 0 28).toNatClampNeg ∧ ∀ j q, (Ds.filterMap (te (z.1 5) (z.1 7)))[j]? = some q → tdE z j q) (g : GB z) (h5 : y.1 5 = z.1 5) (h7 : y.1 7 = z.1 7) (t : tAd z y a b c d e f) (hq : te (z.1 5) (z.1 7) M = some q) (ha : vp_in a 710 ∧ a.toNatClampNeg = q.1 ∧ b.toInt = q.2.1 ∧ ((q.2.2.1 = 0 ∧ vp_nar .boolean e = 0) ∨ (0 < q.2.2.1 ∧ vp_nar .boolean e = 1 ∧ d.toNatClampNeg = q.2.2.1 ∧ vp_in f 710 ∧ f.toNatClampNeg = q.2.2.2))) : ((Ds ++ [M]).filterMap (te (y.1 5) (y.1 7))).length = (y.1 0 28).toNatClampNeg ∧ ∀ j q, ((Ds ++ [M]).filterMap (te (y.1 5) (y.1 7)))[j]? = some q → tdE y j q := by
  have g28 := vp_in_iff.mp (GB_v g)
  have k1 : (1 : Int32).toInt = 1 := rfl
  have u : (y.1 0 28).toNatClampNeg = (z.1 0 28).toNatClampNeg + 1 := by
    have e1 := t_add (a := z.1 0 28) (b := 1) (by omega) (by omega)
    rw [← t.1] at e1
    rw [t_cl, t_cl]
    omega
  rw [h5, h7, fm_one hq]
  refine ⟨by rw [List.length_append, h.1, u]; rfl, sn_get (fun j r hr => ?_) ?_⟩
  · have hj := gt_lt hr
    rw [h.1] at hj
    exact tdE_keep (tAd_low t hj) (h.2 j r hr)
  · rw [h.1]
    obtain ⟨-, a0, a1, a2, a3, a4, a5⟩ := t
    unfold tdE
    rw [a0, a1, a3, a4, a5, if_pos rfl, if_pos rfl, if_pos rfl, if_pos rfl, if_pos rfl]
    exact ha
theorem PV_toldk (h : (Ds.filterMap (te (z.1 5) (z.1 7))).length = (z.1 0 28).toNatClampNeg ∧ ∀ j q, (Ds.filterMap (te (z.1 5) (z.1 7)))[j]? = some q → tdE z j q) (h5 : y.1 5 = z.1 5) (h7 : y.1 7 = z.1 7) (h28 : y.1 0 28 = z.1 0 28) (ha : ∀ c : Nat, 30 ≤ c → c ≤ 35 → y.1 c = z.1 c) (hq : te (z.1 5) (z.1 7) M = none) : ((Ds ++ [M]).filterMap (te (y.1 5) (y.1 7))).length = (y.1 0 28).toNatClampNeg ∧ ∀ j q, ((Ds ++ [M]).filterMap (te (y.1 5) (y.1 7)))[j]? = some q → tdE y j q := by
  rw [h5, h7, fm_no hq, h28]
  exact ⟨h.1, fun j q e => tdE_keep (fun c h1 h2 => by rw [ha c h1 h2]) (h.2 j q e)⟩
theorem PV_th (h : (Ds.filterMap (bN 34)).length = (z.1 0 25).toNatClampNeg ∧ ∀ t N, (Ds.filterMap (bN 34))[t]? = some N → wB z 0 (wSt z 0 17) 0 (z.1 39 t) N) (nn : NN z y) (h5 : y.1 5 = z.1 5) (h7 : y.1 7 = z.1 7) (h25 : y.1 0 25 = z.1 0 25) (h39 : y.1 39 = z.1 39) (hq : bN 34 M = none) : ((Ds ++ [M]).filterMap (bN 34)).length = (y.1 0 25).toNatClampNeg ∧ ∀ t N, ((Ds ++ [M]).filterMap (bN 34))[t]? = some N → wB y 0 (wSt y 0 17) 0 (y.1 39 t) N := by
  rw [fm_no hq, h25, h39]
  exact ⟨h.1, fun t N e => NN_wB nn h5 h7 (h.2 t N e)⟩
theorem PV_cl {u c k : Nat} (h : (Ds.filterMap (bN u)).length = (z.1 0 k).toNatClampNeg ∧ ∀ t N, (Ds.filterMap (bN u))[t]? = some N → ∃ n N', vV z true n (z.1 c t) N' ∧ N = N' ++ [(54, 0, 0)]) (nn : NN z y) (h5 : y.1 5 = z.1 5) (h7 : y.1 7 = z.1 7) (hk : y.1 0 k = z.1 0 k) (hc : y.1 c = z.1 c) (hq : bN u M = none) : ((Ds ++ [M]).filterMap (bN u)).length = (y.1 0 k).toNatClampNeg ∧ ∀ t N, ((Ds ++ [M]).filterMap (bN u))[t]? = some N → ∃ n N', vV y true n (y.1 c t) N' ∧ N = N' ++ [(54, 0, 0)] := by
  rw [fm_no hq, hk, hc]
  refine ⟨h.1, fun t N e => ?_⟩
  obtain ⟨n, N', g, e2⟩ := h.2 t N e
  exact ⟨n, N', NN_vV nn h5 h7 g, e2⟩
theorem PV_cl1 {u c k n : Nat} {r : Int32} {N : gU} (h : (Ds.filterMap (bN u)).length = (z.1 0 k).toNatClampNeg ∧ ∀ t N, (Ds.filterMap (bN u))[t]? = some N → ∃ n N', vV z true n (z.1 c t) N' ∧ N = N' ++ [(54, 0, 0)]) (nn : NN z y) (h5 : y.1 5 = z.1 5) (h7 : y.1 7 = z.1 7) (h0 : 0 ≤ (z.1 0 k).toInt) (hk : (y.1 0 k).toInt = (z.1 0 k).toInt + 1) (hc : ∀ j : Nat, y.1 c j = if j = (z.1 0 k).toNatClampNeg then r else z.1 c j) (hq : bN u M = some (N ++ [(54, 0, 0)])) (hv : vV y true n r N) : ((Ds ++ [M]).filterMap (bN u)).length = (y.1 0 k).toNatClampNeg ∧ ∀ t N, ((Ds ++ [M]).filterMap (bN u))[t]? = some N → ∃ n N', vV y true n (y.1 c t) N' ∧ N = N' ++ [(54, 0, 0)] := by
  rw [fm_one hq]
  refine ⟨by rw [List.length_append, h.1, cl_up h0 hk]; rfl, sn_get (fun t N e => ?_) ?_⟩
  · obtain ⟨n, N', g, e2⟩ := h.2 t N e
    have ht := gt_lt e
    rw [h.1] at ht
    rw [hc t, if_neg (by omega)]
    exact ⟨n, N', NN_vV nn h5 h7 g, e2⟩
  · rw [hc, h.1, if_pos rfl]
    exact ⟨n, N, hv, rfl⟩
theorem PV4_step (h : PV4 z Ds) (g : GB z) (nn : NN z y) (h5 : y.1 5 = z.1 5) (h7 : y.1 7 = z.1 7) (d : DC z y M ∨ DLk z y M ∨ DT z y M ∨ DA z y M ∨ DF z y M) : PV4 y (Ds ++ [M]) := by
  obtain ⟨hT, hB, hA, hF⟩ := h
  have g26 := g.2.2.2.2.2.2.1
  have g27 := g.2.2.2.2.2.2.2.2.1
  have g25 := g.2.2.2.2.1
  rcases d with ⟨l2, l3, l4, s0, v, su, i, m, N, md1, ta, hl2, h1, h2, h3, h4, h6, h8, h9, h10, h11, rfl⟩ | ⟨l2, md1, ta, hl2, h1, rfl⟩ | ⟨l2, r9, id', N, md1, ta, hl2, h1, h2, h3, h4, h6, rfl⟩ | ⟨n, i, e, N, md1, h1, h2, h3, rfl⟩ | ⟨n, i, e, N, md1, h1, h2, h3, rfl⟩
  · have th := md1.1 25 (by decide)
    rcases h11 with ⟨e1, e2, rfl⟩ | ⟨e1, e2, e3, rfl⟩
    · refine ⟨PV_told hT g h5 h7 ta (q := (l2.toNatClampNeg, 0, 0, 0)) rfl ⟨hl2, rfl, rfl, Or.inl ⟨rfl, ?_⟩⟩, PV_th hB nn h5 h7 th (md1.2.1 39 (by decide) (by decide)) rfl, PV_cl hA nn h5 h7 (md1.1 26 (by decide)) (md1.2.1 40 (by decide) (by decide)) rfl, PV_cl hF nn h5 h7 (md1.1 27 (by decide)) (md1.2.1 41 (by decide) (by decide)) rfl⟩
      rw [h9, if_pos e1]; decide
    · refine ⟨PV_told hT g h5 h7 ta (q := (l2.toNatClampNeg, 0, prz (z.1 5) (z.1 7) l4.toNatClampNeg, l4.toNatClampNeg)) rfl ⟨hl2, rfl, rfl, Or.inr ⟨prz_pos, ?_, e3, e2, rfl⟩⟩, PV_th hB nn h5 h7 th (md1.2.1 39 (by decide) (by decide)) rfl, PV_cl hA nn h5 h7 (md1.1 26 (by decide)) (md1.2.1 40 (by decide) (by decide)) rfl, PV_cl hF nn h5 h7 (md1.1 27 (by decide)) (md1.2.1 41 (by decide) (by decide)) rfl⟩
      rw [h9, if_neg e1]; decide
  · exact ⟨PV_told hT g h5 h7 ta (q := (l2.toNatClampNeg, 1, 0, 0)) rfl ⟨hl2, rfl, rfl, Or.inl ⟨rfl, by decide⟩⟩, PV_th hB nn h5 h7 (md1.1 25 (by decide)) (md1.2.1 39 (by decide) (by decide)) rfl, PV_cl hA nn h5 h7 (md1.1 26 (by decide)) (md1.2.1 40 (by decide) (by decide)) rfl, PV_cl hF nn h5 h7 (md1.1 27 (by decide)) (md1.2.1 41 (by decide) (by decide)) rfl⟩
  · refine ⟨PV_told hT g h5 h7 ta (q := (l2.toNatClampNeg, 2, 0, 0)) rfl ⟨hl2, rfl, rfl, Or.inl ⟨rfl, by decide⟩⟩, ?_, PV_cl hA nn h5 h7 (md1.1 26 (by decide)) (md1.2.1 40 (by decide) (by decide)) rfl, PV_cl hF nn h5 h7 (md1.1 27 (by decide)) (md1.2.1 41 (by decide) (by decide)) rfl⟩
    have hq : bN 34 ([(34, l2.toNatClampNeg, id'.toNatClampNeg)] ++ N) = some N := rfl
    rw [fm_one hq]
    refine ⟨by rw [List.length_append, hB.1, cl_up g25 h1]; rfl, sn_get (fun t N e => ?_) ?_⟩
    · have ht := gt_lt e
      rw [hB.1] at ht
      rw [h4 t, if_neg (by omega)]
      exact NN_wB nn h5 h7 (hB.2 t N e)
    · rw [h4, hB.1, if_pos rfl]
      exact h6
  · exact ⟨PV_toldk hT h5 h7 (md1.1 28 (by decide)) (fun c h1 h2 => md1.2.1 c (by omega) (by intro q; simp only [List.mem_cons, List.not_mem_nil, or_false] at q; omega)) rfl, PV_th hB nn h5 h7 (md1.1 25 (by decide)) (md1.2.1 39 (by decide) (by decide)) rfl, PV_cl1 hA nn h5 h7 g26 h1 h2 rfl h3, PV_cl hF nn h5 h7 (md1.1 27 (by decide)) (md1.2.1 41 (by decide) (by decide)) rfl⟩
  · exact ⟨PV_toldk hT h5 h7 (md1.1 28 (by decide)) (fun c h1 h2 => md1.2.1 c (by omega) (by intro q; simp only [List.mem_cons, List.not_mem_nil, or_false] at q; omega)) rfl, PV_th hB nn h5 h7 (md1.1 25 (by decide)) (md1.2.1 39 (by decide) (by decide)) rfl, PV_cl hA nn h5 h7 (md1.1 26 (by decide)) (md1.2.1 40 (by decide) (by decide)) rfl, PV_cl1 hF nn h5 h7 g27 h1 h2 rfl h3⟩
theorem shq_of (d : DC z y M ∨ DLk z y M ∨ DT z y M ∨ DA z y M ∨ DF z y M) : shq M := by
  rcases d with ⟨l2, l3, l4, s0, v, su, i, m, N, -, -, -, -, -, -, -, -, -, -, hN, hm, rfl⟩ | ⟨l2, -, -, -, -, rfl⟩ | ⟨l2, r9, id', N, -, -, -, -, -, -, -, -, rfl⟩ | ⟨n, i, e, N, -, -, -, -, rfl⟩ | ⟨n, i, e, N, -, -, -, -, rfl⟩
  · have hn : ∀ w ∈ N ++ [(83, i, l2.toNatClampNeg)], 80 ≤ w.1 := by
      intro w hw
      rcases List.mem_append.mp hw with hw | hw
      · rcases hN with ⟨hN, _⟩ | ⟨u, hN, _⟩ | ⟨u, hN, _⟩
        · rw [hN] at hw; rw [List.mem_singleton.mp hw]; show 80 ≤ 82; decide
        · rw [hN] at hw; rw [List.mem_singleton.mp hw]; show 80 ≤ 80; decide
        · rw [hN] at hw; rw [List.mem_singleton.mp hw]; show 80 ≤ 81; decide
      · rw [List.mem_singleton.mp hw]; show 80 ≤ 83; decide
    rcases hm with ⟨_, _, rfl⟩ | ⟨_, _, _, rfl⟩
    · exact ⟨_, _, rfl, Or.inl ⟨Or.inl rfl, hn⟩⟩
    · exact ⟨_, _, rfl, Or.inl ⟨Or.inr rfl, hn⟩⟩
  · exact ⟨_, _, rfl, Or.inr (Or.inl ⟨rfl, rfl⟩)⟩
  · exact ⟨_, _, rfl, Or.inr (Or.inr (Or.inl rfl))⟩
  · exact ⟨_, _, rfl, Or.inr (Or.inr (Or.inr (Or.inl rfl)))⟩
  · exact ⟨_, _, rfl, Or.inr (Or.inr (Or.inr (Or.inr rfl)))⟩
theorem PV_step (h : PV z Ds) (g : GB z) (nn : NN z y) (h5 : y.1 5 = z.1 5) (h7 : y.1 7 = z.1 7) (d : DC z y M ∨ DLk z y M ∨ DT z y M ∨ DA z y M ∨ DF z y M) : PV y (Ds ++ [M]) :=
  ⟨PV4_step h.1 g nn h5 h7 d, fun M' hM => (List.mem_append.mp hM).elim (h.2 M') (fun q => by rw [List.mem_singleton.mp q]; exact shq_of d)⟩
/-- numbers of what is told; starts of cells; idle threads -/
def PN5 (z : gd) (Ds : List gU) : Prop :=
  ((∀ j q, (Ds.filterMap (te (z.1 5) (z.1 7)))[j]? = some q → (z.1 32 j).toInt = nbT q.2.1 ((Ds.filterMap (te (z.1 5) (z.1 7))).take j)) ∧ (z.1 0 23).toInt = nbT 0 (Ds.filterMap (te (z.1 5) (z.1 7))) ∧ (z.1 0 24).toInt = nbT 1 (Ds.filterMap (te (z.1 5) (z.1 7))) ∧ (z.1 0 25).toInt = nbT 2 (Ds.filterMap (te (z.1 5) (z.1 7)))) ∧
  ((z.1 0 23).toInt = (cel (z.1 5) (z.1 7) Ds.flatten).length ∧ ∀ j q, (cel (z.1 5) (z.1 7) Ds.flatten)[j]? = some q → z.1 36 j = q.1 ∧ z.1 37 j = if q.2 = true then 1 else 0) ∧
  ((z.1 0 25).toInt = (Ds.filterMap (fun M => M.head?.bind idE)).length ∧ ∀ j q, (Ds.filterMap (fun M => M.head?.bind idE))[j]? = some q → z.1 38 j = Int32.ofNat q)
/-- the told names, one more: its number -/
theorem PN_told {a b c d e f : Int32} {q : Nat × Nat × Nat × Nat} (hl : (Ds.filterMap (te (z.1 5) (z.1 7))).length = (z.1 0 28).toNatClampNeg) (h : (∀ j q, (Ds.filterMap (te (z.1 5) (z.1 7)))[j]? = some q → (z.1 32 j).toInt = nbT q.2.1 ((Ds.filterMap (te (z.1 5) (z.1 7))).take j)) ∧ (z.1 0 23).toInt = nbT 0 (Ds.filterMap (te (z.1 5) (z.1 7))) ∧ (z.1 0 24).toInt = nbT 1 (Ds.filterMap (te (z.1 5) (z.1 7))) ∧ (z.1 0 25).toInt = nbT 2 (Ds.filterMap (te (z.1 5) (z.1 7)))) (h5 : y.1 5 = z.1 5) (h7 : y.1 7 = z.1 7) (t : tAd z y a b c d e f) (hq : te (z.1 5) (z.1 7) M = some q) (hc : c.toInt = nbT q.2.1 (Ds.filterMap (te (z.1 5) (z.1 7)))) (n0 : (y.1 0 23).toInt = (z.1 0 23).toInt + (if q.2.1 = 0 then max q.2.2.1 1 else 0 : Nat)) (n1 : (y.1 0 24).toInt = (z.1 0 24).toInt + (if q.2.1 = 1 then max q.2.2.1 1 else 0 : Nat)) (n2 : (y.1 0 25).toInt = (z.1 0 25).toInt + (if q.2.1 = 2 then max q.2.2.1 1 else 0 : Nat)) : (∀ j q, ((Ds ++ [M]).filterMap (te (y.1 5) (y.1 7)))[j]? = some q → (y.1 32 j).toInt = nbT q.2.1 (((Ds ++ [M]).filterMap (te (y.1 5) (y.1 7))).take j)) ∧ (y.1 0 23).toInt = nbT 0 ((Ds ++ [M]).filterMap (te (y.1 5) (y.1 7))) ∧ (y.1 0 24).toInt = nbT 1 ((Ds ++ [M]).filterMap (te (y.1 5) (y.1 7))) ∧ (y.1 0 25).toInt = nbT 2 ((Ds ++ [M]).filterMap (te (y.1 5) (y.1 7))) := by
  rw [h5, h7, fm_one hq]
  have nb : ∀ w, nbT w (Ds.filterMap (te (z.1 5) (z.1 7)) ++ [q]) = nbT w (Ds.filterMap (te (z.1 5) (z.1 7))) + (if q.2.1 = w then max q.2.2.1 1 else 0) := fun w => by
    rw [nbT_app, nbT, nbT, Nat.add_zero]
  refine ⟨fun j r hr => ?_, by rw [nb, n0, h.2.1]; exact (Int.natCast_add _ _).symm, by rw [nb, n1, h.2.2.1]; exact (Int.natCast_add _ _).symm, by rw [nb, n2, h.2.2.2]; exact (Int.natCast_add _ _).symm⟩
  obtain ⟨-, -, -, a2, -⟩ := t
  by_cases cj : j < (Ds.filterMap (te (z.1 5) (z.1 7))).length
  · rw [List.getElem?_append_left cj] at hr
    rw [a2, if_neg (by omega), List.take_append_of_le_length (by omega)]
    exact h.1 j r hr
  · have hlt := gt_lt hr
    have ej : j = (Ds.filterMap (te (z.1 5) (z.1 7))).length := by
      rw [List.length_append] at hlt
      have hlt : j < (Ds.filterMap (te (z.1 5) (z.1 7))).length + 1 := hlt
      omega
    rw [ej, List.getElem?_append_right (Nat.le_refl _), Nat.sub_self] at hr
    have e : q = r := Option.some.inj hr
    rw [a2, if_pos (by omega), ej, List.take_left, ← e]
    exact hc
theorem cel_no (h5 : y.1 5 = z.1 5) (h7 : y.1 7 = z.1 7) (hM : ∀ v ∈ M, ¬ (v.1 = 31 ∨ v.1 = 32 ∨ 80 ≤ v.1)) : cel (y.1 5) (y.1 7) (Ds ++ [M]).flatten = cel (z.1 5) (z.1 7) Ds.flatten := by
  unfold cel
  rw [h5, h7, List.flatten_append, ces_app, show ([M] : List gU).flatten = M by simp, ces_no hM]
theorem id_no (h : M.head?.bind idE = none) : (Ds ++ [M]).filterMap (fun M => M.head?.bind idE) = Ds.filterMap (fun M => M.head?.bind idE) := fm_no h
theorem PN5_step (h : PN5 z Ds) (hp : PV4 z Ds) (g : GB z) (nn : NN z y) (h5 : y.1 5 = z.1 5) (h7 : y.1 7 = z.1 7) (d : DC z y M ∨ DLk z y M ∨ DT z y M ∨ DA z y M ∨ DF z y M) : PN5 y (Ds ++ [M]) := by
  obtain ⟨hT, hC, hI⟩ := h
  have hl := hp.1.1
  have z0 : (0 : Int32).toInt = 0 := rfl
  rcases d with ⟨l2, l3, l4, s0, v, su, i, m, N, md1, ta, hl2, h1, h2, h3, h4, h6, h8, h9, h10, h11, rfl⟩ | ⟨l2, md1, ta, hl2, h1, rfl⟩ | ⟨l2, r9, id', N, md1, ta, hl2, h1, h2, h3, h4, h6, rfl⟩ | ⟨n, i, e, N, md1, h1, h2, h3, rfl⟩ | ⟨n, i, e, N, md1, h1, h2, h3, rfl⟩
  · have f24 : y.1 0 24 = z.1 0 24 := md1.1 24 (by decide)
    have f25 : y.1 0 25 = z.1 0 25 := md1.1 25 (by decide)
    have ml : l3.toInt = ((if l4 = -1 then 1 else prz (z.1 5) (z.1 7) l4.toNatClampNeg : Nat) : Int) := by
      have u := t_cl l3
      rcases h11 with ⟨e1, e2, e3⟩ | ⟨e1, e2, e3, e4⟩
      · rw [if_pos e1, e2]; rfl
      · rw [if_neg e1, ← e3]; omega
    have hcs : ces (z.1 5) (z.1 7) (m ++ (N ++ [(83, i, l2.toNatClampNeg)])) (ces (z.1 5) (z.1 7) Ds.flatten (0, 0, [])) = (l3.toNatClampNeg, v, (ces (z.1 5) (z.1 7) Ds.flatten (0, 0, [])).2.2 ++ List.replicate l3.toNatClampNeg (v, decide (z.1 5 i = 34))) := by
      obtain ⟨c, ec⟩ : ∃ c, c = ces (z.1 5) (z.1 7) Ds.flatten (0, 0, []) := ⟨_, rfl⟩
      rw [← ec]
      have e1 : ces (z.1 5) (z.1 7) m c = (l3.toNatClampNeg, c.2) := by
        rcases h11 with ⟨e1, e2, e3⟩ | ⟨e1, e2, e3, e4⟩
        · rw [e3, e2]; rfl
        · rw [e4, e3]; rfl
      have e2 : ces (z.1 5) (z.1 7) N (l3.toNatClampNeg, c.2) = (l3.toNatClampNeg, v, c.2.2) := by
        rcases h10 with ⟨e1, e2⟩ | ⟨w, e1, e2⟩ | ⟨w, e1, e2⟩
        · rw [e1, e2]; rfl
        · rw [e1, e2]; rfl
        · rw [e1, e2]; rfl
      rw [ces_app, ces_app, e1, e2]
      rfl
    have hcel : cel (y.1 5) (y.1 7) (Ds ++ [m ++ (N ++ [(83, i, l2.toNatClampNeg)])]).flatten = cel (z.1 5) (z.1 7) Ds.flatten ++ List.replicate l3.toNatClampNeg (v, decide (z.1 5 i = 34)) := by
      unfold cel
      rw [h5, h7, List.flatten_append, ces_app, show ([m ++ (N ++ [(83, i, l2.toNatClampNeg)])] : List gU).flatten = m ++ (N ++ [(83, i, l2.toNatClampNeg)]) by simp, hcs]
    have u3 := t_cl l3
    have uz := t_cl (z.1 0 23)
    have uy := t_cl (y.1 0 23)
    refine ⟨?_, ⟨?_, fun j q hj => ?_⟩, ?_⟩
    · rcases h11 with ⟨e1, e2, e3⟩ | ⟨e1, e2, e3, e4⟩
      · refine PN_told hl hT h5 h7 ta (q := (l2.toNatClampNeg, 0, 0, 0)) (by rw [e3]; rfl) hT.2.1 (by rw [h2, e2]; rfl) (by rw [f24]; exact (Int.add_zero _).symm) (by rw [f25]; exact (Int.add_zero _).symm)
      · have pp := prz_pos (K := z.1 5) (V := z.1 7) (w := l4.toNatClampNeg)
        refine PN_told hl hT h5 h7 ta (q := (l2.toNatClampNeg, 0, prz (z.1 5) (z.1 7) l4.toNatClampNeg, l4.toNatClampNeg)) (by rw [e4]; rfl) hT.2.1 (by rw [h2, ml, if_neg e1]; show _ = _ + ((max (prz (z.1 5) (z.1 7) l4.toNatClampNeg) 1 : Nat) : Int); rw [Nat.max_eq_left pp]) (by rw [f24]; exact (Int.add_zero _).symm) (by rw [f25]; exact (Int.add_zero _).symm)
    · rw [hcel, List.length_append, List.length_replicate, h2, hC.1]
      omega
    · rw [hcel] at hj
      by_cases cj : j < (cel (z.1 5) (z.1 7) Ds.flatten).length
      · rw [List.getElem?_append_left cj] at hj
        have hc1 := hC.1
        rw [h3, h4, if_neg (by omega), if_neg (by omega)]
        exact hC.2 j q hj
      · have hlt := gt_lt hj
        rw [List.length_append, List.length_replicate] at hlt
        rw [List.getElem?_append_right (by omega), List.getElem?_replicate] at hj
        have hc1 := hC.1
        rw [if_pos (by omega)] at hj
        have e := Option.some.inj hj
        rw [h3, h4, if_pos (by omega), if_pos (by omega), ← e]
        refine ⟨rfl, ?_⟩
        rw [h8]
        by_cases cs : z.1 5 i = 34
        · rw [if_pos cs, if_pos (decide_eq_true cs)]; decide
        · rw [if_neg cs, if_neg (fun w => cs (of_decide_eq_true w))]; decide
    · have hn : (m ++ (N ++ [(83, i, l2.toNatClampNeg)])).head?.bind idE = none := by
        rcases h11 with ⟨_, _, e3⟩ | ⟨_, _, _, e3⟩ <;> (rw [e3]; rfl)
      rw [id_no hn, f25]
      exact ⟨hI.1, fun j q hj => by rw [md1.2.1 38 (by decide) (by decide)]; exact hI.2 j q hj⟩
  · refine ⟨PN_told hl hT h5 h7 ta (q := (l2.toNatClampNeg, 1, 0, 0)) rfl hT.2.2.1 (by rw [md1.1 23 (by decide)]; exact (Int.add_zero _).symm) (by rw [h1]; rfl) (by rw [md1.1 25 (by decide)]; exact (Int.add_zero _).symm), ?_, ?_⟩
    · rw [cel_no h5 h7 (fun w hw => by rw [List.mem_singleton.mp hw]; show ¬ (33 = 31 ∨ 33 = 32 ∨ 80 ≤ 33); decide), md1.1 23 (by decide), md1.2.1 36 (by decide) (by decide), md1.2.1 37 (by decide) (by decide)]
      exact hC
    · rw [id_no rfl, md1.1 25 (by decide), md1.2.1 38 (by decide) (by decide)]
      exact hI
  · have g25 := g.2.2.2.2.1
    have hlow : ∀ w ∈ N, ¬ (w.1 = 31 ∨ w.1 = 32 ∨ 80 ≤ w.1) := lo_not (wB_lo (fun e M g => wS_lo 17 e M g) h6)
    have hM : ∀ w ∈ [(34, l2.toNatClampNeg, id'.toNatClampNeg)] ++ N, ¬ (w.1 = 31 ∨ w.1 = 32 ∨ 80 ≤ w.1) := fun w hw => by
      rcases List.mem_append.mp hw with hw | hw
      · rw [List.mem_singleton.mp hw]; show ¬ (34 = 31 ∨ 34 = 32 ∨ 80 ≤ 34); decide
      · exact hlow w hw
    refine ⟨PN_told hl hT h5 h7 ta (q := (l2.toNatClampNeg, 2, 0, 0)) rfl hT.2.2.2 (by rw [md1.1 23 (by decide)]; exact (Int.add_zero _).symm) (by rw [md1.1 24 (by decide)]; exact (Int.add_zero _).symm) (by rw [h1]; rfl), ?_, ?_⟩
    · rw [cel_no h5 h7 hM, md1.1 23 (by decide), md1.2.1 36 (by decide) (by decide), md1.2.1 37 (by decide) (by decide)]
      exact hC
    · have hq : ([(34, l2.toNatClampNeg, id'.toNatClampNeg)] ++ N).head?.bind idE = some id'.toNatClampNeg := rfl
      rw [fm_one (f := fun M : gU => M.head?.bind idE) (M := [(34, l2.toNatClampNeg, id'.toNatClampNeg)] ++ N) hq]
      have u25 := t_cl (z.1 0 25)
      have c1 := hI.1
      refine ⟨by rw [h1, c1, List.length_append]; rfl, sn_get (fun t q e => ?_) ?_⟩
      · have ht := gt_lt e
        rw [h3 t, if_neg (by omega)]
        exact hI.2 t q e
      · rw [h3, if_pos (by omega)]
        rcases h2 with e | e <;> (rw [e]; decide)
  · have hM : ∀ w ∈ [(35, i, 0)] ++ (N ++ [(54, 0, 0)]), ¬ (w.1 = 31 ∨ w.1 = 32 ∨ 80 ≤ w.1) := fun w hw => by
      rcases List.mem_append.mp hw with hw | hw
      · rw [List.mem_singleton.mp hw]; show ¬ (35 = 31 ∨ 35 = 32 ∨ 80 ≤ 35); decide
      · rcases List.mem_append.mp hw with hw | hw
        · have := vV_80 h3 w hw; omega
        · rw [List.mem_singleton.mp hw]; show ¬ (54 = 31 ∨ 54 = 32 ∨ 80 ≤ 54); decide
    refine ⟨?_, ?_, ?_⟩
    · rw [h5, h7, fm_no (f := te (z.1 5) (z.1 7)) (M := [(35, i, 0)] ++ (N ++ [(54, 0, 0)])) rfl, md1.1 23 (by decide), md1.1 24 (by decide), md1.1 25 (by decide), md1.2.1 32 (by decide) (by decide)]
      exact hT
    · rw [cel_no h5 h7 hM, md1.1 23 (by decide), md1.2.1 36 (by decide) (by decide), md1.2.1 37 (by decide) (by decide)]
      exact hC
    · rw [id_no rfl, md1.1 25 (by decide), md1.2.1 38 (by decide) (by decide)]
      exact hI
  · have hM : ∀ w ∈ [(36, i, 0)] ++ (N ++ [(54, 0, 0)]), ¬ (w.1 = 31 ∨ w.1 = 32 ∨ 80 ≤ w.1) := fun w hw => by
      rcases List.mem_append.mp hw with hw | hw
      · rw [List.mem_singleton.mp hw]; show ¬ (36 = 31 ∨ 36 = 32 ∨ 80 ≤ 36); decide
      · rcases List.mem_append.mp hw with hw | hw
        · have := vV_80 h3 w hw; omega
        · rw [List.mem_singleton.mp hw]; show ¬ (54 = 31 ∨ 54 = 32 ∨ 80 ≤ 54); decide
    refine ⟨?_, ?_, ?_⟩
    · rw [h5, h7, fm_no (f := te (z.1 5) (z.1 7)) (M := [(36, i, 0)] ++ (N ++ [(54, 0, 0)])) rfl, md1.1 23 (by decide), md1.1 24 (by decide), md1.1 25 (by decide), md1.2.1 32 (by decide) (by decide)]
      exact hT
    · rw [cel_no h5 h7 hM, md1.1 23 (by decide), md1.2.1 36 (by decide) (by decide), md1.2.1 37 (by decide) (by decide)]
      exact hC
    · rw [id_no rfl, md1.1 25 (by decide), md1.2.1 38 (by decide) (by decide)]
      exact hI
end PVS
/-- what reading all definitions does -/
def FA (x z : gd) : Prop := ∃ Ds : List gU, pAl (x.1 5) (x.1 7) 701 (0, 0, 0, 0, 0) 0 [] = (nwo z).map (fun j => (cn z, j, Ds.flatten)) ∧ ((z.1 0 9).toInt = 0 → PV z Ds ∧ PN5 z Ds)
theorem sf_defs {G : mG} {D : Nat} {x : gd} {P : Option gv → gd → Prop} (hD : 87 ≤ D) (pn : PN x) (pg : PG x) (hb : (x.1 0 9).toInt = 0) (h8 : x.1 0 8 = 0) (hc : cn x = (0, 0, 0, 0, 0)) (h28 : x.1 0 28 = 0) (next : ∀ z, mQ x z → PN z → ((z.1 0 9).toInt = 0 → PG z) → FA x z → MT G D z_compile 69 [(0, vr 0)] [] z P) : MT G D z_compile 48 [(0, vr 0)] [] x P := by
  obtain ⟨D, rfl⟩ : ∃ m, D = m + 87 := ⟨D - 87, by omega⟩
  obtain ⟨K, eK⟩ : ∃ K, K = x.1 5 := ⟨_, rfl⟩
  obtain ⟨V, eV⟩ : ∃ V, V = x.1 7 := ⟨_, rfl⟩
  have z5 : ∀ {z : gd}, mQ x z → z.1 5 = K := fun m => by rw [eK]; exact m.2.1 5 (by decide) (by decide)
  have z7 : ∀ {z : gd}, mQ x z → z.1 7 = V := fun m => by rw [eV]; exact m.2.1 7 (by decide) (by decide)
  have fin : ∀ z (Ds : List gU) (f : Nat), mQ x z → PN z → ((z.1 0 9).toInt = 0 → PG z) → pAl K V 701 (0, 0, 0, 0, 0) 0 [] = (nwo z).bind (fun j => pAl K V (f + 1) (cn z) j Ds.flatten) → ((z.1 0 9).toInt = 0 → PV z Ds ∧ PN5 z Ds) → (∀ j, nwo z = some j → K j = 0) → MT G (D + 87) z_compile 69 [(0, vr 0)] [] z P := by
    intro z Ds f mz pz gz e v hk
    refine next z mz pz gz ⟨Ds, ?_, v⟩
    rw [← eK, ← eV, e]
    cases q : nwo z with
    | none => rfl
    | some j =>
      show pAl K V (f + 1) (cn z) j Ds.flatten = some (cn z, j, Ds.flatten)
      rw [pAl, if_pos (hk j q)]
  have loop : ∀ (n : Nat) (z : gd) (Ds : List gU), mQ x z → PN z → ((z.1 0 9).toInt = 0 → PG z) → ((z.1 0 9).toInt = 0 → 700 - (z.1 0 8).toInt < n + 1) → pAl K V 701 (0, 0, 0, 0, 0) 0 [] = (nwo z).bind (fun j => pAl K V (n + 1) (cn z) j Ds.flatten) → ((z.1 0 9).toInt = 0 → PV z Ds ∧ PN5 z Ds) → MT G (D + 87) z_compile 48 [(0, vr 0)] [] z P := by
    intro n
    induction n with
    | zero =>
      intro z Ds mz pz gz hn e v
      have nob : ∀ c : ¬ z.1 0 9 = 0, ∀ j, nwo z = some j → K j = 0 := fun c j hj => absurd (t_eq.mpr (nwo_is hj).1) c
      refine sg_compile_48 ⟨fun c => fin z Ds 0 mz pz gz e v (nob c), fun c => sp_here pz (fun r _ hr => ⟨fun c2 => fin z Ds 0 mz pz gz e v (fun j hj => ?_), fun c2 => ?_⟩)⟩
      · have q := nwo_is hj
        rw [← z5 mz, ← q.2, ← hr q.1]
        exact c2
      · have bz : (z.1 0 9).toInt = 0 := by rw [c]; rfl
        -- the last place: whatever stands there is refused
        refine sf_readDef (by omega) pz (gz bz) bz (fun y hy hf => ?_)
        have p8 := pz.2.1
        have h7 := hn bz
        have y8 := hy.2.1.2.1
        have yb : ¬ (y.1 0 9).toInt = 0 := fun q => by have := (hy.2.2 q).2; omega
        have y9 := hy.2.1.2.2.1
        have my : mQ x y := md_tr mz hy.1 rfl rfl
        obtain ⟨M, f1, -⟩ := hf
        have ny : nwo y = none := nwo_b (by omega)
        refine sg_compile_48 ⟨fun _ => next y my hy.2.1 (fun q => absurd q yb) ⟨[], ?_, fun q => absurd q yb⟩, fun c3 => absurd (by rw [c3]; rfl) yb⟩
        rw [← eK, ← eV, e, ny, nwo_o bz]
        show pAl K V (0 + 1) (cn z) (z.1 0 8).toNatClampNeg Ds.flatten = none
        rw [pAl]
        have f2 := f1 Ds.flatten
        rw [ny, nwo_o bz, z5 mz, z7 mz] at f2
        have f3 : pD K V (cn z) (z.1 0 8).toNatClampNeg Ds.flatten = none := f2
        rw [f3, if_neg]
        · rfl
        · rw [← z5 mz, ← hr bz]
          exact c2
    | succ n ih =>
      intro z Ds mz pz gz hn e v
      have nob : ∀ c : ¬ z.1 0 9 = 0, ∀ j, nwo z = some j → K j = 0 := fun c j hj => absurd (t_eq.mpr (nwo_is hj).1) c
      refine sg_compile_48 ⟨fun c => fin z Ds (n + 1) mz pz gz e v (nob c), fun c => sp_here pz (fun r _ hr => ⟨fun c2 => fin z Ds (n + 1) mz pz gz e v (fun j hj => ?_), fun c2 => ?_⟩)⟩
      · have q := nwo_is hj
        rw [← z5 mz, ← q.2, ← hr q.1]
        exact c2
      · have bz : (z.1 0 9).toInt = 0 := by rw [c]; rfl
        refine sf_readDef (by omega) pz (gz bz) bz (fun y hy hf => ?_)
        obtain ⟨M, f1, f2⟩ := hf
        have my : mQ x y := md_tr mz hy.1 rfl rfl
        refine ih y (Ds ++ [M]) my hy.2.1 (fun q => (hy.2.2 q).1) (fun q => ?_) ?_ (fun q => ?_)
        · have := (hy.2.2 q).2
          have := hn bz
          omega
        · rw [e]
          have g := f1 Ds.flatten
          rw [z5 mz, z7 mz] at g
          have nz := nwo_o bz
          rw [nz] at g ⊢
          have g : pD K V (cn z) (z.1 0 8).toNatClampNeg Ds.flatten = (nwo y).map (fun j => (cn y, j, Ds.flatten ++ M)) := g
          show pAl K V (n + 1 + 1) (cn z) (z.1 0 8).toNatClampNeg Ds.flatten = _
          rw [pAl, if_neg (by rw [← z5 mz, ← hr bz]; exact c2), g, List.flatten_append]
          have e2 : ([M] : List gU).flatten = M := by simp
          rw [e2]
          cases nwo y <;> rfl
        · obtain ⟨nn, d⟩ := f2 q
          have y5 : y.1 5 = z.1 5 := by rw [z5 mz, z5 my]
          have y7 : y.1 7 = z.1 7 := by rw [z7 mz, z7 my]
          exact ⟨PV_step (v bz).1 (gz bz).2.2.1 nn y5 y7 d, PN5_step (v bz).2 (v bz).1.1 (gz bz).2.2.1 nn y5 y7 d⟩
  have n0 : nwo x = some 0 := by rw [nwo_o hb, h8]; rfl
  refine loop 700 x [] (md_w (md_rf x) (by decide) (by decide)) pn (fun _ => pg) (fun _ => by have := pn.1; omega) ?_ (fun _ => ?_)
  · rw [n0, hc]; rfl
  · have c2 : (x.1 0 25).toNatClampNeg = 0 := congrArg (fun n : gN => n.2.2.1) hc
    have c3 : (x.1 0 26).toNatClampNeg = 0 := congrArg (fun n : gN => n.2.2.2.1) hc
    have c4 : (x.1 0 27).toNatClampNeg = 0 := congrArg (fun n : gN => n.2.2.2.2) hc
    have gb := pg.2.2.1
    have c0 : (x.1 0 23).toNatClampNeg = 0 := congrArg (fun n : gN => n.1) hc
    have c1 : (x.1 0 24).toNatClampNeg = 0 := congrArg (fun n : gN => n.2.1) hc
    have u0 := t_cl (x.1 0 23)
    have u1 := t_cl (x.1 0 24)
    have u2 := t_cl (x.1 0 25)
    obtain ⟨b1, b2, b3, b4, b5, b6, _⟩ := gb
    refine ⟨⟨⟨⟨by rw [h28]; rfl, fun j q e => ?_⟩, ⟨by rw [c2]; rfl, fun j q e => ?_⟩, ⟨by rw [c3]; rfl, fun j q e => ?_⟩, ⟨by rw [c4]; rfl, fun j q e => ?_⟩⟩, fun M hM => by cases hM⟩, ⟨fun j q e => ?_, by show (x.1 0 23).toInt = 0; omega, by show (x.1 0 24).toInt = 0; omega, by show (x.1 0 25).toInt = 0; omega⟩, ⟨by show (x.1 0 23).toInt = 0; omega, fun j q e => absurd (show j < 0 from gt_lt e) (Nat.not_lt_zero _)⟩, by show (x.1 0 25).toInt = 0; omega, fun j q e => ?_⟩
    all_goals
      have := gt_lt e
      simp at this
end
section
/-! laying: wrong 41, wrongPlace 42, known 43 (45 token, 46 slot), works 49 (51, 52) -/
def WB (x : gd) : Prop := 0 ≤ (x.1 0 41).toInt ∧ (x.1 0 42).toInt ≤ 3000
/-- the names: those told, and the lets known -/
def LB (x : gd) : Prop := TK x ∧ GB x ∧ (∀ j : Nat, (j : Int) < (x.1 0 28).toInt → tE x j)
def KB (x : gd) : Prop := 0 ≤ (x.1 0 43).toInt ∧ (x.1 0 43).toInt ≤ 8 ∧ ∀ j : Nat, (j : Int) < (x.1 0 43).toInt → vp_in (x.1 45 j) 710 ∧ 0 ≤ (x.1 46 j).toInt ∧ (x.1 46 j).toInt < 8
section SPW
variable {G : mG} {d : Nat} {x : gd} {F : Int32 → gd → Prop} {Fv : gd → Prop}
/-- one piece of work laid -/
def lD (x x' : gd) (w a : Int32) : Prop := md [49] [51, 52] x x' ∧ x'.1 0 49 = x.1 0 49 + 1 ∧ (∀ j : Nat, x'.1 51 j = if j = (x.1 0 49).toNatClampNeg then w else x.1 51 j) ∧ (∀ j : Nat, x'.1 52 j = if j = (x.1 0 49).toNatClampNeg then a else x.1 52 j)
theorem sp_lay (w a : Int32) (hn : vp_in (x.1 0 49) 6000) (h : ∀ x', lD x x' w a → Fv x') : MT G d z_lay 0 [(0, vr 0), (1, vi w), (2, vi a)] [] x (rv Fv) := by
  obtain ⟨n, en⟩ : ∃ n, n = x.1 0 49 := ⟨_, rfl⟩
  refine sg_lay_0 _ _ ⟨hn, ?_⟩
  intro x2 e2
  have f2 : x2.1 0 49 = n := by rw [e2, si_cell (by decide), en]
  refine ⟨by rw [f2, en]; exact hn, ?_⟩
  intro x4 e4 x5 e5
  have f4 : x4.1 0 49 = n := by rw [e4, si_cell (by decide), f2]
  rw [← en] at e2
  rw [f2] at e4
  rw [f4] at e5
  have f5 : x5.1 0 49 = n + 1 := by rw [e5, si_get, if_pos ⟨rfl, rfl⟩]
  have one : ∀ (c9 : Nat) (v9 : Int32) (z z' : gd), z' = si z c9 n.toNatClampNeg v9 → ∀ j : Nat, z'.1 c9 j = if j = n.toNatClampNeg then v9 else z.1 c9 j := by
    intro c9 v9 z z' e j
    rw [e, si_get]
    by_cases q : j = n.toNatClampNeg
    · rw [if_pos ⟨rfl, q⟩, if_pos q]
    · rw [if_neg (fun z => q z.2), if_neg q]
  have m : md [49] [51, 52] x x5 := by
    rw [e5]
    refine md_tr (L := []) (A := [51, 52]) ?_ (md_f x4 49 (n + 1)) rfl rfl
    rw [e4]
    refine md_tr (L := []) (A := [51]) ?_ (md_a x2 52 n.toNatClampNeg a (by decide)) rfl rfl
    rw [e2]
    exact md_a x 51 n.toNatClampNeg w (by decide)
  refine rv_i (h x5 ⟨m, by rw [f5, en], ?_, ?_⟩)
  all_goals
    intro j
    rw [← en]
  · rw [e5, si_cell (by decide), e4, si_cell (by decide)]
    exact one 51 w x x2 e2 j
  · rw [e5, si_cell (by decide), one 52 a x2 x4 e4 j, e2, si_cell (by decide)]
end SPW
end
section
section SPX
variable {G : mG} {d : Nat} {x : gd} {F : Int32 → gd → Prop} {Fv : gd → Prop}
theorem LB_v (lb : LB x) {r : Int32} (h : 0 ≤ r.toInt ∧ r.toInt < (x.1 0 28).toInt) : vp_in r 40 := by
  have hv := vp_in_iff.mp (GB_v lb.2.1)
  rw [vp_in_iff]; omega
theorem LB_t (lb : LB x) {r : Int32} (h : 0 ≤ r.toInt ∧ r.toInt < (x.1 0 28).toInt) : tE x r.toNatClampNeg := lb.2.2 _ (by rw [t_cl]; omega)
end SPX
end
