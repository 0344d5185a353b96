/-- what a definition leaves -/
def QD (x x' : gd) : Prop := md [8, 9, 10, 13, 20, 21, 23, 24, 25, 26, 27, 28] [15, 16, 17, 18, 19, 20, 30, 31, 32, 33, 34, 35, 36, 37, 38, 39, 40, 41] x x' ∧ PN x' ∧ ((x'.1 0 9).toInt = 0 → PG x' ∧ (x.1 0 8).toInt + 1 ≤ (x'.1 0 8).toInt)
theorem QD_bad {x x' : gd} (h : SS x x') (hb : ¬ (x'.1 0 9).toInt = 0) : QD x x' := ⟨md_w h.1 (by decide) (by decide), h.2.1, fun q => absurd q hb⟩
/-- what is told, is told: z before, w behind, y with nothing else of it changed -/
theorem tell_tE {z w y : gd} {l1 l2 l3 l4 l5 l6 : Int32} (h : tD z w l1 l2 l3 l4 l5 l6) (g : GB z) (hy : ∀ c : Nat, 30 ≤ c → c ≤ 35 → y.1 c = w.1 c) (h28 : y.1 0 28 = w.1 0 28) (h3 : (z.1 0 23).toInt ≤ (y.1 0 23).toInt) (h4 : (z.1 0 24).toInt ≤ (y.1 0 24).toInt) (h5 : (z.1 0 25).toInt ≤ (y.1 0 25).toInt) (q : ∀ j : Nat, (j : Int) < (z.1 0 28).toInt → tE z j) (n : vp_in l1 710 ∧ ((l2 = 0 ∧ 0 ≤ l3.toInt ∧ 1 ≤ l4.toInt ∧ l3.toInt + l4.toInt ≤ (y.1 0 23).toInt) ∨ (l2 = 1 ∧ 0 ≤ l3.toInt ∧ l3.toInt < (y.1 0 24).toInt) ∨ (l2 = 2 ∧ 0 ≤ l3.toInt ∧ l3.toInt < (y.1 0 25).toInt)) ∧ (vp_nar .boolean l5 = 0 ∨ vp_in l6 710)) : (y.1 0 28).toInt = (z.1 0 28).toInt + 1 ∧ ∀ j : Nat, (j : Int) < (y.1 0 28).toInt → tE y j := by
  obtain ⟨m, e, a0, a1, a2, a3, a4, a5⟩ := h
  obtain ⟨g1, g2, g3, g4, g5, g6, g7, g8, g9, g10, g11, g12⟩ := g
  have k1 : (1 : Int32).toInt = 1 := rfl
  have n28 : (y.1 0 28).toInt = (z.1 0 28).toInt + 1 := by rw [h28, e, t_add (by omega) (by omega), k1]
  refine ⟨n28, fun j hj => ?_⟩
  by_cases c : j = (z.1 0 28).toNatClampNeg
  · unfold tE
    rw [hy 30 (by decide) (by decide), hy 31 (by decide) (by decide), hy 32 (by decide) (by decide), hy 33 (by decide) (by decide), hy 34 (by decide) (by decide), hy 35 (by decide) (by decide), a0, a1, a2, a3, a4, a5, if_pos c, if_pos c, if_pos c, if_pos c, if_pos c, if_pos c]
    exact n
  · have hj2 : (j : Int) < (z.1 0 28).toInt := by
      have := t_cl (z.1 0 28)
      omega
    refine tE_keep (fun c' h1 h2 i hi => ?_) h3 h4 h5 hj2 (q j hj2)
    have hne : ¬ i = (z.1 0 28).toNatClampNeg := by rw [t_cl]; omega
    have hc : c' = 30 ∨ c' = 31 ∨ c' = 32 ∨ c' = 33 ∨ c' = 34 ∨ c' = 35 := by omega
    rw [hy c' h1 h2]
    rcases hc with rfl | rfl | rfl | rfl | rfl | rfl
    · rw [a0, if_neg hne]
    · rw [a1, if_neg hne]
    · rw [a2, if_neg hne]
    · rw [a3, if_neg hne]
    · rw [a4, if_neg hne]
    · rw [a5, if_neg hne]
theorem GB_v {x : gd} (g : GB x) : vp_in (x.1 0 28) 40 := by
  obtain ⟨g1, g2, g3, g4, g5, g6, g7, g8, g9, g10, g11, g12⟩ := g
  rw [vp_in_iff]; omega
theorem sp_readCell {G : mG} {D : Nat} {x : gd} {Fv : gd → Prop} (pn : PN x) (pg : PG x) (h : ∀ x', QD x x' → Fv x') : MT G (D + 4) z_readCell 0 [(0, vr 0)] [] x (rv Fv) := by
  have k0 : (0 : Int32).toInt = 0 := rfl
  have k1 : (1 : Int32).toInt = 1 := rfl
  have k8 : (8 : Int32).toInt = 8 := rfl
  have k24 : (24 : Int32).toInt = 24 := rfl
  have gb := pg.2.2.1
  obtain ⟨CI, hCI⟩ : ∃ CI : gd → Int32 → Int32 → Prop, ∀ z l3 l4, CI z l3 l4 ↔ (SS x z ∧ (l4 = -1 ∨ vp_in l4 710) ∧ ((z.1 0 9).toInt = 0 → (x.1 0 8).toInt + 1 ≤ (z.1 0 8).toInt ∧ 1 ≤ l3.toInt ∧ (x.1 0 23).toInt + l3.toInt ≤ 24)) := ⟨_, fun _ _ _ => Iff.rfl⟩
  have ciS : ∀ {z z' l3 l4}, CI z l3 l4 → SS z z' → CI z' l3 l4 := by
    intro z z' l3 l4 a b
    obtain ⟨a1, a2, a3⟩ := (hCI _ _ _).mp a
    refine (hCI _ _ _).mpr ⟨SS_tr a1 b, a2, fun q => ?_⟩
    have := a3 (b.2.2.2.2 q)
    have := b.2.2.1
    omega
  -- the cells themselves
  have p238 : ∀ (l1 l2 l3 l4 l5 s0 : Int32) (z w : gd), CI z l3 l4 → (z.1 0 9).toInt = 0 → vp_in l2 710 → (vp_nar .boolean s0 = 0 ∨ vp_in l4 710) → tD z w l2 0 (z.1 0 23) l3 s0 l4 → ∀ (n : Nat) (y : gd) (i : Int32), md [23] [36, 37] w y → (y.1 0 23).toInt = (z.1 0 23).toInt + i.toInt → 0 ≤ i.toInt → i.toInt + n = l3.toInt → MT G (D + 4) z_readCell 238 [(0, vr 0), (1, vi l1), (3, vi l3), (5, vi l5), (6, vi i)] [] y (rv Fv) := by
    intro l1 l2 l3 l4 l5 s0 z w ci hb hl2 hs0 td n
    obtain ⟨sz, -, cz⟩ := (hCI _ _ _).mp ci
    obtain ⟨z1, z2, z3⟩ := cz hb
    have pz := PG_ss sz pg
    have e23 : z.1 0 23 = x.1 0 23 := sz.1.1 23 (by decide)
    have gz := pz.2.2.1
    have gz1 := gz.1
    rw [← e23] at z3
    induction n with
    | zero =>
      intro y i my hy i0 hi
      refine sg_readCell_238 _ _ _ _ ⟨fun _ => rv_i (h _ ?_), fun c => absurd (t_le.mpr (by omega)) c⟩
      have mw := td.1
      have mzy : md [23, 28] [30, 31, 32, 33, 34, 35, 36, 37] z y := md_tr mw my rfl rfl
      have e8 : y.1 0 8 = z.1 0 8 := mzy.1 8 (by decide)
      have e9 : y.1 0 9 = z.1 0 9 := mzy.1 9 (by decide)
      have e13 : y.1 0 13 = z.1 0 13 := mzy.1 13 (by decide)
      have e24 : y.1 0 24 = z.1 0 24 := mzy.1 24 (by decide)
      have e25 : y.1 0 25 = z.1 0 25 := mzy.1 25 (by decide)
      have e26 : y.1 0 26 = z.1 0 26 := mzy.1 26 (by decide)
      have e27 : y.1 0 27 = z.1 0 27 := mzy.1 27 (by decide)
      obtain ⟨n28, nT⟩ := tell_tE td gz (y := y) (fun c h1 h2 => my.2.1 c (by omega) (by intro q; simp only [List.mem_cons, List.not_mem_nil, or_false] at q; omega)) (my.1 28 (by decide)) (by omega) (by rw [e24]; exact Int.le_refl _) (by rw [e25]; exact Int.le_refl _) pz.2.2.2.1 ⟨hl2, Or.inl ⟨rfl, gz1, z2, by omega⟩, hs0⟩
      refine ⟨md_tr sz.1 mzy rfl rfl, ⟨by rw [e8]; exact sz.2.1.1, by rw [e8]; exact sz.2.1.2.1, by rw [e9]; exact sz.2.1.2.2.1, TX_md mzy (by decide) (by decide) (by decide) (by decide) sz.2.1.2.2.2⟩, fun _ => ⟨⟨by rw [e13]; exact pz.1, by unfold cr; rw [e8, e13]; exact pz.2.1, ?_, nT, ?_⟩, by rw [e8]; exact z1⟩⟩
      · obtain ⟨g1, g2, g3, g4, g5, g6, g7, g8, g9, g10, g11, g12⟩ := gz
        unfold GB
        rw [e24, e25, e26, e27]
        exact ⟨by omega, by omega, g3, g4, g5, g6, g7, g8, g9, g10, by omega, by omega⟩
      · exact PT_keep (NN_md mzy (by decide) (by intro c h1 h2 q; simp only [List.mem_cons, List.not_mem_nil, or_false] at q; omega)) (by rw [e8]; exact Int.le_refl _) e25 e26 e27 (mzy.2.1 39 (by decide) (by decide)) (mzy.2.1 40 (by decide) (by decide)) (mzy.2.1 41 (by decide) (by decide)) pz.2.2.2.2
    | succ n ihn =>
      intro y i my hy i0 hi
      have hv : vp_in (y.1 0 23) 24 := by rw [vp_in_iff]; omega
      refine sg_readCell_238 _ _ _ _ ⟨fun c => ?_, fun _ => ⟨hv, fun y3 e3 => ?_⟩⟩
      · rw [t_le] at c; omega
      have m3 := md_a y 36 (y.1 0 23).toNatClampNeg l5 (by decide)
      rw [← e3] at m3
      have f3 : y3.1 0 23 = y.1 0 23 := m3.1 23 (by decide)
      refine ⟨by rw [f3]; exact hv, fun y5 e5 y6 e6 => ?_⟩
      have m5 := md_a y3 37 (y3.1 0 23).toNatClampNeg (vp_nar .boolean l1) (by decide)
      rw [← e5] at m5
      have f5 : y5.1 0 23 = y3.1 0 23 := m5.1 23 (by decide)
      have m6 := md_f y5 23 (y5.1 0 23 + 1)
      rw [← e6] at m6
      have f6 : (y6.1 0 23).toInt = (y.1 0 23).toInt + 1 := by
        rw [e6, si_get, if_pos ⟨rfl, rfl⟩, f5, f3, t_add (by omega) (by omega), k1]
      have fi : (i + 1).toInt = i.toInt + 1 := by rw [t_add (by omega) (by omega), k1]
      have m35 : md [] [36, 37] y y5 := md_tr m3 m5 rfl rfl
      have m56 : md [23] [36, 37] y y6 := md_tr m35 m6 rfl rfl
      exact ihn y6 (i + 1) (md_tr my m56 rfl rfl) (by omega) (by omega) (by omega)
  have p197 : ∀ (l1 l2 l3 l4 l5 : Int32) (z : gd), CI z l3 l4 → vp_in l2 710 → MT G (D + 4) z_readCell 197 [(0, vr 0), (1, vi l1), (2, vi l2), (3, vi l3), (4, vi l4), (5, vi l5)] [] z (rv Fv) := by
    intro l1 l2 l3 l4 l5 z ci hl2
    refine sg_readCell_197 _ _ _ _ _ (sp_pass _ ((hCI _ _ _).mp ci).1.2.1 (fun y s t => ?_))
    have cy := ciS ci s
    obtain ⟨sy, hl4, oky⟩ := (hCI _ _ _).mp cy
    have b9 := sy.2.1.2.2.1
    have gy' := (PG_ss sy pg).2.2.1
    have tl : ∀ s0 : Int32, (vp_nar .boolean s0 = 0 ∨ vp_in l4 710) → (y.1 0 9).toInt = 0 → MT G (D + 4) z_readCell 230 [(0, vr 0), (1, vi l1), (3, vi l3), (4, vi l4), (5, vi l5)] [vi s0, vi l3, vi (y.1 0 23), vi 0, vi l2, vr 0] y (rv Fv) := by
      intro s0 hs0 hb
      have ok := oky hb
      refine sg_readCell_230 _ _ _ _ _ _ _ _ _ (sp_tell _ _ _ _ _ _ (GB_v gy') (fun w td => ?_))
      exact p238 l1 l2 l3 l4 l5 s0 y w cy hb hl2 hs0 td l3.toInt.toNat w 0 (md_w (md_rf w) (by decide) (by decide)) (by rw [td.1.1 23 (by decide), k0]; omega) (by decide) (by rw [k0]; omega)
    refine ⟨fun c => ⟨fun _ => tl 0 (Or.inl rfl) ?_, fun e => tl 1 (Or.inr ?_) ?_⟩, fun c => rv_i (h _ (QD_bad sy ?_))⟩
    · rw [t_le, k0] at c; omega
    · exact hl4.resolve_left e
    · rw [t_le, k0] at c; omega
    · rw [t_le, k0] at c; omega
  have p141 : ∀ (l1 l2 l3 l4 : Int32) (z : gd), CI z l3 l4 → vp_in l2 710 → MT G (D + 4) z_readCell 141 [(0, vr 0), (1, vi l1), (2, vi l2), (3, vi l3), (4, vi l4)] [] z (rv Fv) := by
    intro l1 l2 l3 l4 z ci hl2
    have sz := ((hCI _ _ _).mp ci).1
    refine sg_readCell_141 _ _ _ _ (sp_take _ sz.2.1 ⟨fun _ => p197 _ _ _ _ _ z ci hl2, fun q => absurd rfl q⟩ (fun y _ s t => ⟨fun q => absurd q (by decide), fun _ => ?_⟩))
    have cy := ciS ci s
    refine sp_take _ s.2.1 ?_ (fun y2 _ s2 t2 => ?_)
    · exact sp_pass _ s.2.1 (fun y3 s3 _ => ⟨fun _ => ⟨PN_v s.2.1, p197 _ _ _ _ _ y3 (ciS cy s3) hl2⟩, fun q => absurd rfl q⟩)
    · exact sp_pass _ s2.2.1 (fun y3 s3 _ => ⟨fun q => absurd q (by decide), fun _ => ⟨PN_v s2.2.1, p197 _ _ _ _ _ y3 (ciS (ciS cy s2) s3) hl2⟩⟩)
  have p130 : ∀ (l1 l2 l3 l4 : Int32) (z : gd), CI z l3 l4 → vp_in l2 710 → MT G (D + 4) z_readCell 130 [(0, vr 0), (1, vi l1), (2, vi l2), (3, vi l3), (4, vi l4)] [] z (rv Fv) := fun l1 l2 l3 l4 z ci hl2 =>
    sg_readCell_130 _ _ _ _ (sp_pass _ ((hCI _ _ _).mp ci).1.2.1 (fun y s _ => sp_pass _ s.2.1 (fun y2 s2 _ => p141 _ _ _ _ y2 (ciS (ciS ci s) s2) hl2)))
  have p105 : ∀ (l1 l2 l4 s0 : Int32) (z : gd), SS x z → ((z.1 0 9).toInt = 0 → (x.1 0 8).toInt + 1 ≤ (z.1 0 8).toInt) → vp_in l4 710 → 1 ≤ s0.toInt → s0.toInt ≤ 8 → vp_in l2 710 → MT G (D + 4) z_readCell 105 [(0, vr 0), (1, vi l1), (2, vi l2), (4, vi l4)] [vi s0] z (rv Fv) := by
    intro l1 l2 l4 s0 z sz hz hl4 h1 h8 hl2
    have e23 : z.1 0 23 = x.1 0 23 := sz.1.1 23 (by decide)
    have gb1 := gb.1
    have gb2 := gb.2.1
    have ad : (z.1 0 23 + s0).toInt = (x.1 0 23).toInt + s0.toInt := by rw [e23, t_add (by omega) (by omega)]
    refine sg_readCell_105 _ _ _ _ ⟨fun c => p130 _ _ _ _ z ((hCI _ _ _).mpr ⟨sz, Or.inr hl4, fun q => absurd (t_eq.mpr q) c⟩) hl2, fun c => ⟨fun c2 => p130 _ _ _ _ z ((hCI _ _ _).mpr ⟨sz, Or.inr hl4, fun q => ⟨hz q, h1, ?_⟩⟩) hl2, fun c2 => sp_fault _ _ (by decide) hl2 sz.2.1 (fun y s hb _ _ => p130 _ _ _ _ y ((hCI _ _ _).mpr ⟨SS_tr sz s, Or.inr hl4, fun q => by omega⟩) hl2)⟩⟩
    rw [t_le, ad, k24] at c2
    exact c2
  have p40 : ∀ (l1 l2 : Int32) (z : gd), CI z 1 (-1) → vp_in l2 710 → MT G (D + 4) z_readCell 40 [(0, vr 0), (1, vi l1), (2, vi l2)] [] z (rv Fv) := by
    intro l1 l2 z ci hl2
    have sz := ((hCI _ _ _).mp ci).1
    refine sg_readCell_40 _ _ (sp_take _ sz.2.1 ⟨fun _ => p141 _ _ _ _ z ci hl2, fun q => absurd rfl q⟩ (fun y _ s t => ⟨fun q => absurd q (by decide), fun _ => ?_⟩))
    obtain ⟨sy, -, oky⟩ := (hCI _ _ _).mp (ciS ci s)
    have pv := PN_v sy.2.1
    have one : MT G (D + 4) z_readCell 105 [(0, vr 0), (1, vi l1), (2, vi l2), (4, vi (y.1 0 8))] [vi 1] y (rv Fv) := p105 _ _ _ _ y sy (fun q => (oky q).1) pv (by decide) (by decide) hl2
    refine ⟨fun _ => one, fun _ => ⟨pv, fun _ => one, fun _ => ⟨pv, sp_in _ _ _ ⟨fun _ => one, fun c => ⟨pv, ?_⟩⟩⟩⟩⟩
    obtain ⟨c1, c2⟩ := bi_ne.mp c
    rw [t_le, k1] at c1
    rw [t_le, k8] at c2
    exact p105 _ _ _ _ y sy (fun q => (oky q).1) pv c1 c2 hl2
  -- the head
  have head : ∀ (r : Int32) (y : gd), SS x y → MT G (D + 3) z_pass 0 [(0, vr 0), (1, vi 17)] [] y (rv (fun x3 => MT G (D + 3) z_passName 0 [(0, vr 0)] [] x3 (ri (fun r5 x4 => ((¬ ((x4.1 0 9) = (0 : Int32)) → MT G (D + 4) z_readCell 40 [(0, vr 0), (1, vi r), (2, vi r5)] [] x4 (rv Fv)) ∧ ((x4.1 0 9) = (0 : Int32) → ((¬ ((x4.1 0 23) = (24 : Int32)) → MT G (D + 4) z_readCell 40 [(0, vr 0), (1, vi r), (2, vi r5)] [] x4 (rv Fv)) ∧ ((x4.1 0 23) = (24 : Int32) → MT G (D + 3) z_fault 0 [(0, vr 0), (1, vi 3), (2, vi r5)] [] x4 (rv (fun x8 => MT G (D + 4) z_readCell 40 [(0, vr 0), (1, vi r), (2, vi r5)] [] x8 (rv Fv))))))))))) := by
    intro r y sy
    refine sp_pass _ sy.2.1 (fun y3 s3 t3 => sp_passName s3.2.1 (fun y4 s4 t4 => ?_))
    have sx3 := SS_tr sy s3
    have sx4 := SS_tr sx3 s4
    have pv := PN_v s3.2.1
    have e23 : y4.1 0 23 = x.1 0 23 := sx4.1.1 23 (by decide)
    have gb2 := gb.2.1
    refine ⟨fun c => p40 _ _ y4 ((hCI _ _ _).mpr ⟨sx4, Or.inl rfl, fun q => absurd (t_eq.mpr q) c⟩) pv, fun c => ⟨fun c2 => p40 _ _ y4 ((hCI _ _ _).mpr ⟨sx4, Or.inl rfl, fun q => ?_⟩) pv, fun _ => sp_fault _ _ (by decide) pv sx4.2.1 (fun y5 s5 hb _ _ => p40 _ _ y5 ((hCI _ _ _).mpr ⟨SS_tr sx4 s5, Or.inl rfl, fun q => by omega⟩) pv)⟩⟩
    have a4 := t4 q
    have a3 := t3 (s4.2.2.2.2 q)
    have a1 := sy.2.2.1
    rw [t_eq, e23, k24] at c2
    exact ⟨by omega, by decide, by rw [k1]; omega⟩
  exact sg_readCell_0 (sp_take _ pn (head 0 x (SS_rf pn)) (fun y _ s _ => head 1 y s))
