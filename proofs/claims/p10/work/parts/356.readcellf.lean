/-! a definition: what it reads. eqD: what pD says from x on is what g says from z on -/
def eqD (x z : gd) (g : gU → Nat → gD) : Prop := ∀ L, (nwo x).bind (fun i => pD (x.1 5) (x.1 7) (cn x) i L) = (nwo z).bind (g L)
theorem eqD_cg {x z : gd} {g g' : gU → Nat → gD} (h : eqD x z g) (e : ∀ L j, nwo z = some j → g L j = g' L j) : eqD x z g' := by
  intro L
  rw [h L]
  cases c : nwo z with
  | none => rfl
  | some j => exact e L j c
theorem eqD_w {x z y : gd} {K : Nat → Int32} {w : Int32} {g : gU → Nat → gD} (h : eqD x z (fun L i => (psw K w i).bind (g L))) (e : nwo y = (nwo z).bind (psw K w)) : eqD x y g := by
  intro L
  rw [h L, e, Option.bind_assoc]
theorem eqD_s {x z y : gd} {g : gU → Nat → gD} (h : eqD x z (fun L i => (ps1 i).bind (g L))) (e : nwo y = (nwo z).bind ps1) : eqD x y g := by
  intro L
  rw [h L, e, Option.bind_assoc]
theorem eqD_1 {x z y : gd} {j : Nat} {g : gU → Nat → gD} (h : eqD x z (fun L i => (ps1 i).bind (g L))) (hz : nwo z = some j) (e : nwo y = ps1 j) : eqD x y g :=
  eqD_s h (by rw [hz, e]; rfl)
theorem eqD_x {x z y : gd} {g g' : gU → Nat → gD} (h : eqD x z g) (e : ∀ L j, nwo z = some j → g L j = none) (hy : nwo y = none) : eqD x y g' := by
  intro L
  rw [h L, hy]
  cases c : nwo z with
  | none => rfl
  | some j => exact e L j c
theorem eqD_m {x z : gd} {g : gU → Nat → gD} (h : eqD x z g) (hz : nwo z = none) {f : gU → Nat → gN × Nat × gU} (L : gU) : (nwo x).bind (fun i => pD (x.1 5) (x.1 7) (cn x) i L) = (nwo z).map (f L) := by
  rw [h L, hz]; rfl
/-- a cell's start value -/
def DCv (x : gd) (N : gU) (v : Int32) : Prop := (N = [(82, 0, 0)] ∧ v = 0) ∨ (∃ w, N = [(80, w, 0)] ∧ v = x.1 7 w) ∨ (∃ w, N = [(81, w, 0)] ∧ v = -(x.1 7 w))
/-- a cell, or a row with its whole -/
def DCm (x : gd) (l2 l3 l4 : Int32) (m : gU) : Prop := (l4 = -1 ∧ l3 = 1 ∧ m = [(31, l2.toNatClampNeg, 0)]) ∨ (¬ l4 = -1 ∧ vp_in l4 710 ∧ l3.toNatClampNeg = prz (x.1 5) (x.1 7) l4.toNatClampNeg ∧ m = [(32, l2.toNatClampNeg, l4.toNatClampNeg)])
/-- cells or a row were told -/
def DC (x x' : gd) (M : gU) : Prop := ∃ (l2 l3 l4 s0 v su : Int32) (i : Nat) (m N : gU), md [8, 9, 10, 23, 28] [30, 31, 32, 33, 34, 35, 36, 37] x x' ∧ tAd x x' l2 0 (x.1 0 23) l3 s0 l4 ∧ vp_in l2 710 ∧ 1 ≤ l3.toInt ∧ (x'.1 0 23).toInt = (x.1 0 23).toInt + l3.toInt ∧ (∀ j : Nat, x'.1 36 j = if (x.1 0 23).toNatClampNeg ≤ j ∧ j < (x'.1 0 23).toNatClampNeg then v else x.1 36 j) ∧ (∀ j : Nat, x'.1 37 j = if (x.1 0 23).toNatClampNeg ≤ j ∧ j < (x'.1 0 23).toNatClampNeg then vp_nar .boolean su else x.1 37 j) ∧ nwo x = some i ∧ (su = if x.1 5 i = 34 then 1 else 0) ∧ (s0 = if l4 = -1 then 0 else 1) ∧ DCv x N v ∧ DCm x l2 l3 l4 m ∧ M = m ++ (N ++ [(83, i, l2.toNatClampNeg)])
/-- a lock was told -/
def DLk (x x' : gd) (M : gU) : Prop := ∃ l2 : Int32, md [8, 9, 10, 24, 28] [30, 31, 32, 33, 34, 35] x x' ∧ tAd x x' l2 1 (x.1 0 24) 1 0 (-1) ∧ vp_in l2 710 ∧ (x'.1 0 24).toInt = (x.1 0 24).toInt + 1 ∧ M = [(33, l2.toNatClampNeg, 0)]
/-- a thread was told -/
def DT (x x' : gd) (M : gU) : Prop := ∃ (l2 r9 id : Int32) (N : gU), md [8, 9, 10, 13, 20, 21, 25, 28] [15, 16, 17, 18, 19, 20, 30, 31, 32, 33, 34, 35, 38, 39] x x' ∧ tAd x x' l2 2 (x.1 0 25) 1 0 (-1) ∧ vp_in l2 710 ∧ (x'.1 0 25).toInt = (x.1 0 25).toInt + 1 ∧ (id = 0 ∨ id = 1) ∧ (∀ j : Nat, x'.1 38 j = if j = (x.1 0 25).toNatClampNeg then vp_nar .boolean id else x.1 38 j) ∧ (∀ j : Nat, x'.1 39 j = if j = (x.1 0 25).toNatClampNeg then r9 else x.1 39 j) ∧ wB x' 0 (wSt x' 0 17) 0 r9 N ∧ M = [(34, l2.toNatClampNeg, id.toNatClampNeg)] ++ N
/-- an always was told -/
def DA (x x' : gd) (M : gU) : Prop := ∃ (n i : Nat) (e : Int32) (N : gU), md [8, 9, 10, 13, 20, 21, 26] [15, 16, 17, 18, 19, 20, 40] x x' ∧ (x'.1 0 26).toInt = (x.1 0 26).toInt + 1 ∧ (∀ j : Nat, x'.1 40 j = if j = (x.1 0 26).toNatClampNeg then e else x.1 40 j) ∧ vV x' true n e N ∧ M = [(35, i, 0)] ++ (N ++ [(54, 0, 0)])
/-- a finally was told -/
def DF (x x' : gd) (M : gU) : Prop := ∃ (n i : Nat) (e : Int32) (N : gU), md [8, 9, 10, 13, 20, 21, 27] [15, 16, 17, 18, 19, 20, 41] x x' ∧ (x'.1 0 27).toInt = (x.1 0 27).toInt + 1 ∧ (∀ j : Nat, x'.1 41 j = if j = (x.1 0 27).toNatClampNeg then e else x.1 41 j) ∧ vV x' true n e N ∧ M = [(36, i, 0)] ++ (N ++ [(54, 0, 0)])
/-- what a definition reads, and what it leaves by that -/
def FD (x x' : gd) : Prop := ∃ M, (∀ L, (nwo x).bind (fun i => pD (x.1 5) (x.1 7) (cn x) i L) = (nwo x').map (fun j => (cn x', j, L ++ M))) ∧ ((x'.1 0 9).toInt = 0 → NN x x' ∧ (DC x x' M ∨ DLk x x' M ∨ DT x x' M ∨ DA x x' M ∨ DF x x' M))
theorem FD_x {x x' : gd} {g : gU → Nat → gD} (h : eqD x x' g) (hb : ¬ (x'.1 0 9).toInt = 0) (h9 : 0 ≤ (x'.1 0 9).toInt) : FD x x' :=
  ⟨[], fun L => eqD_m h (nwo_b (by omega)) (f := fun L j => (cn x', j, L ++ [])) L, fun q => absurd q hb⟩
theorem cT2_7 {K : Nat → Int32} {n : gN} {i t j : Nat} {L : gU} (h : K j = 50) (hj : ¬ j < 700) : cT2 K n i t L j = none := by
  unfold cT2
  have e : pCv K (j, L) = none := by
    unfold pCv
    rw [if_pos h, if_neg hj]
  rw [e]; rfl
theorem sf_readCell {G : mG} {D : Nat} {x : gd} {Fv : gd → Prop} (pn : PN x) (pg : PG x) (hb : (x.1 0 9).toInt = 0) (hK : x.1 5 (x.1 0 8).toNatClampNeg = 34 ∨ x.1 5 (x.1 0 8).toNatClampNeg = 17) (h : ∀ x', QD x x' → FD x x' → Fv x') : MT G (D + 4) z_readCell 0 [(0, vr 0)] [] x (rv Fv) := by
  have k0 : (0 : Int32).toInt = 0 := rfl
  have k1 : (1 : Int32).toInt = 1 := rfl
  have k8 : (8 : Int32).toInt = 8 := rfl
  have k24 : (24 : Int32).toInt = 24 := rfl
  have gb := pg.2.2.1
  obtain ⟨i, ei⟩ : ∃ i, i = (x.1 0 8).toNatClampNeg := ⟨_, rfl⟩
  have ni : nwo x = some i := by rw [nwo_o hb, ei]
  rw [← ei] at hK
  obtain ⟨K, eK⟩ : ∃ K, K = x.1 5 := ⟨_, rfl⟩
  obtain ⟨V, eV⟩ : ∃ V, V = x.1 7 := ⟨_, rfl⟩
  obtain ⟨n, en⟩ : ∃ n, n = cn x := ⟨_, rfl⟩
  have n1 : n.1 = (x.1 0 23).toNatClampNeg := by rw [en]; rfl
  have K5 : ∀ {z : gd}, SS x z → z.1 5 = K := fun s => by rw [eK]; exact s.1.2.1 5 (by decide) (by decide)
  have V7 : ∀ {z : gd}, SS x z → z.1 7 = V := fun s => by rw [eV]; exact s.1.2.1 7 (by decide) (by decide)
  obtain ⟨CI, hCI⟩ : ∃ CI : gd → Int32 → Int32 → Int32 → gU → Prop, ∀ z l2 l3 l4 m, CI z l2 l3 l4 m ↔ (SS x z ∧ (l4 = -1 ∨ vp_in l4 710) ∧ ((z.1 0 9).toInt = 0 → ((x.1 0 8).toInt + 1 ≤ (z.1 0 8).toInt ∧ 1 ≤ l3.toInt ∧ (x.1 0 23).toInt + l3.toInt ≤ 24) ∧ DCm x l2 l3 l4 m)) := ⟨_, fun _ _ _ _ _ => Iff.rfl⟩
  have ciS : ∀ {z z' l2 l3 l4 m}, CI z l2 l3 l4 m → SS z z' → CI z' l2 l3 l4 m := by
    intro z z' l2 l3 l4 m a b
    obtain ⟨a1, a2, a3⟩ := (hCI _ _ _ _ _).mp a
    refine (hCI _ _ _ _ _).mpr ⟨SS_tr a1 b, a2, fun q => ?_⟩
    have a4 := a3 (b.2.2.2.2 q)
    have := b.2.2.1
    exact ⟨⟨by omega, a4.1.2⟩, a4.2⟩
  -- the cells themselves
  have p238 : ∀ (l1 l2 l3 l4 l5 s0 : Int32) (m N : gU) (z w : gd), CI z l2 l3 l4 m → (z.1 0 9).toInt = 0 → vp_in l2 710 → (vp_nar .boolean s0 = 0 ∨ vp_in l4 710) → (s0 = if l4 = -1 then 0 else 1) → (l1 = if x.1 5 i = 34 then 1 else 0) → DCv x N l5 → (∀ L, (nwo x).bind (fun i => pD (x.1 5) (x.1 7) (cn x) i L) = (nwo z).map (fun j => ((n.1 + l3.toNatClampNeg, n.2), j, L ++ (m ++ (N ++ [(83, i, l2.toNatClampNeg)]))))) → tD z w l2 0 (z.1 0 23) l3 s0 l4 → ∀ (k : Nat) (y : gd) (i' : Int32), md [23] [36, 37] w y → (y.1 0 23).toInt = (z.1 0 23).toInt + i'.toInt → 0 ≤ i'.toInt → i'.toInt + k = l3.toInt → (∀ j : Nat, y.1 36 j = if (x.1 0 23).toNatClampNeg ≤ j ∧ j < (y.1 0 23).toNatClampNeg then l5 else x.1 36 j) → (∀ j : Nat, y.1 37 j = if (x.1 0 23).toNatClampNeg ≤ j ∧ j < (y.1 0 23).toNatClampNeg then vp_nar .boolean l1 else x.1 37 j) → MT G (D + 4) z_readCell 238 [(0, vr 0), (1, vi l1), (3, vi l3), (5, vi l5), (6, vi i')] [] y (rv Fv) := by
    intro l1 l2 l3 l4 l5 s0 m N z w ci hb hl2 hs0 es0 el1 hv hE td k
    obtain ⟨sz, -, cz⟩ := (hCI _ _ _ _ _).mp ci
    obtain ⟨⟨z1, z2, z3⟩, hm⟩ := cz hb
    have pz := PG_ss sz pg
    have e23 : z.1 0 23 = x.1 0 23 := sz.1.1 23 (by decide)
    have gz := pz.2.2.1
    have gz1 := gz.1
    rw [← e23] at z3
    induction k with
    | zero =>
      intro y i' my hy i0 hi h36 h37
      refine sg_readCell_238 _ _ _ _ ⟨fun _ => rv_i (h _ ?_ ?_), fun c => absurd (t_le.mpr (by omega)) c⟩
      · have mw := td.1
        have mzy : md [23, 28] [30, 31, 32, 33, 34, 35, 36, 37] z y := md_tr mw my rfl rfl
        have e8 : y.1 0 8 = z.1 0 8 := mzy.1 8 (by decide)
        have e9 : y.1 0 9 = z.1 0 9 := mzy.1 9 (by decide)
        have e13 : y.1 0 13 = z.1 0 13 := mzy.1 13 (by decide)
        have e24 : y.1 0 24 = z.1 0 24 := mzy.1 24 (by decide)
        have e25 : y.1 0 25 = z.1 0 25 := mzy.1 25 (by decide)
        have e26 : y.1 0 26 = z.1 0 26 := mzy.1 26 (by decide)
        have e27 : y.1 0 27 = z.1 0 27 := mzy.1 27 (by decide)
        obtain ⟨n28, nT⟩ := tell_tE td gz (y := y) (fun c h1 h2 => my.2.1 c (by omega) (by intro q; simp only [List.mem_cons, List.not_mem_nil, or_false] at q; omega)) (my.1 28 (by decide)) (by omega) (by rw [e24]; exact Int.le_refl _) (by rw [e25]; exact Int.le_refl _) pz.2.2.2.1 ⟨hl2, Or.inl ⟨rfl, gz1, z2, by omega⟩, hs0⟩
        refine ⟨md_tr sz.1 mzy rfl rfl, ⟨by rw [e8]; exact sz.2.1.1, by rw [e8]; exact sz.2.1.2.1, by rw [e9]; exact sz.2.1.2.2.1, TX_md mzy (by decide) (by decide) (by decide) (by decide) sz.2.1.2.2.2⟩, fun _ => ⟨⟨by rw [e13]; exact pz.1, by unfold cr; rw [e8, e13]; exact pz.2.1, ?_, nT, ?_⟩, by rw [e8]; exact z1⟩⟩
        · obtain ⟨g1, g2, g3, g4, g5, g6, g7, g8, g9, g10, g11, g12⟩ := gz
          unfold GB
          rw [e24, e25, e26, e27]
          exact ⟨by omega, by omega, g3, g4, g5, g6, g7, g8, g9, g10, by omega, by omega⟩
        · exact PT_keep (NN_md mzy (by decide) (by intro c h1 h2 q; simp only [List.mem_cons, List.not_mem_nil, or_false] at q; omega)) (by rw [e8]; exact Int.le_refl _) e25 e26 e27 (mzy.2.1 39 (by decide) (by decide)) (mzy.2.1 40 (by decide) (by decide)) (mzy.2.1 41 (by decide) (by decide)) pz.2.2.2.2
      · have mw := td.1
        have mzy : md [23, 28] [30, 31, 32, 33, 34, 35, 36, 37] z y := md_tr mw my rfl rfl
        have mxy : md [8, 9, 10, 23, 28] [30, 31, 32, 33, 34, 35, 36, 37] x y := md_tr sz.1 mzy rfl rfl
        have ny : nwo y = nwo z := nwo_e (mzy.1 8 (by decide)) (mzy.1 9 (by decide))
        have ec : cn y = (n.1 + l3.toNatClampNeg, n.2) := by
          have a1 : (y.1 0 23).toNatClampNeg = n.1 + l3.toNatClampNeg := by
            rw [n1, t_cl, t_cl, t_cl]
            have : (z.1 0 23).toInt = (x.1 0 23).toInt := by rw [e23]
            omega
          have a2 : n.2 = (cn x).2 := by rw [en]
          rw [a2]
          show ((y.1 0 23).toNatClampNeg, _) = _
          rw [a1]
          unfold cn
          rw [mxy.1 24 (by decide), mxy.1 25 (by decide), mxy.1 26 (by decide), mxy.1 27 (by decide)]
        refine ⟨m ++ (N ++ [(83, i, l2.toNatClampNeg)]), fun L => by rw [hE L, ny, ec], fun _ => ⟨NN_md mxy (by decide) (by intro c h1 h2 q; simp only [List.mem_cons, List.not_mem_nil, or_false] at q; omega), Or.inl ⟨l2, l3, l4, s0, l5, l1, i, m, N, mxy, ?_, hl2, z2, by rw [← e23]; omega, h36, h37, ni, el1, es0, hv, hm, rfl⟩⟩⟩
        rw [e23] at td
        exact tAd_of td (fun c h1 h2 => sz.1.2.1 c (by omega) (by intro q; cases q)) (sz.1.1 28 (by decide)) (fun c h1 h2 => my.2.1 c (by omega) (by intro q; simp only [List.mem_cons, List.not_mem_nil, or_false] at q; omega)) (my.1 28 (by decide))
    | succ k ihn =>
      intro y i' my hy i0 hi h36 h37
      have hv : vp_in (y.1 0 23) 24 := by rw [vp_in_iff]; omega
      refine sg_readCell_238 _ _ _ _ ⟨fun c => ?_, fun _ => ⟨hv, fun y3 e3 => ?_⟩⟩
      · rw [t_le] at c; omega
      have m3 := md_a y 36 (y.1 0 23).toNatClampNeg l5 (by decide)
      rw [← e3] at m3
      have f3 : y3.1 0 23 = y.1 0 23 := m3.1 23 (by decide)
      refine ⟨by rw [f3]; exact hv, fun y5 e5 y6 e6 => ?_⟩
      have m5 := md_a y3 37 (y3.1 0 23).toNatClampNeg (vp_nar .boolean l1) (by decide)
      rw [← e5] at m5
      have f5 : y5.1 0 23 = y3.1 0 23 := m5.1 23 (by decide)
      have m6 := md_f y5 23 (y5.1 0 23 + 1)
      rw [← e6] at m6
      have f6 : (y6.1 0 23).toInt = (y.1 0 23).toInt + 1 := by
        rw [e6, si_get, if_pos ⟨rfl, rfl⟩, f5, f3, t_add (by omega) (by omega), k1]
      have fi : (i' + 1).toInt = i'.toInt + 1 := by rw [t_add (by omega) (by omega), k1]
      have m35 : md [] [36, 37] y y5 := md_tr m3 m5 rfl rfl
      have m56 : md [23] [36, 37] y y6 := md_tr m35 m6 rfl rfl
      have x23 : (z.1 0 23).toInt = (x.1 0 23).toInt := by rw [e23]
      have up : ∀ (a v : Int32) (j : Nat) (u : Int32), a = (if j = (y.1 0 23).toNatClampNeg then v else if (x.1 0 23).toNatClampNeg ≤ j ∧ j < (y.1 0 23).toNatClampNeg then v else u) → a = if (x.1 0 23).toNatClampNeg ≤ j ∧ j < (y6.1 0 23).toNatClampNeg then v else u := by
        intro a v j u e
        rw [e]
        have c1 := t_cl (y.1 0 23)
        have c2 := t_cl (x.1 0 23)
        have c3 := t_cl (y6.1 0 23)
        by_cases q1 : j = (y.1 0 23).toNatClampNeg
        · rw [if_pos q1, if_pos (by omega)]
        · rw [if_neg q1]
          by_cases q2 : (x.1 0 23).toNatClampNeg ≤ j ∧ j < (y.1 0 23).toNatClampNeg
          · rw [if_pos q2, if_pos (by omega)]
          · rw [if_neg q2, if_neg (by omega)]
      refine ihn y6 (i' + 1) (md_tr my m56 rfl rfl) (by omega) (by omega) (by omega) (fun j => ?_) (fun j => ?_)
      · refine up _ _ _ _ ?_
        rw [m6.2.1 36 (by decide) (by decide), m5.2.1 36 (by decide) (by decide), e3, si_get, h36]
        by_cases q : j = (y.1 0 23).toNatClampNeg
        · rw [if_pos ⟨rfl, q⟩, if_pos q]
        · rw [if_neg (fun z => q z.2), if_neg q]
      · refine up _ _ _ _ ?_
        rw [m6.2.1 37 (by decide) (by decide), e5, si_get, f3, m3.2.1 37 (by decide) (by decide), h37]
        by_cases q : j = (y.1 0 23).toNatClampNeg
        · rw [if_pos ⟨rfl, q⟩, if_pos q]
        · rw [if_neg (fun z => q z.2), if_neg q]
  have p197 : ∀ (l1 l2 l3 l4 l5 : Int32) (m N : gU) (z : gd), CI z l2 l3 l4 m → vp_in l2 710 → (l1 = if x.1 5 i = 34 then 1 else 0) → DCv x N l5 → eqD x z (fun L j => cT1 K (n.1 + l3.toNatClampNeg, n.2) i l2.toNatClampNeg (L ++ (m ++ N)) j) → MT G (D + 4) z_readCell 197 [(0, vr 0), (1, vi l1), (2, vi l2), (3, vi l3), (4, vi l4), (5, vi l5)] [] z (rv Fv) := by
    intro l1 l2 l3 l4 l5 m N z ci hl2 el1 hv hE
    have sz := ((hCI _ _ _ _ _).mp ci).1
    refine sg_readCell_197 _ _ _ _ _ (sf_pass _ sz.2.1 (fun y s t ey => ?_))
    rw [K5 sz] at ey
    have cy := ciS ci s
    obtain ⟨sy, hl4, oky⟩ := (hCI _ _ _ _ _).mp cy
    have b9 := sy.2.1.2.2.1
    have gy' := (PG_ss sy pg).2.2.1
    have hE2 : ∀ L, (nwo x).bind (fun i => pD (x.1 5) (x.1 7) (cn x) i L) = (nwo y).map (fun j => ((n.1 + l3.toNatClampNeg, n.2), j, L ++ (m ++ (N ++ [(83, i, l2.toNatClampNeg)])))) := by
      intro L
      rw [hE L, cT1_map ey (L ++ (m ++ N))]
      simp only [List.append_assoc]
    have tl : ∀ s0 : Int32, (vp_nar .boolean s0 = 0 ∨ vp_in l4 710) → (s0 = if l4 = -1 then 0 else 1) → (y.1 0 9).toInt = 0 → MT G (D + 4) z_readCell 230 [(0, vr 0), (1, vi l1), (3, vi l3), (4, vi l4), (5, vi l5)] [vi s0, vi l3, vi (y.1 0 23), vi 0, vi l2, vr 0] y (rv Fv) := by
      intro s0 hs0 es0 hb
      have ok := (oky hb).1
      refine sg_readCell_230 _ _ _ _ _ _ _ _ _ (sp_tell _ _ _ _ _ _ (GB_v gy') (fun w td => ?_))
      have w23 : w.1 0 23 = x.1 0 23 := by rw [td.1.1 23 (by decide)]; exact sy.1.1 23 (by decide)
      refine p238 l1 l2 l3 l4 l5 s0 m N y w cy hb hl2 hs0 es0 el1 hv hE2 td l3.toInt.toNat w 0 (md_w (md_rf w) (by decide) (by decide)) (by rw [td.1.1 23 (by decide), k0]; omega) (by decide) (by rw [k0]; omega) (fun j => ?_) (fun j => ?_)
      · rw [w23, if_neg (by omega), td.1.2.1 36 (by decide) (by decide)]
        exact congrFun (sy.1.2.1 36 (by decide) (by decide)) j
      · rw [w23, if_neg (by omega), td.1.2.1 37 (by decide) (by decide)]
        exact congrFun (sy.1.2.1 37 (by decide) (by decide)) j
    refine ⟨fun c => ⟨fun e => tl 0 (Or.inl rfl) (by rw [if_pos e]) ?_, fun e => tl 1 (Or.inr ?_) (by rw [if_neg e]) ?_⟩, fun c => rv_i (h _ (QD_bad sy ?_) ⟨[], fun L => ?_, fun q => ?_⟩)⟩
    · rw [t_le, k0] at c; omega
    · exact hl4.resolve_left e
    · rw [t_le, k0] at c; omega
    · rw [t_le, k0] at c; omega
    · rw [t_le, k0] at c
      rw [hE2 L, nwo_b (by omega)]; rfl
    · rw [t_le, k0] at c; omega
  have p141 : ∀ (l1 l2 l3 l4 : Int32) (m : gU) (z : gd), CI z l2 l3 l4 m → vp_in l2 710 → (l1 = if x.1 5 i = 34 then 1 else 0) → eqD x z (fun L j => cT2 K (n.1 + l3.toNatClampNeg, n.2) i l2.toNatClampNeg (L ++ m) j) → MT G (D + 4) z_readCell 141 [(0, vr 0), (1, vi l1), (2, vi l2), (3, vi l3), (4, vi l4)] [] z (rv Fv) := by
    intro l1 l2 l3 l4 m z ci hl2 el1 hE
    have sz := ((hCI _ _ _ _ _).mp ci).1
    refine sg_readCell_141 _ _ _ _ (sf_take _ sz.2.1 (fun hno => ⟨fun _ => p197 _ _ _ _ _ m [(82, 0, 0)] z ci hl2 el1 (Or.inl ⟨rfl, rfl⟩) (eqD_cg hE (fun L j hj => ?_)), fun q => absurd rfl q⟩) (fun y j hj hKj _ s t ey => ⟨fun q => absurd q (by decide), fun _ => ?_⟩))
    · have c := hno j hj
      rw [K5 sz] at c
      rw [cT2_no c, List.append_assoc]
    rw [K5 sz] at hKj
    have cy := ciS ci s
    have sy := SS_tr sz s
    refine sf_take _ s.2.1 (fun hno => ?_) (fun y2 j2 hj2 hK2 _ s2 t2 ey2 => ?_)
    · have hE2 : eqD x y (fun L w => (psw K 2 w).bind (fun q => cT1 K (n.1 + l3.toNatClampNeg, n.2) i l2.toNatClampNeg (L ++ (m ++ [(80, (y.1 0 8).toNatClampNeg, 0)])) q)) := by
        by_cases c7 : j < 700
        · have ny : nwo y = some (j + 1) := by rw [ey, ps1, if_pos c7]
          have c58 := hno (j + 1) ny
          rw [K5 sy] at c58
          have a : eqD x z (fun L w => (ps1 w).bind (fun j => (psw K 2 j).bind (fun q => cT1 K (n.1 + l3.toNatClampNeg, n.2) i l2.toNatClampNeg ((L ++ m) ++ [(80, j, 0)]) q))) := eqD_cg hE (fun L w hw => by
            rw [hj] at hw
            cases Option.some.inj hw
            exact cT2_plus hKj c58)
          refine eqD_cg (eqD_1 a hj ey) (fun L w hw => ?_)
          rw [(nwo_is hw).2, List.append_assoc]
        · exact eqD_x hE (fun L w hw => by
            rw [hj] at hw
            cases Option.some.inj hw
            exact cT2_7 hKj c7) (by rw [ey, ps1, if_neg c7])
      refine sf_pass _ s.2.1 (fun y3 s3 _ ey3 => ⟨fun _ => ⟨PN_v s.2.1, ?_⟩, fun q => absurd rfl q⟩)
      rw [K5 sy] at ey3
      exact p197 _ _ _ _ _ m _ y3 (ciS cy s3) hl2 el1 (Or.inr (Or.inl ⟨_, rfl, by rw [V7 (SS_tr sy s3), ← eV]⟩)) (eqD_w hE2 ey3)
    · rw [K5 sy] at hK2
      have sy2 := SS_tr sy s2
      have hE2 : eqD x y2 (fun L w => (psw K 2 w).bind (fun q => cT1 K (n.1 + l3.toNatClampNeg, n.2) i l2.toNatClampNeg (L ++ (m ++ [(81, (y2.1 0 8).toNatClampNeg, 0)])) q)) := by
        have c7 : j < 700 := by
          by_cases c7 : j < 700
          · exact c7
          · rw [ey, ps1, if_neg c7] at hj2; exact absurd hj2 (by simp)
        have ny : nwo y = some (j + 1) := by rw [ey, ps1, if_pos c7]
        have ej : j2 = j + 1 := by rw [ny] at hj2; exact (Option.some.inj hj2).symm
        subst ej
        have a : eqD x z (fun L w => (ps1 w).bind (fun j => (ps1 j).bind (fun j => (psw K 2 j).bind (fun q => cT1 K (n.1 + l3.toNatClampNeg, n.2) i l2.toNatClampNeg ((L ++ m) ++ [(81, j, 0)]) q)))) := eqD_cg hE (fun L w hw => by
          rw [hj] at hw
          cases Option.some.inj hw
          exact cT2_minus hKj hK2)
        refine eqD_cg (eqD_1 (eqD_1 a hj ey) hj2 ey2) (fun L w hw => ?_)
        rw [(nwo_is hw).2, List.append_assoc]
      refine sf_pass _ s2.2.1 (fun y3 s3 _ ey3 => ⟨fun q => absurd q (by decide), fun _ => ⟨PN_v s2.2.1, ?_⟩⟩)
      rw [K5 sy2] at ey3
      exact p197 _ _ _ _ _ m _ y3 (ciS (ciS cy s2) s3) hl2 el1 (Or.inr (Or.inr ⟨_, rfl, by rw [V7 (SS_tr sy2 s3), ← eV]⟩)) (eqD_w hE2 ey3)
  have p130 : ∀ (l1 l2 l3 l4 : Int32) (m : gU) (z : gd), CI z l2 l3 l4 m → vp_in l2 710 → (l1 = if x.1 5 i = 34 then 1 else 0) → eqD x z (fun L w => (psw K 2 w).bind (fun j => (psw K 66 j).bind (fun j => cT2 K (n.1 + l3.toNatClampNeg, n.2) i l2.toNatClampNeg (L ++ m) j))) → MT G (D + 4) z_readCell 130 [(0, vr 0), (1, vi l1), (2, vi l2), (3, vi l3), (4, vi l4)] [] z (rv Fv) := fun l1 l2 l3 l4 m z ci hl2 el1 hE => by
    have sz := ((hCI _ _ _ _ _).mp ci).1
    refine sg_readCell_130 _ _ _ _ (sf_pass _ sz.2.1 (fun y s _ ey => sf_pass _ s.2.1 (fun y2 s2 _ ey2 => ?_)))
    rw [K5 sz] at ey
    rw [K5 (SS_tr sz s)] at ey2
    exact p141 _ _ _ _ m y2 (ciS (ciS ci s) s2) hl2 el1 (eqD_w (eqD_w hE ey) ey2)
  have p105 : ∀ (l1 l2 l4 s0 : Int32) (z : gd), SS x z → ((z.1 0 9).toInt = 0 → (x.1 0 8).toInt + 1 ≤ (z.1 0 8).toInt) → vp_in l4 710 → 1 ≤ s0.toInt → s0.toInt ≤ 8 → vp_in l2 710 → l4 = z.1 0 8 → ((z.1 0 9).toInt = 0 → s0.toNatClampNeg = prz K V l4.toNatClampNeg) → (l1 = if x.1 5 i = 34 then 1 else 0) → eqD x z (fun L w => if n.1 + prz K V w ≤ 24 then (psw K 2 w).bind (fun j => (psw K 66 j).bind (fun j => cT2 K (n.1 + prz K V w, n.2) i l2.toNatClampNeg (L ++ [(32, l2.toNatClampNeg, w)]) j)) else none) → MT G (D + 4) z_readCell 105 [(0, vr 0), (1, vi l1), (2, vi l2), (4, vi l4)] [vi s0] z (rv Fv) := by
    intro l1 l2 l4 s0 z sz hz hl4 h1 h8 hl2 el4 es0 el1 hE
    have e23 : z.1 0 23 = x.1 0 23 := sz.1.1 23 (by decide)
    have gb1 := gb.1
    have gb2 := gb.2.1
    have ad : (z.1 0 23 + s0).toInt = (x.1 0 23).toInt + s0.toInt := by rw [e23, t_add (by omega) (by omega)]
    have nl4 : ¬ l4 = -1 := fun q => by
      have := vp_in_iff.mp hl4
      rw [q] at this
      exact absurd this.1 (by decide)
    have hm : (z.1 0 9).toInt = 0 → DCm x l2 s0 l4 [(32, l2.toNatClampNeg, l4.toNatClampNeg)] := fun q => Or.inr ⟨nl4, hl4, by rw [es0 q, eK, eV], rfl⟩
    have wl : ∀ w, nwo z = some w → (z.1 0 9).toInt = 0 ∧ w = l4.toNatClampNeg := fun w hw => ⟨(nwo_is hw).1, by rw [el4]; exact (nwo_is hw).2.symm⟩
    refine sg_readCell_105 _ _ _ _ ⟨fun c => p130 _ _ _ _ [(32, l2.toNatClampNeg, l4.toNatClampNeg)] z ((hCI _ _ _ _ _).mpr ⟨sz, Or.inr hl4, fun q => absurd (t_eq.mpr q) c⟩) hl2 el1 ?_, fun c => ⟨fun c2 => p130 _ _ _ _ [(32, l2.toNatClampNeg, l4.toNatClampNeg)] z ((hCI _ _ _ _ _).mpr ⟨sz, Or.inr hl4, fun q => ⟨⟨hz q, h1, ?_⟩, hm q⟩⟩) hl2 el1 ?_, fun c2 => sp_fault _ _ (by decide) hl2 sz.2.1 (fun y s hb _ _ => p130 _ _ _ _ [(32, l2.toNatClampNeg, l4.toNatClampNeg)] y ((hCI _ _ _ _ _).mpr ⟨SS_tr sz s, Or.inr hl4, fun q => by omega⟩) hl2 el1 ?_)⟩⟩
    · exact eqD_cg hE (fun L w hw => absurd (t_eq.mpr (wl w hw).1) c)
    · rw [t_le, ad, k24] at c2
      exact c2
    · refine eqD_cg hE (fun L w hw => ?_)
      obtain ⟨w0, rfl⟩ := wl w hw
      rw [t_le, ad, k24] at c2
      have e := es0 w0
      have u1 := t_cl s0
      have u2 := t_cl (x.1 0 23)
      rw [if_pos (by omega), ← e]
    · refine eqD_x hE (fun L w hw => ?_) (nwo_b hb)
      obtain ⟨w0, rfl⟩ := wl w hw
      rw [t_le, ad, k24] at c2
      have e := es0 w0
      have u1 := t_cl s0
      have u2 := t_cl (x.1 0 23)
      exact if_neg (by omega)
  have p40 : ∀ (l1 l2 : Int32) (z : gd), CI z l2 1 (-1) [(31, l2.toNatClampNeg, 0)] → vp_in l2 710 → (l1 = if x.1 5 i = 34 then 1 else 0) → eqD x z (fun L j => cT0 K V n i l2.toNatClampNeg L j) → MT G (D + 4) z_readCell 40 [(0, vr 0), (1, vi l1), (2, vi l2)] [] z (rv Fv) := by
    intro l1 l2 z ci hl2 el1 hE
    have sz := ((hCI _ _ _ _ _).mp ci).1
    refine sg_readCell_40 _ _ (sf_take _ sz.2.1 (fun hno => ⟨fun _ => p141 _ _ _ _ _ z ci hl2 el1 (eqD_cg hE (fun L j hj => ?_)), fun q => absurd rfl q⟩) (fun y j hj hKj _ s t ey => ⟨fun q => absurd q (by decide), fun _ => ?_⟩))
    · have c := hno j hj
      rw [K5 sz] at c
      unfold cT0
      rw [if_neg c]
      rfl
    rw [K5 sz] at hKj
    obtain ⟨sy, -, oky⟩ := (hCI _ _ _ _ _).mp (ciS ci s)
    have pv := PN_v sy.2.1
    have hE2 : eqD x y (fun L w => if n.1 + prz K V w ≤ 24 then (psw K 2 w).bind (fun j => (psw K 66 j).bind (fun j => cT2 K (n.1 + prz K V w, n.2) i l2.toNatClampNeg (L ++ [(32, l2.toNatClampNeg, w)]) j)) else none) := by
      refine eqD_1 (eqD_cg hE (fun L w hw => ?_)) hj ey
      rw [hj] at hw
      cases Option.some.inj hw
      unfold cT0
      rw [if_pos hKj]
    have one : ((y.1 0 9).toInt = 0 → ¬ (K (y.1 0 8).toNatClampNeg = 2 ∧ 1 ≤ V (y.1 0 8).toNatClampNeg ∧ V (y.1 0 8).toNatClampNeg ≤ 8)) → MT G (D + 4) z_readCell 105 [(0, vr 0), (1, vi l1), (2, vi l2), (4, vi (y.1 0 8))] [vi 1] y (rv Fv) := fun q => p105 _ _ _ _ y sy (fun q => (oky q).1.1) pv (by decide) (by decide) hl2 rfl (fun q0 => by unfold prz; rw [if_neg (q q0)]; rfl) el1 hE2
    refine ⟨fun c => one (fun q => absurd (t_eq.mpr q) c), fun _ => ⟨pv, fun c => one (fun _ q => c (by rw [K5 sy]; exact q.1)), fun c2 => ⟨pv, sp_in _ _ _ ⟨fun c => one (fun _ q => bi_eq.mp c (by rw [V7 sy]; exact q.2)), fun c => ⟨pv, ?_⟩⟩⟩⟩⟩
    have c3 := bi_ne.mp c
    rw [K5 sy] at c2
    obtain ⟨c1, c4⟩ := c3
    rw [V7 sy] at c1 c4
    have e := fun _ : (y.1 0 9).toInt = 0 => show (y.1 7 (y.1 0 8).toNatClampNeg).toNatClampNeg = prz K V (y.1 0 8).toNatClampNeg by
      unfold prz
      rw [if_pos ⟨c2, c1, c4⟩, V7 sy]
    rw [t_le, k1] at c1
    rw [t_le, k8] at c4
    exact p105 _ _ _ _ y sy (fun q => (oky q).1.1) pv (by rw [V7 sy]; exact c1) (by rw [V7 sy]; exact c4) hl2 rfl e el1 hE2
  -- the head
  have head : ∀ (r : Int32) (y : gd), SS x y → (r = if x.1 5 i = 34 then 1 else 0) → eqD x y (fun L i0 => (psw K 17 i0).bind (fun t => (psw K 1 t).bind (fun j => if n.1 < 24 then cT0 K V n i t L j else none))) → MT G (D + 3) z_pass 0 [(0, vr 0), (1, vi 17)] [] y (rv (fun x3 => MT G (D + 3) z_passName 0 [(0, vr 0)] [] x3 (ri (fun r5 x4 => ((¬ ((x4.1 0 9) = (0 : Int32)) → MT G (D + 4) z_readCell 40 [(0, vr 0), (1, vi r), (2, vi r5)] [] x4 (rv Fv)) ∧ ((x4.1 0 9) = (0 : Int32) → ((¬ ((x4.1 0 23) = (24 : Int32)) → MT G (D + 4) z_readCell 40 [(0, vr 0), (1, vi r), (2, vi r5)] [] x4 (rv Fv)) ∧ ((x4.1 0 23) = (24 : Int32) → MT G (D + 3) z_fault 0 [(0, vr 0), (1, vi 3), (2, vi r5)] [] x4 (rv (fun x8 => MT G (D + 4) z_readCell 40 [(0, vr 0), (1, vi r), (2, vi r5)] [] x8 (rv Fv))))))))))) := by
    intro r y sy er hE
    refine sf_pass _ sy.2.1 (fun y3 s3 t3 ey3 => sf_passName s3.2.1 (fun y4 s4 t4 ey4 => ?_))
    have sx3 := SS_tr sy s3
    have sx4 := SS_tr sx3 s4
    rw [K5 sy] at ey3
    rw [K5 sx3] at ey4
    have pv := PN_v s3.2.1
    have e23 : y4.1 0 23 = x.1 0 23 := sx4.1.1 23 (by decide)
    have gb1 := gb.1
    have gb2 := gb.2.1
    have hE4 : eqD x y4 (fun L j => if n.1 < 24 then cT0 K V n i (y3.1 0 8).toNatClampNeg L j else none) := by
      refine eqD_w (eqD_cg (eqD_w hE ey3) (fun L t ht => ?_)) ey4
      rw [(nwo_is ht).2]
    have u1 := t_cl (x.1 0 23)
    refine ⟨fun c => p40 _ _ y4 ((hCI _ _ _ _ _).mpr ⟨sx4, Or.inl rfl, fun q => absurd (t_eq.mpr q) c⟩) pv er (eqD_cg hE4 (fun L j hj => absurd (t_eq.mpr (nwo_is hj).1) c)), fun c => ⟨fun c2 => p40 _ _ y4 ((hCI _ _ _ _ _).mpr ⟨sx4, Or.inl rfl, fun q => ⟨?_, Or.inl ⟨rfl, rfl, rfl⟩⟩⟩) pv er (eqD_cg hE4 (fun L j hj => ?_)), fun c2 => sp_fault _ _ (by decide) pv sx4.2.1 (fun y5 s5 hb _ _ => p40 _ _ y5 ((hCI _ _ _ _ _).mpr ⟨SS_tr sx4 s5, Or.inl rfl, fun q => by omega⟩) pv er (eqD_x hE4 (fun L j hj => ?_) (nwo_b hb)))⟩⟩
    · have a4 := t4 q
      have a3 := t3 (s4.2.2.2.2 q)
      have a1 := sy.2.2.1
      rw [t_eq, e23, k24] at c2
      exact ⟨by omega, by decide, by rw [k1]; omega⟩
    · rw [t_eq, e23, k24] at c2
      exact if_pos (by omega)
    · rw [t_eq, e23, k24] at c2
      exact if_neg (by omega)
  have hx : eqD x x (fun L i => pD K V n i L) := fun L => by rw [eK, eV, en]
  refine sg_readCell_0 (sf_take _ pn (fun hno => head 0 x (SS_rf pn) ?_ ?_) (fun y j hj hKj _ s _ ey => head 1 y s ?_ ?_))
  · rw [if_neg (hno i ni)]
  · refine eqD_cg hx (fun L j hj => ?_)
    rw [ni] at hj
    cases Option.some.inj hj
    have c := hno i ni
    have c17 : K i = 17 := by rw [eK]; exact hK.resolve_left c
    rw [← eK] at c
    rw [← pCl_is]
    show pD K V n i L = _
    unfold pD
    rw [if_neg c, if_pos c17]
  · rw [ni] at hj
    cases Option.some.inj hj
    rw [if_pos hKj]
  · rw [ni] at hj
    cases Option.some.inj hj
    refine eqD_1 (eqD_cg hx (fun L j hj => ?_)) ni ey
    rw [ni] at hj
    cases Option.some.inj hj
    rw [← eK] at hKj
    show pD K V n i L = _
    unfold pD ps1
    rw [if_pos hKj]
    by_cases c : i < 700
    · rw [if_pos c, if_pos c, Option.bind_some, ← pCl_is]
    · rw [if_neg c, if_neg c]; rfl
