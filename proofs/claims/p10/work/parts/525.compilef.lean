/-! compile: whether a text is compiled, and how many of each it has -/
def MCf (x x' : gd) : Prop := ∃ (y : gd) (e : Nat), TSq (tby x) (tln x) e (y.1 5) (tP y) (tZ y) (y.1 7) ∧ y.1 2 = x.1 2 ∧ x'.1 2 = x.1 2 ∧ TK y ∧ ((∃ n j L, pAl (y.1 5) (y.1 7) 701 (0, 0, 0, 0, 0) 0 [] = some (n, j, L) ∧ ¬ jFl (smB y) (y.1 5) (y.1 7) L ∧ x'.1 0 66 = 1 ∧ cn x' = n ∧ MCo (smB y) (y.1 7) (y.1 5) L x') ∨ ((∀ n j L, pAl (y.1 5) (y.1 7) 701 (0, 0, 0, 0, 0) 0 [] = some (n, j, L) → jFl (smB y) (y.1 5) (y.1 7) L) ∧ x'.1 0 66 = 0 ∧ z5 x'))
theorem sf_compile {G : mG} {x : gd} {F : Int32 → gd → Prop} {D : Nat} (hD : 760 ≤ D) (g : G0 x) (h : ∀ r x', cG x x' → MCf x x' → F r x') : MT G D z_compile 0 [(0, vr 0)] [] x (ri F) := by
  obtain ⟨D, rfl⟩ : ∃ D', D = D' + 9 := ⟨D - 9, by omega⟩
  have k0 : (0 : Int32).toInt = 0 := rfl
  -- the state of the fields that stay
  let K : gd → Prop := fun y => y.1 0 2 = x.1 0 2 ∧ y.1 0 66 = 0 ∧ y.1 0 67 = 0 ∧ (y.1 119 0 = 0 ∧ y.1 119 1 = 0) ∧ oA y
  have Kmd : ∀ {L A : List Nat} {y z : gd}, md L A y z → [2, 66, 67].all (fun k => !L.elem k) = true → [119, 118].all (fun k => !A.elem k) = true → K y → K z := by
    intro L A y z m hL hA q
    have f := fun k hk => m.1 k (all_no hL k hk)
    have a := m.2.1 119 (by decide) (all_no hA 119 (by decide))
    show z.1 0 2 = x.1 0 2 ∧ z.1 0 66 = 0 ∧ z.1 0 67 = 0 ∧ (z.1 119 0 = 0 ∧ z.1 119 1 = 0) ∧ oA z
    rw [f 2 (by decide), f 66 (by decide), f 67 (by decide), a]
    exact ⟨q.1, q.2.1, q.2.2.1, q.2.2.2.1, oA_md m (all_no hA 118 (by decide)) q.2.2.2.2⟩
  have p96 : ∀ y : gd, K y → G0 y → ((y.1 0 9).toInt ≤ 0 → CP y) → (∀ x' : gd, ((y.1 0 9).toInt ≤ 0 → x'.1 0 66 = 1 → cn x' = cn y → x'.1 2 = y.1 2 → md [66] [] y x' → MCf x x') ∧ (¬ (y.1 0 9).toInt ≤ 0 → x'.1 0 66 = 0 → z5 x' → x'.1 2 = y.1 2 → MCf x x')) → MT G (D + 9) z_compile 96 [(0, vr 0)] [] y (ri F) := by
    intro y ky gy cy hM
    refine sg_compile_96 ⟨fun c y2 e2 => ri_i (h _ y2 ?_ ?_), fun c y3 e3 => ?_⟩
    rotate_left
    · rw [t_le, k0] at c
      have m := md_f y 66 1
      rw [← e2] at m
      refine (hM y2).1 c (by rw [e2, si_get, if_pos ⟨rfl, rfl⟩]) ?_ (m.2.1 2 (by decide) (by decide)) m
      unfold cn
      rw [m.1 23 (by decide), m.1 24 (by decide), m.1 25 (by decide), m.1 26 (by decide), m.1 27 (by decide)]
    rotate_left
    · rw [t_le, k0] at c
      have m := md_f y 66 1
      rw [← e2] at m
      refine ⟨G0_md m rfl rfl gy, by rw [m.1 2 (by decide)]; exact ky.1, fun _ => CP_md m rfl rfl (cy c), by rw [m.1 67 (by decide)]; exact ky.2.2.1, ?_, ?_⟩
      · rw [m.2.1 119 (by decide) (by decide)]; exact ky.2.2.2.1.1
      · rw [m.2.1 119 (by decide) (by decide)]; exact ky.2.2.2.1.2
    · have m := md_f y 11 (y.1 0 10)
      rw [← e3] at m
      have g3 : G0 y3 := G0_md m rfl rfl gy
      rw [t_le, k0] at c
      refine sp_lineOf _ g3.2.2.2.1 (fun r y6 e6 => sp_forget (fun z hz => ri_i (h _ z ?_ ((hM z).2 c hz.2.1 ⟨hz.2.2.2.1, hz.2.2.2.2.1, hz.2.2.2.2.2.1, hz.2.2.2.2.2.2.1, hz.2.2.2.2.2.2.2.1⟩ ?_))))
      rotate_left
      · have mm6 := md_f y3 12 r
        rw [← e6] at mm6
        rw [hz.1.2.1 2 (by decide) (by decide), mm6.2.1 2 (by decide) (by decide), m.2.1 2 (by decide) (by decide)]
      have m6 := md_f y3 12 r
      rw [← e6] at m6
      have g6 : G0 y6 := G0_md m6 rfl rfl g3
      refine ⟨G0_md hz.1 rfl rfl g6, by rw [hz.1.1 2 (by decide), m6.1 2 (by decide), m.1 2 (by decide)]; exact ky.1, fun q => absurd hz.2.1 q, hz.2.2.1, hz.2.2.2.2.2.2.2.2.1, hz.2.2.2.2.2.2.2.2.2⟩
  have p69 : ∀ y : gd, K y → (y.1 0 42).toInt ≤ 3000 → 0 ≤ (y.1 0 2).toInt → (y.1 0 2).toInt ≤ 3000 → PN y → ((y.1 0 9).toInt = 0 → PG y) → y.1 0 47 = 0 → ∀ x10 : gd, (∃ e, TSq (tby x) (tln x) e (x10.1 5) (tP x10) (tZ x10) (x10.1 7)) → x10.1 2 = x.1 2 → y.1 2 = x10.1 2 → TK x10 → smB y = smB x10 → y.1 5 = x10.1 5 → y.1 7 = x10.1 7 → FA x10 y → MT G (D + 9) z_compile 69 [(0, vr 0)] [] y (ri F) := by
    intro y ky hy s0 s1 pn pg y47 x10 ts x2 yx2 tk10 esm e5 e7 fa
    obtain ⟨e0, ts⟩ := ts
    obtain ⟨Ds, fa1, fa2⟩ := fa
    have gy : G0 y := ⟨s0, s1, pn.2.2.2.1, pn.2.2.2.2, hy, ky.2.2.2.2⟩
    have p9 := pn.2.2.1
    refine sg_compile_69 ⟨fun c => p96 y ky gy (fun q => ?_) (fun x' => ⟨fun q => ?_, fun q q1 q2 q3 => ⟨x10, e0, ts, x2, by rw [q3, yx2, x2], tk10, Or.inr ⟨fun n j L e => ?_, q1, q2⟩⟩⟩), fun c => sf_judge (by omega) pn (pg (by rw [c, k0])) hy (fa2 (by rw [c, k0])).1 (fa2 (by rw [c, k0])).2 y47 (fun y2 m2 w2 c2 hwr hcd y3 e3 y4 e4 => ?_)⟩
    · exact absurd (t_eq.mpr (by rw [k0]; omega)) c
    · exact absurd (t_eq.mpr (by rw [k0]; omega)) c
    · rw [fa1, nwo_b (by omega)] at e
      exact absurd e (by simp)
    · have m3 := md_f y2 9 (y2.1 0 41)
      rw [← e3] at m3
      have m4 := md_f y3 10 (y3.1 0 42)
      rw [← e4] at m4
      have m34 : md [9, 10] [] y2 y4 := md_tr m3 m4 rfl rfl
      have y9 : y4.1 0 9 = y2.1 0 41 := by rw [m4.1 9 (by decide), e3, si_get, if_pos ⟨rfl, rfl⟩]
      have c4 : cn y4 = cn y := by
        unfold cn
        rw [m34.1 23 (by decide), m34.1 24 (by decide), m34.1 25 (by decide), m34.1 26 (by decide), m34.1 27 (by decide), m2.1 23 (by decide), m2.1 24 (by decide), m2.1 25 (by decide), m2.1 26 (by decide), m2.1 27 (by decide)]
      have y42 : y4.1 2 = y.1 2 := by rw [m34.2.1 2 (by decide) (by decide), m2.2.1 2 (by decide) (by decide)]
      have bz : (y.1 0 9).toInt = 0 := by rw [c, k0]
      have hfl := jF_flat (sN := smB y) (K := y.1 5) (V := y.1 7) (PV_shp (fa2 bz).1)
      rw [hfl, esm, e5, e7] at hwr
      have hmco : ¬ wr y2 → MCo (smB x10) (x10.1 7) (x10.1 5) Ds.flatten y4 := fun nw => by
        have a := MCo_of (fa2 bz).1 (fa2 bz).2 (m2.1 23 (by decide)) (m2.1 25 (by decide)) (m2.2.1 36 (by decide) (by decide)) (m2.2.1 37 (by decide) (by decide)) (m2.2.1 38 (by decide) (by decide)) (hcd nw)
        rw [esm, e5, e7] at a
        exact MCo_md m34 rfl rfl a
      rw [nwo_o bz] at fa1
      have w0 := w2.1
      have key : (y4.1 0 9).toInt ≤ 0 ↔ ¬ wr y2 := by
        rw [y9]
        refine ⟨fun q z => z (t_eq.mpr (by rw [k0]; omega)), fun q => ?_⟩
        by_cases z : y2.1 0 41 = 0
        · rw [z]; decide
        · exact absurd z q
      refine p96 y4 (Kmd m34 rfl rfl (Kmd m2 rfl rfl ky)) ⟨?_, ?_, ?_, ?_, ?_, (Kmd m34 rfl rfl (Kmd m2 rfl rfl ky)).2.2.2.2⟩ (fun _ => CP_md m34 rfl rfl c2) (fun x' => ⟨fun q q1 q2 q3 q4 => ⟨x10, e0, ts, x2, by rw [q3, y42, yx2, x2], tk10, Or.inl ⟨cn y, _, _, fa1, fun z => key.mp q (hwr.mpr z), q1, by rw [q2, c4], MCo_md q4 rfl rfl (hmco (key.mp q))⟩⟩, fun q q1 q2 q3 => ⟨x10, e0, ts, x2, by rw [q3, y42, yx2, x2], tk10, Or.inr ⟨fun n j L e => ?_, q1, q2⟩⟩⟩)
      rotate_right
      · rw [fa1] at e
        have e3' : Ds.flatten = L := congrArg (fun q : gN × Nat × gU => q.2.2) (Option.some.inj e)
        rw [← e3']
        have z : ¬ ¬ wr y2 := fun z => q (key.mpr z)
        exact hwr.mp (Classical.not_not.mp z)
      · rw [m34.1 2 (by decide), m2.1 2 (by decide)]; exact s0
      · rw [m34.1 2 (by decide), m2.1 2 (by decide)]; exact s1
      · exact TK_md m34 (by decide) (by decide) (by decide) (TK_md m2 (by decide) (by decide) (by decide) gy.2.2.1)
      · rw [e4, si_get, if_pos ⟨rfl, rfl⟩, m3.1 42 (by decide)]; exact w2.2
      · rw [m34.1 42 (by decide)]; exact w2.2
  refine sg_compile_0 (fun x1 e1 => sp_forget (fun x2 h2 x3 e3 x4 e4 => ?_))
  have m1 := md_f x 0 0
  rw [← e1] at m1
  have m3 := md_f x2 11 (-1)
  rw [← e3] at m3
  have m4 := md_f x3 12 (-1)
  rw [← e4] at m4
  have m12 : md [0, 23, 24, 25, 26, 27, 66, 67] [119] x x2 := md_tr m1 h2.1 rfl rfl
  have m24 : md [11, 12] [] x2 x4 := md_tr m3 m4 rfl rfl
  have m14 : md [0, 23, 24, 25, 26, 27, 66, 67, 11, 12] [119] x x4 := md_tr m12 m24 rfl rfl
  have g4 : G0 x4 := G0_md m14 rfl rfl g
  have k2 : K x2 := ⟨by rw [m12.1 2 (by decide)], h2.2.1, h2.2.2.1, ⟨h2.2.2.2.2.2.2.2.2.1, h2.2.2.2.2.2.2.2.2.2⟩, oA_md m12 (by decide) g.2.2.2.2.2⟩
  refine sf_readTokens g4.2.2.1 g4.1 g4.2.1 (fun x5 t5 m5 ts5 x6 e6 x7 e7 x8 e8 x9 e9 x10 e10 => ?_)
  have m6 := md_f x5 8 0
  rw [← e6] at m6
  have m7 := md_f x6 9 0
  rw [← e7] at m7
  have m8 := md_f x7 28 0
  rw [← e8] at m8
  have m9 := md_f x8 13 0
  rw [← e9] at m9
  have m10 := md_f x9 47 0
  rw [← e10] at m10
  have m510 : md [8, 9, 28, 13, 47] [] x5 x10 := md_tr (md_tr (L3 := [8, 9, 28, 13]) (A3 := []) (md_tr (L3 := [8, 9, 28]) (A3 := []) (md_tr (L3 := [8, 9]) (A3 := []) m6 m7 rfl rfl) m8 rfl rfl) m9 rfl rfl) m10 rfl rfl
  have f8 : x10.1 0 8 = 0 := by rw [m10.1 8 (by decide), m9.1 8 (by decide), m8.1 8 (by decide), m7.1 8 (by decide), e6, si_get, if_pos ⟨rfl, rfl⟩]
  have f9 : x10.1 0 9 = 0 := by rw [m10.1 9 (by decide), m9.1 9 (by decide), m8.1 9 (by decide), e7, si_get, if_pos ⟨rfl, rfl⟩]
  have f28 : x10.1 0 28 = 0 := by rw [m10.1 28 (by decide), m9.1 28 (by decide), e8, si_get, if_pos ⟨rfl, rfl⟩]
  have f13 : x10.1 0 13 = 0 := by rw [m10.1 13 (by decide), e9, si_get, if_pos ⟨rfl, rfl⟩]
  have m210 : md [11, 12, 3, 8, 9, 28, 13, 47] [5, 6, 7, 8] x2 x10 := md_tr (md_tr (L3 := [11, 12, 3]) (A3 := [5, 6, 7, 8]) m24 m5 rfl rfl) m510 rfl rfl
  have f23 : x10.1 0 23 = 0 := by rw [m210.1 23 (by decide)]; exact h2.2.2.2.1
  have f24 : x10.1 0 24 = 0 := by rw [m210.1 24 (by decide)]; exact h2.2.2.2.2.1
  have f25 : x10.1 0 25 = 0 := by rw [m210.1 25 (by decide)]; exact h2.2.2.2.2.2.1
  have f26 : x10.1 0 26 = 0 := by rw [m210.1 26 (by decide)]; exact h2.2.2.2.2.2.2.1
  have f27 : x10.1 0 27 = 0 := by rw [m210.1 27 (by decide)]; exact h2.2.2.2.2.2.2.2.1
  have k10 : K x10 := Kmd m210 rfl rfl k2
  have m410 : md [3, 8, 9, 28, 13, 47] [5, 6, 7, 8] x4 x10 := md_tr m5 m510 rfl rfl
  have t10 : TK x10 := TK_md m510 (by decide) (by decide) (by decide) t5
  have pn : PN x10 := ⟨by rw [f8]; decide, by rw [f8]; decide, by rw [f9]; decide, t10, by rw [m410.1 10 (by decide)]; exact g4.2.2.2.1⟩
  have pg : PG x10 := by
    refine ⟨by rw [f13]; decide, ?_, ?_, fun j hj => ?_, fun _ => 0, fun _ => 0, fun _ => 0, fun t ht => ?_, fun t ht => ?_, fun t ht => ?_, ?_⟩
    · unfold cr
      rw [f8, f13]; decide
    · unfold GB
      rw [f23, f24, f25, f26, f27, f28]; decide
    · rw [f28, k0] at hj; omega
    · rw [f25, k0] at ht; omega
    · rw [f26, k0] at ht; omega
    · rw [f27, k0] at ht; omega
    · rw [f25, f26, f27, f8]; decide
  have g10 : (x10.1 0 42).toInt ≤ 3000 ∧ 0 ≤ (x10.1 0 2).toInt ∧ (x10.1 0 2).toInt ≤ 3000 := by
    rw [m410.1 42 (by decide), m410.1 2 (by decide)]
    exact ⟨g4.2.2.2.2.1, g4.1, g4.2.1⟩
  have f47 : x10.1 0 47 = 0 := by rw [e10, si_get, if_pos ⟨rfl, rfl⟩]
  have b10 : (x10.1 0 9).toInt = 0 := by rw [f9]; rfl
  have cn10 : cn x10 = (0, 0, 0, 0, 0) := by
    unfold cn
    rw [f23, f24, f25, f26, f27]
    rfl
  have a14 : ∀ c : Nat, c ≠ 0 → c ≠ 119 → x4.1 c = x.1 c := fun c h0 h1 => m14.2.1 c h0 (by intro q; exact h1 (List.mem_singleton.mp q))
  have tb : tby x4 = tby x := by funext p; unfold tby; rw [a14 2 (by decide) (by decide)]
  have tl : tln x4 = tln x := by unfold tln; rw [m14.1 2 (by decide)]
  have ts10 : ∃ e, TSq (tby x) (tln x) e (x10.1 5) (tP x10) (tZ x10) (x10.1 7) := by
    obtain ⟨e0, ts⟩ := ts5
    rw [tb, tl] at ts
    refine ⟨e0, ?_⟩
    have q5 := m510.2.1 5 (by decide) (by decide)
    have q7 := m510.2.1 7 (by decide) (by decide)
    have qP : tP x10 = tP x5 := by funext j; show (x10.1 6 j).toNatClampNeg = _; rw [m510.2.1 6 (by decide) (by decide)]
    have qZ : tZ x10 = tZ x5 := by funext j; show (x10.1 8 j).toNatClampNeg = _; rw [m510.2.1 8 (by decide) (by decide)]
    rw [q5, q7, qP, qZ]
    exact ts
  have x2' : x10.1 2 = x.1 2 := by rw [m410.2.1 2 (by decide) (by decide)]; exact a14 2 (by decide) (by decide)
  refine sf_defs (by omega) pn pg b10 f8 cn10 f28 (fun z mz pz pgz fa => ?_)
  have mz' : md [8, 9, 10, 13, 20, 21, 23, 24, 25, 26, 27, 28] [15, 16, 17, 18, 19, 20, 30, 31, 32, 33, 34, 35, 36, 37, 38, 39, 40, 41] x10 z := mz
  exact p69 z (Kmd mz' rfl rfl k10) (by rw [mz'.1 42 (by decide)]; exact g10.1) (by rw [mz'.1 2 (by decide)]; exact g10.2.1) (by rw [mz'.1 2 (by decide)]; exact g10.2.2) pz pgz (by rw [mz'.1 47 (by decide)]; exact f47) x10 ts10 x2' (mz'.2.1 2 (by decide) (by decide)) t10 (smB_e (mz'.2.1 2 (by decide) (by decide)) (mz'.2.1 6 (by decide) (by decide)) (mz'.2.1 8 (by decide) (by decide))) (mz'.2.1 5 (by decide) (by decide)) (mz'.2.1 7 (by decide) (by decide)) fa
