/-! forget, compile, feed, wipe: what stays between calls -/
/-- the open calls' numbers -/
def oA (x : gd) : Prop := ∀ t : Nat, t < 6 → 0 ≤ (x.1 118 t).toInt ∧ (x.1 118 t).toInt < 14
theorem oA_md {L A : List Nat} {x x' : gd} (h : md L A x x') (hA : 118 ∉ A) (q : oA x) : oA x' := by
  unfold oA
  rw [h.2.1 118 (by decide) hA]
  exact q
def G0 (x : gd) : Prop := 0 ≤ (x.1 0 2).toInt ∧ (x.1 0 2).toInt ≤ 3000 ∧ TK x ∧ (x.1 0 10).toInt ≤ 3000 ∧ (x.1 0 42).toInt ≤ 3000 ∧ oA x
def fG (x x' : gd) : Prop := md [23, 24, 25, 26, 27, 66, 67] [119] x x' ∧ x'.1 0 66 = 0 ∧ x'.1 0 67 = 0 ∧ x'.1 0 23 = 0 ∧ x'.1 0 24 = 0 ∧ x'.1 0 25 = 0 ∧ x'.1 0 26 = 0 ∧ x'.1 0 27 = 0 ∧ x'.1 119 0 = 0 ∧ x'.1 119 1 = 0
theorem G0_md {L A : List Nat} {x x' : gd} (h : md L A x x') (hL : [2, 10, 42].all (fun k => !L.elem k) = true) (hA : [6, 7, 8, 118].all (fun k => !A.elem k) = true) (q : G0 x) : G0 x' := by
  have f := fun k hk => h.1 k (all_no hL k hk)
  unfold G0
  rw [f 2 (by decide), f 10 (by decide), f 42 (by decide)]
  exact ⟨q.1, q.2.1, TK_md h (all_no hA 6 (by decide)) (all_no hA 8 (by decide)) (all_no hA 7 (by decide)) q.2.2.1, q.2.2.2.1, q.2.2.2.2.1, oA_md h (all_no hA 118 (by decide)) q.2.2.2.2.2⟩
theorem CP_md {L A : List Nat} {x x' : gd} (h : md L A x x') (hL : [23, 24, 25, 26, 27, 28, 49, 52].all (fun k => !L.elem k) = true) (hA : [51, 52, 54, 55, 56, 57, 58, 59, 60, 61, 64, 65, 66].all (fun k => !A.elem k) = true) (q : CP x) : CP x' := by
  have f := fun k hk => h.1 k (all_no hL k hk)
  have g := fun k (h0 : k ≠ 0) hk => h.2.1 k h0 (all_no hA k hk)
  have f23 := f 23 (by decide)
  have f24 := f 24 (by decide)
  have f25 := f 25 (by decide)
  have f26 := f 26 (by decide)
  have f27 := f 27 (by decide)
  have f28 := f 28 (by decide)
  have f49 := f 49 (by decide)
  have f52 := f 52 (by decide)
  have g51 := g 51 (by decide) (by decide)
  have g52 := g 52 (by decide) (by decide)
  obtain ⟨q1, q2, q3, q4⟩ := q
  have wk : ∀ r, wo x 0 r → wo x' 0 r := fun r z => wo_keep (by rw [f49]; omega) (fun j _ => by rw [g51, g52]; exact ⟨rfl, rfl⟩) z
  have ok : ∀ r, oW x r → oW x' r := fun r z => ⟨z.1, cW_keep (by rw [f49]; omega) (fun j _ => by rw [g51, g52]; exact ⟨rfl, rfl⟩) z.2⟩
  refine ⟨?_, ?_, fun k hk => ?_, fun k hk => ?_⟩
  · unfold GB
    rw [f23, f24, f25, f26, f27, f28]
    exact q1
  · obtain ⟨j1, j2, j3, j4, j5, j6⟩ := q2
    refine ⟨by rw [f52]; exact j1, by rw [f52]; exact j2, by rw [f49]; exact j3, by rw [f49]; exact j4, fun j hj => ?_, fun j hj => ?_⟩
    · rw [f52] at hj
      obtain ⟨⟨a1, a2, a3, a4⟩, b, c9⟩ := j5 j hj
      unfold sC sO gO
      rw [g 54 (by decide) (by decide), g 55 (by decide) (by decide), g 56 (by decide) (by decide), g 57 (by decide) (by decide), g 58 (by decide) (by decide), g 59 (by decide) (by decide), g 60 (by decide) (by decide), g 61 (by decide) (by decide), f25, f52]
      exact ⟨⟨wk _ a1, wk _ a2, wk _ a3, a4⟩, b, c9⟩
    · rw [f25] at hj
      rw [g 64 (by decide) (by decide), f52]
      exact j6 j hj
  · rw [f26] at hk
    rw [g 65 (by decide) (by decide)]
    exact ok _ (q3 k hk)
  · rw [f27] at hk
    rw [g 66 (by decide) (by decide)]
    exact ok _ (q4 k hk)
section SPC
variable {G : mG} {d : Nat} {x : gd} {F : Int32 → gd → Prop} {Fv : gd → Prop}
theorem sp_forget (h : ∀ x', fG x x' → Fv x') : MT G d z_forget 0 [(0, vr 0)] [] x (rv Fv) := by
  refine sg_forget_0 (fun x1 e1 x2 e2 x3 e3 x4 e4 x5 e5 x6 e6 x7 e7 => ⟨vp_in_iff.mpr (by decide), fun x9 e9 => ⟨vp_in_iff.mpr (by decide), fun x11 e11 => rv_i (h x11 ?_)⟩⟩)
  have z0 : (0 : Int32).toNatClampNeg = 0 := rfl
  have z1 : (1 : Int32).toNatClampNeg = 1 := rfl
  have zb : vp_nar .boolean 0 = 0 := by decide
  rw [z0, zb] at e9
  rw [z1, zb] at e11
  have m1 := md_f x 66 0
  rw [← e1] at m1
  have m2 := md_f x1 67 0
  rw [← e2] at m2
  have m3 := md_f x2 23 0
  rw [← e3] at m3
  have m4 := md_f x3 24 0
  rw [← e4] at m4
  have m5 := md_f x4 25 0
  rw [← e5] at m5
  have m6 := md_f x5 26 0
  rw [← e6] at m6
  have m7 := md_f x6 27 0
  rw [← e7] at m7
  have m9 := md_a x7 119 0 0 (by decide)
  rw [← e9] at m9
  have m11 := md_a x9 119 1 0 (by decide)
  rw [← e11] at m11
  have M2 : md [66, 67] [] x x2 := md_tr m1 m2 rfl rfl
  have M3 : md [66, 67, 23] [] x x3 := md_tr M2 m3 rfl rfl
  have M4 : md [66, 67, 23, 24] [] x x4 := md_tr M3 m4 rfl rfl
  have M5 : md [66, 67, 23, 24, 25] [] x x5 := md_tr M4 m5 rfl rfl
  have M6 : md [66, 67, 23, 24, 25, 26] [] x x6 := md_tr M5 m6 rfl rfl
  have M7 : md [66, 67, 23, 24, 25, 26, 27] [] x x7 := md_tr M6 m7 rfl rfl
  have M9 : md [66, 67, 23, 24, 25, 26, 27] [119] x x9 := md_tr M7 m9 rfl rfl
  refine ⟨md_tr M9 m11 rfl rfl, ?_, ?_, ?_, ?_, ?_, ?_, ?_, ?_, ?_⟩
  · rw [m11.1 66 (by decide), m9.1 66 (by decide), m7.1 66 (by decide), m6.1 66 (by decide), m5.1 66 (by decide), m4.1 66 (by decide), m3.1 66 (by decide), m2.1 66 (by decide), e1, si_get, if_pos ⟨rfl, rfl⟩]
  · rw [m11.1 67 (by decide), m9.1 67 (by decide), m7.1 67 (by decide), m6.1 67 (by decide), m5.1 67 (by decide), m4.1 67 (by decide), m3.1 67 (by decide), e2, si_get, if_pos ⟨rfl, rfl⟩]
  · rw [m11.1 23 (by decide), m9.1 23 (by decide), m7.1 23 (by decide), m6.1 23 (by decide), m5.1 23 (by decide), m4.1 23 (by decide), e3, si_get, if_pos ⟨rfl, rfl⟩]
  · rw [m11.1 24 (by decide), m9.1 24 (by decide), m7.1 24 (by decide), m6.1 24 (by decide), m5.1 24 (by decide), e4, si_get, if_pos ⟨rfl, rfl⟩]
  · rw [m11.1 25 (by decide), m9.1 25 (by decide), m7.1 25 (by decide), m6.1 25 (by decide), e5, si_get, if_pos ⟨rfl, rfl⟩]
  · rw [m11.1 26 (by decide), m9.1 26 (by decide), m7.1 26 (by decide), e6, si_get, if_pos ⟨rfl, rfl⟩]
  · rw [m11.1 27 (by decide), m9.1 27 (by decide), e7, si_get, if_pos ⟨rfl, rfl⟩]
  · rw [e11, si_ne 119 0 (by decide), e9, si_get, if_pos ⟨rfl, rfl⟩]
  · rw [e11, si_get, if_pos ⟨rfl, rfl⟩]
/-- what compile leaves -/
def cG (x x' : gd) : Prop := G0 x' ∧ x'.1 0 2 = x.1 0 2 ∧ (¬ x'.1 0 66 = 0 → CP x') ∧ x'.1 0 67 = 0 ∧ x'.1 119 0 = 0 ∧ x'.1 119 1 = 0
theorem sp_compile {D : Nat} (hD : 760 ≤ D) (g : G0 x) (h : ∀ r x', cG x x' → F r x') : MT G D z_compile 0 [(0, vr 0)] [] x (ri F) := by
  obtain ⟨D, rfl⟩ : ∃ D', D = D' + 9 := ⟨D - 9, by omega⟩
  have k0 : (0 : Int32).toInt = 0 := rfl
  -- the state of the fields that stay
  let K : gd → Prop := fun y => y.1 0 2 = x.1 0 2 ∧ y.1 0 66 = 0 ∧ y.1 0 67 = 0 ∧ (y.1 119 0 = 0 ∧ y.1 119 1 = 0) ∧ oA y
  have Kmd : ∀ {L A : List Nat} {y z : gd}, md L A y z → [2, 66, 67].all (fun k => !L.elem k) = true → [119, 118].all (fun k => !A.elem k) = true → K y → K z := by
    intro L A y z m hL hA q
    have f := fun k hk => m.1 k (all_no hL k hk)
    have a := m.2.1 119 (by decide) (all_no hA 119 (by decide))
    show z.1 0 2 = x.1 0 2 ∧ z.1 0 66 = 0 ∧ z.1 0 67 = 0 ∧ (z.1 119 0 = 0 ∧ z.1 119 1 = 0) ∧ oA z
    rw [f 2 (by decide), f 66 (by decide), f 67 (by decide), a]
    exact ⟨q.1, q.2.1, q.2.2.1, q.2.2.2.1, oA_md m (all_no hA 118 (by decide)) q.2.2.2.2⟩
  have p96 : ∀ y : gd, K y → G0 y → ((y.1 0 9).toInt ≤ 0 → CP y) → MT G (D + 9) z_compile 96 [(0, vr 0)] [] y (ri F) := by
    intro y ky gy cy
    refine sg_compile_96 ⟨fun c y2 e2 => ri_i (h _ y2 ?_), fun c y3 e3 => ?_⟩
    · rw [t_le, k0] at c
      have m := md_f y 66 1
      rw [← e2] at m
      refine ⟨G0_md m rfl rfl gy, by rw [m.1 2 (by decide)]; exact ky.1, fun _ => CP_md m rfl rfl (cy c), by rw [m.1 67 (by decide)]; exact ky.2.2.1, ?_, ?_⟩
      · rw [m.2.1 119 (by decide) (by decide)]; exact ky.2.2.2.1.1
      · rw [m.2.1 119 (by decide) (by decide)]; exact ky.2.2.2.1.2
    · have m := md_f y 11 (y.1 0 10)
      rw [← e3] at m
      have g3 : G0 y3 := G0_md m rfl rfl gy
      refine sp_lineOf _ g3.2.2.2.1 (fun r y6 e6 => sp_forget (fun z hz => ri_i (h _ z ?_)))
      have m6 := md_f y3 12 r
      rw [← e6] at m6
      have g6 : G0 y6 := G0_md m6 rfl rfl g3
      refine ⟨G0_md hz.1 rfl rfl g6, by rw [hz.1.1 2 (by decide), m6.1 2 (by decide), m.1 2 (by decide)]; exact ky.1, fun q => absurd hz.2.1 q, hz.2.2.1, hz.2.2.2.2.2.2.2.2.1, hz.2.2.2.2.2.2.2.2.2⟩
  have p69 : ∀ y : gd, K y → (y.1 0 42).toInt ≤ 3000 → 0 ≤ (y.1 0 2).toInt → (y.1 0 2).toInt ≤ 3000 → PN y → ((y.1 0 9).toInt = 0 → PG y) → MT G (D + 9) z_compile 69 [(0, vr 0)] [] y (ri F) := by
    intro y ky hy s0 s1 pn pg
    have gy : G0 y := ⟨s0, s1, pn.2.2.2.1, pn.2.2.2.2, hy, ky.2.2.2.2⟩
    refine sg_compile_69 ⟨fun c => p96 y ky gy (fun q => ?_), fun c => sp_judge (by omega) pn (pg (by rw [c, k0])) hy (fun y2 m2 w2 c2 y3 e3 y4 e4 => ?_)⟩
    · have := pn.2.2.1
      exact absurd (t_eq.mpr (by rw [k0]; omega)) c
    · have m3 := md_f y2 9 (y2.1 0 41)
      rw [← e3] at m3
      have m4 := md_f y3 10 (y3.1 0 42)
      rw [← e4] at m4
      have m34 : md [9, 10] [] y2 y4 := md_tr m3 m4 rfl rfl
      refine p96 y4 (Kmd m34 rfl rfl (Kmd m2 rfl rfl ky)) ⟨?_, ?_, ?_, ?_, ?_, (Kmd m34 rfl rfl (Kmd m2 rfl rfl ky)).2.2.2.2⟩ (fun _ => CP_md m34 rfl rfl c2)
      · rw [m34.1 2 (by decide), m2.1 2 (by decide)]; exact s0
      · rw [m34.1 2 (by decide), m2.1 2 (by decide)]; exact s1
      · exact TK_md m34 (by decide) (by decide) (by decide) (TK_md m2 (by decide) (by decide) (by decide) gy.2.2.1)
      · rw [e4, si_get, if_pos ⟨rfl, rfl⟩, m3.1 42 (by decide)]; exact w2.2
      · rw [m34.1 42 (by decide)]; exact w2.2
  refine sg_compile_0 (fun x1 e1 => sp_forget (fun x2 h2 x3 e3 x4 e4 => ?_))
  have m1 := md_f x 0 0
  rw [← e1] at m1
  have m3 := md_f x2 11 (-1)
  rw [← e3] at m3
  have m4 := md_f x3 12 (-1)
  rw [← e4] at m4
  have m12 : md [0, 23, 24, 25, 26, 27, 66, 67] [119] x x2 := md_tr m1 h2.1 rfl rfl
  have m24 : md [11, 12] [] x2 x4 := md_tr m3 m4 rfl rfl
  have m14 : md [0, 23, 24, 25, 26, 27, 66, 67, 11, 12] [119] x x4 := md_tr m12 m24 rfl rfl
  have g4 : G0 x4 := G0_md m14 rfl rfl g
  have k2 : K x2 := ⟨by rw [m12.1 2 (by decide)], h2.2.1, h2.2.2.1, ⟨h2.2.2.2.2.2.2.2.2.1, h2.2.2.2.2.2.2.2.2.2⟩, oA_md m12 (by decide) g.2.2.2.2.2⟩
  refine sp_readTokens g4.2.2.1 g4.1 g4.2.1 (fun x5 t5 m5 x6 e6 x7 e7 x8 e8 x9 e9 x10 e10 => ?_)
  have m6 := md_f x5 8 0
  rw [← e6] at m6
  have m7 := md_f x6 9 0
  rw [← e7] at m7
  have m8 := md_f x7 28 0
  rw [← e8] at m8
  have m9 := md_f x8 13 0
  rw [← e9] at m9
  have m10 := md_f x9 47 0
  rw [← e10] at m10
  have m510 : md [8, 9, 28, 13, 47] [] x5 x10 := md_tr (md_tr (L3 := [8, 9, 28, 13]) (A3 := []) (md_tr (L3 := [8, 9, 28]) (A3 := []) (md_tr (L3 := [8, 9]) (A3 := []) m6 m7 rfl rfl) m8 rfl rfl) m9 rfl rfl) m10 rfl rfl
  have f8 : x10.1 0 8 = 0 := by rw [m10.1 8 (by decide), m9.1 8 (by decide), m8.1 8 (by decide), m7.1 8 (by decide), e6, si_get, if_pos ⟨rfl, rfl⟩]
  have f9 : x10.1 0 9 = 0 := by rw [m10.1 9 (by decide), m9.1 9 (by decide), m8.1 9 (by decide), e7, si_get, if_pos ⟨rfl, rfl⟩]
  have f28 : x10.1 0 28 = 0 := by rw [m10.1 28 (by decide), m9.1 28 (by decide), e8, si_get, if_pos ⟨rfl, rfl⟩]
  have f13 : x10.1 0 13 = 0 := by rw [m10.1 13 (by decide), e9, si_get, if_pos ⟨rfl, rfl⟩]
  have m210 : md [11, 12, 3, 8, 9, 28, 13, 47] [5, 6, 7, 8] x2 x10 := md_tr (md_tr (L3 := [11, 12, 3]) (A3 := [5, 6, 7, 8]) m24 m5 rfl rfl) m510 rfl rfl
  have f23 : x10.1 0 23 = 0 := by rw [m210.1 23 (by decide)]; exact h2.2.2.2.1
  have f24 : x10.1 0 24 = 0 := by rw [m210.1 24 (by decide)]; exact h2.2.2.2.2.1
  have f25 : x10.1 0 25 = 0 := by rw [m210.1 25 (by decide)]; exact h2.2.2.2.2.2.1
  have f26 : x10.1 0 26 = 0 := by rw [m210.1 26 (by decide)]; exact h2.2.2.2.2.2.2.1
  have f27 : x10.1 0 27 = 0 := by rw [m210.1 27 (by decide)]; exact h2.2.2.2.2.2.2.2.1
  have k10 : K x10 := Kmd m210 rfl rfl k2
  have m410 : md [3, 8, 9, 28, 13, 47] [5, 6, 7, 8] x4 x10 := md_tr m5 m510 rfl rfl
  have t10 : TK x10 := TK_md m510 (by decide) (by decide) (by decide) t5
  have pn : PN x10 := ⟨by rw [f8]; decide, by rw [f8]; decide, by rw [f9]; decide, t10, by rw [m410.1 10 (by decide)]; exact g4.2.2.2.1⟩
  have pg : PG x10 := by
    refine ⟨by rw [f13]; decide, ?_, ?_, fun j hj => ?_, fun _ => 0, fun _ => 0, fun _ => 0, fun t ht => ?_, fun t ht => ?_, fun t ht => ?_, ?_⟩
    · unfold cr
      rw [f8, f13]; decide
    · unfold GB
      rw [f23, f24, f25, f26, f27, f28]; decide
    · rw [f28, k0] at hj; omega
    · rw [f25, k0] at ht; omega
    · rw [f26, k0] at ht; omega
    · rw [f27, k0] at ht; omega
    · rw [f25, f26, f27, f8]; decide
  have g10 : (x10.1 0 42).toInt ≤ 3000 ∧ 0 ≤ (x10.1 0 2).toInt ∧ (x10.1 0 2).toInt ≤ 3000 := by
    rw [m410.1 42 (by decide), m410.1 2 (by decide)]
    exact ⟨g4.2.2.2.2.1, g4.1, g4.2.1⟩
  refine sp_defs (by omega) pn (fun _ => pg) (fun z mz pz pgz => ?_)
  have mz' : md [8, 9, 10, 13, 20, 21, 23, 24, 25, 26, 27, 28] [15, 16, 17, 18, 19, 20, 30, 31, 32, 33, 34, 35, 36, 37, 38, 39, 40, 41] x10 z := mz
  exact p69 z (Kmd mz' rfl rfl k10) (by rw [mz'.1 42 (by decide)]; exact g10.1) (by rw [mz'.1 2 (by decide)]; exact g10.2.1) (by rw [mz'.1 2 (by decide)]; exact g10.2.2) pz pgz
/-- wipe: the text's length, and nothing of it is left -/
def z5 (x : gd) : Prop := x.1 0 23 = 0 ∧ x.1 0 24 = 0 ∧ x.1 0 25 = 0 ∧ x.1 0 26 = 0 ∧ x.1 0 27 = 0
def wG (x x' : gd) : Prop := G0 x' ∧ x'.1 0 66 = 0 ∧ x'.1 0 67 = 0 ∧ x'.1 119 0 = 0 ∧ x'.1 119 1 = 0 ∧ z5 x'
theorem wG_f {x y x' : gd} (g : G0 y) (h : fG y x') : wG x x' := ⟨G0_md h.1 rfl rfl g, h.2.1, h.2.2.1, h.2.2.2.2.2.2.2.2.1, h.2.2.2.2.2.2.2.2.2, h.2.2.2.1, h.2.2.2.2.1, h.2.2.2.2.2.1, h.2.2.2.2.2.2.1, h.2.2.2.2.2.2.2.1⟩
theorem sp_wipe (g : G0 x) (h : ∀ x', wG x x' → x'.1 0 2 = 0 → F (x.1 0 2) x') : MT G (d + 1) z_wipe 0 [(0, vr 0)] [] x (ri F) := by
  refine sg_wipe_0 (fun x1 e1 x2 e2 => sp_forget (fun x3 h3 => ?_))
  have m1 := md_f x 0 0
  rw [← e1] at m1
  have m2 := md_f x1 2 0
  rw [← e2] at m2
  have m : md [0, 2] [] x x2 := md_tr m1 m2 rfl rfl
  have f2 : x2.1 0 2 = 0 := by rw [e2, si_get, if_pos ⟨rfl, rfl⟩]
  have g2 : G0 x2 := ⟨by rw [f2]; decide, by rw [f2]; decide, TK_md m (by decide) (by decide) (by decide) g.2.2.1, by rw [m.1 10 (by decide)]; exact g.2.2.2.1, by rw [m.1 42 (by decide)]; exact g.2.2.2.2.1, oA_md m (by decide) g.2.2.2.2.2⟩
  rw [m1.1 2 (by decide)]
  exact ri_i (h x3 (wG_f g2 h3) (by rw [h3.1.1 2 (by decide)]; exact f2))
/-- the bytes that feed adds -/
def FBw (b : Int64) (j : Nat) : Int32 := vp_nar .byte (((b >>> ((8 * Int32.ofNat j : Int32).toInt64 &&& 63 : Int64) : Int64).toInt32 : Int32).toInt8.toInt32)
def FBm (x : gd) (b : Int64) (n : Nat) (y : gd) : Prop := (∀ p, p < (x.1 0 2).toNatClampNeg → y.1 2 p = x.1 2 p) ∧ ∀ j, j < n → y.1 2 ((x.1 0 2).toNatClampNeg + j) = FBw b j
/-- feed: n bytes more, where n is 1 to 8 and they have room; else nothing but what was thrown -/
def okF (x : gd) (n : Int32) : Prop := 1 ≤ n.toInt ∧ n.toInt ≤ 8 ∧ (x.1 0 2).toInt + n.toInt ≤ 3000
theorem sp_feed (n : Int32) (b : Int64) (g : G0 x) (h0 : ¬ okF x n → ∀ x', md [0] [] x x' → x'.1 0 0 = 1 → F 0 x') (h1 : okF x n → ∀ x', wG x x' → x'.1 0 0 = 0 → x'.1 0 2 = x.1 0 2 + n ∧ FBm x b n.toNatClampNeg x' → F (x.1 0 2 + n) x') : MT G (d + 1) z_feed 0 [(0, vr 0), (1, vi n), (2, vl b)] [] x (ri F) := by
  have k0 : (0 : Int32).toInt = 0 := rfl
  have k1 : (1 : Int32).toInt = 1 := rfl
  have k8 : (8 : Int32).toInt = 8 := rfl
  have k3 : (3000 : Int32).toInt = 3000 := rfl
  obtain ⟨g1, g2, g3, g4, g5, g6⟩ := id g
  have loop : okF x n → ∀ (m : Nat) (y : gd) (i : Int32), FBm x b i.toNatClampNeg y → md [0, 2] [2] x y → y.1 0 0 = 0 → y.1 0 2 = x.1 0 2 + i → 0 ≤ i.toInt → i.toInt ≤ n.toInt → n.toInt - i.toInt ≤ m → MT G (d + 1) z_feed 45 [(0, vr 0), (1, vi n), (2, vl b), (4, vi i)] [] y (ri F) := by
    intro ok
    obtain ⟨o1, o2, o3⟩ := id ok
    have last : ∀ (y : gd) (i : Int32), FBm x b i.toNatClampNeg y → md [0, 2] [2] x y → y.1 0 0 = 0 → y.1 0 2 = x.1 0 2 + i → i.toInt ≤ n.toInt → n.toInt ≤ i.toInt → 0 ≤ i.toInt → MT G d z_forget 0 [(0, vr 0)] [] y (rv (fun x2 => ri F (some (vi (x2.1 0 2))) x2)) := by
      intro y i fb my y0 y2 i1 i2 i0
      have en : i = n := t_eq.mpr (by omega)
      have q : (x.1 0 2 + n).toInt = (x.1 0 2).toInt + n.toInt := t_add (by omega) (by omega)
      rw [en] at y2 fb
      refine sp_forget (fun z hz => ?_)
      have gy : G0 y := ⟨by rw [y2, q]; omega, by rw [y2, q]; omega, TK_md my (by decide) (by decide) (by decide) g3, by rw [my.1 10 (by decide)]; exact g4, by rw [my.1 42 (by decide)]; exact g5, oA_md my (by decide) g6⟩
      have z2 : z.1 0 2 = x.1 0 2 + n := by rw [hz.1.1 2 (by decide), y2]
      rw [z2]
      exact ri_i (h1 ok z (wG_f gy hz) (by rw [hz.1.1 0 (by decide)]; exact y0) ⟨z2, by unfold FBm; rw [hz.1.2.1 2 (by decide) (by decide)]; exact fb⟩)
    intro m
    induction m with
    | zero =>
      intro y i fb my y0 y2 i0 i1 hi
      exact sg_feed_45 _ _ _ ⟨fun _ => last y i fb my y0 y2 i1 (by omega) i0, fun c => absurd (t_le.mpr (by omega)) c⟩
    | succ m ih =>
      intro y i fb my y0 y2 i0 i1 hi
      have q : (x.1 0 2 + i).toInt = (x.1 0 2).toInt + i.toInt := t_add (by omega) (by omega)
      refine sg_feed_45 _ _ _ ⟨fun c => last y i fb my y0 y2 i1 (t_le.mp c) i0, fun c => ?_⟩
      rw [t_le] at c
      refine ⟨by rw [y2, vp_in_iff, q]; omega, fun y4 e4 y5 e5 => ?_⟩
      have m4 := md_a y 2 (y.1 0 2).toNatClampNeg (vp_nar .byte (((b >>> ((8 * i : Int32).toInt64 &&& 63 : Int64) : Int64).toInt32 : Int32).toInt8.toInt32)) (by decide)
      rw [← e4] at m4
      have m5 := md_f y4 2 (y4.1 0 2 + 1)
      rw [← e5] at m5
      have i2 : (i + 1).toInt = i.toInt + 1 := by rw [t_add (by omega) (by omega), k1]
      have ux := t_cl (x.1 0 2)
      have uy := t_cl (y.1 0 2)
      have ui := t_cl i
      have ui1 := t_cl (i + 1)
      rw [y2, q] at uy
      have fb5 : FBm x b (i + 1).toNatClampNeg y5 := by
        refine ⟨fun p hp => ?_, fun j hj => ?_⟩
        · rw [m5.2.1 2 (by decide) (by decide), e4, si_get, if_neg (fun z => ?_)]
          · exact fb.1 p hp
          · have := z.2
            rw [y2] at this
            omega
        · rw [m5.2.1 2 (by decide) (by decide), e4, si_get]
          by_cases cj : j = i.toNatClampNeg
          · rw [if_pos ⟨rfl, by rw [cj, y2]; omega⟩]
            have ek : i = Int32.ofNat j := by
              rw [t_eq, cj]
              exact (by omega : i.toInt = ((i.toNatClampNeg : Nat) : Int)).trans (Int32.toInt_ofNat_of_lt (by omega)).symm
            rw [ek]
            rfl
          · rw [if_neg (fun z => cj (by have := z.2; rw [y2] at this; omega))]
            exact fb.2 j (by omega)
      refine ih y5 (i + 1) fb5 (md_tr (md_tr (L3 := [0, 2]) (A3 := [2]) my m4 rfl rfl) m5 rfl rfl) (by rw [m5.1 0 (by decide), m4.1 0 (by decide)]; exact y0) ?_ (by omega) (by omega) (by omega)
      rw [e5, si_get, if_pos ⟨rfl, rfl⟩, m4.1 2 (by decide), y2]
      have q2 : (x.1 0 2 + i + 1).toInt = (x.1 0 2).toInt + i.toInt + 1 := by rw [t_add (by omega) (by omega), q, k1]
      have q3 : (x.1 0 2 + (i + 1)).toInt = (x.1 0 2).toInt + (i.toInt + 1) := by rw [t_add (by omega) (by omega), i2]
      exact t_eq.mpr (by omega)
  refine sg_feed_0 _ _ (fun x1 e1 => ?_)
  have m1 := md_f x 0 0
  rw [← e1] at m1
  have z0 : x1.1 0 0 = 0 := by rw [e1, si_get, if_pos ⟨rfl, rfl⟩]
  have z2 : x1.1 0 2 = x.1 0 2 := m1.1 2 (by decide)
  have p33 : ∀ s0 : Int32, (s0 = 0 → okF x n) → (¬ s0 = 0 → ¬ okF x n) → MT G (d + 1) z_feed 33 [(0, vr 0), (1, vi n), (2, vl b)] [vi s0, vr 0] x1 (ri F) := by
    intro s0 q0 q1
    refine sg_feed_33 _ _ _ (sp_refuses _ _ z0 (by decide) (fun c => ⟨fun _ => ?_, fun q => absurd rfl q⟩) (fun c => ⟨fun q => absurd q (by decide), fun _ => ?_⟩))
    · exact loop (q0 c) _ x1 0 ⟨fun p hp => by rw [m1.2.1 2 (by decide) (by decide)], fun j hj => absurd hj (Nat.not_lt_zero _)⟩ (md_w m1 (by decide) (by decide)) z0 (by rw [z2]; exact t_eq.mpr (by rw [t_add (by rw [k0]; omega) (by rw [k0]; omega), k0]; omega)) (by decide) (by have := (q0 c).1; rw [k0]; omega) (Int.self_le_toNat _)
    · have m2 := md_f x1 0 1
      exact ri_i (h0 (q1 c) _ (md_tr m1 m2 rfl rfl) (by rw [si_get, if_pos ⟨rfl, rfl⟩]))
  refine sp_in _ _ _ ⟨fun c => p33 1 (fun q => absurd q (by decide)) (fun _ q => ?_), fun c => ⟨fun c2 => p33 0 (fun _ => ?_) (fun q => absurd rfl q), fun c2 => p33 1 (fun q => absurd q (by decide)) (fun _ q => ?_)⟩⟩
  · refine bi_eq.mp c ⟨t_le.mpr ?_, t_le.mpr ?_⟩
    · rw [k1]; exact q.1
    · rw [k8]; exact q.2.1
  · obtain ⟨q1, q2⟩ := bi_ne.mp c
    rw [t_le, k1] at q1
    rw [t_le, k8] at q2
    rw [t_le, z2, k3, t_add (by omega) (by omega)] at c2
    exact ⟨q1, q2, c2⟩
  · obtain ⟨q1, q2⟩ := bi_ne.mp c
    rw [t_le, k1] at q1
    rw [t_le, k8] at q2
    rw [t_le, z2, k3, t_add (by omega) (by omega)] at c2
    exact c2 q.2.2
end SPC
