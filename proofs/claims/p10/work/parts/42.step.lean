/-- one step laid: steps 52, its rows 54 to 63 -/
def sD (x x' : gd) (w : Int32) : Prop := md [52] [54, 55, 56, 57, 58, 59, 60, 61, 62, 63] x x' ∧ x'.1 0 52 = x.1 0 52 + 1 ∧ (∀ c : Nat, 54 ≤ c → ∀ j : Nat, ¬ j = (x.1 0 52).toNatClampNeg → x'.1 c j = x.1 c j) ∧ x'.1 54 (x.1 0 52).toNatClampNeg = w ∧ x'.1 55 (x.1 0 52).toNatClampNeg = (-1) ∧ x'.1 56 (x.1 0 52).toNatClampNeg = (-1) ∧ x'.1 57 (x.1 0 52).toNatClampNeg = 0 ∧ x'.1 58 (x.1 0 52).toNatClampNeg = (-1) ∧ x'.1 59 (x.1 0 52).toNatClampNeg = (-1) ∧ x'.1 60 (x.1 0 52).toNatClampNeg = (-1) ∧ x'.1 61 (x.1 0 52).toNatClampNeg = (-1)
theorem si_ne {x : gd} {c n : Nat} {v : Int32} (c' j : Nat) (h : ¬ j = n) : (si x c n v).1 c' j = x.1 c' j := by rw [si_get, if_neg (fun q => h q.2)]
theorem sp_layStep {G : mG} {d : Nat} {x : gd} {F : Int32 → gd → Prop} (w s : Int32) (hn : vp_in (x.1 0 52) 1500) (kb : KB x) (hs : s = -1 ∨ (vp_in s 3000 ∧ vp_in (x.1 19 s.toNatClampNeg) 710)) (tk : TK x) (h : ∀ x', sD x x' w → F (x.1 0 52) x') : MT G (d + 1) z_layStep 0 [(0, vr 0), (1, vi w), (2, vi s)] [] x (ri F) := by
  obtain ⟨n, en⟩ : ∃ n, n = x.1 0 52 := ⟨_, rfl⟩
  refine sg_layStep_0 _ _ ⟨hn, ?_⟩
  intro x2 e2
  have f2 : x2.1 0 52 = n := by rw [e2, si_cell (by decide), en]
  rw [← en] at e2
  refine ⟨by rw [f2, en]; exact hn, ?_⟩
  intro x4 e4
  have f4 : x4.1 0 52 = n := by rw [e4, si_cell (by decide), f2]
  rw [f2] at e4
  refine ⟨by rw [f4, en]; exact hn, ?_⟩
  intro x6 e6
  have f6 : x6.1 0 52 = n := by rw [e6, si_cell (by decide), f4]
  rw [f4] at e6
  refine ⟨by rw [f6, en]; exact hn, ?_⟩
  intro x8 e8
  have f8 : x8.1 0 52 = n := by rw [e8, si_cell (by decide), f6]
  rw [f6] at e8
  refine ⟨by rw [f8, en]; exact hn, ?_⟩
  intro x10 e10
  have f10 : x10.1 0 52 = n := by rw [e10, si_cell (by decide), f8]
  rw [f8] at e10
  refine ⟨by rw [f10, en]; exact hn, ?_⟩
  intro x12 e12
  have f12 : x12.1 0 52 = n := by rw [e12, si_cell (by decide), f10]
  rw [f10] at e12
  refine ⟨by rw [f12, en]; exact hn, ?_⟩
  intro x14 e14
  have f14 : x14.1 0 52 = n := by rw [e14, si_cell (by decide), f12]
  rw [f12] at e14
  refine ⟨by rw [f14, en]; exact hn, ?_⟩
  intro x16 e16
  have f16 : x16.1 0 52 = n := by rw [e16, si_cell (by decide), f14]
  rw [f14] at e16
  have m16 : md [] [54, 55, 56, 57, 58, 59, 60, 61] x x16 := by
    rw [e16]
    refine md_tr (L := []) (A := [54, 55, 56, 57, 58, 59, 60]) ?_ (md_a x14 61 n.toNatClampNeg (-1) (by decide)) rfl rfl
    rw [e14]
    refine md_tr (L := []) (A := [54, 55, 56, 57, 58, 59]) ?_ (md_a x12 60 n.toNatClampNeg (-1) (by decide)) rfl rfl
    rw [e12]
    refine md_tr (L := []) (A := [54, 55, 56, 57, 58]) ?_ (md_a x10 59 n.toNatClampNeg (-1) (by decide)) rfl rfl
    rw [e10]
    refine md_tr (L := []) (A := [54, 55, 56, 57]) ?_ (md_a x8 58 n.toNatClampNeg (-1) (by decide)) rfl rfl
    rw [e8]
    refine md_tr (L := []) (A := [54, 55, 56]) ?_ (md_a x6 57 n.toNatClampNeg 0 (by decide)) rfl rfl
    rw [e6]
    refine md_tr (L := []) (A := [54, 55]) ?_ (md_a x4 56 n.toNatClampNeg (-1) (by decide)) rfl rfl
    rw [e4]
    refine md_tr (L := []) (A := [54]) ?_ (md_a x2 55 n.toNatClampNeg (-1) (by decide)) rfl rfl
    rw [e2]
    exact md_a x 54 n.toNatClampNeg w (by decide)
  have kb16 : KB x16 := by
    unfold KB
    rw [m16.1 43 (by decide), m16.2.1 45 (by decide) (by decide), m16.2.1 46 (by decide) (by decide)]
    exact kb
  refine sp_knownMask kb16 (fun r18 => ⟨by rw [f16, en]; exact hn, ?_⟩)
  intro x20 e20
  rw [f16] at e20
  have m20 := md_a x16 62 n.toNatClampNeg r18 (by decide)
  rw [← e20] at m20
  have mx20 : md [] [54, 55, 56, 57, 58, 59, 60, 61, 62] x x20 := md_tr m16 m20 rfl rfl
  have f20 : x20.1 0 52 = n := by rw [m20.1 52 (by decide), f16]
  have p125 : ∀ r : Int32, MT G (d + 1) z_layStep 125 [(0, vr 0)] [vi r, vi (x20.1 0 52), vr 63] x20 (ri F) := by
    intro r
    refine sg_layStep_125 _ _ ⟨by rw [f20, en]; exact hn, fun y ey z ez => ?_⟩
    rw [f20] at ey
    have my := md_a x20 63 n.toNatClampNeg r (by decide)
    rw [← ey] at my
    have fy : y.1 0 52 = n := by rw [my.1 52 (by decide), f20]
    rw [fy] at ez
    have mz := md_f y 52 (n + 1)
    rw [← ez] at mz
    have fz : z.1 0 52 = n + 1 := by rw [ez, si_get, if_pos ⟨rfl, rfl⟩]
    have mxz : md [52] [54, 55, 56, 57, 58, 59, 60, 61, 62, 63] x z := md_tr (md_tr (L3 := []) (A3 := [54, 55, 56, 57, 58, 59, 60, 61, 62, 63]) mx20 my rfl rfl) mz rfl rfl
    have hr : z.1 0 52 - 1 = x.1 0 52 := by
      rw [fz, en]
      have hv := vp_in_iff.mp hn
      have k1 : (1 : Int32).toInt = 1 := rfl
      have q1 := t_add (a := x.1 0 52) (b := 1) (by omega) (by omega)
      have q2 := t_sub (a := x.1 0 52 + 1) (b := 1) (by omega) (by omega)
      exact t_eq.mpr (by omega)
    rw [hr]
    have up : ∀ (c j : Nat), c ≠ 0 → c ≠ 63 → c ≠ 62 → z.1 c j = x16.1 c j := fun c j h0 h1 h2 => by
      rw [ez, si_cell h0, ey, si_cell h1, e20, si_cell h2]
    refine ri_i (h z ⟨mxz, by rw [fz, en], fun c hc j hj => ?_, ?_, ?_, ?_, ?_, ?_, ?_, ?_, ?_⟩)
    · rw [← en] at hj
      rw [ez, si_cell (by omega), ey, si_ne c j hj, e20, si_ne c j hj, e16, si_ne c j hj, e14, si_ne c j hj, e12, si_ne c j hj, e10, si_ne c j hj, e8, si_ne c j hj, e6, si_ne c j hj, e4, si_ne c j hj, e2, si_ne c j hj]
    · rw [up 54 _ (by decide) (by decide) (by decide), ← en, e16, si_cell (by decide), e14, si_cell (by decide), e12, si_cell (by decide), e10, si_cell (by decide), e8, si_cell (by decide), e6, si_cell (by decide), e4, si_cell (by decide), e2, si_get, if_pos ⟨rfl, rfl⟩]
    · rw [up 55 _ (by decide) (by decide) (by decide), ← en, e16, si_cell (by decide), e14, si_cell (by decide), e12, si_cell (by decide), e10, si_cell (by decide), e8, si_cell (by decide), e6, si_cell (by decide), e4, si_get, if_pos ⟨rfl, rfl⟩]
    · rw [up 56 _ (by decide) (by decide) (by decide), ← en, e16, si_cell (by decide), e14, si_cell (by decide), e12, si_cell (by decide), e10, si_cell (by decide), e8, si_cell (by decide), e6, si_get, if_pos ⟨rfl, rfl⟩]
    · rw [up 57 _ (by decide) (by decide) (by decide), ← en, e16, si_cell (by decide), e14, si_cell (by decide), e12, si_cell (by decide), e10, si_cell (by decide), e8, si_get, if_pos ⟨rfl, rfl⟩]
    · rw [up 58 _ (by decide) (by decide) (by decide), ← en, e16, si_cell (by decide), e14, si_cell (by decide), e12, si_cell (by decide), e10, si_get, if_pos ⟨rfl, rfl⟩]
    · rw [up 59 _ (by decide) (by decide) (by decide), ← en, e16, si_cell (by decide), e14, si_cell (by decide), e12, si_get, if_pos ⟨rfl, rfl⟩]
    · rw [up 60 _ (by decide) (by decide) (by decide), ← en, e16, si_cell (by decide), e14, si_get, if_pos ⟨rfl, rfl⟩]
    · rw [up 61 _ (by decide) (by decide) (by decide), ← en, e16, si_get, if_pos ⟨rfl, rfl⟩]
  refine ⟨fun c => ?_, fun _ => p125 _⟩
  obtain ⟨h1, h2⟩ := hs.resolve_left c
  have g19 : x20.1 19 = x.1 19 := mx20.2.1 19 (by decide) (by decide)
  have g6 : x20.1 6 = x.1 6 := mx20.2.1 6 (by decide) (by decide)
  refine ⟨h1, by rw [g19]; exact h2, sp_lineOf _ ?_ (fun r => p125 r)⟩
  rw [g19, g6]
  have tv := vp_in_iff.mp h2
  have := t_cl (x.1 19 s.toNatClampNeg)
  have := tk (x.1 19 s.toNatClampNeg).toNatClampNeg (by omega)
  omega
