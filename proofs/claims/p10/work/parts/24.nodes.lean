/-! nodes: field 13; sort, partA, partB, partC, token, nextS: arrays 15 to 20 -/
def nE (x x' : gd) (w a b c t : Int32) : Prop := md [13] [15, 16, 17, 18, 19, 20] x x' ∧ x'.1 0 13 = x.1 0 13 + 1 ∧ (∀ j : Nat, x'.1 15 j = if j = (x.1 0 13).toNatClampNeg then w else x.1 15 j) ∧ (∀ j : Nat, x'.1 16 j = if j = (x.1 0 13).toNatClampNeg then a else x.1 16 j) ∧ (∀ j : Nat, x'.1 17 j = if j = (x.1 0 13).toNatClampNeg then b else x.1 17 j) ∧ (∀ j : Nat, x'.1 18 j = if j = (x.1 0 13).toNatClampNeg then c else x.1 18 j) ∧ (∀ j : Nat, x'.1 19 j = if j = (x.1 0 13).toNatClampNeg then t else x.1 19 j) ∧ (∀ j : Nat, x'.1 20 j = if j = (x.1 0 13).toNatClampNeg then -1 else x.1 20 j)
section SPD
variable {G : mG} {d : Nat} {x : gd} {F : Int32 → gd → Prop} {Fv : gd → Prop}
theorem sp_node (w a b c t : Int32) (hn : vp_in (x.1 0 13) 3000) (h : ∀ x', nE x x' w a b c t → F (x.1 0 13) x') : MT G d z_node 0 [(0, vr 0), (1, vi w), (2, vi a), (3, vi b), (4, vi c), (5, vi t)] [] x (ri F) := by
  obtain ⟨n, en⟩ : ∃ n, n = x.1 0 13 := ⟨_, rfl⟩
  refine sg_node_0 _ _ _ _ _ ⟨hn, ?_⟩
  intro x2 e2
  have f2 : x2.1 0 13 = n := by rw [e2, si_cell (by decide), en]
  refine ⟨by rw [f2, en]; exact hn, ?_⟩
  intro x4 e4
  have f4 : x4.1 0 13 = n := by rw [e4, si_cell (by decide), f2]
  refine ⟨by rw [f4, en]; exact hn, ?_⟩
  intro x6 e6
  have f6 : x6.1 0 13 = n := by rw [e6, si_cell (by decide), f4]
  refine ⟨by rw [f6, en]; exact hn, ?_⟩
  intro x8 e8
  have f8 : x8.1 0 13 = n := by rw [e8, si_cell (by decide), f6]
  refine ⟨by rw [f8, en]; exact hn, ?_⟩
  intro x10 e10
  have f10 : x10.1 0 13 = n := by rw [e10, si_cell (by decide), f8]
  refine ⟨by rw [f10, en]; exact hn, ?_⟩
  intro x12 e12
  have f12 : x12.1 0 13 = n := by rw [e12, si_cell (by decide), f10]
  intro x13 e13
  rw [← en] at e2
  rw [f2] at e4
  rw [f4] at e6
  rw [f6] at e8
  rw [f8] at e10
  rw [f10] at e12
  rw [f12] at e13
  have f13 : x13.1 0 13 = n + 1 := by rw [e13, si_get, if_pos ⟨rfl, rfl⟩]
  have hr : x13.1 0 13 - 1 = x.1 0 13 := by
    rw [f13, en]
    have hv := vp_in_iff.mp hn
    have k1 : (1 : Int32).toInt = 1 := rfl
    have q1 := t_add (a := x.1 0 13) (b := 1) (by omega) (by omega)
    have q2 := t_sub (a := x.1 0 13 + 1) (b := 1) (by omega) (by omega)
    exact t_eq.mpr (by omega)
  rw [hr]
  have one : ∀ (c9 : Nat) (v9 : Int32) (z z' : gd), z' = si z c9 n.toNatClampNeg v9 → ∀ j : Nat, z'.1 c9 j = if j = n.toNatClampNeg then v9 else z.1 c9 j := by
    intro c9 v9 z z' e j
    rw [e, si_get]
    by_cases q : j = n.toNatClampNeg
    · rw [if_pos ⟨rfl, q⟩, if_pos q]
    · rw [if_neg (fun z => q z.2), if_neg q]
  have m : md [13] [15, 16, 17, 18, 19, 20] x x13 := by
    rw [e13]
    refine md_tr (L := []) (A := [15, 16, 17, 18, 19, 20]) ?_ (md_f x12 13 (n + 1)) rfl rfl
    rw [e12]
    refine md_tr (L := []) (A := [15, 16, 17, 18, 19]) ?_ (md_a x10 20 n.toNatClampNeg (-1) (by decide)) rfl rfl
    rw [e10]
    refine md_tr (L := []) (A := [15, 16, 17, 18]) ?_ (md_a x8 19 n.toNatClampNeg t (by decide)) rfl rfl
    rw [e8]
    refine md_tr (L := []) (A := [15, 16, 17]) ?_ (md_a x6 18 n.toNatClampNeg c (by decide)) rfl rfl
    rw [e6]
    refine md_tr (L := []) (A := [15, 16]) ?_ (md_a x4 17 n.toNatClampNeg b (by decide)) rfl rfl
    rw [e4]
    refine md_tr (L := []) (A := [15]) ?_ (md_a x2 16 n.toNatClampNeg a (by decide)) rfl rfl
    rw [e2]
    exact md_a x 15 n.toNatClampNeg w (by decide)
  refine ri_i (h x13 ⟨m, by rw [f13, en], ?_, ?_, ?_, ?_, ?_, ?_⟩)
  all_goals
    intro j
    rw [← en]
  · rw [e13, si_cell (by decide), e12, si_cell (by decide), e10, si_cell (by decide), e8, si_cell (by decide), e6, si_cell (by decide), e4, si_cell (by decide)]
    exact one 15 w x x2 e2 j
  · rw [e13, si_cell (by decide), e12, si_cell (by decide), e10, si_cell (by decide), e8, si_cell (by decide), e6, si_cell (by decide), one 16 a x2 x4 e4 j, e2, si_cell (by decide)]
  · rw [e13, si_cell (by decide), e12, si_cell (by decide), e10, si_cell (by decide), e8, si_cell (by decide), one 17 b x4 x6 e6 j, e4, si_cell (by decide), e2, si_cell (by decide)]
  · rw [e13, si_cell (by decide), e12, si_cell (by decide), e10, si_cell (by decide), one 18 c x6 x8 e8 j, e6, si_cell (by decide), e4, si_cell (by decide), e2, si_cell (by decide)]
  · rw [e13, si_cell (by decide), e12, si_cell (by decide), one 19 t x8 x10 e10 j, e8, si_cell (by decide), e6, si_cell (by decide), e4, si_cell (by decide), e2, si_cell (by decide)]
  · rw [e13, si_cell (by decide), one 20 (-1) x10 x12 e12 j, e10, si_cell (by decide), e8, si_cell (by decide), e6, si_cell (by decide), e4, si_cell (by decide), e2, si_cell (by decide)]
end SPD
/-- a read: fields 8 (now), 9, 10 (bad), 13 (nodes), 20 (nested), 21 (lets) and the nodes from the old count on; the older nodes stay -/
def RP (x x' : gd) : Prop := md [8, 9, 10, 13, 20, 21] [15, 16, 17, 18, 19, 20] x x' ∧ PN x' ∧ (x.1 0 8).toInt ≤ (x'.1 0 8).toInt ∧ ((x'.1 0 9).toInt = 0 → (x.1 0 9).toInt = 0) ∧ (x.1 0 13).toInt ≤ (x'.1 0 13).toInt ∧ ∀ c : Nat, 15 ≤ c → c ≤ 20 → ∀ j : Nat, (j : Int) < (x.1 0 13).toInt → x'.1 c j = x.1 c j
theorem RP_rf {x : gd} (h : PN x) : RP x x := ⟨md_w (md_rf x) (by decide) (by decide), h, Int.le_refl _, fun q => q, Int.le_refl _, fun _ _ _ _ _ => rfl⟩
theorem RP_tr {x y z : gd} (a : RP x y) (b : RP y z) : RP x z := by
  refine ⟨md_tr a.1 b.1 rfl rfl, b.2.1, Int.le_trans a.2.2.1 b.2.2.1, fun q => a.2.2.2.1 (b.2.2.2.1 q), Int.le_trans a.2.2.2.2.1 b.2.2.2.2.1, fun c h1 h2 j hj => ?_⟩
  have := a.2.2.2.2.1
  rw [b.2.2.2.2.2 c h1 h2 j (by omega), a.2.2.2.2.2 c h1 h2 j hj]
theorem RP_ss {x x' : gd} (h : SS x x') : RP x x' := by
  have e : x'.1 0 13 = x.1 0 13 := h.1.1 13 (by decide)
  refine ⟨md_w h.1 (by decide) (by decide), h.2.1, h.2.2.1, h.2.2.2.2, by rw [e]; exact Int.le_refl _, fun c h1 h2 j hj => ?_⟩
  rw [h.1.2.1 c (by omega) (by intro q; cases q)]
theorem RP_nE {x x' : gd} {w a b c t : Int32} (hp : PN x) (hn : vp_in (x.1 0 13) 3000) (h : nE x x' w a b c t) : RP x x' ∧ (x'.1 0 13).toInt = (x.1 0 13).toInt + 1 := by
  obtain ⟨m, e, h5, h6, h7, h8, h9, h10⟩ := h
  have hv := vp_in_iff.mp hn
  have k1 : (1 : Int32).toInt = 1 := rfl
  have q1 : (x'.1 0 13).toInt = (x.1 0 13).toInt + 1 := by rw [e, t_add (by omega) (by omega), k1]
  have g8 : x'.1 0 8 = x.1 0 8 := m.1 8 (by decide)
  have g9 : x'.1 0 9 = x.1 0 9 := m.1 9 (by decide)
  refine ⟨⟨md_w m (by decide) (by decide), ⟨by rw [g8]; exact hp.1, by rw [g8]; exact hp.2.1, by rw [g9]; exact hp.2.2.1, TX_md m (by decide) (by decide) (by decide) (by decide) hp.2.2.2⟩, by rw [g8]; exact Int.le_refl _, fun q => by rw [← g9]; exact q, by omega, fun c' h1 h2 j hj => ?_⟩, q1⟩
  have hne : ¬ j = (x.1 0 13).toNatClampNeg := by rw [t_cl]; omega
  have hc : c' = 15 ∨ c' = 16 ∨ c' = 17 ∨ c' = 18 ∨ c' = 19 ∨ c' = 20 := by omega
  rcases hc with rfl | rfl | rfl | rfl | rfl | rfl
  · rw [h5, if_neg hne]
  · rw [h6, if_neg hne]
  · rw [h7, if_neg hne]
  · rw [h8, if_neg hne]
  · rw [h9, if_neg hne]
  · rw [h10, if_neg hne]
