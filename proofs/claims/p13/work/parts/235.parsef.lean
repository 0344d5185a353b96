section
/-! the reader's small steps, what they do: nwo: where the reader stands, none with a fault -/
def nwo (x : gd) : Option Nat := if (x.1 0 9).toInt = 0 then some (x.1 0 8).toNatClampNeg else none
theorem nwo_b {x : gd} (h : 0 < (x.1 0 9).toInt) : nwo x = none := if_neg (by omega)
theorem nwo_o {x : gd} (h : (x.1 0 9).toInt = 0) : nwo x = some (x.1 0 8).toNatClampNeg := if_pos h
theorem nwo_e {x x' : gd} (h8 : x'.1 0 8 = x.1 0 8) (h9 : x'.1 0 9 = x.1 0 9) : nwo x' = nwo x := by
  unfold nwo
  rw [h8, h9]
def ps1 (i : Nat) : Option Nat := if i < 700 then some (i + 1) else none
def psw (K : Nat → Int32) (w : Int32) (i : Nat) : Option Nat := if K i = w ∧ i < 700 then some (i + 1) else none
section SFC
variable {G : mG} {d : Nat} {x : gd} {F : Int32 → gd → Prop} {Fv : gd → Prop}
theorem sf_step (hp : PN x) (h : ∀ x', SS x x' → ((x'.1 0 9).toInt = 0 → (x'.1 0 8).toInt = (x.1 0 8).toInt + 1) → nwo x' = (nwo x).bind ps1 → Fv x') : MT G (d + 1) z_step 0 [(0, vr 0)] [] x (rv Fv) := by
  have k0 : (0 : Int32).toInt = 0 := rfl
  have k1 : (1 : Int32).toInt = 1 := rfl
  have k7 : (700 : Int32).toInt = 700 := rfl
  obtain ⟨p1, p2, p3, p4⟩ := id hp
  refine sg_step_0 ⟨fun c => ⟨fun c2 x3 e3 => rv_i ?_, fun c2 => sp_fault _ _ (by decide) (PN_v hp) hp (fun x' hs hb e8 _ => rv_i (h x' hs (fun q => by omega) ?_))⟩, fun c => rv_i (h x (SS_rf hp) (fun q => ?_) ?_)⟩
  · have m3 := md_f x 8 (x.1 0 8 + 1)
    rw [← e3] at m3
    rw [t_eq, k7] at c2
    have b8 : (x3.1 0 8).toInt = (x.1 0 8).toInt + 1 := by rw [e3, si_get, if_pos ⟨rfl, rfl⟩, t_add (by omega) (by omega), k1]
    have b9 : x3.1 0 9 = x.1 0 9 := m3.1 9 (by decide)
    rw [t_le, k0] at c
    have b0 : (x.1 0 9).toInt = 0 := by omega
    refine h x3 ⟨md_w m3 (by decide) (by decide), ⟨by omega, by omega, by rw [b9]; exact p3, TX_md m3 (by decide) (by decide) (by decide) (by decide) p4⟩, by omega, fun q => by omega, fun q => by rw [← b9]; exact q⟩ (fun _ => b8) ?_
    rw [nwo_o (by rw [b9]; exact b0), nwo_o b0, Option.bind_some, ps1, t_cl, t_cl, if_pos (by omega), b8]
    congr 1
    omega
  · rw [t_le, k0] at c
    rw [t_eq, k7] at c2
    rw [nwo_b hb, nwo_o (by omega), Option.bind_some, ps1, t_cl, if_neg (by omega)]
  · rw [t_le, k0] at c; omega
  · rw [t_le, k0] at c
    rw [nwo_b (by omega)]; rfl
theorem sf_pass (w : Int32) (hp : PN x) (h : ∀ x', SS x x' → ((x'.1 0 9).toInt = 0 → (x'.1 0 8).toInt = (x.1 0 8).toInt + 1) → nwo x' = (nwo x).bind (psw (x.1 5) w) → Fv x') : MT G (d + 2) z_pass 0 [(0, vr 0), (1, vi w)] [] x (rv Fv) := by
  have k0 : (0 : Int32).toInt = 0 := rfl
  have p3 := hp.2.2.1
  refine sg_pass_0 _ ⟨fun c => ⟨PN_v hp, fun c2 => sf_step hp (fun x' hs hb e => rv_i (h x' hs hb ?_)), fun c2 => sp_fault _ _ (by decide) (PN_v hp) hp (fun x' hs hb _ _ => rv_i (h x' hs (fun q => by omega) ?_))⟩, fun c => rv_i (h x (SS_rf hp) (fun q => ?_) ?_)⟩
  · rw [t_le, k0] at c
    rw [e, nwo_o (by omega), Option.bind_some, Option.bind_some, ps1, psw]
    by_cases q : (x.1 0 8).toNatClampNeg < 700
    · rw [if_pos q, if_pos ⟨c2, q⟩]
    · rw [if_neg q, if_neg (fun z => q z.2)]
  · rw [t_le, k0] at c
    rw [nwo_b hb, nwo_o (by omega), Option.bind_some, psw, if_neg (fun z => c2 z.1)]
  · rw [t_le, k0] at c; omega
  · rw [t_le, k0] at c
    rw [nwo_b (by omega)]; rfl
theorem sf_take (w : Int32) (hp : PN x) (h0 : (∀ i, nwo x = some i → ¬ x.1 5 i = w) → F 0 x) (h1 : ∀ x' i, nwo x = some i → x.1 5 i = w → (x.1 0 9).toInt = 0 → SS x x' → ((x'.1 0 9).toInt = 0 → (x'.1 0 8).toInt = (x.1 0 8).toInt + 1) → nwo x' = ps1 i → F 1 x') : MT G (d + 2) z_take 0 [(0, vr 0), (1, vi w)] [] x (ri F) := by
  have k0 : (0 : Int32).toInt = 0 := rfl
  have p3 := hp.2.2.1
  refine sg_take_0 _ ⟨fun c => ri_i (h0 (fun i e => ?_)), fun c => ⟨PN_v hp, fun c2 => sf_step hp (fun x' hs hb e => ri_i (h1 x' (x.1 0 8).toNatClampNeg ?_ c2 ?_ hs hb ?_)), fun c2 => ri_i (h0 (fun i e => ?_))⟩⟩
  · rw [t_lt, k0] at c
    rw [nwo_b c] at e
    exact absurd e (by simp)
  · rw [t_lt, k0] at c
    exact nwo_o (by omega)
  · rw [t_lt, k0] at c
    omega
  · rw [t_lt, k0] at c
    rw [e, nwo_o (by omega)]; rfl
  · rw [t_lt, k0] at c
    rw [nwo_o (by omega)] at e
    cases Option.some.inj e
    exact c2
theorem sf_passName (hp : PN x) (h : ∀ x', SS x x' → ((x'.1 0 9).toInt = 0 → (x'.1 0 8).toInt = (x.1 0 8).toInt + 1) → nwo x' = (nwo x).bind (psw (x.1 5) 1) → F (x.1 0 8) x') : MT G (d + 3) z_passName 0 [(0, vr 0)] [] x (ri F) :=
  sg_passName_0 (sf_pass _ hp (fun x' hs hb e => ri_i (h x' hs hb e)))
theorem sf_strength (k : Int32) (h : F (Int32.ofNat (pst k)) x) : MT G (d + 1) z_strength 0 [(0, vi k)] [] x (ri F) := by
  have key : ∀ (n : Nat) (v : Int32), pst k = n → Int32.ofNat n = v → F v x := fun n v e1 e2 => by rw [← e2, ← e1]; exact h
  refine sg_strength_0 _ ⟨fun c1 => ⟨fun c2 => sp_in _ _ _ ⟨fun c3 => ⟨fun c4 => ri_i (key 4 _ ?_ rfl), fun c4 => ⟨fun c5 => ⟨fun c6 => ri_i (key 5 _ ?_ rfl), fun c6 => ⟨fun c7 => ri_i (key 5 _ ?_ rfl), fun c7 => ⟨fun c8 => ri_i (key 0 _ ?_ rfl), fun c8 => ri_i (key 5 _ ?_ rfl)⟩⟩⟩, fun c5 => ri_i (key 4 _ ?_ rfl)⟩⟩, fun c3 => ri_i (key 3 _ ?_ rfl)⟩, fun c2 => ri_i (key 2 _ ?_ rfl)⟩, fun c1 => ri_i (key 1 _ ?_ rfl)⟩
  · rw [pst, if_neg c1, if_neg c2, if_neg (bi_eq.mp c3), if_pos (Or.inl c4)]
  · rw [pst, if_neg c1, if_neg c2, if_neg (bi_eq.mp c3), if_neg (fun q => q.elim c4 c5), if_pos (Or.inl c6)]
  · rw [pst, if_neg c1, if_neg c2, if_neg (bi_eq.mp c3), if_neg (fun q => q.elim c4 c5), if_pos (Or.inr (Or.inl c7))]
  · rw [pst, if_neg c1, if_neg c2, if_neg (bi_eq.mp c3), if_neg (fun q => q.elim c4 c5), if_neg (fun q => q.elim c6 (fun q => q.elim c7 c8))]
  · rw [pst, if_neg c1, if_neg c2, if_neg (bi_eq.mp c3), if_neg (fun q => q.elim c4 c5), if_pos (Or.inr (Or.inr c8))]
  · rw [pst, if_neg c1, if_neg c2, if_neg (bi_eq.mp c3), if_pos (Or.inr c5)]
  · rw [pst, if_neg c1, if_neg c2, if_pos (bi_ne.mp c3)]
  · rw [pst, if_neg c1, if_pos c2]
  · rw [pst, if_pos c1]
/-- whether a sum may begin here -/
def pbx (x : gd) (o : Int32) : Prop := ∃ i, nwo x = some i ∧ pbg (decide (¬ o = 0)) (x.1 5 i)
theorem sf_beginsE (o : Int32) (hp : PN x) (h1 : pbx x o → F 1 x) (h0 : ¬ pbx x o → F 0 x) : MT G (d + 1) z_beginsE 0 [(0, vr 0), (1, vi o)] [] x (ri F) := by
  have b0 := hp.2.2.1
  refine sg_beginsE_0 _ (sp_here hp (fun r r0 r1 => ?_))
  by_cases cb : (x.1 0 9).toInt = 0
  · have er := r1 cb
    have en := nwo_o cb
    have no : ¬ pbg (decide (¬ o = 0)) r → ¬ pbx x o := fun q ⟨i, e, z⟩ => by
      rw [en] at e
      cases Option.some.inj e
      exact q (er ▸ z)
    have yes : pbg (decide (¬ o = 0)) r → pbx x o := fun q => ⟨_, en, er ▸ q⟩
    have a20 : ¬ r = 2 → ¬ (r = 32 ∧ o = 0) → MT G (d + 1) z_beginsE 20 [(0, vr 0), (2, vi r)] [] x (ri F) := fun q2 q32 =>
      sg_beginsE_20 _ ⟨fun c => ri_i (h1 (yes (Or.inr (Or.inr (Or.inl c))))), fun c1 => ⟨fun c => ri_i (h1 (yes (Or.inr (Or.inr (Or.inr (Or.inl c)))))), fun c2 => ⟨fun c => ri_i (h1 (yes (Or.inr (Or.inr (Or.inr (Or.inr (Or.inl c))))))), fun c3 => ⟨fun c4 => ri_i (h0 (no (fun z => by
        rcases z with z | ⟨z, z2⟩ | z | z | z | z
        · exact q2 z
        · exact q32 ⟨z, by simpa using z2⟩
        · exact c1 z
        · exact c2 z
        · exact c3 z
        · exact c4 z))), fun c => ri_i (h1 (yes (Or.inr (Or.inr (Or.inr (Or.inr (Or.inr c)))))))⟩⟩⟩⟩
    exact ⟨fun c => ri_i (h1 (yes (Or.inl c))), fun c => ⟨fun c2 => a20 c (fun z => c2 z.1), fun c2 => ⟨fun c3 => ri_i (h1 (yes (Or.inr (Or.inl ⟨c2, by simp [c3]⟩)))), fun c3 => a20 c (fun z => c3 z.2)⟩⟩⟩
  · have er := r0 (by omega)
    have no : ¬ pbx x o := fun ⟨i, e, _⟩ => by rw [nwo_b (by omega)] at e; exact absurd e (by simp)
    subst er
    have a20 : MT G (d + 1) z_beginsE 20 [(0, vr 0), (2, vi 0)] [] x (ri F) := sg_beginsE_20 _ ⟨fun c => absurd c (by decide), fun _ => ⟨fun c => absurd c (by decide), fun _ => ⟨fun c => absurd c (by decide), fun _ => ⟨fun _ => ri_i (h0 no), fun c => absurd c (by decide)⟩⟩⟩⟩
    exact ⟨fun c => absurd c (by decide), fun _ => ⟨fun _ => a20, fun c => absurd c (by decide)⟩⟩
end SFC
end
section
/-! nodes: field 13; sort, partA, partB, partC, token, nextS: arrays 15 to 20 -/
def nE (x x' : gd) (w a b c t : Int32) : Prop := md [13] [15, 16, 17, 18, 19, 20] x x' ∧ x'.1 0 13 = x.1 0 13 + 1 ∧ (∀ j : Nat, x'.1 15 j = if j = (x.1 0 13).toNatClampNeg then w else x.1 15 j) ∧ (∀ j : Nat, x'.1 16 j = if j = (x.1 0 13).toNatClampNeg then a else x.1 16 j) ∧ (∀ j : Nat, x'.1 17 j = if j = (x.1 0 13).toNatClampNeg then b else x.1 17 j) ∧ (∀ j : Nat, x'.1 18 j = if j = (x.1 0 13).toNatClampNeg then c else x.1 18 j) ∧ (∀ j : Nat, x'.1 19 j = if j = (x.1 0 13).toNatClampNeg then t else x.1 19 j) ∧ (∀ j : Nat, x'.1 20 j = if j = (x.1 0 13).toNatClampNeg then -1 else x.1 20 j)
section SPD
variable {G : mG} {d : Nat} {x : gd} {F : Int32 → gd → Prop} {Fv : gd → Prop}
theorem sp_node (w a b c t : Int32) (hn : vp_in (x.1 0 13) 3000) (h : ∀ x', nE x x' w a b c t → F (x.1 0 13) x') : MT G d z_node 0 [(0, vr 0), (1, vi w), (2, vi a), (3, vi b), (4, vi c), (5, vi t)] [] x (ri F) := by
  obtain ⟨n, en⟩ : ∃ n, n = x.1 0 13 := ⟨_, rfl⟩
  refine sg_node_0 _ _ _ _ _ ⟨hn, ?_⟩
  intro x2 e2
  have f2 : x2.1 0 13 = n := by rw [e2, si_cell (by decide), en]
  refine ⟨by rw [f2, en]; exact hn, ?_⟩
  intro x4 e4
  have f4 : x4.1 0 13 = n := by rw [e4, si_cell (by decide), f2]
  refine ⟨by rw [f4, en]; exact hn, ?_⟩
  intro x6 e6
  have f6 : x6.1 0 13 = n := by rw [e6, si_cell (by decide), f4]
  refine ⟨by rw [f6, en]; exact hn, ?_⟩
  intro x8 e8
  have f8 : x8.1 0 13 = n := by rw [e8, si_cell (by decide), f6]
  refine ⟨by rw [f8, en]; exact hn, ?_⟩
  intro x10 e10
  have f10 : x10.1 0 13 = n := by rw [e10, si_cell (by decide), f8]
  refine ⟨by rw [f10, en]; exact hn, ?_⟩
  intro x12 e12
  have f12 : x12.1 0 13 = n := by rw [e12, si_cell (by decide), f10]
  intro x13 e13
  rw [← en] at e2
  rw [f2] at e4
  rw [f4] at e6
  rw [f6] at e8
  rw [f8] at e10
  rw [f10] at e12
  rw [f12] at e13
  have f13 : x13.1 0 13 = n + 1 := by rw [e13, si_get, if_pos ⟨rfl, rfl⟩]
  have hr : x13.1 0 13 - 1 = x.1 0 13 := by
    rw [f13, en]
    have hv := vp_in_iff.mp hn
    have k1 : (1 : Int32).toInt = 1 := rfl
    have q1 := t_add (a := x.1 0 13) (b := 1) (by omega) (by omega)
    have q2 := t_sub (a := x.1 0 13 + 1) (b := 1) (by omega) (by omega)
    exact t_eq.mpr (by omega)
  rw [hr]
  have one : ∀ (c9 : Nat) (v9 : Int32) (z z' : gd), z' = si z c9 n.toNatClampNeg v9 → ∀ j : Nat, z'.1 c9 j = if j = n.toNatClampNeg then v9 else z.1 c9 j := by
    intro c9 v9 z z' e j
    rw [e, si_get]
    by_cases q : j = n.toNatClampNeg
    · rw [if_pos ⟨rfl, q⟩, if_pos q]
    · rw [if_neg (fun z => q z.2), if_neg q]
  have m : md [13] [15, 16, 17, 18, 19, 20] x x13 := by
    rw [e13]
    refine md_tr (L := []) (A := [15, 16, 17, 18, 19, 20]) ?_ (md_f x12 13 (n + 1)) rfl rfl
    rw [e12]
    refine md_tr (L := []) (A := [15, 16, 17, 18, 19]) ?_ (md_a x10 20 n.toNatClampNeg (-1) (by decide)) rfl rfl
    rw [e10]
    refine md_tr (L := []) (A := [15, 16, 17, 18]) ?_ (md_a x8 19 n.toNatClampNeg t (by decide)) rfl rfl
    rw [e8]
    refine md_tr (L := []) (A := [15, 16, 17]) ?_ (md_a x6 18 n.toNatClampNeg c (by decide)) rfl rfl
    rw [e6]
    refine md_tr (L := []) (A := [15, 16]) ?_ (md_a x4 17 n.toNatClampNeg b (by decide)) rfl rfl
    rw [e4]
    refine md_tr (L := []) (A := [15]) ?_ (md_a x2 16 n.toNatClampNeg a (by decide)) rfl rfl
    rw [e2]
    exact md_a x 15 n.toNatClampNeg w (by decide)
  refine ri_i (h x13 ⟨m, by rw [f13, en], ?_, ?_, ?_, ?_, ?_, ?_⟩)
  all_goals
    intro j
    rw [← en]
  · rw [e13, si_cell (by decide), e12, si_cell (by decide), e10, si_cell (by decide), e8, si_cell (by decide), e6, si_cell (by decide), e4, si_cell (by decide)]
    exact one 15 w x x2 e2 j
  · rw [e13, si_cell (by decide), e12, si_cell (by decide), e10, si_cell (by decide), e8, si_cell (by decide), e6, si_cell (by decide), one 16 a x2 x4 e4 j, e2, si_cell (by decide)]
  · rw [e13, si_cell (by decide), e12, si_cell (by decide), e10, si_cell (by decide), e8, si_cell (by decide), one 17 b x4 x6 e6 j, e4, si_cell (by decide), e2, si_cell (by decide)]
  · rw [e13, si_cell (by decide), e12, si_cell (by decide), e10, si_cell (by decide), one 18 c x6 x8 e8 j, e6, si_cell (by decide), e4, si_cell (by decide), e2, si_cell (by decide)]
  · rw [e13, si_cell (by decide), e12, si_cell (by decide), one 19 t x8 x10 e10 j, e8, si_cell (by decide), e6, si_cell (by decide), e4, si_cell (by decide), e2, si_cell (by decide)]
  · rw [e13, si_cell (by decide), one 20 (-1) x10 x12 e12 j, e10, si_cell (by decide), e8, si_cell (by decide), e6, si_cell (by decide), e4, si_cell (by decide), e2, si_cell (by decide)]
end SPD
/-- a read: fields 8 (now), 9, 10 (bad), 13 (nodes), 20 (nested), 21 (lets) and the nodes from the old count on; the older nodes stay -/
def RP (x x' : gd) : Prop := md [8, 9, 10, 13, 20, 21] [15, 16, 17, 18, 19, 20] x x' ∧ PN x' ∧ (x.1 0 8).toInt ≤ (x'.1 0 8).toInt ∧ ((x'.1 0 9).toInt = 0 → (x.1 0 9).toInt = 0) ∧ (x.1 0 13).toInt ≤ (x'.1 0 13).toInt ∧ ∀ c : Nat, 15 ≤ c → c ≤ 20 → ∀ j : Nat, (j : Int) < (x.1 0 13).toInt → x'.1 c j = x.1 c j
theorem RP_rf {x : gd} (h : PN x) : RP x x := ⟨md_w (md_rf x) (by decide) (by decide), h, Int.le_refl _, fun q => q, Int.le_refl _, fun _ _ _ _ _ => rfl⟩
theorem RP_tr {x y z : gd} (a : RP x y) (b : RP y z) : RP x z := by
  refine ⟨md_tr a.1 b.1 rfl rfl, b.2.1, Int.le_trans a.2.2.1 b.2.2.1, fun q => a.2.2.2.1 (b.2.2.2.1 q), Int.le_trans a.2.2.2.2.1 b.2.2.2.2.1, fun c h1 h2 j hj => ?_⟩
  have := a.2.2.2.2.1
  rw [b.2.2.2.2.2 c h1 h2 j (by omega), a.2.2.2.2.2 c h1 h2 j hj]
theorem RP_ss {x x' : gd} (h : SS x x') : RP x x' := by
  have e : x'.1 0 13 = x.1 0 13 := h.1.1 13 (by decide)
  refine ⟨md_w h.1 (by decide) (by decide), h.2.1, h.2.2.1, h.2.2.2.2, by rw [e]; exact Int.le_refl _, fun c h1 h2 j hj => ?_⟩
  rw [h.1.2.1 c (by omega) (by intro q; cases q)]
theorem RP_nE {x x' : gd} {w a b c t : Int32} (hp : PN x) (hn : vp_in (x.1 0 13) 3000) (h : nE x x' w a b c t) : RP x x' ∧ (x'.1 0 13).toInt = (x.1 0 13).toInt + 1 := by
  obtain ⟨m, e, h5, h6, h7, h8, h9, h10⟩ := h
  have hv := vp_in_iff.mp hn
  have k1 : (1 : Int32).toInt = 1 := rfl
  have q1 : (x'.1 0 13).toInt = (x.1 0 13).toInt + 1 := by rw [e, t_add (by omega) (by omega), k1]
  have g8 : x'.1 0 8 = x.1 0 8 := m.1 8 (by decide)
  have g9 : x'.1 0 9 = x.1 0 9 := m.1 9 (by decide)
  refine ⟨⟨md_w m (by decide) (by decide), ⟨by rw [g8]; exact hp.1, by rw [g8]; exact hp.2.1, by rw [g9]; exact hp.2.2.1, TX_md m (by decide) (by decide) (by decide) (by decide) hp.2.2.2⟩, by rw [g8]; exact Int.le_refl _, fun q => by rw [← g9]; exact q, by omega, fun c' h1 h2 j hj => ?_⟩, q1⟩
  have hne : ¬ j = (x.1 0 13).toNatClampNeg := by rw [t_cl]; omega
  have hc : c' = 15 ∨ c' = 16 ∨ c' = 17 ∨ c' = 18 ∨ c' = 19 ∨ c' = 20 := by omega
  rcases hc with rfl | rfl | rfl | rfl | rfl | rfl
  · rw [h5, if_neg hne]
  · rw [h6, if_neg hne]
  · rw [h7, if_neg hne]
  · rw [h8, if_neg hne]
  · rw [h9, if_neg hne]
  · rw [h10, if_neg hne]
end
section
/-! trees of expressions: vE x n s h e: from the node e on, at most n deep, s nodes, h values on the pile -/
def vE (x : gd) : Nat → Nat → Nat → Int32 → Prop
  | 0, _, _, _ => False
  | n + 1, s, h, e => (0 ≤ e.toInt ∧ e.toInt < (x.1 0 13).toInt) ∧ 1 ≤ s ∧ 1 ≤ h ∧ vp_in (x.1 19 e.toNatClampNeg) 710 ∧
      ((x.1 15 e.toNatClampNeg = 1 ∨ x.1 15 e.toNatClampNeg = 2 ∨ x.1 15 e.toNatClampNeg = 3) ∨ (x.1 15 e.toNatClampNeg = 4 ∧ vp_in (x.1 16 e.toNatClampNeg) 710) ∨ (x.1 15 e.toNatClampNeg = 5 ∧ vE x n (s - 1) h (x.1 17 e.toNatClampNeg)) ∨
        (x.1 15 e.toNatClampNeg = 6 ∧ ∃ a b : Nat, a + b + 1 ≤ s ∧ 2 ≤ h ∧ vE x n a h (x.1 17 e.toNatClampNeg) ∧ vE x n b (h - 1) (x.1 18 e.toNatClampNeg)))
theorem vE_mono {x : gd} : ∀ (n n' s s' h h' : Nat) (e : Int32), n ≤ n' → s ≤ s' → h ≤ h' → vE x n s h e → vE x n' s' h' e := by
  intro n
  induction n with
  | zero => intro n' s s' h h' e _ _ _ q; exact q.elim
  | succ n ih =>
    intro n' s s' h h' e h1 h2 h3 q
    obtain ⟨n', rfl⟩ : ∃ m, n' = m + 1 := ⟨n' - 1, by omega⟩
    obtain ⟨q1, q2, q3, q4, q5⟩ := q
    refine ⟨q1, by omega, by omega, q4, ?_⟩
    rcases q5 with q | q | ⟨q, g⟩ | ⟨q, a, b, g1, g2, g3, g4⟩
    · exact Or.inl q
    · exact Or.inr (Or.inl q)
    · exact Or.inr (Or.inr (Or.inl ⟨q, ih _ _ _ _ _ _ (by omega) (by omega) h3 g⟩))
    · exact Or.inr (Or.inr (Or.inr ⟨q, a, b, by omega, by omega, ih _ _ _ _ _ _ (by omega) (Nat.le_refl _) h3 g3, ih _ _ _ _ _ _ (by omega) (Nat.le_refl _) (by omega) g4⟩))
theorem vE_keep {x x' : gd} (hn : (x.1 0 13).toInt ≤ (x'.1 0 13).toInt) (hk : ∀ c : Nat, 15 ≤ c → c ≤ 19 → ∀ j : Nat, (j : Int) < (x.1 0 13).toInt → x'.1 c j = x.1 c j) : ∀ (n s h : Nat) (e : Int32), vE x n s h e → vE x' n s h e := by
  intro n
  induction n with
  | zero => intro s h e q; exact q.elim
  | succ n ih =>
    intro s h e q
    obtain ⟨q1, q2, q3, q4, q5⟩ := q
    have hj : ((e.toNatClampNeg : Nat) : Int) < (x.1 0 13).toInt := by rw [t_cl]; omega
    have e15 := hk 15 (by decide) (by decide) _ hj
    have e16 := hk 16 (by decide) (by decide) _ hj
    have e17 := hk 17 (by decide) (by decide) _ hj
    have e18 := hk 18 (by decide) (by decide) _ hj
    have e19 := hk 19 (by decide) (by decide) _ hj
    refine ⟨⟨q1.1, by omega⟩, q2, q3, by rw [e19]; exact q4, ?_⟩
    rw [e15, e16, e17, e18]
    rcases q5 with q | q | ⟨q, g⟩ | ⟨q, a, b, g1, g2, g3, g4⟩
    · exact Or.inl q
    · exact Or.inr (Or.inl q)
    · exact Or.inr (Or.inr (Or.inl ⟨q, ih _ _ _ g⟩))
    · exact Or.inr (Or.inr (Or.inr ⟨q, a, b, g1, g2, ih _ _ _ g3, ih _ _ _ g4⟩))
theorem vE_RP {x x' : gd} (h : RP x x') {n s k : Nat} {e : Int32} (q : vE x n s k e) : vE x' n s k e :=
  vE_keep h.2.2.2.2.1 (fun c h1 h2 j hj => h.2.2.2.2.2 c h1 (by omega) j hj) n s k e q
theorem nE_at {x x' : gd} {w a b c t : Int32} (h : nE x x' w a b c t) : x'.1 15 (x.1 0 13).toNatClampNeg = w ∧ x'.1 16 (x.1 0 13).toNatClampNeg = a ∧ x'.1 17 (x.1 0 13).toNatClampNeg = b ∧ x'.1 18 (x.1 0 13).toNatClampNeg = c ∧ x'.1 19 (x.1 0 13).toNatClampNeg = t ∧ x'.1 20 (x.1 0 13).toNatClampNeg = -1 := by
  obtain ⟨m, e, h5, h6, h7, h8, h9, h10⟩ := h
  exact ⟨by rw [h5, if_pos rfl], by rw [h6, if_pos rfl], by rw [h7, if_pos rfl], by rw [h8, if_pos rfl], by rw [h9, if_pos rfl], by rw [h10, if_pos rfl]⟩
theorem vE_leaf {x x' : gd} {w a b c t : Int32} {n s k : Nat} (hp : PN x) (hn : vp_in (x.1 0 13) 3000) (h : nE x x' w a b c t) (ht : vp_in t 710) (hw : (w = 1 ∨ w = 2 ∨ w = 3) ∨ (w = 4 ∧ vp_in a 710)) (h1 : 1 ≤ n) (h2 : 1 ≤ s) (h3 : 1 ≤ k) : vE x' n s k (x.1 0 13) := by
  obtain ⟨n, rfl⟩ : ∃ m, n = m + 1 := ⟨n - 1, by omega⟩
  have hv := vp_in_iff.mp hn
  obtain ⟨-, q1⟩ := RP_nE hp hn h
  obtain ⟨g1, g2, g3, g4, g5, -⟩ := nE_at h
  refine ⟨⟨hv.1, by omega⟩, h2, h3, by rw [g5]; exact ht, ?_⟩
  rw [g1, g2]
  rcases hw with q | q
  · exact Or.inl q
  · exact Or.inr (Or.inl q)
theorem vE_one {x x' : gd} {a b c t : Int32} {n s k : Nat} (hp : PN x) (hn : vp_in (x.1 0 13) 3000) (h : nE x x' 5 a b c t) (ht : vp_in t 710) (hb : vE x n s k b) : vE x' (n + 1) (s + 1) k (x.1 0 13) := by
  have hv := vp_in_iff.mp hn
  obtain ⟨r1, q1⟩ := RP_nE hp hn h
  obtain ⟨g1, g2, g3, g4, g5, -⟩ := nE_at h
  have k1 : 1 ≤ k := by
    cases n with
    | zero => exact hb.elim
    | succ n => exact hb.2.2.1
  refine ⟨⟨hv.1, by omega⟩, by omega, k1, by rw [g5]; exact ht, Or.inr (Or.inr (Or.inl ⟨g1, ?_⟩))⟩
  rw [g3]
  exact vE_RP r1 hb
theorem vE_two {x x' : gd} {a b c t : Int32} {n s1 s2 k : Nat} (hp : PN x) (hn : vp_in (x.1 0 13) 3000) (h : nE x x' 6 a b c t) (ht : vp_in t 710) (hb : vE x n s1 (k + 1) b) (hc : vE x n s2 k c) : vE x' (n + 1) (s1 + s2 + 1) (k + 1) (x.1 0 13) := by
  have hv := vp_in_iff.mp hn
  obtain ⟨r1, q1⟩ := RP_nE hp hn h
  obtain ⟨g1, g2, g3, g4, g5, -⟩ := nE_at h
  have k1 : 1 ≤ k := by
    cases n with
    | zero => exact hc.elim
    | succ n => exact hc.2.2.1
  refine ⟨⟨hv.1, by omega⟩, by omega, by omega, by rw [g5]; exact ht, Or.inr (Or.inr (Or.inr ⟨g1, s1, s2, Nat.le_refl _, by omega, ?_, ?_⟩))⟩
  · rw [g3]; exact vE_RP r1 hb
  · rw [g4]; exact vE_RP r1 hc
section SPE
variable {G : mG} {d : Nat} {x : gd} {F : Int32 → gd → Prop} {Fv : gd → Prop}
theorem sp_deeper (hp : PN x) (hb : (x.1 0 9).toInt = 0) (hm0 : 0 ≤ (x.1 0 20).toInt) (hm : (x.1 0 20).toInt ≤ 16) (h0 : ∀ x', md [9, 10, 20] [] x x' → PN x' → 0 < (x'.1 0 9).toInt → F 0 x') (h1 : ∀ x', md [20] [] x x' → (x.1 0 20).toInt < 16 → (x'.1 0 20).toInt = (x.1 0 20).toInt + 1 → F 1 x') : MT G (d + 1) z_deeper 0 [(0, vr 0)] [] x (ri F) := by
  have k0 : (0 : Int32).toInt = 0 := rfl
  have k1 : (1 : Int32).toInt = 1 := rfl
  have k16 : (16 : Int32).toInt = 16 := rfl
  refine sg_deeper_0 ⟨fun c => ?_, fun _ => ⟨fun c => sg_deeper_25 (fun x1 e1 => ⟨fun c1 => ?_, fun c1 => ri_i ?_⟩), fun c => sp_fault _ _ (by decide) (PN_v hp) hp (fun x3 hs hb3 e8 m3 => sg_deeper_25 (fun x1 e1 => ⟨fun c1 => ri_i ?_, fun c1 => ?_⟩))⟩⟩
  · exfalso; rw [t_eq, k0] at c; exact c hb
  · exfalso
    rw [e1, si_get, if_neg (by decide), t_eq, k0] at c1
    exact c1 hb
  · have m1 := md_f x 20 (x.1 0 20 + 1)
    rw [← e1] at m1
    rw [t_eq, k16] at c
    exact h1 x1 m1 (by omega) (by rw [e1, si_get, if_pos ⟨rfl, rfl⟩, t_add (by omega) (by omega), k1])
  · have m1 := md_f x3 20 (x3.1 0 20 + 1)
    rw [← e1] at m1
    have g8 : x1.1 0 8 = x3.1 0 8 := m1.1 8 (by decide)
    have g9 : x1.1 0 9 = x3.1 0 9 := m1.1 9 (by decide)
    exact h0 x1 (md_tr m3 m1 rfl rfl) ⟨by rw [g8]; exact hs.2.1.1, by rw [g8]; exact hs.2.1.2.1, by rw [g9]; exact hs.2.1.2.2.1, TX_md m1 (by decide) (by decide) (by decide) (by decide) hs.2.1.2.2.2⟩ (by rw [g9]; exact hb3)
  · exfalso
    rw [e1, si_get, if_neg (by decide), t_eq, k0] at c1
    omega
theorem RP_9 {x x' : gd} (h : md [9, 10, 20] [] x x') (hp : PN x') (hb : (x'.1 0 9).toInt = 0 → (x.1 0 9).toInt = 0) : RP x x' := by
  have e8 : x'.1 0 8 = x.1 0 8 := h.1 8 (by decide)
  have e13 : x'.1 0 13 = x.1 0 13 := h.1 13 (by decide)
  refine ⟨md_w h (by decide) (by decide), hp, by rw [e8]; exact Int.le_refl _, hb, by rw [e13]; exact Int.le_refl _, fun c h1 h2 j hj => ?_⟩
  rw [h.2.1 c (by omega) (by intro q; cases q)]
def PreE (k : Nat) (s : Int) (x : gd) : Prop := PN x ∧ 0 ≤ (x.1 0 13).toInt ∧ (x.1 0 13).toInt ≤ 2 * (x.1 0 8).toInt + s ∧ s + 3 * (k + 1) ≤ 400 ∧ k ≤ 16 ∧ ((x.1 0 9).toInt = 0 → (x.1 0 20).toInt = 16 - k)
/-- what a read expression leaves: with no fault a tree as large as the tokens that were read -/
def PE (k : Nat) (s : Int) (x : gd) (r : Int32) (x' : gd) : Prop := RP x x' ∧ x'.1 0 21 = x.1 0 21 ∧ (x'.1 0 13).toInt ≤ 2 * (x'.1 0 8).toInt + s + 3 * (k + 1) ∧ 0 ≤ r.toInt ∧ ((x'.1 0 9).toInt = 0 → x'.1 0 20 = x.1 0 20 ∧ (x.1 0 8).toInt + 1 ≤ (x'.1 0 8).toInt ∧ (x'.1 0 13).toInt + 1 ≤ 2 * (x'.1 0 8).toInt + s ∧ vE x' ((x'.1 0 8).toInt - (x.1 0 8).toInt).toNat ((x'.1 0 8).toInt - (x.1 0 8).toInt).toNat (k + 1) r)
end SPE
end
section
/-! what a tree of an expression tells, operands before their operators -/
def vV (x : gd) (o : Bool) : Nat → Int32 → gU → Prop
  | 0, _, _ => False
  | n + 1, e, M => (0 ≤ e.toInt ∧ e.toInt < (x.1 0 13).toInt) ∧
      ((x.1 15 e.toNatClampNeg = 1 ∧ M = [(52, (x.1 19 e.toNatClampNeg).toNatClampNeg, 0)] ∧ x.1 16 e.toNatClampNeg = x.1 7 (x.1 19 e.toNatClampNeg).toNatClampNeg) ∨
       (x.1 15 e.toNatClampNeg = 2 ∧ M = [(53, (x.1 19 e.toNatClampNeg).toNatClampNeg, 0)]) ∨
       (x.1 15 e.toNatClampNeg = 3 ∧ M = [(if o = true then 6 else 3, (x.1 19 e.toNatClampNeg).toNatClampNeg, 0)]) ∨
       (x.1 15 e.toNatClampNeg = 4 ∧ M = [(7, (x.1 19 e.toNatClampNeg).toNatClampNeg, 0), (12, (x.1 16 e.toNatClampNeg).toNatClampNeg, (x.1 19 e.toNatClampNeg).toNatClampNeg)] ∧ o = true) ∨
       (x.1 15 e.toNatClampNeg = 5 ∧ ∃ M1, vV x o n (x.1 17 e.toNatClampNeg) M1 ∧ ((x.1 16 e.toNatClampNeg = 61 ∧ M = M1) ∨ (¬ x.1 16 e.toNatClampNeg = 61 ∧ x.1 16 e.toNatClampNeg = x.1 5 (x.1 19 e.toNatClampNeg).toNatClampNeg ∧ M = M1 ++ [(50, (x.1 19 e.toNatClampNeg).toNatClampNeg, 0)]))) ∨
       (x.1 15 e.toNatClampNeg = 6 ∧ ∃ M1 M2, vV x o n (x.1 17 e.toNatClampNeg) M1 ∧ vV x o n (x.1 18 e.toNatClampNeg) M2 ∧ x.1 16 e.toNatClampNeg = x.1 5 (x.1 19 e.toNatClampNeg).toNatClampNeg ∧ M = M1 ++ (M2 ++ [(51, (x.1 19 e.toNatClampNeg).toNatClampNeg, 0)])))
theorem vV_mono {x : gd} {o : Bool} : ∀ (n n' : Nat) (e : Int32) (M : gU), n ≤ n' → vV x o n e M → vV x o n' e M := by
  intro n
  induction n with
  | zero => intro n' e M _ q; exact q.elim
  | succ n ih =>
    intro n' e M h1 q
    obtain ⟨n', rfl⟩ : ∃ m, n' = m + 1 := ⟨n' - 1, by omega⟩
    obtain ⟨q1, q⟩ := q
    refine ⟨q1, ?_⟩
    rcases q with q | q | q | q | ⟨q, M1, g, r⟩ | ⟨q, M1, M2, g1, g2, r⟩
    · exact Or.inl q
    · exact Or.inr (Or.inl q)
    · exact Or.inr (Or.inr (Or.inl q))
    · exact Or.inr (Or.inr (Or.inr (Or.inl q)))
    · exact Or.inr (Or.inr (Or.inr (Or.inr (Or.inl ⟨q, M1, ih _ _ _ (by omega) g, r⟩))))
    · exact Or.inr (Or.inr (Or.inr (Or.inr (Or.inr ⟨q, M1, M2, ih _ _ _ (by omega) g1, ih _ _ _ (by omega) g2, r⟩))))
theorem vV_keep {x x' : gd} {o : Bool} (hn : (x.1 0 13).toInt ≤ (x'.1 0 13).toInt) (h5 : x'.1 5 = x.1 5) (h7 : x'.1 7 = x.1 7) (hk : ∀ c : Nat, 15 ≤ c → c ≤ 19 → ∀ j : Nat, (j : Int) < (x.1 0 13).toInt → x'.1 c j = x.1 c j) : ∀ (n : Nat) (e : Int32) (M : gU), vV x o n e M → vV x' o n e M := by
  intro n
  induction n with
  | zero => intro e M q; exact q.elim
  | succ n ih =>
    intro e M q
    obtain ⟨q1, q⟩ := q
    have hj : ((e.toNatClampNeg : Nat) : Int) < (x.1 0 13).toInt := by rw [t_cl]; omega
    have e15 := hk 15 (by decide) (by decide) _ hj
    have e16 := hk 16 (by decide) (by decide) _ hj
    have e17 := hk 17 (by decide) (by decide) _ hj
    have e18 := hk 18 (by decide) (by decide) _ hj
    have e19 := hk 19 (by decide) (by decide) _ hj
    refine ⟨⟨q1.1, by omega⟩, ?_⟩
    rw [e15, e16, e17, e18, e19, h5, h7]
    rcases q with q | q | q | q | ⟨q, M1, g, r⟩ | ⟨q, M1, M2, g1, g2, r⟩
    · exact Or.inl q
    · exact Or.inr (Or.inl q)
    · exact Or.inr (Or.inr (Or.inl q))
    · exact Or.inr (Or.inr (Or.inr (Or.inl q)))
    · exact Or.inr (Or.inr (Or.inr (Or.inr (Or.inl ⟨q, M1, ih _ _ g, r⟩))))
    · exact Or.inr (Or.inr (Or.inr (Or.inr (Or.inr ⟨q, M1, M2, ih _ _ g1, ih _ _ g2, r⟩))))
theorem vV_RP {x x' : gd} {o : Bool} (h : RP x x') {n : Nat} {e : Int32} {M : gU} (q : vV x o n e M) : vV x' o n e M :=
  vV_keep h.2.2.2.2.1 (h.1.2.1 5 (by decide) (by decide)) (h.1.2.1 7 (by decide) (by decide)) (fun c h1 h2 j hj => h.2.2.2.2.2 c h1 (by omega) j hj) n e M q
/-- what reading tells: where it stands then, and what it told -/
def FX (x x' : gd) (g : Nat → gU → gOp) (M : gU) : Prop := ∀ L, (nwo x).bind (fun i => g i L) = (nwo x').map (fun j => (j, L ++ M))
/-- a name alone: its node, and that nothing else is read -/
def TT (K : Nat → Int32) (i : Nat) (o : Int32) (w : gd) (e : Int32) : Prop := (w.1 15 e.toNatClampNeg = 3 → K i = 1 ∧ (w.1 19 e.toNatClampNeg).toNatClampNeg = i ∧ (w.1 0 8).toNatClampNeg = i + 1) ∧ (K i = 1 → o = 0 → (w.1 15 e.toNatClampNeg = 3 ∧ (w.1 19 e.toNatClampNeg).toNatClampNeg = i ∧ (w.1 0 8).toNatClampNeg = i + 1) ∨ 0 < pst (K (i + 1)))
theorem TT_e {K : Nat → Int32} {i : Nat} {o : Int32} {w w2 : gd} {e : Int32} (h15 : w2.1 15 = w.1 15) (h19 : w2.1 19 = w.1 19) (h8 : w2.1 0 8 = w.1 0 8) (h : TT K i o w e) : TT K i o w2 e := by
  unfold TT
  rw [h15, h19, h8]
  exact h
theorem TT_no {K : Nat → Int32} {i : Nat} {o : Int32} {w : gd} {e v : Int32} (h : w.1 15 e.toNatClampNeg = v) (hv : ¬ v = 3) (hK : K i = 1 → o = 0 → 0 < pst (K (i + 1))) : TT K i o w e := ⟨fun q => absurd (h.symm.trans q) hv, fun a b => Or.inr (hK a b)⟩
def FE (k : Nat) (th o : Int32) (x : gd) (r : Int32) (x' : gd) : Prop := ∃ M, FX x x' (pE (x.1 5) (decide (¬ o = 0)) k th.toNatClampNeg) M ∧ ((x'.1 0 9).toInt = 0 → (∃ n, vV x' (decide (¬ o = 0)) n r M) ∧ TT (x.1 5) (x.1 0 8).toNatClampNeg o x' r)
def FO (k : Nat) (o : Int32) (x : gd) (r : Int32) (x' : gd) : Prop := ∃ M, FX x x' (pO (pE (x.1 5) (decide (¬ o = 0)) k) (x.1 5) (decide (¬ o = 0))) M ∧ ((x'.1 0 9).toInt = 0 → (∃ n, vV x' (decide (¬ o = 0)) n r M) ∧ TT (x.1 5) (x.1 0 8).toNatClampNeg o x' r)
theorem pt_psw {K : Nat → Int32} {w : Int32} {j : Nat} {L : gU} : pt K w (j, L) = (psw K w j).map (fun j => (j, L)) := by
  show (if K j = w ∧ j < 700 then some (j + 1, L) else none) = _
  unfold psw
  by_cases q : K j = w ∧ j < 700
  · rw [if_pos q, if_pos q]; rfl
  · rw [if_neg q, if_neg q]; rfl
/-- a fault: nothing is told -/
theorem FX_0 {x x' : gd} {g : Nat → gU → gOp} {M : gU} (h' : nwo x' = none) (h : ∀ i, nwo x = some i → ∀ L, g i L = none) : FX x x' g M := by
  intro L
  rw [h']
  cases e : nwo x with
  | none => rfl
  | some i => exact h i e L
theorem FX_at {x x' : gd} {g : Nat → gU → gOp} {M : gU} {i : Nat} (hi : nwo x = some i) (h : ∀ L, g i L = (nwo x').map (fun j => (j, L ++ M))) : FX x x' g M := by
  intro L
  rw [hi]
  exact h L
theorem FX_none {x x' : gd} {g : Nat → gU → gOp} {M : gU} (h : FX x x' g M) (e : nwo x = none) : nwo x' = none := by
  have q := h []
  rw [e] at q
  cases z : nwo x' with
  | none => rfl
  | some j => rw [z] at q; exact absurd q (by simp)
theorem nE_nwo {x x' : gd} {w a b c t : Int32} (h : nE x x' w a b c t) : nwo x' = nwo x := nwo_e (h.1.1 8 (by decide)) (h.1.1 9 (by decide))
theorem nwo_is {x : gd} {i : Nat} (h : nwo x = some i) : (x.1 0 9).toInt = 0 ∧ (x.1 0 8).toNatClampNeg = i := by
  unfold nwo at h
  split at h
  · next c => exact ⟨c, Option.some.inj h⟩
  · exact absurd h (by simp)
theorem ofN_le {a : Nat} {b : Int32} (ha : a ≤ 5) (hb : 0 ≤ b.toInt) : (Int32.ofNat a ≤ b) ↔ a ≤ b.toNatClampNeg := by
  have e : (Int32.ofNat a).toInt = a := Int32.toInt_ofNat_of_lt (by omega)
  rw [t_le, e, t_cl]
  omega
theorem ofN_cl {a : Nat} (ha : a ≤ 5) : (Int32.ofNat a).toNatClampNeg = a := by
  have e : (Int32.ofNat a).toInt = a := Int32.toInt_ofNat_of_lt (by omega)
  rw [t_cl, e]
  omega
theorem pst_le (k : Int32) : pst k ≤ 5 := by
  unfold pst
  repeat' split
  all_goals omega
end
section
/-- what an operand leaves, or an expression before its end -/
def PO (k : Nat) (s : Int) (x : gd) (r : Int32) (x' : gd) : Prop := RP x x' ∧ x'.1 0 21 = x.1 0 21 ∧ (x'.1 0 13).toInt ≤ 2 * (x'.1 0 8).toInt + s + 3 * (k + 1) + 1 ∧ 0 ≤ r.toInt ∧ ((x'.1 0 9).toInt = 0 → x'.1 0 20 = x.1 0 20 ∧ (x.1 0 8).toInt + 1 ≤ (x'.1 0 8).toInt ∧ (x'.1 0 13).toInt + 1 ≤ 2 * (x'.1 0 8).toInt + s ∧ vE x' ((x'.1 0 8).toInt - (x.1 0 8).toInt).toNat ((x'.1 0 8).toInt - (x.1 0 8).toInt).toNat (k + 2) r)
theorem nv {x : gd} {m : Int} (h0 : 0 ≤ (x.1 0 13).toInt) (h : (x.1 0 13).toInt ≤ m) (hm : m ≤ 2900) : vp_in (x.1 0 13) 3000 := by
  rw [vp_in_iff]; omega
/-- a leaf: one token, one node -/
theorem leafPO {k : Nat} {s : Int} {x y z : gd} {w a b c t : Int32} (hx : PN x) (n0 : 0 ≤ (x.1 0 13).toInt) (nb : (x.1 0 13).toInt ≤ 2 * (x.1 0 8).toInt + s) (sl : s + 3 * (k + 1) ≤ 400) (h1 : RP x y) (m1 : md [8, 9, 10] [] x y) (hst : (y.1 0 9).toInt = 0 → (x.1 0 8).toInt + 1 ≤ (y.1 0 8).toInt) (h2 : nE y z w a b c t) (ht : vp_in t 710) (hw : (w = 1 ∨ w = 2 ∨ w = 3) ∨ (w = 4 ∧ vp_in a 710)) : PO k s x (y.1 0 13) z := by
  have py := h1.2.1
  have e13 : y.1 0 13 = x.1 0 13 := m1.1 13 (by decide)
  have e20 : y.1 0 20 = x.1 0 20 := m1.1 20 (by decide)
  have e21 : y.1 0 21 = x.1 0 21 := m1.1 21 (by decide)
  have le8 := h1.2.2.1
  have hy2 := py.2.1
  have hn : vp_in (y.1 0 13) 3000 := by rw [e13]; exact nv n0 nb (by have := hx.2.1; omega)
  obtain ⟨r1, q1⟩ := RP_nE py hn h2
  have f8 : z.1 0 8 = y.1 0 8 := h2.1.1 8 (by decide)
  have f9 : z.1 0 9 = y.1 0 9 := h2.1.1 9 (by decide)
  have f20 : z.1 0 20 = y.1 0 20 := h2.1.1 20 (by decide)
  have f21 : z.1 0 21 = y.1 0 21 := h2.1.1 21 (by decide)
  rw [e13] at q1
  refine ⟨RP_tr h1 r1, by rw [f21, e21], by rw [f8]; omega, by rw [e13]; exact n0, fun hb => ?_⟩
  rw [f9] at hb
  have st := hst hb
  rw [f8]
  refine ⟨by rw [f20, e20], st, by omega, vE_leaf py hn h2 ht hw (by omega) (by omega) (by omega)⟩
end
section
/-! readE: what it reads -/
theorem vV_leaf {x x' : gd} {w a b c t : Int32} {o : Bool} {M : gU} (hp : PN x) (hn : vp_in (x.1 0 13) 3000) (h : nE x x' w a b c t) (hw : (w = 1 ∧ M = [(52, t.toNatClampNeg, 0)] ∧ a = x.1 7 t.toNatClampNeg) ∨ (w = 2 ∧ M = [(53, t.toNatClampNeg, 0)]) ∨ (w = 3 ∧ M = [(if o = true then 6 else 3, t.toNatClampNeg, 0)]) ∨ (w = 4 ∧ M = [(7, t.toNatClampNeg, 0), (12, a.toNatClampNeg, t.toNatClampNeg)] ∧ o = true)) : vV x' o 1 (x.1 0 13) M := by
  have hv := vp_in_iff.mp hn
  obtain ⟨-, q1⟩ := RP_nE hp hn h
  obtain ⟨g1, g2, g3, g4, g5, -⟩ := nE_at h
  have e7 : x'.1 7 = x.1 7 := h.1.2.1 7 (by decide) (by decide)
  refine ⟨⟨hv.1, by omega⟩, ?_⟩
  rw [g1, g2, g5, e7]
  rcases hw with q | q | q | q
  · exact Or.inl q
  · exact Or.inr (Or.inl q)
  · exact Or.inr (Or.inr (Or.inl q))
  · exact Or.inr (Or.inr (Or.inr (Or.inl q)))
theorem vV_one {x x' : gd} {a b c t : Int32} {o : Bool} {n : Nat} {M M1 : gU} (hp : PN x) (hn : vp_in (x.1 0 13) 3000) (h : nE x x' 5 a b c t) (hb : vV x o n b M1) (hM : (a = 61 ∧ M = M1) ∨ (¬ a = 61 ∧ a = x.1 5 t.toNatClampNeg ∧ M = M1 ++ [(50, t.toNatClampNeg, 0)])) : vV x' o (n + 1) (x.1 0 13) M := by
  have hv := vp_in_iff.mp hn
  obtain ⟨r1, q1⟩ := RP_nE hp hn h
  obtain ⟨g1, g2, g3, g4, g5, -⟩ := nE_at h
  have e5 : x'.1 5 = x.1 5 := h.1.2.1 5 (by decide) (by decide)
  refine ⟨⟨hv.1, by omega⟩, Or.inr (Or.inr (Or.inr (Or.inr (Or.inl ⟨g1, M1, ?_, ?_⟩))))⟩
  · rw [g3]; exact vV_RP r1 hb
  · rw [g2, g5, e5]; exact hM
theorem vV_two {x x' : gd} {a b c t : Int32} {o : Bool} {n : Nat} {M1 M2 : gU} (hp : PN x) (hn : vp_in (x.1 0 13) 3000) (h : nE x x' 6 a b c t) (hb : vV x o n b M1) (hc : vV x o n c M2) (ha : a = x.1 5 t.toNatClampNeg) : vV x' o (n + 1) (x.1 0 13) (M1 ++ (M2 ++ [(51, t.toNatClampNeg, 0)])) := by
  have hv := vp_in_iff.mp hn
  obtain ⟨r1, q1⟩ := RP_nE hp hn h
  obtain ⟨g1, g2, g3, g4, g5, -⟩ := nE_at h
  have e5 : x'.1 5 = x.1 5 := h.1.2.1 5 (by decide) (by decide)
  refine ⟨⟨hv.1, by omega⟩, Or.inr (Or.inr (Or.inr (Or.inr (Or.inr ⟨g1, M1, M2, ?_, ?_, ?_, ?_⟩))))⟩
  · rw [g3]; exact vV_RP r1 hb
  · rw [g4]; exact vV_RP r1 hc
  · rw [g2, g5, e5]; exact ha
  · rw [g5]
section PO
variable {rE : Nat → Nat → gU → gOp} {K : Nat → Int32} {o : Bool} {i : Nat} {L : gU}
theorem pO_w (h : K i = 2) : pO rE K o i L = (ps1 i).map (fun j => (j, L ++ [(52, i, 0)])) := by
  unfold pO ps1
  by_cases q : i < 700
  · rw [if_neg (by omega), if_pos h, if_pos q]; rfl
  · rw [if_pos (by omega), if_neg q]; rfl
theorem pO_s (h : K i = 32) : pO rE K o i L = (ps1 i).map (fun j => (j, L ++ [(53, i, 0)])) := by
  unfold pO ps1
  by_cases q : i < 700
  · rw [if_neg (by omega), if_neg (by rw [h]; decide), if_pos h, if_pos q]; rfl
  · rw [if_pos (by omega), if_neg q]; rfl
theorem pO_p (h : K i = 61) : pO rE K o i L = (ps1 i).bind (fun j => (rE 0 j L).bind (pt K 62)) := by
  unfold pO ps1
  by_cases q : i < 700
  · rw [if_neg (by omega), if_neg (by rw [h]; decide), if_neg (by rw [h]; decide), if_pos h, if_pos q]; rfl
  · rw [if_pos (by omega), if_neg q]; rfl
theorem pO_n (h2 : ¬ K i = 2) (h3 : ¬ K i = 32) (h6 : ¬ K i = 61) (ho : o = false) : pO rE K o i L = (psw K 1 i).map (fun j => (j, L ++ [(3, i, 0)])) := by
  subst ho
  unfold pO psw
  by_cases q : i < 700
  · rw [if_neg (by omega), if_neg h2, if_neg h3, if_neg h6]
    by_cases c : K i = 1
    · rw [if_pos c, if_neg (by decide), if_pos ⟨c, q⟩]; rfl
    · rw [if_neg c, if_neg (fun z => c z.1)]; rfl
  · rw [if_pos (by omega), if_neg (fun z => q z.2)]; rfl
theorem pO_o (h2 : ¬ K i = 2) (h3 : ¬ K i = 32) (h6 : ¬ K i = 61) (ho : o = true) : pO rE K o i L = (psw K 1 i).bind (fun j => if K j = 65 then (((ps1 j).bind (psw K 2)).bind (psw K 66)).map (fun j => (j, L ++ [(7, i, 0), (12, i + 2, i)])) else some (j, L ++ [(6, i, 0)])) := by
  subst ho
  unfold pO
  by_cases q : i < 700
  · rw [if_neg (by omega), if_neg h2, if_neg h3, if_neg h6]
    by_cases c : K i = 1
    · rw [if_pos c, if_pos rfl, psw, if_pos (show K i = 1 ∧ i < 700 from ⟨c, q⟩), Option.bind_some]
      by_cases b : K (i + 1) = 65
      · rw [if_pos b, if_pos b, ps1]
        by_cases q1 : i + 1 < 700
        · rw [if_pos q1, Option.bind_some, psw]
          by_cases q2 : K (i + 1 + 1) = 2 ∧ i + 1 + 1 < 700
          · rw [if_pos q2, Option.bind_some, psw]
            by_cases q3 : K (i + 1 + 1 + 1) = 66 ∧ i + 1 + 1 + 1 < 700
            · rw [if_pos q3, if_pos ⟨q1, q2, q3⟩]; rfl
            · rw [if_neg q3, if_neg (fun z => q3 z.2.2)]; rfl
          · rw [if_neg q2, if_neg (fun z => q2 z.2.1)]; rfl
        · rw [if_neg q1, if_neg (fun z => q1 z.1)]; rfl
      · rw [if_neg b, if_neg b]
    · rw [if_neg c, psw, if_neg (fun z => c z.1)]; rfl
  · rw [if_pos (by omega), psw, if_neg (fun z => q z.2)]; rfl
end PO
theorem sf_deeper {G : mG} {d : Nat} {x : gd} {F : Int32 → gd → Prop} (hp : PN x) (hb : (x.1 0 9).toInt = 0) (hm0 : 0 ≤ (x.1 0 20).toInt) (hm : (x.1 0 20).toInt ≤ 16) (h0 : ∀ x', (x.1 0 20).toInt = 16 → md [9, 10, 20] [] x x' → PN x' → 0 < (x'.1 0 9).toInt → F 0 x') (h1 : ∀ x', md [20] [] x x' → (x.1 0 20).toInt < 16 → (x'.1 0 20).toInt = (x.1 0 20).toInt + 1 → F 1 x') : MT G (d + 1) z_deeper 0 [(0, vr 0)] [] x (ri F) := by
  have k0 : (0 : Int32).toInt = 0 := rfl
  have k1 : (1 : Int32).toInt = 1 := rfl
  have k16 : (16 : Int32).toInt = 16 := rfl
  refine sg_deeper_0 ⟨fun c => ?_, fun _ => ⟨fun c => sg_deeper_25 (fun x1 e1 => ⟨fun c1 => ?_, fun c1 => ri_i ?_⟩), fun c => sp_fault _ _ (by decide) (PN_v hp) hp (fun x3 hs hb3 e8 m3 => sg_deeper_25 (fun x1 e1 => ⟨fun c1 => ri_i ?_, fun c1 => ?_⟩))⟩⟩
  · exfalso; rw [t_eq, k0] at c; exact c hb
  · exfalso
    rw [e1, si_get, if_neg (by decide), t_eq, k0] at c1
    exact c1 hb
  · have m1 := md_f x 20 (x.1 0 20 + 1)
    rw [← e1] at m1
    rw [t_eq, k16] at c
    exact h1 x1 m1 (by omega) (by rw [e1, si_get, if_pos ⟨rfl, rfl⟩, t_add (by omega) (by omega), k1])
  · have m1 := md_f x3 20 (x3.1 0 20 + 1)
    rw [← e1] at m1
    have g8 : x1.1 0 8 = x3.1 0 8 := m1.1 8 (by decide)
    have g9 : x1.1 0 9 = x3.1 0 9 := m1.1 9 (by decide)
    exact h0 x1 (by rw [c]; exact k16) (md_tr m3 m1 rfl rfl) ⟨by rw [g8]; exact hs.2.1.1, by rw [g8]; exact hs.2.1.2.1, by rw [g9]; exact hs.2.1.2.2.1, TX_md m1 (by decide) (by decide) (by decide) (by decide) hs.2.1.2.2.2⟩ (by rw [g9]; exact hb3)
  · exfalso
    rw [e1, si_get, if_neg (by decide), t_eq, k0] at c1
    omega
def SpF (k : Nat) : Prop := ∀ (G : mG) (D : Nat) (x : gd) (F : Int32 → gd → Prop) (th o : Int32) (s : Int), 2 * k + 8 ≤ D → 0 ≤ th.toInt → PreE k s x → (∀ r x', PE k s x r x' → FE k th o x r x' → F r x') → MT G D z_readE 0 [(0, vr 0), (1, vi th), (2, vi o)] [] x (ri F)
/-- readOperand, the expressions in parentheses being known -/
theorem sf_readOperand (k : Nat) (ih : SpF k) {G : mG} {D : Nat} {x : gd} {F : Int32 → gd → Prop} (o : Int32) (s : Int) (hD : 2 * k + 9 ≤ D) (hpre : PreE k s x) (hb : (x.1 0 9).toInt = 0) (hF : ∀ r x', PO k s x r x' → FO k o x r x' → F r x') : MT G D z_readOperand 0 [(0, vr 0), (1, vi o)] [] x (ri F) := by
  obtain ⟨D, rfl⟩ : ∃ m, D = m + 9 := ⟨D - 9, by omega⟩
  obtain ⟨pn, n0, nb, sl, k16, nst⟩ := id hpre
  have p2 := pn.2.1
  have hnx : vp_in (x.1 0 13) 3000 := nv n0 nb (by omega)
  obtain ⟨i, ei⟩ : ∃ i, i = (x.1 0 8).toNatClampNeg := ⟨_, rfl⟩
  have hi : nwo x = some i := by rw [ei]; exact nwo_o hb
  have leaf1 : ∀ (w a b c : Int32) (y : gd) (M : gU), SS x y → ((y.1 0 9).toInt = 0 → (y.1 0 8).toInt = (x.1 0 8).toInt + 1) → (w = 1 ∨ w = 2 ∨ w = 3) → ¬ w = 3 → ¬ x.1 5 i = 1 → (∀ L, pO (pE (x.1 5) (decide (¬ o = 0)) k) (x.1 5) (decide (¬ o = 0)) i L = (nwo y).map (fun j => (j, L ++ M))) → ((w = 1 ∧ M = [(52, i, 0)] ∧ a = y.1 7 i) ∨ (w = 2 ∧ M = [(53, i, 0)]) ∨ (w = 3 ∧ M = [(if decide (¬ o = 0) = true then 6 else 3, i, 0)])) → MT G (D + 8) z_node 0 [(0, vr 0), (1, vi w), (2, vi a), (3, vi b), (4, vi c), (5, vi (x.1 0 8))] [] y (ri (fun r z => ri F (some (vi r)) z)) := by
    intro w a b c y M hs hst hw w3 kn1 hk hM
    have e13 : y.1 0 13 = x.1 0 13 := hs.1.1 13 (by decide)
    refine sp_node _ _ _ _ _ (by rw [e13]; exact hnx) (fun z hz => ri_i (hF _ _ (leafPO pn n0 nb sl (RP_ss hs) hs.1 (fun q => by have := hst q; omega) hz (PN_v pn) (Or.inl hw)) ⟨M, FX_at hi (fun L => by rw [hk L, nE_nwo hz]), fun _ => ⟨⟨1, vV_leaf hs.2.1 (by rw [e13]; exact hnx) hz ?_⟩, TT_no (nE_at hz).1 w3 (fun q => absurd q (by rw [← ei]; exact kn1))⟩⟩))
    rw [← ei]
    rcases hM with q | q | q
    · exact Or.inl q
    · exact Or.inr (Or.inl q)
    · exact Or.inr (Or.inr (Or.inl q))
  refine sg_readOperand_0 _ (sp_here pn (fun r _ r1 => ?_))
  have er : r = x.1 5 i := by rw [ei]; exact r1 hb
  refine ⟨fun c => ?_, fun c => ?_, fun c => ?_, fun c => ?_⟩
  · exact sf_step pn (fun y hs hst hy => ⟨PN_v pn, leaf1 1 _ _ _ y [(52, i, 0)] hs hst (Or.inl rfl) (by decide) (by rw [← er, c]; decide) (fun L => by rw [pO_w (er ▸ c), hy, hi]; rfl) (Or.inl ⟨rfl, rfl, by rw [ei]⟩)⟩)
  · exact sf_step pn (fun y hs hst hy => leaf1 2 _ _ _ y [(53, i, 0)] hs hst (Or.inr (Or.inl rfl)) (by decide) (by rw [← er, c]; decide) (fun L => by rw [pO_s (er ▸ c), hy, hi]; rfl) (Or.inr (Or.inl ⟨rfl, rfl⟩)))
  · refine sf_step pn (fun y hs hst hy => ?_)
    have e13 : y.1 0 13 = x.1 0 13 := hs.1.1 13 (by decide)
    have e20 : y.1 0 20 = x.1 0 20 := hs.1.1 20 (by decide)
    have e21 : y.1 0 21 = x.1 0 21 := hs.1.1 21 (by decide)
    have e5y : y.1 5 = x.1 5 := hs.1.2.1 5 (by decide) (by decide)
    have le8 := hs.2.2.1
    have py := hs.2.1
    have py2 := py.2.1
    have n0y : 0 ≤ (y.1 0 13).toInt := by rw [e13]; exact n0
    obtain ⟨s1, g1, g2, g3⟩ : ∃ s1 : Int, s1 ≤ s ∧ ((y.1 0 9).toInt = 0 → s1 = s - 2) ∧ (y.1 0 13).toInt ≤ 2 * (y.1 0 8).toInt + s1 := by
      by_cases q : (y.1 0 9).toInt = 0
      · exact ⟨s - 2, by omega, fun _ => rfl, by rw [e13]; have := hst q; omega⟩
      · exact ⟨s, by omega, fun z => absurd z q, by rw [e13]; omega⟩
    refine ih G (D + 8) y _ 0 o s1 (by omega) (by decide) ⟨py, by rw [e13]; exact n0, g3, by omega, k16, fun q => by rw [e20]; exact nst hb⟩ (fun r3 y2 h2 hf2 => ?_)
    obtain ⟨rp2, l2, nb2, rr2, ok2⟩ := h2
    obtain ⟨M2, f2, v2⟩ := hf2
    have e5z : y2.1 5 = x.1 5 := (rp2.1.2.1 5 (by decide) (by decide)).trans e5y
    refine sf_pass _ rp2.2.1 (fun y3 hs3 hst3 hy3 => ⟨fun _ => ?_, fun hneg => ?_⟩)
    · have e13' : y3.1 0 13 = y2.1 0 13 := hs3.1.1 13 (by decide)
      have e20' : y3.1 0 20 = y2.1 0 20 := hs3.1.1 20 (by decide)
      have e21' : y3.1 0 21 = y2.1 0 21 := hs3.1.1 21 (by decide)
      have p32 := hs3.2.1.2.1
      have p22 := rp2.2.1.2.1
      have mono := rp2.2.2.2.2.1
      have le83 := hs3.2.2.1
      have le82 := rp2.2.2.1
      have hn3 : vp_in (y3.1 0 13) 3000 := by rw [vp_in_iff, e13']; omega
      refine sp_node _ _ _ _ _ hn3 (fun z hz => ri_i (hF _ _ ?_ ⟨M2, FX_at hi (fun L => ?_), fun q => ?_⟩))
      · obtain ⟨r1, q1⟩ := RP_nE hs3.2.1 hn3 hz
        have f8 : z.1 0 8 = y3.1 0 8 := hz.1.1 8 (by decide)
        have f9 : z.1 0 9 = y3.1 0 9 := hz.1.1 9 (by decide)
        have f20 : z.1 0 20 = y3.1 0 20 := hz.1.1 20 (by decide)
        have f21 : z.1 0 21 = y3.1 0 21 := hz.1.1 21 (by decide)
        rw [e13'] at q1
        refine ⟨RP_tr (RP_tr (RP_tr (RP_ss hs) rp2) (RP_ss hs3)) r1, by rw [f21, e21', l2, e21], by rw [f8]; omega, by rw [e13']; omega, fun q => ?_⟩
        rw [f9] at q
        have b2 := hs3.2.2.2.2 q
        have by0 := rp2.2.2.2.1 b2
        obtain ⟨o1, o2, o3, o4⟩ := ok2 b2
        have st1 := hst by0
        have st3 := hst3 q
        have es1 := g2 by0
        rw [f8]
        refine ⟨by rw [f20, e20', o1, e20], by omega, by omega, ?_⟩
        have v3 := vE_RP (RP_ss hs3) o4
        have v4 := vE_one hs3.2.1 hn3 hz (PN_v pn) v3
        exact vE_mono _ _ _ _ _ _ _ (by omega) (by omega) (by omega) v4
      · have f2L := f2 L
        have z0 : (0 : Int32).toNatClampNeg = 0 := rfl
        rw [hy, hi, e5y, z0] at f2L
        rw [pO_p (er ▸ c), nE_nwo hz, hy3, e5z]
        show ((ps1 i).bind (fun j => (pE (x.1 5) (decide (¬ o = 0)) k 0 j L).bind (pt (x.1 5) 62))) = _
        rw [← Option.bind_assoc]
        have f2M : (ps1 i).bind (fun j => pE (x.1 5) (decide (¬ o = 0)) k 0 j L) = (nwo y2).map (fun j => (j, L ++ M2)) := f2L
        rw [f2M]
        cases nwo y2 with
        | none => rfl
        | some j => exact pt_psw
      · have f9 : z.1 0 9 = y3.1 0 9 := hz.1.1 9 (by decide)
        rw [f9] at q
        obtain ⟨⟨n, v3⟩, -⟩ := v2 (hs3.2.2.2.2 q)
        exact ⟨⟨n + 1, vV_one hs3.2.1 hn3 hz (vV_RP (RP_ss hs3) v3) (Or.inl ⟨rfl, rfl⟩)⟩, TT_no (nE_at hz).1 (by decide) (fun q => absurd q (by rw [← ei, ← er, c]; decide))⟩
    · exfalso
      have k0 : (0 : Int32).toInt = 0 := rfl
      rw [t_le, k0] at hneg
      omega
  · have c2 : ¬ x.1 5 i = 2 := fun q => c 2 (by simp) (er.trans q)
    have c32 : ¬ x.1 5 i = 32 := fun q => c 32 (by simp) (er.trans q)
    have c61 : ¬ x.1 5 i = 61 := fun q => c 61 (by simp) (er.trans q)
    refine sf_pass _ pn (fun y hs hst hy => ?_)
    rw [hi] at hy
    have hy : nwo y = psw (x.1 5) 1 i := hy
    have p159 : ∀ (z : gd) (v : Nat), RP x z → md [8, 9, 10] [] x z → ((z.1 0 9).toInt = 0 → (z.1 0 8).toInt = (x.1 0 8).toInt + 1) → ((z.1 0 9).toInt = 0 → x.1 5 i = 1) → v = (if decide (¬ o = 0) = true then 6 else 3) → (∀ L, pO (pE (x.1 5) (decide (¬ o = 0)) k) (x.1 5) (decide (¬ o = 0)) i L = (nwo z).map (fun j => (j, L ++ [(v, i, 0)]))) → MT G (D + 9) z_readOperand 159 [(0, vr 0), (2, vi (x.1 0 8))] [] z (ri F) := by
      intro z v rz mz hz hk1 hv hk
      have e13 : z.1 0 13 = x.1 0 13 := mz.1 13 (by decide)
      refine sg_readOperand_159 _ (sp_node _ _ _ _ _ (by rw [e13]; exact hnx) (fun z2 hz2 => ri_i (hF _ _ (leafPO pn n0 nb sl rz mz (fun q => by have := hz q; omega) hz2 (PN_v pn) (Or.inl (Or.inr (Or.inr rfl)))) ⟨[(v, i, 0)], FX_at hi (fun L => by rw [hk L, nE_nwo hz2]), fun q9 => ⟨⟨1, vV_leaf rz.2.1 (by rw [e13]; exact hnx) hz2 (Or.inr (Or.inr (Or.inl ⟨rfl, by rw [← ei, hv]⟩)))⟩, ?_⟩⟩)))
      have f8 : z2.1 0 8 = z.1 0 8 := hz2.1.1 8 (by decide)
      have f9 : z2.1 0 9 = z.1 0 9 := hz2.1.1 9 (by decide)
      rw [f9] at q9
      have a1 := hz q9
      have a2 := pn.1
      have t3 : z2.1 15 (z.1 0 13).toNatClampNeg = 3 ∧ (z2.1 19 (z.1 0 13).toNatClampNeg).toNatClampNeg = (x.1 0 8).toNatClampNeg ∧ (z2.1 0 8).toNatClampNeg = (x.1 0 8).toNatClampNeg + 1 := ⟨(nE_at hz2).1, by rw [(nE_at hz2).2.2.2.2.1], by rw [f8, t_cl, t_cl]; omega⟩
      exact ⟨fun _ => ⟨by rw [← ei]; exact hk1 q9, t3.2⟩, fun _ _ => Or.inl t3⟩
    have hy1 : (y.1 0 9).toInt = 0 → (x.1 0 8).toInt + 1 ≤ (y.1 0 8).toInt := fun q => by have := hst q; omega
    have hk1 : (y.1 0 9).toInt = 0 → x.1 5 i = 1 := fun q => by
      have e := nwo_o q
      rw [hy] at e
      unfold psw at e
      split at e
      · next z => exact z.1
      · exact absurd e (by simp)
    refine ⟨fun c0 => p159 y 3 (RP_ss hs) hs.1 hst hk1 (by rw [c0]; rfl) (fun L => ?_), fun c0 => sf_take _ hs.2.1 (fun h65 => ⟨fun _ => p159 y 6 (RP_ss hs) hs.1 hst hk1 (by rw [decide_eq_true c0]; rfl) (fun L => ?_), fun q => absurd rfl q⟩) (fun y2 j hj h65 hb2 hs2 hst2 hy2 => ⟨fun q => absurd q (by decide), fun _ => ?_⟩)⟩
    · rw [pO_n c2 c32 c61 (by rw [c0]; rfl), hy]
    · rw [pO_o c2 c32 c61 (decide_eq_true c0), hy]
      have e5y : y.1 5 = x.1 5 := hs.1.2.1 5 (by decide) (by decide)
      cases hp1 : psw (x.1 5) 1 i with
      | none => rfl
      | some j =>
        have q := h65 j (hy.trans hp1)
        rw [e5y] at q
        show (if x.1 5 j = 65 then _ else _) = _
        rw [if_neg q]
        rfl
    · have e5y : y.1 5 = x.1 5 := hs.1.2.1 5 (by decide) (by decide)
      have e5y2 : y2.1 5 = x.1 5 := (hs2.1.2.1 5 (by decide) (by decide)).trans e5y
      refine sf_pass _ hs2.2.1 (fun y3 hs3 hst3 hy3 => sf_pass _ hs3.2.1 (fun y4 hs4 hst4 hy4 => ?_))
      have e5y3 : y3.1 5 = x.1 5 := (hs3.1.2.1 5 (by decide) (by decide)).trans e5y2
      have ss : SS x y4 := SS_tr (SS_tr (SS_tr hs hs2) hs3) hs4
      have e13 : y4.1 0 13 = x.1 0 13 := ss.1.1 13 (by decide)
      have hpj : psw (x.1 5) 1 i = some j := hy.symm.trans hj
      have ej : j = i + 1 := by
        unfold psw at hpj
        split at hpj
        · exact (Option.some.inj hpj).symm
        · exact absurd hpj (by simp)
      refine sp_node _ _ _ _ _ (by rw [e13]; exact hnx) (fun z hz => ri_i (hF _ _ (leafPO pn n0 nb sl (RP_ss ss) ss.1 (fun q => ?_) hz (PN_v pn) (Or.inr ⟨rfl, PN_v hs2.2.1⟩)) ⟨[(7, i, 0), (12, i + 2, i)], FX_at hi (fun L => ?_), fun q => ⟨⟨1, vV_leaf ss.2.1 (by rw [e13]; exact hnx) hz (Or.inr (Or.inr (Or.inr ⟨rfl, ?_, decide_eq_true c0⟩)))⟩, TT_no (nE_at hz).1 (by decide) (fun _ o0 => absurd o0 c0)⟩⟩))
      · have l1 := hy1 hb2
        have l2 := hs2.2.2.1
        have l3 := hs3.2.2.1
        have l4 := hs4.2.2.1
        omega
      · rw [pO_o c2 c32 c61 (decide_eq_true c0), hpj, nE_nwo hz, hy4, hy3, hy2, e5y2, e5y3]
        rw [e5y] at h65
        show (if x.1 5 j = 65 then _ else _) = _
        rw [if_pos h65]
      · have f9 : z.1 0 9 = y4.1 0 9 := hz.1.1 9 (by decide)
        rw [f9] at q
        have b2 := hs3.2.2.2.2 (hs4.2.2.2.2 q)
        have a2 := hst2 b2
        have a1 := hst hb2
        have : (y2.1 0 8).toNatClampNeg = i + 2 := by
          have p0 := pn.1
          rw [t_cl, ei, t_cl]; omega
        rw [this, ← ei]
/-- readE at a level, the deeper ones being known -/
theorem readF_step (k : Nat) (ih : ∀ k', k = k' + 1 → SpF k') : SpF k := by
  intro G D x F th o s hD hth hpre hF
  obtain ⟨D, rfl⟩ : ∃ m, D = m + 8 := ⟨D - 8, by omega⟩
  obtain ⟨pn, n0, nb, sl, k16, nst⟩ := id hpre
  have k0 : (0 : Int32).toInt = 0 := rfl
  have k1 : (1 : Int32).toInt = 1 := rfl
  have p1 := pn.1
  have p2 := pn.2.1
  have p3 := pn.2.2.1
  -- nothing but a fault since the beginning
  have stop : ∀ z, md [9, 10, 20] [] x z → PN z → 0 < (z.1 0 9).toInt → (∀ i, nwo x = some i → ∀ L, pE (x.1 5) (decide (¬ o = 0)) k th.toNatClampNeg i L = none) → F 0 z := by
    intro z mz pz hz hN
    have e8 : z.1 0 8 = x.1 0 8 := mz.1 8 (by decide)
    have e13 : z.1 0 13 = x.1 0 13 := mz.1 13 (by decide)
    exact hF 0 z ⟨RP_9 mz pz (fun q => by omega), mz.1 21 (by decide), by rw [e13, e8]; omega, by decide, fun q => by omega⟩ ⟨[], FX_0 (nwo_b hz) hN, fun q => by omega⟩
  have p24 : ∀ z, md [9, 10] [] x z → PN z → ((z.1 0 9).toInt = 0 → (x.1 0 9).toInt = 0) → (0 < (z.1 0 9).toInt → ∀ i, nwo x = some i → ∀ L, pE (x.1 5) (decide (¬ o = 0)) k th.toNatClampNeg i L = none) → ((z.1 0 9).toInt = 0 → pbx x o) → MT G (D + 8) z_readE 24 [(0, vr 0), (1, vi th), (2, vi o)] [] z (ri F) := by
    intro z mz pz bz hN hB
    refine sg_readE_24 _ _ ⟨fun c => ri_i (stop z (md_w mz (by decide) (by decide)) pz (by rw [t_lt, k0] at c; exact c) (hN (by rw [t_lt, k0] at c; exact c))), fun c => ?_⟩
    have z3 := pz.2.2.1
    have b0 : (z.1 0 9).toInt = 0 := by rw [t_lt, k0] at c; omega
    obtain ⟨i, hi, hpb⟩ := hB b0
    have e20 : z.1 0 20 = x.1 0 20 := mz.1 20 (by decide)
    have nz : (z.1 0 20).toInt = 16 - k := by rw [e20]; exact nst (bz b0)
    refine sf_deeper pz b0 (by omega) (by omega) (fun x2 n16 m2 q2 b2 => ⟨fun q => absurd rfl q, fun _ => ri_i (stop x2 (md_tr mz m2 rfl rfl) q2 b2 (fun i' _ L => ?_))⟩) (fun x2 m2 l16 n2 => ⟨fun _ => ?_, fun q => absurd q (by decide)⟩)
    · have : k = 0 := by omega
      subst this
      rfl
    obtain ⟨k', rfl⟩ : ∃ k', k = k' + 1 := ⟨k - 1, by omega⟩
    have ihk := ih k' rfl
    have mx2 : md [9, 10, 20] [] x x2 := md_tr mz m2 rfl rfl
    have a8 : x2.1 0 8 = x.1 0 8 := mx2.1 8 (by decide)
    have a9 : x2.1 0 9 = z.1 0 9 := m2.1 9 (by decide)
    have a13 : x2.1 0 13 = x.1 0 13 := mx2.1 13 (by decide)
    have a21 : x2.1 0 21 = x.1 0 21 := mx2.1 21 (by decide)
    have a5 : x2.1 5 = x.1 5 := mx2.2.1 5 (by decide) (by decide)
    have n0x2 : 0 ≤ (x2.1 0 13).toInt := by rw [a13]; exact n0
    have px2 : PN x2 := ⟨by rw [a8]; exact p1, by rw [a8]; exact p2, by rw [a9]; exact z3, TX_md m2 (by decide) (by decide) (by decide) (by decide) pz.2.2.2⟩
    have rx2 : RP x x2 := RP_9 mx2 px2 (fun _ => bz b0)
    have bx2 : (x2.1 0 9).toInt = 0 := by rw [a9]; exact b0
    have nx2 : (x2.1 0 20).toInt = 16 - k' := by omega
    have ei : i = (x2.1 0 8).toNatClampNeg := by rw [a8]; exact (nwo_is hi).2.symm
    have hi2 : nwo x2 = some i := by rw [ei]; exact nwo_o bx2
    obtain ⟨K, eK⟩ : ∃ K, K = x.1 5 := ⟨_, rfl⟩
    obtain ⟨ob, eob⟩ : ∃ b : Bool, b = decide (¬ o = 0) := ⟨_, rfl⟩
    have p103 : ∀ (n : Nat) (w : gd) (e : Int32) (M : gU) (f : Nat), PO k' s x2 e w → ((w.1 0 9).toInt = 0 → 701 ≤ f + (w.1 0 8).toNatClampNeg) → (∀ L, pE K ob (k' + 1) th.toNatClampNeg i L = (nwo w).bind (fun j => pW (pE K ob k') K th.toNatClampNeg f j (L ++ M))) → ((w.1 0 9).toInt = 0 → (∃ n, vV w ob n e M) ∧ TT K i o w e) → 700 - (w.1 0 8).toInt ≤ n → MT G (D + 8) z_readE 103 [(0, vr 0), (1, vi th), (2, vi o), (3, vi e)] [] w (ri F) := by
      have fin : ∀ (w : gd) (e : Int32) (M : gU) (f : Nat), PO k' s x2 e w → ((w.1 0 9).toInt = 0 → 701 ≤ f + (w.1 0 8).toNatClampNeg) → (∀ L, pE K ob (k' + 1) th.toNatClampNeg i L = (nwo w).bind (fun j => pW (pE K ob k') K th.toNatClampNeg f j (L ++ M))) → ((w.1 0 9).toInt = 0 → (∃ n, vV w ob n e M) ∧ TT K i o w e) → ((w.1 0 9).toInt = 0 → pst (K (w.1 0 8).toNatClampNeg) ≤ th.toNatClampNeg) → ∀ w2 : gd, w2 = si w 0 20 (w.1 0 20 - 1) → ri F (some (vi e)) w2 := by
        intro w e M f hw hf hE hV hle w2 e2
        obtain ⟨rw1, lw, nbw, rw0, okw⟩ := hw
        have m9 := md_f w 20 (w.1 0 20 - 1)
        rw [← e2] at m9
        have c8 : w2.1 0 8 = w.1 0 8 := m9.1 8 (by decide)
        have c9 : w2.1 0 9 = w.1 0 9 := m9.1 9 (by decide)
        have c13 : w2.1 0 13 = w.1 0 13 := m9.1 13 (by decide)
        have c21 : w2.1 0 21 = w.1 0 21 := m9.1 21 (by decide)
        have pw := rw1.2.1
        have rw2 : RP w w2 := RP_9 (md_w m9 (by decide) (by decide)) ⟨by rw [c8]; exact pw.1, by rw [c8]; exact pw.2.1, by rw [c9]; exact pw.2.2.1, TX_md m9 (by decide) (by decide) (by decide) (by decide) pw.2.2.2⟩ (fun q => by rw [← c9]; exact q)
        refine ri_i (hF e w2 ⟨RP_tr rx2 (RP_tr rw1 rw2), by rw [c21, lw, a21], by rw [c13, c8]; omega, rw0, fun q => ?_⟩ ⟨M, FX_at hi (fun L => ?_), fun q => ?_⟩)
        · rw [c9] at q
          obtain ⟨o1, o2, o3, o4⟩ := okw q
          rw [c8, c13]
          rw [a8] at o2 o4
          refine ⟨?_, o2, o3, vE_RP rw2 o4⟩
          rw [t_eq, e2, si_get, if_pos ⟨rfl, rfl⟩, o1, t_sub (by omega) (by omega), k1]
          have := nst (bz b0)
          omega
        · rw [← eK, ← eob, hE L, nwo_e c8 c9]
          cases hw0 : nwo w with
          | none => rfl
          | some j =>
            obtain ⟨b9, b8⟩ := nwo_is hw0
            have h1 := hf b9
            have h2 := hle b9
            rw [b8] at h1 h2
            have jl : j ≤ 700 := by have := pw.2.1; rw [← b8, t_cl]; omega
            obtain ⟨f, rfl⟩ : ∃ m, f = m + 1 := ⟨f - 1, by omega⟩
            show pW (pE K ob k') K th.toNatClampNeg (f + 1) j (L ++ M) = some (j, L ++ M)
            rw [pW, if_neg (by omega)]
        · rw [c9] at q
          obtain ⟨⟨n, v⟩, t9⟩ := hV q
          rw [← eob, ← eK, ← a8, ← ei]
          exact ⟨⟨n, vV_RP rw2 v⟩, TT_e (m9.2.1 15 (by decide) (by decide)) (m9.2.1 19 (by decide) (by decide)) c8 t9⟩
      have body : ∀ (w : gd) (e : Int32) (M : gU) (f : Nat), PO k' s x2 e w → ((w.1 0 9).toInt = 0 → 701 ≤ f + (w.1 0 8).toNatClampNeg) → (∀ L, pE K ob (k' + 1) th.toNatClampNeg i L = (nwo w).bind (fun j => pW (pE K ob k') K th.toNatClampNeg f j (L ++ M))) → ((w.1 0 9).toInt = 0 → (∃ n, vV w ob n e M) ∧ TT K i o w e) → (∀ (w' : gd) (e' : Int32) (M' : gU) (f' : Nat), PO k' s x2 e' w' → ((w'.1 0 9).toInt = 0 → 701 ≤ f' + (w'.1 0 8).toNatClampNeg) → (∀ L, pE K ob (k' + 1) th.toNatClampNeg i L = (nwo w').bind (fun j => pW (pE K ob k') K th.toNatClampNeg f' j (L ++ M'))) → ((w'.1 0 9).toInt = 0 → (∃ n, vV w' ob n e' M') ∧ TT K i o w' e') → ((w'.1 0 9).toInt = 0 → (w.1 0 8).toInt + 1 ≤ (w'.1 0 8).toInt) → MT G (D + 8) z_readE 103 [(0, vr 0), (1, vi th), (2, vi o), (3, vi e')] [] w' (ri F)) → MT G (D + 8) z_readE 103 [(0, vr 0), (1, vi th), (2, vi o), (3, vi e)] [] w (ri F) := by
        intro w e M f hw hf hE hV next
        refine sg_readE_103 _ _ _ ⟨fun cb x9 e9 => fin w e M f hw hf hE hV (fun q => absurd (t_eq.mpr (q.trans k0.symm)) cb) x9 e9, fun cb => ?_⟩
        have cb0 : (w.1 0 9).toInt = 0 := by rw [cb]; rfl
        obtain ⟨rw1, lw, nbw, rw0, okw⟩ := id hw
        obtain ⟨o1, o2, o3, o4⟩ := okw cb0
        have pw := rw1.2.1
        have pw2 := pw.2.1
        have pw1 := pw.1
        have w5 : w.1 5 = K := by rw [eK, ← a5]; exact rw1.1.2.1 5 (by decide) (by decide)
        obtain ⟨j, ej⟩ : ∃ j, j = (w.1 0 8).toNatClampNeg := ⟨_, rfl⟩
        have hj : nwo w = some j := by rw [ej]; exact nwo_o cb0
        have pl := pst_le (K j)
        refine sp_here pw (fun r _ hr => ?_)
        have er : r = K j := by rw [hr cb0, w5, ← ej]
        rw [er]
        refine sf_strength _ ⟨fun cle x9 e9 => fin w e M f hw hf hE hV (fun _ => by rw [← ej]; exact (ofN_le pl hth).mp cle) x9 e9, fun cgt => sf_step pw (fun w1 hs hst hy => ⟨PN_v pw, ?_⟩)⟩
        have w15 : w1.1 5 = K := (hs.1.2.1 5 (by decide) (by decide)).trans w5
        rw [w15, ← ej]
        refine sf_strength _ ?_
        have lt : th.toNatClampNeg < pst (K j) := Nat.lt_of_not_le (fun q => cgt ((ofN_le pl hth).mpr q))
        have e13 : w1.1 0 13 = w.1 0 13 := hs.1.1 13 (by decide)
        have e20 : w1.1 0 20 = w.1 0 20 := hs.1.1 20 (by decide)
        have e21 : w1.1 0 21 = w.1 0 21 := hs.1.1 21 (by decide)
        have le8 := hs.2.2.1
        have q2 := hs.2.1.2.1
        have mono0 := rw1.2.2.2.2.1
        have n0w1 : 0 ≤ (w1.1 0 13).toInt := by rw [e13]; omega
        obtain ⟨s1, g1, g2, g3⟩ : ∃ s1 : Int, s1 ≤ s ∧ ((w1.1 0 9).toInt = 0 → s1 = s - 3) ∧ (w1.1 0 13).toInt ≤ 2 * (w1.1 0 8).toInt + s1 := by
          by_cases q : (w1.1 0 9).toInt = 0
          · exact ⟨s - 3, by omega, fun _ => rfl, by rw [e13]; have := hst q; omega⟩
          · exact ⟨s, by omega, fun z => absurd z q, by rw [e13]; omega⟩
        refine ihk G (D + 7) w1 _ (Int32.ofNat (pst (K j))) o s1 (by omega) (by rw [Int32.toInt_ofNat_of_lt (by omega)]; omega) ⟨hs.2.1, by rw [e13]; omega, g3, by omega, by omega, fun q => by rw [e20, o1]; exact nx2⟩ (fun r14 y2 h2 hf2 => ⟨PN_v pw, ?_⟩)
        obtain ⟨rp2, l2, nb2, rr2, ok2⟩ := h2
        obtain ⟨M2, f2, v2⟩ := hf2
        rw [ofN_cl pl, w15, ← eob] at f2
        rw [← eob] at v2
        have p22 := rp2.2.1.2.1
        have mono := rp2.2.2.2.2.1
        have le82 := rp2.2.2.1
        have hn3 : vp_in (y2.1 0 13) 3000 := by rw [vp_in_iff]; omega
        have y25 : y2.1 5 = K := (rp2.1.2.1 5 (by decide) (by decide)).trans w15
        refine sp_node _ _ _ _ _ hn3 (fun z hz => next z _ (M ++ (M2 ++ [(51, j, 0)])) (f - 1) ?_ (fun q => ?_) (fun L => ?_) (fun q => ?_) (fun q => ?_))
        · obtain ⟨r1, q1⟩ := RP_nE rp2.2.1 hn3 hz
          have f8 : z.1 0 8 = y2.1 0 8 := hz.1.1 8 (by decide)
          have f9 : z.1 0 9 = y2.1 0 9 := hz.1.1 9 (by decide)
          have f20 : z.1 0 20 = y2.1 0 20 := hz.1.1 20 (by decide)
          have f21 : z.1 0 21 = y2.1 0 21 := hz.1.1 21 (by decide)
          refine ⟨RP_tr (RP_tr (RP_tr rw1 (RP_ss hs)) rp2) r1, by rw [f21, l2, e21, lw], by rw [f8]; omega, (vp_in_iff.mp hn3).1, fun q => ?_⟩
          rw [f9] at q
          have by0 := rp2.2.2.2.1 q
          obtain ⟨u1, u2, u3, u4⟩ := ok2 q
          have st1 := hst by0
          have es1 := g2 by0
          rw [f8]
          refine ⟨by rw [f20, u1, e20, o1], by omega, by omega, ?_⟩
          have v1 := vE_RP rp2 (vE_RP (RP_ss hs) o4)
          have v2 := vE_mono _ (((w.1 0 8).toInt - (x2.1 0 8).toInt).toNat + ((y2.1 0 8).toInt - (w1.1 0 8).toInt).toNat) _ _ _ _ _ (by omega) (Nat.le_refl _) (Nat.le_refl _) v1
          have v3 := vE_mono _ (((w.1 0 8).toInt - (x2.1 0 8).toInt).toNat + ((y2.1 0 8).toInt - (w1.1 0 8).toInt).toNat) _ _ _ _ _ (by omega) (Nat.le_refl _) (Nat.le_refl _) u4
          exact vE_mono _ _ _ _ _ _ _ (by omega) (by omega) (Nat.le_refl _) (vE_two rp2.2.1 hn3 hz (PN_v pw) v2 v3)
        · have f8 : z.1 0 8 = y2.1 0 8 := hz.1.1 8 (by decide)
          have f9 : z.1 0 9 = y2.1 0 9 := hz.1.1 9 (by decide)
          rw [f9] at q
          have by0 := rp2.2.2.2.1 q
          have st1 := hst by0
          have h1 := hf cb0
          rw [f8]
          rw [t_cl] at h1 ⊢
          omega
        · rw [hE L, hj, nE_nwo hz]
          have h1 := hf cb0
          rw [← ej] at h1
          have jl : j ≤ 700 := by rw [ej, t_cl]; omega
          obtain ⟨f, rfl⟩ : ∃ m, f = m + 1 := ⟨f - 1, by omega⟩
          show pW (pE K ob k') K th.toNatClampNeg (f + 1) j (L ++ M) = (nwo y2).bind (fun j => pW (pE K ob k') K th.toNatClampNeg f j _)
          rw [hj] at hy
          have hy : nwo w1 = ps1 j := hy
          have f2L := f2 (L ++ M)
          rw [hy, ps1] at f2L
          rw [pW, if_pos lt]
          by_cases q : j < 700
          · rw [if_pos q]
            rw [if_pos q] at f2L
            have f2M : pE K ob k' (pst (K j)) (j + 1) (L ++ M) = (nwo y2).map (fun j => (j, L ++ M ++ M2)) := f2L
            rw [f2M]
            cases nwo y2 with
            | none => rfl
            | some j2 =>
              show pW (pE K ob k') K th.toNatClampNeg f j2 (L ++ M ++ M2 ++ [(51, j, 0)]) = pW (pE K ob k') K th.toNatClampNeg f j2 (L ++ (M ++ (M2 ++ [(51, j, 0)])))
              rw [List.append_assoc, List.append_assoc]
          · rw [if_neg q]
            rw [if_neg q] at f2L
            cases hy2 : nwo y2 with
            | none => rfl
            | some j2 => rw [hy2] at f2L; exact absurd f2L (by simp)
        · have f9 : z.1 0 9 = y2.1 0 9 := hz.1.1 9 (by decide)
          rw [f9] at q
          obtain ⟨⟨n2, v3⟩, -⟩ := v2 q
          obtain ⟨⟨n1, v1⟩, t1⟩ := hV cb0
          have v4 := vV_RP rp2 (vV_RP (RP_ss hs) v1)
          have v5 := vV_two rp2.2.1 hn3 hz (vV_mono n1 (n1 + n2) _ _ (by omega) v4) (vV_mono n2 (n1 + n2) _ _ (by omega) v3) (by rw [y25, ej])
          rw [← ej] at v5
          refine ⟨⟨_, v5⟩, TT_no (nE_at hz).1 (by decide) (fun a b => ?_)⟩
          rcases t1.2 a b with ⟨-, -, h8⟩ | h8
          · rw [← h8, ← ej]; omega
          · exact h8
        · have f8 : z.1 0 8 = y2.1 0 8 := hz.1.1 8 (by decide)
          have f9 : z.1 0 9 = y2.1 0 9 := hz.1.1 9 (by decide)
          rw [f9] at q
          have by0 := rp2.2.2.2.1 q
          have st1 := hst by0
          rw [f8]
          omega
      have exit : ∀ (w : gd) (e : Int32) (M : gU) (f : Nat), PO k' s x2 e w → ((w.1 0 9).toInt = 0 → 701 ≤ f + (w.1 0 8).toNatClampNeg) → (∀ L, pE K ob (k' + 1) th.toNatClampNeg i L = (nwo w).bind (fun j => pW (pE K ob k') K th.toNatClampNeg f j (L ++ M))) → ((w.1 0 9).toInt = 0 → (∃ n, vV w ob n e M) ∧ TT K i o w e) → ¬ (w.1 0 9).toInt = 0 → MT G (D + 8) z_readE 103 [(0, vr 0), (1, vi th), (2, vi o), (3, vi e)] [] w (ri F) := by
        intro w e M f hw hf hE hV hb
        refine sg_readE_103 _ _ _ ⟨fun _ x9 e9 => fin w e M f hw hf hE hV (fun q => absurd q hb) x9 e9, fun cb => ?_⟩
        rw [t_eq, k0] at cb
        exact absurd cb hb
      intro n
      induction n with
      | zero =>
        intro w e M f hw hf hE hV hn
        refine body w e M f hw hf hE hV (fun w' e' M' f' hw' hf' hE' hV' hp' => exit w' e' M' f' hw' hf' hE' hV' (fun q => ?_))
        have := hp' q
        have := hw'.1.2.1.2.1
        omega
      | succ n ihn =>
        intro w e M f hw hf hE hV hn
        refine body w e M f hw hf hE hV (fun w' e' M' f' hw' hf' hE' hV' hp' => ?_)
        by_cases q : (w'.1 0 9).toInt = 0
        · exact ihn w' e' M' f' hw' hf' hE' hV' (by have := hp' q; omega)
        · exact exit w' e' M' f' hw' hf' hE' hV' q
    have pre2 : PreE k' s x2 := ⟨px2, by rw [a13]; exact n0, by rw [a13, a8]; exact nb, by omega, by omega, fun _ => nx2⟩
    have p64 : (K i = 29 ∨ K i = 58) → MT G (D + 8) z_readE 64 [(0, vr 0), (1, vi th), (2, vi o), (4, vi (x2.1 0 8))] [] x2 (ri F) := by
      intro hK
      refine sg_readE_64 _ _ _ (sf_step px2 (fun y hs hst hy => ?_))
      rw [hi2] at hy
      have hy : nwo y = ps1 i := hy
      have e13 : y.1 0 13 = x2.1 0 13 := hs.1.1 13 (by decide)
      have e20 : y.1 0 20 = x2.1 0 20 := hs.1.1 20 (by decide)
      have e21 : y.1 0 21 = x2.1 0 21 := hs.1.1 21 (by decide)
      have y5 : y.1 5 = K := by rw [eK, ← a5]; exact hs.1.2.1 5 (by decide) (by decide)
      have le8 := hs.2.2.1
      have py2 := hs.2.1.2.1
      have pp2 := px2.2.1
      obtain ⟨s1, g1, g2, g3⟩ : ∃ s1 : Int, s1 ≤ s ∧ ((y.1 0 9).toInt = 0 → s1 = s - 2) ∧ (y.1 0 13).toInt ≤ 2 * (y.1 0 8).toInt + s1 := by
        by_cases q : (y.1 0 9).toInt = 0
        · exact ⟨s - 2, by omega, fun _ => rfl, by rw [e13, a13]; have := hst q; rw [a8] at this; omega⟩
        · exact ⟨s, by omega, fun z => absurd z q, by rw [e13, a13]; rw [a8] at le8; omega⟩
      refine ihk G (D + 7) y _ 5 o s1 (by omega) (by decide) ⟨hs.2.1, by rw [e13, a13]; exact n0, g3, by omega, by omega, fun q => by rw [e20]; exact nx2⟩ (fun r3 y2 h2 hf2 => ⟨PN_v px2, ?_⟩)
      obtain ⟨rp2, l2, nb2, rr2, ok2⟩ := h2
      obtain ⟨M2, f2, v2⟩ := hf2
      have z5 : (5 : Int32).toNatClampNeg = 5 := rfl
      rw [z5, y5, ← eob] at f2
      rw [← eob] at v2
      have p22 := rp2.2.1.2.1
      have mono := rp2.2.2.2.2.1
      have le82 := rp2.2.2.1
      have y25 : y2.1 5 = K := (rp2.1.2.1 5 (by decide) (by decide)).trans y5
      have hn3 : vp_in (y2.1 0 13) 3000 := by rw [vp_in_iff]; rw [e13, a13] at mono; omega
      refine sp_node _ _ _ _ _ hn3 (fun z hz => p103 _ z _ (M2 ++ [(50, i, 0)]) 701 ?_ (fun _ => by omega) (fun L => ?_) (fun q => ?_) (Int.self_le_toNat _))
      · obtain ⟨r1, q1⟩ := RP_nE rp2.2.1 hn3 hz
        have f8 : z.1 0 8 = y2.1 0 8 := hz.1.1 8 (by decide)
        have f9 : z.1 0 9 = y2.1 0 9 := hz.1.1 9 (by decide)
        have f20 : z.1 0 20 = y2.1 0 20 := hz.1.1 20 (by decide)
        have f21 : z.1 0 21 = y2.1 0 21 := hz.1.1 21 (by decide)
        refine ⟨RP_tr (RP_tr (RP_ss hs) rp2) r1, by rw [f21, l2, e21], by rw [f8]; omega, (vp_in_iff.mp hn3).1, fun q => ?_⟩
        rw [f9] at q
        have by0 := rp2.2.2.2.1 q
        obtain ⟨u1, u2, u3, u4⟩ := ok2 q
        have st1 := hst by0
        have es1 := g2 by0
        rw [f8]
        refine ⟨by rw [f20, u1, e20], by omega, by omega, ?_⟩
        exact vE_mono _ _ _ _ _ _ _ (by omega) (by omega) (by omega) (vE_one rp2.2.1 hn3 hz (PN_v px2) u4)
      · have f2L := f2 L
        rw [hy, ps1] at f2L
        rw [← eK, ← eob] at hpb
        rw [pE, if_pos hpb, if_pos hK, nE_nwo hz]
        by_cases q : i < 700
        · rw [if_pos q]
          rw [if_pos q] at f2L
          have f2M : pE K ob k' 5 (i + 1) L = (nwo y2).map (fun j => (j, L ++ M2)) := f2L
          rw [f2M]
          cases nwo y2 with
          | none => rfl
          | some j2 =>
            show pW (pE K ob k') K th.toNatClampNeg 701 j2 (L ++ M2 ++ [(50, i, 0)]) = pW (pE K ob k') K th.toNatClampNeg 701 j2 (L ++ (M2 ++ [(50, i, 0)]))
            rw [List.append_assoc]
        · rw [if_neg q]
          rw [if_neg q] at f2L
          cases hy2 : nwo y2 with
          | none => rfl
          | some j2 => rw [hy2] at f2L; exact absurd f2L (by simp)
      · have f9 : z.1 0 9 = y2.1 0 9 := hz.1.1 9 (by decide)
        rw [f9] at q
        obtain ⟨⟨n2, v3⟩, -⟩ := v2 q
        have v5 := vV_one (M := M2 ++ [(50, i, 0)]) rp2.2.1 hn3 hz v3 (Or.inr ⟨by rw [y25, ← ei]; rcases hK with q | q <;> rw [q] <;> decide, by rw [y25], by rw [ei]⟩)
        exact ⟨⟨_, v5⟩, TT_no (nE_at hz).1 (by decide) (fun a _ => by rcases hK with q | q <;> rw [q] at a <;> exact absurd a (by decide))⟩
    have kx : x2.1 5 (x2.1 0 8).toNatClampNeg = K i := by rw [a5, eK, ei]
    refine sp_here px2 (fun r6 _ h6 => ⟨fun c6 => p64 (Or.inl (by rw [← kx, ← h6 bx2]; exact c6)), fun c6 => sp_here px2 (fun r9 _ h9 => ⟨fun c9 => ?_, fun c9 => p64 (Or.inr (by rw [← kx, ← h9 bx2]; exact c9))⟩)⟩)
    have nK : ¬ (K i = 29 ∨ K i = 58) := by
      rw [← kx]
      rintro (q | q)
      · exact c6 ((h6 bx2).trans q)
      · exact c9 ((h9 bx2).trans q)
    refine sf_readOperand k' ihk o s (by omega) pre2 bx2 (fun r w hw hfo => ?_)
    obtain ⟨M, fo1, vo⟩ := hfo
    rw [a5, ← eK, ← eob] at fo1
    rw [← eob, a5, ← eK, ← ei] at vo
    refine p103 _ w r M 701 hw (fun _ => by omega) (fun L => ?_) vo (Int.self_le_toNat _)
    have foL := fo1 L
    rw [hi2] at foL
    have foM : pO (pE K ob k') K ob i L = (nwo w).map (fun j => (j, L ++ M)) := foL
    rw [← eK, ← eob] at hpb
    rw [pE, if_pos hpb, if_neg nK, foM]
    cases nwo w with
    | none => rfl
    | some j => rfl
  have nobeg : ¬ pbx x o → ∀ i, nwo x = some i → ∀ L, pE (x.1 5) (decide (¬ o = 0)) k th.toNatClampNeg i L = none := by
    intro hn i hi L
    cases k with
    | zero => rfl
    | succ k => rw [pE, if_neg (fun q => hn ⟨i, hi, q⟩)]
  refine sg_readE_0 _ _ ⟨fun c0 => p24 x (md_w (md_rf x) (by decide) (by decide)) pn (fun q => q) (fun q i hi => absurd (nwo_is hi).1 (by omega)) (fun q => absurd (t_eq.mpr (q.trans k0.symm)) c0), fun c0 => sf_beginsE _ pn (fun hb => ⟨fun _ => p24 x (md_w (md_rf x) (by decide) (by decide)) pn (fun q => q) (fun q => absurd q (by rw [c0, k0]; omega)) (fun _ => hb), fun q => absurd q (by decide)⟩) (fun hn => ⟨fun q => absurd rfl q, fun _ => sp_fault _ _ (by decide) (PN_v pn) pn (fun x5 hs hb e8 m5 => p24 x5 m5 hs.2.1 hs.2.2.2.2 (fun _ => nobeg hn) (fun q => by omega))⟩)⟩
theorem sf_readE (k : Nat) : SpF k := by
  induction k with
  | zero => exact readF_step 0 (fun k' q => by omega)
  | succ k ih =>
    refine readF_step (k + 1) (fun k' q => ?_)
    have e : k' = k := by omega
    rw [e]
    exact ih
end
section
/-- credit: twice the tokens that were read, less the nodes -/
def cr (x : gd) : Int := 2 * (x.1 0 8).toInt - (x.1 0 13).toInt
/-- what holds where something is read at nesting 16 - k -/
def PreK (k : Nat) (g : Int) (x : gd) : Prop := PN x ∧ 0 ≤ (x.1 0 13).toInt ∧ g ≤ cr x ∧ k ≤ 16 ∧ ((x.1 0 9).toInt = 0 → (x.1 0 20).toInt = 16 - k ∧ 0 ≤ cr x)
def QE (k : Nat) (x : gd) (r : Int32) (x' : gd) : Prop := RP x x' ∧ x'.1 0 21 = x.1 0 21 ∧ cr x ≤ cr x' + 3 * (k + 1) ∧ (0 < (x.1 0 9).toInt → x' = x) ∧ 0 ≤ r.toInt ∧ ((x'.1 0 9).toInt = 0 → x'.1 0 20 = x.1 0 20 ∧ (x.1 0 8).toInt + 1 ≤ (x'.1 0 8).toInt ∧ cr x + 1 ≤ cr x' ∧ vE x' ((x'.1 0 8).toInt - (x.1 0 8).toInt).toNat ((x'.1 0 8).toInt - (x.1 0 8).toInt).toNat 17 r)
theorem cr_ss {x y : gd} (h : SS x y) : cr x ≤ cr y ∧ ((y.1 0 9).toInt = 0 → (y.1 0 8).toInt = (x.1 0 8).toInt + 1 → cr y = cr x + 2) := by
  have e13 : y.1 0 13 = x.1 0 13 := h.1.1 13 (by decide)
  have le := h.2.2.1
  unfold cr
  rw [e13]
  exact ⟨by omega, fun _ _ => by omega⟩
theorem cr_nE {x y : gd} {w a b c t : Int32} (hp : PN x) (hn : vp_in (x.1 0 13) 3000) (h : nE x y w a b c t) : cr y = cr x - 1 := by
  obtain ⟨-, q⟩ := RP_nE hp hn h
  have e8 : y.1 0 8 = x.1 0 8 := h.1.1 8 (by decide)
  unfold cr
  rw [e8]; omega
theorem cr_nv {x : gd} (hp : PN x) (h0 : 0 ≤ (x.1 0 13).toInt) (h : -1000 ≤ cr x) : vp_in (x.1 0 13) 3000 := by
  have := hp.2.1
  unfold cr at h
  rw [vp_in_iff]; omega
/-- places and right sides -/
def vP (x : gd) (s : Nat) (p : Int32) : Prop := (0 ≤ p.toInt ∧ p.toInt < (x.1 0 13).toInt) ∧ vp_in (x.1 19 p.toNatClampNeg) 710 ∧ (x.1 16 p.toNatClampNeg = -1 ∨ vE x s s 17 (x.1 16 p.toNatClampNeg))
def vR (x : gd) (s : Nat) (r : Int32) : Prop := (0 ≤ r.toInt ∧ r.toInt < (x.1 0 13).toInt) ∧ vp_in (x.1 19 r.toNatClampNeg) 710 ∧ ((x.1 15 r.toNatClampNeg = 10 ∧ vE x s s 17 (x.1 16 r.toNatClampNeg)) ∨ (x.1 15 r.toNatClampNeg = 11 ∧ vP x s (x.1 16 r.toNatClampNeg)) ∨ ((x.1 15 r.toNatClampNeg = 12 ∨ x.1 15 r.toNatClampNeg = 13) ∧ ∃ a b : Nat, a + b ≤ s ∧ vP x a (x.1 16 r.toNatClampNeg) ∧ vE x b b 17 (x.1 17 r.toNatClampNeg)) ∨ (x.1 15 r.toNatClampNeg = 14 ∧ ∃ a b c : Nat, a + b + c ≤ s ∧ vP x a (x.1 16 r.toNatClampNeg) ∧ vE x b b 17 (x.1 17 r.toNatClampNeg) ∧ vE x c c 17 (x.1 18 r.toNatClampNeg)))
theorem vP_mono {x : gd} {s s' : Nat} {p : Int32} (h : s ≤ s') (q : vP x s p) : vP x s' p := ⟨q.1, q.2.1, q.2.2.imp id (vE_mono _ _ _ _ _ _ _ h h (Nat.le_refl _))⟩
theorem vR_mono {x : gd} {s s' : Nat} {p : Int32} (h : s ≤ s') (q : vR x s p) : vR x s' p := by
  refine ⟨q.1, q.2.1, ?_⟩
  rcases q.2.2 with ⟨q1, q2⟩ | ⟨q1, q2⟩ | ⟨q1, a, b, q2, q3⟩ | ⟨q1, a, b, c, q2, q3⟩
  · exact Or.inl ⟨q1, vE_mono _ _ _ _ _ _ _ h h (Nat.le_refl _) q2⟩
  · exact Or.inr (Or.inl ⟨q1, vP_mono h q2⟩)
  · exact Or.inr (Or.inr (Or.inl ⟨q1, a, b, by omega, q3⟩))
  · exact Or.inr (Or.inr (Or.inr ⟨q1, a, b, c, by omega, q3⟩))
/-- nodes that stay: what lies under the count is the same but for the links between statements -/
def NK (x x' : gd) : Prop := (x.1 0 13).toInt ≤ (x'.1 0 13).toInt ∧ ∀ c : Nat, 15 ≤ c → c ≤ 19 → ∀ j : Nat, (j : Int) < (x.1 0 13).toInt → x'.1 c j = x.1 c j
theorem NK_RP {x x' : gd} (h : RP x x') : NK x x' := ⟨h.2.2.2.2.1, fun c h1 h2 j hj => h.2.2.2.2.2 c h1 (by omega) j hj⟩
theorem NK_at {x x' : gd} (h : NK x x') {e : Int32} (he : 0 ≤ e.toInt ∧ e.toInt < (x.1 0 13).toInt) : (0 ≤ e.toInt ∧ e.toInt < (x'.1 0 13).toInt) ∧ x'.1 15 e.toNatClampNeg = x.1 15 e.toNatClampNeg ∧ x'.1 16 e.toNatClampNeg = x.1 16 e.toNatClampNeg ∧ x'.1 17 e.toNatClampNeg = x.1 17 e.toNatClampNeg ∧ x'.1 18 e.toNatClampNeg = x.1 18 e.toNatClampNeg ∧ x'.1 19 e.toNatClampNeg = x.1 19 e.toNatClampNeg := by
  have hj : ((e.toNatClampNeg : Nat) : Int) < (x.1 0 13).toInt := by rw [t_cl]; omega
  have h1 := h.1
  exact ⟨⟨he.1, by omega⟩, h.2 15 (by decide) (by decide) _ hj, h.2 16 (by decide) (by decide) _ hj, h.2 17 (by decide) (by decide) _ hj, h.2 18 (by decide) (by decide) _ hj, h.2 19 (by decide) (by decide) _ hj⟩
theorem vE_NK {x x' : gd} (h : NK x x') {n s k : Nat} {e : Int32} (q : vE x n s k e) : vE x' n s k e := vE_keep h.1 h.2 n s k e q
theorem vP_NK {x x' : gd} (h : NK x x') {s : Nat} {e : Int32} (q : vP x s e) : vP x' s e := by
  obtain ⟨a1, a2, a3, a4, a5, a6⟩ := NK_at h q.1
  refine ⟨a1, by rw [a6]; exact q.2.1, ?_⟩
  rw [a3]
  exact q.2.2.imp id (vE_NK h)
theorem vR_NK {x x' : gd} (h : NK x x') {s : Nat} {e : Int32} (q : vR x s e) : vR x' s e := by
  obtain ⟨a1, a2, a3, a4, a5, a6⟩ := NK_at h q.1
  refine ⟨a1, by rw [a6]; exact q.2.1, ?_⟩
  rw [a2, a3, a4, a5]
  rcases q.2.2 with ⟨q1, q2⟩ | ⟨q1, q2⟩ | ⟨q1, a, b, q2, q3, q4⟩ | ⟨q1, a, b, c, q2, q3, q4, q5⟩
  · exact Or.inl ⟨q1, vE_NK h q2⟩
  · exact Or.inr (Or.inl ⟨q1, vP_NK h q2⟩)
  · exact Or.inr (Or.inr (Or.inl ⟨q1, a, b, q2, vP_NK h q3, vE_NK h q4⟩))
  · exact Or.inr (Or.inr (Or.inr ⟨q1, a, b, c, q2, vP_NK h q3, vE_NK h q4, vE_NK h q5⟩))
/-- what a place, a right side leave: at most one node more than the credit allows, two where there is a fault -/
def QP (k : Nat) (x : gd) (r : Int32) (x' : gd) : Prop := RP x x' ∧ x'.1 0 21 = x.1 0 21 ∧ cr x ≤ cr x' + 3 * (k + 1) + 1 ∧ (0 < (x.1 0 9).toInt → cr x ≤ cr x' + 1) ∧ 0 ≤ r.toInt ∧ ((x'.1 0 9).toInt = 0 → (x.1 0 9).toInt = 0 ∧ x'.1 0 20 = x.1 0 20 ∧ (x.1 0 8).toInt + 1 ≤ (x'.1 0 8).toInt ∧ cr x + 1 ≤ cr x' ∧ vP x' ((x'.1 0 8).toInt - (x.1 0 8).toInt).toNat r)
def QR (k : Nat) (x : gd) (r : Int32) (x' : gd) : Prop := RP x x' ∧ x'.1 0 21 = x.1 0 21 ∧ cr x ≤ cr x' + 3 * (k + 1) + 2 ∧ (0 < (x.1 0 9).toInt → cr x ≤ cr x' + 2) ∧ 0 ≤ r.toInt ∧ ((x'.1 0 9).toInt = 0 → (x.1 0 9).toInt = 0 ∧ x'.1 0 20 = x.1 0 20 ∧ (x.1 0 8).toInt + 1 ≤ (x'.1 0 8).toInt ∧ cr x ≤ cr x' ∧ vR x' ((x'.1 0 8).toInt - (x.1 0 8).toInt).toNat r)
end
section
/-! right sides: what they tell -/
theorem FX_seq {x y z : gd} {g h : Nat → gU → gOp} {M1 M2 : gU} (a : FX x y g M1) (b : FX y z h M2) : FX x z (fun i L => (g i L).bind (fun q => h q.1 q.2)) (M1 ++ M2) := by
  intro L
  show (nwo x).bind (fun i => (g i L).bind (fun q => h q.1 q.2)) = _
  rw [← Option.bind_assoc, a L]
  have e := b (L ++ M1)
  rw [List.append_assoc] at e
  rw [← e]
  cases nwo y with
  | none => rfl
  | some j => rfl
theorem FX_nil {x y : gd} {g : Nat → gU → gOp} (h : ∀ L, (nwo x).bind (fun i => g i L) = (nwo y).map (fun j => (j, L))) : FX x y g [] := by
  intro L
  rw [List.append_nil]
  exact h L
theorem FX_pass {x y : gd} {K : Nat → Int32} {w : Int32} (h : nwo y = (nwo x).bind (psw K w)) : FX x y (fun i L => pt K w (i, L)) [] := by
  refine FX_nil (fun L => ?_)
  rw [h]
  cases nwo x with
  | none => rfl
  | some i => exact pt_psw
theorem FX_step {x y : gd} (h : nwo y = (nwo x).bind ps1) : FX x y (fun i L => (ps1 i).map (fun j => (j, L))) [] := by
  refine FX_nil (fun L => ?_)
  rw [h]
  cases nwo x with
  | none => rfl
  | some i => rfl
theorem FX_tell {x y : gd} (v : Nat × Nat × Nat) (h : nwo y = nwo x) : FX x y (fun i L => pan v (i, L)) [v] := by
  intro L
  rw [h]
  cases nwo x with
  | none => rfl
  | some i => rfl
theorem FX_to {x y z : gd} {g : Nat → gU → gOp} {M : gU} (a : FX x y g M) (h : nwo z = nwo y) : FX x z g M := by
  intro L
  rw [h]
  exact a L
theorem FX_eq {x y : gd} {g h : Nat → gU → gOp} {M : gU} (a : FX x y g M) (e : ∀ i, nwo x = some i → ∀ L, h i L = g i L) : FX x y h M := by
  intro L
  rw [← a L]
  cases hx : nwo x with
  | none => rfl
  | some i => exact e i hx L
theorem FX_X {x y : gd} {K : Nat → Int32} {o : Bool} {k : Nat} {M : gU} (a : FX x y (pE K o k 0) M) : FX x y (pX K o k) (M ++ [(54, 0, 0)]) := FX_seq a (FX_tell (54, 0, 0) rfl)
theorem sf_E (k : Nat) {g : Int} {G : mG} {D : Nat} {x : gd} {F : Int32 → gd → Prop} (th o : Int32) (hD : 2 * k + 8 ≤ D) (hth : 0 ≤ th.toInt) (hpre : PreK k g x) (hF : ∀ r x', QE k x r x' → FE k th o x r x' → F r x') : MT G D z_readE 0 [(0, vr 0), (1, vi th), (2, vi o)] [] x (ri F) := by
  obtain ⟨pn, n0, c0, k16, nst⟩ := hpre
  have k0 : (0 : Int32).toInt = 0 := rfl
  by_cases hb : 0 < (x.1 0 9).toInt
  · obtain ⟨D, rfl⟩ : ∃ m, D = m + 8 := ⟨D - 8, by omega⟩
    refine sg_readE_0 _ _ ⟨fun _ => sg_readE_24 _ _ ⟨fun _ => ri_i (hF 0 x ⟨RP_rf pn, rfl, by omega, fun _ => rfl, by decide, fun q => by omega⟩ ⟨[], FX_0 (nwo_b hb) (fun i hi => ?_), fun q => by omega⟩), fun c => ?_⟩, fun c => ?_⟩
    · rw [nwo_b hb] at hi; exact absurd hi (by simp)
    · rw [t_lt, k0] at c; exact absurd hb c
    · rw [t_eq, k0] at c; omega
  · have b0 : (x.1 0 9).toInt = 0 := by have := pn.2.2; omega
    obtain ⟨n1, n2⟩ := nst b0
    unfold cr at n2
    refine sf_readE k G D x F th o ((x.1 0 13).toInt - 2 * (x.1 0 8).toInt) hD hth ⟨pn, n0, by omega, by omega, k16, fun _ => n1⟩ (fun r x' h hf => hF r x' ?_ hf)
    obtain ⟨h1, h2, h3, h4, h5⟩ := h
    refine ⟨h1, h2, by unfold cr; omega, fun q => absurd q hb, h4, fun q => ?_⟩
    obtain ⟨o1, o2, o3, o4⟩ := h5 q
    exact ⟨o1, o2, by unfold cr; omega, vE_mono _ _ _ _ _ _ _ (Nat.le_refl _) (Nat.le_refl _) (by omega) o4⟩
theorem FE_0 {k : Nat} {x x' : gd} {r : Int32} (h : FE k 0 0 x r x') : ∃ M, FX x x' (pE (x.1 5) false k 0) M ∧ ((x'.1 0 9).toInt = 0 → (∃ n, vV x' false n r M) ∧ TT (x.1 5) (x.1 0 8).toNatClampNeg 0 x' r) := h
/-- what a place tells -/
def vQ (x : gd) (p : Int32) (M : gU) : Prop := (0 ≤ p.toInt ∧ p.toInt < (x.1 0 13).toInt) ∧ ((x.1 16 p.toNatClampNeg = -1 ∧ M = [(6, (x.1 19 p.toNatClampNeg).toNatClampNeg, 0)]) ∨ (¬ x.1 16 p.toNatClampNeg = -1 ∧ ∃ n M1, vV x false n (x.1 16 p.toNatClampNeg) M1 ∧ M = [(7, (x.1 19 p.toNatClampNeg).toNatClampNeg, 0)] ++ (M1 ++ [(54, 0, 0)])))
def FP (k : Nat) (x : gd) (r : Int32) (x' : gd) : Prop := ∃ M, FX x x' (pP (x.1 5) k) M ∧ ((x'.1 0 9).toInt = 0 → vQ x' r M)
theorem vE_pos {x : gd} {n s h : Nat} {e : Int32} (q : vE x n s h e) : 0 ≤ e.toInt := by
  cases n with
  | zero => exact q.elim
  | succ n => exact q.1.1
theorem sf_readPlace (k : Nat) {G : mG} {D : Nat} {x : gd} {F : Int32 → gd → Prop} (hD : 2 * k + 9 ≤ D) (hpre : PreK k (-900) x) (hF : ∀ r x', QP k x r x' → FP k x r x' → F r x') : MT G D z_readPlace 0 [(0, vr 0)] [] x (ri F) := by
  obtain ⟨D, rfl⟩ : ∃ m, D = m + 9 := ⟨D - 9, by omega⟩
  obtain ⟨pn, n0, c0, k16, nst⟩ := hpre
  refine sg_readPlace_0 (sf_passName pn (fun y hs hst hy => ?_))
  have ry := RP_ss hs
  have cy := cr_ss hs
  have cy1 := cy.1
  have e13 : y.1 0 13 = x.1 0 13 := hs.1.1 13 (by decide)
  have e20 : y.1 0 20 = x.1 0 20 := hs.1.1 20 (by decide)
  have e21 : y.1 0 21 = x.1 0 21 := hs.1.1 21 (by decide)
  have e5 : y.1 5 = x.1 5 := hs.1.2.1 5 (by decide) (by decide)
  have p29 : ∀ (z : gd) (e : Int32) (M : gU), RP y z → z.1 0 21 = y.1 0 21 → cr y ≤ cr z + 3 * (k + 1) → (0 < (x.1 0 9).toInt → cr y ≤ cr z) → ((z.1 0 9).toInt = 0 → z.1 0 20 = y.1 0 20 ∧ cr y ≤ cr z ∧ (e = -1 ∨ vE z ((z.1 0 8).toInt - (y.1 0 8).toInt).toNat ((z.1 0 8).toInt - (y.1 0 8).toInt).toNat 17 e)) → FX x z (pP (x.1 5) k) M → ((z.1 0 9).toInt = 0 → (e = -1 ∧ M = [(6, (x.1 0 8).toNatClampNeg, 0)]) ∨ (¬ e = -1 ∧ ∃ n M1, vV z false n e M1 ∧ M = [(7, (x.1 0 8).toNatClampNeg, 0)] ++ (M1 ++ [(54, 0, 0)]))) → MT G (D + 9) z_readPlace 29 [(0, vr 0), (1, vi (x.1 0 8)), (2, vi e)] [] z (ri F) := by
    intro z e M rz lz cz bz okz fz vz
    have pz := rz.2.1
    have mono := rz.2.2.2.2.1
    rw [e13] at mono
    have hn : vp_in (z.1 0 13) 3000 := cr_nv pz (by omega) (by omega)
    refine sg_readPlace_29 _ _ (sp_node _ _ _ _ _ hn (fun w hw => ri_i (hF _ _ ?_ ⟨M, FX_to fz (nE_nwo hw), fun q => ?_⟩)))
    · obtain ⟨r1, q1⟩ := RP_nE pz hn hw
      have cw := cr_nE pz hn hw
      have f8 : w.1 0 8 = z.1 0 8 := hw.1.1 8 (by decide)
      have f9 : w.1 0 9 = z.1 0 9 := hw.1.1 9 (by decide)
      have f20 : w.1 0 20 = z.1 0 20 := hw.1.1 20 (by decide)
      have f21 : w.1 0 21 = z.1 0 21 := hw.1.1 21 (by decide)
      refine ⟨RP_tr (RP_tr ry rz) r1, by rw [f21, lz, e21], by omega, fun q => by have := bz q; omega, (vp_in_iff.mp hn).1, fun q => ?_⟩
      rw [f9] at q
      obtain ⟨o1, o2, o3⟩ := okz q
      have by0 := rz.2.2.2.1 q
      have st := hst by0
      have cy2 := cy.2 by0 st
      have le := rz.2.2.1
      rw [f8]
      refine ⟨ry.2.2.2.1 by0, by rw [f20, o1, e20], by omega, by omega, ?_⟩
      obtain ⟨g1, g2, g3, g4, g5, -⟩ := nE_at hw
      refine ⟨⟨(vp_in_iff.mp hn).1, by omega⟩, by rw [g5]; exact PN_v pn, ?_⟩
      rw [g2]
      rcases o3 with o3 | o3
      · exact Or.inl o3
      · exact Or.inr (vE_mono _ _ _ _ _ _ _ (by omega) (by omega) (Nat.le_refl _) (vE_RP r1 o3))
    · have f9 : w.1 0 9 = z.1 0 9 := hw.1.1 9 (by decide)
      rw [f9] at q
      obtain ⟨r1, q1⟩ := RP_nE pz hn hw
      obtain ⟨g1, g2, g3, g4, g5, -⟩ := nE_at hw
      unfold vQ
      rw [g2, g5]
      refine ⟨⟨(vp_in_iff.mp hn).1, by omega⟩, ?_⟩
      rcases vz q with ⟨a1, a2⟩ | ⟨a1, n, M1, a2, a3⟩
      · exact Or.inl ⟨a1, a2⟩
      · exact Or.inr ⟨a1, n, M1, vV_RP r1 a2, a3⟩
  refine sf_take _ hs.2.1 (fun h65 => ⟨fun _ => p29 y (-1) [(6, (x.1 0 8).toNatClampNeg, 0)] (RP_rf hs.2.1) rfl (by omega) (fun _ => by omega) (fun _ => ⟨rfl, by omega, Or.inl rfl⟩) (fun L => ?_) (fun _ => Or.inl ⟨rfl, rfl⟩), fun q => absurd rfl q⟩) (fun y2 j hj h65 hb2 hs2 hst2 hy2 => ⟨fun q => absurd q (by decide), fun _ => ?_⟩)
  · rw [hy]
    cases hx : nwo x with
    | none => rfl
    | some i =>
      have ei := (nwo_is hx).2
      show pP (x.1 5) k i L = (psw (x.1 5) 1 i).map _
      rw [hx] at hy
      have hy : nwo y = psw (x.1 5) 1 i := hy
      unfold pP
      cases hp1 : psw (x.1 5) 1 i with
      | none =>
        unfold psw at hp1
        split at hp1
        · exact absurd hp1 (by simp)
        · next c => rw [if_neg c]; rfl
      | some j =>
        have q := h65 j (hy.trans hp1)
        rw [e5] at q
        unfold psw at hp1
        split at hp1
        · next c =>
          cases Option.some.inj hp1
          rw [if_pos c, if_neg q, ei]
          rfl
        · exact absurd hp1 (by simp)
  have e13' : y2.1 0 13 = y.1 0 13 := hs2.1.1 13 (by decide)
  have e20' : y2.1 0 20 = y.1 0 20 := hs2.1.1 20 (by decide)
  have e21' : y2.1 0 21 = y.1 0 21 := hs2.1.1 21 (by decide)
  have e5' : y2.1 5 = x.1 5 := (hs2.1.2.1 5 (by decide) (by decide)).trans e5
  have cy2 := (cr_ss hs2).1
  have x0 := hs.2.2.2.2 hb2
  have nx := nst x0
  refine sf_E k (g := -900) _ _ (by omega) (by decide) ⟨hs2.2.1, by rw [e13', e13]; exact n0, by omega, k16, fun _ => ⟨by rw [e20', e20]; exact nx.1, by omega⟩⟩ (fun r y3 h3 hf3 => ?_)
  obtain ⟨r3, l3, c3, b3, rr3, ok3⟩ := h3
  obtain ⟨M3, f3, v3⟩ := FE_0 hf3
  rw [e5'] at f3
  have e5'' : y3.1 5 = x.1 5 := (r3.1.2.1 5 (by decide) (by decide)).trans e5'
  refine sf_pass _ r3.2.1 (fun y4 hs4 hst4 hy4 => ?_)
  rw [e5''] at hy4
  have cy4 := (cr_ss hs4).1
  have e20'' : y4.1 0 20 = y3.1 0 20 := hs4.1.1 20 (by decide)
  have e21'' : y4.1 0 21 = y3.1 0 21 := hs4.1.1 21 (by decide)
  refine p29 y4 r ([(7, (x.1 0 8).toNatClampNeg, 0)] ++ (M3 ++ [(54, 0, 0)])) (RP_tr (RP_tr (RP_ss hs2) r3) (RP_ss hs4)) (by rw [e21'', l3, e21']) (by omega) (fun q => by omega) (fun q => ?_) (fun L => ?_) (fun q => ?_)
  · have b3 := hs4.2.2.2.2 q
    obtain ⟨o1, o2, o3, o4⟩ := ok3 b3
    have le2 := hs2.2.2.1
    have le4 := hs4.2.2.1
    exact ⟨by rw [e20'', o1, e20'], by omega, Or.inr (vE_mono _ _ _ _ _ _ _ (by omega) (by omega) (Nat.le_refl _) (vE_RP (RP_ss hs4) o4))⟩
  · obtain ⟨b9, b8⟩ := nwo_is hj
    have hx : nwo x = some (x.1 0 8).toNatClampNeg := nwo_o x0
    obtain ⟨i, ei⟩ : ∃ i, i = (x.1 0 8).toNatClampNeg := ⟨_, rfl⟩
    rw [← ei] at hx ⊢
    rw [hx] at hy ⊢
    have hpj : psw (x.1 5) 1 i = some j := hy.symm.trans hj
    unfold psw at hpj
    split at hpj
    · next c =>
      cases Option.some.inj hpj
      rw [e5] at h65
      show pP (x.1 5) k i L = _
      unfold pP
      rw [if_pos c, if_pos h65]
      have f4 := FX_seq (FX_X f3) (FX_pass hy4) (L ++ [(7, i, 0)])
      rw [hy2] at f4
      rw [List.append_nil, List.append_assoc] at f4
      rw [← f4, ps1]
      by_cases c7 : i + 1 < 700
      · rw [if_pos c7, if_pos c7]; rfl
      · rw [if_neg c7, if_neg c7]; rfl
    · exact absurd hpj (by simp)
  · have b3 := hs4.2.2.2.2 q
    obtain ⟨⟨n, v⟩, -⟩ := v3 b3
    obtain ⟨o1, o2, o3, o4⟩ := ok3 b3
    have r0 := vE_pos o4
    refine Or.inr ⟨fun e => ?_, n, M3, vV_RP (RP_ss hs4) v, rfl⟩
    rw [e] at r0
    exact absurd r0 (by decide)
end
section
theorem PreK_rp {k : Nat} {f g : Int} {x y : gd} (hp : PreK k f x) (h : RP x y) (hc : g ≤ cr y) (ho : (y.1 0 9).toInt = 0 → y.1 0 20 = x.1 0 20 ∧ cr x ≤ cr y) : PreK k g y := by
  obtain ⟨pn, n0, c0, k16, nst⟩ := hp
  have mono := h.2.2.2.2.1
  refine ⟨h.2.1, by omega, hc, k16, fun q => ?_⟩
  obtain ⟨o1, o2⟩ := ho q
  obtain ⟨n1, n2⟩ := nst (h.2.2.2.1 q)
  exact ⟨by rw [o1]; exact n1, by omega⟩
theorem PreK_w {k : Nat} {f g : Int} {x : gd} (hp : PreK k f x) (h : g ≤ f) : PreK k g x := ⟨hp.1, hp.2.1, Int.le_trans h hp.2.2.1, hp.2.2.2⟩
theorem PreK_ss {k : Nat} {f : Int} {x y : gd} (hp : PreK k f x) (h : SS x y) : PreK k f y := by
  have c := (cr_ss h).1
  have := hp.2.2.1
  exact PreK_rp hp (RP_ss h) (by omega) (fun _ => ⟨h.1.1 20 (by decide), c⟩)
/-- a node behind what was read: its place and parts -/
theorem nodeR {x z w : gd} {q a b c t : Int32} (rz : RP x z) (n0 : 0 ≤ (x.1 0 13).toInt) (cz : -1000 ≤ cr z) (hw : nE z w q a b c t) : vp_in (z.1 0 13) 3000 ∧ RP x w ∧ NK z w ∧ cr w = cr z - 1 ∧ 0 ≤ (z.1 0 13).toInt ∧ (z.1 0 13).toInt < (w.1 0 13).toInt ∧ w.1 0 8 = z.1 0 8 ∧ w.1 0 9 = z.1 0 9 ∧ w.1 0 20 = z.1 0 20 ∧ w.1 0 21 = z.1 0 21 := by
  have pz := rz.2.1
  have mono := rz.2.2.2.2.1
  have hn : vp_in (z.1 0 13) 3000 := cr_nv pz (by omega) cz
  obtain ⟨r1, q1⟩ := RP_nE pz hn hw
  exact ⟨hn, RP_tr rz r1, NK_RP r1, cr_nE pz hn hw, by omega, by omega, hw.1.1 8 (by decide), hw.1.1 9 (by decide), hw.1.1 20 (by decide), hw.1.1 21 (by decide)⟩
theorem nodeV {x z : gd} (rz : RP x z) (n0 : 0 ≤ (x.1 0 13).toInt) (cz : -1000 ≤ cr z) : vp_in (z.1 0 13) 3000 := by
  have mono := rz.2.2.2.2.1
  exact cr_nv rz.2.1 (by omega) cz
end
section
/-! readR: what it reads -/
theorem FX_pre {x : gd} (N : gU) : FX x x (fun i L => some (i, L ++ N)) N := by
  intro L
  cases nwo x with
  | none => rfl
  | some i => rfl
theorem pE_name {K : Nat → Int32} {f i : Nat} {L : gU} (h : K i = 1) (h2 : pst (K (i + 1)) = 0) : pE K false f 0 i L = if i < 700 ∧ 1 ≤ f then some (i + 1, L ++ [(3, i, 0)]) else none := by
  cases f with
  | zero => rw [if_neg (by omega)]; rfl
  | succ f =>
    rw [pE, if_pos (Or.inr (Or.inr (Or.inl h))), if_neg (by rw [h]; decide), pO_n (by rw [h]; decide) (by rw [h]; decide) (by rw [h]; decide) rfl, psw]
    by_cases q : i < 700
    · rw [if_pos (show K i = 1 ∧ i < 700 from ⟨h, q⟩), if_pos (show i < 700 ∧ 1 ≤ f + 1 from ⟨q, by omega⟩)]
      show pW (pE K false f) K 0 (700 + 1) (i + 1) (L ++ [(3, i, 0)]) = _
      rw [pW, if_neg (by omega)]
    · rw [if_neg (fun z => q z.2), if_neg (fun z => q z.1)]; rfl
section PR
variable {K : Nat → Int32} {f i : Nat} {t : Option Nat} {L : gU}
theorem pR_x (h : K i = 35 ∨ K i = 10 ∨ K i = 16) : pR K f t i L = (ps1 i).bind (fun j => (pP K f j (L ++ pme t)).bind (fun q => (pt K 68 q).bind (fun q => (pXq K f q).bind (fun q => (if K i = 16 then (pt K 68 q).bind (pXq K f) else some q).bind (pan (74, i, 0)))))) := by
  rw [pR, if_pos h, ps1]
  by_cases q : i < 700
  · rw [if_pos q, if_pos q, Option.bind_assoc, Option.bind_assoc]
    rfl
  · rw [if_neg q, if_neg q]; rfl
theorem pR_row (h : K i = 1) (hi : i < 700) (h2 : K (i + 1) = 65) : pR K f t i L = (pP K f i (L ++ pme t)).bind (pan (75, i, 0)) := by
  rw [pR, if_neg (by rw [h]; decide), if_pos ⟨h, hi, h2⟩]
theorem pR_al (h : K i = 1) (h2 : K (i + 1) = 67) : pR K f t i L = if i < 700 ∧ 1 ≤ f then some (i + 1, L ++ [pal t i]) else none := by
  rw [pR, if_neg (by rw [h]; decide), if_neg (fun z => by rw [h2] at z; exact absurd z.2.2 (by decide)), if_pos ⟨h, h2⟩]
theorem pR_e (h : ¬ (K i = 35 ∨ K i = 10 ∨ K i = 16)) (h1 : ¬ (K i = 1 ∧ i < 700 ∧ K (i + 1) = 65)) (h2 : ¬ (K i = 1 ∧ K (i + 1) = 67)) : pR K f t i L = (pX K false f i (L ++ pma t)).bind (pan (76, i, 0)) := by
  rw [pR, if_neg h, if_neg h1, if_neg h2]
end PR
/-- what a right side tells: of a let (none), or of what is set (some) -/
def vRr (x : gd) (r : Int32) (tg : Option Nat) (M : gU) : Prop := (0 ≤ r.toInt ∧ r.toInt < (x.1 0 13).toInt) ∧ ∃ t, t = (x.1 19 r.toNatClampNeg).toNatClampNeg ∧
  ((x.1 15 r.toNatClampNeg = 10 ∧ (x.1 5 t = 1 ∧ x.1 5 (t + 1) = 67) ∧ M = [pal tg t] ∧ (∃ n M1, vV x false n (x.1 16 r.toNatClampNeg) M1) ∧ x.1 15 (x.1 16 r.toNatClampNeg).toNatClampNeg = 3 ∧ (x.1 19 (x.1 16 r.toNatClampNeg).toNatClampNeg).toNatClampNeg = t) ∨
   (x.1 15 r.toNatClampNeg = 10 ∧ ¬ (x.1 5 t = 1 ∧ x.1 5 (t + 1) = 67) ∧ ∃ n M1, vV x false n (x.1 16 r.toNatClampNeg) M1 ∧ M = pma tg ++ ((M1 ++ [(54, 0, 0)]) ++ [(76, t, 0)])) ∨
   (x.1 15 r.toNatClampNeg = 11 ∧ ∃ M1, vQ x (x.1 16 r.toNatClampNeg) M1 ∧ M = pme tg ++ (M1 ++ [(75, t, 0)])) ∨
   (((x.1 15 r.toNatClampNeg = 12 ∧ x.1 5 t = 35) ∨ (x.1 15 r.toNatClampNeg = 13 ∧ x.1 5 t = 10)) ∧ ∃ n M1 M2, vQ x (x.1 16 r.toNatClampNeg) M1 ∧ vV x false n (x.1 17 r.toNatClampNeg) M2 ∧ M = pme tg ++ (M1 ++ ((M2 ++ [(54, 0, 0)]) ++ [(74, t, 0)]))) ∨
   (x.1 15 r.toNatClampNeg = 14 ∧ x.1 5 t = 16 ∧ ∃ n m M1 M2 M3, vQ x (x.1 16 r.toNatClampNeg) M1 ∧ vV x false n (x.1 17 r.toNatClampNeg) M2 ∧ vV x false m (x.1 18 r.toNatClampNeg) M3 ∧ M = pme tg ++ (M1 ++ ((M2 ++ [(54, 0, 0)]) ++ ((M3 ++ [(54, 0, 0)]) ++ [(74, t, 0)])))))
/-- nodes that stay, kinds and values too -/
def NF (x x' : gd) : Prop := NK x x' ∧ x'.1 5 = x.1 5 ∧ x'.1 7 = x.1 7
theorem NF_RP {x x' : gd} (h : RP x x') : NF x x' := ⟨NK_RP h, h.1.2.1 5 (by decide) (by decide), h.1.2.1 7 (by decide) (by decide)⟩
theorem vV_NF {x x' : gd} {o : Bool} (h : NF x x') {n : Nat} {e : Int32} {M : gU} (q : vV x o n e M) : vV x' o n e M := vV_keep h.1.1 h.2.1 h.2.2 h.1.2 n e M q
theorem vQ_NF {x x' : gd} (h : NF x x') {p : Int32} {M : gU} (q : vQ x p M) : vQ x' p M := by
  obtain ⟨b, q⟩ := q
  obtain ⟨a1, a2, a3, a4, a5, a6⟩ := NK_at h.1 b
  refine ⟨a1, ?_⟩
  rw [a3, a6]
  rcases q with q | ⟨q, n, M1, v, e⟩
  · exact Or.inl q
  · exact Or.inr ⟨q, n, M1, vV_NF h v, e⟩
theorem vV_at {x : gd} {o : Bool} {n : Nat} {e : Int32} {M : gU} (q : vV x o n e M) : 0 ≤ e.toInt ∧ e.toInt < (x.1 0 13).toInt := by
  cases n with
  | zero => exact q.elim
  | succ n => exact q.1
theorem vRr_NF {x x' : gd} (h : NF x x') {r : Int32} {tg : Option Nat} {M : gU} (q : vRr x r tg M) : vRr x' r tg M := by
  obtain ⟨b, t, et, q⟩ := q
  obtain ⟨a1, a2, a3, a4, a5, a6⟩ := NK_at h.1 b
  refine ⟨a1, t, by rw [a6]; exact et, ?_⟩
  rw [a2, a3, a4, a5, h.2.1]
  rcases q with ⟨q1, q2, q3, ⟨n, M1, v⟩, q5, q6⟩ | ⟨q1, q2, n, M1, v, e⟩ | ⟨q1, M1, v, e⟩ | ⟨q1, n, M1, M2, v1, v2, e⟩ | ⟨q1, q2, n, m, M1, M2, M3, v1, v2, v3, e⟩
  · obtain ⟨c1, c2, c3, c4, c5, c6⟩ := NK_at h.1 (vV_at v)
    exact Or.inl ⟨q1, q2, q3, ⟨n, M1, vV_NF h v⟩, by rw [c2]; exact q5, by rw [c6]; exact q6⟩
  · exact Or.inr (Or.inl ⟨q1, q2, n, M1, vV_NF h v, e⟩)
  · exact Or.inr (Or.inr (Or.inl ⟨q1, M1, vQ_NF h v, e⟩))
  · exact Or.inr (Or.inr (Or.inr (Or.inl ⟨q1, n, M1, M2, vQ_NF h v1, vV_NF h v2, e⟩)))
  · exact Or.inr (Or.inr (Or.inr (Or.inr ⟨q1, q2, n, m, M1, M2, M3, vQ_NF h v1, vV_NF h v2, vV_NF h v3, e⟩)))
def FRr (k : Nat) (x : gd) (r : Int32) (x' : gd) : Prop := (∀ tg, ∃ M, FX x x' (pR (x.1 5) k tg) M ∧ ((x'.1 0 9).toInt = 0 → vRr x' r tg M)) ∧ ((x'.1 0 9).toInt = 0 → x'.1 15 r.toNatClampNeg = 10 → x'.1 15 (x'.1 16 r.toNatClampNeg).toNatClampNeg = 3 → x.1 5 (x.1 0 8).toNatClampNeg = 1 ∧ (x'.1 0 8).toNatClampNeg = (x.1 0 8).toNatClampNeg + 1 ∧ (x'.1 19 r.toNatClampNeg).toNatClampNeg = (x.1 0 8).toNatClampNeg)
end
