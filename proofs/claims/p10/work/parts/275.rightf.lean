/-! right sides: what they tell -/
theorem FX_seq {x y z : gd} {g h : Nat → gU → gOp} {M1 M2 : gU} (a : FX x y g M1) (b : FX y z h M2) : FX x z (fun i L => (g i L).bind (fun q => h q.1 q.2)) (M1 ++ M2) := by
  intro L
  show (nwo x).bind (fun i => (g i L).bind (fun q => h q.1 q.2)) = _
  rw [← Option.bind_assoc, a L]
  have e := b (L ++ M1)
  rw [List.append_assoc] at e
  rw [← e]
  cases nwo y with
  | none => rfl
  | some j => rfl
theorem FX_nil {x y : gd} {g : Nat → gU → gOp} (h : ∀ L, (nwo x).bind (fun i => g i L) = (nwo y).map (fun j => (j, L))) : FX x y g [] := by
  intro L
  rw [List.append_nil]
  exact h L
theorem FX_pass {x y : gd} {K : Nat → Int32} {w : Int32} (h : nwo y = (nwo x).bind (psw K w)) : FX x y (fun i L => pt K w (i, L)) [] := by
  refine FX_nil (fun L => ?_)
  rw [h]
  cases nwo x with
  | none => rfl
  | some i => exact pt_psw
theorem FX_step {x y : gd} (h : nwo y = (nwo x).bind ps1) : FX x y (fun i L => (ps1 i).map (fun j => (j, L))) [] := by
  refine FX_nil (fun L => ?_)
  rw [h]
  cases nwo x with
  | none => rfl
  | some i => rfl
theorem FX_tell {x y : gd} (v : Nat × Nat × Nat) (h : nwo y = nwo x) : FX x y (fun i L => pan v (i, L)) [v] := by
  intro L
  rw [h]
  cases nwo x with
  | none => rfl
  | some i => rfl
theorem FX_to {x y z : gd} {g : Nat → gU → gOp} {M : gU} (a : FX x y g M) (h : nwo z = nwo y) : FX x z g M := by
  intro L
  rw [h]
  exact a L
theorem FX_eq {x y : gd} {g h : Nat → gU → gOp} {M : gU} (a : FX x y g M) (e : ∀ i, nwo x = some i → ∀ L, h i L = g i L) : FX x y h M := by
  intro L
  rw [← a L]
  cases hx : nwo x with
  | none => rfl
  | some i => exact e i hx L
theorem FX_X {x y : gd} {K : Nat → Int32} {o : Bool} {k : Nat} {M : gU} (a : FX x y (pE K o k 0) M) : FX x y (pX K o k) (M ++ [(54, 0, 0)]) := FX_seq a (FX_tell (54, 0, 0) rfl)
theorem sf_E (k : Nat) {g : Int} {G : mG} {D : Nat} {x : gd} {F : Int32 → gd → Prop} (th o : Int32) (hD : 2 * k + 8 ≤ D) (hth : 0 ≤ th.toInt) (hpre : PreK k g x) (hF : ∀ r x', QE k x r x' → FE k th o x r x' → F r x') : MT G D z_readE 0 [(0, vr 0), (1, vi th), (2, vi o)] [] x (ri F) := by
  obtain ⟨pn, n0, c0, k16, nst⟩ := hpre
  have k0 : (0 : Int32).toInt = 0 := rfl
  by_cases hb : 0 < (x.1 0 9).toInt
  · obtain ⟨D, rfl⟩ : ∃ m, D = m + 8 := ⟨D - 8, by omega⟩
    refine sg_readE_0 _ _ ⟨fun _ => sg_readE_24 _ _ ⟨fun _ => ri_i (hF 0 x ⟨RP_rf pn, rfl, by omega, fun _ => rfl, by decide, fun q => by omega⟩ ⟨[], FX_0 (nwo_b hb) (fun i hi => ?_), fun q => by omega⟩), fun c => ?_⟩, fun c => ?_⟩
    · rw [nwo_b hb] at hi; exact absurd hi (by simp)
    · rw [t_lt, k0] at c; exact absurd hb c
    · rw [t_eq, k0] at c; omega
  · have b0 : (x.1 0 9).toInt = 0 := by have := pn.2.2; omega
    obtain ⟨n1, n2⟩ := nst b0
    unfold cr at n2
    refine sf_readE k G D x F th o ((x.1 0 13).toInt - 2 * (x.1 0 8).toInt) hD hth ⟨pn, n0, by omega, by omega, k16, fun _ => n1⟩ (fun r x' h hf => hF r x' ?_ hf)
    obtain ⟨h1, h2, h3, h4, h5⟩ := h
    refine ⟨h1, h2, by unfold cr; omega, fun q => absurd q hb, h4, fun q => ?_⟩
    obtain ⟨o1, o2, o3, o4⟩ := h5 q
    exact ⟨o1, o2, by unfold cr; omega, vE_mono _ _ _ _ _ _ _ (Nat.le_refl _) (Nat.le_refl _) (by omega) o4⟩
theorem FE_0 {k : Nat} {x x' : gd} {r : Int32} (h : FE k 0 0 x r x') : ∃ M, FX x x' (pE (x.1 5) false k 0) M ∧ ((x'.1 0 9).toInt = 0 → (∃ n, vV x' false n r M) ∧ TT (x.1 5) (x.1 0 8).toNatClampNeg 0 x' r) := h
/-- what a place tells -/
def vQ (x : gd) (p : Int32) (M : gU) : Prop := (0 ≤ p.toInt ∧ p.toInt < (x.1 0 13).toInt) ∧ ((x.1 16 p.toNatClampNeg = -1 ∧ M = [(6, (x.1 19 p.toNatClampNeg).toNatClampNeg, 0)]) ∨ (¬ x.1 16 p.toNatClampNeg = -1 ∧ ∃ n M1, vV x false n (x.1 16 p.toNatClampNeg) M1 ∧ M = [(7, (x.1 19 p.toNatClampNeg).toNatClampNeg, 0)] ++ (M1 ++ [(54, 0, 0)])))
def FP (k : Nat) (x : gd) (r : Int32) (x' : gd) : Prop := ∃ M, FX x x' (pP (x.1 5) k) M ∧ ((x'.1 0 9).toInt = 0 → vQ x' r M)
theorem vE_pos {x : gd} {n s h : Nat} {e : Int32} (q : vE x n s h e) : 0 ≤ e.toInt := by
  cases n with
  | zero => exact q.elim
  | succ n => exact q.1.1
theorem sf_readPlace (k : Nat) {G : mG} {D : Nat} {x : gd} {F : Int32 → gd → Prop} (hD : 2 * k + 9 ≤ D) (hpre : PreK k (-900) x) (hF : ∀ r x', QP k x r x' → FP k x r x' → F r x') : MT G D z_readPlace 0 [(0, vr 0)] [] x (ri F) := by
  obtain ⟨D, rfl⟩ : ∃ m, D = m + 9 := ⟨D - 9, by omega⟩
  obtain ⟨pn, n0, c0, k16, nst⟩ := hpre
  refine sg_readPlace_0 (sf_passName pn (fun y hs hst hy => ?_))
  have ry := RP_ss hs
  have cy := cr_ss hs
  have cy1 := cy.1
  have e13 : y.1 0 13 = x.1 0 13 := hs.1.1 13 (by decide)
  have e20 : y.1 0 20 = x.1 0 20 := hs.1.1 20 (by decide)
  have e21 : y.1 0 21 = x.1 0 21 := hs.1.1 21 (by decide)
  have e5 : y.1 5 = x.1 5 := hs.1.2.1 5 (by decide) (by decide)
  have p29 : ∀ (z : gd) (e : Int32) (M : gU), RP y z → z.1 0 21 = y.1 0 21 → cr y ≤ cr z + 3 * (k + 1) → (0 < (x.1 0 9).toInt → cr y ≤ cr z) → ((z.1 0 9).toInt = 0 → z.1 0 20 = y.1 0 20 ∧ cr y ≤ cr z ∧ (e = -1 ∨ vE z ((z.1 0 8).toInt - (y.1 0 8).toInt).toNat ((z.1 0 8).toInt - (y.1 0 8).toInt).toNat 17 e)) → FX x z (pP (x.1 5) k) M → ((z.1 0 9).toInt = 0 → (e = -1 ∧ M = [(6, (x.1 0 8).toNatClampNeg, 0)]) ∨ (¬ e = -1 ∧ ∃ n M1, vV z false n e M1 ∧ M = [(7, (x.1 0 8).toNatClampNeg, 0)] ++ (M1 ++ [(54, 0, 0)]))) → MT G (D + 9) z_readPlace 29 [(0, vr 0), (1, vi (x.1 0 8)), (2, vi e)] [] z (ri F) := by
    intro z e M rz lz cz bz okz fz vz
    have pz := rz.2.1
    have mono := rz.2.2.2.2.1
    rw [e13] at mono
    have hn : vp_in (z.1 0 13) 3000 := cr_nv pz (by omega) (by omega)
    refine sg_readPlace_29 _ _ (sp_node _ _ _ _ _ hn (fun w hw => ri_i (hF _ _ ?_ ⟨M, FX_to fz (nE_nwo hw), fun q => ?_⟩)))
    · obtain ⟨r1, q1⟩ := RP_nE pz hn hw
      have cw := cr_nE pz hn hw
      have f8 : w.1 0 8 = z.1 0 8 := hw.1.1 8 (by decide)
      have f9 : w.1 0 9 = z.1 0 9 := hw.1.1 9 (by decide)
      have f20 : w.1 0 20 = z.1 0 20 := hw.1.1 20 (by decide)
      have f21 : w.1 0 21 = z.1 0 21 := hw.1.1 21 (by decide)
      refine ⟨RP_tr (RP_tr ry rz) r1, by rw [f21, lz, e21], by omega, fun q => by have := bz q; omega, (vp_in_iff.mp hn).1, fun q => ?_⟩
      rw [f9] at q
      obtain ⟨o1, o2, o3⟩ := okz q
      have by0 := rz.2.2.2.1 q
      have st := hst by0
      have cy2 := cy.2 by0 st
      have le := rz.2.2.1
      rw [f8]
      refine ⟨ry.2.2.2.1 by0, by rw [f20, o1, e20], by omega, by omega, ?_⟩
      obtain ⟨g1, g2, g3, g4, g5, -⟩ := nE_at hw
      refine ⟨⟨(vp_in_iff.mp hn).1, by omega⟩, by rw [g5]; exact PN_v pn, ?_⟩
      rw [g2]
      rcases o3 with o3 | o3
      · exact Or.inl o3
      · exact Or.inr (vE_mono _ _ _ _ _ _ _ (by omega) (by omega) (Nat.le_refl _) (vE_RP r1 o3))
    · have f9 : w.1 0 9 = z.1 0 9 := hw.1.1 9 (by decide)
      rw [f9] at q
      obtain ⟨r1, q1⟩ := RP_nE pz hn hw
      obtain ⟨g1, g2, g3, g4, g5, -⟩ := nE_at hw
      unfold vQ
      rw [g2, g5]
      refine ⟨⟨(vp_in_iff.mp hn).1, by omega⟩, ?_⟩
      rcases vz q with ⟨a1, a2⟩ | ⟨a1, n, M1, a2, a3⟩
      · exact Or.inl ⟨a1, a2⟩
      · exact Or.inr ⟨a1, n, M1, vV_RP r1 a2, a3⟩
  refine sf_take _ hs.2.1 (fun h65 => ⟨fun _ => p29 y (-1) [(6, (x.1 0 8).toNatClampNeg, 0)] (RP_rf hs.2.1) rfl (by omega) (fun _ => by omega) (fun _ => ⟨rfl, by omega, Or.inl rfl⟩) (fun L => ?_) (fun _ => Or.inl ⟨rfl, rfl⟩), fun q => absurd rfl q⟩) (fun y2 j hj h65 hb2 hs2 hst2 hy2 => ⟨fun q => absurd q (by decide), fun _ => ?_⟩)
  · rw [hy]
    cases hx : nwo x with
    | none => rfl
    | some i =>
      have ei := (nwo_is hx).2
      show pP (x.1 5) k i L = (psw (x.1 5) 1 i).map _
      rw [hx] at hy
      have hy : nwo y = psw (x.1 5) 1 i := hy
      unfold pP
      cases hp1 : psw (x.1 5) 1 i with
      | none =>
        unfold psw at hp1
        split at hp1
        · exact absurd hp1 (by simp)
        · next c => rw [if_neg c]; rfl
      | some j =>
        have q := h65 j (hy.trans hp1)
        rw [e5] at q
        unfold psw at hp1
        split at hp1
        · next c =>
          cases Option.some.inj hp1
          rw [if_pos c, if_neg q, ei]
          rfl
        · exact absurd hp1 (by simp)
  have e13' : y2.1 0 13 = y.1 0 13 := hs2.1.1 13 (by decide)
  have e20' : y2.1 0 20 = y.1 0 20 := hs2.1.1 20 (by decide)
  have e21' : y2.1 0 21 = y.1 0 21 := hs2.1.1 21 (by decide)
  have e5' : y2.1 5 = x.1 5 := (hs2.1.2.1 5 (by decide) (by decide)).trans e5
  have cy2 := (cr_ss hs2).1
  have x0 := hs.2.2.2.2 hb2
  have nx := nst x0
  refine sf_E k (g := -900) _ _ (by omega) (by decide) ⟨hs2.2.1, by rw [e13', e13]; exact n0, by omega, k16, fun _ => ⟨by rw [e20', e20]; exact nx.1, by omega⟩⟩ (fun r y3 h3 hf3 => ?_)
  obtain ⟨r3, l3, c3, b3, rr3, ok3⟩ := h3
  obtain ⟨M3, f3, v3⟩ := FE_0 hf3
  rw [e5'] at f3
  have e5'' : y3.1 5 = x.1 5 := (r3.1.2.1 5 (by decide) (by decide)).trans e5'
  refine sf_pass _ r3.2.1 (fun y4 hs4 hst4 hy4 => ?_)
  rw [e5''] at hy4
  have cy4 := (cr_ss hs4).1
  have e20'' : y4.1 0 20 = y3.1 0 20 := hs4.1.1 20 (by decide)
  have e21'' : y4.1 0 21 = y3.1 0 21 := hs4.1.1 21 (by decide)
  refine p29 y4 r ([(7, (x.1 0 8).toNatClampNeg, 0)] ++ (M3 ++ [(54, 0, 0)])) (RP_tr (RP_tr (RP_ss hs2) r3) (RP_ss hs4)) (by rw [e21'', l3, e21']) (by omega) (fun q => by omega) (fun q => ?_) (fun L => ?_) (fun q => ?_)
  · have b3 := hs4.2.2.2.2 q
    obtain ⟨o1, o2, o3, o4⟩ := ok3 b3
    have le2 := hs2.2.2.1
    have le4 := hs4.2.2.1
    exact ⟨by rw [e20'', o1, e20'], by omega, Or.inr (vE_mono _ _ _ _ _ _ _ (by omega) (by omega) (Nat.le_refl _) (vE_RP (RP_ss hs4) o4))⟩
  · obtain ⟨b9, b8⟩ := nwo_is hj
    have hx : nwo x = some (x.1 0 8).toNatClampNeg := nwo_o x0
    obtain ⟨i, ei⟩ : ∃ i, i = (x.1 0 8).toNatClampNeg := ⟨_, rfl⟩
    rw [← ei] at hx ⊢
    rw [hx] at hy ⊢
    have hpj : psw (x.1 5) 1 i = some j := hy.symm.trans hj
    unfold psw at hpj
    split at hpj
    · next c =>
      cases Option.some.inj hpj
      rw [e5] at h65
      show pP (x.1 5) k i L = _
      unfold pP
      rw [if_pos c, if_pos h65]
      have f4 := FX_seq (FX_X f3) (FX_pass hy4) (L ++ [(7, i, 0)])
      rw [hy2] at f4
      rw [List.append_nil, List.append_assoc] at f4
      rw [← f4, ps1]
      by_cases c7 : i + 1 < 700
      · rw [if_pos c7, if_pos c7]; rfl
      · rw [if_neg c7, if_neg c7]; rfl
    · exact absurd hpj (by simp)
  · have b3 := hs4.2.2.2.2 q
    obtain ⟨⟨n, v⟩, -⟩ := v3 b3
    obtain ⟨o1, o2, o3, o4⟩ := ok3 b3
    have r0 := vE_pos o4
    refine Or.inr ⟨fun e => ?_, n, M3, vV_RP (RP_ss hs4) v, rfl⟩
    rw [e] at r0
    exact absurd r0 (by decide)
