/-- credit: twice the tokens that were read, less the nodes -/
def cr (x : gd) : Int := 2 * (x.1 0 8).toInt - (x.1 0 13).toInt
/-- what holds where something is read at nesting 16 - k -/
def PreK (k : Nat) (g : Int) (x : gd) : Prop := PN x ∧ 0 ≤ (x.1 0 13).toInt ∧ g ≤ cr x ∧ k ≤ 16 ∧ ((x.1 0 9).toInt = 0 → (x.1 0 20).toInt = 16 - k ∧ 0 ≤ cr x)
def QE (k : Nat) (x : gd) (r : Int32) (x' : gd) : Prop := RP x x' ∧ x'.1 0 21 = x.1 0 21 ∧ cr x ≤ cr x' + 3 * (k + 1) ∧ (0 < (x.1 0 9).toInt → x' = x) ∧ 0 ≤ r.toInt ∧ ((x'.1 0 9).toInt = 0 → x'.1 0 20 = x.1 0 20 ∧ (x.1 0 8).toInt + 1 ≤ (x'.1 0 8).toInt ∧ cr x + 1 ≤ cr x' ∧ vE x' ((x'.1 0 8).toInt - (x.1 0 8).toInt).toNat ((x'.1 0 8).toInt - (x.1 0 8).toInt).toNat 17 r)
theorem cr_ss {x y : gd} (h : SS x y) : cr x ≤ cr y ∧ ((y.1 0 9).toInt = 0 → (y.1 0 8).toInt = (x.1 0 8).toInt + 1 → cr y = cr x + 2) := by
  have e13 : y.1 0 13 = x.1 0 13 := h.1.1 13 (by decide)
  have le := h.2.2.1
  unfold cr
  rw [e13]
  exact ⟨by omega, fun _ _ => by omega⟩
theorem cr_nE {x y : gd} {w a b c t : Int32} (hp : PN x) (hn : vp_in (x.1 0 13) 3000) (h : nE x y w a b c t) : cr y = cr x - 1 := by
  obtain ⟨-, q⟩ := RP_nE hp hn h
  have e8 : y.1 0 8 = x.1 0 8 := h.1.1 8 (by decide)
  unfold cr
  rw [e8]; omega
theorem cr_nv {x : gd} (hp : PN x) (h0 : 0 ≤ (x.1 0 13).toInt) (h : -1000 ≤ cr x) : vp_in (x.1 0 13) 3000 := by
  have := hp.2.1
  unfold cr at h
  rw [vp_in_iff]; omega
theorem sp_E (k : Nat) {g : Int} {G : mG} {D : Nat} {x : gd} {F : Int32 → gd → Prop} (th o : Int32) (hD : 2 * k + 8 ≤ D) (hpre : PreK k g x) (hF : ∀ r x', QE k x r x' → F r x') : MT G D z_readE 0 [(0, vr 0), (1, vi th), (2, vi o)] [] x (ri F) := by
  obtain ⟨pn, n0, c0, k16, nst⟩ := hpre
  have k0 : (0 : Int32).toInt = 0 := rfl
  by_cases hb : 0 < (x.1 0 9).toInt
  · obtain ⟨D, rfl⟩ : ∃ m, D = m + 8 := ⟨D - 8, by omega⟩
    refine sg_readE_0 _ _ ⟨fun _ => sg_readE_24 _ _ ⟨fun _ => ri_i (hF 0 x ⟨RP_rf pn, rfl, by omega, fun _ => rfl, by decide, fun q => by omega⟩), fun c => ?_⟩, fun c => ?_⟩
    · rw [t_lt, k0] at c; exact absurd hb c
    · rw [t_eq, k0] at c; omega
  · have b0 : (x.1 0 9).toInt = 0 := by have := pn.2.2; omega
    obtain ⟨n1, n2⟩ := nst b0
    unfold cr at n2
    refine sp_readE k G D x F th o ((x.1 0 13).toInt - 2 * (x.1 0 8).toInt) hD ⟨pn, n0, by omega, by omega, k16, fun _ => n1⟩ (fun r x' h => hF r x' ?_)
    obtain ⟨h1, h2, h3, h4, h5⟩ := h
    refine ⟨h1, h2, by unfold cr; omega, fun q => absurd q hb, h4, fun q => ?_⟩
    obtain ⟨o1, o2, o3, o4⟩ := h5 q
    exact ⟨o1, o2, by unfold cr; omega, vE_mono _ _ _ _ _ _ _ (Nat.le_refl _) (Nat.le_refl _) (by omega) o4⟩
/-- places and right sides -/
def vP (x : gd) (s : Nat) (p : Int32) : Prop := (0 ≤ p.toInt ∧ p.toInt < (x.1 0 13).toInt) ∧ vp_in (x.1 19 p.toNatClampNeg) 710 ∧ (x.1 16 p.toNatClampNeg = -1 ∨ vE x s s 17 (x.1 16 p.toNatClampNeg))
def vR (x : gd) (s : Nat) (r : Int32) : Prop := (0 ≤ r.toInt ∧ r.toInt < (x.1 0 13).toInt) ∧ vp_in (x.1 19 r.toNatClampNeg) 710 ∧ ((x.1 15 r.toNatClampNeg = 10 ∧ vE x s s 17 (x.1 16 r.toNatClampNeg)) ∨ (x.1 15 r.toNatClampNeg = 11 ∧ vP x s (x.1 16 r.toNatClampNeg)) ∨ ((x.1 15 r.toNatClampNeg = 12 ∨ x.1 15 r.toNatClampNeg = 13) ∧ ∃ a b : Nat, a + b ≤ s ∧ vP x a (x.1 16 r.toNatClampNeg) ∧ vE x b b 17 (x.1 17 r.toNatClampNeg)) ∨ (x.1 15 r.toNatClampNeg = 14 ∧ ∃ a b c : Nat, a + b + c ≤ s ∧ vP x a (x.1 16 r.toNatClampNeg) ∧ vE x b b 17 (x.1 17 r.toNatClampNeg) ∧ vE x c c 17 (x.1 18 r.toNatClampNeg)))
theorem vP_mono {x : gd} {s s' : Nat} {p : Int32} (h : s ≤ s') (q : vP x s p) : vP x s' p := ⟨q.1, q.2.1, q.2.2.imp id (vE_mono _ _ _ _ _ _ _ h h (Nat.le_refl _))⟩
theorem vR_mono {x : gd} {s s' : Nat} {p : Int32} (h : s ≤ s') (q : vR x s p) : vR x s' p := by
  refine ⟨q.1, q.2.1, ?_⟩
  rcases q.2.2 with ⟨q1, q2⟩ | ⟨q1, q2⟩ | ⟨q1, a, b, q2, q3⟩ | ⟨q1, a, b, c, q2, q3⟩
  · exact Or.inl ⟨q1, vE_mono _ _ _ _ _ _ _ h h (Nat.le_refl _) q2⟩
  · exact Or.inr (Or.inl ⟨q1, vP_mono h q2⟩)
  · exact Or.inr (Or.inr (Or.inl ⟨q1, a, b, by omega, q3⟩))
  · exact Or.inr (Or.inr (Or.inr ⟨q1, a, b, c, by omega, q3⟩))
/-- nodes that stay: what lies under the count is the same but for the links between statements -/
def NK (x x' : gd) : Prop := (x.1 0 13).toInt ≤ (x'.1 0 13).toInt ∧ ∀ c : Nat, 15 ≤ c → c ≤ 19 → ∀ j : Nat, (j : Int) < (x.1 0 13).toInt → x'.1 c j = x.1 c j
theorem NK_RP {x x' : gd} (h : RP x x') : NK x x' := ⟨h.2.2.2.2.1, fun c h1 h2 j hj => h.2.2.2.2.2 c h1 (by omega) j hj⟩
theorem NK_at {x x' : gd} (h : NK x x') {e : Int32} (he : 0 ≤ e.toInt ∧ e.toInt < (x.1 0 13).toInt) : (0 ≤ e.toInt ∧ e.toInt < (x'.1 0 13).toInt) ∧ x'.1 15 e.toNatClampNeg = x.1 15 e.toNatClampNeg ∧ x'.1 16 e.toNatClampNeg = x.1 16 e.toNatClampNeg ∧ x'.1 17 e.toNatClampNeg = x.1 17 e.toNatClampNeg ∧ x'.1 18 e.toNatClampNeg = x.1 18 e.toNatClampNeg ∧ x'.1 19 e.toNatClampNeg = x.1 19 e.toNatClampNeg := by
  have hj : ((e.toNatClampNeg : Nat) : Int) < (x.1 0 13).toInt := by rw [t_cl]; omega
  have h1 := h.1
  exact ⟨⟨he.1, by omega⟩, h.2 15 (by decide) (by decide) _ hj, h.2 16 (by decide) (by decide) _ hj, h.2 17 (by decide) (by decide) _ hj, h.2 18 (by decide) (by decide) _ hj, h.2 19 (by decide) (by decide) _ hj⟩
theorem vE_NK {x x' : gd} (h : NK x x') {n s k : Nat} {e : Int32} (q : vE x n s k e) : vE x' n s k e := vE_keep h.1 h.2 n s k e q
theorem vP_NK {x x' : gd} (h : NK x x') {s : Nat} {e : Int32} (q : vP x s e) : vP x' s e := by
  obtain ⟨a1, a2, a3, a4, a5, a6⟩ := NK_at h q.1
  refine ⟨a1, by rw [a6]; exact q.2.1, ?_⟩
  rw [a3]
  exact q.2.2.imp id (vE_NK h)
theorem vR_NK {x x' : gd} (h : NK x x') {s : Nat} {e : Int32} (q : vR x s e) : vR x' s e := by
  obtain ⟨a1, a2, a3, a4, a5, a6⟩ := NK_at h q.1
  refine ⟨a1, by rw [a6]; exact q.2.1, ?_⟩
  rw [a2, a3, a4, a5]
  rcases q.2.2 with ⟨q1, q2⟩ | ⟨q1, q2⟩ | ⟨q1, a, b, q2, q3, q4⟩ | ⟨q1, a, b, c, q2, q3, q4, q5⟩
  · exact Or.inl ⟨q1, vE_NK h q2⟩
  · exact Or.inr (Or.inl ⟨q1, vP_NK h q2⟩)
  · exact Or.inr (Or.inr (Or.inl ⟨q1, a, b, q2, vP_NK h q3, vE_NK h q4⟩))
  · exact Or.inr (Or.inr (Or.inr ⟨q1, a, b, c, q2, vP_NK h q3, vE_NK h q4, vE_NK h q5⟩))
/-- what a place, a right side leave: at most one node more than the credit allows, two where there is a fault -/
def QP (k : Nat) (x : gd) (r : Int32) (x' : gd) : Prop := RP x x' ∧ x'.1 0 21 = x.1 0 21 ∧ cr x ≤ cr x' + 3 * (k + 1) + 1 ∧ (0 < (x.1 0 9).toInt → cr x ≤ cr x' + 1) ∧ 0 ≤ r.toInt ∧ ((x'.1 0 9).toInt = 0 → (x.1 0 9).toInt = 0 ∧ x'.1 0 20 = x.1 0 20 ∧ (x.1 0 8).toInt + 1 ≤ (x'.1 0 8).toInt ∧ cr x + 1 ≤ cr x' ∧ vP x' ((x'.1 0 8).toInt - (x.1 0 8).toInt).toNat r)
def QR (k : Nat) (x : gd) (r : Int32) (x' : gd) : Prop := RP x x' ∧ x'.1 0 21 = x.1 0 21 ∧ cr x ≤ cr x' + 3 * (k + 1) + 2 ∧ (0 < (x.1 0 9).toInt → cr x ≤ cr x' + 2) ∧ 0 ≤ r.toInt ∧ ((x'.1 0 9).toInt = 0 → (x.1 0 9).toInt = 0 ∧ x'.1 0 20 = x.1 0 20 ∧ (x.1 0 8).toInt + 1 ≤ (x'.1 0 8).toInt ∧ cr x ≤ cr x' ∧ vR x' ((x'.1 0 8).toInt - (x.1 0 8).toInt).toNat r)
theorem sp_readPlace (k : Nat) {G : mG} {D : Nat} {x : gd} {F : Int32 → gd → Prop} (hD : 2 * k + 9 ≤ D) (hpre : PreK k (-900) x) (hF : ∀ r x', QP k x r x' → F r x') : MT G D z_readPlace 0 [(0, vr 0)] [] x (ri F) := by
  obtain ⟨D, rfl⟩ : ∃ m, D = m + 9 := ⟨D - 9, by omega⟩
  obtain ⟨pn, n0, c0, k16, nst⟩ := hpre
  refine sg_readPlace_0 (sp_passName pn (fun y hs hst => ?_))
  have ry := RP_ss hs
  have cy := cr_ss hs
  have cy1 := cy.1
  have e13 : y.1 0 13 = x.1 0 13 := hs.1.1 13 (by decide)
  have e20 : y.1 0 20 = x.1 0 20 := hs.1.1 20 (by decide)
  have e21 : y.1 0 21 = x.1 0 21 := hs.1.1 21 (by decide)
  have p29 : ∀ (z : gd) (e : Int32), RP y z → z.1 0 21 = y.1 0 21 → cr y ≤ cr z + 3 * (k + 1) → (0 < (x.1 0 9).toInt → cr y ≤ cr z) → ((z.1 0 9).toInt = 0 → z.1 0 20 = y.1 0 20 ∧ cr y ≤ cr z ∧ (e = -1 ∨ vE z ((z.1 0 8).toInt - (y.1 0 8).toInt).toNat ((z.1 0 8).toInt - (y.1 0 8).toInt).toNat 17 e)) → MT G (D + 9) z_readPlace 29 [(0, vr 0), (1, vi (x.1 0 8)), (2, vi e)] [] z (ri F) := by
    intro z e rz lz cz bz okz
    have pz := rz.2.1
    have mono := rz.2.2.2.2.1
    rw [e13] at mono
    have hn : vp_in (z.1 0 13) 3000 := cr_nv pz (by omega) (by omega)
    refine sg_readPlace_29 _ _ (sp_node _ _ _ _ _ hn (fun w hw => ri_i (hF _ _ ?_)))
    obtain ⟨r1, q1⟩ := RP_nE pz hn hw
    have cw := cr_nE pz hn hw
    have f8 : w.1 0 8 = z.1 0 8 := hw.1.1 8 (by decide)
    have f9 : w.1 0 9 = z.1 0 9 := hw.1.1 9 (by decide)
    have f20 : w.1 0 20 = z.1 0 20 := hw.1.1 20 (by decide)
    have f21 : w.1 0 21 = z.1 0 21 := hw.1.1 21 (by decide)
    refine ⟨RP_tr (RP_tr ry rz) r1, by rw [f21, lz, e21], by omega, fun q => by have := bz q; omega, (vp_in_iff.mp hn).1, fun q => ?_⟩
    rw [f9] at q
    obtain ⟨o1, o2, o3⟩ := okz q
    have by0 := rz.2.2.2.1 q
    have st := hst by0
    have cy2 := cy.2 by0 st
    have le := rz.2.2.1
    rw [f8]
    refine ⟨ry.2.2.2.1 by0, by rw [f20, o1, e20], by omega, by omega, ?_⟩
    obtain ⟨g1, g2, g3, g4, g5, -⟩ := nE_at hw
    refine ⟨⟨(vp_in_iff.mp hn).1, by omega⟩, by rw [g5]; exact PN_v pn, ?_⟩
    rw [g2]
    rcases o3 with o3 | o3
    · exact Or.inl o3
    · exact Or.inr (vE_mono _ _ _ _ _ _ _ (by omega) (by omega) (Nat.le_refl _) (vE_RP r1 o3))
  refine sp_take _ hs.2.1 ⟨fun _ => p29 y (-1) (RP_rf hs.2.1) rfl (by omega) (fun _ => by omega) (fun _ => ⟨rfl, by omega, Or.inl rfl⟩), fun q => absurd rfl q⟩ (fun y2 hb2 hs2 hst2 => ⟨fun q => absurd q (by decide), fun _ => ?_⟩)
  have e13' : y2.1 0 13 = y.1 0 13 := hs2.1.1 13 (by decide)
  have e20' : y2.1 0 20 = y.1 0 20 := hs2.1.1 20 (by decide)
  have e21' : y2.1 0 21 = y.1 0 21 := hs2.1.1 21 (by decide)
  have cy2 := (cr_ss hs2).1
  have x0 := hs.2.2.2.2 hb2
  have nx := nst x0
  refine sp_E k (g := -900) _ _ (by omega) ⟨hs2.2.1, by rw [e13', e13]; exact n0, by omega, k16, fun _ => ⟨by rw [e20', e20]; exact nx.1, by omega⟩⟩ (fun r y3 h3 => ?_)
  obtain ⟨r3, l3, c3, b3, rr3, ok3⟩ := h3
  refine sp_pass _ r3.2.1 (fun y4 hs4 hst4 => ?_)
  have cy4 := (cr_ss hs4).1
  have e20'' : y4.1 0 20 = y3.1 0 20 := hs4.1.1 20 (by decide)
  have e21'' : y4.1 0 21 = y3.1 0 21 := hs4.1.1 21 (by decide)
  refine p29 y4 r (RP_tr (RP_tr (RP_ss hs2) r3) (RP_ss hs4)) (by rw [e21'', l3, e21']) (by omega) (fun q => by omega) (fun q => ?_)
  have b3 := hs4.2.2.2.2 q
  obtain ⟨o1, o2, o3, o4⟩ := ok3 b3
  have le2 := hs2.2.2.1
  have le4 := hs4.2.2.1
  exact ⟨by rw [e20'', o1, e20'], by omega, Or.inr (vE_mono _ _ _ _ _ _ _ (by omega) (by omega) (Nat.le_refl _) (vE_RP (RP_ss hs4) o4))⟩
