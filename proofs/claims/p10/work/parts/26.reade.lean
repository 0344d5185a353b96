def SpE (k : Nat) : Prop := ∀ (G : mG) (D : Nat) (x : gd) (F : Int32 → gd → Prop) (th o : Int32) (s : Int), 2 * k + 8 ≤ D → PreE k s x → (∀ r x', PE k s x r x' → F r x') → MT G D z_readE 0 [(0, vr 0), (1, vi th), (2, vi o)] [] x (ri F)
/-- what an operand leaves, or an expression before its end -/
def PO (k : Nat) (s : Int) (x : gd) (r : Int32) (x' : gd) : Prop := RP x x' ∧ x'.1 0 21 = x.1 0 21 ∧ (x'.1 0 13).toInt ≤ 2 * (x'.1 0 8).toInt + s + 3 * (k + 1) + 1 ∧ 0 ≤ r.toInt ∧ ((x'.1 0 9).toInt = 0 → x'.1 0 20 = x.1 0 20 ∧ (x.1 0 8).toInt + 1 ≤ (x'.1 0 8).toInt ∧ (x'.1 0 13).toInt + 1 ≤ 2 * (x'.1 0 8).toInt + s ∧ vE x' ((x'.1 0 8).toInt - (x.1 0 8).toInt).toNat ((x'.1 0 8).toInt - (x.1 0 8).toInt).toNat (k + 2) r)
theorem nv {x : gd} {m : Int} (h0 : 0 ≤ (x.1 0 13).toInt) (h : (x.1 0 13).toInt ≤ m) (hm : m ≤ 2900) : vp_in (x.1 0 13) 3000 := by
  rw [vp_in_iff]; omega
/-- a leaf: one token, one node -/
theorem leafPO {k : Nat} {s : Int} {x y z : gd} {w a b c t : Int32} (hx : PN x) (n0 : 0 ≤ (x.1 0 13).toInt) (nb : (x.1 0 13).toInt ≤ 2 * (x.1 0 8).toInt + s) (sl : s + 3 * (k + 1) ≤ 400) (h1 : RP x y) (m1 : md [8, 9, 10] [] x y) (hst : (y.1 0 9).toInt = 0 → (x.1 0 8).toInt + 1 ≤ (y.1 0 8).toInt) (h2 : nE y z w a b c t) (ht : vp_in t 710) (hw : (w = 1 ∨ w = 2 ∨ w = 3) ∨ (w = 4 ∧ vp_in a 710)) : PO k s x (y.1 0 13) z := by
  have py := h1.2.1
  have e13 : y.1 0 13 = x.1 0 13 := m1.1 13 (by decide)
  have e20 : y.1 0 20 = x.1 0 20 := m1.1 20 (by decide)
  have e21 : y.1 0 21 = x.1 0 21 := m1.1 21 (by decide)
  have le8 := h1.2.2.1
  have hy2 := py.2.1
  have hn : vp_in (y.1 0 13) 3000 := by rw [e13]; exact nv n0 nb (by have := hx.2.1; omega)
  obtain ⟨r1, q1⟩ := RP_nE py hn h2
  have f8 : z.1 0 8 = y.1 0 8 := h2.1.1 8 (by decide)
  have f9 : z.1 0 9 = y.1 0 9 := h2.1.1 9 (by decide)
  have f20 : z.1 0 20 = y.1 0 20 := h2.1.1 20 (by decide)
  have f21 : z.1 0 21 = y.1 0 21 := h2.1.1 21 (by decide)
  rw [e13] at q1
  refine ⟨RP_tr h1 r1, by rw [f21, e21], by rw [f8]; omega, by rw [e13]; exact n0, fun hb => ?_⟩
  rw [f9] at hb
  have st := hst hb
  rw [f8]
  refine ⟨by rw [f20, e20], st, by omega, vE_leaf py hn h2 ht hw (by omega) (by omega) (by omega)⟩
/-- readOperand, the expressions in parentheses being known -/
theorem sp_readOperand (k : Nat) (ih : SpE k) {G : mG} {D : Nat} {x : gd} {F : Int32 → gd → Prop} (o : Int32) (s : Int) (hD : 2 * k + 9 ≤ D) (hpre : PreE k s x) (hb : (x.1 0 9).toInt = 0) (hF : ∀ r x', PO k s x r x' → F r x') : MT G D z_readOperand 0 [(0, vr 0), (1, vi o)] [] x (ri F) := by
  obtain ⟨D, rfl⟩ : ∃ m, D = m + 9 := ⟨D - 9, by omega⟩
  obtain ⟨pn, n0, nb, sl, k16, nst⟩ := id hpre
  have p2 := pn.2.1
  have hnx : vp_in (x.1 0 13) 3000 := nv n0 nb (by omega)
  have leaf1 : ∀ (w a b c : Int32) (y : gd), SS x y → ((y.1 0 9).toInt = 0 → (y.1 0 8).toInt = (x.1 0 8).toInt + 1) → (w = 1 ∨ w = 2 ∨ w = 3) → MT G (D + 8) z_node 0 [(0, vr 0), (1, vi w), (2, vi a), (3, vi b), (4, vi c), (5, vi (x.1 0 8))] [] y (ri (fun r z => ri F (some (vi r)) z)) := by
    intro w a b c y hs hst hw
    have e13 : y.1 0 13 = x.1 0 13 := hs.1.1 13 (by decide)
    exact sp_node _ _ _ _ _ (by rw [e13]; exact hnx) (fun z hz => ri_i (hF _ _ (leafPO pn n0 nb sl (RP_ss hs) hs.1 (fun q => by have := hst q; omega) hz (PN_v pn) (Or.inl hw))))
  refine sg_readOperand_0 _ (sp_here pn (fun r _ _ => ⟨fun _ => ?_, fun _ => ?_, fun _ => ?_, fun _ => ?_⟩))
  · exact sp_step pn (fun y hs hst => ⟨PN_v pn, leaf1 1 _ _ _ y hs hst (Or.inl rfl)⟩)
  · exact sp_step pn (fun y hs hst => leaf1 2 _ _ _ y hs hst (Or.inr (Or.inl rfl)))
  · refine sp_step pn (fun y hs hst => ?_)
    have e13 : y.1 0 13 = x.1 0 13 := hs.1.1 13 (by decide)
    have e20 : y.1 0 20 = x.1 0 20 := hs.1.1 20 (by decide)
    have e21 : y.1 0 21 = x.1 0 21 := hs.1.1 21 (by decide)
    have le8 := hs.2.2.1
    have py := hs.2.1
    have py2 := py.2.1
    have n0y : 0 ≤ (y.1 0 13).toInt := by rw [e13]; exact n0
    obtain ⟨s1, g1, g2, g3⟩ : ∃ s1 : Int, s1 ≤ s ∧ ((y.1 0 9).toInt = 0 → s1 = s - 2) ∧ (y.1 0 13).toInt ≤ 2 * (y.1 0 8).toInt + s1 := by
      by_cases q : (y.1 0 9).toInt = 0
      · exact ⟨s - 2, by omega, fun _ => rfl, by rw [e13]; have := hst q; omega⟩
      · exact ⟨s, by omega, fun z => absurd z q, by rw [e13]; omega⟩
    refine ih G (D + 8) y _ 0 o s1 (by omega) ⟨py, by rw [e13]; exact n0, g3, by omega, k16, fun q => by rw [e20]; exact nst hb⟩ (fun r3 y2 h2 => ?_)
    obtain ⟨rp2, l2, nb2, rr2, ok2⟩ := h2
    refine sp_pass _ rp2.2.1 (fun y3 hs3 hst3 => ⟨fun _ => ?_, fun hneg => ?_⟩)
    · have e13' : y3.1 0 13 = y2.1 0 13 := hs3.1.1 13 (by decide)
      have e20' : y3.1 0 20 = y2.1 0 20 := hs3.1.1 20 (by decide)
      have e21' : y3.1 0 21 = y2.1 0 21 := hs3.1.1 21 (by decide)
      have p32 := hs3.2.1.2.1
      have p22 := rp2.2.1.2.1
      have mono := rp2.2.2.2.2.1
      have le83 := hs3.2.2.1
      have le82 := rp2.2.2.1
      have hn3 : vp_in (y3.1 0 13) 3000 := by rw [vp_in_iff, e13']; omega
      refine sp_node _ _ _ _ _ hn3 (fun z hz => ri_i (hF _ _ ?_))
      obtain ⟨r1, q1⟩ := RP_nE hs3.2.1 hn3 hz
      have f8 : z.1 0 8 = y3.1 0 8 := hz.1.1 8 (by decide)
      have f9 : z.1 0 9 = y3.1 0 9 := hz.1.1 9 (by decide)
      have f20 : z.1 0 20 = y3.1 0 20 := hz.1.1 20 (by decide)
      have f21 : z.1 0 21 = y3.1 0 21 := hz.1.1 21 (by decide)
      rw [e13'] at q1
      refine ⟨RP_tr (RP_tr (RP_tr (RP_ss hs) rp2) (RP_ss hs3)) r1, by rw [f21, e21', l2, e21], by rw [f8]; omega, by rw [e13']; omega, fun q => ?_⟩
      rw [f9] at q
      have b2 := hs3.2.2.2.2 q
      have by0 := rp2.2.2.2.1 b2
      obtain ⟨o1, o2, o3, o4⟩ := ok2 b2
      have st1 := hst by0
      have st3 := hst3 q
      have es1 := g2 by0
      rw [f8]
      refine ⟨by rw [f20, e20', o1, e20], by omega, by omega, ?_⟩
      have v3 := vE_RP (RP_ss hs3) o4
      have v4 := vE_one hs3.2.1 hn3 hz (PN_v pn) v3
      exact vE_mono _ _ _ _ _ _ _ (by omega) (by omega) (by omega) v4
    · exfalso
      have k0 : (0 : Int32).toInt = 0 := rfl
      rw [t_le, k0] at hneg
      omega
  · refine sp_pass _ pn (fun y hs hst => ?_)
    have p159 : ∀ z, RP x z → md [8, 9, 10] [] x z → ((z.1 0 9).toInt = 0 → (x.1 0 8).toInt + 1 ≤ (z.1 0 8).toInt) → MT G (D + 9) z_readOperand 159 [(0, vr 0), (2, vi (x.1 0 8))] [] z (ri F) := by
      intro z rz mz hz
      have e13 : z.1 0 13 = x.1 0 13 := mz.1 13 (by decide)
      exact sg_readOperand_159 _ (sp_node _ _ _ _ _ (by rw [e13]; exact hnx) (fun z2 hz2 => ri_i (hF _ _ (leafPO pn n0 nb sl rz mz hz hz2 (PN_v pn) (Or.inl (Or.inr (Or.inr rfl)))))))
    have hy1 : (y.1 0 9).toInt = 0 → (x.1 0 8).toInt + 1 ≤ (y.1 0 8).toInt := fun q => by have := hst q; omega
    refine ⟨fun _ => p159 y (RP_ss hs) hs.1 hy1, fun _ => sp_take _ hs.2.1 ⟨fun _ => p159 y (RP_ss hs) hs.1 hy1, fun q => absurd rfl q⟩ (fun y2 hb2 hs2 hst2 => ⟨fun q => absurd q (by decide), fun _ => ?_⟩)⟩
    refine sp_pass _ hs2.2.1 (fun y3 hs3 hst3 => sp_pass _ hs3.2.1 (fun y4 hs4 hst4 => ?_))
    have ss : SS x y4 := SS_tr (SS_tr (SS_tr hs hs2) hs3) hs4
    have e13 : y4.1 0 13 = x.1 0 13 := ss.1.1 13 (by decide)
    refine sp_node _ _ _ _ _ (by rw [e13]; exact hnx) (fun z hz => ri_i (hF _ _ (leafPO pn n0 nb sl (RP_ss ss) ss.1 (fun q => ?_) hz (PN_v pn) (Or.inr ⟨rfl, PN_v hs2.2.1⟩))))
    have l1 := hy1 hb2
    have l2 := hs2.2.2.1
    have l3 := hs3.2.2.1
    have l4 := hs4.2.2.1
    omega

/-- readE at a level, the deeper ones being known -/
theorem readE_step (k : Nat) (ih : ∀ k', k = k' + 1 → SpE k') : SpE k := by
  intro G D x F th o s hD hpre hF
  obtain ⟨D, rfl⟩ : ∃ m, D = m + 8 := ⟨D - 8, by omega⟩
  obtain ⟨pn, n0, nb, sl, k16, nst⟩ := id hpre
  have k0 : (0 : Int32).toInt = 0 := rfl
  have k1 : (1 : Int32).toInt = 1 := rfl
  have p1 := pn.1
  have p2 := pn.2.1
  have p3 := pn.2.2.1
  -- nothing but a fault since the beginning
  have stop : ∀ z, md [9, 10, 20] [] x z → PN z → 0 < (z.1 0 9).toInt → F 0 z := by
    intro z mz pz hz
    have e8 : z.1 0 8 = x.1 0 8 := mz.1 8 (by decide)
    have e13 : z.1 0 13 = x.1 0 13 := mz.1 13 (by decide)
    exact hF 0 z ⟨RP_9 mz pz (fun q => by omega), mz.1 21 (by decide), by rw [e13, e8]; omega, by decide, fun q => by omega⟩
  have p24 : ∀ z, md [9, 10] [] x z → PN z → ((z.1 0 9).toInt = 0 → (x.1 0 9).toInt = 0) → MT G (D + 8) z_readE 24 [(0, vr 0), (1, vi th), (2, vi o)] [] z (ri F) := by
    intro z mz pz bz
    refine sg_readE_24 _ _ ⟨fun c => ri_i (stop z (md_w mz (by decide) (by decide)) pz (by rw [t_lt, k0] at c; exact c)), fun c => ?_⟩
    have z3 := pz.2.2.1
    have b0 : (z.1 0 9).toInt = 0 := by rw [t_lt, k0] at c; omega
    have e20 : z.1 0 20 = x.1 0 20 := mz.1 20 (by decide)
    have nz : (z.1 0 20).toInt = 16 - k := by rw [e20]; exact nst (bz b0)
    refine sp_deeper pz b0 (by omega) (by omega) (fun x2 m2 q2 b2 => ⟨fun q => absurd rfl q, fun _ => ri_i (stop x2 (md_tr mz m2 rfl rfl) q2 b2)⟩) (fun x2 m2 l16 n2 => ⟨fun _ => ?_, fun q => absurd q (by decide)⟩)
    obtain ⟨k', rfl⟩ : ∃ k', k = k' + 1 := ⟨k - 1, by omega⟩
    have ihk := ih k' rfl
    have mx2 : md [9, 10, 20] [] x x2 := md_tr mz m2 rfl rfl
    have a8 : x2.1 0 8 = x.1 0 8 := mx2.1 8 (by decide)
    have a9 : x2.1 0 9 = z.1 0 9 := m2.1 9 (by decide)
    have a13 : x2.1 0 13 = x.1 0 13 := mx2.1 13 (by decide)
    have a21 : x2.1 0 21 = x.1 0 21 := mx2.1 21 (by decide)
    have n0x2 : 0 ≤ (x2.1 0 13).toInt := by rw [a13]; exact n0
    have px2 : PN x2 := ⟨by rw [a8]; exact p1, by rw [a8]; exact p2, by rw [a9]; exact z3, TX_md m2 (by decide) (by decide) (by decide) (by decide) pz.2.2.2⟩
    have rx2 : RP x x2 := RP_9 mx2 px2 (fun _ => bz b0)
    have bx2 : (x2.1 0 9).toInt = 0 := by rw [a9]; exact b0
    have nx2 : (x2.1 0 20).toInt = 16 - k' := by omega
    have p103 : ∀ (n : Nat) (w : gd) (e : Int32), PO k' s x2 e w → 700 - (w.1 0 8).toInt ≤ n → MT G (D + 8) z_readE 103 [(0, vr 0), (1, vi th), (2, vi o), (3, vi e)] [] w (ri F) := by
      have fin : ∀ (w : gd) (e : Int32), PO k' s x2 e w → ∀ w2 : gd, w2 = si w 0 20 (w.1 0 20 - 1) → ri F (some (vi e)) w2 := by
        intro w e hw w2 e2
        obtain ⟨rw1, lw, nbw, rw0, okw⟩ := hw
        have m9 := md_f w 20 (w.1 0 20 - 1)
        rw [← e2] at m9
        have c8 : w2.1 0 8 = w.1 0 8 := m9.1 8 (by decide)
        have c9 : w2.1 0 9 = w.1 0 9 := m9.1 9 (by decide)
        have c13 : w2.1 0 13 = w.1 0 13 := m9.1 13 (by decide)
        have c21 : w2.1 0 21 = w.1 0 21 := m9.1 21 (by decide)
        have pw := rw1.2.1
        have rw2 : RP w w2 := RP_9 (md_w m9 (by decide) (by decide)) ⟨by rw [c8]; exact pw.1, by rw [c8]; exact pw.2.1, by rw [c9]; exact pw.2.2.1, TX_md m9 (by decide) (by decide) (by decide) (by decide) pw.2.2.2⟩ (fun q => by rw [← c9]; exact q)
        refine ri_i (hF e w2 ⟨RP_tr rx2 (RP_tr rw1 rw2), by rw [c21, lw, a21], by rw [c13, c8]; omega, rw0, fun q => ?_⟩)
        rw [c9] at q
        obtain ⟨o1, o2, o3, o4⟩ := okw q
        rw [c8, c13]
        rw [a8] at o2 o4
        refine ⟨?_, o2, o3, vE_RP rw2 o4⟩
        rw [t_eq, e2, si_get, if_pos ⟨rfl, rfl⟩, o1, t_sub (by omega) (by omega), k1]
        have := nst (bz b0)
        omega
      have body : ∀ (w : gd) (e : Int32), PO k' s x2 e w → (∀ (w' : gd) (e' : Int32), PO k' s x2 e' w' → ((w'.1 0 9).toInt = 0 → (w.1 0 8).toInt + 1 ≤ (w'.1 0 8).toInt) → MT G (D + 8) z_readE 103 [(0, vr 0), (1, vi th), (2, vi o), (3, vi e')] [] w' (ri F)) → MT G (D + 8) z_readE 103 [(0, vr 0), (1, vi th), (2, vi o), (3, vi e)] [] w (ri F) := by
        intro w e hw next
        refine sg_readE_103 _ _ _ ⟨fun _ x9 e9 => fin w e hw x9 e9, fun cb => ?_⟩
        have cb0 : (w.1 0 9).toInt = 0 := by rw [cb]; rfl
        obtain ⟨rw1, lw, nbw, rw0, okw⟩ := id hw
        obtain ⟨o1, o2, o3, o4⟩ := okw cb0
        have pw := rw1.2.1
        have pw2 := pw.2.1
        refine sp_here pw (fun r _ _ => sp_strength _ (fun r6 _ _ => ⟨fun _ x9 e9 => fin w e hw x9 e9, fun _ => sp_step pw (fun w1 hs hst => ⟨PN_v pw, sp_strength _ (fun r12 _ _ => ?_)⟩)⟩))
        have e13 : w1.1 0 13 = w.1 0 13 := hs.1.1 13 (by decide)
        have e20 : w1.1 0 20 = w.1 0 20 := hs.1.1 20 (by decide)
        have e21 : w1.1 0 21 = w.1 0 21 := hs.1.1 21 (by decide)
        have le8 := hs.2.2.1
        have q2 := hs.2.1.2.1
        have mono0 := rw1.2.2.2.2.1
        have n0w1 : 0 ≤ (w1.1 0 13).toInt := by rw [e13]; omega
        obtain ⟨s1, g1, g2, g3⟩ : ∃ s1 : Int, s1 ≤ s ∧ ((w1.1 0 9).toInt = 0 → s1 = s - 3) ∧ (w1.1 0 13).toInt ≤ 2 * (w1.1 0 8).toInt + s1 := by
          by_cases q : (w1.1 0 9).toInt = 0
          · exact ⟨s - 3, by omega, fun _ => rfl, by rw [e13]; have := hst q; omega⟩
          · exact ⟨s, by omega, fun z => absurd z q, by rw [e13]; omega⟩
        refine ihk G (D + 7) w1 _ r12 o s1 (by omega) ⟨hs.2.1, by rw [e13]; omega, g3, by omega, by omega, fun q => by rw [e20, o1]; exact nx2⟩ (fun r14 y2 h2 => ⟨PN_v pw, ?_⟩)
        obtain ⟨rp2, l2, nb2, rr2, ok2⟩ := h2
        have p22 := rp2.2.1.2.1
        have mono := rp2.2.2.2.2.1
        have le82 := rp2.2.2.1
        have hn3 : vp_in (y2.1 0 13) 3000 := by rw [vp_in_iff]; omega
        refine sp_node _ _ _ _ _ hn3 (fun z hz => next z _ ?_ (fun q => ?_))
        · obtain ⟨r1, q1⟩ := RP_nE rp2.2.1 hn3 hz
          have f8 : z.1 0 8 = y2.1 0 8 := hz.1.1 8 (by decide)
          have f9 : z.1 0 9 = y2.1 0 9 := hz.1.1 9 (by decide)
          have f20 : z.1 0 20 = y2.1 0 20 := hz.1.1 20 (by decide)
          have f21 : z.1 0 21 = y2.1 0 21 := hz.1.1 21 (by decide)
          refine ⟨RP_tr (RP_tr (RP_tr rw1 (RP_ss hs)) rp2) r1, by rw [f21, l2, e21, lw], by rw [f8]; omega, (vp_in_iff.mp hn3).1, fun q => ?_⟩
          rw [f9] at q
          have by0 := rp2.2.2.2.1 q
          obtain ⟨u1, u2, u3, u4⟩ := ok2 q
          have st1 := hst by0
          have es1 := g2 by0
          rw [f8]
          refine ⟨by rw [f20, u1, e20, o1], by omega, by omega, ?_⟩
          have v1 := vE_RP rp2 (vE_RP (RP_ss hs) o4)
          have v2 := vE_mono _ (((w.1 0 8).toInt - (x2.1 0 8).toInt).toNat + ((y2.1 0 8).toInt - (w1.1 0 8).toInt).toNat) _ _ _ _ _ (by omega) (Nat.le_refl _) (Nat.le_refl _) v1
          have v3 := vE_mono _ (((w.1 0 8).toInt - (x2.1 0 8).toInt).toNat + ((y2.1 0 8).toInt - (w1.1 0 8).toInt).toNat) _ _ _ _ _ (by omega) (Nat.le_refl _) (Nat.le_refl _) u4
          exact vE_mono _ _ _ _ _ _ _ (by omega) (by omega) (Nat.le_refl _) (vE_two rp2.2.1 hn3 hz (PN_v pw) v2 v3)
        · have f8 : z.1 0 8 = y2.1 0 8 := hz.1.1 8 (by decide)
          have f9 : z.1 0 9 = y2.1 0 9 := hz.1.1 9 (by decide)
          rw [f9] at q
          have by0 := rp2.2.2.2.1 q
          have st1 := hst by0
          rw [f8]
          omega
      have exit : ∀ (w : gd) (e : Int32), PO k' s x2 e w → ¬ (w.1 0 9).toInt = 0 → MT G (D + 8) z_readE 103 [(0, vr 0), (1, vi th), (2, vi o), (3, vi e)] [] w (ri F) := by
        intro w e hw hb
        refine sg_readE_103 _ _ _ ⟨fun _ x9 e9 => fin w e hw x9 e9, fun cb => ?_⟩
        rw [t_eq, k0] at cb
        exact absurd cb hb
      intro n
      induction n with
      | zero =>
        intro w e hw hn
        refine body w e hw (fun w' e' hw' hp' => exit w' e' hw' (fun q => ?_))
        have := hp' q
        have := hw'.1.2.1.2.1
        omega
      | succ n ihn =>
        intro w e hw hn
        refine body w e hw (fun w' e' hw' hp' => ?_)
        by_cases q : (w'.1 0 9).toInt = 0
        · exact ihn w' e' hw' (by have := hp' q; omega)
        · exact exit w' e' hw' q
    have pre2 : PreE k' s x2 := ⟨px2, by rw [a13]; exact n0, by rw [a13, a8]; exact nb, by omega, by omega, fun _ => nx2⟩
    have p64 : MT G (D + 8) z_readE 64 [(0, vr 0), (1, vi th), (2, vi o), (4, vi (x2.1 0 8))] [] x2 (ri F) := by
      refine sg_readE_64 _ _ _ (sp_step px2 (fun y hs hst => ?_))
      have e13 : y.1 0 13 = x2.1 0 13 := hs.1.1 13 (by decide)
      have e20 : y.1 0 20 = x2.1 0 20 := hs.1.1 20 (by decide)
      have e21 : y.1 0 21 = x2.1 0 21 := hs.1.1 21 (by decide)
      have le8 := hs.2.2.1
      have py2 := hs.2.1.2.1
      have pp2 := px2.2.1
      obtain ⟨s1, g1, g2, g3⟩ : ∃ s1 : Int, s1 ≤ s ∧ ((y.1 0 9).toInt = 0 → s1 = s - 2) ∧ (y.1 0 13).toInt ≤ 2 * (y.1 0 8).toInt + s1 := by
        by_cases q : (y.1 0 9).toInt = 0
        · exact ⟨s - 2, by omega, fun _ => rfl, by rw [e13, a13]; have := hst q; rw [a8] at this; omega⟩
        · exact ⟨s, by omega, fun z => absurd z q, by rw [e13, a13]; rw [a8] at le8; omega⟩
      refine ihk G (D + 7) y _ 5 o s1 (by omega) ⟨hs.2.1, by rw [e13, a13]; exact n0, g3, by omega, by omega, fun q => by rw [e20]; exact nx2⟩ (fun r3 y2 h2 => ⟨PN_v px2, ?_⟩)
      obtain ⟨rp2, l2, nb2, rr2, ok2⟩ := h2
      have p22 := rp2.2.1.2.1
      have mono := rp2.2.2.2.2.1
      have le82 := rp2.2.2.1
      have hn3 : vp_in (y2.1 0 13) 3000 := by rw [vp_in_iff]; rw [e13, a13] at mono; omega
      refine sp_node _ _ _ _ _ hn3 (fun z hz => p103 _ z _ ?_ (Int.self_le_toNat _))
      obtain ⟨r1, q1⟩ := RP_nE rp2.2.1 hn3 hz
      have f8 : z.1 0 8 = y2.1 0 8 := hz.1.1 8 (by decide)
      have f9 : z.1 0 9 = y2.1 0 9 := hz.1.1 9 (by decide)
      have f20 : z.1 0 20 = y2.1 0 20 := hz.1.1 20 (by decide)
      have f21 : z.1 0 21 = y2.1 0 21 := hz.1.1 21 (by decide)
      refine ⟨RP_tr (RP_tr (RP_ss hs) rp2) r1, by rw [f21, l2, e21], by rw [f8]; omega, (vp_in_iff.mp hn3).1, fun q => ?_⟩
      rw [f9] at q
      have by0 := rp2.2.2.2.1 q
      obtain ⟨u1, u2, u3, u4⟩ := ok2 q
      have st1 := hst by0
      have es1 := g2 by0
      rw [f8]
      refine ⟨by rw [f20, u1, e20], by omega, by omega, ?_⟩
      exact vE_mono _ _ _ _ _ _ _ (by omega) (by omega) (by omega) (vE_one rp2.2.1 hn3 hz (PN_v px2) u4)
    refine sp_here px2 (fun r6 _ _ => ⟨fun _ => p64, fun _ => sp_here px2 (fun r9 _ _ => ⟨fun _ => ?_, fun _ => p64⟩)⟩)
    exact sp_readOperand k' ihk o s (by omega) pre2 bx2 (fun r w hw => p103 _ w r hw (Int.self_le_toNat _))
  refine sg_readE_0 _ _ ⟨fun _ => p24 x (md_w (md_rf x) (by decide) (by decide)) pn (fun q => q), fun _ => sp_beginsE _ pn (fun r3 _ => ⟨fun _ => p24 x (md_w (md_rf x) (by decide) (by decide)) pn (fun q => q), fun _ => sp_fault _ _ (by decide) (PN_v pn) pn (fun x5 hs hb e8 m5 => p24 x5 m5 hs.2.1 hs.2.2.2.2)⟩)⟩
theorem sp_readE (k : Nat) : SpE k := by
  induction k with
  | zero => exact readE_step 0 (fun k' q => by omega)
  | succ k ih =>
    refine readE_step (k + 1) (fun k' q => ?_)
    have e : k' = k := by omega
    rw [e]
    exact ih
