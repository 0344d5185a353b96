/-! readE: what it reads -/
theorem vV_leaf {x x' : gd} {w a b c t : Int32} {o : Bool} {M : gU} (hp : PN x) (hn : vp_in (x.1 0 13) 3000) (h : nE x x' w a b c t) (hw : (w = 1 ∧ M = [(52, t.toNatClampNeg, 0)] ∧ a = x.1 7 t.toNatClampNeg) ∨ (w = 2 ∧ M = [(53, t.toNatClampNeg, 0)]) ∨ (w = 3 ∧ M = [(if o = true then 6 else 3, t.toNatClampNeg, 0)]) ∨ (w = 4 ∧ M = [(7, t.toNatClampNeg, 0), (12, a.toNatClampNeg, t.toNatClampNeg)] ∧ o = true)) : vV x' o 1 (x.1 0 13) M := by
  have hv := vp_in_iff.mp hn
  obtain ⟨-, q1⟩ := RP_nE hp hn h
  obtain ⟨g1, g2, g3, g4, g5, -⟩ := nE_at h
  have e7 : x'.1 7 = x.1 7 := h.1.2.1 7 (by decide) (by decide)
  refine ⟨⟨hv.1, by omega⟩, ?_⟩
  rw [g1, g2, g5, e7]
  rcases hw with q | q | q | q
  · exact Or.inl q
  · exact Or.inr (Or.inl q)
  · exact Or.inr (Or.inr (Or.inl q))
  · exact Or.inr (Or.inr (Or.inr (Or.inl q)))
theorem vV_one {x x' : gd} {a b c t : Int32} {o : Bool} {n : Nat} {M M1 : gU} (hp : PN x) (hn : vp_in (x.1 0 13) 3000) (h : nE x x' 5 a b c t) (hb : vV x o n b M1) (hM : (a = 61 ∧ M = M1) ∨ (¬ a = 61 ∧ a = x.1 5 t.toNatClampNeg ∧ M = M1 ++ [(50, t.toNatClampNeg, 0)])) : vV x' o (n + 1) (x.1 0 13) M := by
  have hv := vp_in_iff.mp hn
  obtain ⟨r1, q1⟩ := RP_nE hp hn h
  obtain ⟨g1, g2, g3, g4, g5, -⟩ := nE_at h
  have e5 : x'.1 5 = x.1 5 := h.1.2.1 5 (by decide) (by decide)
  refine ⟨⟨hv.1, by omega⟩, Or.inr (Or.inr (Or.inr (Or.inr (Or.inl ⟨g1, M1, ?_, ?_⟩))))⟩
  · rw [g3]; exact vV_RP r1 hb
  · rw [g2, g5, e5]; exact hM
theorem vV_two {x x' : gd} {a b c t : Int32} {o : Bool} {n : Nat} {M1 M2 : gU} (hp : PN x) (hn : vp_in (x.1 0 13) 3000) (h : nE x x' 6 a b c t) (hb : vV x o n b M1) (hc : vV x o n c M2) (ha : a = x.1 5 t.toNatClampNeg) : vV x' o (n + 1) (x.1 0 13) (M1 ++ (M2 ++ [(51, t.toNatClampNeg, 0)])) := by
  have hv := vp_in_iff.mp hn
  obtain ⟨r1, q1⟩ := RP_nE hp hn h
  obtain ⟨g1, g2, g3, g4, g5, -⟩ := nE_at h
  have e5 : x'.1 5 = x.1 5 := h.1.2.1 5 (by decide) (by decide)
  refine ⟨⟨hv.1, by omega⟩, Or.inr (Or.inr (Or.inr (Or.inr (Or.inr ⟨g1, M1, M2, ?_, ?_, ?_, ?_⟩))))⟩
  · rw [g3]; exact vV_RP r1 hb
  · rw [g4]; exact vV_RP r1 hc
  · rw [g2, g5, e5]; exact ha
  · rw [g5]
section PO
variable {rE : Nat → Nat → gU → gOp} {K : Nat → Int32} {o : Bool} {i : Nat} {L : gU}
theorem pO_w (h : K i = 2) : pO rE K o i L = (ps1 i).map (fun j => (j, L ++ [(52, i, 0)])) := by
  unfold pO ps1
  by_cases q : i < 700
  · rw [if_neg (by omega), if_pos h, if_pos q]; rfl
  · rw [if_pos (by omega), if_neg q]; rfl
theorem pO_s (h : K i = 32) : pO rE K o i L = (ps1 i).map (fun j => (j, L ++ [(53, i, 0)])) := by
  unfold pO ps1
  by_cases q : i < 700
  · rw [if_neg (by omega), if_neg (by rw [h]; decide), if_pos h, if_pos q]; rfl
  · rw [if_pos (by omega), if_neg q]; rfl
theorem pO_p (h : K i = 61) : pO rE K o i L = (ps1 i).bind (fun j => (rE 0 j L).bind (pt K 62)) := by
  unfold pO ps1
  by_cases q : i < 700
  · rw [if_neg (by omega), if_neg (by rw [h]; decide), if_neg (by rw [h]; decide), if_pos h, if_pos q]; rfl
  · rw [if_pos (by omega), if_neg q]; rfl
theorem pO_n (h2 : ¬ K i = 2) (h3 : ¬ K i = 32) (h6 : ¬ K i = 61) (ho : o = false) : pO rE K o i L = (psw K 1 i).map (fun j => (j, L ++ [(3, i, 0)])) := by
  subst ho
  unfold pO psw
  by_cases q : i < 700
  · rw [if_neg (by omega), if_neg h2, if_neg h3, if_neg h6]
    by_cases c : K i = 1
    · rw [if_pos c, if_neg (by decide), if_pos ⟨c, q⟩]; rfl
    · rw [if_neg c, if_neg (fun z => c z.1)]; rfl
  · rw [if_pos (by omega), if_neg (fun z => q z.2)]; rfl
theorem pO_o (h2 : ¬ K i = 2) (h3 : ¬ K i = 32) (h6 : ¬ K i = 61) (ho : o = true) : pO rE K o i L = (psw K 1 i).bind (fun j => if K j = 65 then (((ps1 j).bind (psw K 2)).bind (psw K 66)).map (fun j => (j, L ++ [(7, i, 0), (12, i + 2, i)])) else some (j, L ++ [(6, i, 0)])) := by
  subst ho
  unfold pO
  by_cases q : i < 700
  · rw [if_neg (by omega), if_neg h2, if_neg h3, if_neg h6]
    by_cases c : K i = 1
    · rw [if_pos c, if_pos rfl, psw, if_pos (show K i = 1 ∧ i < 700 from ⟨c, q⟩), Option.bind_some]
      by_cases b : K (i + 1) = 65
      · rw [if_pos b, if_pos b, ps1]
        by_cases q1 : i + 1 < 700
        · rw [if_pos q1, Option.bind_some, psw]
          by_cases q2 : K (i + 1 + 1) = 2 ∧ i + 1 + 1 < 700
          · rw [if_pos q2, Option.bind_some, psw]
            by_cases q3 : K (i + 1 + 1 + 1) = 66 ∧ i + 1 + 1 + 1 < 700
            · rw [if_pos q3, if_pos ⟨q1, q2, q3⟩]; rfl
            · rw [if_neg q3, if_neg (fun z => q3 z.2.2)]; rfl
          · rw [if_neg q2, if_neg (fun z => q2 z.2.1)]; rfl
        · rw [if_neg q1, if_neg (fun z => q1 z.1)]; rfl
      · rw [if_neg b, if_neg b]
    · rw [if_neg c, psw, if_neg (fun z => c z.1)]; rfl
  · rw [if_pos (by omega), psw, if_neg (fun z => q z.2)]; rfl
end PO
theorem sf_deeper {G : mG} {d : Nat} {x : gd} {F : Int32 → gd → Prop} (hp : PN x) (hb : (x.1 0 9).toInt = 0) (hm0 : 0 ≤ (x.1 0 20).toInt) (hm : (x.1 0 20).toInt ≤ 16) (h0 : ∀ x', (x.1 0 20).toInt = 16 → md [9, 10, 20] [] x x' → PN x' → 0 < (x'.1 0 9).toInt → F 0 x') (h1 : ∀ x', md [20] [] x x' → (x.1 0 20).toInt < 16 → (x'.1 0 20).toInt = (x.1 0 20).toInt + 1 → F 1 x') : MT G (d + 1) z_deeper 0 [(0, vr 0)] [] x (ri F) := by
  have k0 : (0 : Int32).toInt = 0 := rfl
  have k1 : (1 : Int32).toInt = 1 := rfl
  have k16 : (16 : Int32).toInt = 16 := rfl
  refine sg_deeper_0 ⟨fun c => ?_, fun _ => ⟨fun c => sg_deeper_25 (fun x1 e1 => ⟨fun c1 => ?_, fun c1 => ri_i ?_⟩), fun c => sp_fault _ _ (by decide) (PN_v hp) hp (fun x3 hs hb3 e8 m3 => sg_deeper_25 (fun x1 e1 => ⟨fun c1 => ri_i ?_, fun c1 => ?_⟩))⟩⟩
  · exfalso; rw [t_eq, k0] at c; exact c hb
  · exfalso
    rw [e1, si_get, if_neg (by decide), t_eq, k0] at c1
    exact c1 hb
  · have m1 := md_f x 20 (x.1 0 20 + 1)
    rw [← e1] at m1
    rw [t_eq, k16] at c
    exact h1 x1 m1 (by omega) (by rw [e1, si_get, if_pos ⟨rfl, rfl⟩, t_add (by omega) (by omega), k1])
  · have m1 := md_f x3 20 (x3.1 0 20 + 1)
    rw [← e1] at m1
    have g8 : x1.1 0 8 = x3.1 0 8 := m1.1 8 (by decide)
    have g9 : x1.1 0 9 = x3.1 0 9 := m1.1 9 (by decide)
    exact h0 x1 (by rw [c]; exact k16) (md_tr m3 m1 rfl rfl) ⟨by rw [g8]; exact hs.2.1.1, by rw [g8]; exact hs.2.1.2.1, by rw [g9]; exact hs.2.1.2.2.1, TX_md m1 (by decide) (by decide) (by decide) (by decide) hs.2.1.2.2.2⟩ (by rw [g9]; exact hb3)
  · exfalso
    rw [e1, si_get, if_neg (by decide), t_eq, k0] at c1
    omega
def SpF (k : Nat) : Prop := ∀ (G : mG) (D : Nat) (x : gd) (F : Int32 → gd → Prop) (th o : Int32) (s : Int), 2 * k + 8 ≤ D → 0 ≤ th.toInt → PreE k s x → (∀ r x', PE k s x r x' → FE k th o x r x' → F r x') → MT G D z_readE 0 [(0, vr 0), (1, vi th), (2, vi o)] [] x (ri F)
/-- readOperand, the expressions in parentheses being known -/
theorem sf_readOperand (k : Nat) (ih : SpF k) {G : mG} {D : Nat} {x : gd} {F : Int32 → gd → Prop} (o : Int32) (s : Int) (hD : 2 * k + 9 ≤ D) (hpre : PreE k s x) (hb : (x.1 0 9).toInt = 0) (hF : ∀ r x', PO k s x r x' → FO k o x r x' → F r x') : MT G D z_readOperand 0 [(0, vr 0), (1, vi o)] [] x (ri F) := by
  obtain ⟨D, rfl⟩ : ∃ m, D = m + 9 := ⟨D - 9, by omega⟩
  obtain ⟨pn, n0, nb, sl, k16, nst⟩ := id hpre
  have p2 := pn.2.1
  have hnx : vp_in (x.1 0 13) 3000 := nv n0 nb (by omega)
  obtain ⟨i, ei⟩ : ∃ i, i = (x.1 0 8).toNatClampNeg := ⟨_, rfl⟩
  have hi : nwo x = some i := by rw [ei]; exact nwo_o hb
  have leaf1 : ∀ (w a b c : Int32) (y : gd) (M : gU), SS x y → ((y.1 0 9).toInt = 0 → (y.1 0 8).toInt = (x.1 0 8).toInt + 1) → (w = 1 ∨ w = 2 ∨ w = 3) → ¬ w = 3 → ¬ x.1 5 i = 1 → (∀ L, pO (pE (x.1 5) (decide (¬ o = 0)) k) (x.1 5) (decide (¬ o = 0)) i L = (nwo y).map (fun j => (j, L ++ M))) → ((w = 1 ∧ M = [(52, i, 0)] ∧ a = y.1 7 i) ∨ (w = 2 ∧ M = [(53, i, 0)]) ∨ (w = 3 ∧ M = [(if decide (¬ o = 0) = true then 6 else 3, i, 0)])) → MT G (D + 8) z_node 0 [(0, vr 0), (1, vi w), (2, vi a), (3, vi b), (4, vi c), (5, vi (x.1 0 8))] [] y (ri (fun r z => ri F (some (vi r)) z)) := by
    intro w a b c y M hs hst hw w3 kn1 hk hM
    have e13 : y.1 0 13 = x.1 0 13 := hs.1.1 13 (by decide)
    refine sp_node _ _ _ _ _ (by rw [e13]; exact hnx) (fun z hz => ri_i (hF _ _ (leafPO pn n0 nb sl (RP_ss hs) hs.1 (fun q => by have := hst q; omega) hz (PN_v pn) (Or.inl hw)) ⟨M, FX_at hi (fun L => by rw [hk L, nE_nwo hz]), fun _ => ⟨⟨1, vV_leaf hs.2.1 (by rw [e13]; exact hnx) hz ?_⟩, TT_no (nE_at hz).1 w3 (fun q => absurd q (by rw [← ei]; exact kn1))⟩⟩))
    rw [← ei]
    rcases hM with q | q | q
    · exact Or.inl q
    · exact Or.inr (Or.inl q)
    · exact Or.inr (Or.inr (Or.inl q))
  refine sg_readOperand_0 _ (sp_here pn (fun r _ r1 => ?_))
  have er : r = x.1 5 i := by rw [ei]; exact r1 hb
  refine ⟨fun c => ?_, fun c => ?_, fun c => ?_, fun c => ?_⟩
  · exact sf_step pn (fun y hs hst hy => ⟨PN_v pn, leaf1 1 _ _ _ y [(52, i, 0)] hs hst (Or.inl rfl) (by decide) (by rw [← er, c]; decide) (fun L => by rw [pO_w (er ▸ c), hy, hi]; rfl) (Or.inl ⟨rfl, rfl, by rw [ei]⟩)⟩)
  · exact sf_step pn (fun y hs hst hy => leaf1 2 _ _ _ y [(53, i, 0)] hs hst (Or.inr (Or.inl rfl)) (by decide) (by rw [← er, c]; decide) (fun L => by rw [pO_s (er ▸ c), hy, hi]; rfl) (Or.inr (Or.inl ⟨rfl, rfl⟩)))
  · refine sf_step pn (fun y hs hst hy => ?_)
    have e13 : y.1 0 13 = x.1 0 13 := hs.1.1 13 (by decide)
    have e20 : y.1 0 20 = x.1 0 20 := hs.1.1 20 (by decide)
    have e21 : y.1 0 21 = x.1 0 21 := hs.1.1 21 (by decide)
    have e5y : y.1 5 = x.1 5 := hs.1.2.1 5 (by decide) (by decide)
    have le8 := hs.2.2.1
    have py := hs.2.1
    have py2 := py.2.1
    have n0y : 0 ≤ (y.1 0 13).toInt := by rw [e13]; exact n0
    obtain ⟨s1, g1, g2, g3⟩ : ∃ s1 : Int, s1 ≤ s ∧ ((y.1 0 9).toInt = 0 → s1 = s - 2) ∧ (y.1 0 13).toInt ≤ 2 * (y.1 0 8).toInt + s1 := by
      by_cases q : (y.1 0 9).toInt = 0
      · exact ⟨s - 2, by omega, fun _ => rfl, by rw [e13]; have := hst q; omega⟩
      · exact ⟨s, by omega, fun z => absurd z q, by rw [e13]; omega⟩
    refine ih G (D + 8) y _ 0 o s1 (by omega) (by decide) ⟨py, by rw [e13]; exact n0, g3, by omega, k16, fun q => by rw [e20]; exact nst hb⟩ (fun r3 y2 h2 hf2 => ?_)
    obtain ⟨rp2, l2, nb2, rr2, ok2⟩ := h2
    obtain ⟨M2, f2, v2⟩ := hf2
    have e5z : y2.1 5 = x.1 5 := (rp2.1.2.1 5 (by decide) (by decide)).trans e5y
    refine sf_pass _ rp2.2.1 (fun y3 hs3 hst3 hy3 => ⟨fun _ => ?_, fun hneg => ?_⟩)
    · have e13' : y3.1 0 13 = y2.1 0 13 := hs3.1.1 13 (by decide)
      have e20' : y3.1 0 20 = y2.1 0 20 := hs3.1.1 20 (by decide)
      have e21' : y3.1 0 21 = y2.1 0 21 := hs3.1.1 21 (by decide)
      have p32 := hs3.2.1.2.1
      have p22 := rp2.2.1.2.1
      have mono := rp2.2.2.2.2.1
      have le83 := hs3.2.2.1
      have le82 := rp2.2.2.1
      have hn3 : vp_in (y3.1 0 13) 3000 := by rw [vp_in_iff, e13']; omega
      refine sp_node _ _ _ _ _ hn3 (fun z hz => ri_i (hF _ _ ?_ ⟨M2, FX_at hi (fun L => ?_), fun q => ?_⟩))
      · obtain ⟨r1, q1⟩ := RP_nE hs3.2.1 hn3 hz
        have f8 : z.1 0 8 = y3.1 0 8 := hz.1.1 8 (by decide)
        have f9 : z.1 0 9 = y3.1 0 9 := hz.1.1 9 (by decide)
        have f20 : z.1 0 20 = y3.1 0 20 := hz.1.1 20 (by decide)
        have f21 : z.1 0 21 = y3.1 0 21 := hz.1.1 21 (by decide)
        rw [e13'] at q1
        refine ⟨RP_tr (RP_tr (RP_tr (RP_ss hs) rp2) (RP_ss hs3)) r1, by rw [f21, e21', l2, e21], by rw [f8]; omega, by rw [e13']; omega, fun q => ?_⟩
        rw [f9] at q
        have b2 := hs3.2.2.2.2 q
        have by0 := rp2.2.2.2.1 b2
        obtain ⟨o1, o2, o3, o4⟩ := ok2 b2
        have st1 := hst by0
        have st3 := hst3 q
        have es1 := g2 by0
        rw [f8]
        refine ⟨by rw [f20, e20', o1, e20], by omega, by omega, ?_⟩
        have v3 := vE_RP (RP_ss hs3) o4
        have v4 := vE_one hs3.2.1 hn3 hz (PN_v pn) v3
        exact vE_mono _ _ _ _ _ _ _ (by omega) (by omega) (by omega) v4
      · have f2L := f2 L
        have z0 : (0 : Int32).toNatClampNeg = 0 := rfl
        rw [hy, hi, e5y, z0] at f2L
        rw [pO_p (er ▸ c), nE_nwo hz, hy3, e5z]
        show ((ps1 i).bind (fun j => (pE (x.1 5) (decide (¬ o = 0)) k 0 j L).bind (pt (x.1 5) 62))) = _
        rw [← Option.bind_assoc]
        have f2M : (ps1 i).bind (fun j => pE (x.1 5) (decide (¬ o = 0)) k 0 j L) = (nwo y2).map (fun j => (j, L ++ M2)) := f2L
        rw [f2M]
        cases nwo y2 with
        | none => rfl
        | some j => exact pt_psw
      · have f9 : z.1 0 9 = y3.1 0 9 := hz.1.1 9 (by decide)
        rw [f9] at q
        obtain ⟨⟨n, v3⟩, -⟩ := v2 (hs3.2.2.2.2 q)
        exact ⟨⟨n + 1, vV_one hs3.2.1 hn3 hz (vV_RP (RP_ss hs3) v3) (Or.inl ⟨rfl, rfl⟩)⟩, TT_no (nE_at hz).1 (by decide) (fun q => absurd q (by rw [← ei, ← er, c]; decide))⟩
    · exfalso
      have k0 : (0 : Int32).toInt = 0 := rfl
      rw [t_le, k0] at hneg
      omega
  · have c2 : ¬ x.1 5 i = 2 := fun q => c 2 (by simp) (er.trans q)
    have c32 : ¬ x.1 5 i = 32 := fun q => c 32 (by simp) (er.trans q)
    have c61 : ¬ x.1 5 i = 61 := fun q => c 61 (by simp) (er.trans q)
    refine sf_pass _ pn (fun y hs hst hy => ?_)
    rw [hi] at hy
    have hy : nwo y = psw (x.1 5) 1 i := hy
    have p159 : ∀ (z : gd) (v : Nat), RP x z → md [8, 9, 10] [] x z → ((z.1 0 9).toInt = 0 → (z.1 0 8).toInt = (x.1 0 8).toInt + 1) → ((z.1 0 9).toInt = 0 → x.1 5 i = 1) → v = (if decide (¬ o = 0) = true then 6 else 3) → (∀ L, pO (pE (x.1 5) (decide (¬ o = 0)) k) (x.1 5) (decide (¬ o = 0)) i L = (nwo z).map (fun j => (j, L ++ [(v, i, 0)]))) → MT G (D + 9) z_readOperand 159 [(0, vr 0), (2, vi (x.1 0 8))] [] z (ri F) := by
      intro z v rz mz hz hk1 hv hk
      have e13 : z.1 0 13 = x.1 0 13 := mz.1 13 (by decide)
      refine sg_readOperand_159 _ (sp_node _ _ _ _ _ (by rw [e13]; exact hnx) (fun z2 hz2 => ri_i (hF _ _ (leafPO pn n0 nb sl rz mz (fun q => by have := hz q; omega) hz2 (PN_v pn) (Or.inl (Or.inr (Or.inr rfl)))) ⟨[(v, i, 0)], FX_at hi (fun L => by rw [hk L, nE_nwo hz2]), fun q9 => ⟨⟨1, vV_leaf rz.2.1 (by rw [e13]; exact hnx) hz2 (Or.inr (Or.inr (Or.inl ⟨rfl, by rw [← ei, hv]⟩)))⟩, ?_⟩⟩)))
      have f8 : z2.1 0 8 = z.1 0 8 := hz2.1.1 8 (by decide)
      have f9 : z2.1 0 9 = z.1 0 9 := hz2.1.1 9 (by decide)
      rw [f9] at q9
      have a1 := hz q9
      have a2 := pn.1
      have t3 : z2.1 15 (z.1 0 13).toNatClampNeg = 3 ∧ (z2.1 19 (z.1 0 13).toNatClampNeg).toNatClampNeg = (x.1 0 8).toNatClampNeg ∧ (z2.1 0 8).toNatClampNeg = (x.1 0 8).toNatClampNeg + 1 := ⟨(nE_at hz2).1, by rw [(nE_at hz2).2.2.2.2.1], by rw [f8, t_cl, t_cl]; omega⟩
      exact ⟨fun _ => ⟨by rw [← ei]; exact hk1 q9, t3.2⟩, fun _ _ => Or.inl t3⟩
    have hy1 : (y.1 0 9).toInt = 0 → (x.1 0 8).toInt + 1 ≤ (y.1 0 8).toInt := fun q => by have := hst q; omega
    have hk1 : (y.1 0 9).toInt = 0 → x.1 5 i = 1 := fun q => by
      have e := nwo_o q
      rw [hy] at e
      unfold psw at e
      split at e
      · next z => exact z.1
      · exact absurd e (by simp)
    refine ⟨fun c0 => p159 y 3 (RP_ss hs) hs.1 hst hk1 (by rw [c0]; rfl) (fun L => ?_), fun c0 => sf_take _ hs.2.1 (fun h65 => ⟨fun _ => p159 y 6 (RP_ss hs) hs.1 hst hk1 (by rw [decide_eq_true c0]; rfl) (fun L => ?_), fun q => absurd rfl q⟩) (fun y2 j hj h65 hb2 hs2 hst2 hy2 => ⟨fun q => absurd q (by decide), fun _ => ?_⟩)⟩
    · rw [pO_n c2 c32 c61 (by rw [c0]; rfl), hy]
    · rw [pO_o c2 c32 c61 (decide_eq_true c0), hy]
      have e5y : y.1 5 = x.1 5 := hs.1.2.1 5 (by decide) (by decide)
      cases hp1 : psw (x.1 5) 1 i with
      | none => rfl
      | some j =>
        have q := h65 j (hy.trans hp1)
        rw [e5y] at q
        show (if x.1 5 j = 65 then _ else _) = _
        rw [if_neg q]
        rfl
    · have e5y : y.1 5 = x.1 5 := hs.1.2.1 5 (by decide) (by decide)
      have e5y2 : y2.1 5 = x.1 5 := (hs2.1.2.1 5 (by decide) (by decide)).trans e5y
      refine sf_pass _ hs2.2.1 (fun y3 hs3 hst3 hy3 => sf_pass _ hs3.2.1 (fun y4 hs4 hst4 hy4 => ?_))
      have e5y3 : y3.1 5 = x.1 5 := (hs3.1.2.1 5 (by decide) (by decide)).trans e5y2
      have ss : SS x y4 := SS_tr (SS_tr (SS_tr hs hs2) hs3) hs4
      have e13 : y4.1 0 13 = x.1 0 13 := ss.1.1 13 (by decide)
      have hpj : psw (x.1 5) 1 i = some j := hy.symm.trans hj
      have ej : j = i + 1 := by
        unfold psw at hpj
        split at hpj
        · exact (Option.some.inj hpj).symm
        · exact absurd hpj (by simp)
      refine sp_node _ _ _ _ _ (by rw [e13]; exact hnx) (fun z hz => ri_i (hF _ _ (leafPO pn n0 nb sl (RP_ss ss) ss.1 (fun q => ?_) hz (PN_v pn) (Or.inr ⟨rfl, PN_v hs2.2.1⟩)) ⟨[(7, i, 0), (12, i + 2, i)], FX_at hi (fun L => ?_), fun q => ⟨⟨1, vV_leaf ss.2.1 (by rw [e13]; exact hnx) hz (Or.inr (Or.inr (Or.inr ⟨rfl, ?_, decide_eq_true c0⟩)))⟩, TT_no (nE_at hz).1 (by decide) (fun _ o0 => absurd o0 c0)⟩⟩))
      · have l1 := hy1 hb2
        have l2 := hs2.2.2.1
        have l3 := hs3.2.2.1
        have l4 := hs4.2.2.1
        omega
      · rw [pO_o c2 c32 c61 (decide_eq_true c0), hpj, nE_nwo hz, hy4, hy3, hy2, e5y2, e5y3]
        rw [e5y] at h65
        show (if x.1 5 j = 65 then _ else _) = _
        rw [if_pos h65]
      · have f9 : z.1 0 9 = y4.1 0 9 := hz.1.1 9 (by decide)
        rw [f9] at q
        have b2 := hs3.2.2.2.2 (hs4.2.2.2.2 q)
        have a2 := hst2 b2
        have a1 := hst hb2
        have : (y2.1 0 8).toNatClampNeg = i + 2 := by
          have p0 := pn.1
          rw [t_cl, ei, t_cl]; omega
        rw [this, ← ei]
/-- readE at a level, the deeper ones being known -/
theorem readF_step (k : Nat) (ih : ∀ k', k = k' + 1 → SpF k') : SpF k := by
  intro G D x F th o s hD hth hpre hF
  obtain ⟨D, rfl⟩ : ∃ m, D = m + 8 := ⟨D - 8, by omega⟩
  obtain ⟨pn, n0, nb, sl, k16, nst⟩ := id hpre
  have k0 : (0 : Int32).toInt = 0 := rfl
  have k1 : (1 : Int32).toInt = 1 := rfl
  have p1 := pn.1
  have p2 := pn.2.1
  have p3 := pn.2.2.1
  -- nothing but a fault since the beginning
  have stop : ∀ z, md [9, 10, 20] [] x z → PN z → 0 < (z.1 0 9).toInt → (∀ i, nwo x = some i → ∀ L, pE (x.1 5) (decide (¬ o = 0)) k th.toNatClampNeg i L = none) → F 0 z := by
    intro z mz pz hz hN
    have e8 : z.1 0 8 = x.1 0 8 := mz.1 8 (by decide)
    have e13 : z.1 0 13 = x.1 0 13 := mz.1 13 (by decide)
    exact hF 0 z ⟨RP_9 mz pz (fun q => by omega), mz.1 21 (by decide), by rw [e13, e8]; omega, by decide, fun q => by omega⟩ ⟨[], FX_0 (nwo_b hz) hN, fun q => by omega⟩
  have p24 : ∀ z, md [9, 10] [] x z → PN z → ((z.1 0 9).toInt = 0 → (x.1 0 9).toInt = 0) → (0 < (z.1 0 9).toInt → ∀ i, nwo x = some i → ∀ L, pE (x.1 5) (decide (¬ o = 0)) k th.toNatClampNeg i L = none) → ((z.1 0 9).toInt = 0 → pbx x o) → MT G (D + 8) z_readE 24 [(0, vr 0), (1, vi th), (2, vi o)] [] z (ri F) := by
    intro z mz pz bz hN hB
    refine sg_readE_24 _ _ ⟨fun c => ri_i (stop z (md_w mz (by decide) (by decide)) pz (by rw [t_lt, k0] at c; exact c) (hN (by rw [t_lt, k0] at c; exact c))), fun c => ?_⟩
    have z3 := pz.2.2.1
    have b0 : (z.1 0 9).toInt = 0 := by rw [t_lt, k0] at c; omega
    obtain ⟨i, hi, hpb⟩ := hB b0
    have e20 : z.1 0 20 = x.1 0 20 := mz.1 20 (by decide)
    have nz : (z.1 0 20).toInt = 16 - k := by rw [e20]; exact nst (bz b0)
    refine sf_deeper pz b0 (by omega) (by omega) (fun x2 n16 m2 q2 b2 => ⟨fun q => absurd rfl q, fun _ => ri_i (stop x2 (md_tr mz m2 rfl rfl) q2 b2 (fun i' _ L => ?_))⟩) (fun x2 m2 l16 n2 => ⟨fun _ => ?_, fun q => absurd q (by decide)⟩)
    · have : k = 0 := by omega
      subst this
      rfl
    obtain ⟨k', rfl⟩ : ∃ k', k = k' + 1 := ⟨k - 1, by omega⟩
    have ihk := ih k' rfl
    have mx2 : md [9, 10, 20] [] x x2 := md_tr mz m2 rfl rfl
    have a8 : x2.1 0 8 = x.1 0 8 := mx2.1 8 (by decide)
    have a9 : x2.1 0 9 = z.1 0 9 := m2.1 9 (by decide)
    have a13 : x2.1 0 13 = x.1 0 13 := mx2.1 13 (by decide)
    have a21 : x2.1 0 21 = x.1 0 21 := mx2.1 21 (by decide)
    have a5 : x2.1 5 = x.1 5 := mx2.2.1 5 (by decide) (by decide)
    have n0x2 : 0 ≤ (x2.1 0 13).toInt := by rw [a13]; exact n0
    have px2 : PN x2 := ⟨by rw [a8]; exact p1, by rw [a8]; exact p2, by rw [a9]; exact z3, TX_md m2 (by decide) (by decide) (by decide) (by decide) pz.2.2.2⟩
    have rx2 : RP x x2 := RP_9 mx2 px2 (fun _ => bz b0)
    have bx2 : (x2.1 0 9).toInt = 0 := by rw [a9]; exact b0
    have nx2 : (x2.1 0 20).toInt = 16 - k' := by omega
    have ei : i = (x2.1 0 8).toNatClampNeg := by rw [a8]; exact (nwo_is hi).2.symm
    have hi2 : nwo x2 = some i := by rw [ei]; exact nwo_o bx2
    obtain ⟨K, eK⟩ : ∃ K, K = x.1 5 := ⟨_, rfl⟩
    obtain ⟨ob, eob⟩ : ∃ b : Bool, b = decide (¬ o = 0) := ⟨_, rfl⟩
    have p103 : ∀ (n : Nat) (w : gd) (e : Int32) (M : gU) (f : Nat), PO k' s x2 e w → ((w.1 0 9).toInt = 0 → 701 ≤ f + (w.1 0 8).toNatClampNeg) → (∀ L, pE K ob (k' + 1) th.toNatClampNeg i L = (nwo w).bind (fun j => pW (pE K ob k') K th.toNatClampNeg f j (L ++ M))) → ((w.1 0 9).toInt = 0 → (∃ n, vV w ob n e M) ∧ TT K i o w e) → 700 - (w.1 0 8).toInt ≤ n → MT G (D + 8) z_readE 103 [(0, vr 0), (1, vi th), (2, vi o), (3, vi e)] [] w (ri F) := by
      have fin : ∀ (w : gd) (e : Int32) (M : gU) (f : Nat), PO k' s x2 e w → ((w.1 0 9).toInt = 0 → 701 ≤ f + (w.1 0 8).toNatClampNeg) → (∀ L, pE K ob (k' + 1) th.toNatClampNeg i L = (nwo w).bind (fun j => pW (pE K ob k') K th.toNatClampNeg f j (L ++ M))) → ((w.1 0 9).toInt = 0 → (∃ n, vV w ob n e M) ∧ TT K i o w e) → ((w.1 0 9).toInt = 0 → pst (K (w.1 0 8).toNatClampNeg) ≤ th.toNatClampNeg) → ∀ w2 : gd, w2 = si w 0 20 (w.1 0 20 - 1) → ri F (some (vi e)) w2 := by
        intro w e M f hw hf hE hV hle w2 e2
        obtain ⟨rw1, lw, nbw, rw0, okw⟩ := hw
        have m9 := md_f w 20 (w.1 0 20 - 1)
        rw [← e2] at m9
        have c8 : w2.1 0 8 = w.1 0 8 := m9.1 8 (by decide)
        have c9 : w2.1 0 9 = w.1 0 9 := m9.1 9 (by decide)
        have c13 : w2.1 0 13 = w.1 0 13 := m9.1 13 (by decide)
        have c21 : w2.1 0 21 = w.1 0 21 := m9.1 21 (by decide)
        have pw := rw1.2.1
        have rw2 : RP w w2 := RP_9 (md_w m9 (by decide) (by decide)) ⟨by rw [c8]; exact pw.1, by rw [c8]; exact pw.2.1, by rw [c9]; exact pw.2.2.1, TX_md m9 (by decide) (by decide) (by decide) (by decide) pw.2.2.2⟩ (fun q => by rw [← c9]; exact q)
        refine ri_i (hF e w2 ⟨RP_tr rx2 (RP_tr rw1 rw2), by rw [c21, lw, a21], by rw [c13, c8]; omega, rw0, fun q => ?_⟩ ⟨M, FX_at hi (fun L => ?_), fun q => ?_⟩)
        · rw [c9] at q
          obtain ⟨o1, o2, o3, o4⟩ := okw q
          rw [c8, c13]
          rw [a8] at o2 o4
          refine ⟨?_, o2, o3, vE_RP rw2 o4⟩
          rw [t_eq, e2, si_get, if_pos ⟨rfl, rfl⟩, o1, t_sub (by omega) (by omega), k1]
          have := nst (bz b0)
          omega
        · rw [← eK, ← eob, hE L, nwo_e c8 c9]
          cases hw0 : nwo w with
          | none => rfl
          | some j =>
            obtain ⟨b9, b8⟩ := nwo_is hw0
            have h1 := hf b9
            have h2 := hle b9
            rw [b8] at h1 h2
            have jl : j ≤ 700 := by have := pw.2.1; rw [← b8, t_cl]; omega
            obtain ⟨f, rfl⟩ : ∃ m, f = m + 1 := ⟨f - 1, by omega⟩
            show pW (pE K ob k') K th.toNatClampNeg (f + 1) j (L ++ M) = some (j, L ++ M)
            rw [pW, if_neg (by omega)]
        · rw [c9] at q
          obtain ⟨⟨n, v⟩, t9⟩ := hV q
          rw [← eob, ← eK, ← a8, ← ei]
          exact ⟨⟨n, vV_RP rw2 v⟩, TT_e (m9.2.1 15 (by decide) (by decide)) (m9.2.1 19 (by decide) (by decide)) c8 t9⟩
      have body : ∀ (w : gd) (e : Int32) (M : gU) (f : Nat), PO k' s x2 e w → ((w.1 0 9).toInt = 0 → 701 ≤ f + (w.1 0 8).toNatClampNeg) → (∀ L, pE K ob (k' + 1) th.toNatClampNeg i L = (nwo w).bind (fun j => pW (pE K ob k') K th.toNatClampNeg f j (L ++ M))) → ((w.1 0 9).toInt = 0 → (∃ n, vV w ob n e M) ∧ TT K i o w e) → (∀ (w' : gd) (e' : Int32) (M' : gU) (f' : Nat), PO k' s x2 e' w' → ((w'.1 0 9).toInt = 0 → 701 ≤ f' + (w'.1 0 8).toNatClampNeg) → (∀ L, pE K ob (k' + 1) th.toNatClampNeg i L = (nwo w').bind (fun j => pW (pE K ob k') K th.toNatClampNeg f' j (L ++ M'))) → ((w'.1 0 9).toInt = 0 → (∃ n, vV w' ob n e' M') ∧ TT K i o w' e') → ((w'.1 0 9).toInt = 0 → (w.1 0 8).toInt + 1 ≤ (w'.1 0 8).toInt) → MT G (D + 8) z_readE 103 [(0, vr 0), (1, vi th), (2, vi o), (3, vi e')] [] w' (ri F)) → MT G (D + 8) z_readE 103 [(0, vr 0), (1, vi th), (2, vi o), (3, vi e)] [] w (ri F) := by
        intro w e M f hw hf hE hV next
        refine sg_readE_103 _ _ _ ⟨fun cb x9 e9 => fin w e M f hw hf hE hV (fun q => absurd (t_eq.mpr (q.trans k0.symm)) cb) x9 e9, fun cb => ?_⟩
        have cb0 : (w.1 0 9).toInt = 0 := by rw [cb]; rfl
        obtain ⟨rw1, lw, nbw, rw0, okw⟩ := id hw
        obtain ⟨o1, o2, o3, o4⟩ := okw cb0
        have pw := rw1.2.1
        have pw2 := pw.2.1
        have pw1 := pw.1
        have w5 : w.1 5 = K := by rw [eK, ← a5]; exact rw1.1.2.1 5 (by decide) (by decide)
        obtain ⟨j, ej⟩ : ∃ j, j = (w.1 0 8).toNatClampNeg := ⟨_, rfl⟩
        have hj : nwo w = some j := by rw [ej]; exact nwo_o cb0
        have pl := pst_le (K j)
        refine sp_here pw (fun r _ hr => ?_)
        have er : r = K j := by rw [hr cb0, w5, ← ej]
        rw [er]
        refine sf_strength _ ⟨fun cle x9 e9 => fin w e M f hw hf hE hV (fun _ => by rw [← ej]; exact (ofN_le pl hth).mp cle) x9 e9, fun cgt => sf_step pw (fun w1 hs hst hy => ⟨PN_v pw, ?_⟩)⟩
        have w15 : w1.1 5 = K := (hs.1.2.1 5 (by decide) (by decide)).trans w5
        rw [w15, ← ej]
        refine sf_strength _ ?_
        have lt : th.toNatClampNeg < pst (K j) := Nat.lt_of_not_le (fun q => cgt ((ofN_le pl hth).mpr q))
        have e13 : w1.1 0 13 = w.1 0 13 := hs.1.1 13 (by decide)
        have e20 : w1.1 0 20 = w.1 0 20 := hs.1.1 20 (by decide)
        have e21 : w1.1 0 21 = w.1 0 21 := hs.1.1 21 (by decide)
        have le8 := hs.2.2.1
        have q2 := hs.2.1.2.1
        have mono0 := rw1.2.2.2.2.1
        have n0w1 : 0 ≤ (w1.1 0 13).toInt := by rw [e13]; omega
        obtain ⟨s1, g1, g2, g3⟩ : ∃ s1 : Int, s1 ≤ s ∧ ((w1.1 0 9).toInt = 0 → s1 = s - 3) ∧ (w1.1 0 13).toInt ≤ 2 * (w1.1 0 8).toInt + s1 := by
          by_cases q : (w1.1 0 9).toInt = 0
          · exact ⟨s - 3, by omega, fun _ => rfl, by rw [e13]; have := hst q; omega⟩
          · exact ⟨s, by omega, fun z => absurd z q, by rw [e13]; omega⟩
        refine ihk G (D + 7) w1 _ (Int32.ofNat (pst (K j))) o s1 (by omega) (by rw [Int32.toInt_ofNat_of_lt (by omega)]; omega) ⟨hs.2.1, by rw [e13]; omega, g3, by omega, by omega, fun q => by rw [e20, o1]; exact nx2⟩ (fun r14 y2 h2 hf2 => ⟨PN_v pw, ?_⟩)
        obtain ⟨rp2, l2, nb2, rr2, ok2⟩ := h2
        obtain ⟨M2, f2, v2⟩ := hf2
        rw [ofN_cl pl, w15, ← eob] at f2
        rw [← eob] at v2
        have p22 := rp2.2.1.2.1
        have mono := rp2.2.2.2.2.1
        have le82 := rp2.2.2.1
        have hn3 : vp_in (y2.1 0 13) 3000 := by rw [vp_in_iff]; omega
        have y25 : y2.1 5 = K := (rp2.1.2.1 5 (by decide) (by decide)).trans w15
        refine sp_node _ _ _ _ _ hn3 (fun z hz => next z _ (M ++ (M2 ++ [(51, j, 0)])) (f - 1) ?_ (fun q => ?_) (fun L => ?_) (fun q => ?_) (fun q => ?_))
        · obtain ⟨r1, q1⟩ := RP_nE rp2.2.1 hn3 hz
          have f8 : z.1 0 8 = y2.1 0 8 := hz.1.1 8 (by decide)
          have f9 : z.1 0 9 = y2.1 0 9 := hz.1.1 9 (by decide)
          have f20 : z.1 0 20 = y2.1 0 20 := hz.1.1 20 (by decide)
          have f21 : z.1 0 21 = y2.1 0 21 := hz.1.1 21 (by decide)
          refine ⟨RP_tr (RP_tr (RP_tr rw1 (RP_ss hs)) rp2) r1, by rw [f21, l2, e21, lw], by rw [f8]; omega, (vp_in_iff.mp hn3).1, fun q => ?_⟩
          rw [f9] at q
          have by0 := rp2.2.2.2.1 q
          obtain ⟨u1, u2, u3, u4⟩ := ok2 q
          have st1 := hst by0
          have es1 := g2 by0
          rw [f8]
          refine ⟨by rw [f20, u1, e20, o1], by omega, by omega, ?_⟩
          have v1 := vE_RP rp2 (vE_RP (RP_ss hs) o4)
          have v2 := vE_mono _ (((w.1 0 8).toInt - (x2.1 0 8).toInt).toNat + ((y2.1 0 8).toInt - (w1.1 0 8).toInt).toNat) _ _ _ _ _ (by omega) (Nat.le_refl _) (Nat.le_refl _) v1
          have v3 := vE_mono _ (((w.1 0 8).toInt - (x2.1 0 8).toInt).toNat + ((y2.1 0 8).toInt - (w1.1 0 8).toInt).toNat) _ _ _ _ _ (by omega) (Nat.le_refl _) (Nat.le_refl _) u4
          exact vE_mono _ _ _ _ _ _ _ (by omega) (by omega) (Nat.le_refl _) (vE_two rp2.2.1 hn3 hz (PN_v pw) v2 v3)
        · have f8 : z.1 0 8 = y2.1 0 8 := hz.1.1 8 (by decide)
          have f9 : z.1 0 9 = y2.1 0 9 := hz.1.1 9 (by decide)
          rw [f9] at q
          have by0 := rp2.2.2.2.1 q
          have st1 := hst by0
          have h1 := hf cb0
          rw [f8]
          rw [t_cl] at h1 ⊢
          omega
        · rw [hE L, hj, nE_nwo hz]
          have h1 := hf cb0
          rw [← ej] at h1
          have jl : j ≤ 700 := by rw [ej, t_cl]; omega
          obtain ⟨f, rfl⟩ : ∃ m, f = m + 1 := ⟨f - 1, by omega⟩
          show pW (pE K ob k') K th.toNatClampNeg (f + 1) j (L ++ M) = (nwo y2).bind (fun j => pW (pE K ob k') K th.toNatClampNeg f j _)
          rw [hj] at hy
          have hy : nwo w1 = ps1 j := hy
          have f2L := f2 (L ++ M)
          rw [hy, ps1] at f2L
          rw [pW, if_pos lt]
          by_cases q : j < 700
          · rw [if_pos q]
            rw [if_pos q] at f2L
            have f2M : pE K ob k' (pst (K j)) (j + 1) (L ++ M) = (nwo y2).map (fun j => (j, L ++ M ++ M2)) := f2L
            rw [f2M]
            cases nwo y2 with
            | none => rfl
            | some j2 =>
              show pW (pE K ob k') K th.toNatClampNeg f j2 (L ++ M ++ M2 ++ [(51, j, 0)]) = pW (pE K ob k') K th.toNatClampNeg f j2 (L ++ (M ++ (M2 ++ [(51, j, 0)])))
              rw [List.append_assoc, List.append_assoc]
          · rw [if_neg q]
            rw [if_neg q] at f2L
            cases hy2 : nwo y2 with
            | none => rfl
            | some j2 => rw [hy2] at f2L; exact absurd f2L (by simp)
        · have f9 : z.1 0 9 = y2.1 0 9 := hz.1.1 9 (by decide)
          rw [f9] at q
          obtain ⟨⟨n2, v3⟩, -⟩ := v2 q
          obtain ⟨⟨n1, v1⟩, t1⟩ := hV cb0
          have v4 := vV_RP rp2 (vV_RP (RP_ss hs) v1)
          have v5 := vV_two rp2.2.1 hn3 hz (vV_mono n1 (n1 + n2) _ _ (by omega) v4) (vV_mono n2 (n1 + n2) _ _ (by omega) v3) (by rw [y25, ej])
          rw [← ej] at v5
          refine ⟨⟨_, v5⟩, TT_no (nE_at hz).1 (by decide) (fun a b => ?_)⟩
          rcases t1.2 a b with ⟨-, -, h8⟩ | h8
          · rw [← h8, ← ej]; omega
          · exact h8
        · have f8 : z.1 0 8 = y2.1 0 8 := hz.1.1 8 (by decide)
          have f9 : z.1 0 9 = y2.1 0 9 := hz.1.1 9 (by decide)
          rw [f9] at q
          have by0 := rp2.2.2.2.1 q
          have st1 := hst by0
          rw [f8]
          omega
      have exit : ∀ (w : gd) (e : Int32) (M : gU) (f : Nat), PO k' s x2 e w → ((w.1 0 9).toInt = 0 → 701 ≤ f + (w.1 0 8).toNatClampNeg) → (∀ L, pE K ob (k' + 1) th.toNatClampNeg i L = (nwo w).bind (fun j => pW (pE K ob k') K th.toNatClampNeg f j (L ++ M))) → ((w.1 0 9).toInt = 0 → (∃ n, vV w ob n e M) ∧ TT K i o w e) → ¬ (w.1 0 9).toInt = 0 → MT G (D + 8) z_readE 103 [(0, vr 0), (1, vi th), (2, vi o), (3, vi e)] [] w (ri F) := by
        intro w e M f hw hf hE hV hb
        refine sg_readE_103 _ _ _ ⟨fun _ x9 e9 => fin w e M f hw hf hE hV (fun q => absurd q hb) x9 e9, fun cb => ?_⟩
        rw [t_eq, k0] at cb
        exact absurd cb hb
      intro n
      induction n with
      | zero =>
        intro w e M f hw hf hE hV hn
        refine body w e M f hw hf hE hV (fun w' e' M' f' hw' hf' hE' hV' hp' => exit w' e' M' f' hw' hf' hE' hV' (fun q => ?_))
        have := hp' q
        have := hw'.1.2.1.2.1
        omega
      | succ n ihn =>
        intro w e M f hw hf hE hV hn
        refine body w e M f hw hf hE hV (fun w' e' M' f' hw' hf' hE' hV' hp' => ?_)
        by_cases q : (w'.1 0 9).toInt = 0
        · exact ihn w' e' M' f' hw' hf' hE' hV' (by have := hp' q; omega)
        · exact exit w' e' M' f' hw' hf' hE' hV' q
    have pre2 : PreE k' s x2 := ⟨px2, by rw [a13]; exact n0, by rw [a13, a8]; exact nb, by omega, by omega, fun _ => nx2⟩
    have p64 : (K i = 29 ∨ K i = 58) → MT G (D + 8) z_readE 64 [(0, vr 0), (1, vi th), (2, vi o), (4, vi (x2.1 0 8))] [] x2 (ri F) := by
      intro hK
      refine sg_readE_64 _ _ _ (sf_step px2 (fun y hs hst hy => ?_))
      rw [hi2] at hy
      have hy : nwo y = ps1 i := hy
      have e13 : y.1 0 13 = x2.1 0 13 := hs.1.1 13 (by decide)
      have e20 : y.1 0 20 = x2.1 0 20 := hs.1.1 20 (by decide)
      have e21 : y.1 0 21 = x2.1 0 21 := hs.1.1 21 (by decide)
      have y5 : y.1 5 = K := by rw [eK, ← a5]; exact hs.1.2.1 5 (by decide) (by decide)
      have le8 := hs.2.2.1
      have py2 := hs.2.1.2.1
      have pp2 := px2.2.1
      obtain ⟨s1, g1, g2, g3⟩ : ∃ s1 : Int, s1 ≤ s ∧ ((y.1 0 9).toInt = 0 → s1 = s - 2) ∧ (y.1 0 13).toInt ≤ 2 * (y.1 0 8).toInt + s1 := by
        by_cases q : (y.1 0 9).toInt = 0
        · exact ⟨s - 2, by omega, fun _ => rfl, by rw [e13, a13]; have := hst q; rw [a8] at this; omega⟩
        · exact ⟨s, by omega, fun z => absurd z q, by rw [e13, a13]; rw [a8] at le8; omega⟩
      refine ihk G (D + 7) y _ 5 o s1 (by omega) (by decide) ⟨hs.2.1, by rw [e13, a13]; exact n0, g3, by omega, by omega, fun q => by rw [e20]; exact nx2⟩ (fun r3 y2 h2 hf2 => ⟨PN_v px2, ?_⟩)
      obtain ⟨rp2, l2, nb2, rr2, ok2⟩ := h2
      obtain ⟨M2, f2, v2⟩ := hf2
      have z5 : (5 : Int32).toNatClampNeg = 5 := rfl
      rw [z5, y5, ← eob] at f2
      rw [← eob] at v2
      have p22 := rp2.2.1.2.1
      have mono := rp2.2.2.2.2.1
      have le82 := rp2.2.2.1
      have y25 : y2.1 5 = K := (rp2.1.2.1 5 (by decide) (by decide)).trans y5
      have hn3 : vp_in (y2.1 0 13) 3000 := by rw [vp_in_iff]; rw [e13, a13] at mono; omega
      refine sp_node _ _ _ _ _ hn3 (fun z hz => p103 _ z _ (M2 ++ [(50, i, 0)]) 701 ?_ (fun _ => by omega) (fun L => ?_) (fun q => ?_) (Int.self_le_toNat _))
      · obtain ⟨r1, q1⟩ := RP_nE rp2.2.1 hn3 hz
        have f8 : z.1 0 8 = y2.1 0 8 := hz.1.1 8 (by decide)
        have f9 : z.1 0 9 = y2.1 0 9 := hz.1.1 9 (by decide)
        have f20 : z.1 0 20 = y2.1 0 20 := hz.1.1 20 (by decide)
        have f21 : z.1 0 21 = y2.1 0 21 := hz.1.1 21 (by decide)
        refine ⟨RP_tr (RP_tr (RP_ss hs) rp2) r1, by rw [f21, l2, e21], by rw [f8]; omega, (vp_in_iff.mp hn3).1, fun q => ?_⟩
        rw [f9] at q
        have by0 := rp2.2.2.2.1 q
        obtain ⟨u1, u2, u3, u4⟩ := ok2 q
        have st1 := hst by0
        have es1 := g2 by0
        rw [f8]
        refine ⟨by rw [f20, u1, e20], by omega, by omega, ?_⟩
        exact vE_mono _ _ _ _ _ _ _ (by omega) (by omega) (by omega) (vE_one rp2.2.1 hn3 hz (PN_v px2) u4)
      · have f2L := f2 L
        rw [hy, ps1] at f2L
        rw [← eK, ← eob] at hpb
        rw [pE, if_pos hpb, if_pos hK, nE_nwo hz]
        by_cases q : i < 700
        · rw [if_pos q]
          rw [if_pos q] at f2L
          have f2M : pE K ob k' 5 (i + 1) L = (nwo y2).map (fun j => (j, L ++ M2)) := f2L
          rw [f2M]
          cases nwo y2 with
          | none => rfl
          | some j2 =>
            show pW (pE K ob k') K th.toNatClampNeg 701 j2 (L ++ M2 ++ [(50, i, 0)]) = pW (pE K ob k') K th.toNatClampNeg 701 j2 (L ++ (M2 ++ [(50, i, 0)]))
            rw [List.append_assoc]
        · rw [if_neg q]
          rw [if_neg q] at f2L
          cases hy2 : nwo y2 with
          | none => rfl
          | some j2 => rw [hy2] at f2L; exact absurd f2L (by simp)
      · have f9 : z.1 0 9 = y2.1 0 9 := hz.1.1 9 (by decide)
        rw [f9] at q
        obtain ⟨⟨n2, v3⟩, -⟩ := v2 q
        have v5 := vV_one (M := M2 ++ [(50, i, 0)]) rp2.2.1 hn3 hz v3 (Or.inr ⟨by rw [y25, ← ei]; rcases hK with q | q <;> rw [q] <;> decide, by rw [y25], by rw [ei]⟩)
        exact ⟨⟨_, v5⟩, TT_no (nE_at hz).1 (by decide) (fun a _ => by rcases hK with q | q <;> rw [q] at a <;> exact absurd a (by decide))⟩
    have kx : x2.1 5 (x2.1 0 8).toNatClampNeg = K i := by rw [a5, eK, ei]
    refine sp_here px2 (fun r6 _ h6 => ⟨fun c6 => p64 (Or.inl (by rw [← kx, ← h6 bx2]; exact c6)), fun c6 => sp_here px2 (fun r9 _ h9 => ⟨fun c9 => ?_, fun c9 => p64 (Or.inr (by rw [← kx, ← h9 bx2]; exact c9))⟩)⟩)
    have nK : ¬ (K i = 29 ∨ K i = 58) := by
      rw [← kx]
      rintro (q | q)
      · exact c6 ((h6 bx2).trans q)
      · exact c9 ((h9 bx2).trans q)
    refine sf_readOperand k' ihk o s (by omega) pre2 bx2 (fun r w hw hfo => ?_)
    obtain ⟨M, fo1, vo⟩ := hfo
    rw [a5, ← eK, ← eob] at fo1
    rw [← eob, a5, ← eK, ← ei] at vo
    refine p103 _ w r M 701 hw (fun _ => by omega) (fun L => ?_) vo (Int.self_le_toNat _)
    have foL := fo1 L
    rw [hi2] at foL
    have foM : pO (pE K ob k') K ob i L = (nwo w).map (fun j => (j, L ++ M)) := foL
    rw [← eK, ← eob] at hpb
    rw [pE, if_pos hpb, if_neg nK, foM]
    cases nwo w with
    | none => rfl
    | some j => rfl
  have nobeg : ¬ pbx x o → ∀ i, nwo x = some i → ∀ L, pE (x.1 5) (decide (¬ o = 0)) k th.toNatClampNeg i L = none := by
    intro hn i hi L
    cases k with
    | zero => rfl
    | succ k => rw [pE, if_neg (fun q => hn ⟨i, hi, q⟩)]
  refine sg_readE_0 _ _ ⟨fun c0 => p24 x (md_w (md_rf x) (by decide) (by decide)) pn (fun q => q) (fun q i hi => absurd (nwo_is hi).1 (by omega)) (fun q => absurd (t_eq.mpr (q.trans k0.symm)) c0), fun c0 => sf_beginsE _ pn (fun hb => ⟨fun _ => p24 x (md_w (md_rf x) (by decide) (by decide)) pn (fun q => q) (fun q => absurd q (by rw [c0, k0]; omega)) (fun _ => hb), fun q => absurd q (by decide)⟩) (fun hn => ⟨fun q => absurd rfl q, fun _ => sp_fault _ _ (by decide) (PN_v pn) pn (fun x5 hs hb e8 m5 => p24 x5 m5 hs.2.1 hs.2.2.2.2 (fun _ => nobeg hn) (fun q => by omega))⟩)⟩
theorem sf_readE (k : Nat) : SpF k := by
  induction k with
  | zero => exact readF_step 0 (fun k' q => by omega)
  | succ k ih =>
    refine readF_step (k + 1) (fun k' q => ?_)
    have e : k' = k := by omega
    rw [e]
    exact ih
