section
/-! calls that read the run's state: cell, seen -/
section RST
variable {G : mG} {d D : Nat} {x z w a : gd} {F : Int32 → gd → Prop} {C : gCo} {M : gMa} {wr n : Nat} {lm : Nat → Nat} {q : kP}
theorem MM1_eq (hN : NC C) (e : eqS (Sl a) a z) (h : MM1 a C M) : MM1 z C M := by
  obtain ⟨h1, h2, h3⟩ := h
  refine ⟨fun c hc => by rw [cA e (c := 70) (n := 24) (by decide) hc]; exact h1 c hc, fun l hl => by rw [cA e (c := 71) (n := 6) (by decide) hl, cA e (c := 72) (n := 6) (by decide) hl]; exact h2 l hl, fun t ht => ?_⟩
  obtain ⟨q0, q0', q1, q2, q3, q3', q4, q5, ⟨q6, q6'⟩, q7, q7'⟩ := h3 t ht
  have f := fun c (hc : (c, 6) ∈ coreL) => cA e hc ht
  refine ⟨by rw [f 73 (by decide)]; exact q0, q0', by rw [f 75 (by decide)]; exact q1, by rw [f 74 (by decide)]; exact q2, by rw [f 77 (by decide)]; exact q3, q3', by rw [f 78 (by decide)]; exact q4, by rw [f 79 (by decide)]; exact q5, ⟨by rw [f 80 (by decide)]; exact q6, fun j q hj => ?_⟩, fun hu p hp => ?_, fun k hk hn => ?_⟩
  · have hl := gt_lt hj
    have s : ∀ c, (c = 81 ∨ c = 82) → z.1 c (10 * t + j) = a.1 c (10 * t + j) := fun c hc => e c _ (Or.inr ⟨hc, t, j, ht, by omega, rfl⟩)
    rw [s 81 (Or.inl rfl), s 82 (Or.inr rfl)]; exact q6' j q hj
  · have s8 := stN_8 hN _ (slN_mem hp)
    rw [cA e (c := 76) (n := 48) (by decide) (by omega)]; exact q7 hu p hp
  · rw [cA e (c := 76) (n := 48) (by decide) (by omega)]; exact q7' k hk hn
theorem HistC_MM (hN : NC C) (h : HistC C wr w) (e94 : (w.1 0 94).toInt = (n : Nat)) : MM1 w C (runM C wr (c96 w) n) ∧ ∀ t, t < 6 → (w.1 80 t).toInt ≤ 8 := by
  obtain ⟨s, n', q1, q2, q3, q4, -⟩ := h
  have en : n' = n := by omega
  rw [en] at q4
  have am := q2 n (by omega)
  have el := eqS_w (Sl_Sm _) q4
  exact ⟨MM1_eq hN el am.2.2.1, fun t ht => by rw [cA el (c := 80) (n := 6) (by decide) ht]; exact (am.1.1.2 t ht).2.2.2.1⟩
theorem sp_see3 (t c : Int32) (ht : vp_in t 6) (hc : vp_in c 24) (q8 : (x.1 80 t.toNatClampNeg).toInt ≤ 8) {l : List (Nat × Int32)} (hl : mLt x t.toNatClampNeg l) (h : F (seL l c.toNatClampNeg (x.1 70 c.toNatClampNeg)) x) : MT G d z_see 0 [(0, vr 0), (1, vi t), (2, vi c)] [] x (ri F) := by
  have k1 : (1 : Int32).toInt = 1 := rfl
  obtain ⟨l1, l2⟩ := hl
  have cb := vp_in_iff.mp hc
  have cc := cl_i cb.1
  obtain ⟨R, eR⟩ : ∃ R, R = seL l c.toNatClampNeg (x.1 70 c.toNatClampNeg) := ⟨_, rfl⟩
  rw [← eR] at h
  have loop : ∀ (n : Nat) (v i : Int32), 0 ≤ i.toInt → (x.1 80 t.toNatClampNeg).toInt - i.toInt ≤ n → seL (l.drop i.toInt.toNat) c.toNatClampNeg v = R → MT G d z_see 10 [(0, vr 0), (1, vi t), (2, vi c), (3, vi v), (4, vi i)] [] x (ri F) := by
    have fin : ∀ (v i : Int32), (x.1 80 t.toNatClampNeg).toInt ≤ i.toInt → seL (l.drop i.toInt.toNat) c.toNatClampNeg v = R → ri F (some (vi v)) x := fun v i hi hs => by
      rw [List.drop_eq_nil_of_le (by omega)] at hs
      have hs : v = R := hs
      rw [hs]
      exact ri_i h
    intro n
    induction n with
    | zero =>
      intro v i i0 hi hs
      exact sg_see_10 _ _ _ _ ⟨ht, fun _ => fin v i (by omega) hs, fun c => absurd (t_le.mpr (by omega)) c⟩
    | succ n ih =>
      intro v i i0 hi hs
      refine sg_see_10 _ _ _ _ ⟨ht, fun c9 => fin v i (by rw [t_le] at c9; exact c9) hs, fun c9 => ?_⟩
      rw [t_le] at c9
      have a1 := (t10 ht (i := i) i0 (by omega)).1
      have i1 : (i + 1).toInt = i.toInt + 1 := by rw [t_add (by omega) (by omega), k1]
      have hi' : i.toInt.toNat < l.length := by omega
      obtain ⟨b1, b2, b3⟩ := l2 i.toInt.toNat _ (List.getElem?_eq_getElem hi')
      rw [List.drop_eq_getElem_cons hi', seL] at hs
      have ea : (10 * t + i).toNatClampNeg = 10 * t.toNatClampNeg + i.toInt.toNat := by rw [(t10 ht i0 (by omega)).2, t_cl i]
      have en : (i + 1).toInt.toNat = i.toInt.toNat + 1 := by omega
      have ec : Int32.ofNat l[i.toInt.toNat].1 = c ↔ l[i.toInt.toNat].1 = c.toNatClampNeg := by
        have e9 : (Int32.ofNat l[i.toInt.toNat].1).toInt = (l[i.toInt.toNat].1 : Nat) := Int32.toInt_ofNat_of_lt (by omega)
        rw [t_eq, e9]
        omega
      refine ⟨a1, fun c9 => ih _ _ (by omega) (by omega) ?_, fun c9 => ⟨a1, ih _ _ (by omega) (by omega) ?_⟩⟩
      · rw [ea, b1] at c9
        rw [if_neg (fun z => c9 (ec.mpr z))] at hs
        rw [en]; exact hs
      · rw [ea, b1] at c9
        rw [if_pos (ec.mp c9)] at hs
        rw [en, ea, b2]; exact hs
  exact sg_see_0 _ _ ⟨hc, loop _ _ 0 (by decide) (Int.self_le_toNat _) eR.symm⟩
abbrev e2Ce (x : gd) (l : Int32) : Prop := ¬ x.1 0 10 = 0 ∧ ¬ (0 ≤ l.toInt ∧ l.toInt < (x.1 60 6).toInt)
def sCe (C : gCo) (wr n : Nat) (c : Nat → Nat) (x : gd) (l r : Int32) (y : gd) : Prop := r = (runM C wr c n).1 l.toInt.toNat ∧ KRd x y
abbrev f2Ce (w : gd) (l : Int32) : Prop := ¬ w.1 0 67 = 0 ∧ ¬ (0 ≤ l.toInt ∧ l.toInt < (w.1 0 23).toInt)
def tCe (C : gCo) (wr n : Nat) (w : gd) (l r : Int32) (w' : gd) : Prop := r = (runM C wr (c96 w) n).1 l.toInt.toNat ∧ rdM C wr w w'
abbrev e2Se (x : gd) (l1 l2 : Int32) : Prop := ¬ x.1 0 10 = 0 ∧ ¬ ((0 ≤ l1.toInt ∧ l1.toInt < (x.1 60 10).toInt) ∧ 0 ≤ l2.toInt ∧ l2.toInt < (x.1 60 6).toInt)
def sSe (C : gCo) (wr n : Nat) (c : Nat → Nat) (x : gd) (l1 l2 r : Int32) (y : gd) : Prop := r = seM (runM C wr c n) l1.toInt.toNat l2.toInt.toNat ∧ KRd x y
abbrev f2Se (w : gd) (l1 l2 : Int32) : Prop := ¬ w.1 0 67 = 0 ∧ ¬ ((0 ≤ l1.toInt ∧ l1.toInt < (w.1 0 25).toInt) ∧ 0 ≤ l2.toInt ∧ l2.toInt < (w.1 0 23).toInt)
def tSe (C : gCo) (wr n : Nat) (w : gd) (l1 l2 r : Int32) (w' : gd) : Prop := r = seM (runM C wr (c96 w) n) l1.toInt.toNat l2.toInt.toNat ∧ rdM C wr w w'
theorem in_ge {v n : Int32} (h : ¬ ((0 : Int32) ≤ v ∧ v ≤ n - 1)) (n0 : 0 ≤ n.toInt) : ¬ (0 ≤ v.toInt ∧ v.toInt < n.toInt) := fun z => by
  have k0 : (0 : Int32).toInt = 0 := rfl
  have k1 : (1 : Int32).toInt = 1 := rfl
  have nb := Int32.toInt_lt n
  refine h ⟨t_le.mpr (by rw [k0]; exact z.1), t_le.mpr ?_⟩
  rw [t_sub (by rw [k1]; omega) (by rw [k1]; omega), k1]
  omega
theorem ma_cell (h : JH C wr n lm x w) (hH : HOI x q) (hm : MI w) (l : Int32) (hD : 3 ≤ D) (hF : ∀ r w', ansM C wr (f1Ch w) (f2Ce w l) (tCe C wr n w l) w r w' → F r w') : MT G D z_cell 0 [(0, vr 0), (1, vi l)] [] w (ri F) := by
  obtain ⟨D, rfl⟩ : ∃ D', D = D' + 2 := ⟨D - 2, by omega⟩
  refine sg_cell_0 _ (fun y e => ?_)
  have hy := z0_s e
  have e67 : y.1 0 67 = w.1 0 67 := hy.1.1 67 (by decide)
  have e23 : y.1 0 23 = w.1 0 23 := hy.1.1 23 (by decide)
  have e70 : y.1 70 = w.1 70 := hy.1.2 70 (by decide) (by simp)
  have qy := (MI_0 hy.1 hm).1
  refine sc_noRunk hy (fun hr => ⟨fun q => absurd rfl q, fun _ => ?_⟩) (fun c y' m => ⟨fun _ => ri_i (hF _ y' (an_1 hm (show w.1 0 67 = 0 by rw [← e67]; exact c) m)), fun q => absurd q (by decide)⟩)
  obtain ⟨cp, _, _⟩ := RS_of qy hr
  have g := cp.1
  rw [e67] at hr
  obtain ⟨hc, hh, e94⟩ := JH_M h hr
  have mm := (HistC_MM (JH_gc h hH).1.1 hh e94).1
  have p32 : ∀ b : Int32, (b = 0 → 0 ≤ l.toInt ∧ l.toInt < (y.1 0 23).toInt) → (¬ b = 0 → ¬ (0 ≤ l.toInt ∧ l.toInt < (y.1 0 23).toInt)) → MT G (D + 2) z_cell 32 [(0, vr 0), (1, vi l)] [vi b, vr 0] y (ri F) := fun b hb hb2 => sg_cell_32 _ _ (sc_refk b 2 hy (by decide) (fun b0 => ⟨fun _ => ⟨by rw [vp_in_iff]; have := hb b0; have := g.2.1; omega, ri_i (hF _ y (an_3 qy hr (fun z => z.2 (by rw [← e23]; exact hb b0)) hy.2 ⟨by
    rw [e70, t_cl]
    exact mm.1 _ (by have := hb b0; have := g.2.1; omega), rd_0 hy.1 hm⟩))⟩, fun q => absurd rfl q⟩) (fun nb y' m => ⟨fun q => absurd q (by decide), fun _ => ri_i (hF _ y' (an_2 hm ⟨hr, by rw [← e23]; exact hb2 nb⟩ m))⟩))
  exact sp_in _ _ _ ⟨fun cc => p32 0 (fun _ => in_lt (bi_ne.mp cc) g.1) (fun z => absurd rfl z), fun cc => p32 1 (fun q => absurd q (by decide)) (fun _ => in_ge (bi_eq.mp cc) g.1)⟩
theorem ma_seen (h : JH C wr n lm x w) (hH : HOI x q) (hm : MI w) (t c : Int32) (hD : 3 ≤ D) (hF : ∀ r w', ansM C wr (f1Ch w) (f2Se w t c) (tSe C wr n w t c) w r w' → F r w') : MT G D z_seen 0 [(0, vr 0), (1, vi t), (2, vi c)] [] w (ri F) := by
  obtain ⟨D, rfl⟩ : ∃ D', D = D' + 2 := ⟨D - 2, by omega⟩
  refine sg_seen_0 _ _ (fun y e => ?_)
  have hy := z0_s e
  have e67 : y.1 0 67 = w.1 0 67 := hy.1.1 67 (by decide)
  have e23 : y.1 0 23 = w.1 0 23 := hy.1.1 23 (by decide)
  have e25 : y.1 0 25 = w.1 0 25 := hy.1.1 25 (by decide)
  have qy := (MI_0 hy.1 hm).1
  refine sc_noRunk hy (fun hr => ⟨fun q => absurd rfl q, fun _ => ?_⟩) (fun c y' m => ⟨fun _ => ri_i (hF _ y' (an_1 hm (show w.1 0 67 = 0 by rw [← e67]; exact c) m)), fun q => absurd q (by decide)⟩)
  obtain ⟨cp, _, _⟩ := RS_of qy hr
  have g := cp.1
  rw [e67] at hr
  obtain ⟨hc, hh, e94⟩ := JH_M h hr
  obtain ⟨mm, m8⟩ := HistC_MM (JH_gc h hH).1.1 (HistC_0 hy.1 hh) (n := n) (by rw [hy.1.1 94 (by decide)]; exact e94)
  have cy : c96 y = c96 w := by unfold c96; rw [hy.1.2 96 (by decide) (by simp)]
  rw [cy] at mm
  have p46 : ∀ b : Int32, (b = 0 → (0 ≤ t.toInt ∧ t.toInt < (y.1 0 25).toInt) ∧ 0 ≤ c.toInt ∧ c.toInt < (y.1 0 23).toInt) → (¬ b = 0 → ¬ ((0 ≤ t.toInt ∧ t.toInt < (y.1 0 25).toInt) ∧ 0 ≤ c.toInt ∧ c.toInt < (y.1 0 23).toInt)) → MT G (D + 2) z_seen 46 [(0, vr 0), (1, vi t), (2, vi c)] [vi b, vr 0] y (ri F) := fun b hb hb2 => sg_seen_46 _ _ _ (sc_refk b 2 hy (by decide) (fun b0 => ⟨fun _ => by
    obtain ⟨b1, b2⟩ := hb b0
    have g2 := g.2.1
    have g6 := g.2.2.2.2.2.1
    have tv : vp_in t 6 := by rw [vp_in_iff]; omega
    have tq := mm.2.2 _ (vt tv)
    refine sp_see3 t c tv (by rw [vp_in_iff]; omega) (m8 _ (vt tv)) tq.2.2.2.2.2.2.2.2.1 (ri_i (hF _ y (an_3 qy hr (fun z => z.2 (by rw [← e23, ← e25]; exact hb b0)) hy.2 ⟨?_, rd_0 hy.1 hm⟩)))
    unfold seM
    rw [mm.1 c.toNatClampNeg (by have := t_cl c; omega), t_cl, t_cl], fun q => absurd rfl q⟩) (fun nb y' m => ⟨fun q => absurd q (by decide), fun _ => ri_i (hF _ y' (an_2 hm ⟨hr, by rw [← e23, ← e25]; exact hb2 nb⟩ m))⟩))
  exact sp_in _ _ _ ⟨fun c1 => p46 1 (fun q => absurd q (by decide)) (fun _ z => in_ge (bi_eq.mp c1) g.2.2.2.2.1 z.1), fun c1 => sp_in _ _ _ ⟨fun c2 => p46 0 (fun _ => ⟨in_lt (bi_ne.mp c1) g.2.2.2.2.1, in_lt (bi_ne.mp c2) g.1⟩) (fun z => absurd rfl z), fun c2 => p46 1 (fun q => absurd q (by decide)) (fun _ z => in_ge (bi_eq.mp c2) g.1 z.2)⟩⟩
end RST
section KRS
variable {G : kG} {q : kP} {d : Nat} {x y w w' : gd} {P : Option gv → gd → Prop} {X : String → gd → Prop} {C : gCo} {wr n : Nat} {lm : Nat → Nat}
theorem ka_cell (h : JH C wr n lm x w) (hq : kV q) (hH : HOI x q) (l1 : Int32) (hX1 : e1Ch x → X iSE x) (hX2 : e2Ce x l1 → X iOE x) (hP : ¬ e1Ch x → ¬ e2Ce x l1 → ∀ r y, HOI y q → sCe C wr n (c96 w) x l1 r y → P (some (vi r)) y) : KE G q (d + 7) zk_X11_cell 0 [(0, vr 0), (1, vi l1)] [] x P X :=
  kg_X11_cell_0 hq l1 (kh_run hq hH hX1 (fun h10 hR => kh_ix hq l1 _ (fun hn => hX2 ⟨h10, hn⟩) (fun l0 l9 => ⟨by have := hR.1.1.1.1; rw [vp_in_iff]; omega, hP h10 (fun z => z.2 ⟨l0, l9⟩) _ x hH ⟨by
    have g := (JH_R h h10).2.1.2.1.1.1.1 l1.toInt.toNat (by omega)
    rw [t_cl]
    exact g, KR_rf⟩⟩)))
theorem ka_seen (h : JH C wr n lm x w) (hq : kV q) (hH : HOI x q) (l1 l2 : Int32) (hX1 : e1Ch x → X iSE x) (hX2 : e2Se x l1 l2 → X iOE x) (hP : ¬ e1Ch x → ¬ e2Se x l1 l2 → ∀ r y, HOI y q → sSe C wr n (c96 w) x l1 l2 r y → P (some (vi r)) y) : KE G q (d + 7) zk_X11_seen 0 [(0, vr 0), (1, vi l1), (2, vi l2)] [] x P X := by
  refine kg_X11_seen_0 hq l1 l2 (kh_run hq hH hX1 (fun h10 hR => kh_ix hq l1 _ (fun hn => hX2 ⟨h10, fun z => hn z.1⟩) (fun l0 l9 => kh_ix hq l2 _ (fun hn => hX2 ⟨h10, fun z => hn z.2⟩) (fun g0 g9 => ?_))))
  obtain ⟨j, r, -, -⟩ := JH_R h h10
  have e10 : (x.1 60 10).toInt = (C.2.1.length : Nat) := j.2.1.2.1.1
  exact kh_seenBy hq (Or.inl rfl) hR.1 j.2.1 r.2.1.1 l1 l2 (T := l1.toInt.toNat) (c' := l2.toInt.toNat) (by omega) (by omega) (by omega) (by omega) (hP h10 (fun z => z.2 ⟨⟨l0, l9⟩, g0, g9⟩) _ x hH ⟨rfl, KR_rf⟩)
theorem ja_cell {l r9 r : Int32} (h : JH C wr n lm x w) (hH : HOI y q) (k : ansK (e1Ch x) (e2Ce x l) (sCe C wr n (c96 w) x l) x r9 y) (m : ansM C wr (f1Ch w) (f2Ce w l) (tCe C wr n w l) w r w') : JR3 y w' ∧ ansE r9 r y w' := by
  have e9 := JH_10 h
  refine ans_eq h hH e9 ⟨fun z => ⟨fun a => z.1 (e9.mpr a), by rw [← (JH_R h z.1).1.1.2.2.1]; exact z.2⟩, fun z => ⟨fun a => z.1 (e9.mp a), by rw [(JH_R h (fun a => z.1 (e9.mp a))).1.1.2.2.1]; exact z.2⟩⟩ (fun a z => z.1 a) k m (fun c _ r' s t => ⟨JQ_rd h hH s.2 t.2, s.1.trans t.1.symm⟩)
theorem ja_seen {l1 l2 r9 r : Int32} (h : JH C wr n lm x w) (hH : HOI y q) (k : ansK (e1Ch x) (e2Se x l1 l2) (sSe C wr n (c96 w) x l1 l2) x r9 y) (m : ansM C wr (f1Ch w) (f2Se w l1 l2) (tSe C wr n w l1 l2) w r w') : JR3 y w' ∧ ansE r9 r y w' := by
  have e9 := JH_10 h
  refine ans_eq h hH e9 ⟨fun z => ⟨fun a => z.1 (e9.mpr a), by rw [← (JH_R h z.1).1.1.2.2.1, ← (JH_R h z.1).1.1.2.2.2.2.1]; exact z.2⟩, fun z => ⟨fun a => z.1 (e9.mp a), by rw [(JH_R h (fun a => z.1 (e9.mp a))).1.1.2.2.1, (JH_R h (fun a => z.1 (e9.mp a))).1.1.2.2.2.2.1]; exact z.2⟩⟩ (fun a z => z.1 a) k m (fun c _ r' s t => ⟨JQ_rd h hH s.2 t.2, s.1.trans t.1.symm⟩)
end KRS
end
section
/-! finding: how far the first state is that shows it -/
def fdV (tr : Nat → Prop) (C : gCo) (lm : Nat → Nat) (l1 l2 r : Int32) : Prop := ∃ wn : Nat, (wn = 0 ∨ wn = 1) ∧ l1 = Int32.ofNat wn ∧ ((∃ s, tr wn ∧ fsF C wn (twM C lm wn) l2.toInt.toNat s ∧ r.toInt = ((pth (twM C lm wn) s).length : Nat)) ∨ ((∀ s, tr wn → ¬ fsF C wn (twM C lm wn) l2.toInt.toNat s) ∧ r = -1))
def sFi (C : gCo) (lm : Nat → Nat) (x : gd) (l1 l2 r : Int32) (y : gd) : Prop := fdV (fun v => ¬ x.1 (260 + 20 * v) 0 = 0) C lm l1 l2 r ∧ KRd x y
def tFi (C : gCo) (lm : Nat → Nat) (wr : Nat) (w : gd) (l1 l2 r : Int32) (w' : gd) : Prop := fdV (fun v => ¬ w.1 119 v = 0) C lm l1 l2 r ∧ rdM C wr w w'
theorem fdV_eq {tr tr' : Nat → Prop} {C : gCo} {lm : Nat → Nat} {l1 l2 r r' : Int32} (e : ∀ v, (v = 0 ∨ v = 1) → (tr v ↔ tr' v)) (h : fdV tr C lm l1 l2 r) (g : fdV tr' C lm l1 l2 r') : r = r' := by
  obtain ⟨wn, a1, a2, a3⟩ := h
  obtain ⟨wn', b1, b2, b3⟩ := g
  have ew := wn_eq b1 a1 b2 a2
  subst ew
  rcases a3 with ⟨s, c1, c2, c3⟩ | ⟨c1, c2⟩
  · rcases b3 with ⟨s', d1, d2, d3⟩ | ⟨d1, -⟩
    · have := fsF_u c2 d2
      subst this
      rw [t_eq, c3, d3]
    · exact absurd c2 (d1 s ((e _ a1).mp c1))
  · rcases b3 with ⟨s', d1, d2, d3⟩ | ⟨d1, d2⟩
    · exact absurd d2 (c1 s' ((e _ a1).mpr d1))
    · rw [c2, d2]
section KFI
variable {G : kG} {q : kP} {d : Nat} {x y w w' : gd} {P : Option gv → gd → Prop} {X : String → gd → Prop} {C : gCo} {wr n : Nat} {lm : Nat → Nat}
theorem ja_finding {l1 l2 r9 r : Int32} (h : JH C wr n lm x w) (hH : HOI y q) (k : ansK (e1Sh l1 l2) False (sFi C lm x l1 l2) x r9 y) (m : ansM C wr (e1Sh l1 l2) False (tFi C lm wr w l1 l2) w r w') : JR3 y w' ∧ ansE r9 r y w' :=
  ans_eq h hH Iff.rfl Iff.rfl (fun _ z => z) k m (fun c _ r' s t => ⟨JQ_rd h hH s.2 t.2, fdV_eq (fun v v01 => ⟨fun a b => a ((JH_T h v v01).1.mpr b), fun a b => a ((JH_T h v v01).1.mp b)⟩) s.1 t.1⟩)
theorem ka_finding (h : JH C wr n lm x w) (hq : kV q) (hH : HOI x q) (l1 l2 : Int32) (hX1 : e1Sh l1 l2 → X iAE x) (hP : ¬ e1Sh l1 l2 → ¬ False → ∀ r y, HOI y q → sFi C lm x l1 l2 r y → P (some (vi r)) y) : KE G q (d + 7) zk_X11_finding 0 [(0, vr 0), (1, vi l1), (2, vi l2)] [] x P X := by
  refine kg_X11_finding_0 hq l1 l2 (kf_way hq l1 (fun z => hX1 (fun z2 => z z2.1)) (fun hw => kh_fnd hq l2 (fun z => hX1 (fun z2 => z z2.2)) (fun f0 f11 => ?_)))
  obtain ⟨v, w01, ew, ewn⟩ := w_nat hw
  have ok : ¬ e1Sh l1 l2 := fun z => z ⟨hw, f0, f11⟩
  have hP := hP ok (fun z => z)
  refine kg_X11_firstState_0 hq l1 l2 (kh_was (w := v) hq hH l1 w01 ew (fun c0 => ⟨fun _ => ?_, fun c => absurd rfl c⟩) (fun e7 ho hz hC nz => ⟨fun c => absurd c (by decide), fun _ => ⟨way_in hw, fun u5 e5 => ⟨260 + 20 * v, by rw [e5, ewn, e7], ho, by rw [vp_in_iff]; omega, ?_⟩⟩⟩))
  · exact ri_i ⟨fun c => absurd rfl c, fun _ => hP _ x hH ⟨⟨v, w01, ew, Or.inr ⟨fun s t => absurd c0 t, rfl⟩⟩, KR_rf⟩⟩
  obtain ⟨-, ⟨⟨t0, -⟩, hPA, hFN⟩, -⟩ := (JH_T h v w01).2 nz
  have F2 : l2.toNatClampNeg = l2.toInt.toNat := rfl
  have b3 := hz.1.2
  rw [F2]
  rcases hFN l2.toInt.toNat (by omega) with ⟨g1, g2⟩ | ⟨s, p, g1, g2, g3, g4, g5⟩
  · rw [g1]
    refine ri_i ⟨fun c => absurd rfl c, fun _ => hP _ x hH ⟨⟨v, w01, ew, Or.inr ⟨fun s _ hs => ?_, rfl⟩⟩, KR_rf⟩⟩
    obtain ⟨p, a1, a2, -⟩ := hs
    exact g2 s p (gt_lt a1) a1 a2
  · obtain ⟨r, er⟩ : ∃ r, r = x.1 (260 + 20 * v + 7) l2.toInt.toNat := ⟨_, rfl⟩
    rw [← er] at g2 ⊢
    have rS : r.toNatClampNeg = s := by rw [t_cl, g2]; rfl
    have sl := gt_lt g3
    refine ri_i ⟨fun c => ⟨way_in hw, fun u7 e => ⟨260 + 20 * v, by rw [e, ewn, e7], ho, by rw [vp_in_iff]; omega, ?_⟩⟩, fun c => ?_⟩
    · rw [rS]
      exact hP _ x hH ⟨⟨v, w01, ew, Or.inl ⟨s, nz, ⟨p, g3, g4, g5⟩, PA_d TW_try hPA s s p (Nat.le_refl _) g3⟩⟩, KR_rf⟩
    · rw [c, tm1] at g2; omega
end KFI
section MFI
variable {G : mG} {d D : Nat} {x w : gd} {F : Int32 → gd → Prop} {C : gCo} {wr n : Nat} {lm : Nat → Nat} {q : kP}
theorem ma_finding (h : JH C wr n lm x w) (hH : HOI x q) (hm : MI w) (l1 l2 : Int32) (hD : 3 ≤ D) (hF : ∀ r w', ansM C wr (e1Sh l1 l2) False (tFi C lm wr w l1 l2) w r w' → F r w') : MT G D z_finding 0 [(0, vr 0), (1, vi l1), (2, vi l2)] [] w (ri F) := by
  obtain ⟨D, rfl⟩ : ∃ D', D = D' + 1 := ⟨D - 1, by omega⟩
  have km1 : (-1 : Int32).toInt = -1 := rfl
  refine sg_finding_0 _ _ (fun y e => ?_)
  have hy := z0_s e
  have qy := (MI_0 hy.1 hm).1
  have g119 : y.1 119 = w.1 119 := hy.1.2 119 (by decide) (by simp)
  have p63 : ∀ v : Nat, (v = 0 ∨ v = 1) → l1 = Int32.ofNat v → vp_in l1 2 → 0 ≤ l2.toInt → l2.toInt < 11 → ∀ s : Int32, (s = -1 → ∀ S, ¬ w.1 119 v = 0 → ¬ fsF C v (twM C lm v) l2.toInt.toNat S) → (¬ s = -1 → ¬ w.1 119 v = 0 ∧ ∃ S : Nat, s.toInt = (S : Nat) ∧ fsF C v (twM C lm v) l2.toInt.toNat S) → MT G (D + 1) z_finding 63 [(0, vr 0), (1, vi l1)] [vi s] y (ri F) := by
    intro v w01 ew wv f0 f1 s h1 h2
    have ok : ¬ e1Sh l1 l2 := fun z => z ⟨w_01 w01 ew, f0, f1⟩
    refine sg_finding_63 _ _ ⟨fun ne => ?_, fun e1 => ri_i (hF _ y (an_3 qy ok (fun z => z) hy.2 ⟨⟨v, w01, ew, Or.inr ⟨h1 e1, rfl⟩⟩, rd_0 hy.1 hm⟩))⟩
    obtain ⟨tr, S, es, hfs⟩ := h2 ne
    have tyw := ((JH_T h v w01).2 (fun z => tr ((JH_T h v w01).1.mp z))).2.2
    have ty : TYc C v y (twM C lm v) := TYc_mi hy.1 rfl tyw
    obtain ⟨p9, hp9, -⟩ := id hfs
    have sS := gt_lt hp9
    have b3 := ty.2.1
    have tm := tmul (k := 3000) (K := 3000) (N := 6000) (n := 3000) (i := s) rfl wv (by omega) (by omega) (by omega) (by omega) (by omega)
    have e9 : l1.toNatClampNeg = v := by rcases w01 with e | e <;> rw [ew, e] <;> rfl
    have cs : s.toNatClampNeg = S := by rw [t_cl, es]; rfl
    refine ⟨tm.1, ri_i (hF _ y (an_3 qy ok (fun z => z) hy.2 ⟨⟨v, w01, ew, Or.inl ⟨S, tr, hfs, ?_⟩⟩, rd_0 hy.1 hm⟩))⟩
    rw [tm.2, e9, cs]
    exact TYc_d TW_try ty S S p9 (Nat.le_refl _) hp9
  have p30 : ∀ b : Int32, (b = 0 → (vp_in l1 2 ∧ (l1 = 0 ∨ l1 = 1)) ∧ 0 ≤ l2.toInt ∧ l2.toInt < 11) → (¬ b = 0 → e1Sh l1 l2) → MT G (D + 1) z_finding 30 [(0, vr 0), (1, vi l1), (2, vi l2)] [vi b, vr 0] y (ri F) := by
    intro b hb hb2
    refine sg_finding_30 _ _ _ (sc_refk b 1 hy (by decide) (fun b0 => ⟨fun _ => ?_, fun q => absurd rfl q⟩) (fun nb y' m => ⟨fun q => absurd q (by decide), fun _ => ri_i (hF _ y' (an_1 hm (hb2 nb) m))⟩))
    obtain ⟨⟨wv, hw⟩, f0, f1⟩ := hb b0
    obtain ⟨v, w01, ew, ewn⟩ := w_nat hw
    obtain ⟨fv, fe⟩ := t11 wv f0 f1
    rw [ewn, g119]
    refine ⟨wv, fun t0 => p63 v w01 ew wv f0 f1 _ (fun _ S t => absurd t0 t) (fun z => absurd rfl z), fun tr => ⟨fv, ?_⟩⟩
    have tyw := ((JH_T h v w01).2 (fun z => tr ((JH_T h v w01).1.mp z))).2.2
    have ty : TYc C v y (twM C lm v) := TYc_mi hy.1 rfl tyw
    have cf : l2.toNatClampNeg = l2.toInt.toNat := rfl
    rw [fe, ewn, cf]
    refine p63 v w01 ew wv f0 f1 _ (fun e1 S _ hS => ?_) (fun ne => ⟨tr, ?_⟩)
    · rcases ty.2.2.1 l2.toInt.toNat (by omega) with ⟨-, g2⟩ | ⟨s9, p8, -, g2, -⟩
      · obtain ⟨p, a1, a2, -⟩ := hS
        exact g2 S p (gt_lt a1) a1 a2
      · have g2 : (y.1 126 (11 * v + l2.toInt.toNat)).toInt = (s9 : Nat) := g2
        rw [e1, km1] at g2; omega
    · rcases ty.2.2.1 l2.toInt.toNat (by omega) with ⟨g1, -⟩ | ⟨s9, p8, g1, g2, g3, g4, g5⟩
      · exact absurd g1 ne
      · exact ⟨s9, g2, p8, g3, g4, g5⟩
  refine sp_in _ _ _ ⟨fun c1 => p30 1 (fun q => absurd q (by decide)) (fun _ hg => ?_), fun c1 => sp_in _ _ _ ⟨fun c2 => p30 0 (fun _ => ⟨w_in (bi_ne.mp c1), f_in (bi_ne.mp c2)⟩) (fun z => absurd rfl z), fun c2 => p30 1 (fun q => absurd q (by decide)) (fun _ hg => ?_)⟩⟩
  · refine bi_eq.mp c1 ?_
    rcases hg.1 with e9 | e9 <;> rw [e9]
    · exact ⟨by decide, by decide⟩
    · exact ⟨by decide, by decide⟩
  · have k0 : (0 : Int32).toInt = 0 := rfl
    have k10 : (10 : Int32).toInt = 10 := rfl
    refine bi_eq.mp c2 ⟨t_le.mpr (by rw [k0]; exact hg.2.1), t_le.mpr ?_⟩
    have := hg.2.2
    rw [k10]; omega
end MFI
end
section
/-! local: a local that is known -/
def lowc (sl : List Nat) (k : Nat) : Nat := (sl.filter (fun s => decide (s < k))).length
def knL (C : gCo) (h : gTq) : Nat := if h.1 = 1 ∨ h.1 = 3 then (stN C h.2.2.1).2.1.length else 0
section LOC
variable {sl r : List Nat} {a k : Nat}
theorem lowc_c : lowc (a :: r) k = lowc r k + (if a < k then 1 else 0) := by
  unfold lowc
  by_cases c : a < k
  · rw [List.filter_cons_of_pos (by simpa using c), List.length_cons, if_pos c]
  · rw [List.filter_cons_of_neg (by simpa using c), if_neg c]; rfl
theorem lowc_s : ∀ {sl : List Nat}, sl.Pairwise (fun a b => b < a) → ∀ k, lowc sl (k + 1) = lowc sl k + (if k ∈ sl then 1 else 0) := by
  intro sl
  induction sl with
  | nil => intro _ k; rw [if_neg (by simp)]; rfl
  | cons a r ih =>
    intro h k
    obtain ⟨h1, h2⟩ := List.pairwise_cons.mp h
    rw [lowc_c, lowc_c, ih h2 k]
    by_cases c : a = k
    · rw [if_pos (show a < k + 1 by omega), if_neg (show ¬ a < k by omega), if_neg (fun z => by have := h1 k z; omega), if_pos (by rw [c]; exact List.mem_cons_self)]
    · have e : (k ∈ a :: r) ↔ k ∈ r := ⟨fun z => (List.mem_cons.mp z).resolve_left (fun z => c z.symm), fun z => List.mem_cons_of_mem _ z⟩
      by_cases d : k ∈ r
      · rw [if_pos d, if_pos (e.mpr d)]
        have := h1 k d
        rw [if_neg (by omega), if_neg (by omega)]
      · rw [if_neg d, if_neg (fun z => d (e.mp z))]
        by_cases f : a < k
        · rw [if_pos (by omega), if_pos f]
        · rw [if_neg (by omega), if_neg f]
theorem lowc_in : ∀ {sl : List Nat}, sl.Pairwise (fun a b => b < a) → ∀ {k : Nat}, k ∈ sl → lowc sl k < sl.length ∧ slN sl (lowc sl k) = k := by
  intro sl
  induction sl with
  | nil => intro _ k hk; cases hk
  | cons a r ih =>
    intro h k hk
    obtain ⟨h1, h2⟩ := List.pairwise_cons.mp h
    rw [lowc_c]
    by_cases c : a = k
    · have e : lowc r k = r.length := by
        unfold lowc
        rw [List.filter_eq_self.mpr (fun b hb => by have := h1 b hb; simpa using (show b < k by omega))]
      rw [if_neg (by omega), e, Nat.add_zero]
      exact ⟨Nat.lt_succ_self _, by rw [slN, if_pos rfl, c]⟩
    · have hk' := (List.mem_cons.mp hk).resolve_left (fun z => c z.symm)
      have := h1 k hk'
      obtain ⟨i1, i2⟩ := ih h2 hk'
      rw [if_neg (by omega), Nat.add_zero]
      exact ⟨Nat.lt_succ_of_lt i1, by rw [slN, if_neg (by omega)]; exact i2⟩
theorem lowc_8 (h : ∀ s ∈ sl, s < 8) : lowc sl 8 = sl.length := by
  unfold lowc
  rw [List.filter_eq_self.mpr (fun b hb => by simpa using h b hb)]
theorem lowc_0 : lowc sl 0 = 0 := by
  unfold lowc
  rw [List.filter_eq_nil_iff.mpr (fun b _ => by simp)]
  rfl
theorem lowc_le (h : sl.Pairwise (fun a b => b < a)) : ∀ k, lowc sl k ≤ k := by
  intro k
  induction k with
  | zero => rw [lowc_0]; exact Nat.le_refl _
  | succ k ih =>
    rw [lowc_s h k]
    split <;> omega
end LOC
theorem st_4 : ∀ a, a < 4 → ∀ b, b < 4 → ((Int32.ofNat a = Int32.ofNat b) ↔ a = b) := by decide +kernel
abbrev inL (nt : Int) (kn : Nat → Nat) (l1 l2 : Int32) : Prop := (0 ≤ l1.toInt ∧ l1.toInt < nt) ∧ 0 ≤ l2.toInt ∧ l2.toInt < (kn l1.toInt.toNat : Nat)
abbrev e2Lo (C : gCo) (wr n : Nat) (c : Nat → Nat) (x : gd) (l1 l2 : Int32) : Prop := ¬ x.1 0 10 = 0 ∧ ¬ inL (x.1 60 10).toInt (fun t => knL C ((runM C wr c n).2.2 t)) l1 l2
def sLo (C : gCo) (wr n : Nat) (c : Nat → Nat) (x : gd) (l1 l2 r : Int32) (y : gd) : Prop := r = ((runM C wr c n).2.2 l1.toInt.toNat).2.2.2.2.2.2.2 l2.toInt.toNat ∧ KRd x y
abbrev f2Lo (C : gCo) (wr n : Nat) (w : gd) (l1 l2 : Int32) : Prop := ¬ w.1 0 67 = 0 ∧ ¬ inL (w.1 0 25).toInt (fun t => knL C ((runM C wr (c96 w) n).2.2 t)) l1 l2
def tLo (C : gCo) (wr n : Nat) (w : gd) (l1 l2 r : Int32) (w' : gd) : Prop := r = ((runM C wr (c96 w) n).2.2 l1.toInt.toNat).2.2.2.2.2.2.2 l2.toInt.toNat ∧ rdM C wr w w'
section KLO
variable {G : kG} {q : kP} {d : Nat} {x y w w' : gd} {P : Option gv → gd → Prop} {X : String → gd → Prop} {C : gCo} {wr n : Nat} {lm : Nat → Nat}
/-- a thread stands at a step that there is -/
theorem JH_st (h : JH C wr n lm x w) (hH : HOI x q) (h10 : ¬ x.1 0 10 = 0) {t : Nat} (ht : (t : Int) < (x.1 60 10).toInt) : ∃ st, C.1[((runM C wr (c96 w) n).2.2 t).2.2.1]? = some st ∧ stN C ((runM C wr (c96 w) n).2.2 t).2.2.1 = st := by
  obtain ⟨j, r, -, -⟩ := JH_R h h10
  have hR := hH.2.2.1 h10
  have ta := (hR.1.2.2 t ht).1.1
  have e10 : (x.1 60 10).toInt = (C.2.1.length : Nat) := j.2.1.2.1.1
  have kq := r.2.1.1.2 t (by omega)
  have e2 := kq.2.2.1
  have el : (x.1 80 9).toInt = (C.1.length : Nat) := j.2.1.1.1
  have ss : ssm x = (x.1 80 9).toInt := rfl
  have hl : ((runM C wr (c96 w) n).2.2 t).2.2.1 < C.1.length := by omega
  have hg := List.getElem?_eq_getElem hl
  exact ⟨_, hg, by unfold stN; rw [hg]; rfl⟩
theorem ka_local (h : JH C wr n lm x w) (hq : kV q) (hH : HOI x q) (l1 l2 : Int32) (hX1 : e1Ch x → X iSE x) (hX2 : e2Lo C wr n (c96 w) x l1 l2 → X iOE x) (hP : ¬ e1Ch x → ¬ e2Lo C wr n (c96 w) x l1 l2 → ∀ r y, HOI y q → sLo C wr n (c96 w) x l1 l2 r y → P (some (vi r)) y) : KE G q (d + 7) zk_X11_local 0 [(0, vr 0), (1, vi l1), (2, vi l2)] [] x P X := by
  have hm : kiM q 120 := Or.inl rfl
  have k8 : (8 : Int32).toInt = 8 := rfl
  refine kg_X11_local_0 hq l1 l2 (kh_run hq hH hX1 (fun h10 hR => kh_ix hq l1 _ (fun hn => hX2 ⟨h10, fun z => hn z.1⟩) (fun l0 l9 => ?_)))
  have hT : ((l1.toInt.toNat : Nat) : Int) < (x.1 60 10).toInt := by omega
  have eT : l1.toInt = ((l1.toInt.toNat : Nat) : Int) := by omega
  have hT6 := MM_6 hR.1.1 hT
  have hA := (hR.1.2.2 _ hT).1
  obtain ⟨st, hs, es⟩ := JH_st h hH h10 hT
  obtain ⟨j, r, -, -⟩ := JH_R h h10
  have e10 : (x.1 60 10).toInt = (C.2.1.length : Nat) := j.2.1.2.1.1
  obtain ⟨H, eH⟩ : ∃ H, H = (runM C wr (c96 w) n).2.2 l1.toInt.toNat := ⟨_, rfl⟩
  have kq := r.2.1.1.2 l1.toInt.toNat (by omega)
  rw [← eH] at kq hs es
  obtain ⟨⟨q0, q0'⟩, -, q2, -, -, -, -, qv, ql⟩ := kq
  have e83 : (x.1 83 H.2.2.1).toInt = (st.2.1.length : Nat) := (j.2.1.1.2 _ st hs).2.1
  have s13 : (rg x 120 l1.toInt.toNat 0 = 1 ∨ rg x 120 l1.toInt.toNat 0 = 3) ↔ (H.1 = 1 ∨ H.1 = 3) := by
    rw [q0]
    exact or_congr (st_4 _ (by omega) 1 (by decide)) (st_4 _ (by omega) 3 (by decide))
  refine kh_known hq hm hR.1.1 hR.1.2.1 l1 eT hT6 hA (fun r9 r0 r8 a1 a2 => ?_)
  have er : r9.toInt = (knL C H : Nat) := by
    unfold knL
    by_cases c : H.1 = 1 ∨ H.1 = 3
    · have e2 : (rg x 120 l1.toInt.toNat 2).toInt.toNat = H.2.2.1 := by rw [q2]; rfl
      rw [a1 (s13.mpr c), if_pos c, es, e2]; exact e83
    · rw [a2 (fun z => c (s13.mp z)), if_neg c]; rfl
  have inq : inL (x.1 60 10).toInt (fun t => knL C ((runM C wr (c96 w) n).2.2 t)) l1 l2 ↔ ((0 ≤ l1.toInt ∧ l1.toInt < (x.1 60 10).toInt) ∧ 0 ≤ l2.toInt ∧ l2.toInt < (knL C H : Nat)) := by
    rw [eH]
  refine kh_ix hq l2 r9 (fun hn => hX2 ⟨h10, fun z => hn ?_⟩) (fun g0 g9 => ?_)
  · have := (inq.mp z).2
    rw [er]; exact this
  rw [er] at g9
  have c13 : H.1 = 1 ∨ H.1 = 3 := by
    apply Classical.byContradiction
    intro c
    unfold knL at g9
    rw [if_neg c] at g9
    omega
  have gl : l2.toInt < (st.2.1.length : Nat) := by
    unfold knL at g9
    rw [if_pos c13, es] at g9
    exact g9
  have g13 := ql c13
  rw [es] at g13
  refine kp_get hq hm hR.1.1 hR.1.2.1 l1 (8 + l2) (K := 8 + l2.toInt.toNat) eT ?_ hT6 (by omega) (hP h10 (fun z => z.2 (inq.mpr ⟨⟨l0, l9⟩, g0, g9⟩)) _ x hH ⟨?_, KR_rf⟩)
  · rw [t_add (by rw [k8]; omega) (by rw [k8]; omega), k8]; omega
  · rw [← eH]
    exact qv l2.toInt.toNat (by omega)
theorem ja_local {l1 l2 r9 r : Int32} (h : JH C wr n lm x w) (hH : HOI y q) (k : ansK (e1Ch x) (e2Lo C wr n (c96 w) x l1 l2) (sLo C wr n (c96 w) x l1 l2) x r9 y) (m : ansM C wr (f1Ch w) (f2Lo C wr n w l1 l2) (tLo C wr n w l1 l2) w r w') : JR3 y w' ∧ ansE r9 r y w' := by
  have e9 := JH_10 h
  refine ans_eq h hH e9 ⟨fun z => ⟨fun a => z.1 (e9.mpr a), by rw [← (JH_R h z.1).1.1.2.2.2.2.1]; exact z.2⟩, fun z => ⟨fun a => z.1 (e9.mp a), by rw [(JH_R h (fun a => z.1 (e9.mp a))).1.1.2.2.2.2.1]; exact z.2⟩⟩ (fun a z => z.1 a) k m (fun c _ r' s t => ⟨JQ_rd h hH s.2 t.2, s.1.trans t.1.symm⟩)
end KLO
section MLO
variable {G : mG} {d D : Nat} {x w : gd} {F : Int32 → gd → Prop} {C : gCo} {wr n : Nat} {lm : Nat → Nat} {q : kP}
theorem ma_local (h : JH C wr n lm x w) (hH : HOI x q) (hm : MI w) (t i : Int32) (hD : 3 ≤ D) (hF : ∀ r w', ansM C wr (f1Ch w) (f2Lo C wr n w t i) (tLo C wr n w t i) w r w' → F r w') : MT G D z_local 0 [(0, vr 0), (1, vi t), (2, vi i)] [] w (ri F) := by
  obtain ⟨D, rfl⟩ : ∃ D', D = D' + 2 := ⟨D - 2, by omega⟩
  have k0 : (0 : Int32).toInt = 0 := rfl
  have k1 : (1 : Int32).toInt = 1 := rfl
  have k8 : (8 : Int32).toInt = 8 := rfl
  refine sg_local_0 _ _ (fun y e => ?_)
  have hy := z0_s e
  have e67 : y.1 0 67 = w.1 0 67 := hy.1.1 67 (by decide)
  have e25 : y.1 0 25 = w.1 0 25 := hy.1.1 25 (by decide)
  have qy := (MI_0 hy.1 hm).1
  refine sc_noRunk hy (fun hr => ⟨fun q => absurd rfl q, fun _ => ?_⟩) (fun c y' m => ⟨fun _ => ri_i (hF _ y' (an_1 hm (show w.1 0 67 = 0 by rw [← e67]; exact c) m)), fun q => absurd q (by decide)⟩)
  obtain ⟨cp, _, rt⟩ := RS_of qy hr
  have g := cp.1
  have g6 := g.2.2.2.2.2.1
  rw [e67] at hr
  have h10 : ¬ x.1 0 10 = 0 := fun z => hr ((JH_10 h).mp z)
  obtain ⟨hc, hh, e94⟩ := JH_M h hr
  have gc := (JH_gc h hH).1
  obtain ⟨mm, m8⟩ := HistC_MM gc.1 (HistC_0 hy.1 hh) (n := n) (by rw [hy.1.1 94 (by decide)]; exact e94)
  have cy : c96 y = c96 w := by unfold c96; rw [hy.1.2 96 (by decide) (by simp)]
  rw [cy] at mm
  have hKy : MK y C := MK_mi hy.1 rfl rfl (JH_R h h10).1.2.2.1
  have jn : x.1 60 10 = w.1 0 25 := (JH_R h h10).1.1.2.2.2.2.1
  -- the locals of a thread that there is
  have main : 0 ≤ t.toInt → t.toInt < (y.1 0 25).toInt → MT G (D + 1) z_knownOf 0 [(0, vr 0), (1, vi t)] [] y (ri (fun r4 x3 => MT G (D + 2) z_local 53 [(0, vr 0), (1, vi t), (2, vi i), (3, vi r4), (4, vi 0), (5, vi 0)] [] x3 (ri F))) := by
    intro t0 t1
    have tv : vp_in t 6 := by rw [vp_in_iff]; omega
    have ct := t_cl t
    have t6 : t.toInt.toNat < 6 := by omega
    obtain ⟨H, eH⟩ : ∃ H, H = (runM C wr (c96 w) n).2.2 t.toInt.toNat := ⟨_, rfl⟩
    obtain ⟨st, hs, es⟩ := JH_st h hH h10 (t := t.toInt.toNat) (by rw [jn, ← e25]; omega)
    have tq := mm.2.2 t.toInt.toNat t6
    rw [← eH] at hs es tq
    obtain ⟨q0, q0', -, q2, -, -, -, -, -, q7, -⟩ := tq
    obtain ⟨np, nl, n8⟩ := (gc.1.1 _ st hs).2.2.2.2.1
    have s8 : ∀ s ∈ st.2.1, s < 8 := fun s hs9 => by have := nl s hs9; omega
    have e62 : y.1 62 H.2.2.1 = kmN st.2.1 := (hKy.1.2 _ st hs).2.2.2.2.2.2.2.2
    have inq : inL (w.1 0 25).toInt (fun t => knL C ((runM C wr (c96 w) n).2.2 t)) t i ↔ ((0 ≤ t.toInt ∧ t.toInt < (w.1 0 25).toInt) ∧ 0 ≤ i.toInt ∧ i.toInt < (knL C H : Nat)) := by
      rw [eH]
    -- over the slots
    obtain ⟨sl, esl⟩ : ∃ sl : List Nat, sl = (if H.1 = 1 ∨ H.1 = 3 then st.2.1 else []) := ⟨_, rfl⟩
    have slp : sl.Pairwise (fun a b => b < a) := by rw [esl]; split; exact np; exact List.Pairwise.nil
    have sl8 : ∀ s ∈ sl, s < 8 := by rw [esl]; split; exact s8; exact fun s hs9 => nomatch hs9
    have kl : knL C H = sl.length := by
      unfold knL
      rw [esl, es]
      split
      · rfl
      · rfl
    have loop : ∀ (m k : Nat) (s : Int32), 8 - k ≤ m → k ≤ 8 → s.toInt = (lowc sl k : Nat) → ¬ (0 ≤ i.toInt ∧ i.toInt < (lowc sl k : Nat)) → MT G (D + 2) z_local 53 [(0, vr 0), (1, vi t), (2, vi i), (3, vi (kmN sl)), (4, vi s), (5, vi (Int32.ofNat k))] [] y (ri F) := by
      intro m
      have last : ∀ k : Nat, k = 8 → ¬ (0 ≤ i.toInt ∧ i.toInt < (lowc sl k : Nat)) → MT G (D + 1) z_refuses 0 [(0, vr 0), (1, vi 1), (2, vi 2)] [] y (ri (fun r3 x2 => ri F (some (vi 0)) x2)) := fun k ek hn => sc_refk 1 2 hy (by decide) (fun q => absurd q (by decide)) (fun _ y' m => ri_i (hF _ y' (an_2 hm ⟨hr, fun z => hn (by
        rw [ek, lowc_8 sl8, ← kl]
        exact (inq.mp z).2)⟩ m)))
      have ok : ∀ k, k ≤ 8 → (Int32.ofNat k).toInt = (k : Nat) := fun k hk => Int32.toInt_ofNat_of_lt (by omega)
      induction m with
      | zero =>
        intro k s hk hk8 hs9 hn
        exact sg_local_53 _ _ _ _ _ ⟨fun _ => last k (by omega) hn, fun c => absurd (t_le.mpr (by rw [k8, ok k hk8]; omega)) c⟩
      | succ m ih =>
        intro k s hk hk8 hs9 hn
        refine sg_local_53 _ _ _ _ _ ⟨fun c => last k (by rw [t_le, k8, ok k hk8] at c; omega) hn, fun c => ?_⟩
        rw [t_le, k8, ok k hk8] at c
        have kl8 : k < 8 := by omega
        have e1 : Int32.ofNat k + 1 = Int32.ofNat (k + 1) := by
          rw [t_eq, t_add (by rw [ok k hk8]; omega) (by rw [ok k hk8]; omega), ok k hk8, ok (k + 1) (by omega), k1]
          push_cast; rfl
        have lb : lowc sl k ≤ 8 := by
          unfold lowc
          have h1 := List.length_filter_le (fun s => decide (s < k)) sl
          have h2 : sl.length ≤ 8 := by rw [← lowc_8 sl8]; exact lowc_le slp 8
          omega
        have bit := km_bit sl8 k kl8
        rw [e1, bit]
        have step := lowc_s slp k
        by_cases ck : k ∈ sl
        · rw [if_pos ck] at step ⊢
          refine ⟨fun z => absurd rfl z, fun _ => ⟨fun ne => ih (k + 1) (s + 1) (by omega) (by omega) ?_ ?_, fun eq => ⟨?_, ?_⟩⟩⟩
          · rw [t_add (by rw [k1]; omega) (by rw [k1]; omega), k1, hs9, step]; push_cast; rfl
          · intro z
            rw [step] at z
            have : i.toInt = (lowc sl k : Nat) := by
              have := z.2
              push_cast at this
              omega
            exact ne (t_eq.mpr (by rw [hs9, this]))
          · have m9 : (8 * t).toInt = 8 * t.toInt := by rw [t_mul (by rw [k8]; omega) (by rw [k8]; omega), k8]
            rw [vp_in_iff, t_add (by rw [ok k hk8]; omega) (by rw [ok k hk8]; omega), m9, ok k hk8]; omega
          · obtain ⟨i1, i2⟩ := lowc_in slp ck
            have ei : i.toInt = (lowc sl k : Nat) := by rw [← eq]; exact hs9
            have m9 : (8 * t).toInt = 8 * t.toInt := by rw [t_mul (by rw [k8]; omega) (by rw [k8]; omega), k8]
            have m10 : (8 * t + Int32.ofNat k).toNatClampNeg = 8 * t.toInt.toNat + k := by
              rw [t_cl, t_add (by rw [ok k hk8]; omega) (by rw [ok k hk8]; omega), m9, ok k hk8]; omega
            have c13 : H.1 = 1 ∨ H.1 = 3 := by
              apply Classical.byContradiction
              intro z
              rw [esl, if_neg z] at ck
              cases ck
            have eS : sl = st.2.1 := by rw [esl, if_pos c13]
            refine ri_i (hF _ y (an_3 qy hr (fun z => z.2 (inq.mpr ⟨⟨t0, by rw [← e25]; exact t1⟩, by omega, by rw [kl]; omega⟩)) hy.2 ⟨?_, rd_0 hy.1 hm⟩))
            rw [m10, ← eH]
            have v := q7 c13 i.toInt.toNat (by rw [es, ← eS]; omega)
            rw [es, ← eS, show i.toInt.toNat = lowc sl k by omega, i2] at v
            rw [v, show i.toInt.toNat = lowc sl k by omega]
        · rw [if_neg ck] at step ⊢
          refine ⟨fun _ => ih (k + 1) s (by omega) (by omega) (by rw [hs9, step]; rfl) (by rw [step]; exact hn), fun z => absurd z (by decide)⟩
    have fin := loop 8 0 0 (by omega) (by omega) (by rw [lowc_0]; rfl) (by rw [lowc_0]; intro z; have := z.2; omega)
    have v74 : vp_in (y.1 74 t.toNatClampNeg) 1500 := by rw [vp_in_iff]; exact ⟨(rt _ (vt tv)).1, (rt _ (vt tv)).2.1⟩
    have e74 : (y.1 74 t.toNatClampNeg).toNatClampNeg = H.2.2.1 := by rw [ct, t_cl, q2]; rfl
    have e73 : y.1 73 t.toNatClampNeg = Int32.ofNat H.1 := by rw [ct]; exact q0
    have s4 := fun b hb => st_4 H.1 (by omega) b hb
    refine sg_knownOf_0 _ ⟨tv, fun c => ⟨tv, v74, ri_i ?_⟩, fun c => ⟨tv, fun c3 => ri_i ?_, fun c3 => ⟨tv, v74, ri_i ?_⟩⟩⟩
    · rw [e73] at c
      have c1 : H.1 = 1 := (s4 1 (by decide)).mp c
      rw [e74, e62]
      rw [esl, if_pos (Or.inl c1)] at fin
      exact fin
    · rw [e73] at c c3
      rw [esl, if_neg (fun z => by
        rcases z with z | z
        · exact c ((s4 1 (by decide)).mpr z)
        · exact c3 ((s4 3 (by decide)).mpr z))] at fin
      exact fin
    · rw [e73] at c3
      have c1 : H.1 = 3 := (s4 3 (by decide)).mp c3
      rw [e74, e62]
      rw [esl, if_pos (Or.inr c1)] at fin
      exact fin
  have p32 : ∀ b : Int32, (b = 0 → 0 ≤ t.toInt ∧ t.toInt < (y.1 0 25).toInt) → (¬ b = 0 → ¬ (0 ≤ t.toInt ∧ t.toInt < (y.1 0 25).toInt)) → MT G (D + 2) z_local 32 [(0, vr 0), (1, vi t), (2, vi i)] [vi b, vr 0] y (ri F) := by
    intro b hb hb2
    exact sg_local_32 _ _ _ (sc_refk b 2 hy (by decide) (fun b0 => ⟨fun _ => main (hb b0).1 (hb b0).2, fun q => absurd rfl q⟩) (fun nb y' m => ⟨fun q => absurd q (by decide), fun _ => ri_i (hF _ y' (an_2 hm ⟨hr, fun z => hb2 nb (by rw [e25]; exact z.1)⟩ m))⟩))
  exact sp_in _ _ _ ⟨fun c1 => p32 0 (fun _ => in_lt (bi_ne.mp c1) g.2.2.2.2.1) (fun z => absurd rfl z), fun c1 => p32 1 (fun q => absurd q (by decide)) (fun _ => in_ge (bi_eq.mp c1) g.2.2.2.2.1)⟩
end MLO
end
section
/-! choice: what a choice is -/
noncomputable def chVal (C : gCo) (w : Nat) (M : gMa) (ch : gCh) (k : Int32) : Int32 :=
  if k = 0 then Int32.ofNat ch.1
  else if k = 1 then (if ch.2.1 = none then 0 else 1)
  else if k = 2 then (if ch.2.1 = none then Int32.ofNat (soM C (M.2.2 ch.1)) else 1)
  else if k = 3 then (if ch.2.1 = none then (lkM C w M ch.1).2.1 else Int32.ofNat (((M.2.2 ch.1).2.2.2.2.2.2.1[ch.2.1.getD 0]?).getD (0, 0)).1)
  else opI ch.2.2
abbrev inCh (nc : Int) (l1 l2 : Int32) : Prop := (0 ≤ l1.toInt ∧ l1.toInt < nc) ∧ 0 ≤ l2.toInt ∧ l2.toInt < 5
abbrev e2Ci (x : gd) (l1 l2 : Int32) : Prop := ¬ x.1 0 10 = 0 ∧ ¬ inCh (x.1 120 13).toInt l1 l2
def chR (C : gCo) (wr n : Nat) (c : Nat → Nat) (l1 l2 r : Int32) : Prop := ∃ ch, (chM C wr (runM C wr c n))[l1.toInt.toNat]? = some ch ∧ r = chVal C wr (runM C wr c n) ch l2
def sCi (C : gCo) (wr n : Nat) (c : Nat → Nat) (x : gd) (l1 l2 r : Int32) (y : gd) : Prop := chR C wr n c l1 l2 r ∧ KRd x y
abbrev f2Ci (w : gd) (l1 l2 : Int32) : Prop := ¬ w.1 0 67 = 0 ∧ ¬ inCh (w.1 0 84).toInt l1 l2
def tCi (C : gCo) (wr n : Nat) (w : gd) (l1 l2 r : Int32) (w' : gd) : Prop := chR C wr n (c96 w) l1 l2 r ∧ rdM C wr w w'
theorem chR_eq {C : gCo} {wr n : Nat} {c : Nat → Nat} {l1 l2 r r' : Int32} (h : chR C wr n c l1 l2 r) (g : chR C wr n c l1 l2 r') : r = r' := by
  obtain ⟨ch, a1, a2⟩ := h
  obtain ⟨ch', b1, b2⟩ := g
  rw [a1] at b1
  rw [a2, b2, Option.some.inj b1]
section PCH
variable {C : gCo} {w T : Nat} {M : gMa} {ch : gCh}
theorem lkI_m1 (h : ¬ (lkI C M T).1 = 0) : (lkI C M T).2 = -1 := by
  unfold lkI at h ⊢
  split
  · next e => rw [e] at h; exact absurd rfl h
  · next Q e =>
    simp only [e] at h
    split
    · rfl
    · next v e2 =>
      simp only [e2] at h
      split
      · rfl
      · next c => rw [if_neg c] at h; exact absurd rfl h
theorem lkM_0 (h : (M.2.2 T).2.2.2.1 = 0) : (lkM C w M T).2.1 = (lkI C M T).2 := by
  unfold lkM
  rw [if_neg (fun z => z h)]
  by_cases c : ¬ (lkI C M T).1 = 0
  · rw [if_pos c]
  · rw [if_neg c]
    split
    · rfl
    · split
      · rfl
      · rfl
theorem lkM_w (h : ¬ (M.2.2 T).2.2.2.1 = 0) : (lkM C w M T).2.1 = (stN C (M.2.2 T).2.2.1).2.2.2.2.1 := by
  unfold lkM
  rw [if_pos h]
theorem lkI_no (h : (stN C (M.2.2 T).2.2.1).2.2.2.2.2.2.2.1 = none) : (lkI C M T).2 = (stN C (M.2.2 T).2.2.1).2.2.2.2.1 := by
  unfold lkI
  rw [h]
theorem ch_lt (h : ch ∈ chM C w M) : ¬ ch.2.1 = none → ch.2.2 = none := by
  unfold chM at h
  obtain ⟨t, ht, h⟩ := List.mem_flatMap.mp h
  unfold ch1 at h
  rcases List.mem_append.mp h with h | h
  · by_cases c : canM C w M t
    · rw [if_pos c] at h
      by_cases c8 : soM C (M.2.2 t) = 8 ∧ (stN C (M.2.2 t).2.2.1).2.2.2.2.2.2.1 = false ∧ (M.2.1 (obM C (M.2.2 t).2.2.1)).1 = t + 1 ∧ ¬ waM C M (obM C (M.2.2 t).2.2.1) = []
      · rw [if_pos c8] at h
        obtain ⟨u, hu, e⟩ := List.mem_map.mp h
        subst e
        exact fun z => absurd rfl z
      · rw [if_neg c8] at h
        cases List.mem_singleton.mp h
        exact fun z => absurd rfl z
    · rw [if_neg c] at h; cases h
  · obtain ⟨u, hu, e⟩ := List.mem_map.mp h
    subst e
    exact fun _ => rfl
end PCH
section KCI
variable {G : kG} {q : kP} {d : Nat} {x y w w' : gd} {Fv : gd → Prop} {P : Option gv → gd → Prop} {X : String → gd → Prop} {C : gCo} {wr n : Nat} {lm : Nat → Nat}
theorem kh_what (hq : kV q) (l n : Int32) (hO : ¬ (0 ≤ l.toInt ∧ l.toInt < n.toInt) → X iOE x) (h : 0 ≤ l.toInt → l.toInt < n.toInt → Fv x) : KE G q (d + 6) zk_X11_needWhat 0 [(0, vi l), (1, vi n)] [] x (rv Fv) X := by
  have k0 : (0 : Int32).toInt = 0 := rfl
  refine kg_X11_needWhat_0 hq l n ⟨fun c => kg_X11_needWhat_9 hq (hO ?_), fun c => ⟨fun c2 => rv_i (h ?_ ?_), fun c2 => kg_X11_needWhat_9 hq (hO ?_)⟩⟩
  · rw [t_lt, k0] at c; omega
  · rw [t_lt, k0] at c; omega
  · rw [t_lt] at c2; exact c2
  · rw [t_lt] at c2; omega
theorem kch_4 {x : gd} {o I : Nat} {ch : gCh} (h : kch x o I ch) : x.1 (o + 13) I = opI ch.2.2 := by
  obtain ⟨-, -, -, h4, h5⟩ := h
  cases e : ch.2.2 with
  | none => exact h4 e
  | some k => exact h5 k e
theorem ka_choice (h : JH C wr n lm x w) (hq : kV q) (hH : HOI x q) (l1 l2 : Int32) (hX1 : e1Ch x → X iSE x) (hX2 : e2Ci x l1 l2 → X iOE x) (hP : ¬ e1Ch x → ¬ e2Ci x l1 l2 → ∀ r y, HOI y q → sCi C wr n (c96 w) x l1 l2 r y → P (some (vi r)) y) : KE G q (d + 7) zk_X11_choice 0 [(0, vr 0), (1, vi l1), (2, vi l2)] [] x P X := by
  have hm : kiM q 120 := Or.inl rfl
  have k5 : (5 : Int32).toInt = 5 := rfl
  refine kg_X11_choice_0 hq l1 l2 (kh_run hq hH hX1 (fun h10 hR => kh_ix hq l1 _ (fun hn => hX2 ⟨h10, fun z => hn z.1⟩) (fun l0 l9 => kh_what hq l2 5 (fun hn => hX2 ⟨h10, fun z => hn (by rw [k5]; exact z.2)⟩) (fun g0 g9 => ?_))))
  rw [k5] at g9
  obtain ⟨j, r, -, -⟩ := JH_R h h10
  have gc := JH_gc h hH
  obtain ⟨M, eM⟩ : ∃ M, M = runM C wr (c96 w) n := ⟨_, rfl⟩
  have hP := hP h10 (fun z => z.2 ⟨⟨l0, l9⟩, g0, g9⟩)
  unfold sCi chR at hP
  rw [← eM] at hP
  obtain ⟨-, ⟨r2, r3, r4⟩, -⟩ := r
  rw [← eM] at r2 r3 r4
  have len := r4.1
  have len : (x.1 120 13).toInt = ((chM C wr M).length : Nat) := len
  have hl : l1.toInt.toNat < (chM C wr M).length := by omega
  obtain ⟨ch, hch⟩ : ∃ ch, (chM C wr M)[l1.toInt.toNat]? = some ch := ⟨_, List.getElem?_eq_getElem hl⟩
  have kc := r4.2 _ _ hch
  have cm := List.mem_of_getElem? hch
  obtain ⟨i1, i2, i3⟩ := ch_in cm
  have b84 := hR.2.1.1
  have v84 : vp_in l1 84 := by rw [vp_in_iff]; omega
  have e131 : x.1 131 l1.toInt.toNat = Int32.ofNat ch.1 := kc.1
  have e133 : x.1 133 l1.toInt.toNat = opI ch.2.2 := kch_4 kc
  have e132n : ch.2.1 = none → x.1 132 l1.toInt.toNat = -1 := kc.2.1
  have e132s : ∀ j, ch.2.1 = some j → x.1 132 l1.toInt.toNat = Int32.ofNat j := kc.2.2.1
  have e10 : (x.1 60 10).toInt = (C.2.1.length : Nat) := j.2.1.2.1.1
  have hT6 := MM_6 hR.1.1 (t := ch.1) (by omega)
  have hA := (hR.1.2.2 ch.1 (by omega)).1
  have gT := r2.2 ch.1 i1
  have eT : (x.1 131 l1.toInt.toNat).toInt = (ch.1 : Nat) := by rw [e131]; exact Int32.toInt_ofNat_of_lt (by omega)
  have q7 := gT.2.2.2.2.2.2.1
  have lt8 := hA.2.1
  have late : ∀ jj, ch.2.1 = some jj → jj < 8 ∧ ¬ x.1 132 l1.toInt.toNat = -1 ∧ (x.1 132 l1.toInt.toNat).toInt = (jj : Nat) := fun jj hj => by
    have h8 := i3 jj hj
    have : jj < 8 := by omega
    have e9 := e132s jj hj
    have e8 : (Int32.ofNat jj).toInt = (jj : Nat) := Int32.toInt_ofNat_of_lt (by omega)
    refine ⟨this, fun z => ?_, by rw [e9]; exact e8⟩
    rw [e9] at z
    rw [z, tm1] at e8
    omega
  have nn : ¬ x.1 132 l1.toInt.toNat = -1 ↔ ¬ ch.2.1 = none := ⟨fun a b => a (e132n b), fun a => by
    cases hc : ch.2.1 with
    | none => exact absurd hc a
    | some jj => exact (late jj hc).2.1⟩
  have here : ∀ r, r = chVal C wr M ch l2 → P (some (vi r)) x := fun r er => hP r x hH ⟨⟨ch, hch, er⟩, KR_rf⟩
  have n1 : ∀ {a b : Int32}, ¬ a = b → l2 = a → ¬ l2 = b := fun h e z => h (e.symm.trans z)
  rw [t_cl]
  refine ⟨v84, v84, fun c => here _ ?_, fun c => ⟨fun z => here _ ?_, fun z => here _ ?_⟩, fun c => ⟨fun z => here _ ?_, fun z => ?_⟩, fun c => ⟨fun z => ?_, fun z => ?_⟩, fun c => ⟨v84, here _ ?_⟩⟩
  · unfold chVal; rw [if_pos c]; exact e131
  · unfold chVal; rw [if_neg (n1 (by decide) c), if_pos c, if_neg (nn.mp z)]
  · unfold chVal; rw [if_neg (n1 (by decide) c), if_pos c, if_pos (Classical.not_not.mp (fun a => nn.mpr a z))]
  · unfold chVal; rw [if_neg (n1 (by decide) c), if_neg (n1 (by decide) c), if_pos c, if_neg (nn.mp z)]
  · have cn : ch.2.1 = none := Classical.not_not.mp (fun a => nn.mpr a z)
    have ev : chVal C wr M ch l2 = Int32.ofNat (soM C (M.2.2 ch.1)) := by unfold chVal; rw [if_neg (n1 (by decide) c), if_neg (n1 (by decide) c), if_pos c, if_pos cn]
    obtain ⟨st, s1, s2, s3, s4, s5, kn, ns⟩ := kst_at hR.1 j.2.1 gc.1.1 i1 gT
    have w3 := kst_w3 hR.1 j.2.1 gc.1.1 i1 gT
    refine kp_sortOf hq hm hR.1.1 hR.1.2.1 _ eT hT6 hA (fun c3 => here _ ?_) (fun c3 => here _ ?_)
    · rw [ev, s3]
      unfold soM
      rw [if_pos (w3.mp c3), s2]
      exact kn.1
    · rw [ev]
      unfold soM
      rw [if_neg (fun z9 => c3 (w3.mpr z9))]
      rfl
  · obtain ⟨jj, hj⟩ : ∃ jj, ch.2.1 = some jj := by
      cases hc : ch.2.1 with
      | none => exact absurd hc (nn.mp z)
      | some jj => exact ⟨jj, rfl⟩
    obtain ⟨j8, -, ej⟩ := late jj hj
    have h8 := i3 jj hj
    have hg := List.getElem?_eq_getElem h8
    have qq := (q7.2 jj _ hg).1
    refine kp_lateCell hq hm hR.1.1 hR.1.2.1 _ _ eT hT6 ej j8 (here _ ?_)
    unfold chVal
    rw [if_neg (n1 (by decide) c), if_neg (n1 (by decide) c), if_neg (n1 (by decide) c), if_pos c, if_neg (nn.mp z), hj]
    show _ = Int32.ofNat (((M.2.2 ch.1).2.2.2.2.2.2.1[jj]?).getD (0, 0)).1
    rw [hg]
    exact i32_of qq
  · have cn : ch.2.1 = none := Classical.not_not.mp (fun a => nn.mpr a z)
    have ev : chVal C wr M ch l2 = (lkM C wr M ch.1).2.1 := by unfold chVal; rw [if_neg (n1 (by decide) c), if_neg (n1 (by decide) c), if_neg (n1 (by decide) c), if_pos c, if_pos cn]
    obtain ⟨st, s1, s2, s3, s4, s5, kn, ns⟩ := kst_at hR.1 j.2.1 gc.1.1 i1 gT
    have u1 := (i2 cn).1
    have tg := (hR.1.2.2 ch.1 (by omega)).2 (by rw [gT.1.1, u1]; rfl)
    rw [s3] at tg
    have o16 : st.1 < 16 := by have := tg.1; omega
    refine kh_objectOf hq hm hR.1 j.2.1 gc.1.1 r2 _ eT i1 u1 (fun r9 y9 fy a1 a2 => ?_)
    have fk : KRd x y9 := fm_w fy (fun c k q => by unfold sLk at q; unfold sRd; omega)
    refine hP r9 y9 (HOI_run (fm_w fy (fun c k => rn_Lk)) (RUN_Lk fy hR) hH) ⟨⟨ch, hch, ?_⟩, fk⟩
    rw [ev]
    by_cases so : soM C (M.2.2 ch.1) ≤ 4
    · have w0 : (M.2.2 ch.1).2.2.2.1 = 0 := by
        apply Classical.byContradiction
        intro z9
        unfold soM at so
        rw [if_neg z9] at so
        omega
      rw [lkM_0 w0]
      rcases a1 so with ⟨-, b2, -⟩ | ⟨b1, b2⟩
      · exact b2
      · rw [b2, lkI_m1 b1]
    · have r9e : r9 = st.2.2.2.2.1 := by
        rcases a2 so with b | b
        · rw [b, s2]
        · rw [s2] at b; omega
      by_cases w0 : (M.2.2 ch.1).2.2.2.1 = 0
      · have ix : st.2.2.2.2.2.2.2.1 = none := by
          apply Classical.byContradiction
          intro z9
          have := (gc.1.2.1 _ st s1).1 z9
          unfold soM at so
          rw [if_pos w0, s2] at so
          omega
        rw [lkM_0 w0, lkI_no (by rw [s2]; exact ix), s2]; exact r9e
      · rw [lkM_w w0, s2]; exact r9e
  · unfold chVal
    rw [if_neg (c 0 (by decide)), if_neg (c 1 (by decide)), if_neg (c 2 (by decide)), if_neg (c 3 (by decide))]
    exact e133
theorem ja_choice {l1 l2 r9 r : Int32} (h : JH C wr n lm x w) (hH : HOI y q) (k : ansK (e1Ch x) (e2Ci x l1 l2) (sCi C wr n (c96 w) x l1 l2) x r9 y) (m : ansM C wr (f1Ch w) (f2Ci w l1 l2) (tCi C wr n w l1 l2) w r w') : JR3 y w' ∧ ansE r9 r y w' := by
  have e9 := JH_10 h
  refine ans_eq h hH e9 ⟨fun z => ⟨fun a => z.1 (e9.mpr a), by rw [← JH_84 h z.1]; exact z.2⟩, fun z => ⟨fun a => z.1 (e9.mp a), by rw [JH_84 h (fun a => z.1 (e9.mp a))]; exact z.2⟩⟩ (fun a z => z.1 a) k m (fun c _ r' s t => ⟨JQ_rd h hH s.2 t.2, chR_eq s.1 t.1⟩)
end KCI
section MCI
variable {G : mG} {d D : Nat} {x w : gd} {F : Int32 → gd → Prop} {C : gCo} {wr n : Nat} {lm : Nat → Nat} {q : kP}
theorem ma_choice (h : JH C wr n lm x w) (hH : HOI x q) (hm : MI w) (i k : Int32) (hD : 4 ≤ D) (hF : ∀ r w', ansM C wr (f1Ch w) (f2Ci w i k) (tCi C wr n w i k) w r w' → F r w') : MT G D z_choice 0 [(0, vr 0), (1, vi i), (2, vi k)] [] w (ri F) := by
  obtain ⟨D, rfl⟩ : ∃ D', D = D' + 2 := ⟨D - 2, by omega⟩
  have k0 : (0 : Int32).toInt = 0 := rfl
  refine sg_choice_0 _ _ (fun y e => ?_)
  have hy := z0_s e
  have e67 : y.1 0 67 = w.1 0 67 := hy.1.1 67 (by decide)
  have qy := (MI_0 hy.1 hm).1
  refine sc_noRunk hy (fun hr => ⟨fun q => absurd rfl q, fun _ => ?_⟩) (fun c y' m => ⟨fun _ => ri_i (hF _ y' (an_1 hm (show w.1 0 67 = 0 by rw [← e67]; exact c) m)), fun q => absurd q (by decide)⟩)
  have hc := (qy.2.2.1 hr).1
  rw [e67] at hr
  obtain ⟨-, hh, e94⟩ := JH_M h hr
  have gc := (JH_gc h hH).1
  have w01 := HistC_w hh
  have e84w : y.1 0 84 = w.1 0 84 := hy.1.1 84 (by decide)
  obtain ⟨s, n', q1, q2, q3, q4, q5, q6, q7⟩ := HistC_0 hy.1 hh
  have cy : c96 y = c96 w := by unfold c96; rw [hy.1.2 96 (by decide) (by simp)]
  have en : n' = n := by rw [hy.1.1 94 (by decide), e94] at q1; omega
  subst en
  have am := q2 n' (Nat.le_refl _)
  rw [cy] at am
  obtain ⟨M, eM⟩ : ∃ M, M = runM C wr (c96 w) n' := ⟨_, rfl⟩
  rw [← eM] at am
  have hF := hF
  unfold tCi chR at hF
  rw [← eM] at hF
  have av := am.1
  have e84 : y.1 0 84 = (s n').1 0 84 := q4 0 84 (Or.inr (Or.inl ⟨rfl, rfl⟩))
  have c0 := av.2.2.2.1
  have c84 := av.2.2.2.2.1
  have len := AM_n am
  have p41 : ∀ b : Int32, (b = 0 → inCh (y.1 0 84).toInt i k) → (¬ b = 0 → ¬ inCh (y.1 0 84).toInt i k) → MT G (D + 2) z_choice 41 [(0, vr 0), (1, vi i), (2, vi k)] [vi b, vr 0] y (ri F) := by
    intro b hb hb2
    refine sg_choice_41 _ _ _ (sc_refk b 2 hy (by decide) (fun b0 => ⟨fun _ => ?_, fun q => absurd rfl q⟩) (fun nb y' m => ⟨fun q => absurd q (by decide), fun _ => ri_i (hF _ y' (an_2 hm ⟨hr, by rw [← e84w]; exact hb2 nb⟩ m))⟩))
    have hin := hb b0
    have nE2 : ¬ f2Ci w i k := fun z => z.2 (by rw [← e84w]; exact hin)
    obtain ⟨hi, hk⟩ := hin
    rw [e84] at hi
    have ci := cl_i hi.1
    have iv : vp_in i 200 := by rw [vp_in_iff]; omega
    have hl : i.toInt.toNat < (chM C wr M).length := by omega
    obtain ⟨ch, hch⟩ : ∃ ch, (chM C wr M)[i.toInt.toNat]? = some ch := ⟨_, List.getElem?_eq_getElem hl⟩
    have cm := List.mem_of_getElem? hch
    obtain ⟨j1, j2, j3⟩ := ch_in cm
    obtain ⟨m86, m87, m88⟩ := am.2.2.2.2.2.2 _ _ hch
    obtain ⟨u86, u87, u88, ⟨t0, t6⟩, co⟩ := av.2.2.1 i.toNatClampNeg (by omega)
    have e86 := q4 _ _ (Or.inr u86)
    have e87 := q4 _ _ (Or.inr u87)
    have e88 := q4 _ _ (Or.inr u88)
    rw [t_cl] at e86 e87 e88
    rw [m86] at e86
    rw [m87] at e87
    rw [m88] at e88
    have lt6 : ch.1 < 6 := by have := gc.2.2; omega
    have e6 : (Int32.ofNat ch.1).toInt = (ch.1 : Nat) := Int32.toInt_ofNat_of_lt (by omega)
    have tv : vp_in (Int32.ofNat ch.1) 6 := by rw [vp_in_iff]; omega
    have ct : (Int32.ofNat ch.1).toNatClampNeg = ch.1 := by rw [t_cl, e6]; rfl
    have rr := (av.1.2 ch.1 lt6)
    have a74 : vp_in (y.1 74 (Int32.ofNat ch.1).toNatClampNeg) 1500 := by
      rw [ct, cA q4 (c := 74) (n := 6) (by decide) lt6, vp_in_iff]
      exact ⟨rr.1.1, rr.1.2.1⟩
    have lq := (am.2.2.1.2.2 ch.1 lt6).2.2.2.2.2.2.2.2.1
    have op8 : ∀ jj, jj < 9 → ¬ Int32.ofNat jj = -1 := by decide +kernel
    have lt9 : ∀ jj, ch.2.1 = some jj → jj < 8 := fun jj hj => by
      have := j3 jj hj
      have := lq.1
      have := rr.2.2.2.1
      omega
    have nn : y.1 87 i.toInt.toNat = -1 ↔ ch.2.1 = none := by
      rw [e87]
      cases hcc : ch.2.1 with
      | none => exact ⟨fun _ => rfl, fun _ => rfl⟩
      | some jj => exact ⟨fun z => absurd z (op8 jj (by have := lt9 jj hcc; omega)), fun z => nomatch z⟩
    have ok : ∀ r, r = chVal C wr M ch k → ri F (some (vi r)) y := fun r er => ri_i (hF _ y (an_3 qy hr nE2 hy.2 ⟨⟨ch, hch, er⟩, rd_0 hy.1 hm⟩))
    have n1 : ∀ {a b : Int32}, ¬ a = b → k = a → ¬ k = b := fun h e z => h (e.symm.trans z)
    rw [t_cl]
    refine ⟨iv, iv, fun n0 => ⟨fun c => ?_, fun c => ?_⟩, fun z0' => ok _ ?_⟩
    · have cn := nn.mp c
      refine ⟨fun n3 => ⟨fun n1' => ⟨fun n2 => ⟨iv, ok _ ?_⟩, fun e2 => ?_⟩, fun e1 => ok _ ?_⟩, fun e3 => ?_⟩
      · unfold chVal; rw [if_neg n0, if_neg n1', if_neg n2, if_neg n3]; exact e88
      · have u1 := (j2 cn).1
        have h1 : (s n').1 73 ch.1 = 1 := by rw [(am.2.2.1.2.2 ch.1 lt6).1, u1]; rfl
        have h2 : ¬ (s n').1 77 ch.1 = 1 := fun z => (j2 cn).2.1 (by
          have e77 := (am.2.2.1.2.2 ch.1 lt6).2.2.2.2.1
          have l77 := (am.2.2.1.2.2 ch.1 lt6).2.2.2.2.2.1
          rw [e77] at z
          exact (wai_2 _ (by omega)).2.1.mp z)
        rw [e86]
        refine sp_sortOf _ tv a74 ?_
        rw [ct, srt_eq (eqS_w (Sl_Sm _) q4) av.1 lt6, (srt_so gc.1 am lt6 h1 h2).1]
        exact ok _ (by unfold chVal; rw [if_neg n0, if_neg (n1 (by decide) e2), if_pos e2, if_pos cn])
      · unfold chVal; rw [if_neg n0, if_pos e1, if_pos cn]
      · have u1 := (j2 cn).1
        have h1 : (s n').1 73 ch.1 = 1 := by rw [(am.2.2.1.2.2 ch.1 lt6).1, u1]; rfl
        have h2 : ¬ (s n').1 77 ch.1 = 1 := fun z => (j2 cn).2.1 (by
          have e77 := (am.2.2.1.2.2 ch.1 lt6).2.2.2.2.1
          have l77 := (am.2.2.1.2.2 ch.1 lt6).2.2.2.2.2.1
          rw [e77] at z
          exact (wai_2 _ (by omega)).2.1.mp z)
        rw [e86]
        refine sp_lookAt3 gc.1 gc.2.1 w01 am q4 _ tv (by rw [ct]; exact h1) (by rw [ct]; exact h2) (by omega) (fun y' x' e' m' _ _ _ _ v88 => ri_i (hF _ y' ?_))
        rw [ct] at v88
        have mm := mi_of m'
        have cy' : c96 y' = c96 y := by unfold c96; rw [mm.2 96 (by decide) (by decide)]
        have histc : HistC C wr y' := ⟨s, n', by rw [mm.1 94 (by decide)]; exact q1, by rw [cy']; exact q2, by rw [cy', mm.2 96 (by decide) (by decide)]; exact q3, e', by rw [mm.1 68 (by decide)]; exact St_pr (prE_mi (prE_rf y) mm rfl rfl) q5, by rw [mm.1 68 (by decide)]; exact q6, HA_mi mm rfl rfl q7⟩
        have p := MI_new mm rfl rfl hc (HistC_H histc) qy
        refine an_3 p.1 hr nE2 (by rw [mm.1 0 (by decide)]; exact hy.2) ⟨⟨ch, hch, ?_⟩, rd_tr hy.1 ⟨p, ⟨mm.1 67 (by decide), mm.1 94 (by decide), mm.2 96 (by decide) (by decide)⟩, mm.2 119 (by decide) (by decide), fun _ => histc, fun w T h => TYc_mi mm rfl h⟩⟩
        rw [v88]
        unfold chVal
        rw [if_neg n0, if_neg (n1 (by decide) e3), if_neg (n1 (by decide) e3), if_pos e3, if_pos cn]
    · have cs : ¬ ch.2.1 = none := fun z => c (nn.mpr z)
      obtain ⟨jj, hj⟩ : ∃ jj, ch.2.1 = some jj := by
        cases hcc : ch.2.1 with
        | none => exact absurd hcc cs
        | some jj => exact ⟨jj, rfl⟩
      have h8 := lt9 jj hj
      have ej : y.1 87 i.toInt.toNat = Int32.ofNat jj := by rw [e87, hj]; rfl
      have ejj : (Int32.ofNat jj).toInt = (jj : Nat) := Int32.toInt_ofNat_of_lt (by omega)
      refine ⟨fun e1 => ok _ ?_, fun n1' => ⟨fun n2 => ⟨fun n3 => ok _ ?_, fun e3 => ?_⟩, fun e2 => ok _ ?_⟩⟩
      · unfold chVal; rw [if_neg n0, if_pos e1, if_neg cs]
      · unfold chVal; rw [if_neg n0, if_neg n1', if_neg n2, if_neg n3, ch_lt cm cs]; rfl
      · rw [e86, ej]
        obtain ⟨ta, tb⟩ := t10 tv (i := Int32.ofNat jj) (by omega) (by omega)
        refine ⟨ta, ok _ ?_⟩
        rw [tb, ct, t_cl, ejj]
        have hg := List.getElem?_eq_getElem (j3 jj hj)
        have b1 := (lq.2 jj _ hg).1
        have ey : y.1 81 (10 * ch.1 + jj) = (s n').1 81 (10 * ch.1 + jj) := q4 81 _ (Or.inr (Or.inr (Or.inr ⟨Or.inl rfl, ch.1, jj, lt6, by rw [lq.1]; have := j3 jj hj; omega, rfl⟩)))
        unfold chVal
        rw [if_neg n0, if_neg n1', if_neg n2, if_pos e3, if_neg cs, hj]
        show y.1 81 (10 * ch.1 + ((jj : Nat) : Int).toNat) = Int32.ofNat (((M.2.2 ch.1).2.2.2.2.2.2.1[jj]?).getD (0, 0)).1
        rw [hg, Int.toNat_natCast, ey]
        exact b1
      · unfold chVal; rw [if_neg n0, if_neg n1', if_pos e2, if_neg cs]
    · unfold chVal; rw [if_pos z0', e86]
  refine sp_in _ _ _ ⟨fun c1 => p41 1 (fun q => absurd q (by decide)) (fun _ z => in_ge (bi_eq.mp c1) (by rw [e84]; exact c0) z.1), fun c1 => sp_in _ _ _ ⟨fun c2 => p41 0 (fun _ => ⟨in_lt (bi_ne.mp c1) (by rw [e84]; exact c0), ?_⟩) (fun z => absurd rfl z), fun c2 => p41 1 (fun q => absurd q (by decide)) (fun _ z => ?_)⟩⟩
  · obtain ⟨a1, a2⟩ := bi_ne.mp c2
    have k4 : (4 : Int32).toInt = 4 := rfl
    rw [t_le, k0] at a1
    rw [t_le, k4] at a2
    omega
  · have k4 : (4 : Int32).toInt = 4 := rfl
    have := z.2
    exact bi_eq.mp c2 ⟨t_le.mpr (by rw [k0]; exact z.2.1), t_le.mpr (by rw [k4]; omega)⟩
end MCI
end
section
/-! the law's helpers: the class's world, and beside it the cell 299 (a long) -/
def wE (E : gE) : gE := (E.1, E.2.1, E.2.2.1, fun c => if c = 299 then .inr (.long, 1) else E.2.2.2.1 c, E.2.2.2.2)
theorem wE_k {E : gE} {c : Nat} (h : ¬ c = 299) : (wE E).2.2.2.1 c = E.2.2.2.1 c := if_neg h
theorem wE_9 {E : gE} : (wE E).2.2.2.1 299 = .inr (.long, 1) := by
  show (if (299 : Nat) = 299 then (.inr (.long, 1) : gk) else E.2.2.2.1 299) = _
  exact if_pos rfl
def fo (f : gf) : gf := (f.1, f.2.1 ++ [299], f.2.2)
def fO (f : gf) : gf := (f.1, [299], f.2.2)
/-- two worlds apart -/
def gdis (f1 : gf) (ad1 : Nat → Nat) (f2 : gf) (ad2 : Nat → Nat) : Prop := ∀ c ∈ f1.2.1, ∀ c' ∈ f2.2.1, ad1 c ≠ ad2 c'
theorem gwl_in {E : gE} {x : gd} {f : gf} {ad : Nat → Nat} {k : Nat} {q : Nat × va_E} (h : (gwl E x f ad)[k]? = some q) : ∃ c, f.2.1[k]? = some c ∧ q = (ad c, gce E x f ad c) := by
  rw [gwl, List.getElem?_map] at h
  cases hc : f.2.1[k]? with
  | none => rw [hc] at h; cases h
  | some c => rw [hc] at h; cases h; exact ⟨c, rfl, rfl⟩
/-- behind a call: the other world stands, and stays apart -/
theorem keep2 {E1 E2 : gE} {x2 y1 : gd} {f1 f2 g1 : gf} {ad1 ad2 b1 : Nat → Nat} {A : Nat → Prop} {H H2 : Heap} (hP2 : gP E2 x2 f2 ad2 A H) (hd : gdis f1 ad1 f2 ad2) (hk : ∀ q : Nat, q < H.size → ¬ gA f1 ad1 H.size q → H2[q]? = H[q]?) (hP1 : gP E1 y1 g1 b1 (gA f1 ad1 H.size) H2) : gP E2 x2 f2 ad2 A H2 ∧ gdis g1 b1 f2 ad2 := by
  have lt : ∀ c ∈ f2.2.1, ad2 c < H.size := fun c hc => by
    obtain ⟨i, -, hi⟩ := gwl_at (E := E2) (x := x2) (ad := ad2) hc
    exact (hP2.1.1 i _ hi).lt
  refine ⟨⟨⟨hP2.1.1.kept (fun k q hq => ?_), hP2.1.2⟩, hP2.2⟩, fun c hc c' hc' e => ?_⟩
  · obtain ⟨c, hc, rfl⟩ := gwl_in hq
    have hc := List.mem_of_getElem? hc
    refine hk _ (lt c hc) (fun z => ?_)
    rcases z with ⟨c1, h1, e1⟩ | z
    · exact hd c1 h1 c hc e1
    · have := lt c hc
      omega
  · obtain ⟨i, -, hi⟩ := gwl_at (E := E1) (x := y1) (ad := b1) hc
    have hA := hP1.1.2.2 i _ hi
    have l2 := lt c' hc'
    rcases hA with ⟨c1, h1, e1⟩ | z
    · exact hd c1 h1 c' hc' (e1.trans e)
    · have z : H.size ≤ b1 c := z
      omega
theorem gce_ag {E E' : gE} {x y : gd} {f g : gf} {ad bd : Nat → Nat} {c : Nat} (hk : E'.2.2.2.1 c = E.2.2.2.1 c) (ha : E'.2.2.1 = E.2.2.1) (h1 : y.1 c = x.1 c) (h2 : y.2 c = x.2 c) (hr : ∀ j, (g.1 c j).map bd = (f.1 c j).map ad) : gce E' y g bd c = gce E x f ad c := by
  unfold gce gfl gar
  rw [hk, ha, h1, h2]
  simp only [hr]
theorem gwl_ag {E E' : gE} {x y : gd} {f g : gf} {ad bd : Nat → Nat} (hL : g.2.1 = f.2.1) (hk : ∀ c ∈ f.2.1, E'.2.2.2.1 c = E.2.2.2.1 c) (ha : E'.2.2.1 = E.2.2.1) (h1 : ∀ c ∈ f.2.1, y.1 c = x.1 c) (h2 : ∀ c ∈ f.2.1, y.2 c = x.2 c) (hd : ∀ c ∈ f.2.1, bd c = ad c) (hr : ∀ c ∈ f.2.1, ∀ j, (g.1 c j).map bd = (f.1 c j).map ad) : gwl E' y g bd = gwl E x f ad := by
  unfold gwl
  rw [hL]
  apply List.map_congr_left
  intro c hc
  rw [hd c hc, gce_ag (hk c hc) ha (h1 c hc) (h2 c hc) (hr c hc)]
/-- the two parts of it -/
theorem fo_sp {E : gE} {x : gd} {f : gf} {ad : Nat → Nat} {A : Nat → Prop} {H : Heap} (hn : 299 ∉ f.2.1) (h : gP (wE E) x (fo f) ad A H) : gP E x f ad A H ∧ gP (wE E) x (fO f) ad A H ∧ gdis f ad (fO f) ad := by
  obtain ⟨⟨hP, hD⟩, hg⟩ := h
  have e1 : gwl (wE E) x (fo f) ad = gwl (wE E) x f ad ++ gwl (wE E) x (fO f) ad := by
    unfold gwl
    show (f.2.1 ++ [299]).map _ = _
    rw [List.map_append]; rfl
  have e2 : gwl (wE E) x f ad = gwl E x f ad := gwl_ag rfl (fun c hc => wE_k (fun e : c = 299 => hn (e ▸ hc))) rfl (fun _ _ => rfl) (fun _ _ => rfl) (fun _ _ => rfl) (fun _ _ _ => rfl)
  rw [e1, e2] at hP hD
  have l1 : ∀ (k : Nat) (q : Nat × va_E), (gwl E x f ad)[k]? = some q → (gwl E x f ad ++ gwl (wE E) x (fO f) ad)[k]? = some q := fun k q hk => by
    rw [List.getElem?_append_left (List.getElem?_eq_some_iff.mp hk).1]; exact hk
  have l2 : ∀ (k : Nat) (q : Nat × va_E), (gwl (wE E) x (fO f) ad)[k]? = some q → (gwl E x f ad ++ gwl (wE E) x (fO f) ad)[(gwl E x f ad).length + k]? = some q := fun k q hk => by
    rw [List.getElem?_append_right (Nat.le_add_right _ _), Nat.add_sub_cancel_left]; exact hk
  refine ⟨⟨⟨fun k q hk => hP k q (l1 k q hk), ⟨fun i j p q hi hj e => hD.1 i j p q (l1 i p hi) (l1 j q hj) e, fun k q hk => hD.2 k q (l1 k q hk)⟩⟩, hg⟩, ⟨⟨fun k q hk => hP _ q (l2 k q hk), ⟨fun i j p q hi hj e => ?_, fun k q hk => hD.2 _ q (l2 k q hk)⟩⟩, hg⟩, fun c hc c' hc' e => ?_⟩
  · have := hD.1 _ _ p q (l2 i p hi) (l2 j q hj) e
    omega
  · obtain ⟨i, -, hi⟩ := gwl_at (E := E) (x := x) (ad := ad) hc
    obtain ⟨j, -, hj⟩ := gwl_at (E := wE E) (x := x) (f := fO f) (ad := ad) hc'
    have := hD.1 _ _ _ _ (l1 i _ hi) (l2 j _ hj) e
    have := (List.getElem?_eq_some_iff.mp hi).1
    omega
theorem fo_gl {E : gE} {x : gd} {f : gf} {ad : Nat → Nat} {A : Nat → Prop} {H : Heap} (hn : 299 ∉ f.2.1) (h1 : gP E x f ad A H) (h2 : gP (wE E) x (fO f) ad A H) (hd : gdis f ad (fO f) ad) : gP (wE E) x (fo f) ad A H := by
  have e1 : gwl (wE E) x (fo f) ad = gwl (wE E) x f ad ++ gwl (wE E) x (fO f) ad := by
    unfold gwl
    show (f.2.1 ++ [299]).map _ = _
    rw [List.map_append]; rfl
  have e2 : gwl (wE E) x f ad = gwl E x f ad := gwl_ag rfl (fun c hc => wE_k (fun e : c = 299 => hn (e ▸ hc))) rfl (fun _ _ => rfl) (fun _ _ => rfl) (fun _ _ => rfl) (fun _ _ _ => rfl)
  refine ⟨⟨?_, ?_⟩, h1.2⟩
  · rw [e1, e2]; exact h1.1.1.app h2.1.1
  · rw [e1, e2]
    refine h1.1.2.app h2.1.2 (fun i j p q hi hj e => ?_)
    obtain ⟨c, hc, rfl⟩ := gwl_in hi
    obtain ⟨c', hc', rfl⟩ := gwl_in hj
    exact hd c (List.mem_of_getElem? hc) c' (List.mem_of_getElem? hc') e
/-- what a call leaves of the cell 299 -/
def xo (x x1 : gd) : gd := (x1.1, fun c => if c = 299 then x.2 299 else x1.2 c)
def ao (ad ad1 : Nat → Nat) : Nat → Nat := fun c => if c = 299 then ad 299 else ad1 c
theorem fo_mv {E : gE} {x x1 : gd} {f f1 : gf} {ad ad1 : Nat → Nat} {A A1 : Nat → Prop} {H : Heap} (hn1 : 299 ∉ f1.2.1) (hr1 : NR f1 299) (h1 : gP E x1 f1 ad1 A1 H) (hA : ∀ q, A1 q → A q) (h2 : gP (wE E) x (fO f) ad A H) (hd : gdis f1 ad1 (fO f) ad) : gP (wE E) (xo x x1) (fo f1) (ao ad ad1) A H := by
  have ne : ∀ c ∈ f1.2.1, ¬ c = 299 := fun c hc e => hn1 (e ▸ hc)
  have e1 : gwl E (xo x x1) f1 (ao ad ad1) = gwl E x1 f1 ad1 := gwl_ag rfl (fun _ _ => rfl) rfl (fun _ _ => rfl) (fun c hc => if_neg (ne c hc)) (fun c hc => if_neg (ne c hc)) (fun c hc j => by
    cases hr : f1.1 c j with
    | none => rfl
    | some b =>
      show some (ao ad ad1 b) = some (ad1 b)
      rw [show ao ad ad1 b = ad1 b from if_neg (fun e => hr1 c hc j (by rw [hr, e]))])
  have e2 : gwl (wE E) (xo x x1) (fO f1) (ao ad ad1) = gwl (wE E) x (fO f) ad := by
    show [(ao ad ad1 299, gce (wE E) (xo x x1) (fO f1) (ao ad ad1) 299)] = [(ad 299, gce (wE E) x (fO f) ad 299)]
    rw [show ao ad ad1 299 = ad 299 from if_pos rfl, gce_arr (n := 1) (ty := .long) wE_9, gce_arr (n := 1) (ty := .long) wE_9]
    show [(ad 299, Sum.inl (_, 1, Sum.inr (Sum.inl ((xo x x1).2 299))))] = [(ad 299, Sum.inl (_, 1, Sum.inr (Sum.inl (x.2 299))))]
    rw [show (xo x x1).2 299 = x.2 299 by show (if (299 : Nat) = 299 then x.2 299 else x1.2 299) = _; exact if_pos rfl]
  have hg : gad E (ao ad ad1) := fun i hi => by
    show (if 900 + i = 299 then ad 299 else ad1 (900 + i)) = _
    rw [if_neg (by omega)]; exact h1.2 i hi
  refine fo_gl hn1 ⟨⟨by rw [e1]; exact h1.1.1, by rw [e1]; exact ⟨h1.1.2.1, fun k q hk => hA _ (h1.1.2.2 k q hk)⟩⟩, hg⟩ ⟨⟨by rw [e2]; exact h2.1.1, by rw [e2]; exact h2.1.2⟩, hg⟩ (fun c hc c' hc' e => ?_)
  have : c' = 299 := List.mem_singleton.mp hc'
  subst this
  rw [show ao ad ad1 c = ad1 c from if_neg (ne c hc), show ao ad ad1 299 = ad 299 from if_pos rfl] at e
  exact hd c hc 299 (List.mem_singleton.mpr rfl) e
/-- an exception finds its handler -/
def gCat (y : gy) (pc : Nat) (X : String) (e9 : ExceptionTableEntry) : Prop := (∃ pre suf, tableOf y.2.2.2.2 = pre ++ e9 :: suf ∧ ∀ z ∈ pre, z.catchType ≠ 0 ∧ ∃ nm, Cond.classLink y.1.cls z.catchType nm ∈ W0 ∧ (X, nm) ∈ ev_no) ∧ covers e9 pc = true ∧ e9.catchType ≠ 0 ∧ Cond.classLink y.1.cls e9.catchType X ∈ W0 ∧ Cond.castable X X ∈ ev_tab
def gHs (y : gy) (hpc i ln : Nat) : Prop := (∃ n3 : Fin 4, (n3 : Nat) = i ∧ ln = 1 ∧ decode y.2.1 hpc = .ok (.astore_n n3, 1)) ∨ (ln = 2 ∧ decode y.2.1 hpc = .ok (.astore i, 2))
def gtry (E : gE) (d : Nat) (y : gy) (pc : Nat) (lv : List (Nat × gv)) (rest : List gv) (Q : gr → gd → gf → Prop) (x : gd) (o : gr) (x1 : gd) (f1 : gf) : Prop := (299 ∉ f1.2.1 ∧ NR f1 299) ∧ match o with
  | .inl v => (∃ r : Int32, v = some (vi r)) ∧ T (wE E) d y (pc + 3) lv (v.toList ++ rest) (xo x x1) (fo f1) Q
  | .inr X => ∃ (e9 : ExceptionTableEntry) (i ln : Nat), gCat y pc X e9 ∧ gHs y e9.handlerPc i ln ∧ i < y.2.2.1 ∧ gst1 i lv = lv ∧ T (wE E) d y (e9.handlerPc + ln) lv [] (xo x x1) (fo f1) Q
section GTR
variable {E : gE} {d : Nat} {y : gy} {pc : Nat} {lv : List (Nat × gv)} {st : List gv} {x : gd} {f : gf} {Q : gr → gd → gf → Prop}
theorem T_tryF {z : gy} {c ci idx n : Nat} {sl : List Bool} (As rest : List gv) (d1 : Nat) (hst : st = As.reverse ++ vr c :: rest) (hd : decode y.2.1 pc = .ok (.invokevirtual idx, 3)) (hM : gMv y.1.cls idx z n) (hn : As.length = n) (hK : E.2.2.2.1 c = .inl (ci, sl)) (hcl : (vwCl[ci]?).map (fun r => r.1) = some z.1.cls) (hc : c ∈ f.2.1) (hd1 : d1 + 1 ≤ d)
    (hfit : gsz (vr c :: As) ≤ z.2.2.1) (hcat : gsz rest ≤ 8) (hok : gok (fo f).2.1 lv rest = true) (hz : z.2.2.2.2 = []) (hn9 : 299 ∉ f.2.1)
    (k : T E d1 z 0 (glv 0 (vr c :: As)) [] x f (gtry E d y pc lv rest Q x)) : T (wE E) d y pc lv st x (fo f) Q := by
  obtain ⟨⟨m1, m2, m3, m4, m5⟩, m6, m7, m8⟩ := hM
  obtain ⟨o1, x1, f1, ⟨⟨hn1, hr1⟩, hk⟩, hle, hw1⟩ := k
  have hlv : lv.all (fun q => gokv (fo f).2.1 q.2) = true := (Bool.and_eq_true _ _ ▸ hok).1
  have hrs : rest.all (gokv (fo f).2.1) = true := (Bool.and_eq_true _ _ ▸ hok).2
  have hlo : gle (fo f) (fo f1) := ⟨fun c hc => by
    rcases List.mem_append.mp hc with h | h
    · exact List.mem_append_left _ (hle.1 c h)
    · exact List.mem_append_right _ h, hle.2⟩
  have hrun : ∀ (p : Program) (e : Env) (R : Room) (s : State) (m : MethodId) (args : Array Value) (below : List Frame) (meth : Method) (c0 : Code) (A : Nat → Prop) (H : Heap) (locs : List Loc) (cells slots : Nat) (ls : Array Slot) (ad : Nat → Nat), gC (wE E) d y p R s m args meth c0 A → gP E x f ad A H → va_S A s.heap H locs → lv_has ls y.2.2.1 (glc ad lv) → cells + (f1.2.2.1 - f.2.2.1) ≤ R.cells → slots + (f1.2.2.2 - f.2.2.2) ≤ R.slots →
      vx_Run p E.1 e R s m args below meth c0 H locs cells slots (f1.2.2.1 - f.2.2.1) (f1.2.2.2 - f.2.2.2) (F0 m pc ls (st.map (gcv ad))) (rest.map (gcv ad)) (gQc E (gA f ad H.size) f ad o1 x1 f1 ((vr c :: As).map (gcv ad)).toArray) (gXC E (gA f ad H.size) f ad o1 x1 f1) (gA f ad H.size) := by
    intro p e R s m args below meth c0 A H locs cells slots ls ad C0 hP hS hl hc1 hs1
    have C : gC E d y p R s m args meth c0 A := C0
    obtain ⟨i, hi0, hi⟩ := gwl_at (E := E) (x := x) (ad := ad) hc
    rw [gce_obj hK] at hi
    have hr9 : ∃ r : vw_C, vwCl[ci]? = some r ∧ r.1 = z.1.cls := by
      cases h9 : vwCl[ci]? with
      | none => rw [h9] at hcl; cases hcl
      | some r => rw [h9] at hcl; exact ⟨r, rfl, Option.some.inj hcl⟩
    obtain ⟨r, hr1, hr2⟩ := hr9
    have hrec := va_recv C.2.2.2.1.1 hP.1.1 hr1 hi
    rw [hr2] at hrec
    have hG : GoodIn W0 (wsV y.1.cls idx z.1.cls z.1 (gws z)) := by
      intro w hw
      rcases List.mem_append.mp hw with h | h
      · refine W0_good w ?_
        simp only [List.mem_cons, List.not_mem_nil, or_false] at h
        rcases h with rfl | rfl | rfl | rfl
        · exact m1
        · exact m2
        · exact m3
        · exact m4
      · exact gwsz m5 w h
    have hroom : 8 + (z.2.2.1 + 11) + 41 * d1 ≤ R.locals := by
      have hq := C.2.2.1.2
      omega
    have hstk : st.map (gcv ad) = (As.map (gcv ad)).reverse ++ Value.ref (ad c) :: rest.map (gcv ad) := by
      rw [hst, List.map_append, List.map_reverse]
      rfl
    exact vx_runV (As := As.map (gcv ad)) (C := z.1.cls) (b := ad c) (Pc := va_Pc ((vr c :: As).map (gcv ad)) (gst E x f ad H.size)) ⟨C.1.1, C.1.2.1, C.1.2.2.1, C.1.2.2.2.1, C.1.2.2.2.2⟩ (gM_of C.2.2.2.1.2.2.2 m7 hfit hw1 ad H.size)
      (cwV (bytes := z.2.1) (maxL := z.2.2.1) (ret := z.2.2.2.1) (ws' := W0) n C.1.2.2.2.2 hG (by rw [gws, gcw, hz]) rfl rfl ⟨rfl, m6⟩ ⟨Nat.le_trans hd1 C.2.2.1.1, hroom⟩) ⟨gst_blind, hrec, fun U hU hW => ⟨rfl, gst_in C hP hS hU hW⟩⟩ rfl (by rw [List.length_map]; exact hn) hl.1 hstk (lv_room (by rw [gsz_c]; exact hcat)) hd ⟨hc1, hs1⟩
  have exo : ∀ {ad ad1 : Nat → Nat}, gex f ad ad1 → gex (fo f) ad (ao ad ad1) := fun {ad ad1} hex => ⟨fun c hc => by
    rcases List.mem_append.mp hc with h | h
    · show (if c = 299 then ad 299 else ad1 c) = ad c
      rw [if_neg (fun e : c = 299 => hn9 (e ▸ h))]; exact hex.1 c h
    · rw [List.mem_singleton.mp h]; exact if_pos rfl, fun i hi => by
    show (if 900 + i = 299 then ad 299 else ad1 (900 + i)) = _
    rw [if_neg (by omega)]; exact hex.2 i hi⟩
  cases o1 with
  | inl v =>
    obtain ⟨⟨r9, hr9⟩, o, x', f', hQ, hle2, hw2⟩ := hk
    refine ⟨o, x', f', hQ, gle_tr hlo hle2, ?_⟩
    intro p e R s m args below meth c0 A H locs cells slots ls ad C hPo hS hl hc hs T9 hT X
    obtain ⟨hP, hPO, hdis⟩ := fo_sp hn9 hPo
    have a1 := hle.2.1
    have a2 := hle.2.2
    have b1 : f1.2.2.1 ≤ f'.2.2.1 := hle2.2.1
    have b2 : f1.2.2.2 ≤ f'.2.2.2 := hle2.2.2
    have hc : cells + (f'.2.2.1 - f.2.2.1) ≤ R.cells := hc
    have hs : slots + (f'.2.2.2 - f.2.2.2) ≤ R.slots := hs
    rcases hrun p e R s m args below meth c0 A H locs cells slots ls ad C hP hS hl (by omega) (by omega) T9 hT X with ⟨v', st₀, t, T', L, h0, X', hL, e1, e2, ⟨ad1, hex, ⟨v2, ev1, ev2⟩, hP1, hF⟩, stp⟩ | ⟨q, st₀, t, T', L, X0, ce, h0, X', hL, e1, e2, ⟨ad1, hex, hn, -⟩, -⟩
    · cases ev1
      cases ev2
      have hin := gA_in (sz := H.size) hP (fun q hq => C.2.2.2.2 q (Nat.le_trans hS.1 hq))
      obtain ⟨k1, k2, k3⟩ := vx_keep h0 e1 hS (fun q _ h => hin q h) hin hL hF
      rw [← e1] at hP1
      obtain ⟨kp1, kp2⟩ := keep2 hPO hdis k2 hP1
      have hP2 : gP (wE E) (xo x x1) (fo f1) (ao ad ad1) A T'.heap := fo_mv hn1 hr1 hP1 hin kp1 kp2
      have hexo := exo hex
      have hl2 : lv_has ls y.2.2.1 (glc (ao ad ad1) lv) := by rw [glc_live hexo hlv]; exact hl
      have hw3 := hw2 p e R s m args below meth c0 A T'.heap (locs ++ L) (cells + (f1.2.2.1 - f.2.2.1)) (slots + (f1.2.2.2 - f.2.2.2)) ls (ao ad ad1) C hP2 k3 hl2 (by show _ + (f'.2.2.1 - f1.2.2.1) ≤ _; omega) (by show _ + (f'.2.2.2 - f1.2.2.2) ≤ _; omega)
      rw [List.map_append, gst_live hexo hrs] at hw3
      have hv : (v.toList).map (gcv (ao ad ad1)) = (v.map (gcv ad1)).toList := by rw [hr9]; rfl
      rw [hv] at hw3
      rw [show cells + (f1.2.2.1 - f.2.2.1) + (f'.2.2.1 - (fo f1).2.2.1) = cells + (f'.2.2.1 - (fo f).2.2.1) by show cells + (f1.2.2.1 - f.2.2.1) + (f'.2.2.1 - f1.2.2.1) = cells + (f'.2.2.1 - f.2.2.1); omega, show slots + (f1.2.2.2 - f.2.2.2) + (f'.2.2.2 - (fo f1).2.2.2) = slots + (f'.2.2.2 - (fo f).2.2.2) by show slots + (f1.2.2.2 - f.2.2.2) + (f'.2.2.2 - f1.2.2.2) = slots + (f'.2.2.2 - f.2.2.2); omega] at hw3
      obtain ⟨t2, s1, s2⟩ := hw3 T' rfl X'
      refine ⟨t2, stp t2 s1, vx_MQ_mono s2 (fun _ _ _ _ q => ?_) (fun _ _ _ q => ?_)⟩
      · obtain ⟨ad2, g1, g2⟩ := q; exact ⟨ad2, gex_tr hlo hexo g1, g2⟩
      · obtain ⟨ad2, g1, g2⟩ := q; exact ⟨ad2, gex_tr hlo hexo g1, g2⟩
    · cases hn
  | inr X1 =>
    obtain ⟨e9, i3, ln, ⟨⟨pre, suf, htab, hpass⟩, hcov, h0c, hlink, hcast⟩, hhs, hn3, h9, o, x', f', hQ, hle2, hw2⟩ := hk
    refine ⟨o, x', f', hQ, gle_tr hlo hle2, ?_⟩
    intro p e R s m args below meth c0 A H locs cells slots ls ad C hPo hS hl hc hs T9 hT X
    obtain ⟨hP, hPO, hdis⟩ := fo_sp hn9 hPo
    have a1 := hle.2.1
    have a2 := hle.2.2
    have b1 : f1.2.2.1 ≤ f'.2.2.1 := hle2.2.1
    have b2 : f1.2.2.2 ≤ f'.2.2.2 := hle2.2.2
    have hc : cells + (f'.2.2.1 - f.2.2.1) ≤ R.cells := hc
    have hs : slots + (f'.2.2.2 - f.2.2.2) ≤ R.slots := hs
    rcases hrun p e R s m args below meth c0 A H locs cells slots ls ad C hP hS hl (by omega) (by omega) T9 hT X with ⟨v', st₀, t, T', L, h0, X', hL, e1, e2, ⟨ad1, hex, ⟨v2, ev1, -⟩, -⟩, -⟩ | ⟨q, st₀, t, T', L, X0, ce, h00, X', hL, e1, e2, ⟨ad1, hex, hn, hP1, hF⟩, hce, hcv, hcl, stp⟩
    · cases ev1
    · cases hn
      have hin := gA_in (sz := H.size) hP (fun q hq => C.2.2.2.2 q (Nat.le_trans hS.1 hq))
      obtain ⟨k1, k2, k3⟩ := vx_keep h00 e1 hS (fun q _ h => hin q h) hin hL hF
      rw [← e1] at hP1
      obtain ⟨kp1, kp2⟩ := keep2 hPO hdis k2 hP1
      have hP2 : gP (wE E) (xo x x1) (fo f1) (ao ad ad1) A T'.heap := fo_mv hn1 hr1 hP1 hin kp1 kp2
      have hexo := exo hex
      have hl2 : lv_has ls y.2.2.1 (glc (ao ad ad1) lv) := by rw [glc_live hexo hlv]; exact hl
      have hw3 := fun (ls2 : Array Slot) (hl3 : lv_has ls2 y.2.2.1 (glc (ao ad ad1) lv)) => hw2 p e R s m args below meth c0 A T'.heap (locs ++ L) (cells + (f1.2.2.1 - f.2.2.1)) (slots + (f1.2.2.2 - f.2.2.2)) ls2 (ao ad ad1) C hP2 k3 hl3 (by show _ + (f'.2.2.1 - f1.2.2.1) ≤ _; omega) (by show _ + (f'.2.2.2 - f1.2.2.2) ≤ _; omega)
      rw [show cells + (f1.2.2.1 - f.2.2.1) + (f'.2.2.1 - (fo f1).2.2.1) = cells + (f'.2.2.1 - (fo f).2.2.1) by show cells + (f1.2.2.1 - f.2.2.1) + (f'.2.2.1 - f1.2.2.1) = cells + (f'.2.2.1 - f.2.2.1); omega, show slots + (f1.2.2.2 - f.2.2.2) + (f'.2.2.2 - (fo f1).2.2.2) = slots + (f'.2.2.2 - (fo f).2.2.2) by show slots + (f1.2.2.2 - f.2.2.2) + (f'.2.2.2 - f1.2.2.2) = slots + (f'.2.2.2 - f.2.2.2); omega] at hw3
      have hfl : (i3, Value.ref q) :: (glc (ao ad ad1) lv).filter (fun q => !(q.1 == i3) && !(q.1 + 1 == i3 && q.2.category == 2)) = (i3, Value.ref q) :: glc (ao ad ad1) lv := by
        have := gst1_c (ad := ao ad ad1) (i := i3) (v := vi 0) (lv := lv) rfl
        rw [h9] at this
        have h5 := (List.cons.inj this).2
        rw [h5]; rfl
      have hdrop : ∀ ls2, lv_has ls2 y.2.2.1 ((i3, Value.ref q) :: glc (ao ad ad1) lv) → lv_has ls2 y.2.2.1 (glc (ao ad ad1) lv) := fun ls2 hl3 => ⟨hl3.1, hl3.2.1, fun z hz => hl3.2.2 z (List.mem_cons_of_mem _ hz)⟩
      have hwh : W p E.1 e R s m args below meth c0 T'.heap (locs ++ L) (cells + (f1.2.2.1 - f.2.2.1)) (slots + (f1.2.2.2 - f.2.2.2)) (vx_MQ below (gQc (wE E) A (fo f1) (ao ad ad1) o x' f') (gXC (wE E) A (fo f1) (ao ad ad1) o x' f') args s (cells + (f'.2.2.1 - (fo f).2.2.1)) (slots + (f'.2.2.2 - (fo f).2.2.2)) A) (F0 m e9.handlerPc ls [.ref q]) := by
        rcases hhs with ⟨n3, hi3, rfl, hd2⟩ | ⟨rfl, hd2⟩
        · exact lv_astore_n (x := q) C.1.1 C.1.2.1 hd2 hi3 hl2 hn3 hfl (fun ls2 hl3 => hw3 ls2 (hdrop ls2 hl3))
        · exact lv_astore (x := q) C.1.1 C.1.2.1 hd2 hl2 hn3 hfl (fun ls2 hl3 => hw3 ls2 (hdrop ls2 hl3))
      have hcat9 := vx_catch (own := y.1.cls) (name := X1) (E := X1) (ce := ce) (q := q) (pc := pc) (ls := ls) (rest := rest.map (gcv ad)) C.1.2.2.2.1 pre e9 suf (by rw [C.2.1.2.2.1, htab]) (fun z hz => Or.inr (by obtain ⟨q1, nm, q2, q3⟩ := hpass z hz; exact ⟨q1, nm, C.1.2.2.2.2 _ q2, C.2.2.2.1.2.1.2.2.1 (X1, nm) q3⟩)) hcov h0c (C.1.2.2.2.2 _ hlink) (show (Cond.castable X1 X1).before args s = true from C.2.2.2.1.2.1.2.1 (.castable X1 X1) hcast) (by rw [e1]; exact hce) hcv hcl hwh
      obtain ⟨t2, s1, s2⟩ := hcat9 T' rfl X'
      refine ⟨t2, stp.trans s1, vx_MQ_mono s2 (fun _ _ _ _ q => ?_) (fun _ _ _ q => ?_)⟩
      · obtain ⟨ad2, g1, g2⟩ := q; exact ⟨ad2, gex_tr hlo hexo g1, g2⟩
      · obtain ⟨ad2, g1, g2⟩ := q; exact ⟨ad2, gex_tr hlo hexo g1, g2⟩
end GTR
theorem n299 {q : kP} (hu : kU q) : 299 ∉ q.L := fun h => kmd_no (q := q) (c := 299) (by decide) (fun _ => by decide) (fun _ => by decide) (fun _ => by decide) (fun _ => by decide) (by omega) (by omega) (by omega) (hu.2.1 299 h)
/-- how much a call makes: what its shape says, and an exception -/
def kst (q q1 : kP) : Prop := q1.ce + wC q ≤ q.ce + wC q1 + 1 ∧ q1.sl + wS q ≤ q.sl + wS q1 + 6
theorem kst_rf (q : kP) : kst q q := ⟨by omega, by omega⟩
theorem kst_th (q : kP) : kst q (kTh q) := ⟨by show q.ce + 1 + wC q ≤ q.ce + wC q + 1; omega, by show q.sl + 6 + wS q ≤ q.sl + wS q + 6; omega⟩
theorem kst_le {q q1 : kP} (h : kle q q1) : kst q q1 := ⟨by have := h.2.2.2.1; omega, by have := h.2.2.2.2; omega⟩
theorem HOI_1 {x y : gd} {q : kP} (e : y.1 = x.1) (hu : kU q) (h : HOI x q) : HOI y q := HOI_mk (kle_rf q) hu (fun c k _ => by rw [e]) h
def wq (q : kP) (P : Int32 → gd → kP → Prop) : gr → gd → gf → Prop := fun o x f => ∃ (r : Int32) (q1 : kP), o = .inl (some (vi r)) ∧ f = fo (kf q1) ∧ kU q1 ∧ kst q q1 ∧ HOI x q1 ∧ P r x q1
def okk (x : gd) (n : Int32) : Prop := 1 ≤ n.toInt ∧ n.toInt ≤ 8 ∧ (x.1 20 1).toInt + n.toInt ≤ 3000
end
section
abbrev zw_feed : gy := (yL_feed, cL_feed, 6, (some .int), [(0, 11, 14, 13)])
set_option maxRecDepth 100000 in
theorem dtk_L_feed : dck cL_feed [(0, .aload 4, 2), (2, .iconst 0, 1), (3, .aload_n 0, 1), (4, .iload_n 1, 1), (5, .lload_n 2, 1), (6, .invokevirtual 7, 3), (9, .i2l, 1), (10, .lastore, 1), (11, .goto 7, 3), (14, .astore 5, 2), (16, .iconst 1, 1), (17, .ireturn, 1), (18, .iconst 0, 1), (19, .ireturn, 1)] = true := by decide +kernel
set_option maxRecDepth 100000 in
theorem wca_feed : tables_1_5[43]? = some (Cond.codeWith yL_feed cL_feed 6 (some .int) [(0, 11, 14, 13)]) := rfl
theorem wcw_feed : Cond.codeWith yL_feed cL_feed 6 (some .int) [(0, 11, 14, 13)] ∈ W0 := W0_in (tp_5 (List.mem_of_getElem? wca_feed)) rfl
theorem kcv_L_7 : gMv RL 7 zk_X11_feed 2 := ⟨⟨W0_in (tp_5 (List.mem_of_getElem? (i := 45) (by decide +kernel))) rfl, W0_in (tp_5 (List.mem_of_getElem? (i := 46) (by decide +kernel))) rfl, W0_in (tp_5 (List.mem_of_getElem? (i := 47) (by decide +kernel))) rfl, W0_in (tp_1 (List.mem_of_getElem? (i := 1) (by decide +kernel))) rfl, kcw_X11_feed⟩, ⟨by decide, by decide, by decide +kernel⟩, by decide, by decide⟩
theorem wct_feed_iAE : gCat zw_feed 6 iAE ⟨0, 11, 14, 13⟩ := ⟨⟨[], [], rfl, fun z hz => nomatch hz⟩, rfl, by decide, (W0_in (tp_5 (List.mem_of_getElem? (i := 44) (by decide +kernel))) rfl), by decide⟩
set_option maxRecDepth 100000 in
set_option maxHeartbeats 4000000 in
theorem kw_feed {G : kG} {q : kP} {d : Nat} {x : gd} (hu : kU q) (hH : HOI x q) (l1 : Int32) (l2 : Int64) : T (wE (kE G)) (d + 30) zw_feed 0 [(0, vr 0), (1, vi l1), (2, vl l2), (4, vr 299)] [] x (fo (kf q)) (wq q (fun _ y q1 => (okk x l1 → ((y.1 20 1).toInt = (x.1 20 1).toInt + l1.toInt ∧ y.1 0 9 = 0 ∧ FBc x l2 l1.toInt.toNat y) ∧ ZR y) ∧ (¬ okk x l1 → KRd x y))) := by
  have m0 : 0 ∈ (fo (kf q)).2.1 := List.mem_append_left _ (kl_0 hu.1)
  have m9 : 299 ∈ (fo (kf q)).2.1 := List.mem_append_right _ (List.mem_singleton.mpr rfl)
  have n9 := n299 hu
  have r9 : NR (kf q) 299 := kU_NR hu n9
  refine T_aload 3 (dk dtk_L_feed 0 rfl) rfl ?_
  refine T_iconst (v := 0) (dk dtk_L_feed 1 rfl) (by decide +kernel) ?_
  refine T_aload_n 0 (dk dtk_L_feed 2 rfl) rfl rfl ?_
  refine T_iload_n 1 (dk dtk_L_feed 3 rfl) rfl rfl ?_
  refine T_lload_n 2 (dk dtk_L_feed 4 rfl) rfl rfl ?_
  have hend : ∀ (r : Int32) (y : gd) (q1 : kP), kU q1 → kst q q1 → HOI y q1 → (fun _ y q1 => (okk x l1 → ((y.1 20 1).toInt = (x.1 20 1).toInt + l1.toInt ∧ y.1 0 9 = 0 ∧ FBc x l2 l1.toInt.toNat y) ∧ ZR y) ∧ (¬ okk x l1 → KRd x y)) 0 y q1 → T (wE (kE G)) (d + 30) zw_feed 9 [(0, vr 0), (1, vi l1), (2, vl l2), (4, vr 299)] [vi r, vi 0, vr 299] y (fo (kf q1)) (wq q (fun _ y q1 => (okk x l1 → ((y.1 20 1).toInt = (x.1 20 1).toInt + l1.toInt ∧ y.1 0 9 = 0 ∧ FBc x l2 l1.toInt.toNat y) ∧ ZR y) ∧ (¬ okk x l1 → KRd x y))) := by
    intro r y q1 hu1 hk1 hH1 hp1
    have n91 : 299 ∈ (fo (kf q1)).2.1 := List.mem_append_right _ (List.mem_singleton.mpr rfl)
    refine T_i2l (dk dtk_L_feed 6 rfl) ?_
    refine T_last 299 1 (dk dtk_L_feed 7 rfl) wE_9 n91 (vin0 (by omega)) ?_
    refine T_goto 18 (dk dtk_L_feed 8 rfl) (by decide) ?_
    refine T_iconst (v := 0) (dk dtk_L_feed 12 rfl) (by decide +kernel) ?_
    exact T_iret (dk dtk_L_feed 13 rfl) rfl rfl ⟨0, q1, rfl, rfl, hu1, hk1, HOI_1 rfl hu1 hH1, hp1⟩
  have hxiAE : ¬ okk x l1 → gtry (kE G) (d + 30) zw_feed 6 [(0, vr 0), (1, vi l1), (2, vl l2), (4, vr 299)] [vi 0, vr 299] (wq q (fun _ y q1 => (okk x l1 → ((y.1 20 1).toInt = (x.1 20 1).toInt + l1.toInt ∧ y.1 0 9 = 0 ∧ FBc x l2 l1.toInt.toNat y) ∧ ZR y) ∧ (¬ okk x l1 → KRd x y))) x (.inr iAE) x (gth (kf q)) := by
    intro hno
    refine ⟨⟨n9, r9⟩, ⟨0, 11, 14, 13⟩, 5, 2, wct_feed_iAE, Or.inr ⟨rfl, (dk dtk_L_feed 9 rfl)⟩, by decide, rfl, ?_⟩
    refine T_iconst (v := 1) (dk dtk_L_feed 10 rfl) (by decide +kernel) ?_
    exact T_iret (dk dtk_L_feed 11 rfl) rfl rfl ⟨1, kTh q, rfl, rfl, kTh_U hu, kst_th q, HOI_1 rfl (kTh_U hu) (HOI_th hH), ⟨fun e => absurd e hno, fun _ => KR_rf⟩⟩
  refine T_tryF (E := kE G) [vi l1, vl l2] [vi 0, vr 299] (d + 7) rfl (dk dtk_L_feed 5 rfl) kcv_L_7 rfl kk_0 rfl (kl_0 hu.1) (by omega) (Nat.le_of_ble_eq_true rfl) (Nat.le_of_ble_eq_true rfl) (gok_i (av_c (gkr m0) (av_c rfl (av_c rfl (av_c (gkr m9) av_n)))) (as_c rfl (as_c (gkr m9) as_n))) rfl n9 ?_
  refine T_mono (kr_feed (d := d) hu.1 hH l1 l2 (P := fun v9 y9 => okk x l1 ∧ ∃ r, v9 = some (vi r) ∧ HOI y9 q ∧ (((y9.1 20 1).toInt = (x.1 20 1).toInt + l1.toInt ∧ y9.1 0 9 = 0 ∧ FBc x l2 l1.toInt.toNat y9) ∧ ZR y9)) (X := fun c9 y9 => c9 = iAE ∧ y9 = x ∧ ¬ okk x l1) (fun hn => ⟨rfl, rfl, hn⟩) (fun hy y h1 h2 => ⟨hy, _, rfl, h1, h2⟩)) (fun o9 x9 f9 w9 => ?_)
  rcases w9 with ⟨rfl, v, rfl, hy, r, rfl, h1, h2⟩ | ⟨rfl, c9, rfl, rfl, rfl, hno⟩
  · exact ⟨⟨n9, r9⟩, ⟨r, rfl⟩, hend r (xo x x9) q hu (kst_rf q) (HOI_1 rfl hu h1) ⟨fun _ => h2, fun e => absurd hy e⟩⟩
  · exact hxiAE hno
abbrev zw_fault : gy := (yL_fault, cL_fault, 4, (some .int), [(0, 9, 12, 19)])
set_option maxRecDepth 100000 in
theorem dtk_L_fault : dck cL_fault [(0, .aload_n 2, 1), (1, .iconst 0, 1), (2, .aload_n 0, 1), (3, .iload_n 1, 1), (4, .invokevirtual 15, 3), (7, .i2l, 1), (8, .lastore, 1), (9, .goto 6, 3), (12, .astore_n 3, 1), (13, .iconst 1, 1), (14, .ireturn, 1), (15, .iconst 0, 1), (16, .ireturn, 1)] = true := by decide +kernel
set_option maxRecDepth 100000 in
theorem wca_fault : tables_1_5[72]? = some (Cond.codeWith yL_fault cL_fault 4 (some .int) [(0, 9, 12, 19)]) := rfl
theorem wcw_fault : Cond.codeWith yL_fault cL_fault 4 (some .int) [(0, 9, 12, 19)] ∈ W0 := W0_in (tp_5 (List.mem_of_getElem? wca_fault)) rfl
theorem kcv_L_15 : gMv RL 15 zk_X11_fault 1 := ⟨⟨W0_in (tp_5 (List.mem_of_getElem? (i := 74) (by decide +kernel))) rfl, W0_in (tp_5 (List.mem_of_getElem? (i := 75) (by decide +kernel))) rfl, W0_in (tp_5 (List.mem_of_getElem? (i := 76) (by decide +kernel))) rfl, W0_in (tp_1 (List.mem_of_getElem? (i := 1) (by decide +kernel))) rfl, kcw_X11_fault⟩, ⟨by decide, by decide, by decide +kernel⟩, by decide, by decide⟩
theorem wct_fault_iOE : gCat zw_fault 4 iOE ⟨0, 9, 12, 19⟩ := ⟨⟨[], [], rfl, fun z hz => nomatch hz⟩, rfl, by decide, (W0_in (tp_5 (List.mem_of_getElem? (i := 73) (by decide +kernel))) rfl), by decide⟩
set_option maxRecDepth 100000 in
set_option maxHeartbeats 4000000 in
theorem kw_fault {G : kG} {q : kP} {d : Nat} {x : gd} (hu : kU q) (hH : HOI x q) (l1 : Int32) : T (wE (kE G)) (d + 30) zw_fault 0 [(0, vr 0), (1, vi l1), (2, vr 299)] [] x (fo (kf q)) (wq q (fun _ y q1 => KRd x y)) := by
  have m0 : 0 ∈ (fo (kf q)).2.1 := List.mem_append_left _ (kl_0 hu.1)
  have m9 : 299 ∈ (fo (kf q)).2.1 := List.mem_append_right _ (List.mem_singleton.mpr rfl)
  have n9 := n299 hu
  have r9 : NR (kf q) 299 := kU_NR hu n9
  refine T_aload_n 2 (dk dtk_L_fault 0 rfl) rfl rfl ?_
  refine T_iconst (v := 0) (dk dtk_L_fault 1 rfl) (by decide +kernel) ?_
  refine T_aload_n 0 (dk dtk_L_fault 2 rfl) rfl rfl ?_
  refine T_iload_n 1 (dk dtk_L_fault 3 rfl) rfl rfl ?_
  have hend : ∀ (r : Int32) (y : gd) (q1 : kP), kU q1 → kst q q1 → HOI y q1 → (fun _ y q1 => KRd x y) 0 y q1 → T (wE (kE G)) (d + 30) zw_fault 7 [(0, vr 0), (1, vi l1), (2, vr 299)] [vi r, vi 0, vr 299] y (fo (kf q1)) (wq q (fun _ y q1 => KRd x y)) := by
    intro r y q1 hu1 hk1 hH1 hp1
    have n91 : 299 ∈ (fo (kf q1)).2.1 := List.mem_append_right _ (List.mem_singleton.mpr rfl)
    refine T_i2l (dk dtk_L_fault 5 rfl) ?_
    refine T_last 299 1 (dk dtk_L_fault 6 rfl) wE_9 n91 (vin0 (by omega)) ?_
    refine T_goto 15 (dk dtk_L_fault 7 rfl) (by decide) ?_
    refine T_iconst (v := 0) (dk dtk_L_fault 11 rfl) (by decide +kernel) ?_
    exact T_iret (dk dtk_L_fault 12 rfl) rfl rfl ⟨0, q1, rfl, rfl, hu1, hk1, HOI_1 rfl hu1 hH1, hp1⟩
  have hxiOE : gtry (kE G) (d + 30) zw_fault 4 [(0, vr 0), (1, vi l1), (2, vr 299)] [vi 0, vr 299] (wq q (fun _ y q1 => KRd x y)) x (.inr iOE) x (gth (kf q)) := by
    refine ⟨⟨n9, r9⟩, ⟨0, 9, 12, 19⟩, 3, 1, wct_fault_iOE, Or.inl ⟨3, rfl, rfl, (dk dtk_L_fault 8 rfl)⟩, by decide, rfl, ?_⟩
    refine T_iconst (v := 1) (dk dtk_L_fault 9 rfl) (by decide +kernel) ?_
    exact T_iret (dk dtk_L_fault 10 rfl) rfl rfl ⟨1, kTh q, rfl, rfl, kTh_U hu, kst_th q, HOI_1 rfl (kTh_U hu) (HOI_th hH), KR_rf⟩
  refine T_tryF (E := kE G) [vi l1] [vi 0, vr 299] (d + 6) rfl (dk dtk_L_fault 4 rfl) kcv_L_15 rfl kk_0 rfl (kl_0 hu.1) (by omega) (Nat.le_of_ble_eq_true rfl) (Nat.le_of_ble_eq_true rfl) (gok_i (av_c (gkr m0) (av_c rfl (av_c (gkr m9) av_n))) (as_c rfl (as_c (gkr m9) as_n))) rfl n9 ?_
  refine T_mono (kr_fault (d := d) hu.1 hH l1 (P := fun v9 y9 => ∃ r, v9 = some (vi r) ∧ HOI y9 q ∧ KRd x y9) (X := fun c9 y9 => (c9 = iOE) ∧ y9 = x) ⟨rfl, rfl⟩ (fun r y h1 h2 => ⟨r, rfl, h1, h2⟩)) (fun o9 x9 f9 w9 => ?_)
  rcases w9 with ⟨rfl, v, rfl, r, rfl, h1, h2⟩ | ⟨rfl, c9, rfl, hc, rfl⟩
  · exact ⟨⟨n9, r9⟩, ⟨r, rfl⟩, hend r (xo x x9) q hu (kst_rf q) (HOI_1 rfl hu h1) h2⟩
  · rw [hc]; exact hxiOE
abbrev zw_count : gy := (yL_count, cL_count, 4, (some .int), [(0, 9, 12, 19)])
set_option maxRecDepth 100000 in
theorem dtk_L_count : dck cL_count [(0, .aload_n 2, 1), (1, .iconst 0, 1), (2, .aload_n 0, 1), (3, .iload_n 1, 1), (4, .invokevirtual 21, 3), (7, .i2l, 1), (8, .lastore, 1), (9, .goto 6, 3), (12, .astore_n 3, 1), (13, .iconst 1, 1), (14, .ireturn, 1), (15, .iconst 0, 1), (16, .ireturn, 1)] = true := by decide +kernel
set_option maxRecDepth 100000 in
theorem wca_count : tables_1_5[96]? = some (Cond.codeWith yL_count cL_count 4 (some .int) [(0, 9, 12, 19)]) := rfl
theorem wcw_count : Cond.codeWith yL_count cL_count 4 (some .int) [(0, 9, 12, 19)] ∈ W0 := W0_in (tp_5 (List.mem_of_getElem? wca_count)) rfl
theorem kcv_L_21 : gMv RL 21 zk_X11_count 1 := ⟨⟨W0_in (tp_5 (List.mem_of_getElem? (i := 97) (by decide +kernel))) rfl, W0_in (tp_5 (List.mem_of_getElem? (i := 98) (by decide +kernel))) rfl, W0_in (tp_5 (List.mem_of_getElem? (i := 99) (by decide +kernel))) rfl, W0_in (tp_1 (List.mem_of_getElem? (i := 1) (by decide +kernel))) rfl, kcw_X11_count⟩, ⟨by decide, by decide, by decide +kernel⟩, by decide, by decide⟩
theorem wct_count_iOE : gCat zw_count 4 iOE ⟨0, 9, 12, 19⟩ := ⟨⟨[], [], rfl, fun z hz => nomatch hz⟩, rfl, by decide, (W0_in (tp_5 (List.mem_of_getElem? (i := 73) (by decide +kernel))) rfl), by decide⟩
set_option maxRecDepth 100000 in
set_option maxHeartbeats 4000000 in
theorem kw_count {G : kG} {q : kP} {d : Nat} {x : gd} (hu : kU q) (hH : HOI x q) (l1 : Int32) : T (wE (kE G)) (d + 30) zw_count 0 [(0, vr 0), (1, vi l1), (2, vr 299)] [] x (fo (kf q)) (wq q (fun _ y q1 => KRd x y)) := by
  have m0 : 0 ∈ (fo (kf q)).2.1 := List.mem_append_left _ (kl_0 hu.1)
  have m9 : 299 ∈ (fo (kf q)).2.1 := List.mem_append_right _ (List.mem_singleton.mpr rfl)
  have n9 := n299 hu
  have r9 : NR (kf q) 299 := kU_NR hu n9
  refine T_aload_n 2 (dk dtk_L_count 0 rfl) rfl rfl ?_
  refine T_iconst (v := 0) (dk dtk_L_count 1 rfl) (by decide +kernel) ?_
  refine T_aload_n 0 (dk dtk_L_count 2 rfl) rfl rfl ?_
  refine T_iload_n 1 (dk dtk_L_count 3 rfl) rfl rfl ?_
  have hend : ∀ (r : Int32) (y : gd) (q1 : kP), kU q1 → kst q q1 → HOI y q1 → (fun _ y q1 => KRd x y) 0 y q1 → T (wE (kE G)) (d + 30) zw_count 7 [(0, vr 0), (1, vi l1), (2, vr 299)] [vi r, vi 0, vr 299] y (fo (kf q1)) (wq q (fun _ y q1 => KRd x y)) := by
    intro r y q1 hu1 hk1 hH1 hp1
    have n91 : 299 ∈ (fo (kf q1)).2.1 := List.mem_append_right _ (List.mem_singleton.mpr rfl)
    refine T_i2l (dk dtk_L_count 5 rfl) ?_
    refine T_last 299 1 (dk dtk_L_count 6 rfl) wE_9 n91 (vin0 (by omega)) ?_
    refine T_goto 15 (dk dtk_L_count 7 rfl) (by decide) ?_
    refine T_iconst (v := 0) (dk dtk_L_count 11 rfl) (by decide +kernel) ?_
    exact T_iret (dk dtk_L_count 12 rfl) rfl rfl ⟨0, q1, rfl, rfl, hu1, hk1, HOI_1 rfl hu1 hH1, hp1⟩
  have hxiOE : gtry (kE G) (d + 30) zw_count 4 [(0, vr 0), (1, vi l1), (2, vr 299)] [vi 0, vr 299] (wq q (fun _ y q1 => KRd x y)) x (.inr iOE) x (gth (kf q)) := by
    refine ⟨⟨n9, r9⟩, ⟨0, 9, 12, 19⟩, 3, 1, wct_count_iOE, Or.inl ⟨3, rfl, rfl, (dk dtk_L_count 8 rfl)⟩, by decide, rfl, ?_⟩
    refine T_iconst (v := 1) (dk dtk_L_count 9 rfl) (by decide +kernel) ?_
    exact T_iret (dk dtk_L_count 10 rfl) rfl rfl ⟨1, kTh q, rfl, rfl, kTh_U hu, kst_th q, HOI_1 rfl (kTh_U hu) (HOI_th hH), KR_rf⟩
  refine T_tryF (E := kE G) [vi l1] [vi 0, vr 299] (d + 7) rfl (dk dtk_L_count 4 rfl) kcv_L_21 rfl kk_0 rfl (kl_0 hu.1) (by omega) (Nat.le_of_ble_eq_true rfl) (Nat.le_of_ble_eq_true rfl) (gok_i (av_c (gkr m0) (av_c rfl (av_c (gkr m9) av_n))) (as_c rfl (as_c (gkr m9) as_n))) rfl n9 ?_
  refine T_mono (kz_count (d := d) hu.1 hH l1 (P := fun v9 y9 => ∃ r, v9 = some (vi r) ∧ HOI y9 q ∧ KRd x y9) (X := fun c9 y9 => c9 = iOE ∧ y9 = x) (fun hn => ⟨rfl, rfl⟩) (fun hy r y h1 h2 h3 => ⟨r, rfl, h1, by rw [h2]; exact KR_rf⟩)) (fun o9 x9 f9 w9 => ?_)
  rcases w9 with ⟨rfl, v, rfl, r, rfl, h1, h2⟩ | ⟨rfl, c9, rfl, rfl, rfl⟩
  · exact ⟨⟨n9, r9⟩, ⟨r, rfl⟩, hend r (xo x x9) q hu (kst_rf q) (HOI_1 rfl hu h1) h2⟩
  · exact hxiOE
abbrev zw_begin : gy := (yL_begin, cL_begin, 4, (some .int), [(0, 9, 12, 27), (0, 9, 15, 13)])
set_option maxRecDepth 100000 in
theorem dtk_L_begin : dck cL_begin [(0, .aload_n 2, 1), (1, .iconst 0, 1), (2, .aload_n 0, 1), (3, .iload_n 1, 1), (4, .invokevirtual 24, 3), (7, .i2l, 1), (8, .lastore, 1), (9, .goto 9, 3), (12, .astore_n 3, 1), (13, .iconst 1, 1), (14, .ireturn, 1), (15, .astore_n 3, 1), (16, .iconst 2, 1), (17, .ireturn, 1), (18, .iconst 0, 1), (19, .ireturn, 1)] = true := by decide +kernel
set_option maxRecDepth 100000 in
theorem wca_begin : tables_1_5[106]? = some (Cond.codeWith yL_begin cL_begin 4 (some .int) [(0, 9, 12, 27), (0, 9, 15, 13)]) := rfl
theorem wcw_begin : Cond.codeWith yL_begin cL_begin 4 (some .int) [(0, 9, 12, 27), (0, 9, 15, 13)] ∈ W0 := W0_in (tp_5 (List.mem_of_getElem? wca_begin)) rfl
theorem kcv_L_24 : gMv RL 24 zk_X11_begin 1 := ⟨⟨W0_in (tp_5 (List.mem_of_getElem? (i := 108) (by decide +kernel))) rfl, W0_in (tp_5 (List.mem_of_getElem? (i := 109) (by decide +kernel))) rfl, W0_in (tp_5 (List.mem_of_getElem? (i := 110) (by decide +kernel))) rfl, W0_in (tp_1 (List.mem_of_getElem? (i := 1) (by decide +kernel))) rfl, kcw_X11_begin⟩, ⟨by decide, by decide, by decide +kernel⟩, by decide, by decide⟩
theorem wct_begin_iSE : gCat zw_begin 4 iSE ⟨0, 9, 12, 27⟩ := ⟨⟨[], [⟨0, 9, 15, 13⟩], rfl, fun z hz => nomatch hz⟩, rfl, by decide, (W0_in (tp_5 (List.mem_of_getElem? (i := 107) (by decide +kernel))) rfl), by decide⟩
theorem wct_begin_iAE : gCat zw_begin 4 iAE ⟨0, 9, 15, 13⟩ := ⟨⟨[⟨0, 9, 12, 27⟩], [], rfl, fun z hz => by
  cases hz with
  | head => exact ⟨by decide, iSE, (W0_in (tp_5 (List.mem_of_getElem? (i := 107) (by decide +kernel))) rfl), by decide⟩
  | tail _ hz => cases hz⟩, rfl, by decide, (W0_in (tp_5 (List.mem_of_getElem? (i := 44) (by decide +kernel))) rfl), by decide⟩
set_option maxRecDepth 100000 in
set_option maxHeartbeats 4000000 in
theorem kw_begin {G : kG} {q : kP} {d : Nat} {x : gd} {C : gCo} {wr n : Nat} {lm : Nat → Nat} {w : gd} (hj : JH C wr n lm x w) (hu : kU q) (hH : HOI x q) (l1 : Int32) : T (wE (kE G)) (d + 30) zw_begin 0 [(0, vr 0), (1, vi l1), (2, vr 299)] [] x (fo (kf q)) (wq q (fun r9 y q1 => ansK (e1Bg x) (e2Bg x l1) (sBg C x l1) x r9 y)) := by
  have m0 : 0 ∈ (fo (kf q)).2.1 := List.mem_append_left _ (kl_0 hu.1)
  have m9 : 299 ∈ (fo (kf q)).2.1 := List.mem_append_right _ (List.mem_singleton.mpr rfl)
  have n9 := n299 hu
  have r9 : NR (kf q) 299 := kU_NR hu n9
  refine T_aload_n 2 (dk dtk_L_begin 0 rfl) rfl rfl ?_
  refine T_iconst (v := 0) (dk dtk_L_begin 1 rfl) (by decide +kernel) ?_
  refine T_aload_n 0 (dk dtk_L_begin 2 rfl) rfl rfl ?_
  refine T_iload_n 1 (dk dtk_L_begin 3 rfl) rfl rfl ?_
  have hend : ∀ (r : Int32) (y : gd) (q1 : kP), kU q1 → kst q q1 → HOI y q1 → ¬ (e1Bg x) ∧ ¬ (e2Bg x l1) ∧ sBg C x l1 r y → T (wE (kE G)) (d + 30) zw_begin 7 [(0, vr 0), (1, vi l1), (2, vr 299)] [vi r, vi 0, vr 299] y (fo (kf q1)) (wq q (fun r9 y q1 => ansK (e1Bg x) (e2Bg x l1) (sBg C x l1) x r9 y)) := by
    intro r y q1 hu1 hk1 hH1 hp1
    have n91 : 299 ∈ (fo (kf q1)).2.1 := List.mem_append_right _ (List.mem_singleton.mpr rfl)
    refine T_i2l (dk dtk_L_begin 5 rfl) ?_
    refine T_last 299 1 (dk dtk_L_begin 6 rfl) wE_9 n91 (vin0 (by omega)) ?_
    refine T_goto 18 (dk dtk_L_begin 7 rfl) (by decide) ?_
    refine T_iconst (v := 0) (dk dtk_L_begin 14 rfl) (by decide +kernel) ?_
    exact T_iret (dk dtk_L_begin 15 rfl) rfl rfl ⟨0, q1, rfl, rfl, hu1, hk1, HOI_1 rfl hu1 hH1, Or.inr (Or.inr ⟨hp1.1, hp1.2.1, rfl, r, by rw [sL_c]; exact if_pos rfl, hp1.2.2⟩)⟩
  have hxiSE : e1Bg x → gtry (kE G) (d + 30) zw_begin 4 [(0, vr 0), (1, vi l1), (2, vr 299)] [vi 0, vr 299] (wq q (fun r9 y q1 => ansK (e1Bg x) (e2Bg x l1) (sBg C x l1) x r9 y)) x (.inr iSE) x (gth (kf q)) := by
    intro hno
    refine ⟨⟨n9, r9⟩, ⟨0, 9, 12, 27⟩, 3, 1, wct_begin_iSE, Or.inl ⟨3, rfl, rfl, (dk dtk_L_begin 8 rfl)⟩, by decide, rfl, ?_⟩
    refine T_iconst (v := 1) (dk dtk_L_begin 9 rfl) (by decide +kernel) ?_
    exact T_iret (dk dtk_L_begin 10 rfl) rfl rfl ⟨1, kTh q, rfl, rfl, kTh_U hu, kst_th q, HOI_1 rfl (kTh_U hu) (HOI_th hH), Or.inl ⟨hno, rfl, KR_rf⟩⟩
  have hxiAE : e2Bg x l1 → gtry (kE G) (d + 30) zw_begin 4 [(0, vr 0), (1, vi l1), (2, vr 299)] [vi 0, vr 299] (wq q (fun r9 y q1 => ansK (e1Bg x) (e2Bg x l1) (sBg C x l1) x r9 y)) x (.inr iAE) x (gth (kf q)) := by
    intro hno
    refine ⟨⟨n9, r9⟩, ⟨0, 9, 15, 13⟩, 3, 1, wct_begin_iAE, Or.inl ⟨3, rfl, rfl, (dk dtk_L_begin 11 rfl)⟩, by decide, rfl, ?_⟩
    refine T_iconst (v := 2) (dk dtk_L_begin 12 rfl) (by decide +kernel) ?_
    exact T_iret (dk dtk_L_begin 13 rfl) rfl rfl ⟨2, kTh q, rfl, rfl, kTh_U hu, kst_th q, HOI_1 rfl (kTh_U hu) (HOI_th hH), Or.inr (Or.inl ⟨hno, rfl, KR_rf⟩)⟩
  refine T_tryF (E := kE G) [vi l1] [vi 0, vr 299] (d + 7) rfl (dk dtk_L_begin 4 rfl) kcv_L_24 rfl kk_0 rfl (kl_0 hu.1) (by omega) (Nat.le_of_ble_eq_true rfl) (Nat.le_of_ble_eq_true rfl) (gok_i (av_c (gkr m0) (av_c rfl (av_c (gkr m9) av_n))) (as_c rfl (as_c (gkr m9) as_n))) rfl n9 ?_
  refine T_mono (ka_begin (d := d) hj hu.1 hH l1 (P := fun v9 y9 => ∃ r, v9 = some (vi r) ∧ HOI y9 q ∧ ¬ (e1Bg x) ∧ ¬ (e2Bg x l1) ∧ sBg C x l1 r y9) (X := fun c9 y9 => ((c9 = iSE ∧ e1Bg x) ∨ (c9 = iAE ∧ e2Bg x l1)) ∧ y9 = x) (fun h9 => ⟨Or.inl ⟨rfl, h9⟩, rfl⟩) (fun h9 => ⟨Or.inr ⟨rfl, h9⟩, rfl⟩) (fun h8 h9 r y h1 h2 => ⟨r, rfl, h1, h8, h9, h2⟩)) (fun o9 x9 f9 w9 => ?_)
  rcases w9 with ⟨rfl, v, rfl, r, rfl, h1, h2⟩ | ⟨rfl, c9, rfl, hc, rfl⟩
  · exact ⟨⟨n9, r9⟩, ⟨r, rfl⟩, hend r (xo x x9) q hu (kst_rf q) (HOI_1 rfl hu h1) h2⟩
  · rcases hc with ⟨rfl, hno⟩ | ⟨rfl, hno⟩
    · exact hxiSE hno
    · exact hxiAE hno
abbrev zw_choices : gy := (yL_choices, cL_choices, 3, (some .int), [(0, 8, 11, 27)])
set_option maxRecDepth 100000 in
theorem dtk_L_choices : dck cL_choices [(0, .aload_n 1, 1), (1, .iconst 0, 1), (2, .aload_n 0, 1), (3, .invokevirtual 29, 3), (6, .i2l, 1), (7, .lastore, 1), (8, .goto 6, 3), (11, .astore_n 2, 1), (12, .iconst 1, 1), (13, .ireturn, 1), (14, .iconst 0, 1), (15, .ireturn, 1)] = true := by decide +kernel
set_option maxRecDepth 100000 in
theorem wca_choices : tables_1_5[227]? = some (Cond.codeWith yL_choices cL_choices 3 (some .int) [(0, 8, 11, 27)]) := rfl
theorem wcw_choices : Cond.codeWith yL_choices cL_choices 3 (some .int) [(0, 8, 11, 27)] ∈ W0 := W0_in (tp_5 (List.mem_of_getElem? wca_choices)) rfl
theorem kcv_L_29 : gMv RL 29 zk_X11_choices 0 := ⟨⟨W0_in (tp_5 (List.mem_of_getElem? (i := 228) (by decide +kernel))) rfl, W0_in (tp_5 (List.mem_of_getElem? (i := 229) (by decide +kernel))) rfl, W0_in (tp_5 (List.mem_of_getElem? (i := 230) (by decide +kernel))) rfl, W0_in (tp_1 (List.mem_of_getElem? (i := 1) (by decide +kernel))) rfl, kcw_X11_choices⟩, ⟨by decide, by decide, by decide +kernel⟩, by decide, by decide⟩
theorem wct_choices_iSE : gCat zw_choices 3 iSE ⟨0, 8, 11, 27⟩ := ⟨⟨[], [], rfl, fun z hz => nomatch hz⟩, rfl, by decide, (W0_in (tp_5 (List.mem_of_getElem? (i := 107) (by decide +kernel))) rfl), by decide⟩
set_option maxRecDepth 100000 in
set_option maxHeartbeats 4000000 in
theorem kw_choices {G : kG} {q : kP} {d : Nat} {x : gd} (hu : kU q) (hH : HOI x q)  : T (wE (kE G)) (d + 30) zw_choices 0 [(0, vr 0), (1, vr 299)] [] x (fo (kf q)) (wq q (fun r9 y q1 => ansK (e1Ch x) (False) (sCh x) x r9 y)) := by
  have m0 : 0 ∈ (fo (kf q)).2.1 := List.mem_append_left _ (kl_0 hu.1)
  have m9 : 299 ∈ (fo (kf q)).2.1 := List.mem_append_right _ (List.mem_singleton.mpr rfl)
  have n9 := n299 hu
  have r9 : NR (kf q) 299 := kU_NR hu n9
  refine T_aload_n 1 (dk dtk_L_choices 0 rfl) rfl rfl ?_
  refine T_iconst (v := 0) (dk dtk_L_choices 1 rfl) (by decide +kernel) ?_
  refine T_aload_n 0 (dk dtk_L_choices 2 rfl) rfl rfl ?_
  have hend : ∀ (r : Int32) (y : gd) (q1 : kP), kU q1 → kst q q1 → HOI y q1 → ¬ (e1Ch x) ∧ ¬ (False) ∧ sCh x r y → T (wE (kE G)) (d + 30) zw_choices 6 [(0, vr 0), (1, vr 299)] [vi r, vi 0, vr 299] y (fo (kf q1)) (wq q (fun r9 y q1 => ansK (e1Ch x) (False) (sCh x) x r9 y)) := by
    intro r y q1 hu1 hk1 hH1 hp1
    have n91 : 299 ∈ (fo (kf q1)).2.1 := List.mem_append_right _ (List.mem_singleton.mpr rfl)
    refine T_i2l (dk dtk_L_choices 4 rfl) ?_
    refine T_last 299 1 (dk dtk_L_choices 5 rfl) wE_9 n91 (vin0 (by omega)) ?_
    refine T_goto 14 (dk dtk_L_choices 6 rfl) (by decide) ?_
    refine T_iconst (v := 0) (dk dtk_L_choices 10 rfl) (by decide +kernel) ?_
    exact T_iret (dk dtk_L_choices 11 rfl) rfl rfl ⟨0, q1, rfl, rfl, hu1, hk1, HOI_1 rfl hu1 hH1, Or.inr (Or.inr ⟨hp1.1, hp1.2.1, rfl, r, by rw [sL_c]; exact if_pos rfl, hp1.2.2⟩)⟩
  have hxiSE : e1Ch x → gtry (kE G) (d + 30) zw_choices 3 [(0, vr 0), (1, vr 299)] [vi 0, vr 299] (wq q (fun r9 y q1 => ansK (e1Ch x) (False) (sCh x) x r9 y)) x (.inr iSE) x (gth (kf q)) := by
    intro hno
    refine ⟨⟨n9, r9⟩, ⟨0, 8, 11, 27⟩, 2, 1, wct_choices_iSE, Or.inl ⟨2, rfl, rfl, (dk dtk_L_choices 7 rfl)⟩, by decide, rfl, ?_⟩
    refine T_iconst (v := 1) (dk dtk_L_choices 8 rfl) (by decide +kernel) ?_
    exact T_iret (dk dtk_L_choices 9 rfl) rfl rfl ⟨1, kTh q, rfl, rfl, kTh_U hu, kst_th q, HOI_1 rfl (kTh_U hu) (HOI_th hH), Or.inl ⟨hno, rfl, KR_rf⟩⟩
  refine T_tryF (E := kE G) [] [vi 0, vr 299] (d + 7) rfl (dk dtk_L_choices 3 rfl) kcv_L_29 rfl kk_0 rfl (kl_0 hu.1) (by omega) (Nat.le_of_ble_eq_true rfl) (Nat.le_of_ble_eq_true rfl) (gok_i (av_c (gkr m0) (av_c (gkr m9) av_n)) (as_c rfl (as_c (gkr m9) as_n))) rfl n9 ?_
  refine T_mono (ka_choices (d := d) hu.1 hH  (P := fun v9 y9 => ∃ r, v9 = some (vi r) ∧ HOI y9 q ∧ ¬ (e1Ch x) ∧ ¬ (False) ∧ sCh x r y9) (X := fun c9 y9 => ((c9 = iSE ∧ e1Ch x)) ∧ y9 = x) (fun h9 => ⟨⟨rfl, h9⟩, rfl⟩) (fun h8 h9 r y h1 h2 => ⟨r, rfl, h1, h8, h9, h2⟩)) (fun o9 x9 f9 w9 => ?_)
  rcases w9 with ⟨rfl, v, rfl, r, rfl, h1, h2⟩ | ⟨rfl, c9, rfl, hc, rfl⟩
  · exact ⟨⟨n9, r9⟩, ⟨r, rfl⟩, hend r (xo x x9) q hu (kst_rf q) (HOI_1 rfl hu h1) h2⟩
  · obtain ⟨rfl, hno⟩ := hc
    exact hxiSE hno
abbrev zw_choice : gy := (yL_choice, cL_choice, 5, (some .int), [(0, 10, 13, 27), (0, 10, 17, 19)])
set_option maxRecDepth 100000 in
theorem dtk_L_choice : dck cL_choice [(0, .aload_n 3, 1), (1, .iconst 0, 1), (2, .aload_n 0, 1), (3, .iload_n 1, 1), (4, .iload_n 2, 1), (5, .invokevirtual 33, 3), (8, .i2l, 1), (9, .lastore, 1), (10, .goto 11, 3), (13, .astore 4, 2), (15, .iconst 1, 1), (16, .ireturn, 1), (17, .astore 4, 2), (19, .iconst 2, 1), (20, .ireturn, 1), (21, .iconst 0, 1), (22, .ireturn, 1)] = true := by decide +kernel
set_option maxRecDepth 100000 in
theorem wca_choice : tables_1_5[239]? = some (Cond.codeWith yL_choice cL_choice 5 (some .int) [(0, 10, 13, 27), (0, 10, 17, 19)]) := rfl
theorem wcw_choice : Cond.codeWith yL_choice cL_choice 5 (some .int) [(0, 10, 13, 27), (0, 10, 17, 19)] ∈ W0 := W0_in (tp_5 (List.mem_of_getElem? wca_choice)) rfl
theorem kcv_L_33 : gMv RL 33 zk_X11_choice 2 := ⟨⟨W0_in (tp_6 (List.mem_of_getElem? (i := 0) (by decide +kernel))) rfl, W0_in (tp_6 (List.mem_of_getElem? (i := 1) (by decide +kernel))) rfl, W0_in (tp_6 (List.mem_of_getElem? (i := 2) (by decide +kernel))) rfl, W0_in (tp_1 (List.mem_of_getElem? (i := 1) (by decide +kernel))) rfl, kcw_X11_choice⟩, ⟨by decide, by decide, by decide +kernel⟩, by decide, by decide⟩
theorem wct_choice_iSE : gCat zw_choice 5 iSE ⟨0, 10, 13, 27⟩ := ⟨⟨[], [⟨0, 10, 17, 19⟩], rfl, fun z hz => nomatch hz⟩, rfl, by decide, (W0_in (tp_5 (List.mem_of_getElem? (i := 107) (by decide +kernel))) rfl), by decide⟩
theorem wct_choice_iOE : gCat zw_choice 5 iOE ⟨0, 10, 17, 19⟩ := ⟨⟨[⟨0, 10, 13, 27⟩], [], rfl, fun z hz => by
  cases hz with
  | head => exact ⟨by decide, iSE, (W0_in (tp_5 (List.mem_of_getElem? (i := 107) (by decide +kernel))) rfl), by decide⟩
  | tail _ hz => cases hz⟩, rfl, by decide, (W0_in (tp_5 (List.mem_of_getElem? (i := 73) (by decide +kernel))) rfl), by decide⟩
set_option maxRecDepth 100000 in
set_option maxHeartbeats 4000000 in
theorem kw_choice {G : kG} {q : kP} {d : Nat} {x : gd} {C : gCo} {wr n : Nat} {lm : Nat → Nat} {w : gd} (hj : JH C wr n lm x w) (hu : kU q) (hH : HOI x q) (l1 : Int32) (l2 : Int32) : T (wE (kE G)) (d + 30) zw_choice 0 [(0, vr 0), (1, vi l1), (2, vi l2), (3, vr 299)] [] x (fo (kf q)) (wq q (fun r9 y q1 => ansK (e1Ch x) (e2Ci x l1 l2) (sCi C wr n (c96 w) x l1 l2) x r9 y)) := by
  have m0 : 0 ∈ (fo (kf q)).2.1 := List.mem_append_left _ (kl_0 hu.1)
  have m9 : 299 ∈ (fo (kf q)).2.1 := List.mem_append_right _ (List.mem_singleton.mpr rfl)
  have n9 := n299 hu
  have r9 : NR (kf q) 299 := kU_NR hu n9
  refine T_aload_n 3 (dk dtk_L_choice 0 rfl) rfl rfl ?_
  refine T_iconst (v := 0) (dk dtk_L_choice 1 rfl) (by decide +kernel) ?_
  refine T_aload_n 0 (dk dtk_L_choice 2 rfl) rfl rfl ?_
  refine T_iload_n 1 (dk dtk_L_choice 3 rfl) rfl rfl ?_
  refine T_iload_n 2 (dk dtk_L_choice 4 rfl) rfl rfl ?_
  have hend : ∀ (r : Int32) (y : gd) (q1 : kP), kU q1 → kst q q1 → HOI y q1 → ¬ (e1Ch x) ∧ ¬ (e2Ci x l1 l2) ∧ sCi C wr n (c96 w) x l1 l2 r y → T (wE (kE G)) (d + 30) zw_choice 8 [(0, vr 0), (1, vi l1), (2, vi l2), (3, vr 299)] [vi r, vi 0, vr 299] y (fo (kf q1)) (wq q (fun r9 y q1 => ansK (e1Ch x) (e2Ci x l1 l2) (sCi C wr n (c96 w) x l1 l2) x r9 y)) := by
    intro r y q1 hu1 hk1 hH1 hp1
    have n91 : 299 ∈ (fo (kf q1)).2.1 := List.mem_append_right _ (List.mem_singleton.mpr rfl)
    refine T_i2l (dk dtk_L_choice 6 rfl) ?_
    refine T_last 299 1 (dk dtk_L_choice 7 rfl) wE_9 n91 (vin0 (by omega)) ?_
    refine T_goto 21 (dk dtk_L_choice 8 rfl) (by decide) ?_
    refine T_iconst (v := 0) (dk dtk_L_choice 15 rfl) (by decide +kernel) ?_
    exact T_iret (dk dtk_L_choice 16 rfl) rfl rfl ⟨0, q1, rfl, rfl, hu1, hk1, HOI_1 rfl hu1 hH1, Or.inr (Or.inr ⟨hp1.1, hp1.2.1, rfl, r, by rw [sL_c]; exact if_pos rfl, hp1.2.2⟩)⟩
  have hxiSE : e1Ch x → gtry (kE G) (d + 30) zw_choice 5 [(0, vr 0), (1, vi l1), (2, vi l2), (3, vr 299)] [vi 0, vr 299] (wq q (fun r9 y q1 => ansK (e1Ch x) (e2Ci x l1 l2) (sCi C wr n (c96 w) x l1 l2) x r9 y)) x (.inr iSE) x (gth (kf q)) := by
    intro hno
    refine ⟨⟨n9, r9⟩, ⟨0, 10, 13, 27⟩, 4, 2, wct_choice_iSE, Or.inr ⟨rfl, (dk dtk_L_choice 9 rfl)⟩, by decide, rfl, ?_⟩
    refine T_iconst (v := 1) (dk dtk_L_choice 10 rfl) (by decide +kernel) ?_
    exact T_iret (dk dtk_L_choice 11 rfl) rfl rfl ⟨1, kTh q, rfl, rfl, kTh_U hu, kst_th q, HOI_1 rfl (kTh_U hu) (HOI_th hH), Or.inl ⟨hno, rfl, KR_rf⟩⟩
  have hxiOE : e2Ci x l1 l2 → gtry (kE G) (d + 30) zw_choice 5 [(0, vr 0), (1, vi l1), (2, vi l2), (3, vr 299)] [vi 0, vr 299] (wq q (fun r9 y q1 => ansK (e1Ch x) (e2Ci x l1 l2) (sCi C wr n (c96 w) x l1 l2) x r9 y)) x (.inr iOE) x (gth (kf q)) := by
    intro hno
    refine ⟨⟨n9, r9⟩, ⟨0, 10, 17, 19⟩, 4, 2, wct_choice_iOE, Or.inr ⟨rfl, (dk dtk_L_choice 12 rfl)⟩, by decide, rfl, ?_⟩
    refine T_iconst (v := 2) (dk dtk_L_choice 13 rfl) (by decide +kernel) ?_
    exact T_iret (dk dtk_L_choice 14 rfl) rfl rfl ⟨2, kTh q, rfl, rfl, kTh_U hu, kst_th q, HOI_1 rfl (kTh_U hu) (HOI_th hH), Or.inr (Or.inl ⟨hno, rfl, KR_rf⟩)⟩
  refine T_tryF (E := kE G) [vi l1, vi l2] [vi 0, vr 299] (d + 7) rfl (dk dtk_L_choice 5 rfl) kcv_L_33 rfl kk_0 rfl (kl_0 hu.1) (by omega) (Nat.le_of_ble_eq_true rfl) (Nat.le_of_ble_eq_true rfl) (gok_i (av_c (gkr m0) (av_c rfl (av_c rfl (av_c (gkr m9) av_n)))) (as_c rfl (as_c (gkr m9) as_n))) rfl n9 ?_
  refine T_mono (ka_choice (d := d) hj hu.1 hH l1 l2 (P := fun v9 y9 => ∃ r, v9 = some (vi r) ∧ HOI y9 q ∧ ¬ (e1Ch x) ∧ ¬ (e2Ci x l1 l2) ∧ sCi C wr n (c96 w) x l1 l2 r y9) (X := fun c9 y9 => ((c9 = iSE ∧ e1Ch x) ∨ (c9 = iOE ∧ e2Ci x l1 l2)) ∧ y9 = x) (fun h9 => ⟨Or.inl ⟨rfl, h9⟩, rfl⟩) (fun h9 => ⟨Or.inr ⟨rfl, h9⟩, rfl⟩) (fun h8 h9 r y h1 h2 => ⟨r, rfl, h1, h8, h9, h2⟩)) (fun o9 x9 f9 w9 => ?_)
  rcases w9 with ⟨rfl, v, rfl, r, rfl, h1, h2⟩ | ⟨rfl, c9, rfl, hc, rfl⟩
  · exact ⟨⟨n9, r9⟩, ⟨r, rfl⟩, hend r (xo x x9) q hu (kst_rf q) (HOI_1 rfl hu h1) h2⟩
  · rcases hc with ⟨rfl, hno⟩ | ⟨rfl, hno⟩
    · exact hxiSE hno
    · exact hxiOE hno
abbrev zw_go : gy := (yL_go, cL_go, 4, (some .int), [(0, 9, 12, 27), (0, 9, 15, 19)])
set_option maxRecDepth 100000 in
theorem dtk_L_go : dck cL_go [(0, .aload_n 2, 1), (1, .iconst 0, 1), (2, .aload_n 0, 1), (3, .iload_n 1, 1), (4, .invokevirtual 37, 3), (7, .i2l, 1), (8, .lastore, 1), (9, .goto 9, 3), (12, .astore_n 3, 1), (13, .iconst 1, 1), (14, .ireturn, 1), (15, .astore_n 3, 1), (16, .iconst 2, 1), (17, .ireturn, 1), (18, .iconst 0, 1), (19, .ireturn, 1)] = true := by decide +kernel
set_option maxRecDepth 100000 in
theorem wca_go : tables_1_6[20]? = some (Cond.codeWith yL_go cL_go 4 (some .int) [(0, 9, 12, 27), (0, 9, 15, 19)]) := rfl
theorem wcw_go : Cond.codeWith yL_go cL_go 4 (some .int) [(0, 9, 12, 27), (0, 9, 15, 19)] ∈ W0 := W0_in (tp_6 (List.mem_of_getElem? wca_go)) rfl
theorem kcv_L_37 : gMv RL 37 zk_X11_go 1 := ⟨⟨W0_in (tp_6 (List.mem_of_getElem? (i := 21) (by decide +kernel))) rfl, W0_in (tp_6 (List.mem_of_getElem? (i := 22) (by decide +kernel))) rfl, W0_in (tp_6 (List.mem_of_getElem? (i := 23) (by decide +kernel))) rfl, W0_in (tp_1 (List.mem_of_getElem? (i := 1) (by decide +kernel))) rfl, kcw_X11_go⟩, ⟨by decide, by decide, by decide +kernel⟩, by decide, by decide⟩
theorem wct_go_iSE : gCat zw_go 4 iSE ⟨0, 9, 12, 27⟩ := ⟨⟨[], [⟨0, 9, 15, 19⟩], rfl, fun z hz => nomatch hz⟩, rfl, by decide, (W0_in (tp_5 (List.mem_of_getElem? (i := 107) (by decide +kernel))) rfl), by decide⟩
theorem wct_go_iOE : gCat zw_go 4 iOE ⟨0, 9, 15, 19⟩ := ⟨⟨[⟨0, 9, 12, 27⟩], [], rfl, fun z hz => by
  cases hz with
  | head => exact ⟨by decide, iSE, (W0_in (tp_5 (List.mem_of_getElem? (i := 107) (by decide +kernel))) rfl), by decide⟩
  | tail _ hz => cases hz⟩, rfl, by decide, (W0_in (tp_5 (List.mem_of_getElem? (i := 73) (by decide +kernel))) rfl), by decide⟩
set_option maxRecDepth 100000 in
set_option maxHeartbeats 4000000 in
theorem kw_go {G : kG} {q : kP} {d : Nat} {x : gd} {C : gCo} {wr n : Nat} {lm : Nat → Nat} {w : gd} (hj : JH C wr n lm x w) (hu : kU q) (hH : HOI x q) (l1 : Int32) : T (wE (kE G)) (d + 30) zw_go 0 [(0, vr 0), (1, vi l1), (2, vr 299)] [] x (fo (kf q)) (wq q (fun r9 y q1 => ansK (e1Go n x) (e2Go n x l1) (sGo C wr n (c96 w) x l1) x r9 y)) := by
  have m0 : 0 ∈ (fo (kf q)).2.1 := List.mem_append_left _ (kl_0 hu.1)
  have m9 : 299 ∈ (fo (kf q)).2.1 := List.mem_append_right _ (List.mem_singleton.mpr rfl)
  have n9 := n299 hu
  have r9 : NR (kf q) 299 := kU_NR hu n9
  refine T_aload_n 2 (dk dtk_L_go 0 rfl) rfl rfl ?_
  refine T_iconst (v := 0) (dk dtk_L_go 1 rfl) (by decide +kernel) ?_
  refine T_aload_n 0 (dk dtk_L_go 2 rfl) rfl rfl ?_
  refine T_iload_n 1 (dk dtk_L_go 3 rfl) rfl rfl ?_
  have hend : ∀ (r : Int32) (y : gd) (q1 : kP), kU q1 → kst q q1 → HOI y q1 → ¬ (e1Go n x) ∧ ¬ (e2Go n x l1) ∧ sGo C wr n (c96 w) x l1 r y → T (wE (kE G)) (d + 30) zw_go 7 [(0, vr 0), (1, vi l1), (2, vr 299)] [vi r, vi 0, vr 299] y (fo (kf q1)) (wq q (fun r9 y q1 => ansK (e1Go n x) (e2Go n x l1) (sGo C wr n (c96 w) x l1) x r9 y)) := by
    intro r y q1 hu1 hk1 hH1 hp1
    have n91 : 299 ∈ (fo (kf q1)).2.1 := List.mem_append_right _ (List.mem_singleton.mpr rfl)
    refine T_i2l (dk dtk_L_go 5 rfl) ?_
    refine T_last 299 1 (dk dtk_L_go 6 rfl) wE_9 n91 (vin0 (by omega)) ?_
    refine T_goto 18 (dk dtk_L_go 7 rfl) (by decide) ?_
    refine T_iconst (v := 0) (dk dtk_L_go 14 rfl) (by decide +kernel) ?_
    exact T_iret (dk dtk_L_go 15 rfl) rfl rfl ⟨0, q1, rfl, rfl, hu1, hk1, HOI_1 rfl hu1 hH1, Or.inr (Or.inr ⟨hp1.1, hp1.2.1, rfl, r, by rw [sL_c]; exact if_pos rfl, hp1.2.2⟩)⟩
  have hxiSE : e1Go n x → gtry (kE G) (d + 30) zw_go 4 [(0, vr 0), (1, vi l1), (2, vr 299)] [vi 0, vr 299] (wq q (fun r9 y q1 => ansK (e1Go n x) (e2Go n x l1) (sGo C wr n (c96 w) x l1) x r9 y)) x (.inr iSE) x (gth (kf q)) := by
    intro hno
    refine ⟨⟨n9, r9⟩, ⟨0, 9, 12, 27⟩, 3, 1, wct_go_iSE, Or.inl ⟨3, rfl, rfl, (dk dtk_L_go 8 rfl)⟩, by decide, rfl, ?_⟩
    refine T_iconst (v := 1) (dk dtk_L_go 9 rfl) (by decide +kernel) ?_
    exact T_iret (dk dtk_L_go 10 rfl) rfl rfl ⟨1, kTh q, rfl, rfl, kTh_U hu, kst_th q, HOI_1 rfl (kTh_U hu) (HOI_th hH), Or.inl ⟨hno, rfl, KR_rf⟩⟩
  have hxiOE : e2Go n x l1 → gtry (kE G) (d + 30) zw_go 4 [(0, vr 0), (1, vi l1), (2, vr 299)] [vi 0, vr 299] (wq q (fun r9 y q1 => ansK (e1Go n x) (e2Go n x l1) (sGo C wr n (c96 w) x l1) x r9 y)) x (.inr iOE) x (gth (kf q)) := by
    intro hno
    refine ⟨⟨n9, r9⟩, ⟨0, 9, 15, 19⟩, 3, 1, wct_go_iOE, Or.inl ⟨3, rfl, rfl, (dk dtk_L_go 11 rfl)⟩, by decide, rfl, ?_⟩
    refine T_iconst (v := 2) (dk dtk_L_go 12 rfl) (by decide +kernel) ?_
    exact T_iret (dk dtk_L_go 13 rfl) rfl rfl ⟨2, kTh q, rfl, rfl, kTh_U hu, kst_th q, HOI_1 rfl (kTh_U hu) (HOI_th hH), Or.inr (Or.inl ⟨hno, rfl, KR_rf⟩)⟩
  refine T_tryF (E := kE G) [vi l1] [vi 0, vr 299] (d + 7) rfl (dk dtk_L_go 4 rfl) kcv_L_37 rfl kk_0 rfl (kl_0 hu.1) (by omega) (Nat.le_of_ble_eq_true rfl) (Nat.le_of_ble_eq_true rfl) (gok_i (av_c (gkr m0) (av_c rfl (av_c (gkr m9) av_n))) (as_c rfl (as_c (gkr m9) as_n))) rfl n9 ?_
  refine T_mono (ka_go (d := d) hj hu.1 hH l1 (P := fun v9 y9 => ∃ r, v9 = some (vi r) ∧ HOI y9 q ∧ ¬ (e1Go n x) ∧ ¬ (e2Go n x l1) ∧ sGo C wr n (c96 w) x l1 r y9) (X := fun c9 y9 => ((c9 = iSE ∧ e1Go n x) ∨ (c9 = iOE ∧ e2Go n x l1)) ∧ y9 = x) (fun h9 => ⟨Or.inl ⟨rfl, h9⟩, rfl⟩) (fun h9 => ⟨Or.inr ⟨rfl, h9⟩, rfl⟩) (fun h8 h9 r y h1 h2 => ⟨r, rfl, h1, h8, h9, h2⟩)) (fun o9 x9 f9 w9 => ?_)
  rcases w9 with ⟨rfl, v, rfl, r, rfl, h1, h2⟩ | ⟨rfl, c9, rfl, hc, rfl⟩
  · exact ⟨⟨n9, r9⟩, ⟨r, rfl⟩, hend r (xo x x9) q hu (kst_rf q) (HOI_1 rfl hu h1) h2⟩
  · rcases hc with ⟨rfl, hno⟩ | ⟨rfl, hno⟩
    · exact hxiSE hno
    · exact hxiOE hno
abbrev zw_draw : gy := (yL_draw, cL_draw, 5, (some .int), [(0, 10, 13, 27), (0, 10, 17, 13)])
set_option maxRecDepth 100000 in
theorem dtk_L_draw : dck cL_draw [(0, .aload_n 3, 1), (1, .iconst 0, 1), (2, .aload_n 0, 1), (3, .iload_n 1, 1), (4, .iload_n 2, 1), (5, .invokevirtual 40, 3), (8, .i2l, 1), (9, .lastore, 1), (10, .goto 11, 3), (13, .astore 4, 2), (15, .iconst 1, 1), (16, .ireturn, 1), (17, .astore 4, 2), (19, .iconst 2, 1), (20, .ireturn, 1), (21, .iconst 0, 1), (22, .ireturn, 1)] = true := by decide +kernel
set_option maxRecDepth 100000 in
theorem wca_draw : tables_1_6[139]? = some (Cond.codeWith yL_draw cL_draw 5 (some .int) [(0, 10, 13, 27), (0, 10, 17, 13)]) := rfl
theorem wcw_draw : Cond.codeWith yL_draw cL_draw 5 (some .int) [(0, 10, 13, 27), (0, 10, 17, 13)] ∈ W0 := W0_in (tp_6 (List.mem_of_getElem? wca_draw)) rfl
theorem kcv_L_40 : gMv RL 40 zk_X11_draw 2 := ⟨⟨W0_in (tp_6 (List.mem_of_getElem? (i := 140) (by decide +kernel))) rfl, W0_in (tp_6 (List.mem_of_getElem? (i := 141) (by decide +kernel))) rfl, W0_in (tp_6 (List.mem_of_getElem? (i := 142) (by decide +kernel))) rfl, W0_in (tp_1 (List.mem_of_getElem? (i := 1) (by decide +kernel))) rfl, kcw_X11_draw⟩, ⟨by decide, by decide, by decide +kernel⟩, by decide, by decide⟩
theorem wct_draw_iSE : gCat zw_draw 5 iSE ⟨0, 10, 13, 27⟩ := ⟨⟨[], [⟨0, 10, 17, 13⟩], rfl, fun z hz => nomatch hz⟩, rfl, by decide, (W0_in (tp_5 (List.mem_of_getElem? (i := 107) (by decide +kernel))) rfl), by decide⟩
theorem wct_draw_iAE : gCat zw_draw 5 iAE ⟨0, 10, 17, 13⟩ := ⟨⟨[⟨0, 10, 13, 27⟩], [], rfl, fun z hz => by
  cases hz with
  | head => exact ⟨by decide, iSE, (W0_in (tp_5 (List.mem_of_getElem? (i := 107) (by decide +kernel))) rfl), by decide⟩
  | tail _ hz => cases hz⟩, rfl, by decide, (W0_in (tp_5 (List.mem_of_getElem? (i := 44) (by decide +kernel))) rfl), by decide⟩
set_option maxRecDepth 100000 in
set_option maxHeartbeats 4000000 in
theorem kw_draw {G : kG} {q : kP} {d : Nat} {x : gd} {C : gCo} {wr n : Nat} {lm : Nat → Nat} {w : gd} (hj : JH C wr n lm x w) (hu : kU q) (hH : HOI x q) (l1 : Int32) (l2 : Int32) : T (wE (kE G)) (d + 30) zw_draw 0 [(0, vr 0), (1, vi l1), (2, vi l2), (3, vr 299)] [] x (fo (kf q)) (wq q (fun r9 y q1 => ansK (e1Ch x) (e2Dr x l2) (sDr C wr n (c96 w) x l1 l2) x r9 y)) := by
  have m0 : 0 ∈ (fo (kf q)).2.1 := List.mem_append_left _ (kl_0 hu.1)
  have m9 : 299 ∈ (fo (kf q)).2.1 := List.mem_append_right _ (List.mem_singleton.mpr rfl)
  have n9 := n299 hu
  have r9 : NR (kf q) 299 := kU_NR hu n9
  refine T_aload_n 3 (dk dtk_L_draw 0 rfl) rfl rfl ?_
  refine T_iconst (v := 0) (dk dtk_L_draw 1 rfl) (by decide +kernel) ?_
  refine T_aload_n 0 (dk dtk_L_draw 2 rfl) rfl rfl ?_
  refine T_iload_n 1 (dk dtk_L_draw 3 rfl) rfl rfl ?_
  refine T_iload_n 2 (dk dtk_L_draw 4 rfl) rfl rfl ?_
  have hend : ∀ (r : Int32) (y : gd) (q1 : kP), kU q1 → kst q q1 → HOI y q1 → ¬ (e1Ch x) ∧ ¬ (e2Dr x l2) ∧ sDr C wr n (c96 w) x l1 l2 r y → T (wE (kE G)) (d + 30) zw_draw 8 [(0, vr 0), (1, vi l1), (2, vi l2), (3, vr 299)] [vi r, vi 0, vr 299] y (fo (kf q1)) (wq q (fun r9 y q1 => ansK (e1Ch x) (e2Dr x l2) (sDr C wr n (c96 w) x l1 l2) x r9 y)) := by
    intro r y q1 hu1 hk1 hH1 hp1
    have n91 : 299 ∈ (fo (kf q1)).2.1 := List.mem_append_right _ (List.mem_singleton.mpr rfl)
    refine T_i2l (dk dtk_L_draw 6 rfl) ?_
    refine T_last 299 1 (dk dtk_L_draw 7 rfl) wE_9 n91 (vin0 (by omega)) ?_
    refine T_goto 21 (dk dtk_L_draw 8 rfl) (by decide) ?_
    refine T_iconst (v := 0) (dk dtk_L_draw 15 rfl) (by decide +kernel) ?_
    exact T_iret (dk dtk_L_draw 16 rfl) rfl rfl ⟨0, q1, rfl, rfl, hu1, hk1, HOI_1 rfl hu1 hH1, Or.inr (Or.inr ⟨hp1.1, hp1.2.1, rfl, r, by rw [sL_c]; exact if_pos rfl, hp1.2.2⟩)⟩
  have hxiSE : e1Ch x → gtry (kE G) (d + 30) zw_draw 5 [(0, vr 0), (1, vi l1), (2, vi l2), (3, vr 299)] [vi 0, vr 299] (wq q (fun r9 y q1 => ansK (e1Ch x) (e2Dr x l2) (sDr C wr n (c96 w) x l1 l2) x r9 y)) x (.inr iSE) x (gth (kf q)) := by
    intro hno
    refine ⟨⟨n9, r9⟩, ⟨0, 10, 13, 27⟩, 4, 2, wct_draw_iSE, Or.inr ⟨rfl, (dk dtk_L_draw 9 rfl)⟩, by decide, rfl, ?_⟩
    refine T_iconst (v := 1) (dk dtk_L_draw 10 rfl) (by decide +kernel) ?_
    exact T_iret (dk dtk_L_draw 11 rfl) rfl rfl ⟨1, kTh q, rfl, rfl, kTh_U hu, kst_th q, HOI_1 rfl (kTh_U hu) (HOI_th hH), Or.inl ⟨hno, rfl, KR_rf⟩⟩
  have hxiAE : e2Dr x l2 → gtry (kE G) (d + 30) zw_draw 5 [(0, vr 0), (1, vi l1), (2, vi l2), (3, vr 299)] [vi 0, vr 299] (wq q (fun r9 y q1 => ansK (e1Ch x) (e2Dr x l2) (sDr C wr n (c96 w) x l1 l2) x r9 y)) x (.inr iAE) x (gth (kf q)) := by
    intro hno
    refine ⟨⟨n9, r9⟩, ⟨0, 10, 17, 13⟩, 4, 2, wct_draw_iAE, Or.inr ⟨rfl, (dk dtk_L_draw 12 rfl)⟩, by decide, rfl, ?_⟩
    refine T_iconst (v := 2) (dk dtk_L_draw 13 rfl) (by decide +kernel) ?_
    exact T_iret (dk dtk_L_draw 14 rfl) rfl rfl ⟨2, kTh q, rfl, rfl, kTh_U hu, kst_th q, HOI_1 rfl (kTh_U hu) (HOI_th hH), Or.inr (Or.inl ⟨hno, rfl, KR_rf⟩)⟩
  refine T_tryF (E := kE G) [vi l1, vi l2] [vi 0, vr 299] (d + 7) rfl (dk dtk_L_draw 5 rfl) kcv_L_40 rfl kk_0 rfl (kl_0 hu.1) (by omega) (Nat.le_of_ble_eq_true rfl) (Nat.le_of_ble_eq_true rfl) (gok_i (av_c (gkr m0) (av_c rfl (av_c rfl (av_c (gkr m9) av_n)))) (as_c rfl (as_c (gkr m9) as_n))) rfl n9 ?_
  refine T_mono (ka_draw (d := d) hj hu.1 hH l1 l2 (P := fun v9 y9 => ∃ r, v9 = some (vi r) ∧ HOI y9 q ∧ ¬ (e1Ch x) ∧ ¬ (e2Dr x l2) ∧ sDr C wr n (c96 w) x l1 l2 r y9) (X := fun c9 y9 => ((c9 = iSE ∧ e1Ch x) ∨ (c9 = iAE ∧ e2Dr x l2)) ∧ y9 = x) (fun h9 => ⟨Or.inl ⟨rfl, h9⟩, rfl⟩) (fun h9 => ⟨Or.inr ⟨rfl, h9⟩, rfl⟩) (fun h8 h9 r y h1 h2 => ⟨r, rfl, h1, h8, h9, h2⟩)) (fun o9 x9 f9 w9 => ?_)
  rcases w9 with ⟨rfl, v, rfl, r, rfl, h1, h2⟩ | ⟨rfl, c9, rfl, hc, rfl⟩
  · exact ⟨⟨n9, r9⟩, ⟨r, rfl⟩, hend r (xo x x9) q hu (kst_rf q) (HOI_1 rfl hu h1) h2⟩
  · rcases hc with ⟨rfl, hno⟩ | ⟨rfl, hno⟩
    · exact hxiSE hno
    · exact hxiAE hno
abbrev zw_again : gy := (yL_again, cL_again, 4, (some .int), [(0, 9, 12, 27), (0, 9, 15, 13)])
set_option maxRecDepth 100000 in
theorem dtk_L_again : dck cL_again [(0, .aload_n 2, 1), (1, .iconst 0, 1), (2, .aload_n 0, 1), (3, .iload_n 1, 1), (4, .invokevirtual 43, 3), (7, .i2l, 1), (8, .lastore, 1), (9, .goto 9, 3), (12, .astore_n 3, 1), (13, .iconst 1, 1), (14, .ireturn, 1), (15, .astore_n 3, 1), (16, .iconst 2, 1), (17, .ireturn, 1), (18, .iconst 0, 1), (19, .ireturn, 1)] = true := by decide +kernel
set_option maxRecDepth 100000 in
theorem wca_again : tables_1_6[148]? = some (Cond.codeWith yL_again cL_again 4 (some .int) [(0, 9, 12, 27), (0, 9, 15, 13)]) := rfl
theorem wcw_again : Cond.codeWith yL_again cL_again 4 (some .int) [(0, 9, 12, 27), (0, 9, 15, 13)] ∈ W0 := W0_in (tp_6 (List.mem_of_getElem? wca_again)) rfl
theorem kcv_L_43 : gMv RL 43 zk_X11_again 1 := ⟨⟨W0_in (tp_6 (List.mem_of_getElem? (i := 149) (by decide +kernel))) rfl, W0_in (tp_6 (List.mem_of_getElem? (i := 150) (by decide +kernel))) rfl, W0_in (tp_6 (List.mem_of_getElem? (i := 151) (by decide +kernel))) rfl, W0_in (tp_1 (List.mem_of_getElem? (i := 1) (by decide +kernel))) rfl, kcw_X11_again⟩, ⟨by decide, by decide, by decide +kernel⟩, by decide, by decide⟩
theorem wct_again_iSE : gCat zw_again 4 iSE ⟨0, 9, 12, 27⟩ := ⟨⟨[], [⟨0, 9, 15, 13⟩], rfl, fun z hz => nomatch hz⟩, rfl, by decide, (W0_in (tp_5 (List.mem_of_getElem? (i := 107) (by decide +kernel))) rfl), by decide⟩
theorem wct_again_iAE : gCat zw_again 4 iAE ⟨0, 9, 15, 13⟩ := ⟨⟨[⟨0, 9, 12, 27⟩], [], rfl, fun z hz => by
  cases hz with
  | head => exact ⟨by decide, iSE, (W0_in (tp_5 (List.mem_of_getElem? (i := 107) (by decide +kernel))) rfl), by decide⟩
  | tail _ hz => cases hz⟩, rfl, by decide, (W0_in (tp_5 (List.mem_of_getElem? (i := 44) (by decide +kernel))) rfl), by decide⟩
set_option maxRecDepth 100000 in
set_option maxHeartbeats 4000000 in
theorem kw_again {G : kG} {q : kP} {d : Nat} {x : gd} {C : gCo} {wr n : Nat} {lm : Nat → Nat} {w : gd} (hj : JH C wr n lm x w) (hu : kU q) (hH : HOI x q) (l1 : Int32) : T (wE (kE G)) (d + 30) zw_again 0 [(0, vr 0), (1, vi l1), (2, vr 299)] [] x (fo (kf q)) (wq q (fun r9 y q1 => ansK (e1Ch x) (e2Ag n x l1) (sAg C wr (c96 w) x l1) x r9 y)) := by
  have m0 : 0 ∈ (fo (kf q)).2.1 := List.mem_append_left _ (kl_0 hu.1)
  have m9 : 299 ∈ (fo (kf q)).2.1 := List.mem_append_right _ (List.mem_singleton.mpr rfl)
  have n9 := n299 hu
  have r9 : NR (kf q) 299 := kU_NR hu n9
  refine T_aload_n 2 (dk dtk_L_again 0 rfl) rfl rfl ?_
  refine T_iconst (v := 0) (dk dtk_L_again 1 rfl) (by decide +kernel) ?_
  refine T_aload_n 0 (dk dtk_L_again 2 rfl) rfl rfl ?_
  refine T_iload_n 1 (dk dtk_L_again 3 rfl) rfl rfl ?_
  have hend : ∀ (r : Int32) (y : gd) (q1 : kP), kU q1 → kst q q1 → HOI y q1 → ¬ (e1Ch x) ∧ ¬ (e2Ag n x l1) ∧ sAg C wr (c96 w) x l1 r y → T (wE (kE G)) (d + 30) zw_again 7 [(0, vr 0), (1, vi l1), (2, vr 299)] [vi r, vi 0, vr 299] y (fo (kf q1)) (wq q (fun r9 y q1 => ansK (e1Ch x) (e2Ag n x l1) (sAg C wr (c96 w) x l1) x r9 y)) := by
    intro r y q1 hu1 hk1 hH1 hp1
    have n91 : 299 ∈ (fo (kf q1)).2.1 := List.mem_append_right _ (List.mem_singleton.mpr rfl)
    refine T_i2l (dk dtk_L_again 5 rfl) ?_
    refine T_last 299 1 (dk dtk_L_again 6 rfl) wE_9 n91 (vin0 (by omega)) ?_
    refine T_goto 18 (dk dtk_L_again 7 rfl) (by decide) ?_
    refine T_iconst (v := 0) (dk dtk_L_again 14 rfl) (by decide +kernel) ?_
    exact T_iret (dk dtk_L_again 15 rfl) rfl rfl ⟨0, q1, rfl, rfl, hu1, hk1, HOI_1 rfl hu1 hH1, Or.inr (Or.inr ⟨hp1.1, hp1.2.1, rfl, r, by rw [sL_c]; exact if_pos rfl, hp1.2.2⟩)⟩
  have hxiSE : e1Ch x → gtry (kE G) (d + 30) zw_again 4 [(0, vr 0), (1, vi l1), (2, vr 299)] [vi 0, vr 299] (wq q (fun r9 y q1 => ansK (e1Ch x) (e2Ag n x l1) (sAg C wr (c96 w) x l1) x r9 y)) x (.inr iSE) x (gth (kf q)) := by
    intro hno
    refine ⟨⟨n9, r9⟩, ⟨0, 9, 12, 27⟩, 3, 1, wct_again_iSE, Or.inl ⟨3, rfl, rfl, (dk dtk_L_again 8 rfl)⟩, by decide, rfl, ?_⟩
    refine T_iconst (v := 1) (dk dtk_L_again 9 rfl) (by decide +kernel) ?_
    exact T_iret (dk dtk_L_again 10 rfl) rfl rfl ⟨1, kTh q, rfl, rfl, kTh_U hu, kst_th q, HOI_1 rfl (kTh_U hu) (HOI_th hH), Or.inl ⟨hno, rfl, KR_rf⟩⟩
  have hxiAE : e2Ag n x l1 → gtry (kE G) (d + 30) zw_again 4 [(0, vr 0), (1, vi l1), (2, vr 299)] [vi 0, vr 299] (wq q (fun r9 y q1 => ansK (e1Ch x) (e2Ag n x l1) (sAg C wr (c96 w) x l1) x r9 y)) x (.inr iAE) x (gth (kf q)) := by
    intro hno
    refine ⟨⟨n9, r9⟩, ⟨0, 9, 15, 13⟩, 3, 1, wct_again_iAE, Or.inl ⟨3, rfl, rfl, (dk dtk_L_again 11 rfl)⟩, by decide, rfl, ?_⟩
    refine T_iconst (v := 2) (dk dtk_L_again 12 rfl) (by decide +kernel) ?_
    exact T_iret (dk dtk_L_again 13 rfl) rfl rfl ⟨2, kTh q, rfl, rfl, kTh_U hu, kst_th q, HOI_1 rfl (kTh_U hu) (HOI_th hH), Or.inr (Or.inl ⟨hno, rfl, KR_rf⟩)⟩
  refine T_tryF (E := kE G) [vi l1] [vi 0, vr 299] (d + 7) rfl (dk dtk_L_again 4 rfl) kcv_L_43 rfl kk_0 rfl (kl_0 hu.1) (by omega) (Nat.le_of_ble_eq_true rfl) (Nat.le_of_ble_eq_true rfl) (gok_i (av_c (gkr m0) (av_c rfl (av_c (gkr m9) av_n))) (as_c rfl (as_c (gkr m9) as_n))) rfl n9 ?_
  refine T_mono (ka_again (d := d) hj hu.1 hH l1 (P := fun v9 y9 => ∃ r, v9 = some (vi r) ∧ HOI y9 q ∧ ¬ (e1Ch x) ∧ ¬ (e2Ag n x l1) ∧ sAg C wr (c96 w) x l1 r y9) (X := fun c9 y9 => ((c9 = iSE ∧ e1Ch x) ∨ (c9 = iAE ∧ e2Ag n x l1)) ∧ y9 = x) (fun h9 => ⟨Or.inl ⟨rfl, h9⟩, rfl⟩) (fun h9 => ⟨Or.inr ⟨rfl, h9⟩, rfl⟩) (fun h8 h9 r y h1 h2 => ⟨r, rfl, h1, h8, h9, h2⟩)) (fun o9 x9 f9 w9 => ?_)
  rcases w9 with ⟨rfl, v, rfl, r, rfl, h1, h2⟩ | ⟨rfl, c9, rfl, hc, rfl⟩
  · exact ⟨⟨n9, r9⟩, ⟨r, rfl⟩, hend r (xo x x9) q hu (kst_rf q) (HOI_1 rfl hu h1) h2⟩
  · rcases hc with ⟨rfl, hno⟩ | ⟨rfl, hno⟩
    · exact hxiSE hno
    · exact hxiAE hno
abbrev zw_run : gy := (yL_run, cL_run, 4, (some .int), [(0, 9, 12, 27), (0, 9, 15, 19)])
set_option maxRecDepth 100000 in
theorem dtk_L_run : dck cL_run [(0, .aload_n 2, 1), (1, .iconst 0, 1), (2, .aload_n 0, 1), (3, .iload_n 1, 1), (4, .invokevirtual 46, 3), (7, .i2l, 1), (8, .lastore, 1), (9, .goto 9, 3), (12, .astore_n 3, 1), (13, .iconst 1, 1), (14, .ireturn, 1), (15, .astore_n 3, 1), (16, .iconst 2, 1), (17, .ireturn, 1), (18, .iconst 0, 1), (19, .ireturn, 1)] = true := by decide +kernel
set_option maxRecDepth 100000 in
theorem wca_run : tables_1_6[156]? = some (Cond.codeWith yL_run cL_run 4 (some .int) [(0, 9, 12, 27), (0, 9, 15, 19)]) := rfl
theorem wcw_run : Cond.codeWith yL_run cL_run 4 (some .int) [(0, 9, 12, 27), (0, 9, 15, 19)] ∈ W0 := W0_in (tp_6 (List.mem_of_getElem? wca_run)) rfl
theorem kcv_L_46 : gMv RL 46 zk_X11_run 1 := ⟨⟨W0_in (tp_6 (List.mem_of_getElem? (i := 157) (by decide +kernel))) rfl, W0_in (tp_6 (List.mem_of_getElem? (i := 158) (by decide +kernel))) rfl, W0_in (tp_6 (List.mem_of_getElem? (i := 159) (by decide +kernel))) rfl, W0_in (tp_1 (List.mem_of_getElem? (i := 1) (by decide +kernel))) rfl, kcw_X11_run⟩, ⟨by decide, by decide, by decide +kernel⟩, by decide, by decide⟩
theorem wct_run_iSE : gCat zw_run 4 iSE ⟨0, 9, 12, 27⟩ := ⟨⟨[], [⟨0, 9, 15, 19⟩], rfl, fun z hz => nomatch hz⟩, rfl, by decide, (W0_in (tp_5 (List.mem_of_getElem? (i := 107) (by decide +kernel))) rfl), by decide⟩
theorem wct_run_iOE : gCat zw_run 4 iOE ⟨0, 9, 15, 19⟩ := ⟨⟨[⟨0, 9, 12, 27⟩], [], rfl, fun z hz => by
  cases hz with
  | head => exact ⟨by decide, iSE, (W0_in (tp_5 (List.mem_of_getElem? (i := 107) (by decide +kernel))) rfl), by decide⟩
  | tail _ hz => cases hz⟩, rfl, by decide, (W0_in (tp_5 (List.mem_of_getElem? (i := 73) (by decide +kernel))) rfl), by decide⟩
set_option maxRecDepth 100000 in
set_option maxHeartbeats 4000000 in
theorem kw_run {G : kG} {q : kP} {d : Nat} {x : gd} (hu : kU q) (hH : HOI x q) (l1 : Int32) : T (wE (kE G)) (d + 30) zw_run 0 [(0, vr 0), (1, vi l1), (2, vr 299)] [] x (fo (kf q)) (wq q (fun _ y q1 => KRd x y)) := by
  have m0 : 0 ∈ (fo (kf q)).2.1 := List.mem_append_left _ (kl_0 hu.1)
  have m9 : 299 ∈ (fo (kf q)).2.1 := List.mem_append_right _ (List.mem_singleton.mpr rfl)
  have n9 := n299 hu
  have r9 : NR (kf q) 299 := kU_NR hu n9
  refine T_aload_n 2 (dk dtk_L_run 0 rfl) rfl rfl ?_
  refine T_iconst (v := 0) (dk dtk_L_run 1 rfl) (by decide +kernel) ?_
  refine T_aload_n 0 (dk dtk_L_run 2 rfl) rfl rfl ?_
  refine T_iload_n 1 (dk dtk_L_run 3 rfl) rfl rfl ?_
  have hend : ∀ (r : Int32) (y : gd) (q1 : kP), kU q1 → kst q q1 → HOI y q1 → (fun _ y q1 => KRd x y) 0 y q1 → T (wE (kE G)) (d + 30) zw_run 7 [(0, vr 0), (1, vi l1), (2, vr 299)] [vi r, vi 0, vr 299] y (fo (kf q1)) (wq q (fun _ y q1 => KRd x y)) := by
    intro r y q1 hu1 hk1 hH1 hp1
    have n91 : 299 ∈ (fo (kf q1)).2.1 := List.mem_append_right _ (List.mem_singleton.mpr rfl)
    refine T_i2l (dk dtk_L_run 5 rfl) ?_
    refine T_last 299 1 (dk dtk_L_run 6 rfl) wE_9 n91 (vin0 (by omega)) ?_
    refine T_goto 18 (dk dtk_L_run 7 rfl) (by decide) ?_
    refine T_iconst (v := 0) (dk dtk_L_run 14 rfl) (by decide +kernel) ?_
    exact T_iret (dk dtk_L_run 15 rfl) rfl rfl ⟨0, q1, rfl, rfl, hu1, hk1, HOI_1 rfl hu1 hH1, hp1⟩
  have hxiSE : gtry (kE G) (d + 30) zw_run 4 [(0, vr 0), (1, vi l1), (2, vr 299)] [vi 0, vr 299] (wq q (fun _ y q1 => KRd x y)) x (.inr iSE) x (gth (kf q)) := by
    refine ⟨⟨n9, r9⟩, ⟨0, 9, 12, 27⟩, 3, 1, wct_run_iSE, Or.inl ⟨3, rfl, rfl, (dk dtk_L_run 8 rfl)⟩, by decide, rfl, ?_⟩
    refine T_iconst (v := 1) (dk dtk_L_run 9 rfl) (by decide +kernel) ?_
    exact T_iret (dk dtk_L_run 10 rfl) rfl rfl ⟨1, kTh q, rfl, rfl, kTh_U hu, kst_th q, HOI_1 rfl (kTh_U hu) (HOI_th hH), KR_rf⟩
  have hxiOE : gtry (kE G) (d + 30) zw_run 4 [(0, vr 0), (1, vi l1), (2, vr 299)] [vi 0, vr 299] (wq q (fun _ y q1 => KRd x y)) x (.inr iOE) x (gth (kf q)) := by
    refine ⟨⟨n9, r9⟩, ⟨0, 9, 15, 19⟩, 3, 1, wct_run_iOE, Or.inl ⟨3, rfl, rfl, (dk dtk_L_run 11 rfl)⟩, by decide, rfl, ?_⟩
    refine T_iconst (v := 2) (dk dtk_L_run 12 rfl) (by decide +kernel) ?_
    exact T_iret (dk dtk_L_run 13 rfl) rfl rfl ⟨2, kTh q, rfl, rfl, kTh_U hu, kst_th q, HOI_1 rfl (kTh_U hu) (HOI_th hH), KR_rf⟩
  refine T_tryF (E := kE G) [vi l1] [vi 0, vr 299] (d + 7) rfl (dk dtk_L_run 4 rfl) kcv_L_46 rfl kk_0 rfl (kl_0 hu.1) (by omega) (Nat.le_of_ble_eq_true rfl) (Nat.le_of_ble_eq_true rfl) (gok_i (av_c (gkr m0) (av_c rfl (av_c (gkr m9) av_n))) (as_c rfl (as_c (gkr m9) as_n))) rfl n9 ?_
  refine T_mono (kr_runq (d := d) hu.1 hH l1 (P := fun v9 y9 => ∃ r, v9 = some (vi r) ∧ HOI y9 q ∧ KRd x y9) (X := fun c9 y9 => (c9 = iSE ∨ c9 = iOE) ∧ y9 = x) ⟨Or.inl rfl, rfl⟩ ⟨Or.inr rfl, rfl⟩ (fun r y h1 h2 => ⟨r, rfl, h1, h2⟩)) (fun o9 x9 f9 w9 => ?_)
  rcases w9 with ⟨rfl, v, rfl, r, rfl, h1, h2⟩ | ⟨rfl, c9, rfl, hc, rfl⟩
  · exact ⟨⟨n9, r9⟩, ⟨r, rfl⟩, hend r (xo x x9) q hu (kst_rf q) (HOI_1 rfl hu h1) h2⟩
  · rcases hc with rfl | rfl
    · exact hxiSE
    · exact hxiOE
abbrev zw_cell : gy := (yL_cell, cL_cell, 4, (some .int), [(0, 9, 12, 27), (0, 9, 15, 19)])
set_option maxRecDepth 100000 in
theorem dtk_L_cell : dck cL_cell [(0, .aload_n 2, 1), (1, .iconst 0, 1), (2, .aload_n 0, 1), (3, .iload_n 1, 1), (4, .invokevirtual 49, 3), (7, .i2l, 1), (8, .lastore, 1), (9, .goto 9, 3), (12, .astore_n 3, 1), (13, .iconst 1, 1), (14, .ireturn, 1), (15, .astore_n 3, 1), (16, .iconst 2, 1), (17, .ireturn, 1), (18, .iconst 0, 1), (19, .ireturn, 1)] = true := by decide +kernel
set_option maxRecDepth 100000 in
theorem wca_cell : tables_1_6[179]? = some (Cond.codeWith yL_cell cL_cell 4 (some .int) [(0, 9, 12, 27), (0, 9, 15, 19)]) := rfl
theorem wcw_cell : Cond.codeWith yL_cell cL_cell 4 (some .int) [(0, 9, 12, 27), (0, 9, 15, 19)] ∈ W0 := W0_in (tp_6 (List.mem_of_getElem? wca_cell)) rfl
theorem kcv_L_49 : gMv RL 49 zk_X11_cell 1 := ⟨⟨W0_in (tp_6 (List.mem_of_getElem? (i := 180) (by decide +kernel))) rfl, W0_in (tp_6 (List.mem_of_getElem? (i := 181) (by decide +kernel))) rfl, W0_in (tp_6 (List.mem_of_getElem? (i := 182) (by decide +kernel))) rfl, W0_in (tp_1 (List.mem_of_getElem? (i := 1) (by decide +kernel))) rfl, kcw_X11_cell⟩, ⟨by decide, by decide, by decide +kernel⟩, by decide, by decide⟩
theorem wct_cell_iSE : gCat zw_cell 4 iSE ⟨0, 9, 12, 27⟩ := ⟨⟨[], [⟨0, 9, 15, 19⟩], rfl, fun z hz => nomatch hz⟩, rfl, by decide, (W0_in (tp_5 (List.mem_of_getElem? (i := 107) (by decide +kernel))) rfl), by decide⟩
theorem wct_cell_iOE : gCat zw_cell 4 iOE ⟨0, 9, 15, 19⟩ := ⟨⟨[⟨0, 9, 12, 27⟩], [], rfl, fun z hz => by
  cases hz with
  | head => exact ⟨by decide, iSE, (W0_in (tp_5 (List.mem_of_getElem? (i := 107) (by decide +kernel))) rfl), by decide⟩
  | tail _ hz => cases hz⟩, rfl, by decide, (W0_in (tp_5 (List.mem_of_getElem? (i := 73) (by decide +kernel))) rfl), by decide⟩
set_option maxRecDepth 100000 in
set_option maxHeartbeats 4000000 in
theorem kw_cell {G : kG} {q : kP} {d : Nat} {x : gd} {C : gCo} {wr n : Nat} {lm : Nat → Nat} {w : gd} (hj : JH C wr n lm x w) (hu : kU q) (hH : HOI x q) (l1 : Int32) : T (wE (kE G)) (d + 30) zw_cell 0 [(0, vr 0), (1, vi l1), (2, vr 299)] [] x (fo (kf q)) (wq q (fun r9 y q1 => ansK (e1Ch x) (e2Ce x l1) (sCe C wr n (c96 w) x l1) x r9 y)) := by
  have m0 : 0 ∈ (fo (kf q)).2.1 := List.mem_append_left _ (kl_0 hu.1)
  have m9 : 299 ∈ (fo (kf q)).2.1 := List.mem_append_right _ (List.mem_singleton.mpr rfl)
  have n9 := n299 hu
  have r9 : NR (kf q) 299 := kU_NR hu n9
  refine T_aload_n 2 (dk dtk_L_cell 0 rfl) rfl rfl ?_
  refine T_iconst (v := 0) (dk dtk_L_cell 1 rfl) (by decide +kernel) ?_
  refine T_aload_n 0 (dk dtk_L_cell 2 rfl) rfl rfl ?_
  refine T_iload_n 1 (dk dtk_L_cell 3 rfl) rfl rfl ?_
  have hend : ∀ (r : Int32) (y : gd) (q1 : kP), kU q1 → kst q q1 → HOI y q1 → ¬ (e1Ch x) ∧ ¬ (e2Ce x l1) ∧ sCe C wr n (c96 w) x l1 r y → T (wE (kE G)) (d + 30) zw_cell 7 [(0, vr 0), (1, vi l1), (2, vr 299)] [vi r, vi 0, vr 299] y (fo (kf q1)) (wq q (fun r9 y q1 => ansK (e1Ch x) (e2Ce x l1) (sCe C wr n (c96 w) x l1) x r9 y)) := by
    intro r y q1 hu1 hk1 hH1 hp1
    have n91 : 299 ∈ (fo (kf q1)).2.1 := List.mem_append_right _ (List.mem_singleton.mpr rfl)
    refine T_i2l (dk dtk_L_cell 5 rfl) ?_
    refine T_last 299 1 (dk dtk_L_cell 6 rfl) wE_9 n91 (vin0 (by omega)) ?_
    refine T_goto 18 (dk dtk_L_cell 7 rfl) (by decide) ?_
    refine T_iconst (v := 0) (dk dtk_L_cell 14 rfl) (by decide +kernel) ?_
    exact T_iret (dk dtk_L_cell 15 rfl) rfl rfl ⟨0, q1, rfl, rfl, hu1, hk1, HOI_1 rfl hu1 hH1, Or.inr (Or.inr ⟨hp1.1, hp1.2.1, rfl, r, by rw [sL_c]; exact if_pos rfl, hp1.2.2⟩)⟩
  have hxiSE : e1Ch x → gtry (kE G) (d + 30) zw_cell 4 [(0, vr 0), (1, vi l1), (2, vr 299)] [vi 0, vr 299] (wq q (fun r9 y q1 => ansK (e1Ch x) (e2Ce x l1) (sCe C wr n (c96 w) x l1) x r9 y)) x (.inr iSE) x (gth (kf q)) := by
    intro hno
    refine ⟨⟨n9, r9⟩, ⟨0, 9, 12, 27⟩, 3, 1, wct_cell_iSE, Or.inl ⟨3, rfl, rfl, (dk dtk_L_cell 8 rfl)⟩, by decide, rfl, ?_⟩
    refine T_iconst (v := 1) (dk dtk_L_cell 9 rfl) (by decide +kernel) ?_
    exact T_iret (dk dtk_L_cell 10 rfl) rfl rfl ⟨1, kTh q, rfl, rfl, kTh_U hu, kst_th q, HOI_1 rfl (kTh_U hu) (HOI_th hH), Or.inl ⟨hno, rfl, KR_rf⟩⟩
  have hxiOE : e2Ce x l1 → gtry (kE G) (d + 30) zw_cell 4 [(0, vr 0), (1, vi l1), (2, vr 299)] [vi 0, vr 299] (wq q (fun r9 y q1 => ansK (e1Ch x) (e2Ce x l1) (sCe C wr n (c96 w) x l1) x r9 y)) x (.inr iOE) x (gth (kf q)) := by
    intro hno
    refine ⟨⟨n9, r9⟩, ⟨0, 9, 15, 19⟩, 3, 1, wct_cell_iOE, Or.inl ⟨3, rfl, rfl, (dk dtk_L_cell 11 rfl)⟩, by decide, rfl, ?_⟩
    refine T_iconst (v := 2) (dk dtk_L_cell 12 rfl) (by decide +kernel) ?_
    exact T_iret (dk dtk_L_cell 13 rfl) rfl rfl ⟨2, kTh q, rfl, rfl, kTh_U hu, kst_th q, HOI_1 rfl (kTh_U hu) (HOI_th hH), Or.inr (Or.inl ⟨hno, rfl, KR_rf⟩)⟩
  refine T_tryF (E := kE G) [vi l1] [vi 0, vr 299] (d + 7) rfl (dk dtk_L_cell 4 rfl) kcv_L_49 rfl kk_0 rfl (kl_0 hu.1) (by omega) (Nat.le_of_ble_eq_true rfl) (Nat.le_of_ble_eq_true rfl) (gok_i (av_c (gkr m0) (av_c rfl (av_c (gkr m9) av_n))) (as_c rfl (as_c (gkr m9) as_n))) rfl n9 ?_
  refine T_mono (ka_cell (d := d) hj hu.1 hH l1 (P := fun v9 y9 => ∃ r, v9 = some (vi r) ∧ HOI y9 q ∧ ¬ (e1Ch x) ∧ ¬ (e2Ce x l1) ∧ sCe C wr n (c96 w) x l1 r y9) (X := fun c9 y9 => ((c9 = iSE ∧ e1Ch x) ∨ (c9 = iOE ∧ e2Ce x l1)) ∧ y9 = x) (fun h9 => ⟨Or.inl ⟨rfl, h9⟩, rfl⟩) (fun h9 => ⟨Or.inr ⟨rfl, h9⟩, rfl⟩) (fun h8 h9 r y h1 h2 => ⟨r, rfl, h1, h8, h9, h2⟩)) (fun o9 x9 f9 w9 => ?_)
  rcases w9 with ⟨rfl, v, rfl, r, rfl, h1, h2⟩ | ⟨rfl, c9, rfl, hc, rfl⟩
  · exact ⟨⟨n9, r9⟩, ⟨r, rfl⟩, hend r (xo x x9) q hu (kst_rf q) (HOI_1 rfl hu h1) h2⟩
  · rcases hc with ⟨rfl, hno⟩ | ⟨rfl, hno⟩
    · exact hxiSE hno
    · exact hxiOE hno
abbrev zw_seen : gy := (yL_seen, cL_seen, 5, (some .int), [(0, 10, 13, 27), (0, 10, 17, 19)])
set_option maxRecDepth 100000 in
theorem dtk_L_seen : dck cL_seen [(0, .aload_n 3, 1), (1, .iconst 0, 1), (2, .aload_n 0, 1), (3, .iload_n 1, 1), (4, .iload_n 2, 1), (5, .invokevirtual 52, 3), (8, .i2l, 1), (9, .lastore, 1), (10, .goto 11, 3), (13, .astore 4, 2), (15, .iconst 1, 1), (16, .ireturn, 1), (17, .astore 4, 2), (19, .iconst 2, 1), (20, .ireturn, 1), (21, .iconst 0, 1), (22, .ireturn, 1)] = true := by decide +kernel
set_option maxRecDepth 100000 in
theorem wca_seen : tables_1_6[186]? = some (Cond.codeWith yL_seen cL_seen 5 (some .int) [(0, 10, 13, 27), (0, 10, 17, 19)]) := rfl
theorem wcw_seen : Cond.codeWith yL_seen cL_seen 5 (some .int) [(0, 10, 13, 27), (0, 10, 17, 19)] ∈ W0 := W0_in (tp_6 (List.mem_of_getElem? wca_seen)) rfl
theorem kcv_L_52 : gMv RL 52 zk_X11_seen 2 := ⟨⟨W0_in (tp_6 (List.mem_of_getElem? (i := 187) (by decide +kernel))) rfl, W0_in (tp_6 (List.mem_of_getElem? (i := 188) (by decide +kernel))) rfl, W0_in (tp_6 (List.mem_of_getElem? (i := 189) (by decide +kernel))) rfl, W0_in (tp_1 (List.mem_of_getElem? (i := 1) (by decide +kernel))) rfl, kcw_X11_seen⟩, ⟨by decide, by decide, by decide +kernel⟩, by decide, by decide⟩
theorem wct_seen_iSE : gCat zw_seen 5 iSE ⟨0, 10, 13, 27⟩ := ⟨⟨[], [⟨0, 10, 17, 19⟩], rfl, fun z hz => nomatch hz⟩, rfl, by decide, (W0_in (tp_5 (List.mem_of_getElem? (i := 107) (by decide +kernel))) rfl), by decide⟩
theorem wct_seen_iOE : gCat zw_seen 5 iOE ⟨0, 10, 17, 19⟩ := ⟨⟨[⟨0, 10, 13, 27⟩], [], rfl, fun z hz => by
  cases hz with
  | head => exact ⟨by decide, iSE, (W0_in (tp_5 (List.mem_of_getElem? (i := 107) (by decide +kernel))) rfl), by decide⟩
  | tail _ hz => cases hz⟩, rfl, by decide, (W0_in (tp_5 (List.mem_of_getElem? (i := 73) (by decide +kernel))) rfl), by decide⟩
set_option maxRecDepth 100000 in
set_option maxHeartbeats 4000000 in
theorem kw_seen {G : kG} {q : kP} {d : Nat} {x : gd} {C : gCo} {wr n : Nat} {lm : Nat → Nat} {w : gd} (hj : JH C wr n lm x w) (hu : kU q) (hH : HOI x q) (l1 : Int32) (l2 : Int32) : T (wE (kE G)) (d + 30) zw_seen 0 [(0, vr 0), (1, vi l1), (2, vi l2), (3, vr 299)] [] x (fo (kf q)) (wq q (fun r9 y q1 => ansK (e1Ch x) (e2Se x l1 l2) (sSe C wr n (c96 w) x l1 l2) x r9 y)) := by
  have m0 : 0 ∈ (fo (kf q)).2.1 := List.mem_append_left _ (kl_0 hu.1)
  have m9 : 299 ∈ (fo (kf q)).2.1 := List.mem_append_right _ (List.mem_singleton.mpr rfl)
  have n9 := n299 hu
  have r9 : NR (kf q) 299 := kU_NR hu n9
  refine T_aload_n 3 (dk dtk_L_seen 0 rfl) rfl rfl ?_
  refine T_iconst (v := 0) (dk dtk_L_seen 1 rfl) (by decide +kernel) ?_
  refine T_aload_n 0 (dk dtk_L_seen 2 rfl) rfl rfl ?_
  refine T_iload_n 1 (dk dtk_L_seen 3 rfl) rfl rfl ?_
  refine T_iload_n 2 (dk dtk_L_seen 4 rfl) rfl rfl ?_
  have hend : ∀ (r : Int32) (y : gd) (q1 : kP), kU q1 → kst q q1 → HOI y q1 → ¬ (e1Ch x) ∧ ¬ (e2Se x l1 l2) ∧ sSe C wr n (c96 w) x l1 l2 r y → T (wE (kE G)) (d + 30) zw_seen 8 [(0, vr 0), (1, vi l1), (2, vi l2), (3, vr 299)] [vi r, vi 0, vr 299] y (fo (kf q1)) (wq q (fun r9 y q1 => ansK (e1Ch x) (e2Se x l1 l2) (sSe C wr n (c96 w) x l1 l2) x r9 y)) := by
    intro r y q1 hu1 hk1 hH1 hp1
    have n91 : 299 ∈ (fo (kf q1)).2.1 := List.mem_append_right _ (List.mem_singleton.mpr rfl)
    refine T_i2l (dk dtk_L_seen 6 rfl) ?_
    refine T_last 299 1 (dk dtk_L_seen 7 rfl) wE_9 n91 (vin0 (by omega)) ?_
    refine T_goto 21 (dk dtk_L_seen 8 rfl) (by decide) ?_
    refine T_iconst (v := 0) (dk dtk_L_seen 15 rfl) (by decide +kernel) ?_
    exact T_iret (dk dtk_L_seen 16 rfl) rfl rfl ⟨0, q1, rfl, rfl, hu1, hk1, HOI_1 rfl hu1 hH1, Or.inr (Or.inr ⟨hp1.1, hp1.2.1, rfl, r, by rw [sL_c]; exact if_pos rfl, hp1.2.2⟩)⟩
  have hxiSE : e1Ch x → gtry (kE G) (d + 30) zw_seen 5 [(0, vr 0), (1, vi l1), (2, vi l2), (3, vr 299)] [vi 0, vr 299] (wq q (fun r9 y q1 => ansK (e1Ch x) (e2Se x l1 l2) (sSe C wr n (c96 w) x l1 l2) x r9 y)) x (.inr iSE) x (gth (kf q)) := by
    intro hno
    refine ⟨⟨n9, r9⟩, ⟨0, 10, 13, 27⟩, 4, 2, wct_seen_iSE, Or.inr ⟨rfl, (dk dtk_L_seen 9 rfl)⟩, by decide, rfl, ?_⟩
    refine T_iconst (v := 1) (dk dtk_L_seen 10 rfl) (by decide +kernel) ?_
    exact T_iret (dk dtk_L_seen 11 rfl) rfl rfl ⟨1, kTh q, rfl, rfl, kTh_U hu, kst_th q, HOI_1 rfl (kTh_U hu) (HOI_th hH), Or.inl ⟨hno, rfl, KR_rf⟩⟩
  have hxiOE : e2Se x l1 l2 → gtry (kE G) (d + 30) zw_seen 5 [(0, vr 0), (1, vi l1), (2, vi l2), (3, vr 299)] [vi 0, vr 299] (wq q (fun r9 y q1 => ansK (e1Ch x) (e2Se x l1 l2) (sSe C wr n (c96 w) x l1 l2) x r9 y)) x (.inr iOE) x (gth (kf q)) := by
    intro hno
    refine ⟨⟨n9, r9⟩, ⟨0, 10, 17, 19⟩, 4, 2, wct_seen_iOE, Or.inr ⟨rfl, (dk dtk_L_seen 12 rfl)⟩, by decide, rfl, ?_⟩
    refine T_iconst (v := 2) (dk dtk_L_seen 13 rfl) (by decide +kernel) ?_
    exact T_iret (dk dtk_L_seen 14 rfl) rfl rfl ⟨2, kTh q, rfl, rfl, kTh_U hu, kst_th q, HOI_1 rfl (kTh_U hu) (HOI_th hH), Or.inr (Or.inl ⟨hno, rfl, KR_rf⟩)⟩
  refine T_tryF (E := kE G) [vi l1, vi l2] [vi 0, vr 299] (d + 7) rfl (dk dtk_L_seen 5 rfl) kcv_L_52 rfl kk_0 rfl (kl_0 hu.1) (by omega) (Nat.le_of_ble_eq_true rfl) (Nat.le_of_ble_eq_true rfl) (gok_i (av_c (gkr m0) (av_c rfl (av_c rfl (av_c (gkr m9) av_n)))) (as_c rfl (as_c (gkr m9) as_n))) rfl n9 ?_
  refine T_mono (ka_seen (d := d) hj hu.1 hH l1 l2 (P := fun v9 y9 => ∃ r, v9 = some (vi r) ∧ HOI y9 q ∧ ¬ (e1Ch x) ∧ ¬ (e2Se x l1 l2) ∧ sSe C wr n (c96 w) x l1 l2 r y9) (X := fun c9 y9 => ((c9 = iSE ∧ e1Ch x) ∨ (c9 = iOE ∧ e2Se x l1 l2)) ∧ y9 = x) (fun h9 => ⟨Or.inl ⟨rfl, h9⟩, rfl⟩) (fun h9 => ⟨Or.inr ⟨rfl, h9⟩, rfl⟩) (fun h8 h9 r y h1 h2 => ⟨r, rfl, h1, h8, h9, h2⟩)) (fun o9 x9 f9 w9 => ?_)
  rcases w9 with ⟨rfl, v, rfl, r, rfl, h1, h2⟩ | ⟨rfl, c9, rfl, hc, rfl⟩
  · exact ⟨⟨n9, r9⟩, ⟨r, rfl⟩, hend r (xo x x9) q hu (kst_rf q) (HOI_1 rfl hu h1) h2⟩
  · rcases hc with ⟨rfl, hno⟩ | ⟨rfl, hno⟩
    · exact hxiSE hno
    · exact hxiOE hno
abbrev zw_lock : gy := (yL_lock, cL_lock, 5, (some .int), [(0, 10, 13, 27), (0, 10, 17, 19)])
set_option maxRecDepth 100000 in
theorem dtk_L_lock : dck cL_lock [(0, .aload_n 3, 1), (1, .iconst 0, 1), (2, .aload_n 0, 1), (3, .iload_n 1, 1), (4, .iload_n 2, 1), (5, .invokevirtual 55, 3), (8, .i2l, 1), (9, .lastore, 1), (10, .goto 11, 3), (13, .astore 4, 2), (15, .iconst 1, 1), (16, .ireturn, 1), (17, .astore 4, 2), (19, .iconst 2, 1), (20, .ireturn, 1), (21, .iconst 0, 1), (22, .ireturn, 1)] = true := by decide +kernel
set_option maxRecDepth 100000 in
theorem wca_lock : tables_1_6[194]? = some (Cond.codeWith yL_lock cL_lock 5 (some .int) [(0, 10, 13, 27), (0, 10, 17, 19)]) := rfl
theorem wcw_lock : Cond.codeWith yL_lock cL_lock 5 (some .int) [(0, 10, 13, 27), (0, 10, 17, 19)] ∈ W0 := W0_in (tp_6 (List.mem_of_getElem? wca_lock)) rfl
theorem kcv_L_55 : gMv RL 55 zk_X11_lock 2 := ⟨⟨W0_in (tp_6 (List.mem_of_getElem? (i := 195) (by decide +kernel))) rfl, W0_in (tp_6 (List.mem_of_getElem? (i := 196) (by decide +kernel))) rfl, W0_in (tp_6 (List.mem_of_getElem? (i := 197) (by decide +kernel))) rfl, W0_in (tp_1 (List.mem_of_getElem? (i := 1) (by decide +kernel))) rfl, kcw_X11_lock⟩, ⟨by decide, by decide, by decide +kernel⟩, by decide, by decide⟩
theorem wct_lock_iSE : gCat zw_lock 5 iSE ⟨0, 10, 13, 27⟩ := ⟨⟨[], [⟨0, 10, 17, 19⟩], rfl, fun z hz => nomatch hz⟩, rfl, by decide, (W0_in (tp_5 (List.mem_of_getElem? (i := 107) (by decide +kernel))) rfl), by decide⟩
theorem wct_lock_iOE : gCat zw_lock 5 iOE ⟨0, 10, 17, 19⟩ := ⟨⟨[⟨0, 10, 13, 27⟩], [], rfl, fun z hz => by
  cases hz with
  | head => exact ⟨by decide, iSE, (W0_in (tp_5 (List.mem_of_getElem? (i := 107) (by decide +kernel))) rfl), by decide⟩
  | tail _ hz => cases hz⟩, rfl, by decide, (W0_in (tp_5 (List.mem_of_getElem? (i := 73) (by decide +kernel))) rfl), by decide⟩
set_option maxRecDepth 100000 in
set_option maxHeartbeats 4000000 in
theorem kw_lock {G : kG} {q : kP} {d : Nat} {x : gd} (hu : kU q) (hH : HOI x q) (l1 : Int32) (l2 : Int32) : T (wE (kE G)) (d + 30) zw_lock 0 [(0, vr 0), (1, vi l1), (2, vi l2), (3, vr 299)] [] x (fo (kf q)) (wq q (fun _ y q1 => KRd x y)) := by
  have m0 : 0 ∈ (fo (kf q)).2.1 := List.mem_append_left _ (kl_0 hu.1)
  have m9 : 299 ∈ (fo (kf q)).2.1 := List.mem_append_right _ (List.mem_singleton.mpr rfl)
  have n9 := n299 hu
  have r9 : NR (kf q) 299 := kU_NR hu n9
  refine T_aload_n 3 (dk dtk_L_lock 0 rfl) rfl rfl ?_
  refine T_iconst (v := 0) (dk dtk_L_lock 1 rfl) (by decide +kernel) ?_
  refine T_aload_n 0 (dk dtk_L_lock 2 rfl) rfl rfl ?_
  refine T_iload_n 1 (dk dtk_L_lock 3 rfl) rfl rfl ?_
  refine T_iload_n 2 (dk dtk_L_lock 4 rfl) rfl rfl ?_
  have hend : ∀ (r : Int32) (y : gd) (q1 : kP), kU q1 → kst q q1 → HOI y q1 → (fun _ y q1 => KRd x y) 0 y q1 → T (wE (kE G)) (d + 30) zw_lock 8 [(0, vr 0), (1, vi l1), (2, vi l2), (3, vr 299)] [vi r, vi 0, vr 299] y (fo (kf q1)) (wq q (fun _ y q1 => KRd x y)) := by
    intro r y q1 hu1 hk1 hH1 hp1
    have n91 : 299 ∈ (fo (kf q1)).2.1 := List.mem_append_right _ (List.mem_singleton.mpr rfl)
    refine T_i2l (dk dtk_L_lock 6 rfl) ?_
    refine T_last 299 1 (dk dtk_L_lock 7 rfl) wE_9 n91 (vin0 (by omega)) ?_
    refine T_goto 21 (dk dtk_L_lock 8 rfl) (by decide) ?_
    refine T_iconst (v := 0) (dk dtk_L_lock 15 rfl) (by decide +kernel) ?_
    exact T_iret (dk dtk_L_lock 16 rfl) rfl rfl ⟨0, q1, rfl, rfl, hu1, hk1, HOI_1 rfl hu1 hH1, hp1⟩
  have hxiSE : gtry (kE G) (d + 30) zw_lock 5 [(0, vr 0), (1, vi l1), (2, vi l2), (3, vr 299)] [vi 0, vr 299] (wq q (fun _ y q1 => KRd x y)) x (.inr iSE) x (gth (kf q)) := by
    refine ⟨⟨n9, r9⟩, ⟨0, 10, 13, 27⟩, 4, 2, wct_lock_iSE, Or.inr ⟨rfl, (dk dtk_L_lock 9 rfl)⟩, by decide, rfl, ?_⟩
    refine T_iconst (v := 1) (dk dtk_L_lock 10 rfl) (by decide +kernel) ?_
    exact T_iret (dk dtk_L_lock 11 rfl) rfl rfl ⟨1, kTh q, rfl, rfl, kTh_U hu, kst_th q, HOI_1 rfl (kTh_U hu) (HOI_th hH), KR_rf⟩
  have hxiOE : gtry (kE G) (d + 30) zw_lock 5 [(0, vr 0), (1, vi l1), (2, vi l2), (3, vr 299)] [vi 0, vr 299] (wq q (fun _ y q1 => KRd x y)) x (.inr iOE) x (gth (kf q)) := by
    refine ⟨⟨n9, r9⟩, ⟨0, 10, 17, 19⟩, 4, 2, wct_lock_iOE, Or.inr ⟨rfl, (dk dtk_L_lock 12 rfl)⟩, by decide, rfl, ?_⟩
    refine T_iconst (v := 2) (dk dtk_L_lock 13 rfl) (by decide +kernel) ?_
    exact T_iret (dk dtk_L_lock 14 rfl) rfl rfl ⟨2, kTh q, rfl, rfl, kTh_U hu, kst_th q, HOI_1 rfl (kTh_U hu) (HOI_th hH), KR_rf⟩
  refine T_tryF (E := kE G) [vi l1, vi l2] [vi 0, vr 299] (d + 7) rfl (dk dtk_L_lock 5 rfl) kcv_L_55 rfl kk_0 rfl (kl_0 hu.1) (by omega) (Nat.le_of_ble_eq_true rfl) (Nat.le_of_ble_eq_true rfl) (gok_i (av_c (gkr m0) (av_c rfl (av_c rfl (av_c (gkr m9) av_n)))) (as_c rfl (as_c (gkr m9) as_n))) rfl n9 ?_
  refine T_mono (kr_lock (d := d) hu.1 hH l1 l2 (P := fun v9 y9 => ∃ r, v9 = some (vi r) ∧ HOI y9 q ∧ KRd x y9) (X := fun c9 y9 => (c9 = iSE ∨ c9 = iOE) ∧ y9 = x) ⟨Or.inl rfl, rfl⟩ ⟨Or.inr rfl, rfl⟩ (fun r y h1 h2 => ⟨r, rfl, h1, h2⟩)) (fun o9 x9 f9 w9 => ?_)
  rcases w9 with ⟨rfl, v, rfl, r, rfl, h1, h2⟩ | ⟨rfl, c9, rfl, hc, rfl⟩
  · exact ⟨⟨n9, r9⟩, ⟨r, rfl⟩, hend r (xo x x9) q hu (kst_rf q) (HOI_1 rfl hu h1) h2⟩
  · rcases hc with rfl | rfl
    · exact hxiSE
    · exact hxiOE
abbrev zw_thread : gy := (yL_thread, cL_thread, 5, (some .int), [(0, 10, 13, 27), (0, 10, 17, 19)])
set_option maxRecDepth 100000 in
theorem dtk_L_thread : dck cL_thread [(0, .aload_n 3, 1), (1, .iconst 0, 1), (2, .aload_n 0, 1), (3, .iload_n 1, 1), (4, .iload_n 2, 1), (5, .invokevirtual 58, 3), (8, .i2l, 1), (9, .lastore, 1), (10, .goto 11, 3), (13, .astore 4, 2), (15, .iconst 1, 1), (16, .ireturn, 1), (17, .astore 4, 2), (19, .iconst 2, 1), (20, .ireturn, 1), (21, .iconst 0, 1), (22, .ireturn, 1)] = true := by decide +kernel
set_option maxRecDepth 100000 in
theorem wca_thread : tables_1_6[210]? = some (Cond.codeWith yL_thread cL_thread 5 (some .int) [(0, 10, 13, 27), (0, 10, 17, 19)]) := rfl
theorem wcw_thread : Cond.codeWith yL_thread cL_thread 5 (some .int) [(0, 10, 13, 27), (0, 10, 17, 19)] ∈ W0 := W0_in (tp_6 (List.mem_of_getElem? wca_thread)) rfl
theorem kcv_L_58 : gMv RL 58 zk_X11_thread 2 := ⟨⟨W0_in (tp_6 (List.mem_of_getElem? (i := 211) (by decide +kernel))) rfl, W0_in (tp_6 (List.mem_of_getElem? (i := 212) (by decide +kernel))) rfl, W0_in (tp_6 (List.mem_of_getElem? (i := 213) (by decide +kernel))) rfl, W0_in (tp_1 (List.mem_of_getElem? (i := 1) (by decide +kernel))) rfl, kcw_X11_thread⟩, ⟨by decide, by decide, by decide +kernel⟩, by decide, by decide⟩
theorem wct_thread_iSE : gCat zw_thread 5 iSE ⟨0, 10, 13, 27⟩ := ⟨⟨[], [⟨0, 10, 17, 19⟩], rfl, fun z hz => nomatch hz⟩, rfl, by decide, (W0_in (tp_5 (List.mem_of_getElem? (i := 107) (by decide +kernel))) rfl), by decide⟩
theorem wct_thread_iOE : gCat zw_thread 5 iOE ⟨0, 10, 17, 19⟩ := ⟨⟨[⟨0, 10, 13, 27⟩], [], rfl, fun z hz => by
  cases hz with
  | head => exact ⟨by decide, iSE, (W0_in (tp_5 (List.mem_of_getElem? (i := 107) (by decide +kernel))) rfl), by decide⟩
  | tail _ hz => cases hz⟩, rfl, by decide, (W0_in (tp_5 (List.mem_of_getElem? (i := 73) (by decide +kernel))) rfl), by decide⟩
set_option maxRecDepth 100000 in
set_option maxHeartbeats 4000000 in
theorem kw_thread {G : kG} {q : kP} {d : Nat} {x : gd} (hu : kU q) (hH : HOI x q) (l1 : Int32) (l2 : Int32) : T (wE (kE G)) (d + 30) zw_thread 0 [(0, vr 0), (1, vi l1), (2, vi l2), (3, vr 299)] [] x (fo (kf q)) (wq q (fun _ y q1 => KRd x y)) := by
  have m0 : 0 ∈ (fo (kf q)).2.1 := List.mem_append_left _ (kl_0 hu.1)
  have m9 : 299 ∈ (fo (kf q)).2.1 := List.mem_append_right _ (List.mem_singleton.mpr rfl)
  have n9 := n299 hu
  have r9 : NR (kf q) 299 := kU_NR hu n9
  refine T_aload_n 3 (dk dtk_L_thread 0 rfl) rfl rfl ?_
  refine T_iconst (v := 0) (dk dtk_L_thread 1 rfl) (by decide +kernel) ?_
  refine T_aload_n 0 (dk dtk_L_thread 2 rfl) rfl rfl ?_
  refine T_iload_n 1 (dk dtk_L_thread 3 rfl) rfl rfl ?_
  refine T_iload_n 2 (dk dtk_L_thread 4 rfl) rfl rfl ?_
  have hend : ∀ (r : Int32) (y : gd) (q1 : kP), kU q1 → kst q q1 → HOI y q1 → (fun _ y q1 => KRd x y) 0 y q1 → T (wE (kE G)) (d + 30) zw_thread 8 [(0, vr 0), (1, vi l1), (2, vi l2), (3, vr 299)] [vi r, vi 0, vr 299] y (fo (kf q1)) (wq q (fun _ y q1 => KRd x y)) := by
    intro r y q1 hu1 hk1 hH1 hp1
    have n91 : 299 ∈ (fo (kf q1)).2.1 := List.mem_append_right _ (List.mem_singleton.mpr rfl)
    refine T_i2l (dk dtk_L_thread 6 rfl) ?_
    refine T_last 299 1 (dk dtk_L_thread 7 rfl) wE_9 n91 (vin0 (by omega)) ?_
    refine T_goto 21 (dk dtk_L_thread 8 rfl) (by decide) ?_
    refine T_iconst (v := 0) (dk dtk_L_thread 15 rfl) (by decide +kernel) ?_
    exact T_iret (dk dtk_L_thread 16 rfl) rfl rfl ⟨0, q1, rfl, rfl, hu1, hk1, HOI_1 rfl hu1 hH1, hp1⟩
  have hxiSE : gtry (kE G) (d + 30) zw_thread 5 [(0, vr 0), (1, vi l1), (2, vi l2), (3, vr 299)] [vi 0, vr 299] (wq q (fun _ y q1 => KRd x y)) x (.inr iSE) x (gth (kf q)) := by
    refine ⟨⟨n9, r9⟩, ⟨0, 10, 13, 27⟩, 4, 2, wct_thread_iSE, Or.inr ⟨rfl, (dk dtk_L_thread 9 rfl)⟩, by decide, rfl, ?_⟩
    refine T_iconst (v := 1) (dk dtk_L_thread 10 rfl) (by decide +kernel) ?_
    exact T_iret (dk dtk_L_thread 11 rfl) rfl rfl ⟨1, kTh q, rfl, rfl, kTh_U hu, kst_th q, HOI_1 rfl (kTh_U hu) (HOI_th hH), KR_rf⟩
  have hxiOE : gtry (kE G) (d + 30) zw_thread 5 [(0, vr 0), (1, vi l1), (2, vi l2), (3, vr 299)] [vi 0, vr 299] (wq q (fun _ y q1 => KRd x y)) x (.inr iOE) x (gth (kf q)) := by
    refine ⟨⟨n9, r9⟩, ⟨0, 10, 17, 19⟩, 4, 2, wct_thread_iOE, Or.inr ⟨rfl, (dk dtk_L_thread 12 rfl)⟩, by decide, rfl, ?_⟩
    refine T_iconst (v := 2) (dk dtk_L_thread 13 rfl) (by decide +kernel) ?_
    exact T_iret (dk dtk_L_thread 14 rfl) rfl rfl ⟨2, kTh q, rfl, rfl, kTh_U hu, kst_th q, HOI_1 rfl (kTh_U hu) (HOI_th hH), KR_rf⟩
  refine T_tryF (E := kE G) [vi l1, vi l2] [vi 0, vr 299] (d + 7) rfl (dk dtk_L_thread 5 rfl) kcv_L_58 rfl kk_0 rfl (kl_0 hu.1) (by omega) (Nat.le_of_ble_eq_true rfl) (Nat.le_of_ble_eq_true rfl) (gok_i (av_c (gkr m0) (av_c rfl (av_c rfl (av_c (gkr m9) av_n)))) (as_c rfl (as_c (gkr m9) as_n))) rfl n9 ?_
  refine T_mono (kr_thread (d := d) hu.1 hH l1 l2 (P := fun v9 y9 => ∃ r, v9 = some (vi r) ∧ HOI y9 q ∧ KRd x y9) (X := fun c9 y9 => (c9 = iSE ∨ c9 = iOE) ∧ y9 = x) ⟨Or.inl rfl, rfl⟩ ⟨Or.inr rfl, rfl⟩ (fun r y h1 h2 => ⟨r, rfl, h1, h2⟩)) (fun o9 x9 f9 w9 => ?_)
  rcases w9 with ⟨rfl, v, rfl, r, rfl, h1, h2⟩ | ⟨rfl, c9, rfl, hc, rfl⟩
  · exact ⟨⟨n9, r9⟩, ⟨r, rfl⟩, hend r (xo x x9) q hu (kst_rf q) (HOI_1 rfl hu h1) h2⟩
  · rcases hc with rfl | rfl
    · exact hxiSE
    · exact hxiOE
abbrev zw_local : gy := (yL_local, cL_local, 5, (some .int), [(0, 10, 13, 27), (0, 10, 17, 19)])
set_option maxRecDepth 100000 in
theorem dtk_L_local : dck cL_local [(0, .aload_n 3, 1), (1, .iconst 0, 1), (2, .aload_n 0, 1), (3, .iload_n 1, 1), (4, .iload_n 2, 1), (5, .invokevirtual 61, 3), (8, .i2l, 1), (9, .lastore, 1), (10, .goto 11, 3), (13, .astore 4, 2), (15, .iconst 1, 1), (16, .ireturn, 1), (17, .astore 4, 2), (19, .iconst 2, 1), (20, .ireturn, 1), (21, .iconst 0, 1), (22, .ireturn, 1)] = true := by decide +kernel
set_option maxRecDepth 100000 in
theorem wca_local : tables_1_6[223]? = some (Cond.codeWith yL_local cL_local 5 (some .int) [(0, 10, 13, 27), (0, 10, 17, 19)]) := rfl
theorem wcw_local : Cond.codeWith yL_local cL_local 5 (some .int) [(0, 10, 13, 27), (0, 10, 17, 19)] ∈ W0 := W0_in (tp_6 (List.mem_of_getElem? wca_local)) rfl
theorem kcv_L_61 : gMv RL 61 zk_X11_local 2 := ⟨⟨W0_in (tp_6 (List.mem_of_getElem? (i := 224) (by decide +kernel))) rfl, W0_in (tp_6 (List.mem_of_getElem? (i := 225) (by decide +kernel))) rfl, W0_in (tp_6 (List.mem_of_getElem? (i := 226) (by decide +kernel))) rfl, W0_in (tp_1 (List.mem_of_getElem? (i := 1) (by decide +kernel))) rfl, kcw_X11_local⟩, ⟨by decide, by decide, by decide +kernel⟩, by decide, by decide⟩
theorem wct_local_iSE : gCat zw_local 5 iSE ⟨0, 10, 13, 27⟩ := ⟨⟨[], [⟨0, 10, 17, 19⟩], rfl, fun z hz => nomatch hz⟩, rfl, by decide, (W0_in (tp_5 (List.mem_of_getElem? (i := 107) (by decide +kernel))) rfl), by decide⟩
theorem wct_local_iOE : gCat zw_local 5 iOE ⟨0, 10, 17, 19⟩ := ⟨⟨[⟨0, 10, 13, 27⟩], [], rfl, fun z hz => by
  cases hz with
  | head => exact ⟨by decide, iSE, (W0_in (tp_5 (List.mem_of_getElem? (i := 107) (by decide +kernel))) rfl), by decide⟩
  | tail _ hz => cases hz⟩, rfl, by decide, (W0_in (tp_5 (List.mem_of_getElem? (i := 73) (by decide +kernel))) rfl), by decide⟩
set_option maxRecDepth 100000 in
set_option maxHeartbeats 4000000 in
theorem kw_local {G : kG} {q : kP} {d : Nat} {x : gd} {C : gCo} {wr n : Nat} {lm : Nat → Nat} {w : gd} (hj : JH C wr n lm x w) (hu : kU q) (hH : HOI x q) (l1 : Int32) (l2 : Int32) : T (wE (kE G)) (d + 30) zw_local 0 [(0, vr 0), (1, vi l1), (2, vi l2), (3, vr 299)] [] x (fo (kf q)) (wq q (fun r9 y q1 => ansK (e1Ch x) (e2Lo C wr n (c96 w) x l1 l2) (sLo C wr n (c96 w) x l1 l2) x r9 y)) := by
  have m0 : 0 ∈ (fo (kf q)).2.1 := List.mem_append_left _ (kl_0 hu.1)
  have m9 : 299 ∈ (fo (kf q)).2.1 := List.mem_append_right _ (List.mem_singleton.mpr rfl)
  have n9 := n299 hu
  have r9 : NR (kf q) 299 := kU_NR hu n9
  refine T_aload_n 3 (dk dtk_L_local 0 rfl) rfl rfl ?_
  refine T_iconst (v := 0) (dk dtk_L_local 1 rfl) (by decide +kernel) ?_
  refine T_aload_n 0 (dk dtk_L_local 2 rfl) rfl rfl ?_
  refine T_iload_n 1 (dk dtk_L_local 3 rfl) rfl rfl ?_
  refine T_iload_n 2 (dk dtk_L_local 4 rfl) rfl rfl ?_
  have hend : ∀ (r : Int32) (y : gd) (q1 : kP), kU q1 → kst q q1 → HOI y q1 → ¬ (e1Ch x) ∧ ¬ (e2Lo C wr n (c96 w) x l1 l2) ∧ sLo C wr n (c96 w) x l1 l2 r y → T (wE (kE G)) (d + 30) zw_local 8 [(0, vr 0), (1, vi l1), (2, vi l2), (3, vr 299)] [vi r, vi 0, vr 299] y (fo (kf q1)) (wq q (fun r9 y q1 => ansK (e1Ch x) (e2Lo C wr n (c96 w) x l1 l2) (sLo C wr n (c96 w) x l1 l2) x r9 y)) := by
    intro r y q1 hu1 hk1 hH1 hp1
    have n91 : 299 ∈ (fo (kf q1)).2.1 := List.mem_append_right _ (List.mem_singleton.mpr rfl)
    refine T_i2l (dk dtk_L_local 6 rfl) ?_
    refine T_last 299 1 (dk dtk_L_local 7 rfl) wE_9 n91 (vin0 (by omega)) ?_
    refine T_goto 21 (dk dtk_L_local 8 rfl) (by decide) ?_
    refine T_iconst (v := 0) (dk dtk_L_local 15 rfl) (by decide +kernel) ?_
    exact T_iret (dk dtk_L_local 16 rfl) rfl rfl ⟨0, q1, rfl, rfl, hu1, hk1, HOI_1 rfl hu1 hH1, Or.inr (Or.inr ⟨hp1.1, hp1.2.1, rfl, r, by rw [sL_c]; exact if_pos rfl, hp1.2.2⟩)⟩
  have hxiSE : e1Ch x → gtry (kE G) (d + 30) zw_local 5 [(0, vr 0), (1, vi l1), (2, vi l2), (3, vr 299)] [vi 0, vr 299] (wq q (fun r9 y q1 => ansK (e1Ch x) (e2Lo C wr n (c96 w) x l1 l2) (sLo C wr n (c96 w) x l1 l2) x r9 y)) x (.inr iSE) x (gth (kf q)) := by
    intro hno
    refine ⟨⟨n9, r9⟩, ⟨0, 10, 13, 27⟩, 4, 2, wct_local_iSE, Or.inr ⟨rfl, (dk dtk_L_local 9 rfl)⟩, by decide, rfl, ?_⟩
    refine T_iconst (v := 1) (dk dtk_L_local 10 rfl) (by decide +kernel) ?_
    exact T_iret (dk dtk_L_local 11 rfl) rfl rfl ⟨1, kTh q, rfl, rfl, kTh_U hu, kst_th q, HOI_1 rfl (kTh_U hu) (HOI_th hH), Or.inl ⟨hno, rfl, KR_rf⟩⟩
  have hxiOE : e2Lo C wr n (c96 w) x l1 l2 → gtry (kE G) (d + 30) zw_local 5 [(0, vr 0), (1, vi l1), (2, vi l2), (3, vr 299)] [vi 0, vr 299] (wq q (fun r9 y q1 => ansK (e1Ch x) (e2Lo C wr n (c96 w) x l1 l2) (sLo C wr n (c96 w) x l1 l2) x r9 y)) x (.inr iOE) x (gth (kf q)) := by
    intro hno
    refine ⟨⟨n9, r9⟩, ⟨0, 10, 17, 19⟩, 4, 2, wct_local_iOE, Or.inr ⟨rfl, (dk dtk_L_local 12 rfl)⟩, by decide, rfl, ?_⟩
    refine T_iconst (v := 2) (dk dtk_L_local 13 rfl) (by decide +kernel) ?_
    exact T_iret (dk dtk_L_local 14 rfl) rfl rfl ⟨2, kTh q, rfl, rfl, kTh_U hu, kst_th q, HOI_1 rfl (kTh_U hu) (HOI_th hH), Or.inr (Or.inl ⟨hno, rfl, KR_rf⟩)⟩
  refine T_tryF (E := kE G) [vi l1, vi l2] [vi 0, vr 299] (d + 7) rfl (dk dtk_L_local 5 rfl) kcv_L_61 rfl kk_0 rfl (kl_0 hu.1) (by omega) (Nat.le_of_ble_eq_true rfl) (Nat.le_of_ble_eq_true rfl) (gok_i (av_c (gkr m0) (av_c rfl (av_c rfl (av_c (gkr m9) av_n)))) (as_c rfl (as_c (gkr m9) as_n))) rfl n9 ?_
  refine T_mono (ka_local (d := d) hj hu.1 hH l1 l2 (P := fun v9 y9 => ∃ r, v9 = some (vi r) ∧ HOI y9 q ∧ ¬ (e1Ch x) ∧ ¬ (e2Lo C wr n (c96 w) x l1 l2) ∧ sLo C wr n (c96 w) x l1 l2 r y9) (X := fun c9 y9 => ((c9 = iSE ∧ e1Ch x) ∨ (c9 = iOE ∧ e2Lo C wr n (c96 w) x l1 l2)) ∧ y9 = x) (fun h9 => ⟨Or.inl ⟨rfl, h9⟩, rfl⟩) (fun h9 => ⟨Or.inr ⟨rfl, h9⟩, rfl⟩) (fun h8 h9 r y h1 h2 => ⟨r, rfl, h1, h8, h9, h2⟩)) (fun o9 x9 f9 w9 => ?_)
  rcases w9 with ⟨rfl, v, rfl, r, rfl, h1, h2⟩ | ⟨rfl, c9, rfl, hc, rfl⟩
  · exact ⟨⟨n9, r9⟩, ⟨r, rfl⟩, hend r (xo x x9) q hu (kst_rf q) (HOI_1 rfl hu h1) h2⟩
  · rcases hc with ⟨rfl, hno⟩ | ⟨rfl, hno⟩
    · exact hxiSE hno
    · exact hxiOE hno
abbrev zw_act : gy := (yL_act, cL_act, 5, (some .int), [(0, 10, 13, 27), (0, 10, 17, 19)])
set_option maxRecDepth 100000 in
theorem dtk_L_act : dck cL_act [(0, .aload_n 3, 1), (1, .iconst 0, 1), (2, .aload_n 0, 1), (3, .iload_n 1, 1), (4, .iload_n 2, 1), (5, .invokevirtual 64, 3), (8, .i2l, 1), (9, .lastore, 1), (10, .goto 11, 3), (13, .astore 4, 2), (15, .iconst 1, 1), (16, .ireturn, 1), (17, .astore 4, 2), (19, .iconst 2, 1), (20, .ireturn, 1), (21, .iconst 0, 1), (22, .ireturn, 1)] = true := by decide +kernel
set_option maxRecDepth 100000 in
theorem wca_act : tables_1_6[230]? = some (Cond.codeWith yL_act cL_act 5 (some .int) [(0, 10, 13, 27), (0, 10, 17, 19)]) := rfl
theorem wcw_act : Cond.codeWith yL_act cL_act 5 (some .int) [(0, 10, 13, 27), (0, 10, 17, 19)] ∈ W0 := W0_in (tp_6 (List.mem_of_getElem? wca_act)) rfl
theorem kcv_L_64 : gMv RL 64 zk_X11_act 2 := ⟨⟨W0_in (tp_6 (List.mem_of_getElem? (i := 231) (by decide +kernel))) rfl, W0_in (tp_6 (List.mem_of_getElem? (i := 232) (by decide +kernel))) rfl, W0_in (tp_6 (List.mem_of_getElem? (i := 233) (by decide +kernel))) rfl, W0_in (tp_1 (List.mem_of_getElem? (i := 1) (by decide +kernel))) rfl, kcw_X11_act⟩, ⟨by decide, by decide, by decide +kernel⟩, by decide, by decide⟩
theorem wct_act_iSE : gCat zw_act 5 iSE ⟨0, 10, 13, 27⟩ := ⟨⟨[], [⟨0, 10, 17, 19⟩], rfl, fun z hz => nomatch hz⟩, rfl, by decide, (W0_in (tp_5 (List.mem_of_getElem? (i := 107) (by decide +kernel))) rfl), by decide⟩
theorem wct_act_iOE : gCat zw_act 5 iOE ⟨0, 10, 17, 19⟩ := ⟨⟨[⟨0, 10, 13, 27⟩], [], rfl, fun z hz => by
  cases hz with
  | head => exact ⟨by decide, iSE, (W0_in (tp_5 (List.mem_of_getElem? (i := 107) (by decide +kernel))) rfl), by decide⟩
  | tail _ hz => cases hz⟩, rfl, by decide, (W0_in (tp_5 (List.mem_of_getElem? (i := 73) (by decide +kernel))) rfl), by decide⟩
set_option maxRecDepth 100000 in
set_option maxHeartbeats 4000000 in
theorem kw_act {G : kG} {q : kP} {d : Nat} {x : gd} (hu : kU q) (hH : HOI x q) (l1 : Int32) (l2 : Int32) : T (wE (kE G)) (d + 30) zw_act 0 [(0, vr 0), (1, vi l1), (2, vi l2), (3, vr 299)] [] x (fo (kf q)) (wq q (fun _ y q1 => KRd x y)) := by
  have m0 : 0 ∈ (fo (kf q)).2.1 := List.mem_append_left _ (kl_0 hu.1)
  have m9 : 299 ∈ (fo (kf q)).2.1 := List.mem_append_right _ (List.mem_singleton.mpr rfl)
  have n9 := n299 hu
  have r9 : NR (kf q) 299 := kU_NR hu n9
  refine T_aload_n 3 (dk dtk_L_act 0 rfl) rfl rfl ?_
  refine T_iconst (v := 0) (dk dtk_L_act 1 rfl) (by decide +kernel) ?_
  refine T_aload_n 0 (dk dtk_L_act 2 rfl) rfl rfl ?_
  refine T_iload_n 1 (dk dtk_L_act 3 rfl) rfl rfl ?_
  refine T_iload_n 2 (dk dtk_L_act 4 rfl) rfl rfl ?_
  have hend : ∀ (r : Int32) (y : gd) (q1 : kP), kU q1 → kst q q1 → HOI y q1 → (fun _ y q1 => KRd x y) 0 y q1 → T (wE (kE G)) (d + 30) zw_act 8 [(0, vr 0), (1, vi l1), (2, vi l2), (3, vr 299)] [vi r, vi 0, vr 299] y (fo (kf q1)) (wq q (fun _ y q1 => KRd x y)) := by
    intro r y q1 hu1 hk1 hH1 hp1
    have n91 : 299 ∈ (fo (kf q1)).2.1 := List.mem_append_right _ (List.mem_singleton.mpr rfl)
    refine T_i2l (dk dtk_L_act 6 rfl) ?_
    refine T_last 299 1 (dk dtk_L_act 7 rfl) wE_9 n91 (vin0 (by omega)) ?_
    refine T_goto 21 (dk dtk_L_act 8 rfl) (by decide) ?_
    refine T_iconst (v := 0) (dk dtk_L_act 15 rfl) (by decide +kernel) ?_
    exact T_iret (dk dtk_L_act 16 rfl) rfl rfl ⟨0, q1, rfl, rfl, hu1, hk1, HOI_1 rfl hu1 hH1, hp1⟩
  have hxiSE : gtry (kE G) (d + 30) zw_act 5 [(0, vr 0), (1, vi l1), (2, vi l2), (3, vr 299)] [vi 0, vr 299] (wq q (fun _ y q1 => KRd x y)) x (.inr iSE) x (gth (kf q)) := by
    refine ⟨⟨n9, r9⟩, ⟨0, 10, 13, 27⟩, 4, 2, wct_act_iSE, Or.inr ⟨rfl, (dk dtk_L_act 9 rfl)⟩, by decide, rfl, ?_⟩
    refine T_iconst (v := 1) (dk dtk_L_act 10 rfl) (by decide +kernel) ?_
    exact T_iret (dk dtk_L_act 11 rfl) rfl rfl ⟨1, kTh q, rfl, rfl, kTh_U hu, kst_th q, HOI_1 rfl (kTh_U hu) (HOI_th hH), KR_rf⟩
  have hxiOE : gtry (kE G) (d + 30) zw_act 5 [(0, vr 0), (1, vi l1), (2, vi l2), (3, vr 299)] [vi 0, vr 299] (wq q (fun _ y q1 => KRd x y)) x (.inr iOE) x (gth (kf q)) := by
    refine ⟨⟨n9, r9⟩, ⟨0, 10, 17, 19⟩, 4, 2, wct_act_iOE, Or.inr ⟨rfl, (dk dtk_L_act 12 rfl)⟩, by decide, rfl, ?_⟩
    refine T_iconst (v := 2) (dk dtk_L_act 13 rfl) (by decide +kernel) ?_
    exact T_iret (dk dtk_L_act 14 rfl) rfl rfl ⟨2, kTh q, rfl, rfl, kTh_U hu, kst_th q, HOI_1 rfl (kTh_U hu) (HOI_th hH), KR_rf⟩
  refine T_tryF (E := kE G) [vi l1, vi l2] [vi 0, vr 299] (d + 7) rfl (dk dtk_L_act 5 rfl) kcv_L_64 rfl kk_0 rfl (kl_0 hu.1) (by omega) (Nat.le_of_ble_eq_true rfl) (Nat.le_of_ble_eq_true rfl) (gok_i (av_c (gkr m0) (av_c rfl (av_c rfl (av_c (gkr m9) av_n)))) (as_c rfl (as_c (gkr m9) as_n))) rfl n9 ?_
  refine T_mono (kr_act (d := d) hu.1 hH l1 l2 (P := fun v9 y9 => ∃ r, v9 = some (vi r) ∧ HOI y9 q ∧ KRd x y9) (X := fun c9 y9 => (c9 = iSE ∨ c9 = iOE) ∧ y9 = x) ⟨Or.inl rfl, rfl⟩ ⟨Or.inr rfl, rfl⟩ (fun r y h1 h2 => ⟨r, rfl, h1, h2⟩)) (fun o9 x9 f9 w9 => ?_)
  rcases w9 with ⟨rfl, v, rfl, r, rfl, h1, h2⟩ | ⟨rfl, c9, rfl, hc, rfl⟩
  · exact ⟨⟨n9, r9⟩, ⟨r, rfl⟩, hend r (xo x x9) q hu (kst_rf q) (HOI_1 rfl hu h1) h2⟩
  · rcases hc with rfl | rfl
    · exact hxiSE
    · exact hxiOE
abbrev zw_before : gy := (yL_before, cL_before, 5, (some .int), [(0, 17, 20, 27), (0, 17, 24, 19)])
set_option maxRecDepth 100000 in
theorem dtk_L_before : dck cL_before [(0, .aload_n 3, 1), (1, .iconst 0, 1), (2, .aload_n 0, 1), (3, .iload_n 1, 1), (4, .iload_n 2, 1), (5, .invokevirtual 67, 3), (8, .ifCond .eq 7, 3), (11, .lconst 1, 1), (12, .goto 4, 3), (15, .lconst 0, 1), (16, .lastore, 1), (17, .goto 11, 3), (20, .astore 4, 2), (22, .iconst 1, 1), (23, .ireturn, 1), (24, .astore 4, 2), (26, .iconst 2, 1), (27, .ireturn, 1), (28, .iconst 0, 1), (29, .ireturn, 1)] = true := by decide +kernel
set_option maxRecDepth 100000 in
theorem wca_before : tables_1_6[237]? = some (Cond.codeWith yL_before cL_before 5 (some .int) [(0, 17, 20, 27), (0, 17, 24, 19)]) := rfl
theorem wcw_before : Cond.codeWith yL_before cL_before 5 (some .int) [(0, 17, 20, 27), (0, 17, 24, 19)] ∈ W0 := W0_in (tp_6 (List.mem_of_getElem? wca_before)) rfl
theorem kcv_L_67 : gMv RL 67 zk_X11_before 2 := ⟨⟨W0_in (tp_6 (List.mem_of_getElem? (i := 238) (by decide +kernel))) rfl, W0_in (tp_6 (List.mem_of_getElem? (i := 239) (by decide +kernel))) rfl, W0_in (tp_7 (List.mem_of_getElem? (i := 0) (by decide +kernel))) rfl, W0_in (tp_1 (List.mem_of_getElem? (i := 1) (by decide +kernel))) rfl, kcw_X11_before⟩, ⟨by decide, by decide, by decide +kernel⟩, by decide, by decide⟩
theorem wct_before_iSE : gCat zw_before 5 iSE ⟨0, 17, 20, 27⟩ := ⟨⟨[], [⟨0, 17, 24, 19⟩], rfl, fun z hz => nomatch hz⟩, rfl, by decide, (W0_in (tp_5 (List.mem_of_getElem? (i := 107) (by decide +kernel))) rfl), by decide⟩
theorem wct_before_iOE : gCat zw_before 5 iOE ⟨0, 17, 24, 19⟩ := ⟨⟨[⟨0, 17, 20, 27⟩], [], rfl, fun z hz => by
  cases hz with
  | head => exact ⟨by decide, iSE, (W0_in (tp_5 (List.mem_of_getElem? (i := 107) (by decide +kernel))) rfl), by decide⟩
  | tail _ hz => cases hz⟩, rfl, by decide, (W0_in (tp_5 (List.mem_of_getElem? (i := 73) (by decide +kernel))) rfl), by decide⟩
set_option maxRecDepth 100000 in
set_option maxHeartbeats 4000000 in
theorem kw_before {G : kG} {q : kP} {d : Nat} {x : gd} (hu : kU q) (hH : HOI x q) (l1 : Int32) (l2 : Int32) : T (wE (kE G)) (d + 30) zw_before 0 [(0, vr 0), (1, vi l1), (2, vi l2), (3, vr 299)] [] x (fo (kf q)) (wq q (fun _ y q1 => KRd x y)) := by
  have m0 : 0 ∈ (fo (kf q)).2.1 := List.mem_append_left _ (kl_0 hu.1)
  have m9 : 299 ∈ (fo (kf q)).2.1 := List.mem_append_right _ (List.mem_singleton.mpr rfl)
  have n9 := n299 hu
  have r9 : NR (kf q) 299 := kU_NR hu n9
  refine T_aload_n 3 (dk dtk_L_before 0 rfl) rfl rfl ?_
  refine T_iconst (v := 0) (dk dtk_L_before 1 rfl) (by decide +kernel) ?_
  refine T_aload_n 0 (dk dtk_L_before 2 rfl) rfl rfl ?_
  refine T_iload_n 1 (dk dtk_L_before 3 rfl) rfl rfl ?_
  refine T_iload_n 2 (dk dtk_L_before 4 rfl) rfl rfl ?_
  have hend : ∀ (r : Int32) (y : gd) (q1 : kP), kU q1 → kst q q1 → HOI y q1 → (fun _ y q1 => KRd x y) 0 y q1 → T (wE (kE G)) (d + 30) zw_before 8 [(0, vr 0), (1, vi l1), (2, vi l2), (3, vr 299)] [vi r, vi 0, vr 299] y (fo (kf q1)) (wq q (fun _ y q1 => KRd x y)) := by
    intro r y q1 hu1 hk1 hH1 hp1
    have n91 : 299 ∈ (fo (kf q1)).2.1 := List.mem_append_right _ (List.mem_singleton.mpr rfl)
    refine T_if_eq 15 (dk dtk_L_before 6 rfl) (by decide) (fun b0 => ?_) (fun b1 => ?_)
    · refine T_lconst (v := 0) (dk dtk_L_before 9 rfl) (by decide +kernel) ?_
      refine T_last 299 1 (dk dtk_L_before 10 rfl) wE_9 n91 (vin0 (by omega)) ?_
      refine T_goto 28 (dk dtk_L_before 11 rfl) (by decide) ?_
      refine T_iconst (v := 0) (dk dtk_L_before 18 rfl) (by decide +kernel) ?_
      exact T_iret (dk dtk_L_before 19 rfl) rfl rfl ⟨0, q1, rfl, rfl, hu1, hk1, HOI_1 rfl hu1 hH1, hp1⟩
    · refine T_lconst (v := 1) (dk dtk_L_before 7 rfl) (by decide +kernel) ?_
      refine T_goto 16 (dk dtk_L_before 8 rfl) (by decide) ?_
      refine T_last 299 1 (dk dtk_L_before 10 rfl) wE_9 n91 (vin0 (by omega)) ?_
      refine T_goto 28 (dk dtk_L_before 11 rfl) (by decide) ?_
      refine T_iconst (v := 0) (dk dtk_L_before 18 rfl) (by decide +kernel) ?_
      exact T_iret (dk dtk_L_before 19 rfl) rfl rfl ⟨0, q1, rfl, rfl, hu1, hk1, HOI_1 rfl hu1 hH1, hp1⟩
  have hxiSE : gtry (kE G) (d + 30) zw_before 5 [(0, vr 0), (1, vi l1), (2, vi l2), (3, vr 299)] [vi 0, vr 299] (wq q (fun _ y q1 => KRd x y)) x (.inr iSE) x (gth (kf q)) := by
    refine ⟨⟨n9, r9⟩, ⟨0, 17, 20, 27⟩, 4, 2, wct_before_iSE, Or.inr ⟨rfl, (dk dtk_L_before 12 rfl)⟩, by decide, rfl, ?_⟩
    refine T_iconst (v := 1) (dk dtk_L_before 13 rfl) (by decide +kernel) ?_
    exact T_iret (dk dtk_L_before 14 rfl) rfl rfl ⟨1, kTh q, rfl, rfl, kTh_U hu, kst_th q, HOI_1 rfl (kTh_U hu) (HOI_th hH), KR_rf⟩
  have hxiOE : gtry (kE G) (d + 30) zw_before 5 [(0, vr 0), (1, vi l1), (2, vi l2), (3, vr 299)] [vi 0, vr 299] (wq q (fun _ y q1 => KRd x y)) x (.inr iOE) x (gth (kf q)) := by
    refine ⟨⟨n9, r9⟩, ⟨0, 17, 24, 19⟩, 4, 2, wct_before_iOE, Or.inr ⟨rfl, (dk dtk_L_before 15 rfl)⟩, by decide, rfl, ?_⟩
    refine T_iconst (v := 2) (dk dtk_L_before 16 rfl) (by decide +kernel) ?_
    exact T_iret (dk dtk_L_before 17 rfl) rfl rfl ⟨2, kTh q, rfl, rfl, kTh_U hu, kst_th q, HOI_1 rfl (kTh_U hu) (HOI_th hH), KR_rf⟩
  refine T_tryF (E := kE G) [vi l1, vi l2] [vi 0, vr 299] (d + 7) rfl (dk dtk_L_before 5 rfl) kcv_L_67 rfl kk_0 rfl (kl_0 hu.1) (by omega) (Nat.le_of_ble_eq_true rfl) (Nat.le_of_ble_eq_true rfl) (gok_i (av_c (gkr m0) (av_c rfl (av_c rfl (av_c (gkr m9) av_n)))) (as_c rfl (as_c (gkr m9) as_n))) rfl n9 ?_
  refine T_mono (kr_before (d := d) hu.1 hH l1 l2 (P := fun v9 y9 => ∃ r, v9 = some (vi r) ∧ HOI y9 q ∧ KRd x y9) (X := fun c9 y9 => (c9 = iSE ∨ c9 = iOE) ∧ y9 = x) ⟨Or.inl rfl, rfl⟩ ⟨Or.inr rfl, rfl⟩ (fun r y _ h1 h2 => ⟨r, rfl, h1, h2⟩)) (fun o9 x9 f9 w9 => ?_)
  rcases w9 with ⟨rfl, v, rfl, r, rfl, h1, h2⟩ | ⟨rfl, c9, rfl, hc, rfl⟩
  · exact ⟨⟨n9, r9⟩, ⟨r, rfl⟩, hend r (xo x x9) q hu (kst_rf q) (HOI_1 rfl hu h1) h2⟩
  · rcases hc with rfl | rfl
    · exact hxiSE
    · exact hxiOE
abbrev zw_race : gy := (yL_race, cL_race, 5, (some .int), [(0, 10, 13, 27), (0, 10, 17, 19)])
set_option maxRecDepth 100000 in
theorem dtk_L_race : dck cL_race [(0, .aload_n 3, 1), (1, .iconst 0, 1), (2, .aload_n 0, 1), (3, .iload_n 1, 1), (4, .iload_n 2, 1), (5, .invokevirtual 71, 3), (8, .i2l, 1), (9, .lastore, 1), (10, .goto 11, 3), (13, .astore 4, 2), (15, .iconst 1, 1), (16, .ireturn, 1), (17, .astore 4, 2), (19, .iconst 2, 1), (20, .ireturn, 1), (21, .iconst 0, 1), (22, .ireturn, 1)] = true := by decide +kernel
set_option maxRecDepth 100000 in
theorem wca_race : tables_1_7[5]? = some (Cond.codeWith yL_race cL_race 5 (some .int) [(0, 10, 13, 27), (0, 10, 17, 19)]) := rfl
theorem wcw_race : Cond.codeWith yL_race cL_race 5 (some .int) [(0, 10, 13, 27), (0, 10, 17, 19)] ∈ W0 := W0_in (tp_7 (List.mem_of_getElem? wca_race)) rfl
theorem kcv_L_71 : gMv RL 71 zk_X11_race 2 := ⟨⟨W0_in (tp_7 (List.mem_of_getElem? (i := 6) (by decide +kernel))) rfl, W0_in (tp_7 (List.mem_of_getElem? (i := 7) (by decide +kernel))) rfl, W0_in (tp_7 (List.mem_of_getElem? (i := 8) (by decide +kernel))) rfl, W0_in (tp_1 (List.mem_of_getElem? (i := 1) (by decide +kernel))) rfl, kcw_X11_race⟩, ⟨by decide, by decide, by decide +kernel⟩, by decide, by decide⟩
theorem wct_race_iSE : gCat zw_race 5 iSE ⟨0, 10, 13, 27⟩ := ⟨⟨[], [⟨0, 10, 17, 19⟩], rfl, fun z hz => nomatch hz⟩, rfl, by decide, (W0_in (tp_5 (List.mem_of_getElem? (i := 107) (by decide +kernel))) rfl), by decide⟩
theorem wct_race_iOE : gCat zw_race 5 iOE ⟨0, 10, 17, 19⟩ := ⟨⟨[⟨0, 10, 13, 27⟩], [], rfl, fun z hz => by
  cases hz with
  | head => exact ⟨by decide, iSE, (W0_in (tp_5 (List.mem_of_getElem? (i := 107) (by decide +kernel))) rfl), by decide⟩
  | tail _ hz => cases hz⟩, rfl, by decide, (W0_in (tp_5 (List.mem_of_getElem? (i := 73) (by decide +kernel))) rfl), by decide⟩
set_option maxRecDepth 100000 in
set_option maxHeartbeats 4000000 in
theorem kw_race {G : kG} {q : kP} {d : Nat} {x : gd} (hu : kU q) (hH : HOI x q) (l1 : Int32) (l2 : Int32) : T (wE (kE G)) (d + 30) zw_race 0 [(0, vr 0), (1, vi l1), (2, vi l2), (3, vr 299)] [] x (fo (kf q)) (wq q (fun _ y q1 => KRd x y)) := by
  have m0 : 0 ∈ (fo (kf q)).2.1 := List.mem_append_left _ (kl_0 hu.1)
  have m9 : 299 ∈ (fo (kf q)).2.1 := List.mem_append_right _ (List.mem_singleton.mpr rfl)
  have n9 := n299 hu
  have r9 : NR (kf q) 299 := kU_NR hu n9
  refine T_aload_n 3 (dk dtk_L_race 0 rfl) rfl rfl ?_
  refine T_iconst (v := 0) (dk dtk_L_race 1 rfl) (by decide +kernel) ?_
  refine T_aload_n 0 (dk dtk_L_race 2 rfl) rfl rfl ?_
  refine T_iload_n 1 (dk dtk_L_race 3 rfl) rfl rfl ?_
  refine T_iload_n 2 (dk dtk_L_race 4 rfl) rfl rfl ?_
  have hend : ∀ (r : Int32) (y : gd) (q1 : kP), kU q1 → kst q q1 → HOI y q1 → (fun _ y q1 => KRd x y) 0 y q1 → T (wE (kE G)) (d + 30) zw_race 8 [(0, vr 0), (1, vi l1), (2, vi l2), (3, vr 299)] [vi r, vi 0, vr 299] y (fo (kf q1)) (wq q (fun _ y q1 => KRd x y)) := by
    intro r y q1 hu1 hk1 hH1 hp1
    have n91 : 299 ∈ (fo (kf q1)).2.1 := List.mem_append_right _ (List.mem_singleton.mpr rfl)
    refine T_i2l (dk dtk_L_race 6 rfl) ?_
    refine T_last 299 1 (dk dtk_L_race 7 rfl) wE_9 n91 (vin0 (by omega)) ?_
    refine T_goto 21 (dk dtk_L_race 8 rfl) (by decide) ?_
    refine T_iconst (v := 0) (dk dtk_L_race 15 rfl) (by decide +kernel) ?_
    exact T_iret (dk dtk_L_race 16 rfl) rfl rfl ⟨0, q1, rfl, rfl, hu1, hk1, HOI_1 rfl hu1 hH1, hp1⟩
  have hxiSE : gtry (kE G) (d + 30) zw_race 5 [(0, vr 0), (1, vi l1), (2, vi l2), (3, vr 299)] [vi 0, vr 299] (wq q (fun _ y q1 => KRd x y)) x (.inr iSE) x (gth (kf q)) := by
    refine ⟨⟨n9, r9⟩, ⟨0, 10, 13, 27⟩, 4, 2, wct_race_iSE, Or.inr ⟨rfl, (dk dtk_L_race 9 rfl)⟩, by decide, rfl, ?_⟩
    refine T_iconst (v := 1) (dk dtk_L_race 10 rfl) (by decide +kernel) ?_
    exact T_iret (dk dtk_L_race 11 rfl) rfl rfl ⟨1, kTh q, rfl, rfl, kTh_U hu, kst_th q, HOI_1 rfl (kTh_U hu) (HOI_th hH), KR_rf⟩
  have hxiOE : gtry (kE G) (d + 30) zw_race 5 [(0, vr 0), (1, vi l1), (2, vi l2), (3, vr 299)] [vi 0, vr 299] (wq q (fun _ y q1 => KRd x y)) x (.inr iOE) x (gth (kf q)) := by
    refine ⟨⟨n9, r9⟩, ⟨0, 10, 17, 19⟩, 4, 2, wct_race_iOE, Or.inr ⟨rfl, (dk dtk_L_race 12 rfl)⟩, by decide, rfl, ?_⟩
    refine T_iconst (v := 2) (dk dtk_L_race 13 rfl) (by decide +kernel) ?_
    exact T_iret (dk dtk_L_race 14 rfl) rfl rfl ⟨2, kTh q, rfl, rfl, kTh_U hu, kst_th q, HOI_1 rfl (kTh_U hu) (HOI_th hH), KR_rf⟩
  refine T_tryF (E := kE G) [vi l1, vi l2] [vi 0, vr 299] (d + 7) rfl (dk dtk_L_race 5 rfl) kcv_L_71 rfl kk_0 rfl (kl_0 hu.1) (by omega) (Nat.le_of_ble_eq_true rfl) (Nat.le_of_ble_eq_true rfl) (gok_i (av_c (gkr m0) (av_c rfl (av_c rfl (av_c (gkr m9) av_n)))) (as_c rfl (as_c (gkr m9) as_n))) rfl n9 ?_
  refine T_mono (kr_race (d := d) hu.1 hH l1 l2 (P := fun v9 y9 => ∃ r, v9 = some (vi r) ∧ HOI y9 q ∧ KRd x y9) (X := fun c9 y9 => (c9 = iSE ∨ c9 = iOE) ∧ y9 = x) ⟨Or.inl rfl, rfl⟩ ⟨Or.inr rfl, rfl⟩ (fun r y h1 h2 => ⟨r, rfl, h1, h2⟩)) (fun o9 x9 f9 w9 => ?_)
  rcases w9 with ⟨rfl, v, rfl, r, rfl, h1, h2⟩ | ⟨rfl, c9, rfl, hc, rfl⟩
  · exact ⟨⟨n9, r9⟩, ⟨r, rfl⟩, hend r (xo x x9) q hu (kst_rf q) (HOI_1 rfl hu h1) h2⟩
  · rcases hc with rfl | rfl
    · exact hxiSE
    · exact hxiOE
abbrev zw_linear : gy := (yL_linear, cL_linear, 4, (some .int), [(0, 9, 12, 27), (0, 9, 15, 13)])
set_option maxRecDepth 100000 in
theorem dtk_L_linear : dck cL_linear [(0, .aload_n 2, 1), (1, .iconst 0, 1), (2, .aload_n 0, 1), (3, .iload_n 1, 1), (4, .invokevirtual 74, 3), (7, .i2l, 1), (8, .lastore, 1), (9, .goto 9, 3), (12, .astore_n 3, 1), (13, .iconst 1, 1), (14, .ireturn, 1), (15, .astore_n 3, 1), (16, .iconst 2, 1), (17, .ireturn, 1), (18, .iconst 0, 1), (19, .ireturn, 1)] = true := by decide +kernel
set_option maxRecDepth 100000 in
theorem wca_linear : tables_1_7[20]? = some (Cond.codeWith yL_linear cL_linear 4 (some .int) [(0, 9, 12, 27), (0, 9, 15, 13)]) := rfl
theorem wcw_linear : Cond.codeWith yL_linear cL_linear 4 (some .int) [(0, 9, 12, 27), (0, 9, 15, 13)] ∈ W0 := W0_in (tp_7 (List.mem_of_getElem? wca_linear)) rfl
theorem kcv_L_74 : gMv RL 74 zk_X11_linear 1 := ⟨⟨W0_in (tp_7 (List.mem_of_getElem? (i := 21) (by decide +kernel))) rfl, W0_in (tp_7 (List.mem_of_getElem? (i := 22) (by decide +kernel))) rfl, W0_in (tp_7 (List.mem_of_getElem? (i := 23) (by decide +kernel))) rfl, W0_in (tp_1 (List.mem_of_getElem? (i := 1) (by decide +kernel))) rfl, kcw_X11_linear⟩, ⟨by decide, by decide, by decide +kernel⟩, by decide, by decide⟩
theorem wct_linear_iSE : gCat zw_linear 4 iSE ⟨0, 9, 12, 27⟩ := ⟨⟨[], [⟨0, 9, 15, 13⟩], rfl, fun z hz => nomatch hz⟩, rfl, by decide, (W0_in (tp_5 (List.mem_of_getElem? (i := 107) (by decide +kernel))) rfl), by decide⟩
theorem wct_linear_iAE : gCat zw_linear 4 iAE ⟨0, 9, 15, 13⟩ := ⟨⟨[⟨0, 9, 12, 27⟩], [], rfl, fun z hz => by
  cases hz with
  | head => exact ⟨by decide, iSE, (W0_in (tp_5 (List.mem_of_getElem? (i := 107) (by decide +kernel))) rfl), by decide⟩
  | tail _ hz => cases hz⟩, rfl, by decide, (W0_in (tp_5 (List.mem_of_getElem? (i := 44) (by decide +kernel))) rfl), by decide⟩
set_option maxRecDepth 100000 in
set_option maxHeartbeats 4000000 in
theorem kw_linear {G : kG} {q : kP} {d : Nat} {x : gd} (hu : kU q) (hH : HOI x q) (l1 : Int32) : T (wE (kE G)) (d + 30) zw_linear 0 [(0, vr 0), (1, vi l1), (2, vr 299)] [] x (fo (kf q)) (wq q (fun _ y q1 => KRd x y)) := by
  have m0 : 0 ∈ (fo (kf q)).2.1 := List.mem_append_left _ (kl_0 hu.1)
  have m9 : 299 ∈ (fo (kf q)).2.1 := List.mem_append_right _ (List.mem_singleton.mpr rfl)
  have n9 := n299 hu
  have r9 : NR (kf q) 299 := kU_NR hu n9
  refine T_aload_n 2 (dk dtk_L_linear 0 rfl) rfl rfl ?_
  refine T_iconst (v := 0) (dk dtk_L_linear 1 rfl) (by decide +kernel) ?_
  refine T_aload_n 0 (dk dtk_L_linear 2 rfl) rfl rfl ?_
  refine T_iload_n 1 (dk dtk_L_linear 3 rfl) rfl rfl ?_
  have hend : ∀ (r : Int32) (y : gd) (q1 : kP), kU q1 → kst q q1 → HOI y q1 → (fun _ y q1 => KRd x y) 0 y q1 → T (wE (kE G)) (d + 30) zw_linear 7 [(0, vr 0), (1, vi l1), (2, vr 299)] [vi r, vi 0, vr 299] y (fo (kf q1)) (wq q (fun _ y q1 => KRd x y)) := by
    intro r y q1 hu1 hk1 hH1 hp1
    have n91 : 299 ∈ (fo (kf q1)).2.1 := List.mem_append_right _ (List.mem_singleton.mpr rfl)
    refine T_i2l (dk dtk_L_linear 5 rfl) ?_
    refine T_last 299 1 (dk dtk_L_linear 6 rfl) wE_9 n91 (vin0 (by omega)) ?_
    refine T_goto 18 (dk dtk_L_linear 7 rfl) (by decide) ?_
    refine T_iconst (v := 0) (dk dtk_L_linear 14 rfl) (by decide +kernel) ?_
    exact T_iret (dk dtk_L_linear 15 rfl) rfl rfl ⟨0, q1, rfl, rfl, hu1, hk1, HOI_1 rfl hu1 hH1, hp1⟩
  have hxiSE : gtry (kE G) (d + 30) zw_linear 4 [(0, vr 0), (1, vi l1), (2, vr 299)] [vi 0, vr 299] (wq q (fun _ y q1 => KRd x y)) x (.inr iSE) x (gth (kf q)) := by
    refine ⟨⟨n9, r9⟩, ⟨0, 9, 12, 27⟩, 3, 1, wct_linear_iSE, Or.inl ⟨3, rfl, rfl, (dk dtk_L_linear 8 rfl)⟩, by decide, rfl, ?_⟩
    refine T_iconst (v := 1) (dk dtk_L_linear 9 rfl) (by decide +kernel) ?_
    exact T_iret (dk dtk_L_linear 10 rfl) rfl rfl ⟨1, kTh q, rfl, rfl, kTh_U hu, kst_th q, HOI_1 rfl (kTh_U hu) (HOI_th hH), KR_rf⟩
  have hxiAE : gtry (kE G) (d + 30) zw_linear 4 [(0, vr 0), (1, vi l1), (2, vr 299)] [vi 0, vr 299] (wq q (fun _ y q1 => KRd x y)) x (.inr iAE) x (gth (kf q)) := by
    refine ⟨⟨n9, r9⟩, ⟨0, 9, 15, 13⟩, 3, 1, wct_linear_iAE, Or.inl ⟨3, rfl, rfl, (dk dtk_L_linear 11 rfl)⟩, by decide, rfl, ?_⟩
    refine T_iconst (v := 2) (dk dtk_L_linear 12 rfl) (by decide +kernel) ?_
    exact T_iret (dk dtk_L_linear 13 rfl) rfl rfl ⟨2, kTh q, rfl, rfl, kTh_U hu, kst_th q, HOI_1 rfl (kTh_U hu) (HOI_th hH), KR_rf⟩
  refine T_tryF (E := kE G) [vi l1] [vi 0, vr 299] (d + 18) rfl (dk dtk_L_linear 4 rfl) kcv_L_74 rfl kk_0 rfl (kl_0 hu.1) (by omega) (Nat.le_of_ble_eq_true rfl) (Nat.le_of_ble_eq_true rfl) (gok_i (av_c (gkr m0) (av_c rfl (av_c (gkr m9) av_n))) (as_c rfl (as_c (gkr m9) as_n))) rfl n9 ?_
  refine T_mono (kr_linear (d := d) hu hH l1 (P := fun v9 y9 q9 => ∃ r, v9 = some (vi r) ∧ kU q9 ∧ kle q q9 ∧ HOI y9 q9 ∧ KRd x y9) (X := fun c9 y9 q9 => (c9 = iSE ∨ c9 = iAE) ∧ y9 = x ∧ q9 = q) ⟨Or.inl rfl, rfl, rfl⟩ ⟨Or.inr rfl, rfl, rfl⟩ (fun r y q1 g1 g2 g3 g4 => ⟨r, rfl, g1, g2, g3, g4⟩)) (fun o9 x9 f9 w9 => ?_)
  obtain ⟨q9, ⟨rfl, v, rfl, r, rfl, g1, g2, h1, h2⟩ | ⟨rfl, c9, rfl, hc, rfl, rfl⟩⟩ := w9
  · exact ⟨⟨n299 g1, kU_NR g1 (n299 g1)⟩, ⟨r, rfl⟩, hend r (xo x x9) q9 g1 (kst_le g2) (HOI_1 rfl g1 h1) h2⟩
  · rcases hc with rfl | rfl
    · exact hxiSE
    · exact hxiAE
abbrev zw_attempt : gy := (yL_attempt, cL_attempt, 5, (some .int), [(0, 10, 13, 27), (0, 10, 17, 13)])
set_option maxRecDepth 100000 in
theorem dtk_L_attempt : dck cL_attempt [(0, .aload_n 3, 1), (1, .iconst 0, 1), (2, .aload_n 0, 1), (3, .iload_n 1, 1), (4, .iload_n 2, 1), (5, .invokevirtual 77, 3), (8, .i2l, 1), (9, .lastore, 1), (10, .goto 11, 3), (13, .astore 4, 2), (15, .iconst 1, 1), (16, .ireturn, 1), (17, .astore 4, 2), (19, .iconst 2, 1), (20, .ireturn, 1), (21, .iconst 0, 1), (22, .ireturn, 1)] = true := by decide +kernel
set_option maxRecDepth 100000 in
theorem wca_attempt : tables_1_7[128]? = some (Cond.codeWith yL_attempt cL_attempt 5 (some .int) [(0, 10, 13, 27), (0, 10, 17, 13)]) := rfl
theorem wcw_attempt : Cond.codeWith yL_attempt cL_attempt 5 (some .int) [(0, 10, 13, 27), (0, 10, 17, 13)] ∈ W0 := W0_in (tp_7 (List.mem_of_getElem? wca_attempt)) rfl
theorem kcv_L_77 : gMv RL 77 zk_X11_attempt 2 := ⟨⟨W0_in (tp_7 (List.mem_of_getElem? (i := 129) (by decide +kernel))) rfl, W0_in (tp_7 (List.mem_of_getElem? (i := 130) (by decide +kernel))) rfl, W0_in (tp_7 (List.mem_of_getElem? (i := 131) (by decide +kernel))) rfl, W0_in (tp_1 (List.mem_of_getElem? (i := 1) (by decide +kernel))) rfl, kcw_X11_attempt⟩, ⟨by decide, by decide, by decide +kernel⟩, by decide, by decide⟩
theorem wct_attempt_iSE : gCat zw_attempt 5 iSE ⟨0, 10, 13, 27⟩ := ⟨⟨[], [⟨0, 10, 17, 13⟩], rfl, fun z hz => nomatch hz⟩, rfl, by decide, (W0_in (tp_5 (List.mem_of_getElem? (i := 107) (by decide +kernel))) rfl), by decide⟩
theorem wct_attempt_iAE : gCat zw_attempt 5 iAE ⟨0, 10, 17, 13⟩ := ⟨⟨[⟨0, 10, 13, 27⟩], [], rfl, fun z hz => by
  cases hz with
  | head => exact ⟨by decide, iSE, (W0_in (tp_5 (List.mem_of_getElem? (i := 107) (by decide +kernel))) rfl), by decide⟩
  | tail _ hz => cases hz⟩, rfl, by decide, (W0_in (tp_5 (List.mem_of_getElem? (i := 44) (by decide +kernel))) rfl), by decide⟩
set_option maxRecDepth 100000 in
set_option maxHeartbeats 4000000 in
theorem kw_attempt {G : kG} {q : kP} {d : Nat} {x : gd} {C : gCo} {wr n : Nat} {lm : Nat → Nat} {w : gd} (hj : JH C wr n lm x w) (hu : kU q) (hH : HOI x q) (l1 : Int32) (l2 : Int32) : T (wE (kE G)) (d + 30) zw_attempt 0 [(0, vr 0), (1, vi l1), (2, vi l2), (3, vr 299)] [] x (fo (kf q)) (wq q (fun r9 y q1 => ansK (e1Bg x) (e2At x l1 l2) (sAq C x l1 l2) x r9 y)) := by
  have m0 : 0 ∈ (fo (kf q)).2.1 := List.mem_append_left _ (kl_0 hu.1)
  have m9 : 299 ∈ (fo (kf q)).2.1 := List.mem_append_right _ (List.mem_singleton.mpr rfl)
  have n9 := n299 hu
  have r9 : NR (kf q) 299 := kU_NR hu n9
  refine T_aload_n 3 (dk dtk_L_attempt 0 rfl) rfl rfl ?_
  refine T_iconst (v := 0) (dk dtk_L_attempt 1 rfl) (by decide +kernel) ?_
  refine T_aload_n 0 (dk dtk_L_attempt 2 rfl) rfl rfl ?_
  refine T_iload_n 1 (dk dtk_L_attempt 3 rfl) rfl rfl ?_
  refine T_iload_n 2 (dk dtk_L_attempt 4 rfl) rfl rfl ?_
  have hend : ∀ (r : Int32) (y : gd) (q1 : kP), kU q1 → kst q q1 → HOI y q1 → ¬ (e1Bg x) ∧ ¬ (e2At x l1 l2) ∧ sAq C x l1 l2 r y → T (wE (kE G)) (d + 30) zw_attempt 8 [(0, vr 0), (1, vi l1), (2, vi l2), (3, vr 299)] [vi r, vi 0, vr 299] y (fo (kf q1)) (wq q (fun r9 y q1 => ansK (e1Bg x) (e2At x l1 l2) (sAq C x l1 l2) x r9 y)) := by
    intro r y q1 hu1 hk1 hH1 hp1
    have n91 : 299 ∈ (fo (kf q1)).2.1 := List.mem_append_right _ (List.mem_singleton.mpr rfl)
    refine T_i2l (dk dtk_L_attempt 6 rfl) ?_
    refine T_last 299 1 (dk dtk_L_attempt 7 rfl) wE_9 n91 (vin0 (by omega)) ?_
    refine T_goto 21 (dk dtk_L_attempt 8 rfl) (by decide) ?_
    refine T_iconst (v := 0) (dk dtk_L_attempt 15 rfl) (by decide +kernel) ?_
    exact T_iret (dk dtk_L_attempt 16 rfl) rfl rfl ⟨0, q1, rfl, rfl, hu1, hk1, HOI_1 rfl hu1 hH1, Or.inr (Or.inr ⟨hp1.1, hp1.2.1, rfl, r, by rw [sL_c]; exact if_pos rfl, hp1.2.2⟩)⟩
  have hxiSE : e1Bg x → gtry (kE G) (d + 30) zw_attempt 5 [(0, vr 0), (1, vi l1), (2, vi l2), (3, vr 299)] [vi 0, vr 299] (wq q (fun r9 y q1 => ansK (e1Bg x) (e2At x l1 l2) (sAq C x l1 l2) x r9 y)) x (.inr iSE) x (gth (kf q)) := by
    intro hno
    refine ⟨⟨n9, r9⟩, ⟨0, 10, 13, 27⟩, 4, 2, wct_attempt_iSE, Or.inr ⟨rfl, (dk dtk_L_attempt 9 rfl)⟩, by decide, rfl, ?_⟩
    refine T_iconst (v := 1) (dk dtk_L_attempt 10 rfl) (by decide +kernel) ?_
    exact T_iret (dk dtk_L_attempt 11 rfl) rfl rfl ⟨1, kTh q, rfl, rfl, kTh_U hu, kst_th q, HOI_1 rfl (kTh_U hu) (HOI_th hH), Or.inl ⟨hno, rfl, KR_rf⟩⟩
  have hxiAE : e2At x l1 l2 → gtry (kE G) (d + 30) zw_attempt 5 [(0, vr 0), (1, vi l1), (2, vi l2), (3, vr 299)] [vi 0, vr 299] (wq q (fun r9 y q1 => ansK (e1Bg x) (e2At x l1 l2) (sAq C x l1 l2) x r9 y)) x (.inr iAE) x (gth (kf q)) := by
    intro hno
    refine ⟨⟨n9, r9⟩, ⟨0, 10, 17, 13⟩, 4, 2, wct_attempt_iAE, Or.inr ⟨rfl, (dk dtk_L_attempt 12 rfl)⟩, by decide, rfl, ?_⟩
    refine T_iconst (v := 2) (dk dtk_L_attempt 13 rfl) (by decide +kernel) ?_
    exact T_iret (dk dtk_L_attempt 14 rfl) rfl rfl ⟨2, kTh q, rfl, rfl, kTh_U hu, kst_th q, HOI_1 rfl (kTh_U hu) (HOI_th hH), Or.inr (Or.inl ⟨hno, rfl, KR_rf⟩)⟩
  refine T_tryF (E := kE G) [vi l1, vi l2] [vi 0, vr 299] (d + 7) rfl (dk dtk_L_attempt 5 rfl) kcv_L_77 rfl kk_0 rfl (kl_0 hu.1) (by omega) (Nat.le_of_ble_eq_true rfl) (Nat.le_of_ble_eq_true rfl) (gok_i (av_c (gkr m0) (av_c rfl (av_c rfl (av_c (gkr m9) av_n)))) (as_c rfl (as_c (gkr m9) as_n))) rfl n9 ?_
  refine T_mono (ka_attempt (d := d) hj hu hH l1 l2 (P := fun v9 y9 q9 => ∃ r, v9 = some (vi r) ∧ kU q9 ∧ kle q q9 ∧ HOI y9 q9 ∧ ¬ (e1Bg x) ∧ ¬ (e2At x l1 l2) ∧ sAq C x l1 l2 r y9) (X := fun c9 y9 q9 => ((c9 = iSE ∧ e1Bg x) ∨ (c9 = iAE ∧ e2At x l1 l2)) ∧ y9 = x ∧ q9 = q) (fun h9 => ⟨Or.inl ⟨rfl, h9⟩, rfl, rfl⟩) (fun h9 => ⟨Or.inr ⟨rfl, h9⟩, rfl, rfl⟩) (fun h8 h9 r y q1 g1 g2 g3 g4 => ⟨r, rfl, g1, g2, g3, h8, h9, g4⟩)) (fun o9 x9 f9 w9 => ?_)
  obtain ⟨q9, ⟨rfl, v, rfl, r, rfl, g1, g2, h1, h2⟩ | ⟨rfl, c9, rfl, hc, rfl, rfl⟩⟩ := w9
  · exact ⟨⟨n299 g1, kU_NR g1 (n299 g1)⟩, ⟨r, rfl⟩, hend r (xo x x9) q9 g1 (kst_le g2) (HOI_1 rfl g1 h1) h2⟩
  · rcases hc with ⟨rfl, hno⟩ | ⟨rfl, hno⟩
    · exact hxiSE hno
    · exact hxiAE hno
abbrev zw_tried : gy := (yL_tried, cL_tried, 5, (some .int), [(0, 10, 13, 13), (0, 10, 17, 19)])
set_option maxRecDepth 100000 in
theorem dtk_L_tried : dck cL_tried [(0, .aload_n 3, 1), (1, .iconst 0, 1), (2, .aload_n 0, 1), (3, .iload_n 1, 1), (4, .iload_n 2, 1), (5, .invokevirtual 80, 3), (8, .i2l, 1), (9, .lastore, 1), (10, .goto 11, 3), (13, .astore 4, 2), (15, .iconst 1, 1), (16, .ireturn, 1), (17, .astore 4, 2), (19, .iconst 2, 1), (20, .ireturn, 1), (21, .iconst 0, 1), (22, .ireturn, 1)] = true := by decide +kernel
set_option maxRecDepth 100000 in
theorem wca_tried : tables_1_8[114]? = some (Cond.codeWith yL_tried cL_tried 5 (some .int) [(0, 10, 13, 13), (0, 10, 17, 19)]) := rfl
theorem wcw_tried : Cond.codeWith yL_tried cL_tried 5 (some .int) [(0, 10, 13, 13), (0, 10, 17, 19)] ∈ W0 := W0_in (tp_8 (List.mem_of_getElem? wca_tried)) rfl
theorem kcv_L_80 : gMv RL 80 zk_X11_tried 2 := ⟨⟨W0_in (tp_8 (List.mem_of_getElem? (i := 115) (by decide +kernel))) rfl, W0_in (tp_8 (List.mem_of_getElem? (i := 116) (by decide +kernel))) rfl, W0_in (tp_8 (List.mem_of_getElem? (i := 117) (by decide +kernel))) rfl, W0_in (tp_1 (List.mem_of_getElem? (i := 1) (by decide +kernel))) rfl, kcw_X11_tried⟩, ⟨by decide, by decide, by decide +kernel⟩, by decide, by decide⟩
theorem wct_tried_iAE : gCat zw_tried 5 iAE ⟨0, 10, 13, 13⟩ := ⟨⟨[], [⟨0, 10, 17, 19⟩], rfl, fun z hz => nomatch hz⟩, rfl, by decide, (W0_in (tp_5 (List.mem_of_getElem? (i := 44) (by decide +kernel))) rfl), by decide⟩
theorem wct_tried_iOE : gCat zw_tried 5 iOE ⟨0, 10, 17, 19⟩ := ⟨⟨[⟨0, 10, 13, 13⟩], [], rfl, fun z hz => by
  cases hz with
  | head => exact ⟨by decide, iAE, (W0_in (tp_5 (List.mem_of_getElem? (i := 44) (by decide +kernel))) rfl), by decide⟩
  | tail _ hz => cases hz⟩, rfl, by decide, (W0_in (tp_5 (List.mem_of_getElem? (i := 73) (by decide +kernel))) rfl), by decide⟩
set_option maxRecDepth 100000 in
set_option maxHeartbeats 4000000 in
theorem kw_tried {G : kG} {q : kP} {d : Nat} {x : gd} (hu : kU q) (hH : HOI x q) (l1 : Int32) (l2 : Int32) : T (wE (kE G)) (d + 30) zw_tried 0 [(0, vr 0), (1, vi l1), (2, vi l2), (3, vr 299)] [] x (fo (kf q)) (wq q (fun _ y q1 => KRd x y)) := by
  have m0 : 0 ∈ (fo (kf q)).2.1 := List.mem_append_left _ (kl_0 hu.1)
  have m9 : 299 ∈ (fo (kf q)).2.1 := List.mem_append_right _ (List.mem_singleton.mpr rfl)
  have n9 := n299 hu
  have r9 : NR (kf q) 299 := kU_NR hu n9
  refine T_aload_n 3 (dk dtk_L_tried 0 rfl) rfl rfl ?_
  refine T_iconst (v := 0) (dk dtk_L_tried 1 rfl) (by decide +kernel) ?_
  refine T_aload_n 0 (dk dtk_L_tried 2 rfl) rfl rfl ?_
  refine T_iload_n 1 (dk dtk_L_tried 3 rfl) rfl rfl ?_
  refine T_iload_n 2 (dk dtk_L_tried 4 rfl) rfl rfl ?_
  have hend : ∀ (r : Int32) (y : gd) (q1 : kP), kU q1 → kst q q1 → HOI y q1 → (fun _ y q1 => KRd x y) 0 y q1 → T (wE (kE G)) (d + 30) zw_tried 8 [(0, vr 0), (1, vi l1), (2, vi l2), (3, vr 299)] [vi r, vi 0, vr 299] y (fo (kf q1)) (wq q (fun _ y q1 => KRd x y)) := by
    intro r y q1 hu1 hk1 hH1 hp1
    have n91 : 299 ∈ (fo (kf q1)).2.1 := List.mem_append_right _ (List.mem_singleton.mpr rfl)
    refine T_i2l (dk dtk_L_tried 6 rfl) ?_
    refine T_last 299 1 (dk dtk_L_tried 7 rfl) wE_9 n91 (vin0 (by omega)) ?_
    refine T_goto 21 (dk dtk_L_tried 8 rfl) (by decide) ?_
    refine T_iconst (v := 0) (dk dtk_L_tried 15 rfl) (by decide +kernel) ?_
    exact T_iret (dk dtk_L_tried 16 rfl) rfl rfl ⟨0, q1, rfl, rfl, hu1, hk1, HOI_1 rfl hu1 hH1, hp1⟩
  have hxiAE : gtry (kE G) (d + 30) zw_tried 5 [(0, vr 0), (1, vi l1), (2, vi l2), (3, vr 299)] [vi 0, vr 299] (wq q (fun _ y q1 => KRd x y)) x (.inr iAE) x (gth (kf q)) := by
    refine ⟨⟨n9, r9⟩, ⟨0, 10, 13, 13⟩, 4, 2, wct_tried_iAE, Or.inr ⟨rfl, (dk dtk_L_tried 9 rfl)⟩, by decide, rfl, ?_⟩
    refine T_iconst (v := 1) (dk dtk_L_tried 10 rfl) (by decide +kernel) ?_
    exact T_iret (dk dtk_L_tried 11 rfl) rfl rfl ⟨1, kTh q, rfl, rfl, kTh_U hu, kst_th q, HOI_1 rfl (kTh_U hu) (HOI_th hH), KR_rf⟩
  have hxiOE : gtry (kE G) (d + 30) zw_tried 5 [(0, vr 0), (1, vi l1), (2, vi l2), (3, vr 299)] [vi 0, vr 299] (wq q (fun _ y q1 => KRd x y)) x (.inr iOE) x (gth (kf q)) := by
    refine ⟨⟨n9, r9⟩, ⟨0, 10, 17, 19⟩, 4, 2, wct_tried_iOE, Or.inr ⟨rfl, (dk dtk_L_tried 12 rfl)⟩, by decide, rfl, ?_⟩
    refine T_iconst (v := 2) (dk dtk_L_tried 13 rfl) (by decide +kernel) ?_
    exact T_iret (dk dtk_L_tried 14 rfl) rfl rfl ⟨2, kTh q, rfl, rfl, kTh_U hu, kst_th q, HOI_1 rfl (kTh_U hu) (HOI_th hH), KR_rf⟩
  refine T_tryF (E := kE G) [vi l1, vi l2] [vi 0, vr 299] (d + 7) rfl (dk dtk_L_tried 5 rfl) kcv_L_80 rfl kk_0 rfl (kl_0 hu.1) (by omega) (Nat.le_of_ble_eq_true rfl) (Nat.le_of_ble_eq_true rfl) (gok_i (av_c (gkr m0) (av_c rfl (av_c rfl (av_c (gkr m9) av_n)))) (as_c rfl (as_c (gkr m9) as_n))) rfl n9 ?_
  refine T_mono (kr_tried (d := d) hu.1 hH l1 l2 (P := fun v9 y9 => ∃ r, v9 = some (vi r) ∧ HOI y9 q ∧ KRd x y9) (X := fun c9 y9 => (c9 = iAE ∨ c9 = iOE) ∧ y9 = x) ⟨Or.inl rfl, rfl⟩ ⟨Or.inr rfl, rfl⟩ (fun r y h1 h2 => ⟨r, rfl, h1, h2⟩)) (fun o9 x9 f9 w9 => ?_)
  rcases w9 with ⟨rfl, v, rfl, r, rfl, h1, h2⟩ | ⟨rfl, c9, rfl, hc, rfl⟩
  · exact ⟨⟨n9, r9⟩, ⟨r, rfl⟩, hend r (xo x x9) q hu (kst_rf q) (HOI_1 rfl hu h1) h2⟩
  · rcases hc with rfl | rfl
    · exact hxiAE
    · exact hxiOE
abbrev zw_outcome : gy := (yL_outcome, cL_outcome, 6, (some .int), [(0, 12, 15, 13), (0, 12, 19, 19)])
set_option maxRecDepth 100000 in
theorem dtk_L_outcome : dck cL_outcome [(0, .aload 4, 2), (2, .iconst 0, 1), (3, .aload_n 0, 1), (4, .iload_n 1, 1), (5, .iload_n 2, 1), (6, .iload_n 3, 1), (7, .invokevirtual 83, 3), (10, .i2l, 1), (11, .lastore, 1), (12, .goto 11, 3), (15, .astore 5, 2), (17, .iconst 1, 1), (18, .ireturn, 1), (19, .astore 5, 2), (21, .iconst 2, 1), (22, .ireturn, 1), (23, .iconst 0, 1), (24, .ireturn, 1)] = true := by decide +kernel
set_option maxRecDepth 100000 in
theorem wca_outcome : tables_1_8[121]? = some (Cond.codeWith yL_outcome cL_outcome 6 (some .int) [(0, 12, 15, 13), (0, 12, 19, 19)]) := rfl
theorem wcw_outcome : Cond.codeWith yL_outcome cL_outcome 6 (some .int) [(0, 12, 15, 13), (0, 12, 19, 19)] ∈ W0 := W0_in (tp_8 (List.mem_of_getElem? wca_outcome)) rfl
theorem kcv_L_83 : gMv RL 83 zk_X11_outcome 3 := ⟨⟨W0_in (tp_8 (List.mem_of_getElem? (i := 122) (by decide +kernel))) rfl, W0_in (tp_8 (List.mem_of_getElem? (i := 123) (by decide +kernel))) rfl, W0_in (tp_8 (List.mem_of_getElem? (i := 124) (by decide +kernel))) rfl, W0_in (tp_1 (List.mem_of_getElem? (i := 1) (by decide +kernel))) rfl, kcw_X11_outcome⟩, ⟨by decide, by decide, by decide +kernel⟩, by decide, by decide⟩
theorem wct_outcome_iAE : gCat zw_outcome 7 iAE ⟨0, 12, 15, 13⟩ := ⟨⟨[], [⟨0, 12, 19, 19⟩], rfl, fun z hz => nomatch hz⟩, rfl, by decide, (W0_in (tp_5 (List.mem_of_getElem? (i := 44) (by decide +kernel))) rfl), by decide⟩
theorem wct_outcome_iOE : gCat zw_outcome 7 iOE ⟨0, 12, 19, 19⟩ := ⟨⟨[⟨0, 12, 15, 13⟩], [], rfl, fun z hz => by
  cases hz with
  | head => exact ⟨by decide, iAE, (W0_in (tp_5 (List.mem_of_getElem? (i := 44) (by decide +kernel))) rfl), by decide⟩
  | tail _ hz => cases hz⟩, rfl, by decide, (W0_in (tp_5 (List.mem_of_getElem? (i := 73) (by decide +kernel))) rfl), by decide⟩
set_option maxRecDepth 100000 in
set_option maxHeartbeats 4000000 in
theorem kw_outcome {G : kG} {q : kP} {d : Nat} {x : gd} (hu : kU q) (hH : HOI x q) (l1 : Int32) (l2 : Int32) (l3 : Int32) : T (wE (kE G)) (d + 30) zw_outcome 0 [(0, vr 0), (1, vi l1), (2, vi l2), (3, vi l3), (4, vr 299)] [] x (fo (kf q)) (wq q (fun _ y q1 => KRd x y)) := by
  have m0 : 0 ∈ (fo (kf q)).2.1 := List.mem_append_left _ (kl_0 hu.1)
  have m9 : 299 ∈ (fo (kf q)).2.1 := List.mem_append_right _ (List.mem_singleton.mpr rfl)
  have n9 := n299 hu
  have r9 : NR (kf q) 299 := kU_NR hu n9
  refine T_aload 4 (dk dtk_L_outcome 0 rfl) rfl ?_
  refine T_iconst (v := 0) (dk dtk_L_outcome 1 rfl) (by decide +kernel) ?_
  refine T_aload_n 0 (dk dtk_L_outcome 2 rfl) rfl rfl ?_
  refine T_iload_n 1 (dk dtk_L_outcome 3 rfl) rfl rfl ?_
  refine T_iload_n 2 (dk dtk_L_outcome 4 rfl) rfl rfl ?_
  refine T_iload_n 3 (dk dtk_L_outcome 5 rfl) rfl rfl ?_
  have hend : ∀ (r : Int32) (y : gd) (q1 : kP), kU q1 → kst q q1 → HOI y q1 → (fun _ y q1 => KRd x y) 0 y q1 → T (wE (kE G)) (d + 30) zw_outcome 10 [(0, vr 0), (1, vi l1), (2, vi l2), (3, vi l3), (4, vr 299)] [vi r, vi 0, vr 299] y (fo (kf q1)) (wq q (fun _ y q1 => KRd x y)) := by
    intro r y q1 hu1 hk1 hH1 hp1
    have n91 : 299 ∈ (fo (kf q1)).2.1 := List.mem_append_right _ (List.mem_singleton.mpr rfl)
    refine T_i2l (dk dtk_L_outcome 7 rfl) ?_
    refine T_last 299 1 (dk dtk_L_outcome 8 rfl) wE_9 n91 (vin0 (by omega)) ?_
    refine T_goto 23 (dk dtk_L_outcome 9 rfl) (by decide) ?_
    refine T_iconst (v := 0) (dk dtk_L_outcome 16 rfl) (by decide +kernel) ?_
    exact T_iret (dk dtk_L_outcome 17 rfl) rfl rfl ⟨0, q1, rfl, rfl, hu1, hk1, HOI_1 rfl hu1 hH1, hp1⟩
  have hxiAE : gtry (kE G) (d + 30) zw_outcome 7 [(0, vr 0), (1, vi l1), (2, vi l2), (3, vi l3), (4, vr 299)] [vi 0, vr 299] (wq q (fun _ y q1 => KRd x y)) x (.inr iAE) x (gth (kf q)) := by
    refine ⟨⟨n9, r9⟩, ⟨0, 12, 15, 13⟩, 5, 2, wct_outcome_iAE, Or.inr ⟨rfl, (dk dtk_L_outcome 10 rfl)⟩, by decide, rfl, ?_⟩
    refine T_iconst (v := 1) (dk dtk_L_outcome 11 rfl) (by decide +kernel) ?_
    exact T_iret (dk dtk_L_outcome 12 rfl) rfl rfl ⟨1, kTh q, rfl, rfl, kTh_U hu, kst_th q, HOI_1 rfl (kTh_U hu) (HOI_th hH), KR_rf⟩
  have hxiOE : gtry (kE G) (d + 30) zw_outcome 7 [(0, vr 0), (1, vi l1), (2, vi l2), (3, vi l3), (4, vr 299)] [vi 0, vr 299] (wq q (fun _ y q1 => KRd x y)) x (.inr iOE) x (gth (kf q)) := by
    refine ⟨⟨n9, r9⟩, ⟨0, 12, 19, 19⟩, 5, 2, wct_outcome_iOE, Or.inr ⟨rfl, (dk dtk_L_outcome 13 rfl)⟩, by decide, rfl, ?_⟩
    refine T_iconst (v := 2) (dk dtk_L_outcome 14 rfl) (by decide +kernel) ?_
    exact T_iret (dk dtk_L_outcome 15 rfl) rfl rfl ⟨2, kTh q, rfl, rfl, kTh_U hu, kst_th q, HOI_1 rfl (kTh_U hu) (HOI_th hH), KR_rf⟩
  refine T_tryF (E := kE G) [vi l1, vi l2, vi l3] [vi 0, vr 299] (d + 7) rfl (dk dtk_L_outcome 6 rfl) kcv_L_83 rfl kk_0 rfl (kl_0 hu.1) (by omega) (Nat.le_of_ble_eq_true rfl) (Nat.le_of_ble_eq_true rfl) (gok_i (av_c (gkr m0) (av_c rfl (av_c rfl (av_c rfl (av_c (gkr m9) av_n))))) (as_c rfl (as_c (gkr m9) as_n))) rfl n9 ?_
  refine T_mono (kr_outcome (d := d) hu.1 hH l1 l2 l3 (P := fun v9 y9 => ∃ r, v9 = some (vi r) ∧ HOI y9 q ∧ KRd x y9) (X := fun c9 y9 => (c9 = iAE ∨ c9 = iOE) ∧ y9 = x) ⟨Or.inl rfl, rfl⟩ ⟨Or.inr rfl, rfl⟩ (fun r y h1 h2 => ⟨r, rfl, h1, h2⟩)) (fun o9 x9 f9 w9 => ?_)
  rcases w9 with ⟨rfl, v, rfl, r, rfl, h1, h2⟩ | ⟨rfl, c9, rfl, hc, rfl⟩
  · exact ⟨⟨n9, r9⟩, ⟨r, rfl⟩, hend r (xo x x9) q hu (kst_rf q) (HOI_1 rfl hu h1) h2⟩
  · rcases hc with rfl | rfl
    · exact hxiAE
    · exact hxiOE
abbrev zw_finding : gy := (yL_finding, cL_finding, 5, (some .int), [(0, 10, 13, 13)])
set_option maxRecDepth 100000 in
theorem dtk_L_finding : dck cL_finding [(0, .aload_n 3, 1), (1, .iconst 0, 1), (2, .aload_n 0, 1), (3, .iload_n 1, 1), (4, .iload_n 2, 1), (5, .invokevirtual 87, 3), (8, .i2l, 1), (9, .lastore, 1), (10, .goto 7, 3), (13, .astore 4, 2), (15, .iconst 1, 1), (16, .ireturn, 1), (17, .iconst 0, 1), (18, .ireturn, 1)] = true := by decide +kernel
set_option maxRecDepth 100000 in
theorem wca_finding : tables_1_8[132]? = some (Cond.codeWith yL_finding cL_finding 5 (some .int) [(0, 10, 13, 13)]) := rfl
theorem wcw_finding : Cond.codeWith yL_finding cL_finding 5 (some .int) [(0, 10, 13, 13)] ∈ W0 := W0_in (tp_8 (List.mem_of_getElem? wca_finding)) rfl
theorem kcv_L_87 : gMv RL 87 zk_X11_finding 2 := ⟨⟨W0_in (tp_8 (List.mem_of_getElem? (i := 133) (by decide +kernel))) rfl, W0_in (tp_8 (List.mem_of_getElem? (i := 134) (by decide +kernel))) rfl, W0_in (tp_8 (List.mem_of_getElem? (i := 135) (by decide +kernel))) rfl, W0_in (tp_1 (List.mem_of_getElem? (i := 1) (by decide +kernel))) rfl, kcw_X11_finding⟩, ⟨by decide, by decide, by decide +kernel⟩, by decide, by decide⟩
theorem wct_finding_iAE : gCat zw_finding 5 iAE ⟨0, 10, 13, 13⟩ := ⟨⟨[], [], rfl, fun z hz => nomatch hz⟩, rfl, by decide, (W0_in (tp_5 (List.mem_of_getElem? (i := 44) (by decide +kernel))) rfl), by decide⟩
set_option maxRecDepth 100000 in
set_option maxHeartbeats 4000000 in
theorem kw_finding {G : kG} {q : kP} {d : Nat} {x : gd} {C : gCo} {wr n : Nat} {lm : Nat → Nat} {w : gd} (hj : JH C wr n lm x w) (hu : kU q) (hH : HOI x q) (l1 : Int32) (l2 : Int32) : T (wE (kE G)) (d + 30) zw_finding 0 [(0, vr 0), (1, vi l1), (2, vi l2), (3, vr 299)] [] x (fo (kf q)) (wq q (fun r9 y q1 => ansK (e1Sh l1 l2) (False) (sFi C lm x l1 l2) x r9 y)) := by
  have m0 : 0 ∈ (fo (kf q)).2.1 := List.mem_append_left _ (kl_0 hu.1)
  have m9 : 299 ∈ (fo (kf q)).2.1 := List.mem_append_right _ (List.mem_singleton.mpr rfl)
  have n9 := n299 hu
  have r9 : NR (kf q) 299 := kU_NR hu n9
  refine T_aload_n 3 (dk dtk_L_finding 0 rfl) rfl rfl ?_
  refine T_iconst (v := 0) (dk dtk_L_finding 1 rfl) (by decide +kernel) ?_
  refine T_aload_n 0 (dk dtk_L_finding 2 rfl) rfl rfl ?_
  refine T_iload_n 1 (dk dtk_L_finding 3 rfl) rfl rfl ?_
  refine T_iload_n 2 (dk dtk_L_finding 4 rfl) rfl rfl ?_
  have hend : ∀ (r : Int32) (y : gd) (q1 : kP), kU q1 → kst q q1 → HOI y q1 → ¬ (e1Sh l1 l2) ∧ ¬ (False) ∧ sFi C lm x l1 l2 r y → T (wE (kE G)) (d + 30) zw_finding 8 [(0, vr 0), (1, vi l1), (2, vi l2), (3, vr 299)] [vi r, vi 0, vr 299] y (fo (kf q1)) (wq q (fun r9 y q1 => ansK (e1Sh l1 l2) (False) (sFi C lm x l1 l2) x r9 y)) := by
    intro r y q1 hu1 hk1 hH1 hp1
    have n91 : 299 ∈ (fo (kf q1)).2.1 := List.mem_append_right _ (List.mem_singleton.mpr rfl)
    refine T_i2l (dk dtk_L_finding 6 rfl) ?_
    refine T_last 299 1 (dk dtk_L_finding 7 rfl) wE_9 n91 (vin0 (by omega)) ?_
    refine T_goto 17 (dk dtk_L_finding 8 rfl) (by decide) ?_
    refine T_iconst (v := 0) (dk dtk_L_finding 12 rfl) (by decide +kernel) ?_
    exact T_iret (dk dtk_L_finding 13 rfl) rfl rfl ⟨0, q1, rfl, rfl, hu1, hk1, HOI_1 rfl hu1 hH1, Or.inr (Or.inr ⟨hp1.1, hp1.2.1, rfl, r, by rw [sL_c]; exact if_pos rfl, hp1.2.2⟩)⟩
  have hxiAE : e1Sh l1 l2 → gtry (kE G) (d + 30) zw_finding 5 [(0, vr 0), (1, vi l1), (2, vi l2), (3, vr 299)] [vi 0, vr 299] (wq q (fun r9 y q1 => ansK (e1Sh l1 l2) (False) (sFi C lm x l1 l2) x r9 y)) x (.inr iAE) x (gth (kf q)) := by
    intro hno
    refine ⟨⟨n9, r9⟩, ⟨0, 10, 13, 13⟩, 4, 2, wct_finding_iAE, Or.inr ⟨rfl, (dk dtk_L_finding 9 rfl)⟩, by decide, rfl, ?_⟩
    refine T_iconst (v := 1) (dk dtk_L_finding 10 rfl) (by decide +kernel) ?_
    exact T_iret (dk dtk_L_finding 11 rfl) rfl rfl ⟨1, kTh q, rfl, rfl, kTh_U hu, kst_th q, HOI_1 rfl (kTh_U hu) (HOI_th hH), Or.inl ⟨hno, rfl, KR_rf⟩⟩
  refine T_tryF (E := kE G) [vi l1, vi l2] [vi 0, vr 299] (d + 7) rfl (dk dtk_L_finding 5 rfl) kcv_L_87 rfl kk_0 rfl (kl_0 hu.1) (by omega) (Nat.le_of_ble_eq_true rfl) (Nat.le_of_ble_eq_true rfl) (gok_i (av_c (gkr m0) (av_c rfl (av_c rfl (av_c (gkr m9) av_n)))) (as_c rfl (as_c (gkr m9) as_n))) rfl n9 ?_
  refine T_mono (ka_finding (d := d) hj hu.1 hH l1 l2 (P := fun v9 y9 => ∃ r, v9 = some (vi r) ∧ HOI y9 q ∧ ¬ (e1Sh l1 l2) ∧ ¬ (False) ∧ sFi C lm x l1 l2 r y9) (X := fun c9 y9 => ((c9 = iAE ∧ e1Sh l1 l2)) ∧ y9 = x) (fun h9 => ⟨⟨rfl, h9⟩, rfl⟩) (fun h8 h9 r y h1 h2 => ⟨r, rfl, h1, h8, h9, h2⟩)) (fun o9 x9 f9 w9 => ?_)
  rcases w9 with ⟨rfl, v, rfl, r, rfl, h1, h2⟩ | ⟨rfl, c9, rfl, hc, rfl⟩
  · exact ⟨⟨n9, r9⟩, ⟨r, rfl⟩, hend r (xo x x9) q hu (kst_rf q) (HOI_1 rfl hu h1) h2⟩
  · obtain ⟨rfl, hno⟩ := hc
    exact hxiAE hno
abbrev zw_show : gy := (yL_show, cL_show, 5, (some .int), [(0, 10, 13, 13), (0, 10, 17, 27)])
set_option maxRecDepth 100000 in
theorem dtk_L_show : dck cL_show [(0, .aload_n 3, 1), (1, .iconst 0, 1), (2, .aload_n 0, 1), (3, .iload_n 1, 1), (4, .iload_n 2, 1), (5, .invokevirtual 90, 3), (8, .i2l, 1), (9, .lastore, 1), (10, .goto 11, 3), (13, .astore 4, 2), (15, .iconst 1, 1), (16, .ireturn, 1), (17, .astore 4, 2), (19, .iconst 2, 1), (20, .ireturn, 1), (21, .iconst 0, 1), (22, .ireturn, 1)] = true := by decide +kernel
set_option maxRecDepth 100000 in
theorem wca_show : tables_1_8[147]? = some (Cond.codeWith yL_show cL_show 5 (some .int) [(0, 10, 13, 13), (0, 10, 17, 27)]) := rfl
theorem wcw_show : Cond.codeWith yL_show cL_show 5 (some .int) [(0, 10, 13, 13), (0, 10, 17, 27)] ∈ W0 := W0_in (tp_8 (List.mem_of_getElem? wca_show)) rfl
theorem kcv_L_90 : gMv RL 90 zk_X11_show 2 := ⟨⟨W0_in (tp_8 (List.mem_of_getElem? (i := 148) (by decide +kernel))) rfl, W0_in (tp_8 (List.mem_of_getElem? (i := 149) (by decide +kernel))) rfl, W0_in (tp_8 (List.mem_of_getElem? (i := 150) (by decide +kernel))) rfl, W0_in (tp_1 (List.mem_of_getElem? (i := 1) (by decide +kernel))) rfl, kcw_X11_show⟩, ⟨by decide, by decide, by decide +kernel⟩, by decide, by decide⟩
theorem wct_show_iAE : gCat zw_show 5 iAE ⟨0, 10, 13, 13⟩ := ⟨⟨[], [⟨0, 10, 17, 27⟩], rfl, fun z hz => nomatch hz⟩, rfl, by decide, (W0_in (tp_5 (List.mem_of_getElem? (i := 44) (by decide +kernel))) rfl), by decide⟩
theorem wct_show_iSE : gCat zw_show 5 iSE ⟨0, 10, 17, 27⟩ := ⟨⟨[⟨0, 10, 13, 13⟩], [], rfl, fun z hz => by
  cases hz with
  | head => exact ⟨by decide, iAE, (W0_in (tp_5 (List.mem_of_getElem? (i := 44) (by decide +kernel))) rfl), by decide⟩
  | tail _ hz => cases hz⟩, rfl, by decide, (W0_in (tp_5 (List.mem_of_getElem? (i := 107) (by decide +kernel))) rfl), by decide⟩
set_option maxRecDepth 100000 in
set_option maxHeartbeats 4000000 in
theorem kw_show {G : kG} {q : kP} {d : Nat} {x : gd} {C : gCo} {wr n : Nat} {lm : Nat → Nat} {w : gd} (hj : JH C wr n lm x w) (hu : kU q) (hH : HOI x q) (l1 : Int32) (l2 : Int32) : T (wE (kE G)) (d + 30) zw_show 0 [(0, vr 0), (1, vi l1), (2, vi l2), (3, vr 299)] [] x (fo (kf q)) (wq q (fun r9 y q1 => ansK (e1Sh l1 l2) (e2Sh C lm x l1 l2) (sSh C lm x l1 l2) x r9 y)) := by
  have m0 : 0 ∈ (fo (kf q)).2.1 := List.mem_append_left _ (kl_0 hu.1)
  have m9 : 299 ∈ (fo (kf q)).2.1 := List.mem_append_right _ (List.mem_singleton.mpr rfl)
  have n9 := n299 hu
  have r9 : NR (kf q) 299 := kU_NR hu n9
  refine T_aload_n 3 (dk dtk_L_show 0 rfl) rfl rfl ?_
  refine T_iconst (v := 0) (dk dtk_L_show 1 rfl) (by decide +kernel) ?_
  refine T_aload_n 0 (dk dtk_L_show 2 rfl) rfl rfl ?_
  refine T_iload_n 1 (dk dtk_L_show 3 rfl) rfl rfl ?_
  refine T_iload_n 2 (dk dtk_L_show 4 rfl) rfl rfl ?_
  have hend : ∀ (r : Int32) (y : gd) (q1 : kP), kU q1 → kst q q1 → HOI y q1 → ¬ (e1Sh l1 l2) ∧ ¬ (e2Sh C lm x l1 l2) ∧ sSh C lm x l1 l2 r y → T (wE (kE G)) (d + 30) zw_show 8 [(0, vr 0), (1, vi l1), (2, vi l2), (3, vr 299)] [vi r, vi 0, vr 299] y (fo (kf q1)) (wq q (fun r9 y q1 => ansK (e1Sh l1 l2) (e2Sh C lm x l1 l2) (sSh C lm x l1 l2) x r9 y)) := by
    intro r y q1 hu1 hk1 hH1 hp1
    have n91 : 299 ∈ (fo (kf q1)).2.1 := List.mem_append_right _ (List.mem_singleton.mpr rfl)
    refine T_i2l (dk dtk_L_show 6 rfl) ?_
    refine T_last 299 1 (dk dtk_L_show 7 rfl) wE_9 n91 (vin0 (by omega)) ?_
    refine T_goto 21 (dk dtk_L_show 8 rfl) (by decide) ?_
    refine T_iconst (v := 0) (dk dtk_L_show 15 rfl) (by decide +kernel) ?_
    exact T_iret (dk dtk_L_show 16 rfl) rfl rfl ⟨0, q1, rfl, rfl, hu1, hk1, HOI_1 rfl hu1 hH1, Or.inr (Or.inr ⟨hp1.1, hp1.2.1, rfl, r, by rw [sL_c]; exact if_pos rfl, hp1.2.2⟩)⟩
  have hxiAE : e1Sh l1 l2 → gtry (kE G) (d + 30) zw_show 5 [(0, vr 0), (1, vi l1), (2, vi l2), (3, vr 299)] [vi 0, vr 299] (wq q (fun r9 y q1 => ansK (e1Sh l1 l2) (e2Sh C lm x l1 l2) (sSh C lm x l1 l2) x r9 y)) x (.inr iAE) x (gth (kf q)) := by
    intro hno
    refine ⟨⟨n9, r9⟩, ⟨0, 10, 13, 13⟩, 4, 2, wct_show_iAE, Or.inr ⟨rfl, (dk dtk_L_show 9 rfl)⟩, by decide, rfl, ?_⟩
    refine T_iconst (v := 1) (dk dtk_L_show 10 rfl) (by decide +kernel) ?_
    exact T_iret (dk dtk_L_show 11 rfl) rfl rfl ⟨1, kTh q, rfl, rfl, kTh_U hu, kst_th q, HOI_1 rfl (kTh_U hu) (HOI_th hH), Or.inl ⟨hno, rfl, KR_rf⟩⟩
  have hxiSE : e2Sh C lm x l1 l2 → gtry (kE G) (d + 30) zw_show 5 [(0, vr 0), (1, vi l1), (2, vi l2), (3, vr 299)] [vi 0, vr 299] (wq q (fun r9 y q1 => ansK (e1Sh l1 l2) (e2Sh C lm x l1 l2) (sSh C lm x l1 l2) x r9 y)) x (.inr iSE) x (gth (kf q)) := by
    intro hno
    refine ⟨⟨n9, r9⟩, ⟨0, 10, 17, 27⟩, 4, 2, wct_show_iSE, Or.inr ⟨rfl, (dk dtk_L_show 12 rfl)⟩, by decide, rfl, ?_⟩
    refine T_iconst (v := 2) (dk dtk_L_show 13 rfl) (by decide +kernel) ?_
    exact T_iret (dk dtk_L_show 14 rfl) rfl rfl ⟨2, kTh q, rfl, rfl, kTh_U hu, kst_th q, HOI_1 rfl (kTh_U hu) (HOI_th hH), Or.inr (Or.inl ⟨hno, rfl, KR_rf⟩)⟩
  refine T_tryF (E := kE G) [vi l1, vi l2] [vi 0, vr 299] (d + 7) rfl (dk dtk_L_show 5 rfl) kcv_L_90 rfl kk_0 rfl (kl_0 hu.1) (by omega) (Nat.le_of_ble_eq_true rfl) (Nat.le_of_ble_eq_true rfl) (gok_i (av_c (gkr m0) (av_c rfl (av_c rfl (av_c (gkr m9) av_n)))) (as_c rfl (as_c (gkr m9) as_n))) rfl n9 ?_
  refine T_mono (ka_show (d := d) hj hu.1 hH l1 l2 (P := fun v9 y9 => ∃ r, v9 = some (vi r) ∧ HOI y9 q ∧ ¬ (e1Sh l1 l2) ∧ ¬ (e2Sh C lm x l1 l2) ∧ sSh C lm x l1 l2 r y9) (X := fun c9 y9 => ((c9 = iAE ∧ e1Sh l1 l2) ∨ (c9 = iSE ∧ e2Sh C lm x l1 l2)) ∧ y9 = x) (fun h9 => ⟨Or.inl ⟨rfl, h9⟩, rfl⟩) (fun h9 => ⟨Or.inr ⟨rfl, h9⟩, rfl⟩) (fun h8 h9 r y h1 h2 => ⟨r, rfl, h1, h8, h9, h2⟩)) (fun o9 x9 f9 w9 => ?_)
  rcases w9 with ⟨rfl, v, rfl, r, rfl, h1, h2⟩ | ⟨rfl, c9, rfl, hc, rfl⟩
  · exact ⟨⟨n9, r9⟩, ⟨r, rfl⟩, hend r (xo x x9) q hu (kst_rf q) (HOI_1 rfl hu h1) h2⟩
  · rcases hc with ⟨rfl, hno⟩ | ⟨rfl, hno⟩
    · exact hxiAE hno
    · exact hxiSE hno
abbrev zw_common : gy := (yL_common, cL_common, 5, (some .int), [(0, 10, 13, 13), (0, 10, 17, 19)])
set_option maxRecDepth 100000 in
theorem dtk_L_common : dck cL_common [(0, .aload_n 3, 1), (1, .iconst 0, 1), (2, .aload_n 0, 1), (3, .iload_n 1, 1), (4, .iload_n 2, 1), (5, .invokevirtual 93, 3), (8, .i2l, 1), (9, .lastore, 1), (10, .goto 11, 3), (13, .astore 4, 2), (15, .iconst 1, 1), (16, .ireturn, 1), (17, .astore 4, 2), (19, .iconst 2, 1), (20, .ireturn, 1), (21, .iconst 0, 1), (22, .ireturn, 1)] = true := by decide +kernel
set_option maxRecDepth 100000 in
theorem wca_common : tables_1_8[159]? = some (Cond.codeWith yL_common cL_common 5 (some .int) [(0, 10, 13, 13), (0, 10, 17, 19)]) := rfl
theorem wcw_common : Cond.codeWith yL_common cL_common 5 (some .int) [(0, 10, 13, 13), (0, 10, 17, 19)] ∈ W0 := W0_in (tp_8 (List.mem_of_getElem? wca_common)) rfl
theorem kcv_L_93 : gMv RL 93 zk_X11_common 2 := ⟨⟨W0_in (tp_8 (List.mem_of_getElem? (i := 160) (by decide +kernel))) rfl, W0_in (tp_8 (List.mem_of_getElem? (i := 161) (by decide +kernel))) rfl, W0_in (tp_8 (List.mem_of_getElem? (i := 162) (by decide +kernel))) rfl, W0_in (tp_1 (List.mem_of_getElem? (i := 1) (by decide +kernel))) rfl, kcw_X11_common⟩, ⟨by decide, by decide, by decide +kernel⟩, by decide, by decide⟩
theorem wct_common_iAE : gCat zw_common 5 iAE ⟨0, 10, 13, 13⟩ := ⟨⟨[], [⟨0, 10, 17, 19⟩], rfl, fun z hz => nomatch hz⟩, rfl, by decide, (W0_in (tp_5 (List.mem_of_getElem? (i := 44) (by decide +kernel))) rfl), by decide⟩
theorem wct_common_iOE : gCat zw_common 5 iOE ⟨0, 10, 17, 19⟩ := ⟨⟨[⟨0, 10, 13, 13⟩], [], rfl, fun z hz => by
  cases hz with
  | head => exact ⟨by decide, iAE, (W0_in (tp_5 (List.mem_of_getElem? (i := 44) (by decide +kernel))) rfl), by decide⟩
  | tail _ hz => cases hz⟩, rfl, by decide, (W0_in (tp_5 (List.mem_of_getElem? (i := 73) (by decide +kernel))) rfl), by decide⟩
set_option maxRecDepth 100000 in
set_option maxHeartbeats 4000000 in
theorem kw_common {G : kG} {q : kP} {d : Nat} {x : gd} (hu : kU q) (hH : HOI x q) (l1 : Int32) (l2 : Int32) : T (wE (kE G)) (d + 30) zw_common 0 [(0, vr 0), (1, vi l1), (2, vi l2), (3, vr 299)] [] x (fo (kf q)) (wq q (fun _ y q1 => KRd x y)) := by
  have m0 : 0 ∈ (fo (kf q)).2.1 := List.mem_append_left _ (kl_0 hu.1)
  have m9 : 299 ∈ (fo (kf q)).2.1 := List.mem_append_right _ (List.mem_singleton.mpr rfl)
  have n9 := n299 hu
  have r9 : NR (kf q) 299 := kU_NR hu n9
  refine T_aload_n 3 (dk dtk_L_common 0 rfl) rfl rfl ?_
  refine T_iconst (v := 0) (dk dtk_L_common 1 rfl) (by decide +kernel) ?_
  refine T_aload_n 0 (dk dtk_L_common 2 rfl) rfl rfl ?_
  refine T_iload_n 1 (dk dtk_L_common 3 rfl) rfl rfl ?_
  refine T_iload_n 2 (dk dtk_L_common 4 rfl) rfl rfl ?_
  have hend : ∀ (r : Int32) (y : gd) (q1 : kP), kU q1 → kst q q1 → HOI y q1 → (fun _ y q1 => KRd x y) 0 y q1 → T (wE (kE G)) (d + 30) zw_common 8 [(0, vr 0), (1, vi l1), (2, vi l2), (3, vr 299)] [vi r, vi 0, vr 299] y (fo (kf q1)) (wq q (fun _ y q1 => KRd x y)) := by
    intro r y q1 hu1 hk1 hH1 hp1
    have n91 : 299 ∈ (fo (kf q1)).2.1 := List.mem_append_right _ (List.mem_singleton.mpr rfl)
    refine T_i2l (dk dtk_L_common 6 rfl) ?_
    refine T_last 299 1 (dk dtk_L_common 7 rfl) wE_9 n91 (vin0 (by omega)) ?_
    refine T_goto 21 (dk dtk_L_common 8 rfl) (by decide) ?_
    refine T_iconst (v := 0) (dk dtk_L_common 15 rfl) (by decide +kernel) ?_
    exact T_iret (dk dtk_L_common 16 rfl) rfl rfl ⟨0, q1, rfl, rfl, hu1, hk1, HOI_1 rfl hu1 hH1, hp1⟩
  have hxiAE : gtry (kE G) (d + 30) zw_common 5 [(0, vr 0), (1, vi l1), (2, vi l2), (3, vr 299)] [vi 0, vr 299] (wq q (fun _ y q1 => KRd x y)) x (.inr iAE) x (gth (kf q)) := by
    refine ⟨⟨n9, r9⟩, ⟨0, 10, 13, 13⟩, 4, 2, wct_common_iAE, Or.inr ⟨rfl, (dk dtk_L_common 9 rfl)⟩, by decide, rfl, ?_⟩
    refine T_iconst (v := 1) (dk dtk_L_common 10 rfl) (by decide +kernel) ?_
    exact T_iret (dk dtk_L_common 11 rfl) rfl rfl ⟨1, kTh q, rfl, rfl, kTh_U hu, kst_th q, HOI_1 rfl (kTh_U hu) (HOI_th hH), KR_rf⟩
  have hxiOE : gtry (kE G) (d + 30) zw_common 5 [(0, vr 0), (1, vi l1), (2, vi l2), (3, vr 299)] [vi 0, vr 299] (wq q (fun _ y q1 => KRd x y)) x (.inr iOE) x (gth (kf q)) := by
    refine ⟨⟨n9, r9⟩, ⟨0, 10, 17, 19⟩, 4, 2, wct_common_iOE, Or.inr ⟨rfl, (dk dtk_L_common 12 rfl)⟩, by decide, rfl, ?_⟩
    refine T_iconst (v := 2) (dk dtk_L_common 13 rfl) (by decide +kernel) ?_
    exact T_iret (dk dtk_L_common 14 rfl) rfl rfl ⟨2, kTh q, rfl, rfl, kTh_U hu, kst_th q, HOI_1 rfl (kTh_U hu) (HOI_th hH), KR_rf⟩
  refine T_tryF (E := kE G) [vi l1, vi l2] [vi 0, vr 299] (d + 7) rfl (dk dtk_L_common 5 rfl) kcv_L_93 rfl kk_0 rfl (kl_0 hu.1) (by omega) (Nat.le_of_ble_eq_true rfl) (Nat.le_of_ble_eq_true rfl) (gok_i (av_c (gkr m0) (av_c rfl (av_c rfl (av_c (gkr m9) av_n)))) (as_c rfl (as_c (gkr m9) as_n))) rfl n9 ?_
  refine T_mono (kr_common (d := d) hu.1 hH l1 l2 (P := fun v9 y9 => ∃ r, v9 = some (vi r) ∧ HOI y9 q ∧ KRd x y9) (X := fun c9 y9 => (c9 = iAE ∨ c9 = iOE) ∧ y9 = x) ⟨Or.inl rfl, rfl⟩ ⟨Or.inr rfl, rfl⟩ (fun r y h1 h2 => ⟨r, rfl, h1, h2⟩)) (fun o9 x9 f9 w9 => ?_)
  rcases w9 with ⟨rfl, v, rfl, r, rfl, h1, h2⟩ | ⟨rfl, c9, rfl, hc, rfl⟩
  · exact ⟨⟨n9, r9⟩, ⟨r, rfl⟩, hend r (xo x x9) q hu (kst_rf q) (HOI_1 rfl hu h1) h2⟩
  · rcases hc with rfl | rfl
    · exact hxiAE
    · exact hxiOE
abbrev zw_ring : gy := (yL_ring, cL_ring, 4, (some .int), [(0, 9, 12, 13)])
set_option maxRecDepth 100000 in
theorem dtk_L_ring : dck cL_ring [(0, .aload_n 2, 1), (1, .iconst 0, 1), (2, .aload_n 0, 1), (3, .iload_n 1, 1), (4, .invokevirtual 96, 3), (7, .i2l, 1), (8, .lastore, 1), (9, .goto 6, 3), (12, .astore_n 3, 1), (13, .iconst 1, 1), (14, .ireturn, 1), (15, .iconst 0, 1), (16, .ireturn, 1)] = true := by decide +kernel
set_option maxRecDepth 100000 in
theorem wca_ring : tables_1_8[166]? = some (Cond.codeWith yL_ring cL_ring 4 (some .int) [(0, 9, 12, 13)]) := rfl
theorem wcw_ring : Cond.codeWith yL_ring cL_ring 4 (some .int) [(0, 9, 12, 13)] ∈ W0 := W0_in (tp_8 (List.mem_of_getElem? wca_ring)) rfl
theorem kcv_L_96 : gMv RL 96 zk_X11_ring 1 := ⟨⟨W0_in (tp_8 (List.mem_of_getElem? (i := 167) (by decide +kernel))) rfl, W0_in (tp_8 (List.mem_of_getElem? (i := 168) (by decide +kernel))) rfl, W0_in (tp_8 (List.mem_of_getElem? (i := 169) (by decide +kernel))) rfl, W0_in (tp_1 (List.mem_of_getElem? (i := 1) (by decide +kernel))) rfl, kcw_X11_ring⟩, ⟨by decide, by decide, by decide +kernel⟩, by decide, by decide⟩
theorem wct_ring_iAE : gCat zw_ring 4 iAE ⟨0, 9, 12, 13⟩ := ⟨⟨[], [], rfl, fun z hz => nomatch hz⟩, rfl, by decide, (W0_in (tp_5 (List.mem_of_getElem? (i := 44) (by decide +kernel))) rfl), by decide⟩
set_option maxRecDepth 100000 in
set_option maxHeartbeats 4000000 in
theorem kw_ring {G : kG} {q : kP} {d : Nat} {x : gd} (hu : kU q) (hH : HOI x q) (l1 : Int32) : T (wE (kE G)) (d + 30) zw_ring 0 [(0, vr 0), (1, vi l1), (2, vr 299)] [] x (fo (kf q)) (wq q (fun _ y q1 => KRd x y)) := by
  have m0 : 0 ∈ (fo (kf q)).2.1 := List.mem_append_left _ (kl_0 hu.1)
  have m9 : 299 ∈ (fo (kf q)).2.1 := List.mem_append_right _ (List.mem_singleton.mpr rfl)
  have n9 := n299 hu
  have r9 : NR (kf q) 299 := kU_NR hu n9
  refine T_aload_n 2 (dk dtk_L_ring 0 rfl) rfl rfl ?_
  refine T_iconst (v := 0) (dk dtk_L_ring 1 rfl) (by decide +kernel) ?_
  refine T_aload_n 0 (dk dtk_L_ring 2 rfl) rfl rfl ?_
  refine T_iload_n 1 (dk dtk_L_ring 3 rfl) rfl rfl ?_
  have hend : ∀ (r : Int32) (y : gd) (q1 : kP), kU q1 → kst q q1 → HOI y q1 → (fun _ y q1 => KRd x y) 0 y q1 → T (wE (kE G)) (d + 30) zw_ring 7 [(0, vr 0), (1, vi l1), (2, vr 299)] [vi r, vi 0, vr 299] y (fo (kf q1)) (wq q (fun _ y q1 => KRd x y)) := by
    intro r y q1 hu1 hk1 hH1 hp1
    have n91 : 299 ∈ (fo (kf q1)).2.1 := List.mem_append_right _ (List.mem_singleton.mpr rfl)
    refine T_i2l (dk dtk_L_ring 5 rfl) ?_
    refine T_last 299 1 (dk dtk_L_ring 6 rfl) wE_9 n91 (vin0 (by omega)) ?_
    refine T_goto 15 (dk dtk_L_ring 7 rfl) (by decide) ?_
    refine T_iconst (v := 0) (dk dtk_L_ring 11 rfl) (by decide +kernel) ?_
    exact T_iret (dk dtk_L_ring 12 rfl) rfl rfl ⟨0, q1, rfl, rfl, hu1, hk1, HOI_1 rfl hu1 hH1, hp1⟩
  have hxiAE : gtry (kE G) (d + 30) zw_ring 4 [(0, vr 0), (1, vi l1), (2, vr 299)] [vi 0, vr 299] (wq q (fun _ y q1 => KRd x y)) x (.inr iAE) x (gth (kf q)) := by
    refine ⟨⟨n9, r9⟩, ⟨0, 9, 12, 13⟩, 3, 1, wct_ring_iAE, Or.inl ⟨3, rfl, rfl, (dk dtk_L_ring 8 rfl)⟩, by decide, rfl, ?_⟩
    refine T_iconst (v := 1) (dk dtk_L_ring 9 rfl) (by decide +kernel) ?_
    exact T_iret (dk dtk_L_ring 10 rfl) rfl rfl ⟨1, kTh q, rfl, rfl, kTh_U hu, kst_th q, HOI_1 rfl (kTh_U hu) (HOI_th hH), KR_rf⟩
  refine T_tryF (E := kE G) [vi l1] [vi 0, vr 299] (d + 7) rfl (dk dtk_L_ring 4 rfl) kcv_L_96 rfl kk_0 rfl (kl_0 hu.1) (by omega) (Nat.le_of_ble_eq_true rfl) (Nat.le_of_ble_eq_true rfl) (gok_i (av_c (gkr m0) (av_c rfl (av_c (gkr m9) av_n))) (as_c rfl (as_c (gkr m9) as_n))) rfl n9 ?_
  refine T_mono (kr_ring (d := d) hu.1 hH l1 (P := fun v9 y9 => ∃ r, v9 = some (vi r) ∧ HOI y9 q ∧ KRd x y9) (X := fun c9 y9 => (c9 = iAE) ∧ y9 = x) ⟨rfl, rfl⟩ (fun r y h1 h2 => ⟨r, rfl, h1, h2⟩)) (fun o9 x9 f9 w9 => ?_)
  rcases w9 with ⟨rfl, v, rfl, r, rfl, h1, h2⟩ | ⟨rfl, c9, rfl, hc, rfl⟩
  · exact ⟨⟨n9, r9⟩, ⟨r, rfl⟩, hend r (xo x x9) q hu (kst_rf q) (HOI_1 rfl hu h1) h2⟩
  · rw [hc]; exact hxiAE
end
section
/-! the law: two worlds side by side -/
abbrev yLaw : gy := (yL_law, cL_law, 7, some .boolean, [])
abbrev mg (G : kG) : mG := (G.1, G.2.1, G.2.2.1, G.2.2.2, 0, 0)
section LAW
variable {p : Program} {l : Launch} {e : Env} {R : Room} {s : State} {m : MethodId} {args : Array Value} {below : List Frame} {meth : Method} {c : Code} {H : Heap} {locs : List Loc} {cells slots : Nat} {Q : State → Prop} {pc : Nat} {ls : Array Slot} {A : Nat → Prop} {D : Nat} {y z : gy} {E : gE} {x : gd} {f : gf} {ad : Nat → Nat} {restv : List Value}
/-- behind a call that answers an int -/
theorem L_out {mc ms : Nat} {stk : List Value} {r : Int32} {x1 : gd} {f1 : gf} {av : Array Value} (hrun : vx_Run p l e R s m args below meth c H locs cells slots mc ms (F0 m pc ls stk) restv (gQc E (gA f ad H.size) f ad (.inl (some (vi r))) x1 f1 av) (gXC E (gA f ad H.size) f ad (.inl (some (vi r))) x1 f1) (gA f ad H.size)) (hP : gP E x f ad A H) (hS : va_S A s.heap H locs) (hA : ∀ q : Nat, s.heap.size ≤ q → A q)
    (kk : ∀ (ad1 : Nat → Nat) (H1 : Heap) (locs1 : List Loc), gex f ad ad1 → gP E x1 f1 ad1 (gA f ad H.size) H1 → (∀ q : Nat, q < H.size → ¬ gA f ad H.size q → H1[q]? = H[q]?) → va_S A s.heap H1 locs1 → W p l e R s m args below meth c H1 locs1 (cells + mc) (slots + ms) Q (F0 m (pc + 3) ls (.int r :: restv))) :
    W p l e R s m args below meth c H locs cells slots Q (F0 m pc ls stk) := by
  intro T9 hT X
  rcases hrun T9 hT X with ⟨v', st₀, t, T', L, h0, X', hL, e1, e2, ⟨ad1, hex, ⟨v2, ev1, ev2⟩, hP1, hF⟩, stp⟩ | ⟨q, st₀, t, T', L, X0, ce, h0, X', hL, e1, e2, ⟨ad1, hex, hn, -⟩, -⟩
  · cases ev1
    cases ev2
    have hin := gA_in (sz := H.size) hP (fun q hq => hA q (Nat.le_trans hS.1 hq))
    obtain ⟨k1, k2, k3⟩ := vx_keep h0 e1 hS (fun q _ h => hin q h) hin hL hF
    obtain ⟨t2, s1, s2⟩ := kk ad1 T'.heap (locs ++ L) hex (by rw [e1]; exact hP1) k2 k3 T' rfl X'
    exact ⟨t2, stp t2 s1, s2⟩
  · cases hn
/-- an instance's method, of a world of its own -/
theorem L_V {cr ci idx n : Nat} {sl : List Bool} {QQ : gr → gd → gf → Prop} {stk : List Value} (C : gC E D y p R s m args meth c A) (hP : gP E x f ad A H) (hS : va_S A s.heap H locs) (hls : ls.size = y.2.2.1) (As : List gv) (d1 : Nat) (hstk : stk = (As.map (gcv ad)).reverse ++ Value.ref (ad cr) :: restv) (hd : decode y.2.1 pc = .ok (.invokevirtual idx, 3)) (hM : gMv y.1.cls idx z n) (hn : As.length = n) (hK : E.2.2.2.1 cr = .inl (ci, sl)) (hcl : (vwCl[ci]?).map (fun r => r.1) = some z.1.cls) (hc : cr ∈ f.2.1) (hd1 : d1 + 1 ≤ D)
    (hfit : gsz (vr cr :: As) ≤ z.2.2.1) (hcat : (restv.map fun v => v.category).sum ≤ 8) (k : T E d1 z 0 (glv 0 (vr cr :: As)) [] x f QQ) (hQ : ∀ o x1 f1, QQ o x1 f1 → ∃ r : Int32, o = .inl (some (vi r))) (hroom9 : ∀ o x1 f1, QQ o x1 f1 → gle f f1 → cells + (f1.2.2.1 - f.2.2.1) ≤ R.cells ∧ slots + (f1.2.2.2 - f.2.2.2) ≤ R.slots)
    (kk : ∀ (r : Int32) (x1 : gd) (f1 : gf) (ad1 : Nat → Nat) (H1 : Heap) (locs1 : List Loc), QQ (.inl (some (vi r))) x1 f1 → gle f f1 → gex f ad ad1 → gP E x1 f1 ad1 (gA f ad H.size) H1 → (∀ q : Nat, q < H.size → ¬ gA f ad H.size q → H1[q]? = H[q]?) → va_S A s.heap H1 locs1 → W p E.1 e R s m args below meth c H1 locs1 (cells + (f1.2.2.1 - f.2.2.1)) (slots + (f1.2.2.2 - f.2.2.2)) Q (F0 m (pc + 3) ls (.int r :: restv))) :
    W p E.1 e R s m args below meth c H locs cells slots Q (F0 m pc ls stk) := by
  obtain ⟨⟨m1, m2, m3, m4, m5⟩, m6, m7, m8⟩ := hM
  obtain ⟨o1, x1, f1, hk, hle, hw1⟩ := k
  obtain ⟨r, rfl⟩ := hQ o1 x1 f1 hk
  obtain ⟨hc1, hs1⟩ := hroom9 _ x1 f1 hk hle
  obtain ⟨i, hi0, hi⟩ := gwl_at (E := E) (x := x) (ad := ad) hc
  rw [gce_obj hK] at hi
  have hr9 : ∃ r : vw_C, vwCl[ci]? = some r ∧ r.1 = z.1.cls := by
    cases h9 : vwCl[ci]? with
    | none => rw [h9] at hcl; cases hcl
    | some r => rw [h9] at hcl; exact ⟨r, rfl, Option.some.inj hcl⟩
  obtain ⟨r9, hr1, hr2⟩ := hr9
  have hrec := va_recv C.2.2.2.1.1 hP.1.1 hr1 hi
  rw [hr2] at hrec
  have hG : GoodIn W0 (wsV y.1.cls idx z.1.cls z.1 (gws z)) := by
    intro w hw
    rcases List.mem_append.mp hw with h | h
    · refine W0_good w ?_
      simp only [List.mem_cons, List.not_mem_nil, or_false] at h
      rcases h with rfl | rfl | rfl | rfl
      · exact m1
      · exact m2
      · exact m3
      · exact m4
    · exact gwsz m5 w h
  have hroom : 8 + (z.2.2.1 + 11) + 41 * d1 ≤ R.locals := by
    have hq := C.2.2.1.2
    omega
  refine L_out (E := E) (x := x) (f := f) (ad := ad) (r := r) (x1 := x1) (f1 := f1) (mc := f1.2.2.1 - f.2.2.1) (ms := f1.2.2.2 - f.2.2.2) (av := ((vr cr :: As).map (gcv ad)).toArray) ?_ hP hS C.2.2.2.2 (fun ad1 H1 locs1 g1 g2 g3 g4 => kk r x1 f1 ad1 H1 locs1 hk hle g1 g2 g3 g4)
  cases hz : z.2.2.2.2 with
  | nil =>
    exact vx_runV (As := As.map (gcv ad)) (C := z.1.cls) (b := ad cr) (Pc := va_Pc ((vr cr :: As).map (gcv ad)) (gst E x f ad H.size)) ⟨C.1.1, C.1.2.1, C.1.2.2.1, C.1.2.2.2.1, C.1.2.2.2.2⟩ (gM_of C.2.2.2.1.2.2.2 m7 hfit hw1 ad H.size)
      (cwV (bytes := z.2.1) (maxL := z.2.2.1) (ret := z.2.2.2.1) (ws' := W0) n C.1.2.2.2.2 hG (by rw [gws, gcw, hz]) rfl rfl ⟨rfl, m6⟩ ⟨Nat.le_trans hd1 C.2.2.1.1, hroom⟩) ⟨gst_blind, hrec, fun U hU hW => ⟨rfl, gst_in C hP hS hU hW⟩⟩ rfl (by rw [List.length_map]; exact hn) hls hstk (lv_room hcat) hd ⟨hc1, hs1⟩
  | cons a9 b9 =>
    exact vx_runVX (hh := a9 :: b9) (As := As.map (gcv ad)) (C := z.1.cls) (b := ad cr) (Pc := va_Pc ((vr cr :: As).map (gcv ad)) (gst E x f ad H.size)) ⟨C.1.1, C.1.2.1, C.1.2.2.1, C.1.2.2.2.1, C.1.2.2.2.2⟩ (gM_of C.2.2.2.1.2.2.2 m7 hfit hw1 ad H.size)
      (vx_cwVW (bytes := z.2.1) (maxL := z.2.2.1) (ret := z.2.2.2.1) (hh := a9 :: b9) (ws' := W0) n C.1.2.2.2.2 hG (by rw [gws, gcw, hz]) rfl rfl ⟨rfl, m6⟩ ⟨Nat.le_trans hd1 C.2.2.1.1, hroom⟩) ⟨gst_blind, hrec, fun U hU hW => ⟨rfl, gst_in C hP hS hU hW⟩⟩ rfl (by rw [List.length_map]; exact hn) hls hstk (lv_room hcat) hd ⟨hc1, hs1⟩
/-- a helper of the law -/
theorem L_S {idx n : Nat} {QQ : gr → gd → gf → Prop} {stk : List Value} (C : gC E D y p R s m args meth c A) (hP : gP E x f ad A H) (hS : va_S A s.heap H locs) (hls : ls.size = y.2.2.1) (As : List gv) (d1 : Nat) (hstk : stk = (As.map (gcv ad)).reverse ++ restv) (hd : decode y.2.1 pc = .ok (.invokestatic idx, 3)) (hM : gMs y.1.cls idx z n) (hn : As.length = n) (hd1 : d1 + 1 ≤ D) (hz0 : z.2.2.2.2 ≠ [])
    (hfit : gsz As ≤ z.2.2.1) (hcat : (restv.map fun v => v.category).sum ≤ 8) (k : T E d1 z 0 (glv 0 As) [] x f QQ) (hQ : ∀ o x1 f1, QQ o x1 f1 → ∃ r : Int32, o = .inl (some (vi r))) (hroom9 : ∀ o x1 f1, QQ o x1 f1 → gle f f1 → cells + (f1.2.2.1 - f.2.2.1) ≤ R.cells ∧ slots + (f1.2.2.2 - f.2.2.2) ≤ R.slots)
    (kk : ∀ (r : Int32) (x1 : gd) (f1 : gf) (ad1 : Nat → Nat) (H1 : Heap) (locs1 : List Loc), QQ (.inl (some (vi r))) x1 f1 → gle f f1 → gex f ad ad1 → gP E x1 f1 ad1 (gA f ad H.size) H1 → (∀ q : Nat, q < H.size → ¬ gA f ad H.size q → H1[q]? = H[q]?) → va_S A s.heap H1 locs1 → W p E.1 e R s m args below meth c H1 locs1 (cells + (f1.2.2.1 - f.2.2.1)) (slots + (f1.2.2.2 - f.2.2.2)) Q (F0 m (pc + 3) ls (.int r :: restv))) :
    W p E.1 e R s m args below meth c H locs cells slots Q (F0 m pc ls stk) := by
  obtain ⟨⟨m1, m2, m4, m5⟩, m6, m7, m8⟩ := hM
  obtain ⟨o1, x1, f1, hk, hle, hw1⟩ := k
  obtain ⟨r, rfl⟩ := hQ o1 x1 f1 hk
  obtain ⟨hc1, hs1⟩ := hroom9 _ x1 f1 hk hle
  have hroom : 8 + (z.2.2.1 + 11) + 41 * d1 ≤ R.locals := by
    have hq := C.2.2.1.2
    omega
  refine L_out (E := E) (x := x) (f := f) (ad := ad) (r := r) (x1 := x1) (f1 := f1) (mc := f1.2.2.1 - f.2.2.1) (ms := f1.2.2.2 - f.2.2.2) (av := (As.map (gcv ad)).toArray) ?_ hP hS C.2.2.2.2 (fun ad1 H1 locs1 g1 g2 g3 g4 => kk r x1 f1 ad1 H1 locs1 hk hle g1 g2 g3 g4)
  cases hz : z.2.2.2.2 with
  | nil => exact absurd hz hz0
  | cons a9 b9 =>
    have hG : GoodIn W0 (va_wsS y.1.cls idx z.1 (gws z)) := by
      intro w hw
      rcases List.mem_append.mp hw with h | h
      · refine W0_good w ?_
        simp only [List.mem_cons, List.not_mem_nil, or_false] at h
        rcases h with rfl | rfl | rfl
        · exact m1
        · exact m2
        · exact m4
      · exact gwsz m5 w h
    exact vx_runSX (hh := a9 :: b9) (As := As.map (gcv ad)) (Pc := va_Pc (As.map (gcv ad)) (gst E x f ad H.size)) ⟨C.1.1, C.1.2.1, C.1.2.2.1, C.1.2.2.2.1, C.1.2.2.2.2⟩ (gM_of C.2.2.2.1.2.2.2 m7 hfit hw1 ad H.size)
      (vx_cwSW (bytes := z.2.1) (maxL := z.2.2.1) (ret := z.2.2.2.1) (hh := a9 :: b9) (ws' := W0) n C.1.2.2.2.2 hG (by rw [gws, gcw, hz]) rfl rfl m6 ⟨Nat.le_trans hd1 C.2.2.1.1, hroom⟩) ⟨gst_blind, fun U hU hW => ⟨rfl, gst_in C hP hS hU hW⟩⟩ rfl (by rw [List.length_map]; exact hn) hls hstk (lv_room hcat) hd ⟨hc1, hs1⟩
end LAW
/-- the two worlds, apart; where their objects lie -/
def LI (G : kG) (A : Nat → Prop) (H : Heap) (x : gd) (q : kP) (w : gd) (x0 m0 o0 : Nat) : Prop := ∃ ak am : Nat → Nat, gP (wE (kE G)) x (fo (kf q)) ak A H ∧ gP (mE (mg G)) w (mf (mg G)) am A H ∧ gdis (fo (kf q)) ak (mf (mg G)) am ∧ ak 0 = x0 ∧ ak 299 = o0 ∧ am 0 = m0
theorem gdis_s {f1 f2 : gf} {a1 a2 : Nat → Nat} (h : gdis f1 a1 f2 a2) : gdis f2 a2 f1 a1 := fun c hc c' hc' e => h c' hc' c hc e.symm
section LAX
variable {p : Program} {e : Env} {R : Room} {s : State} {m : MethodId} {args : Array Value} {below : List Frame} {meth : Method} {c : Code} {H : Heap} {locs : List Loc} {c0 s0 : Nat} {Q : State → Prop} {pc : Nat} {ls : Array Slot} {A : Nat → Prop} {G : kG} {z : gy} {x w : gd} {q : kP} {x0 m0 o0 : Nat} {restv : List Value}
/-- a helper is called -/
theorem LI_S {idx n : Nat} {P : Int32 → gd → kP → Prop} (C : gC (wE (kE G)) 1000 yLaw p R s m args meth c A) (hI : LI G A H x q w x0 m0 o0) (hu : kU q) (hS : va_S A s.heap H locs) (hls : ls.size = 7) (As : List gv) (vs : List Value) (hvs : ∀ ad : Nat → Nat, As.map (gcv ad) = vs) (hd : decode cL_law pc = .ok (.invokestatic idx, 3)) (hM : gMs RL idx z n) (hn : As.length + 2 = n) (hz0 : z.2.2.2.2 ≠ []) (hfit : gsz (vr 0 :: As ++ [vr 299]) ≤ z.2.2.1)
    (k : T (wE (kE G)) 900 z 0 (glv 0 (vr 0 :: As ++ [vr 299])) [] x (fo (kf q)) (wq q P)) (hroom : ∀ q1, kU q1 → kst q q1 → q1.ce + c0 ≤ R.cells ∧ q1.sl + s0 ≤ R.slots)
    (kk : ∀ (r : Int32) (x1 : gd) (q1 : kP) (H1 : Heap) (locs1 : List Loc), LI G A H1 x1 q1 w x0 m0 o0 → kU q1 → kst q q1 → HOI x1 q1 → P r x1 q1 → va_S A s.heap H1 locs1 → W p G.1 e R s m args below meth c H1 locs1 (q1.ce + c0) (q1.sl + s0) Q (F0 m (pc + 3) ls [.int r])) :
    W p G.1 e R s m args below meth c H locs (q.ce + c0) (q.sl + s0) Q (F0 m pc ls (.ref o0 :: (vs.reverse ++ [.ref x0]))) := by
  obtain ⟨ak, am, hP1, hP2, hdis, e0, e9, em⟩ := hI
  have l0 : 0 ∈ (fo (kf q)).2.1 := List.mem_append_left _ (kl_0 hu.1)
  have l9 : 299 ∈ (fo (kf q)).2.1 := List.mem_append_right _ (List.mem_singleton.mpr rfl)
  have hc9 : ∀ {q1 : kP}, gle (fo (kf q)) (fo (kf q1)) → q.ce + c0 + (q1.ce - q.ce) = q1.ce + c0 ∧ q.sl + s0 + (q1.sl - q.sl) = q1.sl + s0 := fun {q1} h => by
    have a1 : q.ce ≤ q1.ce := h.2.1
    have a2 : q.sl ≤ q1.sl := h.2.2
    omega
  refine L_S (E := wE (kE G)) (y := yLaw) (restv := []) (f := fo (kf q)) (ad := ak) C hP1 hS hls (vr 0 :: As ++ [vr 299]) 900 ?_ hd hM (by rw [← hn]; simp) (by omega) hz0 hfit (by decide) k (fun o x1 f1 h => by obtain ⟨r, q1, h1, -⟩ := h; exact ⟨r, h1⟩) (fun o x1 f1 h hle => ?_) (fun r x1 f1 ad1 H1 locs1 h hle hex hPn hkp hS1 => ?_)
  · rw [List.map_append, List.map_cons, hvs, ← e0, ← e9]
    simp [gcv]
  · obtain ⟨r, q1, -, rfl, hu1, hk1, -⟩ := h
    obtain ⟨a1, a2⟩ := hc9 hle
    obtain ⟨b1, b2⟩ := hroom q1 hu1 hk1
    exact ⟨by show q.ce + c0 + (q1.ce - q.ce) ≤ _; rw [a1]; exact b1, by show q.sl + s0 + (q1.sl - q.sl) ≤ _; rw [a2]; exact b2⟩
  · obtain ⟨r', q1, hr, rfl, hu1, hk1, hH1, hp1⟩ := h
    cases hr
    obtain ⟨a1, a2⟩ := hc9 hle
    obtain ⟨kp1, kp2⟩ := keep2 hP2 hdis hkp hPn
    have hin := gA_in (sz := H.size) hP1 (fun q hq => C.2.2.2.2 q (Nat.le_trans hS.1 hq))
    have hkk := kk r x1 q1 H1 locs1 ⟨ad1, am, gP_w hPn hin, kp1, kp2, (hex.1 0 l0).trans e0, (hex.1 299 l9).trans e9, em⟩ hu1 hk1 hH1 hp1 hS1
    show W p G.1 e R s m args below meth c H1 locs1 (q.ce + c0 + (q1.ce - q.ce)) (q.sl + s0 + (q1.sl - q.sl)) Q _
    rw [a1, a2]; exact hkk
/-- a method of the class is called -/
theorem LI_K {idx : Nat} {P : Int32 → gd → kP → Prop} (C : gC (wE (kE G)) 1000 yLaw p R s m args meth c A) (hI : LI G A H x q w x0 m0 o0) (hu : kU q) (hS : va_S A s.heap H locs) (hls : ls.size = 7) (hd : decode cL_law pc = .ok (.invokevirtual idx, 3)) (hM : gMv RL idx z 0) (hcl : (vwCl[11]?).map (fun r => r.1) = some z.1.cls) (hfit : gsz [vr 0] ≤ z.2.2.1) (hcat : (restv.map fun v => v.category).sum ≤ 8)
    (k : T (kE G) 900 z 0 (glv 0 [vr 0]) [] x (kf q) (fun o x1 f1 => ∃ (r : Int32) (q1 : kP), o = .inl (some (vi r)) ∧ f1 = kf q1 ∧ kU q1 ∧ kst q q1 ∧ HOI x1 q1 ∧ P r x1 q1)) (hroom : ∀ q1, kU q1 → kst q q1 → q1.ce + c0 ≤ R.cells ∧ q1.sl + s0 ≤ R.slots)
    (kk : ∀ (r : Int32) (x1 x2 : gd) (q1 : kP) (H1 : Heap) (locs1 : List Loc), LI G A H1 x1 q1 w x0 m0 o0 → kU q1 → kst q q1 → HOI x1 q1 → P r x2 q1 → x1.1 = x2.1 → va_S A s.heap H1 locs1 → W p G.1 e R s m args below meth c H1 locs1 (q1.ce + c0) (q1.sl + s0) Q (F0 m (pc + 3) ls (.int r :: restv))) :
    W p G.1 e R s m args below meth c H locs (q.ce + c0) (q.sl + s0) Q (F0 m pc ls (.ref x0 :: restv)) := by
  obtain ⟨ak, am, hP1, hP2, hdis, e0, e9, em⟩ := hI
  obtain ⟨hPk, hPO, hdO⟩ := fo_sp (n299 hu) hP1
  have l0 : 0 ∈ (kf q).2.1 := kl_0 hu.1
  have l9 : 299 ∈ (fo (kf q)).2.1 := List.mem_append_right _ (List.mem_singleton.mpr rfl)
  have hdk : gdis (kf q) ak (mf (mg G)) am := fun c hc c' hc' => hdis c (List.mem_append_left _ hc) c' hc'
  have hc9 : ∀ {q1 : kP}, gle (kf q) (kf q1) → q.ce + c0 + (q1.ce - q.ce) = q1.ce + c0 ∧ q.sl + s0 + (q1.sl - q.sl) = q1.sl + s0 := fun {q1} h => by
    have a1 : q.ce ≤ q1.ce := h.2.1
    have a2 : q.sl ≤ q1.sl := h.2.2
    omega
  have C1 : gC (kE G) 1000 yLaw p R s m args meth c A := C
  refine L_V (E := kE G) (y := yLaw) (cr := 0) (ci := 11) (f := kf q) (ad := ak) C1 hPk hS hls [] 900 (by rw [← e0]; rfl) hd hM rfl kk_0 hcl l0 (by omega) hfit hcat k (fun o x1 f1 h => by obtain ⟨r, q1, h1, -⟩ := h; exact ⟨r, h1⟩) (fun o x1 f1 h hle => ?_) (fun r x1 f1 ad1 H1 locs1 h hle hex hPn hkp hS1 => ?_)
  · obtain ⟨r, q1, -, rfl, hu1, hk1, -⟩ := h
    obtain ⟨a1, a2⟩ := hc9 hle
    obtain ⟨b1, b2⟩ := hroom q1 hu1 hk1
    exact ⟨by show q.ce + c0 + (q1.ce - q.ce) ≤ _; rw [a1]; exact b1, by show q.sl + s0 + (q1.sl - q.sl) ≤ _; rw [a2]; exact b2⟩
  · obtain ⟨r', q1, hr, rfl, hu1, hk1, hH1, hp1⟩ := h
    cases hr
    obtain ⟨a1, a2⟩ := hc9 hle
    obtain ⟨kp1, kp2⟩ := keep2 hP2 hdk hkp hPn
    obtain ⟨ko1, ko2⟩ := keep2 hPO hdO hkp hPn
    have hin := gA_in (sz := H.size) hPk (fun q hq => C.2.2.2.2 q (Nat.le_trans hS.1 hq))
    have n1 := n299 hu1
    have hPx := fo_mv n1 (kU_NR hu1 n1) hPn hin ko1 ko2
    have ne : ∀ c ∈ (kf q1).2.1, ¬ c = 299 := fun c hc e => n1 (e ▸ hc)
    have hkk := kk r (xo x x1) x1 q1 H1 locs1 ⟨ao ak ad1, am, hPx, kp1, fun c hc c' hc' => by
      rcases List.mem_append.mp hc with h | h
      · rw [show ao ak ad1 c = ad1 c from if_neg (ne c h)]; exact kp2 c h c' hc'
      · rw [List.mem_singleton.mp h, show ao ak ad1 299 = ak 299 from if_pos rfl]; exact hdis 299 l9 c' hc', by
      rw [show ao ak ad1 0 = ad1 0 from if_neg (by omega), hex.1 0 l0]; exact e0, by
      rw [show ao ak ad1 299 = ak 299 from if_pos rfl]; exact e9, em⟩ hu1 hk1 (HOI_1 rfl hu1 hH1) hp1 rfl hS1
    show W p G.1 e R s m args below meth c H1 locs1 (q.ce + c0 + (q1.ce - q.ce)) (q.sl + s0 + (q1.sl - q.sl)) Q _
    rw [a1, a2]; exact hkk
/-- a method of the model is called -/
theorem LI_M {idx n : Nat} {F : Int32 → gd → Prop} {cells slots d1 : Nat} (C : gC (wE (kE G)) 1000 yLaw p R s m args meth c A) (hI : LI G A H x q w x0 m0 o0) (hS : va_S A s.heap H locs) (hls : ls.size = 7) (As : List gv) (vs : List Value) (hvs : ∀ ad : Nat → Nat, As.map (gcv ad) = vs) (hd : decode cL_law pc = .ok (.invokevirtual idx, 3)) (hM : gMv RL idx z n) (hn : As.length = n) (hcl : (vwCl[12]?).map (fun r => r.1) = some z.1.cls) (hfit : gsz (vr 0 :: As) ≤ z.2.2.1) (hcat : (restv.map fun v => v.category).sum ≤ 8) (hd1 : d1 ≤ 900)
    (k : MT (mg G) d1 z 0 (glv 0 (vr 0 :: As)) [] w (ri F)) (hroom : cells ≤ R.cells ∧ slots ≤ R.slots)
    (kk : ∀ (r : Int32) (w1 : gd) (H1 : Heap) (locs1 : List Loc), LI G A H1 x q w1 x0 m0 o0 → F r w1 → va_S A s.heap H1 locs1 → W p G.1 e R s m args below meth c H1 locs1 cells slots Q (F0 m (pc + 3) ls (.int r :: restv))) :
    W p G.1 e R s m args below meth c H locs cells slots Q (F0 m pc ls (vs.reverse ++ .ref m0 :: restv)) := by
  obtain ⟨ak, am, hP1, hP2, hdis, e0, e9, em⟩ := hI
  have l0 : 0 ∈ (mf (mg G)).2.1 := ml_0
  have C1 : gC (mE (mg G)) 1000 yLaw p R s m args meth c A := C
  refine L_V (E := mE (mg G)) (y := yLaw) (cr := 0) (ci := 12) (f := mf (mg G)) (ad := am) C1 hP2 hS hls As d1 (by rw [← em, hvs]) hd hM hn mk_0 hcl l0 (by omega) hfit hcat k (fun o x1 f1 h => by obtain ⟨-, v, rfl, r, rfl, -⟩ := h; exact ⟨r, rfl⟩) (fun o x1 f1 h hle => ?_) (fun r x1 f1 ad1 H1 locs1 h hle hex hPn hkp hS1 => ?_)
  · obtain ⟨rfl, -⟩ := h
    exact hroom
  · obtain ⟨rfl, v, hv, r', hr, hF⟩ := h
    cases hv
    cases hr
    obtain ⟨kp1, kp2⟩ := keep2 hP1 (gdis_s hdis) hkp hPn
    have hin := gA_in (sz := H.size) hP2 (fun q hq => C.2.2.2.2 q (Nat.le_trans hS.1 hq))
    exact kk r x1 H1 locs1 ⟨ak, ad1, kp1, gP_w hPn hin, gdis_s kp2, e0, e9, (hex.1 0 l0).trans em⟩ hF hS1
/-- what a helper left is read -/
theorem LI_O {c0 s0 : Nat} {restv : List Value} (C : gC (wE (kE G)) 1000 yLaw p R s m args meth c A) (hI : LI G A H x q w x0 m0 o0) (hd : decode cL_law pc = .ok (.laload, 1)) (kk : W p G.1 e R s m args below meth c H locs c0 s0 Q (F0 m (pc + 1) ls (.long (x.2 299 (0 : Int32).toNatClampNeg) :: restv))) : W p G.1 e R s m args below meth c H locs c0 s0 Q (F0 m pc ls (.int 0 :: .ref o0 :: restv)) := by
  obtain ⟨ak, am, hP1, hP2, hdis, e0, e9, em⟩ := hI
  have l9 : 299 ∈ (fo (kf q)).2.1 := List.mem_append_right _ (List.mem_singleton.mpr rfl)
  obtain ⟨i, -, hi⟩ := gwl_at (E := wE (kE G)) (x := x) (ad := ak) l9
  rw [gce_arr wE_9] at hi
  rw [← e9]
  exact va_lald C.1.1 C.1.2.1 C.2.2.2.1.1 hP1.1.1 i 3 hi rfl (vin0 (by omega)) hd kk
theorem lg_self (a : Int64) : lg_cmp a a = 0 := by
  unfold lg_cmp
  rw [if_neg (fun h => by rw [gt_iff_lt, Int64.lt_iff_toInt_lt] at h; omega), if_pos rfl]
theorem sp_thrown {G : mG} {d : Nat} {w : gd} {F : Int32 → gd → Prop} (h : F (w.1 0 0) w) : MT G (d + 1) z_thrown 0 [(0, vr 0)] [] w (ri F) := sg_thrown_0 ⟨_, rfl, h⟩
end LAX
end
section
set_option maxRecDepth 100000 in
theorem dlw_0 : decode cL_law 0 = .ok (.new 8, 3) := by decide +kernel
set_option maxRecDepth 100000 in
theorem dlw_3 : decode cL_law 3 = .ok (.dup, 1) := by decide +kernel
set_option maxRecDepth 100000 in
theorem dlw_4 : decode cL_law 4 = .ok (.invokespecial 99, 3) := by decide +kernel
set_option maxRecDepth 100000 in
theorem dlw_7 : decode cL_law 7 = .ok (.astore_n 1, 1) := by decide +kernel
set_option maxRecDepth 100000 in
theorem dlw_8 : decode cL_law 8 = .ok (.new 100, 3) := by decide +kernel
set_option maxRecDepth 100000 in
theorem dlw_11 : decode cL_law 11 = .ok (.dup, 1) := by decide +kernel
set_option maxRecDepth 100000 in
theorem dlw_12 : decode cL_law 12 = .ok (.invokespecial 102, 3) := by decide +kernel
set_option maxRecDepth 100000 in
theorem dlw_15 : decode cL_law 15 = .ok (.astore_n 2, 1) := by decide +kernel
set_option maxRecDepth 100000 in
theorem dlw_16 : decode cL_law 16 = .ok (.iconst 1, 1) := by decide +kernel
set_option maxRecDepth 100000 in
theorem dlw_17 : decode cL_law 17 = .ok (.newarray .long, 2) := by decide +kernel
set_option maxRecDepth 100000 in
theorem dlw_19 : decode cL_law 19 = .ok (.astore_n 3, 1) := by decide +kernel
set_option maxRecDepth 100000 in
theorem dlw_20 : decode cL_law 20 = .ok (.iconst 0, 1) := by decide +kernel
set_option maxRecDepth 100000 in
theorem dlw_21 : decode cL_law 21 = .ok (.istore 4, 2) := by decide +kernel
set_option maxRecDepth 100000 in
theorem dlw_23 : decode cL_law 23 = .ok (.iload 4, 2) := by decide +kernel
set_option maxRecDepth 100000 in
theorem dlw_25 : decode cL_law 25 = .ok (.aload_n 0, 1) := by decide +kernel
set_option maxRecDepth 100000 in
theorem dlw_26 : decode cL_law 26 = .ok (.arraylength, 1) := by decide +kernel
set_option maxRecDepth 100000 in
theorem dlw_27 : decode cL_law 27 = .ok (.iconst 4, 1) := by decide +kernel
set_option maxRecDepth 100000 in
theorem dlw_28 : decode cL_law 28 = .ok (.isub, 1) := by decide +kernel
set_option maxRecDepth 100000 in
theorem dlw_29 : decode cL_law 29 = .ok (.if_icmp .gt 1164, 3) := by decide +kernel
set_option maxRecDepth 100000 in
theorem dlw_32 : decode cL_law 32 = .ok (.aload_n 0, 1) := by decide +kernel
set_option maxRecDepth 100000 in
theorem dlw_33 : decode cL_law 33 = .ok (.iload 4, 2) := by decide +kernel
set_option maxRecDepth 100000 in
theorem dlw_35 : decode cL_law 35 = .ok (.iaload, 1) := by decide +kernel
set_option maxRecDepth 100000 in
theorem dlw_36 : decode cL_law 36 = .ok (.bipush 31, 2) := by decide +kernel
set_option maxRecDepth 100000 in
theorem dlw_38 : decode cL_law 38 = .ok (.iand, 1) := by decide +kernel
set_option maxRecDepth 100000 in
theorem dlw_39 : decode cL_law 39 = .ok (.tableswitch 1148 0 28 #[129, 201, 214, 227, 255, 283, 311, 327, 367, 395, 435, 463, 491, 519, 559, 599, 639, 679, 719, 759, 799, 827, 867, 907, 959, 1027, 1067, 1107, 1135], 129) := by decide +kernel
set_option maxRecDepth 100000 in
theorem dlw_168 : decode cL_law 168 = .ok (.aload_n 1, 1) := by decide +kernel
set_option maxRecDepth 100000 in
theorem dlw_169 : decode cL_law 169 = .ok (.aload_n 0, 1) := by decide +kernel
set_option maxRecDepth 100000 in
theorem dlw_170 : decode cL_law 170 = .ok (.iload 4, 2) := by decide +kernel
set_option maxRecDepth 100000 in
theorem dlw_172 : decode cL_law 172 = .ok (.iconst 1, 1) := by decide +kernel
set_option maxRecDepth 100000 in
theorem dlw_173 : decode cL_law 173 = .ok (.iadd, 1) := by decide +kernel
set_option maxRecDepth 100000 in
theorem dlw_174 : decode cL_law 174 = .ok (.iaload, 1) := by decide +kernel
set_option maxRecDepth 100000 in
theorem dlw_175 : decode cL_law 175 = .ok (.aload_n 0, 1) := by decide +kernel
set_option maxRecDepth 100000 in
theorem dlw_176 : decode cL_law 176 = .ok (.iload 4, 2) := by decide +kernel
set_option maxRecDepth 100000 in
theorem dlw_178 : decode cL_law 178 = .ok (.iconst 2, 1) := by decide +kernel
set_option maxRecDepth 100000 in
theorem dlw_179 : decode cL_law 179 = .ok (.iadd, 1) := by decide +kernel
set_option maxRecDepth 100000 in
theorem dlw_180 : decode cL_law 180 = .ok (.iaload, 1) := by decide +kernel
set_option maxRecDepth 100000 in
theorem dlw_181 : decode cL_law 181 = .ok (.i2l, 1) := by decide +kernel
set_option maxRecDepth 100000 in
theorem dlw_182 : decode cL_law 182 = .ok (.bipush 32, 2) := by decide +kernel
set_option maxRecDepth 100000 in
theorem dlw_184 : decode cL_law 184 = .ok (.lshl, 1) := by decide +kernel
set_option maxRecDepth 100000 in
theorem dlw_185 : decode cL_law 185 = .ok (.aload_n 0, 1) := by decide +kernel
set_option maxRecDepth 100000 in
theorem dlw_186 : decode cL_law 186 = .ok (.iload 4, 2) := by decide +kernel
set_option maxRecDepth 100000 in
theorem dlw_188 : decode cL_law 188 = .ok (.iconst 3, 1) := by decide +kernel
set_option maxRecDepth 100000 in
theorem dlw_189 : decode cL_law 189 = .ok (.iadd, 1) := by decide +kernel
set_option maxRecDepth 100000 in
theorem dlw_190 : decode cL_law 190 = .ok (.iaload, 1) := by decide +kernel
set_option maxRecDepth 100000 in
theorem dlw_191 : decode cL_law 191 = .ok (.i2l, 1) := by decide +kernel
set_option maxRecDepth 100000 in
theorem dlw_192 : decode cL_law 192 = .ok (.ldc2_w 103, 3) := by decide +kernel
set_option maxRecDepth 100000 in
theorem dlw_195 : decode cL_law 195 = .ok (.land, 1) := by decide +kernel
set_option maxRecDepth 100000 in
theorem dlw_196 : decode cL_law 196 = .ok (.lor, 1) := by decide +kernel
set_option maxRecDepth 100000 in
theorem dlw_197 : decode cL_law 197 = .ok (.aload_n 3, 1) := by decide +kernel
set_option maxRecDepth 100000 in
theorem dlw_198 : decode cL_law 198 = .ok (.invokestatic 105, 3) := by decide +kernel
set_option maxRecDepth 100000 in
theorem dlw_201 : decode cL_law 201 = .ok (.istore 5, 2) := by decide +kernel
set_option maxRecDepth 100000 in
theorem dlw_203 : decode cL_law 203 = .ok (.aload_n 2, 1) := by decide +kernel
set_option maxRecDepth 100000 in
theorem dlw_204 : decode cL_law 204 = .ok (.aload_n 0, 1) := by decide +kernel
set_option maxRecDepth 100000 in
theorem dlw_205 : decode cL_law 205 = .ok (.iload 4, 2) := by decide +kernel
set_option maxRecDepth 100000 in
theorem dlw_207 : decode cL_law 207 = .ok (.iconst 1, 1) := by decide +kernel
set_option maxRecDepth 100000 in
theorem dlw_208 : decode cL_law 208 = .ok (.iadd, 1) := by decide +kernel
set_option maxRecDepth 100000 in
theorem dlw_209 : decode cL_law 209 = .ok (.iaload, 1) := by decide +kernel
set_option maxRecDepth 100000 in
theorem dlw_210 : decode cL_law 210 = .ok (.aload_n 0, 1) := by decide +kernel
set_option maxRecDepth 100000 in
theorem dlw_211 : decode cL_law 211 = .ok (.iload 4, 2) := by decide +kernel
set_option maxRecDepth 100000 in
theorem dlw_213 : decode cL_law 213 = .ok (.iconst 2, 1) := by decide +kernel
set_option maxRecDepth 100000 in
theorem dlw_214 : decode cL_law 214 = .ok (.iadd, 1) := by decide +kernel
set_option maxRecDepth 100000 in
theorem dlw_215 : decode cL_law 215 = .ok (.iaload, 1) := by decide +kernel
set_option maxRecDepth 100000 in
theorem dlw_216 : decode cL_law 216 = .ok (.i2l, 1) := by decide +kernel
set_option maxRecDepth 100000 in
theorem dlw_217 : decode cL_law 217 = .ok (.bipush 32, 2) := by decide +kernel
set_option maxRecDepth 100000 in
theorem dlw_219 : decode cL_law 219 = .ok (.lshl, 1) := by decide +kernel
set_option maxRecDepth 100000 in
theorem dlw_220 : decode cL_law 220 = .ok (.aload_n 0, 1) := by decide +kernel
set_option maxRecDepth 100000 in
theorem dlw_221 : decode cL_law 221 = .ok (.iload 4, 2) := by decide +kernel
set_option maxRecDepth 100000 in
theorem dlw_223 : decode cL_law 223 = .ok (.iconst 3, 1) := by decide +kernel
set_option maxRecDepth 100000 in
theorem dlw_224 : decode cL_law 224 = .ok (.iadd, 1) := by decide +kernel
set_option maxRecDepth 100000 in
theorem dlw_225 : decode cL_law 225 = .ok (.iaload, 1) := by decide +kernel
set_option maxRecDepth 100000 in
theorem dlw_226 : decode cL_law 226 = .ok (.i2l, 1) := by decide +kernel
set_option maxRecDepth 100000 in
theorem dlw_227 : decode cL_law 227 = .ok (.ldc2_w 103, 3) := by decide +kernel
set_option maxRecDepth 100000 in
theorem dlw_230 : decode cL_law 230 = .ok (.land, 1) := by decide +kernel
set_option maxRecDepth 100000 in
theorem dlw_231 : decode cL_law 231 = .ok (.lor, 1) := by decide +kernel
set_option maxRecDepth 100000 in
theorem dlw_232 : decode cL_law 232 = .ok (.invokevirtual 110, 3) := by decide +kernel
set_option maxRecDepth 100000 in
theorem dlw_235 : decode cL_law 235 = .ok (.istore 6, 2) := by decide +kernel
set_option maxRecDepth 100000 in
theorem dlw_237 : decode cL_law 237 = .ok (.goto 950, 3) := by decide +kernel
set_option maxRecDepth 100000 in
theorem dlw_240 : decode cL_law 240 = .ok (.aload_n 1, 1) := by decide +kernel
set_option maxRecDepth 100000 in
theorem dlw_241 : decode cL_law 241 = .ok (.invokevirtual 111, 3) := by decide +kernel
set_option maxRecDepth 100000 in
theorem dlw_244 : decode cL_law 244 = .ok (.pop, 1) := by decide +kernel
set_option maxRecDepth 100000 in
theorem dlw_245 : decode cL_law 245 = .ok (.aload_n 2, 1) := by decide +kernel
set_option maxRecDepth 100000 in
theorem dlw_246 : decode cL_law 246 = .ok (.invokevirtual 114, 3) := by decide +kernel
set_option maxRecDepth 100000 in
theorem dlw_249 : decode cL_law 249 = .ok (.pop, 1) := by decide +kernel
set_option maxRecDepth 100000 in
theorem dlw_250 : decode cL_law 250 = .ok (.goto 937, 3) := by decide +kernel
set_option maxRecDepth 100000 in
theorem dlw_253 : decode cL_law 253 = .ok (.aload_n 1, 1) := by decide +kernel
set_option maxRecDepth 100000 in
theorem dlw_254 : decode cL_law 254 = .ok (.invokevirtual 115, 3) := by decide +kernel
set_option maxRecDepth 100000 in
theorem dlw_257 : decode cL_law 257 = .ok (.pop, 1) := by decide +kernel
set_option maxRecDepth 100000 in
theorem dlw_258 : decode cL_law 258 = .ok (.aload_n 2, 1) := by decide +kernel
set_option maxRecDepth 100000 in
theorem dlw_259 : decode cL_law 259 = .ok (.invokevirtual 118, 3) := by decide +kernel
set_option maxRecDepth 100000 in
theorem dlw_262 : decode cL_law 262 = .ok (.pop, 1) := by decide +kernel
set_option maxRecDepth 100000 in
theorem dlw_263 : decode cL_law 263 = .ok (.goto 924, 3) := by decide +kernel
set_option maxRecDepth 100000 in
theorem dlw_266 : decode cL_law 266 = .ok (.aload_n 1, 1) := by decide +kernel
set_option maxRecDepth 100000 in
theorem dlw_267 : decode cL_law 267 = .ok (.aload_n 0, 1) := by decide +kernel
set_option maxRecDepth 100000 in
theorem dlw_268 : decode cL_law 268 = .ok (.iload 4, 2) := by decide +kernel
set_option maxRecDepth 100000 in
theorem dlw_270 : decode cL_law 270 = .ok (.iconst 1, 1) := by decide +kernel
set_option maxRecDepth 100000 in
theorem dlw_271 : decode cL_law 271 = .ok (.iadd, 1) := by decide +kernel
set_option maxRecDepth 100000 in
theorem dlw_272 : decode cL_law 272 = .ok (.iaload, 1) := by decide +kernel
set_option maxRecDepth 100000 in
theorem dlw_273 : decode cL_law 273 = .ok (.aload_n 3, 1) := by decide +kernel
set_option maxRecDepth 100000 in
theorem dlw_274 : decode cL_law 274 = .ok (.invokestatic 119, 3) := by decide +kernel
set_option maxRecDepth 100000 in
theorem dlw_277 : decode cL_law 277 = .ok (.istore 5, 2) := by decide +kernel
set_option maxRecDepth 100000 in
theorem dlw_279 : decode cL_law 279 = .ok (.aload_n 2, 1) := by decide +kernel
set_option maxRecDepth 100000 in
theorem dlw_280 : decode cL_law 280 = .ok (.aload_n 0, 1) := by decide +kernel
set_option maxRecDepth 100000 in
theorem dlw_281 : decode cL_law 281 = .ok (.iload 4, 2) := by decide +kernel
set_option maxRecDepth 100000 in
theorem dlw_283 : decode cL_law 283 = .ok (.iconst 1, 1) := by decide +kernel
set_option maxRecDepth 100000 in
theorem dlw_284 : decode cL_law 284 = .ok (.iadd, 1) := by decide +kernel
set_option maxRecDepth 100000 in
theorem dlw_285 : decode cL_law 285 = .ok (.iaload, 1) := by decide +kernel
set_option maxRecDepth 100000 in
theorem dlw_286 : decode cL_law 286 = .ok (.invokevirtual 122, 3) := by decide +kernel
set_option maxRecDepth 100000 in
theorem dlw_289 : decode cL_law 289 = .ok (.istore 6, 2) := by decide +kernel
set_option maxRecDepth 100000 in
theorem dlw_291 : decode cL_law 291 = .ok (.goto 896, 3) := by decide +kernel
set_option maxRecDepth 100000 in
theorem dlw_294 : decode cL_law 294 = .ok (.aload_n 1, 1) := by decide +kernel
set_option maxRecDepth 100000 in
theorem dlw_295 : decode cL_law 295 = .ok (.aload_n 0, 1) := by decide +kernel
set_option maxRecDepth 100000 in
theorem dlw_296 : decode cL_law 296 = .ok (.iload 4, 2) := by decide +kernel
set_option maxRecDepth 100000 in
theorem dlw_298 : decode cL_law 298 = .ok (.iconst 1, 1) := by decide +kernel
set_option maxRecDepth 100000 in
theorem dlw_299 : decode cL_law 299 = .ok (.iadd, 1) := by decide +kernel
set_option maxRecDepth 100000 in
theorem dlw_300 : decode cL_law 300 = .ok (.iaload, 1) := by decide +kernel
set_option maxRecDepth 100000 in
theorem dlw_301 : decode cL_law 301 = .ok (.aload_n 3, 1) := by decide +kernel
set_option maxRecDepth 100000 in
theorem dlw_302 : decode cL_law 302 = .ok (.invokestatic 123, 3) := by decide +kernel
set_option maxRecDepth 100000 in
theorem dlw_305 : decode cL_law 305 = .ok (.istore 5, 2) := by decide +kernel
set_option maxRecDepth 100000 in
theorem dlw_307 : decode cL_law 307 = .ok (.aload_n 2, 1) := by decide +kernel
set_option maxRecDepth 100000 in
theorem dlw_308 : decode cL_law 308 = .ok (.aload_n 0, 1) := by decide +kernel
set_option maxRecDepth 100000 in
theorem dlw_309 : decode cL_law 309 = .ok (.iload 4, 2) := by decide +kernel
set_option maxRecDepth 100000 in
theorem dlw_311 : decode cL_law 311 = .ok (.iconst 1, 1) := by decide +kernel
set_option maxRecDepth 100000 in
theorem dlw_312 : decode cL_law 312 = .ok (.iadd, 1) := by decide +kernel
set_option maxRecDepth 100000 in
theorem dlw_313 : decode cL_law 313 = .ok (.iaload, 1) := by decide +kernel
set_option maxRecDepth 100000 in
theorem dlw_314 : decode cL_law 314 = .ok (.invokevirtual 125, 3) := by decide +kernel
set_option maxRecDepth 100000 in
theorem dlw_317 : decode cL_law 317 = .ok (.istore 6, 2) := by decide +kernel
set_option maxRecDepth 100000 in
theorem dlw_319 : decode cL_law 319 = .ok (.goto 868, 3) := by decide +kernel
set_option maxRecDepth 100000 in
theorem dlw_322 : decode cL_law 322 = .ok (.aload_n 1, 1) := by decide +kernel
set_option maxRecDepth 100000 in
theorem dlw_323 : decode cL_law 323 = .ok (.aload_n 0, 1) := by decide +kernel
set_option maxRecDepth 100000 in
theorem dlw_324 : decode cL_law 324 = .ok (.iload 4, 2) := by decide +kernel
set_option maxRecDepth 100000 in
theorem dlw_326 : decode cL_law 326 = .ok (.iconst 1, 1) := by decide +kernel
set_option maxRecDepth 100000 in
theorem dlw_327 : decode cL_law 327 = .ok (.iadd, 1) := by decide +kernel
set_option maxRecDepth 100000 in
theorem dlw_328 : decode cL_law 328 = .ok (.iaload, 1) := by decide +kernel
set_option maxRecDepth 100000 in
theorem dlw_329 : decode cL_law 329 = .ok (.aload_n 3, 1) := by decide +kernel
set_option maxRecDepth 100000 in
theorem dlw_330 : decode cL_law 330 = .ok (.invokestatic 126, 3) := by decide +kernel
set_option maxRecDepth 100000 in
theorem dlw_333 : decode cL_law 333 = .ok (.istore 5, 2) := by decide +kernel
set_option maxRecDepth 100000 in
theorem dlw_335 : decode cL_law 335 = .ok (.aload_n 2, 1) := by decide +kernel
set_option maxRecDepth 100000 in
theorem dlw_336 : decode cL_law 336 = .ok (.aload_n 0, 1) := by decide +kernel
set_option maxRecDepth 100000 in
theorem dlw_337 : decode cL_law 337 = .ok (.iload 4, 2) := by decide +kernel
set_option maxRecDepth 100000 in
theorem dlw_339 : decode cL_law 339 = .ok (.iconst 1, 1) := by decide +kernel
set_option maxRecDepth 100000 in
theorem dlw_340 : decode cL_law 340 = .ok (.iadd, 1) := by decide +kernel
set_option maxRecDepth 100000 in
theorem dlw_341 : decode cL_law 341 = .ok (.iaload, 1) := by decide +kernel
set_option maxRecDepth 100000 in
theorem dlw_342 : decode cL_law 342 = .ok (.invokevirtual 128, 3) := by decide +kernel
set_option maxRecDepth 100000 in
theorem dlw_345 : decode cL_law 345 = .ok (.istore 6, 2) := by decide +kernel
set_option maxRecDepth 100000 in
theorem dlw_347 : decode cL_law 347 = .ok (.goto 840, 3) := by decide +kernel
set_option maxRecDepth 100000 in
theorem dlw_350 : decode cL_law 350 = .ok (.aload_n 1, 1) := by decide +kernel
set_option maxRecDepth 100000 in
theorem dlw_351 : decode cL_law 351 = .ok (.aload_n 3, 1) := by decide +kernel
set_option maxRecDepth 100000 in
theorem dlw_352 : decode cL_law 352 = .ok (.invokestatic 129, 3) := by decide +kernel
set_option maxRecDepth 100000 in
theorem dlw_355 : decode cL_law 355 = .ok (.istore 5, 2) := by decide +kernel
set_option maxRecDepth 100000 in
theorem dlw_357 : decode cL_law 357 = .ok (.aload_n 2, 1) := by decide +kernel
end
section
set_option maxRecDepth 100000 in
theorem dlw_358 : decode cL_law 358 = .ok (.invokevirtual 132, 3) := by decide +kernel
set_option maxRecDepth 100000 in
theorem dlw_361 : decode cL_law 361 = .ok (.istore 6, 2) := by decide +kernel
set_option maxRecDepth 100000 in
theorem dlw_363 : decode cL_law 363 = .ok (.goto 824, 3) := by decide +kernel
set_option maxRecDepth 100000 in
theorem dlw_366 : decode cL_law 366 = .ok (.aload_n 1, 1) := by decide +kernel
set_option maxRecDepth 100000 in
theorem dlw_367 : decode cL_law 367 = .ok (.aload_n 0, 1) := by decide +kernel
set_option maxRecDepth 100000 in
theorem dlw_368 : decode cL_law 368 = .ok (.iload 4, 2) := by decide +kernel
set_option maxRecDepth 100000 in
theorem dlw_370 : decode cL_law 370 = .ok (.iconst 1, 1) := by decide +kernel
set_option maxRecDepth 100000 in
theorem dlw_371 : decode cL_law 371 = .ok (.iadd, 1) := by decide +kernel
set_option maxRecDepth 100000 in
theorem dlw_372 : decode cL_law 372 = .ok (.iaload, 1) := by decide +kernel
set_option maxRecDepth 100000 in
theorem dlw_373 : decode cL_law 373 = .ok (.aload_n 0, 1) := by decide +kernel
set_option maxRecDepth 100000 in
theorem dlw_374 : decode cL_law 374 = .ok (.iload 4, 2) := by decide +kernel
set_option maxRecDepth 100000 in
theorem dlw_376 : decode cL_law 376 = .ok (.iconst 2, 1) := by decide +kernel
set_option maxRecDepth 100000 in
theorem dlw_377 : decode cL_law 377 = .ok (.iadd, 1) := by decide +kernel
set_option maxRecDepth 100000 in
theorem dlw_378 : decode cL_law 378 = .ok (.iaload, 1) := by decide +kernel
set_option maxRecDepth 100000 in
theorem dlw_379 : decode cL_law 379 = .ok (.aload_n 3, 1) := by decide +kernel
set_option maxRecDepth 100000 in
theorem dlw_380 : decode cL_law 380 = .ok (.invokestatic 133, 3) := by decide +kernel
set_option maxRecDepth 100000 in
theorem dlw_383 : decode cL_law 383 = .ok (.istore 5, 2) := by decide +kernel
set_option maxRecDepth 100000 in
theorem dlw_385 : decode cL_law 385 = .ok (.aload_n 2, 1) := by decide +kernel
set_option maxRecDepth 100000 in
theorem dlw_386 : decode cL_law 386 = .ok (.aload_n 0, 1) := by decide +kernel
set_option maxRecDepth 100000 in
theorem dlw_387 : decode cL_law 387 = .ok (.iload 4, 2) := by decide +kernel
set_option maxRecDepth 100000 in
theorem dlw_389 : decode cL_law 389 = .ok (.iconst 1, 1) := by decide +kernel
set_option maxRecDepth 100000 in
theorem dlw_390 : decode cL_law 390 = .ok (.iadd, 1) := by decide +kernel
set_option maxRecDepth 100000 in
theorem dlw_391 : decode cL_law 391 = .ok (.iaload, 1) := by decide +kernel
set_option maxRecDepth 100000 in
theorem dlw_392 : decode cL_law 392 = .ok (.aload_n 0, 1) := by decide +kernel
set_option maxRecDepth 100000 in
theorem dlw_393 : decode cL_law 393 = .ok (.iload 4, 2) := by decide +kernel
set_option maxRecDepth 100000 in
theorem dlw_395 : decode cL_law 395 = .ok (.iconst 2, 1) := by decide +kernel
set_option maxRecDepth 100000 in
theorem dlw_396 : decode cL_law 396 = .ok (.iadd, 1) := by decide +kernel
set_option maxRecDepth 100000 in
theorem dlw_397 : decode cL_law 397 = .ok (.iaload, 1) := by decide +kernel
set_option maxRecDepth 100000 in
theorem dlw_398 : decode cL_law 398 = .ok (.invokevirtual 136, 3) := by decide +kernel
set_option maxRecDepth 100000 in
theorem dlw_401 : decode cL_law 401 = .ok (.istore 6, 2) := by decide +kernel
set_option maxRecDepth 100000 in
theorem dlw_403 : decode cL_law 403 = .ok (.goto 784, 3) := by decide +kernel
set_option maxRecDepth 100000 in
theorem dlw_406 : decode cL_law 406 = .ok (.aload_n 1, 1) := by decide +kernel
set_option maxRecDepth 100000 in
theorem dlw_407 : decode cL_law 407 = .ok (.aload_n 0, 1) := by decide +kernel
set_option maxRecDepth 100000 in
theorem dlw_408 : decode cL_law 408 = .ok (.iload 4, 2) := by decide +kernel
set_option maxRecDepth 100000 in
theorem dlw_410 : decode cL_law 410 = .ok (.iconst 1, 1) := by decide +kernel
set_option maxRecDepth 100000 in
theorem dlw_411 : decode cL_law 411 = .ok (.iadd, 1) := by decide +kernel
set_option maxRecDepth 100000 in
theorem dlw_412 : decode cL_law 412 = .ok (.iaload, 1) := by decide +kernel
set_option maxRecDepth 100000 in
theorem dlw_413 : decode cL_law 413 = .ok (.aload_n 3, 1) := by decide +kernel
set_option maxRecDepth 100000 in
theorem dlw_414 : decode cL_law 414 = .ok (.invokestatic 137, 3) := by decide +kernel
set_option maxRecDepth 100000 in
theorem dlw_417 : decode cL_law 417 = .ok (.istore 5, 2) := by decide +kernel
set_option maxRecDepth 100000 in
theorem dlw_419 : decode cL_law 419 = .ok (.aload_n 2, 1) := by decide +kernel
set_option maxRecDepth 100000 in
theorem dlw_420 : decode cL_law 420 = .ok (.aload_n 0, 1) := by decide +kernel
set_option maxRecDepth 100000 in
theorem dlw_421 : decode cL_law 421 = .ok (.iload 4, 2) := by decide +kernel
set_option maxRecDepth 100000 in
theorem dlw_423 : decode cL_law 423 = .ok (.iconst 1, 1) := by decide +kernel
set_option maxRecDepth 100000 in
theorem dlw_424 : decode cL_law 424 = .ok (.iadd, 1) := by decide +kernel
set_option maxRecDepth 100000 in
theorem dlw_425 : decode cL_law 425 = .ok (.iaload, 1) := by decide +kernel
set_option maxRecDepth 100000 in
theorem dlw_426 : decode cL_law 426 = .ok (.invokevirtual 139, 3) := by decide +kernel
set_option maxRecDepth 100000 in
theorem dlw_429 : decode cL_law 429 = .ok (.istore 6, 2) := by decide +kernel
set_option maxRecDepth 100000 in
theorem dlw_431 : decode cL_law 431 = .ok (.goto 756, 3) := by decide +kernel
set_option maxRecDepth 100000 in
theorem dlw_434 : decode cL_law 434 = .ok (.aload_n 1, 1) := by decide +kernel
set_option maxRecDepth 100000 in
theorem dlw_435 : decode cL_law 435 = .ok (.aload_n 0, 1) := by decide +kernel
set_option maxRecDepth 100000 in
theorem dlw_436 : decode cL_law 436 = .ok (.iload 4, 2) := by decide +kernel
set_option maxRecDepth 100000 in
theorem dlw_438 : decode cL_law 438 = .ok (.iconst 1, 1) := by decide +kernel
set_option maxRecDepth 100000 in
theorem dlw_439 : decode cL_law 439 = .ok (.iadd, 1) := by decide +kernel
set_option maxRecDepth 100000 in
theorem dlw_440 : decode cL_law 440 = .ok (.iaload, 1) := by decide +kernel
set_option maxRecDepth 100000 in
theorem dlw_441 : decode cL_law 441 = .ok (.aload_n 0, 1) := by decide +kernel
set_option maxRecDepth 100000 in
theorem dlw_442 : decode cL_law 442 = .ok (.iload 4, 2) := by decide +kernel
set_option maxRecDepth 100000 in
theorem dlw_444 : decode cL_law 444 = .ok (.iconst 2, 1) := by decide +kernel
set_option maxRecDepth 100000 in
theorem dlw_445 : decode cL_law 445 = .ok (.iadd, 1) := by decide +kernel
set_option maxRecDepth 100000 in
theorem dlw_446 : decode cL_law 446 = .ok (.iaload, 1) := by decide +kernel
set_option maxRecDepth 100000 in
theorem dlw_447 : decode cL_law 447 = .ok (.aload_n 3, 1) := by decide +kernel
set_option maxRecDepth 100000 in
theorem dlw_448 : decode cL_law 448 = .ok (.invokestatic 140, 3) := by decide +kernel
set_option maxRecDepth 100000 in
theorem dlw_451 : decode cL_law 451 = .ok (.istore 5, 2) := by decide +kernel
set_option maxRecDepth 100000 in
theorem dlw_453 : decode cL_law 453 = .ok (.aload_n 2, 1) := by decide +kernel
set_option maxRecDepth 100000 in
theorem dlw_454 : decode cL_law 454 = .ok (.aload_n 0, 1) := by decide +kernel
set_option maxRecDepth 100000 in
theorem dlw_455 : decode cL_law 455 = .ok (.iload 4, 2) := by decide +kernel
set_option maxRecDepth 100000 in
theorem dlw_457 : decode cL_law 457 = .ok (.iconst 1, 1) := by decide +kernel
set_option maxRecDepth 100000 in
theorem dlw_458 : decode cL_law 458 = .ok (.iadd, 1) := by decide +kernel
set_option maxRecDepth 100000 in
theorem dlw_459 : decode cL_law 459 = .ok (.iaload, 1) := by decide +kernel
set_option maxRecDepth 100000 in
theorem dlw_460 : decode cL_law 460 = .ok (.aload_n 0, 1) := by decide +kernel
set_option maxRecDepth 100000 in
theorem dlw_461 : decode cL_law 461 = .ok (.iload 4, 2) := by decide +kernel
set_option maxRecDepth 100000 in
theorem dlw_463 : decode cL_law 463 = .ok (.iconst 2, 1) := by decide +kernel
set_option maxRecDepth 100000 in
theorem dlw_464 : decode cL_law 464 = .ok (.iadd, 1) := by decide +kernel
set_option maxRecDepth 100000 in
theorem dlw_465 : decode cL_law 465 = .ok (.iaload, 1) := by decide +kernel
set_option maxRecDepth 100000 in
theorem dlw_466 : decode cL_law 466 = .ok (.invokevirtual 142, 3) := by decide +kernel
set_option maxRecDepth 100000 in
theorem dlw_469 : decode cL_law 469 = .ok (.istore 6, 2) := by decide +kernel
set_option maxRecDepth 100000 in
theorem dlw_471 : decode cL_law 471 = .ok (.goto 716, 3) := by decide +kernel
set_option maxRecDepth 100000 in
theorem dlw_474 : decode cL_law 474 = .ok (.aload_n 1, 1) := by decide +kernel
set_option maxRecDepth 100000 in
theorem dlw_475 : decode cL_law 475 = .ok (.aload_n 0, 1) := by decide +kernel
set_option maxRecDepth 100000 in
theorem dlw_476 : decode cL_law 476 = .ok (.iload 4, 2) := by decide +kernel
set_option maxRecDepth 100000 in
theorem dlw_478 : decode cL_law 478 = .ok (.iconst 1, 1) := by decide +kernel
set_option maxRecDepth 100000 in
theorem dlw_479 : decode cL_law 479 = .ok (.iadd, 1) := by decide +kernel
set_option maxRecDepth 100000 in
theorem dlw_480 : decode cL_law 480 = .ok (.iaload, 1) := by decide +kernel
set_option maxRecDepth 100000 in
theorem dlw_481 : decode cL_law 481 = .ok (.aload_n 3, 1) := by decide +kernel
set_option maxRecDepth 100000 in
theorem dlw_482 : decode cL_law 482 = .ok (.invokestatic 143, 3) := by decide +kernel
set_option maxRecDepth 100000 in
theorem dlw_485 : decode cL_law 485 = .ok (.istore 5, 2) := by decide +kernel
set_option maxRecDepth 100000 in
theorem dlw_487 : decode cL_law 487 = .ok (.aload_n 2, 1) := by decide +kernel
set_option maxRecDepth 100000 in
theorem dlw_488 : decode cL_law 488 = .ok (.aload_n 0, 1) := by decide +kernel
set_option maxRecDepth 100000 in
theorem dlw_489 : decode cL_law 489 = .ok (.iload 4, 2) := by decide +kernel
set_option maxRecDepth 100000 in
theorem dlw_491 : decode cL_law 491 = .ok (.iconst 1, 1) := by decide +kernel
set_option maxRecDepth 100000 in
theorem dlw_492 : decode cL_law 492 = .ok (.iadd, 1) := by decide +kernel
set_option maxRecDepth 100000 in
theorem dlw_493 : decode cL_law 493 = .ok (.iaload, 1) := by decide +kernel
set_option maxRecDepth 100000 in
theorem dlw_494 : decode cL_law 494 = .ok (.invokevirtual 145, 3) := by decide +kernel
set_option maxRecDepth 100000 in
theorem dlw_497 : decode cL_law 497 = .ok (.istore 6, 2) := by decide +kernel
set_option maxRecDepth 100000 in
theorem dlw_499 : decode cL_law 499 = .ok (.goto 688, 3) := by decide +kernel
set_option maxRecDepth 100000 in
theorem dlw_502 : decode cL_law 502 = .ok (.aload_n 1, 1) := by decide +kernel
set_option maxRecDepth 100000 in
theorem dlw_503 : decode cL_law 503 = .ok (.aload_n 0, 1) := by decide +kernel
set_option maxRecDepth 100000 in
theorem dlw_504 : decode cL_law 504 = .ok (.iload 4, 2) := by decide +kernel
set_option maxRecDepth 100000 in
theorem dlw_506 : decode cL_law 506 = .ok (.iconst 1, 1) := by decide +kernel
set_option maxRecDepth 100000 in
theorem dlw_507 : decode cL_law 507 = .ok (.iadd, 1) := by decide +kernel
set_option maxRecDepth 100000 in
theorem dlw_508 : decode cL_law 508 = .ok (.iaload, 1) := by decide +kernel
set_option maxRecDepth 100000 in
theorem dlw_509 : decode cL_law 509 = .ok (.aload_n 3, 1) := by decide +kernel
set_option maxRecDepth 100000 in
theorem dlw_510 : decode cL_law 510 = .ok (.invokestatic 146, 3) := by decide +kernel
set_option maxRecDepth 100000 in
theorem dlw_513 : decode cL_law 513 = .ok (.istore 5, 2) := by decide +kernel
set_option maxRecDepth 100000 in
theorem dlw_515 : decode cL_law 515 = .ok (.aload_n 2, 1) := by decide +kernel
set_option maxRecDepth 100000 in
theorem dlw_516 : decode cL_law 516 = .ok (.aload_n 0, 1) := by decide +kernel
set_option maxRecDepth 100000 in
theorem dlw_517 : decode cL_law 517 = .ok (.iload 4, 2) := by decide +kernel
set_option maxRecDepth 100000 in
theorem dlw_519 : decode cL_law 519 = .ok (.iconst 1, 1) := by decide +kernel
set_option maxRecDepth 100000 in
theorem dlw_520 : decode cL_law 520 = .ok (.iadd, 1) := by decide +kernel
set_option maxRecDepth 100000 in
theorem dlw_521 : decode cL_law 521 = .ok (.iaload, 1) := by decide +kernel
set_option maxRecDepth 100000 in
theorem dlw_522 : decode cL_law 522 = .ok (.invokevirtual 148, 3) := by decide +kernel
set_option maxRecDepth 100000 in
theorem dlw_525 : decode cL_law 525 = .ok (.istore 6, 2) := by decide +kernel
set_option maxRecDepth 100000 in
theorem dlw_527 : decode cL_law 527 = .ok (.goto 660, 3) := by decide +kernel
set_option maxRecDepth 100000 in
theorem dlw_530 : decode cL_law 530 = .ok (.aload_n 1, 1) := by decide +kernel
set_option maxRecDepth 100000 in
theorem dlw_531 : decode cL_law 531 = .ok (.aload_n 0, 1) := by decide +kernel
set_option maxRecDepth 100000 in
theorem dlw_532 : decode cL_law 532 = .ok (.iload 4, 2) := by decide +kernel
set_option maxRecDepth 100000 in
theorem dlw_534 : decode cL_law 534 = .ok (.iconst 1, 1) := by decide +kernel
set_option maxRecDepth 100000 in
theorem dlw_535 : decode cL_law 535 = .ok (.iadd, 1) := by decide +kernel
set_option maxRecDepth 100000 in
theorem dlw_536 : decode cL_law 536 = .ok (.iaload, 1) := by decide +kernel
set_option maxRecDepth 100000 in
theorem dlw_537 : decode cL_law 537 = .ok (.aload_n 3, 1) := by decide +kernel
set_option maxRecDepth 100000 in
theorem dlw_538 : decode cL_law 538 = .ok (.invokestatic 149, 3) := by decide +kernel
set_option maxRecDepth 100000 in
theorem dlw_541 : decode cL_law 541 = .ok (.istore 5, 2) := by decide +kernel
set_option maxRecDepth 100000 in
theorem dlw_543 : decode cL_law 543 = .ok (.aload_n 2, 1) := by decide +kernel
set_option maxRecDepth 100000 in
theorem dlw_544 : decode cL_law 544 = .ok (.aload_n 0, 1) := by decide +kernel
set_option maxRecDepth 100000 in
theorem dlw_545 : decode cL_law 545 = .ok (.iload 4, 2) := by decide +kernel
set_option maxRecDepth 100000 in
theorem dlw_547 : decode cL_law 547 = .ok (.iconst 1, 1) := by decide +kernel
set_option maxRecDepth 100000 in
theorem dlw_548 : decode cL_law 548 = .ok (.iadd, 1) := by decide +kernel
set_option maxRecDepth 100000 in
theorem dlw_549 : decode cL_law 549 = .ok (.iaload, 1) := by decide +kernel
set_option maxRecDepth 100000 in
theorem dlw_550 : decode cL_law 550 = .ok (.invokevirtual 151, 3) := by decide +kernel
set_option maxRecDepth 100000 in
theorem dlw_553 : decode cL_law 553 = .ok (.istore 6, 2) := by decide +kernel
set_option maxRecDepth 100000 in
theorem dlw_555 : decode cL_law 555 = .ok (.goto 632, 3) := by decide +kernel
set_option maxRecDepth 100000 in
theorem dlw_558 : decode cL_law 558 = .ok (.aload_n 1, 1) := by decide +kernel
set_option maxRecDepth 100000 in
theorem dlw_559 : decode cL_law 559 = .ok (.aload_n 0, 1) := by decide +kernel
set_option maxRecDepth 100000 in
theorem dlw_560 : decode cL_law 560 = .ok (.iload 4, 2) := by decide +kernel
set_option maxRecDepth 100000 in
theorem dlw_562 : decode cL_law 562 = .ok (.iconst 1, 1) := by decide +kernel
set_option maxRecDepth 100000 in
theorem dlw_563 : decode cL_law 563 = .ok (.iadd, 1) := by decide +kernel
set_option maxRecDepth 100000 in
theorem dlw_564 : decode cL_law 564 = .ok (.iaload, 1) := by decide +kernel
set_option maxRecDepth 100000 in
theorem dlw_565 : decode cL_law 565 = .ok (.aload_n 0, 1) := by decide +kernel
set_option maxRecDepth 100000 in
theorem dlw_566 : decode cL_law 566 = .ok (.iload 4, 2) := by decide +kernel
set_option maxRecDepth 100000 in
theorem dlw_568 : decode cL_law 568 = .ok (.iconst 2, 1) := by decide +kernel
set_option maxRecDepth 100000 in
theorem dlw_569 : decode cL_law 569 = .ok (.iadd, 1) := by decide +kernel
set_option maxRecDepth 100000 in
theorem dlw_570 : decode cL_law 570 = .ok (.iaload, 1) := by decide +kernel
set_option maxRecDepth 100000 in
theorem dlw_571 : decode cL_law 571 = .ok (.aload_n 3, 1) := by decide +kernel
set_option maxRecDepth 100000 in
theorem dlw_572 : decode cL_law 572 = .ok (.invokestatic 152, 3) := by decide +kernel
set_option maxRecDepth 100000 in
theorem dlw_575 : decode cL_law 575 = .ok (.istore 5, 2) := by decide +kernel
set_option maxRecDepth 100000 in
theorem dlw_577 : decode cL_law 577 = .ok (.aload_n 2, 1) := by decide +kernel
set_option maxRecDepth 100000 in
theorem dlw_578 : decode cL_law 578 = .ok (.aload_n 0, 1) := by decide +kernel
set_option maxRecDepth 100000 in
theorem dlw_579 : decode cL_law 579 = .ok (.iload 4, 2) := by decide +kernel
set_option maxRecDepth 100000 in
theorem dlw_581 : decode cL_law 581 = .ok (.iconst 1, 1) := by decide +kernel
set_option maxRecDepth 100000 in
theorem dlw_582 : decode cL_law 582 = .ok (.iadd, 1) := by decide +kernel
end
section
set_option maxRecDepth 100000 in
theorem dlw_583 : decode cL_law 583 = .ok (.iaload, 1) := by decide +kernel
set_option maxRecDepth 100000 in
theorem dlw_584 : decode cL_law 584 = .ok (.aload_n 0, 1) := by decide +kernel
set_option maxRecDepth 100000 in
theorem dlw_585 : decode cL_law 585 = .ok (.iload 4, 2) := by decide +kernel
set_option maxRecDepth 100000 in
theorem dlw_587 : decode cL_law 587 = .ok (.iconst 2, 1) := by decide +kernel
set_option maxRecDepth 100000 in
theorem dlw_588 : decode cL_law 588 = .ok (.iadd, 1) := by decide +kernel
set_option maxRecDepth 100000 in
theorem dlw_589 : decode cL_law 589 = .ok (.iaload, 1) := by decide +kernel
set_option maxRecDepth 100000 in
theorem dlw_590 : decode cL_law 590 = .ok (.invokevirtual 154, 3) := by decide +kernel
set_option maxRecDepth 100000 in
theorem dlw_593 : decode cL_law 593 = .ok (.istore 6, 2) := by decide +kernel
set_option maxRecDepth 100000 in
theorem dlw_595 : decode cL_law 595 = .ok (.goto 592, 3) := by decide +kernel
set_option maxRecDepth 100000 in
theorem dlw_598 : decode cL_law 598 = .ok (.aload_n 1, 1) := by decide +kernel
set_option maxRecDepth 100000 in
theorem dlw_599 : decode cL_law 599 = .ok (.aload_n 0, 1) := by decide +kernel
set_option maxRecDepth 100000 in
theorem dlw_600 : decode cL_law 600 = .ok (.iload 4, 2) := by decide +kernel
set_option maxRecDepth 100000 in
theorem dlw_602 : decode cL_law 602 = .ok (.iconst 1, 1) := by decide +kernel
set_option maxRecDepth 100000 in
theorem dlw_603 : decode cL_law 603 = .ok (.iadd, 1) := by decide +kernel
set_option maxRecDepth 100000 in
theorem dlw_604 : decode cL_law 604 = .ok (.iaload, 1) := by decide +kernel
set_option maxRecDepth 100000 in
theorem dlw_605 : decode cL_law 605 = .ok (.aload_n 0, 1) := by decide +kernel
set_option maxRecDepth 100000 in
theorem dlw_606 : decode cL_law 606 = .ok (.iload 4, 2) := by decide +kernel
set_option maxRecDepth 100000 in
theorem dlw_608 : decode cL_law 608 = .ok (.iconst 2, 1) := by decide +kernel
set_option maxRecDepth 100000 in
theorem dlw_609 : decode cL_law 609 = .ok (.iadd, 1) := by decide +kernel
set_option maxRecDepth 100000 in
theorem dlw_610 : decode cL_law 610 = .ok (.iaload, 1) := by decide +kernel
set_option maxRecDepth 100000 in
theorem dlw_611 : decode cL_law 611 = .ok (.aload_n 3, 1) := by decide +kernel
set_option maxRecDepth 100000 in
theorem dlw_612 : decode cL_law 612 = .ok (.invokestatic 155, 3) := by decide +kernel
set_option maxRecDepth 100000 in
theorem dlw_615 : decode cL_law 615 = .ok (.istore 5, 2) := by decide +kernel
set_option maxRecDepth 100000 in
theorem dlw_617 : decode cL_law 617 = .ok (.aload_n 2, 1) := by decide +kernel
set_option maxRecDepth 100000 in
theorem dlw_618 : decode cL_law 618 = .ok (.aload_n 0, 1) := by decide +kernel
set_option maxRecDepth 100000 in
theorem dlw_619 : decode cL_law 619 = .ok (.iload 4, 2) := by decide +kernel
set_option maxRecDepth 100000 in
theorem dlw_621 : decode cL_law 621 = .ok (.iconst 1, 1) := by decide +kernel
set_option maxRecDepth 100000 in
theorem dlw_622 : decode cL_law 622 = .ok (.iadd, 1) := by decide +kernel
set_option maxRecDepth 100000 in
theorem dlw_623 : decode cL_law 623 = .ok (.iaload, 1) := by decide +kernel
set_option maxRecDepth 100000 in
theorem dlw_624 : decode cL_law 624 = .ok (.aload_n 0, 1) := by decide +kernel
set_option maxRecDepth 100000 in
theorem dlw_625 : decode cL_law 625 = .ok (.iload 4, 2) := by decide +kernel
set_option maxRecDepth 100000 in
theorem dlw_627 : decode cL_law 627 = .ok (.iconst 2, 1) := by decide +kernel
set_option maxRecDepth 100000 in
theorem dlw_628 : decode cL_law 628 = .ok (.iadd, 1) := by decide +kernel
set_option maxRecDepth 100000 in
theorem dlw_629 : decode cL_law 629 = .ok (.iaload, 1) := by decide +kernel
set_option maxRecDepth 100000 in
theorem dlw_630 : decode cL_law 630 = .ok (.invokevirtual 157, 3) := by decide +kernel
set_option maxRecDepth 100000 in
theorem dlw_633 : decode cL_law 633 = .ok (.istore 6, 2) := by decide +kernel
set_option maxRecDepth 100000 in
theorem dlw_635 : decode cL_law 635 = .ok (.goto 552, 3) := by decide +kernel
set_option maxRecDepth 100000 in
theorem dlw_638 : decode cL_law 638 = .ok (.aload_n 1, 1) := by decide +kernel
set_option maxRecDepth 100000 in
theorem dlw_639 : decode cL_law 639 = .ok (.aload_n 0, 1) := by decide +kernel
set_option maxRecDepth 100000 in
theorem dlw_640 : decode cL_law 640 = .ok (.iload 4, 2) := by decide +kernel
set_option maxRecDepth 100000 in
theorem dlw_642 : decode cL_law 642 = .ok (.iconst 1, 1) := by decide +kernel
set_option maxRecDepth 100000 in
theorem dlw_643 : decode cL_law 643 = .ok (.iadd, 1) := by decide +kernel
set_option maxRecDepth 100000 in
theorem dlw_644 : decode cL_law 644 = .ok (.iaload, 1) := by decide +kernel
set_option maxRecDepth 100000 in
theorem dlw_645 : decode cL_law 645 = .ok (.aload_n 0, 1) := by decide +kernel
set_option maxRecDepth 100000 in
theorem dlw_646 : decode cL_law 646 = .ok (.iload 4, 2) := by decide +kernel
set_option maxRecDepth 100000 in
theorem dlw_648 : decode cL_law 648 = .ok (.iconst 2, 1) := by decide +kernel
set_option maxRecDepth 100000 in
theorem dlw_649 : decode cL_law 649 = .ok (.iadd, 1) := by decide +kernel
set_option maxRecDepth 100000 in
theorem dlw_650 : decode cL_law 650 = .ok (.iaload, 1) := by decide +kernel
set_option maxRecDepth 100000 in
theorem dlw_651 : decode cL_law 651 = .ok (.aload_n 3, 1) := by decide +kernel
set_option maxRecDepth 100000 in
theorem dlw_652 : decode cL_law 652 = .ok (.invokestatic 158, 3) := by decide +kernel
set_option maxRecDepth 100000 in
theorem dlw_655 : decode cL_law 655 = .ok (.istore 5, 2) := by decide +kernel
set_option maxRecDepth 100000 in
theorem dlw_657 : decode cL_law 657 = .ok (.aload_n 2, 1) := by decide +kernel
set_option maxRecDepth 100000 in
theorem dlw_658 : decode cL_law 658 = .ok (.aload_n 0, 1) := by decide +kernel
set_option maxRecDepth 100000 in
theorem dlw_659 : decode cL_law 659 = .ok (.iload 4, 2) := by decide +kernel
set_option maxRecDepth 100000 in
theorem dlw_661 : decode cL_law 661 = .ok (.iconst 1, 1) := by decide +kernel
set_option maxRecDepth 100000 in
theorem dlw_662 : decode cL_law 662 = .ok (.iadd, 1) := by decide +kernel
set_option maxRecDepth 100000 in
theorem dlw_663 : decode cL_law 663 = .ok (.iaload, 1) := by decide +kernel
set_option maxRecDepth 100000 in
theorem dlw_664 : decode cL_law 664 = .ok (.aload_n 0, 1) := by decide +kernel
set_option maxRecDepth 100000 in
theorem dlw_665 : decode cL_law 665 = .ok (.iload 4, 2) := by decide +kernel
set_option maxRecDepth 100000 in
theorem dlw_667 : decode cL_law 667 = .ok (.iconst 2, 1) := by decide +kernel
set_option maxRecDepth 100000 in
theorem dlw_668 : decode cL_law 668 = .ok (.iadd, 1) := by decide +kernel
set_option maxRecDepth 100000 in
theorem dlw_669 : decode cL_law 669 = .ok (.iaload, 1) := by decide +kernel
set_option maxRecDepth 100000 in
theorem dlw_670 : decode cL_law 670 = .ok (.invokevirtual 160, 3) := by decide +kernel
set_option maxRecDepth 100000 in
theorem dlw_673 : decode cL_law 673 = .ok (.istore 6, 2) := by decide +kernel
set_option maxRecDepth 100000 in
theorem dlw_675 : decode cL_law 675 = .ok (.goto 512, 3) := by decide +kernel
set_option maxRecDepth 100000 in
theorem dlw_678 : decode cL_law 678 = .ok (.aload_n 1, 1) := by decide +kernel
set_option maxRecDepth 100000 in
theorem dlw_679 : decode cL_law 679 = .ok (.aload_n 0, 1) := by decide +kernel
set_option maxRecDepth 100000 in
theorem dlw_680 : decode cL_law 680 = .ok (.iload 4, 2) := by decide +kernel
set_option maxRecDepth 100000 in
theorem dlw_682 : decode cL_law 682 = .ok (.iconst 1, 1) := by decide +kernel
set_option maxRecDepth 100000 in
theorem dlw_683 : decode cL_law 683 = .ok (.iadd, 1) := by decide +kernel
set_option maxRecDepth 100000 in
theorem dlw_684 : decode cL_law 684 = .ok (.iaload, 1) := by decide +kernel
set_option maxRecDepth 100000 in
theorem dlw_685 : decode cL_law 685 = .ok (.aload_n 0, 1) := by decide +kernel
set_option maxRecDepth 100000 in
theorem dlw_686 : decode cL_law 686 = .ok (.iload 4, 2) := by decide +kernel
set_option maxRecDepth 100000 in
theorem dlw_688 : decode cL_law 688 = .ok (.iconst 2, 1) := by decide +kernel
set_option maxRecDepth 100000 in
theorem dlw_689 : decode cL_law 689 = .ok (.iadd, 1) := by decide +kernel
set_option maxRecDepth 100000 in
theorem dlw_690 : decode cL_law 690 = .ok (.iaload, 1) := by decide +kernel
set_option maxRecDepth 100000 in
theorem dlw_691 : decode cL_law 691 = .ok (.aload_n 3, 1) := by decide +kernel
set_option maxRecDepth 100000 in
theorem dlw_692 : decode cL_law 692 = .ok (.invokestatic 161, 3) := by decide +kernel
set_option maxRecDepth 100000 in
theorem dlw_695 : decode cL_law 695 = .ok (.istore 5, 2) := by decide +kernel
set_option maxRecDepth 100000 in
theorem dlw_697 : decode cL_law 697 = .ok (.aload_n 2, 1) := by decide +kernel
set_option maxRecDepth 100000 in
theorem dlw_698 : decode cL_law 698 = .ok (.aload_n 0, 1) := by decide +kernel
set_option maxRecDepth 100000 in
theorem dlw_699 : decode cL_law 699 = .ok (.iload 4, 2) := by decide +kernel
set_option maxRecDepth 100000 in
theorem dlw_701 : decode cL_law 701 = .ok (.iconst 1, 1) := by decide +kernel
set_option maxRecDepth 100000 in
theorem dlw_702 : decode cL_law 702 = .ok (.iadd, 1) := by decide +kernel
set_option maxRecDepth 100000 in
theorem dlw_703 : decode cL_law 703 = .ok (.iaload, 1) := by decide +kernel
set_option maxRecDepth 100000 in
theorem dlw_704 : decode cL_law 704 = .ok (.aload_n 0, 1) := by decide +kernel
set_option maxRecDepth 100000 in
theorem dlw_705 : decode cL_law 705 = .ok (.iload 4, 2) := by decide +kernel
set_option maxRecDepth 100000 in
theorem dlw_707 : decode cL_law 707 = .ok (.iconst 2, 1) := by decide +kernel
set_option maxRecDepth 100000 in
theorem dlw_708 : decode cL_law 708 = .ok (.iadd, 1) := by decide +kernel
set_option maxRecDepth 100000 in
theorem dlw_709 : decode cL_law 709 = .ok (.iaload, 1) := by decide +kernel
set_option maxRecDepth 100000 in
theorem dlw_710 : decode cL_law 710 = .ok (.invokevirtual 163, 3) := by decide +kernel
set_option maxRecDepth 100000 in
theorem dlw_713 : decode cL_law 713 = .ok (.istore 6, 2) := by decide +kernel
set_option maxRecDepth 100000 in
theorem dlw_715 : decode cL_law 715 = .ok (.goto 472, 3) := by decide +kernel
set_option maxRecDepth 100000 in
theorem dlw_718 : decode cL_law 718 = .ok (.aload_n 1, 1) := by decide +kernel
set_option maxRecDepth 100000 in
theorem dlw_719 : decode cL_law 719 = .ok (.aload_n 0, 1) := by decide +kernel
set_option maxRecDepth 100000 in
theorem dlw_720 : decode cL_law 720 = .ok (.iload 4, 2) := by decide +kernel
set_option maxRecDepth 100000 in
theorem dlw_722 : decode cL_law 722 = .ok (.iconst 1, 1) := by decide +kernel
set_option maxRecDepth 100000 in
theorem dlw_723 : decode cL_law 723 = .ok (.iadd, 1) := by decide +kernel
set_option maxRecDepth 100000 in
theorem dlw_724 : decode cL_law 724 = .ok (.iaload, 1) := by decide +kernel
set_option maxRecDepth 100000 in
theorem dlw_725 : decode cL_law 725 = .ok (.aload_n 0, 1) := by decide +kernel
set_option maxRecDepth 100000 in
theorem dlw_726 : decode cL_law 726 = .ok (.iload 4, 2) := by decide +kernel
set_option maxRecDepth 100000 in
theorem dlw_728 : decode cL_law 728 = .ok (.iconst 2, 1) := by decide +kernel
set_option maxRecDepth 100000 in
theorem dlw_729 : decode cL_law 729 = .ok (.iadd, 1) := by decide +kernel
set_option maxRecDepth 100000 in
theorem dlw_730 : decode cL_law 730 = .ok (.iaload, 1) := by decide +kernel
set_option maxRecDepth 100000 in
theorem dlw_731 : decode cL_law 731 = .ok (.aload_n 3, 1) := by decide +kernel
set_option maxRecDepth 100000 in
theorem dlw_732 : decode cL_law 732 = .ok (.invokestatic 164, 3) := by decide +kernel
set_option maxRecDepth 100000 in
theorem dlw_735 : decode cL_law 735 = .ok (.istore 5, 2) := by decide +kernel
set_option maxRecDepth 100000 in
theorem dlw_737 : decode cL_law 737 = .ok (.aload_n 2, 1) := by decide +kernel
set_option maxRecDepth 100000 in
theorem dlw_738 : decode cL_law 738 = .ok (.aload_n 0, 1) := by decide +kernel
set_option maxRecDepth 100000 in
theorem dlw_739 : decode cL_law 739 = .ok (.iload 4, 2) := by decide +kernel
set_option maxRecDepth 100000 in
theorem dlw_741 : decode cL_law 741 = .ok (.iconst 1, 1) := by decide +kernel
set_option maxRecDepth 100000 in
theorem dlw_742 : decode cL_law 742 = .ok (.iadd, 1) := by decide +kernel
set_option maxRecDepth 100000 in
theorem dlw_743 : decode cL_law 743 = .ok (.iaload, 1) := by decide +kernel
set_option maxRecDepth 100000 in
theorem dlw_744 : decode cL_law 744 = .ok (.aload_n 0, 1) := by decide +kernel
set_option maxRecDepth 100000 in
theorem dlw_745 : decode cL_law 745 = .ok (.iload 4, 2) := by decide +kernel
set_option maxRecDepth 100000 in
theorem dlw_747 : decode cL_law 747 = .ok (.iconst 2, 1) := by decide +kernel
set_option maxRecDepth 100000 in
theorem dlw_748 : decode cL_law 748 = .ok (.iadd, 1) := by decide +kernel
set_option maxRecDepth 100000 in
theorem dlw_749 : decode cL_law 749 = .ok (.iaload, 1) := by decide +kernel
set_option maxRecDepth 100000 in
theorem dlw_750 : decode cL_law 750 = .ok (.invokevirtual 166, 3) := by decide +kernel
set_option maxRecDepth 100000 in
theorem dlw_753 : decode cL_law 753 = .ok (.istore 6, 2) := by decide +kernel
set_option maxRecDepth 100000 in
theorem dlw_755 : decode cL_law 755 = .ok (.goto 432, 3) := by decide +kernel
set_option maxRecDepth 100000 in
theorem dlw_758 : decode cL_law 758 = .ok (.aload_n 1, 1) := by decide +kernel
set_option maxRecDepth 100000 in
theorem dlw_759 : decode cL_law 759 = .ok (.aload_n 0, 1) := by decide +kernel
set_option maxRecDepth 100000 in
theorem dlw_760 : decode cL_law 760 = .ok (.iload 4, 2) := by decide +kernel
set_option maxRecDepth 100000 in
theorem dlw_762 : decode cL_law 762 = .ok (.iconst 1, 1) := by decide +kernel
set_option maxRecDepth 100000 in
theorem dlw_763 : decode cL_law 763 = .ok (.iadd, 1) := by decide +kernel
set_option maxRecDepth 100000 in
theorem dlw_764 : decode cL_law 764 = .ok (.iaload, 1) := by decide +kernel
set_option maxRecDepth 100000 in
theorem dlw_765 : decode cL_law 765 = .ok (.aload_n 0, 1) := by decide +kernel
set_option maxRecDepth 100000 in
theorem dlw_766 : decode cL_law 766 = .ok (.iload 4, 2) := by decide +kernel
set_option maxRecDepth 100000 in
theorem dlw_768 : decode cL_law 768 = .ok (.iconst 2, 1) := by decide +kernel
set_option maxRecDepth 100000 in
theorem dlw_769 : decode cL_law 769 = .ok (.iadd, 1) := by decide +kernel
set_option maxRecDepth 100000 in
theorem dlw_770 : decode cL_law 770 = .ok (.iaload, 1) := by decide +kernel
set_option maxRecDepth 100000 in
theorem dlw_771 : decode cL_law 771 = .ok (.aload_n 3, 1) := by decide +kernel
set_option maxRecDepth 100000 in
theorem dlw_772 : decode cL_law 772 = .ok (.invokestatic 167, 3) := by decide +kernel
set_option maxRecDepth 100000 in
theorem dlw_775 : decode cL_law 775 = .ok (.istore 5, 2) := by decide +kernel
set_option maxRecDepth 100000 in
theorem dlw_777 : decode cL_law 777 = .ok (.aload_n 2, 1) := by decide +kernel
set_option maxRecDepth 100000 in
theorem dlw_778 : decode cL_law 778 = .ok (.aload_n 0, 1) := by decide +kernel
set_option maxRecDepth 100000 in
theorem dlw_779 : decode cL_law 779 = .ok (.iload 4, 2) := by decide +kernel
set_option maxRecDepth 100000 in
theorem dlw_781 : decode cL_law 781 = .ok (.iconst 1, 1) := by decide +kernel
set_option maxRecDepth 100000 in
theorem dlw_782 : decode cL_law 782 = .ok (.iadd, 1) := by decide +kernel
set_option maxRecDepth 100000 in
theorem dlw_783 : decode cL_law 783 = .ok (.iaload, 1) := by decide +kernel
set_option maxRecDepth 100000 in
theorem dlw_784 : decode cL_law 784 = .ok (.aload_n 0, 1) := by decide +kernel
set_option maxRecDepth 100000 in
theorem dlw_785 : decode cL_law 785 = .ok (.iload 4, 2) := by decide +kernel
set_option maxRecDepth 100000 in
theorem dlw_787 : decode cL_law 787 = .ok (.iconst 2, 1) := by decide +kernel
set_option maxRecDepth 100000 in
theorem dlw_788 : decode cL_law 788 = .ok (.iadd, 1) := by decide +kernel
set_option maxRecDepth 100000 in
theorem dlw_789 : decode cL_law 789 = .ok (.iaload, 1) := by decide +kernel
set_option maxRecDepth 100000 in
theorem dlw_790 : decode cL_law 790 = .ok (.invokevirtual 169, 3) := by decide +kernel
set_option maxRecDepth 100000 in
theorem dlw_793 : decode cL_law 793 = .ok (.istore 6, 2) := by decide +kernel
set_option maxRecDepth 100000 in
theorem dlw_795 : decode cL_law 795 = .ok (.goto 392, 3) := by decide +kernel
set_option maxRecDepth 100000 in
theorem dlw_798 : decode cL_law 798 = .ok (.aload_n 1, 1) := by decide +kernel
end
