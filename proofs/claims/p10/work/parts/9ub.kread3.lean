/-! calls that read the run's state: cell, seen -/
section RST
variable {G : mG} {d D : Nat} {x z w a : gd} {F : Int32 → gd → Prop} {C : gCo} {M : gMa} {wr n : Nat} {lm : Nat → Nat} {q : kP}
theorem MM1_eq (hN : NC C) (e : eqS (Sl a) a z) (h : MM1 a C M) : MM1 z C M := by
  obtain ⟨h1, h2, h3⟩ := h
  refine ⟨fun c hc => by rw [cA e (c := 70) (n := 24) (by decide) hc]; exact h1 c hc, fun l hl => by rw [cA e (c := 71) (n := 6) (by decide) hl, cA e (c := 72) (n := 6) (by decide) hl]; exact h2 l hl, fun t ht => ?_⟩
  obtain ⟨q0, q0', q1, q2, q3, q3', q4, q5, ⟨q6, q6'⟩, q7, q7'⟩ := h3 t ht
  have f := fun c (hc : (c, 6) ∈ coreL) => cA e hc ht
  refine ⟨by rw [f 73 (by decide)]; exact q0, q0', by rw [f 75 (by decide)]; exact q1, by rw [f 74 (by decide)]; exact q2, by rw [f 77 (by decide)]; exact q3, q3', by rw [f 78 (by decide)]; exact q4, by rw [f 79 (by decide)]; exact q5, ⟨by rw [f 80 (by decide)]; exact q6, fun j q hj => ?_⟩, fun hu p hp => ?_, fun k hk hn => ?_⟩
  · have hl := gt_lt hj
    have s : ∀ c, (c = 81 ∨ c = 82) → z.1 c (10 * t + j) = a.1 c (10 * t + j) := fun c hc => e c _ (Or.inr ⟨hc, t, j, ht, by omega, rfl⟩)
    rw [s 81 (Or.inl rfl), s 82 (Or.inr rfl)]; exact q6' j q hj
  · have s8 := stN_8 hN _ (slN_mem hp)
    rw [cA e (c := 76) (n := 48) (by decide) (by omega)]; exact q7 hu p hp
  · rw [cA e (c := 76) (n := 48) (by decide) (by omega)]; exact q7' k hk hn
theorem HistC_MM (hN : NC C) (h : HistC C wr w) (e94 : (w.1 0 94).toInt = (n : Nat)) : MM1 w C (runM C wr (c96 w) n) ∧ ∀ t, t < 6 → (w.1 80 t).toInt ≤ 8 := by
  obtain ⟨s, n', q1, q2, q3, q4, -⟩ := h
  have en : n' = n := by omega
  rw [en] at q4
  have am := q2 n (by omega)
  have el := eqS_w (Sl_Sm _) q4
  exact ⟨MM1_eq hN el am.2.2.1, fun t ht => by rw [cA el (c := 80) (n := 6) (by decide) ht]; exact (am.1.1.2 t ht).2.2.2.1⟩
theorem sp_see3 (t c : Int32) (ht : vp_in t 6) (hc : vp_in c 24) (q8 : (x.1 80 t.toNatClampNeg).toInt ≤ 8) {l : List (Nat × Int32)} (hl : mLt x t.toNatClampNeg l) (h : F (seL l c.toNatClampNeg (x.1 70 c.toNatClampNeg)) x) : MT G d z_see 0 [(0, vr 0), (1, vi t), (2, vi c)] [] x (ri F) := by
  have k1 : (1 : Int32).toInt = 1 := rfl
  obtain ⟨l1, l2⟩ := hl
  have cb := vp_in_iff.mp hc
  have cc := cl_i cb.1
  obtain ⟨R, eR⟩ : ∃ R, R = seL l c.toNatClampNeg (x.1 70 c.toNatClampNeg) := ⟨_, rfl⟩
  rw [← eR] at h
  have loop : ∀ (n : Nat) (v i : Int32), 0 ≤ i.toInt → (x.1 80 t.toNatClampNeg).toInt - i.toInt ≤ n → seL (l.drop i.toInt.toNat) c.toNatClampNeg v = R → MT G d z_see 10 [(0, vr 0), (1, vi t), (2, vi c), (3, vi v), (4, vi i)] [] x (ri F) := by
    have fin : ∀ (v i : Int32), (x.1 80 t.toNatClampNeg).toInt ≤ i.toInt → seL (l.drop i.toInt.toNat) c.toNatClampNeg v = R → ri F (some (vi v)) x := fun v i hi hs => by
      rw [List.drop_eq_nil_of_le (by omega)] at hs
      have hs : v = R := hs
      rw [hs]
      exact ri_i h
    intro n
    induction n with
    | zero =>
      intro v i i0 hi hs
      exact sg_see_10 _ _ _ _ ⟨ht, fun _ => fin v i (by omega) hs, fun c => absurd (t_le.mpr (by omega)) c⟩
    | succ n ih =>
      intro v i i0 hi hs
      refine sg_see_10 _ _ _ _ ⟨ht, fun c9 => fin v i (by rw [t_le] at c9; exact c9) hs, fun c9 => ?_⟩
      rw [t_le] at c9
      have a1 := (t10 ht (i := i) i0 (by omega)).1
      have i1 : (i + 1).toInt = i.toInt + 1 := by rw [t_add (by omega) (by omega), k1]
      have hi' : i.toInt.toNat < l.length := by omega
      obtain ⟨b1, b2, b3⟩ := l2 i.toInt.toNat _ (List.getElem?_eq_getElem hi')
      rw [List.drop_eq_getElem_cons hi', seL] at hs
      have ea : (10 * t + i).toNatClampNeg = 10 * t.toNatClampNeg + i.toInt.toNat := by rw [(t10 ht i0 (by omega)).2, t_cl i]
      have en : (i + 1).toInt.toNat = i.toInt.toNat + 1 := by omega
      have ec : Int32.ofNat l[i.toInt.toNat].1 = c ↔ l[i.toInt.toNat].1 = c.toNatClampNeg := by
        have e9 : (Int32.ofNat l[i.toInt.toNat].1).toInt = (l[i.toInt.toNat].1 : Nat) := Int32.toInt_ofNat_of_lt (by omega)
        rw [t_eq, e9]
        omega
      refine ⟨a1, fun c9 => ih _ _ (by omega) (by omega) ?_, fun c9 => ⟨a1, ih _ _ (by omega) (by omega) ?_⟩⟩
      · rw [ea, b1] at c9
        rw [if_neg (fun z => c9 (ec.mpr z))] at hs
        rw [en]; exact hs
      · rw [ea, b1] at c9
        rw [if_pos (ec.mp c9)] at hs
        rw [en, ea, b2]; exact hs
  exact sg_see_0 _ _ ⟨hc, loop _ _ 0 (by decide) (Int.self_le_toNat _) eR.symm⟩
abbrev e2Ce (x : gd) (l : Int32) : Prop := ¬ x.1 0 10 = 0 ∧ ¬ (0 ≤ l.toInt ∧ l.toInt < (x.1 60 6).toInt)
def sCe (C : gCo) (wr n : Nat) (c : Nat → Nat) (x : gd) (l r : Int32) (y : gd) : Prop := r = (runM C wr c n).1 l.toInt.toNat ∧ KRd x y
abbrev f2Ce (w : gd) (l : Int32) : Prop := ¬ w.1 0 67 = 0 ∧ ¬ (0 ≤ l.toInt ∧ l.toInt < (w.1 0 23).toInt)
def tCe (C : gCo) (wr n : Nat) (w : gd) (l r : Int32) (w' : gd) : Prop := r = (runM C wr (c96 w) n).1 l.toInt.toNat ∧ rdM C wr w w'
abbrev e2Se (x : gd) (l1 l2 : Int32) : Prop := ¬ x.1 0 10 = 0 ∧ ¬ ((0 ≤ l1.toInt ∧ l1.toInt < (x.1 60 10).toInt) ∧ 0 ≤ l2.toInt ∧ l2.toInt < (x.1 60 6).toInt)
def sSe (C : gCo) (wr n : Nat) (c : Nat → Nat) (x : gd) (l1 l2 r : Int32) (y : gd) : Prop := r = seM (runM C wr c n) l1.toInt.toNat l2.toInt.toNat ∧ KRd x y
abbrev f2Se (w : gd) (l1 l2 : Int32) : Prop := ¬ w.1 0 67 = 0 ∧ ¬ ((0 ≤ l1.toInt ∧ l1.toInt < (w.1 0 25).toInt) ∧ 0 ≤ l2.toInt ∧ l2.toInt < (w.1 0 23).toInt)
def tSe (C : gCo) (wr n : Nat) (w : gd) (l1 l2 r : Int32) (w' : gd) : Prop := r = seM (runM C wr (c96 w) n) l1.toInt.toNat l2.toInt.toNat ∧ rdM C wr w w'
theorem in_ge {v n : Int32} (h : ¬ ((0 : Int32) ≤ v ∧ v ≤ n - 1)) (n0 : 0 ≤ n.toInt) : ¬ (0 ≤ v.toInt ∧ v.toInt < n.toInt) := fun z => by
  have k0 : (0 : Int32).toInt = 0 := rfl
  have k1 : (1 : Int32).toInt = 1 := rfl
  have nb := Int32.toInt_lt n
  refine h ⟨t_le.mpr (by rw [k0]; exact z.1), t_le.mpr ?_⟩
  rw [t_sub (by rw [k1]; omega) (by rw [k1]; omega), k1]
  omega
theorem ma_cell (h : JH C wr n lm x w) (hH : HOI x q) (hm : MI w) (l : Int32) (hD : 3 ≤ D) (hF : ∀ r w', ansM C wr (f1Ch w) (f2Ce w l) (tCe C wr n w l) w r w' → F r w') : MT G D z_cell 0 [(0, vr 0), (1, vi l)] [] w (ri F) := by
  obtain ⟨D, rfl⟩ : ∃ D', D = D' + 2 := ⟨D - 2, by omega⟩
  refine sg_cell_0 _ (fun y e => ?_)
  have hy := z0_s e
  have e67 : y.1 0 67 = w.1 0 67 := hy.1.1 67 (by decide)
  have e23 : y.1 0 23 = w.1 0 23 := hy.1.1 23 (by decide)
  have e70 : y.1 70 = w.1 70 := hy.1.2 70 (by decide) (by simp)
  have qy := (MI_0 hy.1 hm).1
  refine sc_noRunk hy (fun hr => ⟨fun q => absurd rfl q, fun _ => ?_⟩) (fun c y' m => ⟨fun _ => ri_i (hF _ y' (an_1 hm (show w.1 0 67 = 0 by rw [← e67]; exact c) m)), fun q => absurd q (by decide)⟩)
  obtain ⟨cp, _, _⟩ := RS_of qy hr
  have g := cp.1
  rw [e67] at hr
  obtain ⟨hc, hh, e94⟩ := JH_M h hr
  have mm := (HistC_MM (JH_gc h hH).1.1 hh e94).1
  have p32 : ∀ b : Int32, (b = 0 → 0 ≤ l.toInt ∧ l.toInt < (y.1 0 23).toInt) → (¬ b = 0 → ¬ (0 ≤ l.toInt ∧ l.toInt < (y.1 0 23).toInt)) → MT G (D + 2) z_cell 32 [(0, vr 0), (1, vi l)] [vi b, vr 0] y (ri F) := fun b hb hb2 => sg_cell_32 _ _ (sc_refk b 2 hy (by decide) (fun b0 => ⟨fun _ => ⟨by rw [vp_in_iff]; have := hb b0; have := g.2.1; omega, ri_i (hF _ y (an_3 qy hr (fun z => z.2 (by rw [← e23]; exact hb b0)) hy.2 ⟨by
    rw [e70, t_cl]
    exact mm.1 _ (by have := hb b0; have := g.2.1; omega), rd_0 hy.1 hm⟩))⟩, fun q => absurd rfl q⟩) (fun nb y' m => ⟨fun q => absurd q (by decide), fun _ => ri_i (hF _ y' (an_2 hm ⟨hr, by rw [← e23]; exact hb2 nb⟩ m))⟩))
  exact sp_in _ _ _ ⟨fun cc => p32 0 (fun _ => in_lt (bi_ne.mp cc) g.1) (fun z => absurd rfl z), fun cc => p32 1 (fun q => absurd q (by decide)) (fun _ => in_ge (bi_eq.mp cc) g.1)⟩
theorem ma_seen (h : JH C wr n lm x w) (hH : HOI x q) (hm : MI w) (t c : Int32) (hD : 3 ≤ D) (hF : ∀ r w', ansM C wr (f1Ch w) (f2Se w t c) (tSe C wr n w t c) w r w' → F r w') : MT G D z_seen 0 [(0, vr 0), (1, vi t), (2, vi c)] [] w (ri F) := by
  obtain ⟨D, rfl⟩ : ∃ D', D = D' + 2 := ⟨D - 2, by omega⟩
  refine sg_seen_0 _ _ (fun y e => ?_)
  have hy := z0_s e
  have e67 : y.1 0 67 = w.1 0 67 := hy.1.1 67 (by decide)
  have e23 : y.1 0 23 = w.1 0 23 := hy.1.1 23 (by decide)
  have e25 : y.1 0 25 = w.1 0 25 := hy.1.1 25 (by decide)
  have qy := (MI_0 hy.1 hm).1
  refine sc_noRunk hy (fun hr => ⟨fun q => absurd rfl q, fun _ => ?_⟩) (fun c y' m => ⟨fun _ => ri_i (hF _ y' (an_1 hm (show w.1 0 67 = 0 by rw [← e67]; exact c) m)), fun q => absurd q (by decide)⟩)
  obtain ⟨cp, _, _⟩ := RS_of qy hr
  have g := cp.1
  rw [e67] at hr
  obtain ⟨hc, hh, e94⟩ := JH_M h hr
  obtain ⟨mm, m8⟩ := HistC_MM (JH_gc h hH).1.1 (HistC_0 hy.1 hh) (n := n) (by rw [hy.1.1 94 (by decide)]; exact e94)
  have cy : c96 y = c96 w := by unfold c96; rw [hy.1.2 96 (by decide) (by simp)]
  rw [cy] at mm
  have p46 : ∀ b : Int32, (b = 0 → (0 ≤ t.toInt ∧ t.toInt < (y.1 0 25).toInt) ∧ 0 ≤ c.toInt ∧ c.toInt < (y.1 0 23).toInt) → (¬ b = 0 → ¬ ((0 ≤ t.toInt ∧ t.toInt < (y.1 0 25).toInt) ∧ 0 ≤ c.toInt ∧ c.toInt < (y.1 0 23).toInt)) → MT G (D + 2) z_seen 46 [(0, vr 0), (1, vi t), (2, vi c)] [vi b, vr 0] y (ri F) := fun b hb hb2 => sg_seen_46 _ _ _ (sc_refk b 2 hy (by decide) (fun b0 => ⟨fun _ => by
    obtain ⟨b1, b2⟩ := hb b0
    have g2 := g.2.1
    have g6 := g.2.2.2.2.2.1
    have tv : vp_in t 6 := by rw [vp_in_iff]; omega
    have tq := mm.2.2 _ (vt tv)
    refine sp_see3 t c tv (by rw [vp_in_iff]; omega) (m8 _ (vt tv)) tq.2.2.2.2.2.2.2.2.1 (ri_i (hF _ y (an_3 qy hr (fun z => z.2 (by rw [← e23, ← e25]; exact hb b0)) hy.2 ⟨?_, rd_0 hy.1 hm⟩)))
    unfold seM
    rw [mm.1 c.toNatClampNeg (by have := t_cl c; omega), t_cl, t_cl], fun q => absurd rfl q⟩) (fun nb y' m => ⟨fun q => absurd q (by decide), fun _ => ri_i (hF _ y' (an_2 hm ⟨hr, by rw [← e23, ← e25]; exact hb2 nb⟩ m))⟩))
  exact sp_in _ _ _ ⟨fun c1 => p46 1 (fun q => absurd q (by decide)) (fun _ z => in_ge (bi_eq.mp c1) g.2.2.2.2.1 z.1), fun c1 => sp_in _ _ _ ⟨fun c2 => p46 0 (fun _ => ⟨in_lt (bi_ne.mp c1) g.2.2.2.2.1, in_lt (bi_ne.mp c2) g.1⟩) (fun z => absurd rfl z), fun c2 => p46 1 (fun q => absurd q (by decide)) (fun _ z => in_ge (bi_eq.mp c2) g.1 z.2)⟩⟩
end RST
section KRS
variable {G : kG} {q : kP} {d : Nat} {x y w w' : gd} {P : Option gv → gd → Prop} {X : String → gd → Prop} {C : gCo} {wr n : Nat} {lm : Nat → Nat}
theorem ka_cell (h : JH C wr n lm x w) (hq : kV q) (hH : HOI x q) (l1 : Int32) (hX1 : e1Ch x → X iSE x) (hX2 : e2Ce x l1 → X iOE x) (hP : ¬ e1Ch x → ¬ e2Ce x l1 → ∀ r y, HOI y q → sCe C wr n (c96 w) x l1 r y → P (some (vi r)) y) : KE G q (d + 7) zk_X11_cell 0 [(0, vr 0), (1, vi l1)] [] x P X :=
  kg_X11_cell_0 hq l1 (kh_run hq hH hX1 (fun h10 hR => kh_ix hq l1 _ (fun hn => hX2 ⟨h10, hn⟩) (fun l0 l9 => ⟨by have := hR.1.1.1.1; rw [vp_in_iff]; omega, hP h10 (fun z => z.2 ⟨l0, l9⟩) _ x hH ⟨by
    have g := (JH_R h h10).2.1.2.1.1.1.1 l1.toInt.toNat (by omega)
    rw [t_cl]
    exact g, KR_rf⟩⟩)))
theorem ka_seen (h : JH C wr n lm x w) (hq : kV q) (hH : HOI x q) (l1 l2 : Int32) (hX1 : e1Ch x → X iSE x) (hX2 : e2Se x l1 l2 → X iOE x) (hP : ¬ e1Ch x → ¬ e2Se x l1 l2 → ∀ r y, HOI y q → sSe C wr n (c96 w) x l1 l2 r y → P (some (vi r)) y) : KE G q (d + 7) zk_X11_seen 0 [(0, vr 0), (1, vi l1), (2, vi l2)] [] x P X := by
  refine kg_X11_seen_0 hq l1 l2 (kh_run hq hH hX1 (fun h10 hR => kh_ix hq l1 _ (fun hn => hX2 ⟨h10, fun z => hn z.1⟩) (fun l0 l9 => kh_ix hq l2 _ (fun hn => hX2 ⟨h10, fun z => hn z.2⟩) (fun g0 g9 => ?_))))
  obtain ⟨j, r, -, -⟩ := JH_R h h10
  have e10 : (x.1 60 10).toInt = (C.2.1.length : Nat) := j.2.1.2.1.1
  exact kh_seenBy hq (Or.inl rfl) hR.1 j.2.1 r.2.1.1 l1 l2 (T := l1.toInt.toNat) (c' := l2.toInt.toNat) (by omega) (by omega) (by omega) (by omega) (hP h10 (fun z => z.2 ⟨⟨l0, l9⟩, g0, g9⟩) _ x hH ⟨rfl, KR_rf⟩)
theorem ja_cell {l r9 r : Int32} (h : JH C wr n lm x w) (hH : HOI y q) (k : ansK (e1Ch x) (e2Ce x l) (sCe C wr n (c96 w) x l) x r9 y) (m : ansM C wr (f1Ch w) (f2Ce w l) (tCe C wr n w l) w r w') : JR3 y w' ∧ ansE r9 r y w' := by
  have e9 := JH_10 h
  refine ans_eq h hH e9 ⟨fun z => ⟨fun a => z.1 (e9.mpr a), by rw [← (JH_R h z.1).1.1.2.2.1]; exact z.2⟩, fun z => ⟨fun a => z.1 (e9.mp a), by rw [(JH_R h (fun a => z.1 (e9.mp a))).1.1.2.2.1]; exact z.2⟩⟩ (fun a z => z.1 a) k m (fun c _ r' s t => ⟨JQ_rd h hH s.2 t.2, s.1.trans t.1.symm⟩)
theorem ja_seen {l1 l2 r9 r : Int32} (h : JH C wr n lm x w) (hH : HOI y q) (k : ansK (e1Ch x) (e2Se x l1 l2) (sSe C wr n (c96 w) x l1 l2) x r9 y) (m : ansM C wr (f1Ch w) (f2Se w l1 l2) (tSe C wr n w l1 l2) w r w') : JR3 y w' ∧ ansE r9 r y w' := by
  have e9 := JH_10 h
  refine ans_eq h hH e9 ⟨fun z => ⟨fun a => z.1 (e9.mpr a), by rw [← (JH_R h z.1).1.1.2.2.1, ← (JH_R h z.1).1.1.2.2.2.2.1]; exact z.2⟩, fun z => ⟨fun a => z.1 (e9.mp a), by rw [(JH_R h (fun a => z.1 (e9.mp a))).1.1.2.2.1, (JH_R h (fun a => z.1 (e9.mp a))).1.1.2.2.2.2.1]; exact z.2⟩⟩ (fun a z => z.1 a) k m (fun c _ r' s t => ⟨JQ_rd h hH s.2 t.2, s.1.trans t.1.symm⟩)
end KRS
