/-! the class: choices are listed -/
section KLI
variable {G : kG} {q : kP} {d : Nat} {x x0 y z : gd} {o : Nat} {F : Int32 → gd → Prop} {Fv : gd → Prop}
def sLi (o c k : Nat) : Prop := (c = o ∧ k = 13) ∨ (o + 11 ≤ c ∧ c ≤ o + 13)
theorem rg_Li (hO : o = 120 ∨ o = 220) (f : fm (sLi o) x y) (t k : Nat) : rg y o t k = rg x o t k := rg_eq hO (fm_w f (fun c k q => by unfold sLi at q; omega)) t k
theorem MM_Li (hO : o = 120 ∨ o = 220) (f : fm (sLi o) x y) (h : MM x o) : MM y o := by
  have e := rg_Li hO f
  refine ⟨CO_fm h.1 (fun c k hc => f c k (by unfold sLi; omega)), ?_, fun t ht => ?_⟩
  · have hG := h.2.1
    unfold MG at hG ⊢
    rw [f o 3 (by unfold sLi; omega), f o 5 (by unfold sLi; omega), f o 6 (by unfold sLi; omega), f o 7 (by unfold sLi; omega), f o 8 (by unfold sLi; omega), f o 9 (by unfold sLi; omega), f 60 6 (by unfold sLi; omega), f 60 9 (by unfold sLi; omega), f 60 13 (by unfold sLi; omega), f 60 10 (by unfold sLi; omega)]
    exact hG
  · rw [f 60 10 (by unfold sLi; omega)] at ht
    obtain ⟨a, g⟩ := h.2.2 t ht
    refine ⟨?_, ?_⟩
    · unfold TA ssm at a ⊢
      rw [e, e, e, e, f 80 9 (by unfold sLi; omega), f o 3 (by unfold sLi; omega), f o 9 (by unfold sLi; omega), f 60 6 (by unfold sLi; omega)]
      refine ⟨a.1, a.2.1, a.2.2.1, fun j hj => ?_, a.2.2.2.2⟩
      rw [e]; exact a.2.2.2.1 j hj
    · unfold TGo sop at g ⊢
      rw [e, e, e, f 81 _ (by unfold sLi; omega)]; exact g
theorem km_canAct (hq : kV q) (ho : kiM q o) (h : MM x o) (t : Int32) {T : Nat} (et : t.toInt = T) (hT : (T : Int) < (x.1 60 10).toInt) (hF : ∀ r : Int32, (¬ r = 0 → rg x o T 0 = 1) → F r x) : KT G q (d + 2) zk_X5_canAct 0 [(0, vr o), (1, vi t)] [] x (ri F) := by
  have hT6 := MM_6 h.1 hT
  have hA := (h.2.2 T hT).1
  obtain ⟨v, e, l⟩ := MM_st h.1 hA
  have hcs := h.1.2.2.2.1 _ l
  have t6 := h.1.1.2.2.1
  have est2 : (rg x o T 2).toInt = (((rg x o T 2).toInt.toNat : Nat) : Int) := by have := hA.1.1; omega
  have f0 : ri F (some (vi 0)) x := ri_i (hF _ (fun c => absurd rfl c))
  have g2 : ∀ {H : Int32 → gd → Prop}, H (rg x o T 2) x → KT G q (d + 1) zk_X5_get 0 [(0, vr o), (1, vi t), (2, vi 2)] [] x (ri H) := fun hh => kp_get hq ho h.1 h.2.1 _ _ et (show (2 : Int32).toInt = ((2 : Nat) : Int) from rfl) hT6 (by omega) hh
  have g7 : ∀ {H : Int32 → gd → Prop}, (∀ r, H r x) → KT G q (d + 1) zk_X5_get 0 [(0, vr o), (1, vi t), (2, vi 7)] [] x (ri H) := fun hh => kp_get hq ho h.1 h.2.1 _ _ et (show (7 : Int32).toInt = ((7 : Nat) : Int) from rfl) hT6 (by omega) (hh _)
  refine kg_X5_canAct_0 hq ho _ (kp_isGoing hq ho h.1 h.2.1 _ et hT6 (fun hg => ⟨fun _ => ?_, fun c => absurd c (by decide)⟩) (fun hg => ⟨fun c => absurd rfl c, fun _ => f0⟩))
  have f1 : ri F (some (vi 1)) x := ri_i (hF _ (fun _ => hg))
  have hgo := (h.2.2 T hT).2 hg
  refine g2 ⟨v, ?_⟩
  rw [e]
  have body : ∀ p : Int32, ((rg x o T 3 = 0 ∧ p = x.1 81 (rg x o T 2).toInt.toNat) ∨ (¬ rg x o T 3 = 0 ∧ p = 15)) → ((5 ≤ p.toInt ∧ p.toInt ≤ 8) ∨ p = 15 → 0 ≤ (x.1 85 (rg x o T 2).toInt.toNat).toInt ∧ (x.1 85 (rg x o T 2).toInt.toNat).toInt < (x.1 60 9).toInt) ∧ (p = 10 → 0 ≤ (x.1 85 (rg x o T 2).toInt.toNat).toInt ∧ (x.1 85 (rg x o T 2).toInt.toNat).toInt < (x.1 60 10).toInt) := by
    intro p hp
    refine ⟨fun c => ?_, fun c => ?_⟩
    · rcases hp with ⟨e3, e1⟩ | ⟨e3, e1⟩
      · rcases c with c | c
        · rw [e1] at c; exact hcs.1.2.1 c.1 c.2
        · exfalso
          refine hcs.2.1.2 ?_
          unfold sop; rw [← e1, c]; rfl
      · have h7 := hgo.2 e3
        exact hcs.1.2.1 (by omega) (by omega)
    · rcases hp with ⟨e3, e1⟩ | ⟨e3, e1⟩
      · have k10 : (10 : Int32).toInt = 10 := rfl
        have : sop x (rg x o T 2).toInt.toNat = 10 := by unfold sop; rw [← e1, c]; rfl
        exact hcs.1.2.2 (by omega) (by omega)
      · rw [e1] at c; exact absurd c (by decide)
  refine kp_sortOf hq ho h.1 h.2.1 _ et hT6 hA (fun c3 => ?_) (fun c3 => ?_)
  · obtain ⟨hl, hj⟩ := body _ (Or.inl ⟨c3, rfl⟩)
    refine ⟨fun _ => f1, fun _ => kp_goesLate hq ho h.1 _ est2 l (fun r _ => ⟨fun _ => f1, fun _ => g7 (fun r => ⟨fun _ => f0, fun _ => f1⟩)⟩), fun c5 => g7 (fun r => ⟨fun _ => f0, fun _ => ?_⟩), fun c15 => g7 (fun r => ⟨fun _ => f0, fun _ => kp_get hq ho h.1 h.2.1 _ _ et (show (5 : Int32).toInt = ((5 : Nat) : Int) from rfl) hT6 (by omega) ⟨fun _ => f0, fun _ => ?_⟩⟩), fun c10 => g7 (fun r => ⟨fun _ => f0, fun _ => ?_⟩), fun _ => g7 (fun r => ⟨fun _ => f0, fun _ => f1⟩)⟩
    · have hl5 := hl (Or.inl (by rw [c5]; decide))
      exact kp_holder hq ho h.1 h.2.1 _ hl5.1 hl5.2 (fun r => ⟨fun _ => f1, fun _ => kp_holder hq ho h.1 h.2.1 _ hl5.1 hl5.2 (fun r => ⟨fun _ => f0, fun _ => f1⟩)⟩)
    · have hl5 := hl (Or.inr c15)
      exact kp_holder hq ho h.1 h.2.1 _ hl5.1 hl5.2 (fun r => ⟨fun _ => f0, fun _ => f1⟩)
    · obtain ⟨u0, u1⟩ := hj c10
      have eu : (x.1 85 (rg x o T 2).toInt.toNat).toInt = (((x.1 85 (rg x o T 2).toInt.toNat).toInt.toNat : Nat) : Int) := by omega
      exact kp_get hq ho h.1 h.2.1 _ _ eu (show (0 : Int32).toInt = ((0 : Nat) : Int) from rfl) (by omega) (by omega) ⟨fun _ => f0, fun _ => kp_get hq ho h.1 h.2.1 _ _ eu (show (7 : Int32).toInt = ((7 : Nat) : Int) from rfl) (by omega) (by omega) ⟨fun _ => f0, fun _ => f1⟩⟩
  · obtain ⟨hl, hj⟩ := body 15 (Or.inr ⟨c3, rfl⟩)
    refine ⟨fun _ => f1, fun _ => kp_goesLate hq ho h.1 _ est2 l (fun r _ => ⟨fun _ => f1, fun _ => g7 (fun r => ⟨fun _ => f0, fun _ => f1⟩)⟩), fun c5 => g7 (fun r => ⟨fun _ => f0, fun _ => ?_⟩), fun c15 => g7 (fun r => ⟨fun _ => f0, fun _ => kp_get hq ho h.1 h.2.1 _ _ et (show (5 : Int32).toInt = ((5 : Nat) : Int) from rfl) hT6 (by omega) ⟨fun _ => f0, fun _ => ?_⟩⟩), fun c10 => g7 (fun r => ⟨fun _ => f0, fun _ => ?_⟩), fun _ => g7 (fun r => ⟨fun _ => f0, fun _ => f1⟩)⟩
    · have hl5 := hl (Or.inl (by rw [c5]; decide))
      exact kp_holder hq ho h.1 h.2.1 _ hl5.1 hl5.2 (fun r => ⟨fun _ => f1, fun _ => kp_holder hq ho h.1 h.2.1 _ hl5.1 hl5.2 (fun r => ⟨fun _ => f0, fun _ => f1⟩)⟩)
    · have hl5 := hl (Or.inr c15)
      exact kp_holder hq ho h.1 h.2.1 _ hl5.1 hl5.2 (fun r => ⟨fun _ => f0, fun _ => f1⟩)
    · obtain ⟨u0, u1⟩ := hj c10
      have eu : (x.1 85 (rg x o T 2).toInt.toNat).toInt = (((x.1 85 (rg x o T 2).toInt.toNat).toInt.toNat : Nat) : Int) := by omega
      exact kp_get hq ho h.1 h.2.1 _ _ eu (show (0 : Int32).toInt = ((0 : Nat) : Int) from rfl) (by omega) (by omega) ⟨fun _ => f0, fun _ => kp_get hq ho h.1 h.2.1 _ _ eu (show (7 : Int32).toInt = ((7 : Nat) : Int) from rfl) (by omega) (by omega) ⟨fun _ => f0, fun _ => f1⟩⟩
/-- one choice more -/
theorem km_list (hq : kV q) (ho : kiM q o) (h : MM x o) (hL : LSk x o) (t j w : Int32) {T : Nat} (et : t.toInt = T) (hT : (T : Int) < (x.1 60 10).toInt) (hc : (j = -1 ∧ rg x o T 0 = 1) ∨ ∃ J : Nat, j.toInt = J ∧ (J : Int) < (rg x o T 7).toInt) (hF : ∀ y, fm (sLi o) x y → LSk y o → Fv y) : KT G q d zk_X5_list 0 [(0, vr o), (1, vi t), (2, vi j), (3, vi w)] [] x (rv Fv) := by
  have hO := kiM_O ho
  have k84 : (84 : Int32).toInt = 84 := rfl
  obtain ⟨⟨l0, l1⟩, hl⟩ := id hL
  refine kg_X5_list_0 hq ho _ _ _ ⟨fun _ => rv_i (hF x (fm_rf _ _) hL), fun c => ?_⟩
  rw [t_le, k84] at c
  have v : vp_in (x.1 o 13) 84 := by rw [vp_in_iff]; omega
  refine ⟨v, fun x3 e3 => ?_⟩
  have q3 : x3.1 o 13 = x.1 o 13 := by rw [e3, si_cell (by omega)]
  refine ⟨by rw [q3]; exact v, fun x5 e5 => ?_⟩
  rw [q3] at e5
  have q5 : x5.1 o 13 = x.1 o 13 := by rw [e5, si_cell (by omega)]; exact q3
  refine ⟨by rw [q5]; exact v, fun x7 e7 z ez => rv_i ?_⟩
  rw [q5] at e7
  have q7 : x7.1 o 13 = x.1 o 13 := by rw [e7, si_cell (by omega)]; exact q5
  rw [q7] at ez
  have f : fm (sLi o) x z := by
    rw [ez, e7, e5, e3]
    exact fm_si (fm_si (fm_si (fm_si (fm_rf _ _) (by unfold sLi; omega)) (by unfold sLi; omega)) (by unfold sLi; omega)) (Or.inl ⟨rfl, rfl⟩)
  have z13 : (z.1 o 13).toInt = (x.1 o 13).toInt + 1 := by
    have : z.1 o 13 = x.1 o 13 + 1 := by rw [ez, si_get, if_pos ⟨rfl, rfl⟩]
    rw [this, t_add (by show _ ≤ _ + (1 : Int); omega) (by show _ + (1 : Int) ≤ _; omega)]; rfl
  have eN : (((x.1 o 13).toNatClampNeg : Nat) : Int) = (x.1 o 13).toInt := by rw [t_cl]; omega
  refine hF z f ⟨by omega, fun i hi => ?_⟩
  have rr := rg_Li hO f
  by_cases hi2 : i = (x.1 o 13).toNatClampNeg
  · have a1 : z.1 (o + 11) i = t := by rw [hi2, ez, si_cell (by omega), e7, si_cell (by omega), e5, si_cell (by omega), e3, si_get, if_pos ⟨rfl, rfl⟩]
    have a2 : z.1 (o + 12) i = j := by rw [hi2, ez, si_cell (by omega), e7, si_cell (by omega), e5, si_get, if_pos ⟨rfl, rfl⟩]
    rw [a1, a2]
    refine ⟨T, et, by rw [f 60 10 (by unfold sLi; omega)]; exact hT, ?_⟩
    rw [rr, rr]; exact hc
  · have a1 : z.1 (o + 11) i = x.1 (o + 11) i := by rw [ez, si_cell (by omega), e7, si_cell (by omega), e5, si_cell (by omega), e3, si_get, if_neg (fun q => hi2 q.2)]
    have a2 : z.1 (o + 12) i = x.1 (o + 12) i := by rw [ez, si_cell (by omega), e7, si_cell (by omega), e5, si_get, if_neg (fun q => hi2 q.2), e3, si_cell (by omega)]
    rw [a1, a2]
    obtain ⟨T2, p1, p2, p3⟩ := hl i (by omega)
    refine ⟨T2, p1, by rw [f 60 10 (by unfold sLi; omega)]; exact p2, ?_⟩
    rw [rr, rr]; exact p3
theorem km_listAct (hq : kV q) (ho : kiM q o) (h : MM x o) (hL : LSk x o) (t : Int32) {T : Nat} (et : t.toInt = T) (hT : (T : Int) < (x.1 60 10).toInt) (hg : rg x o T 0 = 1) (hF : ∀ y, fm (sLi o) x y → LSk y o → Fv y) : KT G q (d + 2) zk_X5_listAct 0 [(0, vr o), (1, vi t)] [] x (rv Fv) := by
  have hO := kiM_O ho
  have hT6 := MM_6 h.1 hT
  have hA := (h.2.2 T hT).1
  obtain ⟨v, e, l⟩ := MM_st h.1 hA
  have hcs := h.1.2.2.2.1 _ l
  have t6 := h.1.1.2.2.1
  have p57 : KT G q (d + 2) zk_X5_listAct 57 [(0, vr o), (1, vi t)] [] x (rv Fv) := kg_X5_listAct_57 hq ho _ (km_list hq ho h hL _ _ _ et hT (Or.inl ⟨rfl, hg⟩) (fun y fy hy => rv_i (hF y fy hy)))
  have loop : ∀ (n k : Nat) (w i : Int32) (y : gd), i.toInt = k → (x.1 60 10).toInt - k ≤ n → fm (sLi o) x y → LSk y o → KT G q (d + 2) zk_X5_listAct 75 [(0, vr o), (1, vi t), (4, vi w), (5, vi i)] [] y (rv Fv) := by
    intro n
    induction n with
    | zero =>
      intro k w i y ei hn fy hy
      refine kg_X5_listAct_75 hq ho _ _ _ ⟨fun _ => rv_i (hF y fy hy), fun c => ?_⟩
      exfalso; rw [fy 60 10 (by unfold sLi; omega), t_le] at c; omega
    | succ n ih =>
      intro k w i y ei hn fy hy
      refine kg_X5_listAct_75 hq ho _ _ _ ⟨fun _ => rv_i (hF y fy hy), fun c => ?_⟩
      rw [fy 60 10 (by unfold sLi; omega), t_le] at c
      have e1 : (i + 1).toInt = ((k + 1 : Nat) : Int) := by rw [t_add (by show _ ≤ _ + (1 : Int); omega) (by show _ + (1 : Int) ≤ _; omega), ei]; rfl
      exact ⟨fun _ => ih (k + 1) _ _ y e1 (by push_cast; omega) fy hy, fun _ => km_list hq ho (MM_Li hO fy h) hy _ _ _ et (by rw [fy 60 10 (by unfold sLi; omega)]; exact hT) (Or.inl ⟨rfl, by rw [rg_Li hO fy]; exact hg⟩) (fun z fz hz => ih (k + 1) _ _ z e1 (by push_cast; omega) (fm_tr fy fz) hz)⟩
  refine kg_X5_listAct_0 hq ho _ (kp_get hq ho h.1 h.2.1 _ _ et (show (2 : Int32).toInt = ((2 : Nat) : Int) from rfl) hT6 (by omega) ⟨v, ?_⟩)
  rw [e]
  refine kp_sortOf hq ho h.1 h.2.1 _ et hT6 hA (fun c3 => ⟨fun _ => p57, fun c8 => ⟨v, fun _ => p57, fun _ => ?_⟩⟩) (fun c3 => ⟨fun _ => p57, fun c8 => absurd c8 (by decide)⟩)
  have k8 : (8 : Int32).toInt = 8 := rfl
  have h8 : sop x (rg x o T 2).toInt.toNat = 8 := by unfold sop; rw [c8]; rfl
  have hl := hcs.1.2.1 (by omega) (by omega)
  exact kp_holder hq ho h.1 h.2.1 _ hl.1 hl.2 (fun r => ⟨fun _ => p57, fun _ => kp_waiters hq ho h.1 h.2.1 _ (fun r13 => ⟨fun _ => kp_waiters hq ho h.1 h.2.1 _ (fun r16 => loop 6 0 _ _ x rfl (by omega) (fm_rf _ _) hL), fun _ => p57⟩)⟩)
theorem km_isFirst (hq : kV q) (ho : kiM q o) (h : MM x o) (t j : Int32) {T J : Nat} (et : t.toInt = T) (hT : T < 6) (ej : j.toInt = J) (hJ : J < 8) (hF : ∀ r : Int32, F r x) : KT G q (d + 2) zk_X5_isFirstOfCell 0 [(0, vr o), (1, vi t), (2, vi j)] [] x (ri F) := by
  have loop : ∀ (n k : Nat) (i : Int32), i.toInt = k → (J : Int) - k ≤ n → KT G q (d + 2) zk_X5_isFirstOfCell 2 [(0, vr o), (1, vi t), (2, vi j), (3, vi i)] [] x (ri F) := by
    intro n
    induction n with
    | zero =>
      intro k i ei hn
      refine kg_X5_isFirstOfCell_2 hq ho _ _ _ ⟨fun _ => ri_i (hF _), fun c => ?_⟩
      exfalso; rw [t_le] at c; omega
    | succ n ih =>
      intro k i ei hn
      refine kg_X5_isFirstOfCell_2 hq ho _ _ _ ⟨fun _ => ri_i (hF _), fun c => ?_⟩
      rw [t_le] at c
      have e1 : (i + 1).toInt = ((k + 1 : Nat) : Int) := by rw [t_add (by show _ ≤ _ + (1 : Int); omega) (by show _ + (1 : Int) ≤ _; omega), ei]; rfl
      exact kp_lateCell hq ho h.1 h.2.1 _ _ et hT ei (by omega) (kp_lateCell hq ho h.1 h.2.1 _ _ et hT ej hJ ⟨fun _ => ih (k + 1) _ e1 (by push_cast; omega), fun _ => ri_i (hF _)⟩)
  exact kg_X5_isFirstOfCell_0 hq ho _ _ (loop 8 0 _ rfl (by omega))
theorem km_listChoices (hq : kV q) (ho : kiM q o) (h : MM x o) (hF : ∀ y, fm (sLi o) x y → LSk y o → Fv y) : KT G q (d + 3) zk_X5_listChoices 0 [(0, vr o)] [] x (rv Fv) := by
  have hO := kiM_O ho
  have t6 := h.1.1.2.2.1
  have k1 : (1 : Int32).toInt = 1 := rfl
  have loop : ∀ (n k : Nat) (t : Int32) (y : gd), t.toInt = k → (x.1 60 10).toInt - k ≤ n → fm (sLi o) x y → LSk y o → KT G q (d + 3) zk_X5_listChoices 7 [(0, vr o), (1, vi t)] [] y (rv Fv) := by
    intro n
    induction n with
    | zero =>
      intro k t y et hn fy hy
      refine kg_X5_listChoices_7 hq ho _ ⟨fun _ => rv_i (hF y fy hy), fun c => ?_⟩
      exfalso; rw [fy 60 10 (by unfold sLi; omega), t_le] at c; omega
    | succ n ih =>
      intro k t y et hn fy hy
      refine kg_X5_listChoices_7 hq ho _ ⟨fun _ => rv_i (hF y fy hy), fun c => ?_⟩
      rw [fy 60 10 (by unfold sLi; omega), t_le] at c
      have hk : (k : Int) < (x.1 60 10).toInt := by omega
      have e1 : (t + 1).toInt = ((k + 1 : Nat) : Int) := by rw [t_add (by rw [k1]; omega) (by rw [k1]; omega), et]; rfl
      have hA := (h.2.2 k hk).1
      have inner : ∀ (m j : Nat) (i : Int32) (z : gd), i.toInt = j → (rg x o k 7).toInt - j ≤ m → fm (sLi o) x z → LSk z o → KT G q (d + 3) zk_X5_listChoices 33 [(0, vr o), (1, vi t), (2, vi i)] [] z (rv Fv) := by
        intro m
        induction m with
        | zero =>
          intro j i z ei hm fz hz
          have hz9 := MM_Li hO fz h
          refine kg_X5_listChoices_33 hq ho _ _ (kp_get hq ho hz9.1 hz9.2.1 _ _ et (show (7 : Int32).toInt = ((7 : Nat) : Int) from rfl) (by omega) (by omega) ⟨fun _ => ih (k + 1) _ z e1 (by push_cast; omega) fz hz, fun c2 => ?_⟩)
          exfalso; rw [rg_Li hO fz, t_le] at c2; omega
        | succ m ihm =>
          intro j i z ei hm fz hz
          have hz9 := MM_Li hO fz h
          refine kg_X5_listChoices_33 hq ho _ _ (kp_get hq ho hz9.1 hz9.2.1 _ _ et (show (7 : Int32).toInt = ((7 : Nat) : Int) from rfl) (by omega) (by omega) ⟨fun _ => ih (k + 1) _ z e1 (by push_cast; omega) fz hz, fun c2 => ?_⟩)
          rw [rg_Li hO fz, t_le] at c2
          have l8 := hA.2.1
          have ei1 : (i + 1).toInt = ((j + 1 : Nat) : Int) := by rw [t_add (by rw [k1]; omega) (by rw [k1]; omega), ei]; rfl
          exact km_isFirst hq ho hz9 _ _ et (by omega) ei (by omega) (fun r => ⟨fun _ => ihm (j + 1) _ z ei1 (by push_cast; omega) fz hz, fun _ => km_list hq ho hz9 hz _ _ _ et (by rw [fz 60 10 (by unfold sLi; omega)]; exact hk) (Or.inr ⟨j, ei, by rw [rg_Li hO fz]; omega⟩) (fun w fw hw => ihm (j + 1) _ w ei1 (by push_cast; omega) (fm_tr fz fw) hw)⟩)
      have hy9 := MM_Li hO fy h
      have l8 := hA.2.1
      refine km_canAct hq ho hy9 _ et (by rw [fy 60 10 (by unfold sLi; omega)]; exact hk) (fun r hr => ⟨fun _ => inner 8 0 _ y rfl (by omega) fy hy, fun c3 => km_listAct hq ho hy9 hy _ et (by rw [fy 60 10 (by unfold sLi; omega)]; exact hk) (hr c3) (fun z fz hz => inner 8 0 _ z rfl (by omega) (fm_tr fy fz) hz)⟩)
  refine kg_X5_listChoices_0 hq ho (fun x1 e1 => loop 6 0 _ x1 rfl (by omega) (by rw [e1]; exact fm_si (fm_rf _ _) (Or.inl ⟨rfl, rfl⟩)) ⟨?_, fun i hi => ?_⟩)
  · have : x1.1 o 13 = 0 := by rw [e1, si_get, if_pos ⟨rfl, rfl⟩]
    rw [this]; decide
  · have : x1.1 o 13 = 0 := by rw [e1, si_get, if_pos ⟨rfl, rfl⟩]
    rw [this] at hi
    have k0 : (0 : Int32).toInt = 0 := rfl
    omega
end KLI
