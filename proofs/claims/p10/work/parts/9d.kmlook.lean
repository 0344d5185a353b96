/-! the class: a machine is looked at -/
section KML
variable {G : kG} {q : kP} {d : Nat} {x x0 y z : gd} {o : Nat} {F : Int32 → gd → Prop} {Fv : gd → Prop}
theorem MM_6 (hC : CO x) {t : Nat} (ht : (t : Int) < (x.1 60 10).toInt) : t < 6 := by have := hC.1.2.2.1.2; omega
theorem MM_st (hC : CO x) {t : Nat} (hA : TA x o t) : vp_in (rg x o t 2) 400 ∧ (rg x o t 2).toNatClampNeg = (rg x o t 2).toInt.toNat ∧ (((rg x o t 2).toInt.toNat : Nat) : Int) < ssm x := by
  have := hC.2.2.1.2
  have := hA.1
  exact ⟨by rw [vp_in_iff]; omega, rfl, by omega⟩
theorem kp_isGoing (hq : kV q) (ho : kiM q o) (hC : CO x) (hG : MG x o) (t : Int32) {T : Nat} (et : t.toInt = T) (hT : T < 6) (h1 : rg x o T 0 = 1 → F 1 x) (h0 : ¬ rg x o T 0 = 1 → F 0 x) : KT G q (d + 1) zk_X5_isGoing 0 [(0, vr o), (1, vi t)] [] x (ri F) :=
  kg_X5_isGoing_0 hq ho _ (kp_get hq ho hC hG _ _ et (show (0 : Int32).toInt = ((0 : Nat) : Int) from rfl) hT (by omega) ⟨fun c => ri_i (h0 c), fun c => ri_i (h1 c)⟩)
theorem kp_known (hq : kV q) (ho : kiM q o) (hC : CO x) (hG : MG x o) (t : Int32) {T : Nat} (et : t.toInt = T) (hT : T < 6) (hA : TA x o T) (h : ∀ r : Int32, 0 ≤ r.toInt → r.toInt ≤ 8 → F r x) : KT G q (d + 1) zk_X5_known 0 [(0, vr o), (1, vi t)] [] x (ri F) := by
  have p17 : KT G q (d + 1) zk_X5_known 17 [(0, vr o), (1, vi t)] [] x (ri F) := kg_X5_known_17 hq ho _ (kp_get hq ho hC hG _ _ et (show (2 : Int32).toInt = ((2 : Nat) : Int) from rfl) hT (by omega) (by
    obtain ⟨v, e, l⟩ := MM_st hC hA
    refine ⟨v, ri_i ?_⟩
    rw [e]
    have := (hC.2.2.2.1 _ l).2.2.1
    exact h _ this.1 this.2))
  exact kg_X5_known_0 hq ho _ (kp_get hq ho hC hG _ _ et (show (0 : Int32).toInt = ((0 : Nat) : Int) from rfl) hT (by omega) ⟨fun _ => p17, fun _ => ⟨fun _ => ri_i (h _ (by decide) (by decide)), fun _ => p17⟩⟩)
theorem kp_lineOf (hq : kV q) (ho : kiM q o) (hC : CO x) (hG : MG x o) (t : Int32) {T : Nat} (et : t.toInt = T) (hT : T < 6) (hA : TA x o T) (h : ∀ r : Int32, F r x) : KT G q (d + 2) zk_X5_lineOf 0 [(0, vr o), (1, vi t)] [] x (ri F) := by
  have p : KT G q (d + 1) zk_X5_get 0 [(0, vr o), (1, vi t), (2, vi 2)] [] x (ri (fun r5 x4 => vp_in r5 400 ∧ ri F (some (vi (x4.1 82 (r5 : Int32).toNatClampNeg))) x4)) := kp_get hq ho hC hG _ _ et (show (2 : Int32).toInt = ((2 : Nat) : Int) from rfl) hT (by omega) ⟨(MM_st hC hA).1, ri_i (h _)⟩
  exact kg_X5_lineOf_0 hq ho _ (kp_isGoing hq ho hC hG t et hT (fun _ => ⟨fun _ => ri_i (h _), fun _ => p⟩) (fun _ => ⟨fun _ => ri_i (h _), fun _ => p⟩))
theorem kp_localsAt (hq : kV q) (ho : kiM q o) (hC : CO x) (hG : MG x o) (t : Int32) {T : Nat} (et : t.toInt = T) (hT : T < 6) (h : ∀ r : Int32, 0 ≤ r.toInt → r.toInt ≤ 204 → F r x) : KT G q d zk_X5_localsAt 0 [(0, vr o), (1, vi t)] [] x (ri F) := by
  obtain ⟨b1, b2, -⟩ := MG_b hC hG
  obtain ⟨e1, e2⟩ := pa_ix et (show (8 : Int32).toInt = ((8 : Nat) : Int) from rfl) b1 (s := x.1 o 8) (by omega) hT (by omega)
  refine kg_X5_localsAt_0 hq ho _ (ri_i (h _ ?_ ?_))
  · have := (vp_in_iff.mp e2).1; exact this
  · rw [t_cl] at e1
    have : T * (x.1 o 8).toInt.toNat ≤ 5 * 32 := Nat.mul_le_mul (by omega) (by omega)
    omega
theorem kp_sortOf (hq : kV q) (ho : kiM q o) (hC : CO x) (hG : MG x o) (t : Int32) {T : Nat} (et : t.toInt = T) (hT : T < 6) (hA : TA x o T) (h0 : rg x o T 3 = 0 → F (x.1 81 (rg x o T 2).toInt.toNat) x) (h1 : ¬ rg x o T 3 = 0 → F 15 x) : KT G q (d + 1) zk_X5_sortOf 0 [(0, vr o), (1, vi t)] [] x (ri F) :=
  kg_X5_sortOf_0 hq ho _ (kp_get hq ho hC hG _ _ et (show (3 : Int32).toInt = ((3 : Nat) : Int) from rfl) hT (by omega) ⟨fun c => kp_get hq ho hC hG _ _ et (show (2 : Int32).toInt = ((2 : Nat) : Int) from rfl) hT (by omega) ⟨(MM_st hC hA).1, ri_i (h0 c)⟩, fun c => ri_i (h1 c)⟩)
theorem lk_ix (hC : CO x) (hG : MG x o) {l : Int32} (h0 : 0 ≤ l.toInt) (h1 : l.toInt < (x.1 60 9).toInt) : (x.1 o 6 + 2 * l).toInt = (x.1 60 6).toInt + 2 * l.toInt ∧ (x.1 o 6 + 2 * l + 1).toInt = (x.1 60 6).toInt + 2 * l.toInt + 1 ∧ (x.1 60 6).toInt + 2 * l.toInt + 1 < (x.1 o 7).toInt ∧ 0 ≤ (x.1 60 6).toInt + 2 * l.toInt ∧ (x.1 o 7).toInt ≤ 36 := by
  have k1 : (1 : Int32).toInt = 1 := rfl
  have k2 : (2 : Int32).toInt = 2 := rfl
  obtain ⟨g1, g2, g3, -⟩ := hG
  obtain ⟨⟨c1, c2, -⟩, -⟩ := hC
  have e1 : (2 * l).toInt = 2 * l.toInt := by rw [t_mul (by rw [k2]; omega) (by rw [k2]; omega), k2]
  have e2 : (x.1 o 6 + 2 * l).toInt = (x.1 60 6).toInt + 2 * l.toInt := by rw [t_add (by omega) (by omega)]; omega
  have e3 : (x.1 o 6 + 2 * l + 1).toInt = (x.1 60 6).toInt + 2 * l.toInt + 1 := by rw [t_add (by rw [k1]; omega) (by rw [k1]; omega), k1, e2]
  exact ⟨e2, e3, by omega, by omega, by omega⟩
theorem kp_holder (hq : kV q) (ho : kiM q o) (hC : CO x) (hG : MG x o) (l : Int32) (h0 : 0 ≤ l.toInt) (h1 : l.toInt < (x.1 60 9).toInt) (h : ∀ r : Int32, F r x) : KT G q d zk_X5_holder 0 [(0, vr o), (1, vi l)] [] x (ri F) := by
  obtain ⟨e1, e2, e3, e4, e5⟩ := lk_ix hC hG h0 h1
  exact kg_X5_holder_0 hq ho _ ⟨by rw [vp_in_iff]; omega, ri_i (h _)⟩
theorem kp_often (hq : kV q) (ho : kiM q o) (hC : CO x) (hG : MG x o) (l : Int32) (h0 : 0 ≤ l.toInt) (h1 : l.toInt < (x.1 60 9).toInt) (h : ∀ r : Int32, F r x) : KT G q d zk_X5_often 0 [(0, vr o), (1, vi l)] [] x (ri F) := by
  obtain ⟨e1, e2, e3, e4, e5⟩ := lk_ix hC hG h0 h1
  exact kg_X5_often_0 hq ho _ ⟨by rw [vp_in_iff]; omega, ri_i (h _)⟩
theorem kp_setLock (hq : kV q) (ho : kiM q o) (hC : CO x) (hG : MG x o) (l a b : Int32) (h0 : 0 ≤ l.toInt) (h1 : l.toInt < (x.1 60 9).toInt) (h : ∀ y, fm (fun c k => c = o + 5) x y → (∀ t k, rg y o t k = rg x o t k) → Fv y) : KT G q d zk_X5_setLock 0 [(0, vr o), (1, vi l), (2, vi a), (3, vi b)] [] x (rv Fv) := by
  obtain ⟨e1, e2, e3, e4, e5⟩ := lk_ix hC hG h0 h1
  have hO := kiM_O ho
  refine kg_X5_setLock_0 hq ho _ _ _ ⟨by rw [vp_in_iff]; omega, fun x2 f2 => ?_⟩
  have q6 : x2.1 o 6 = x.1 o 6 := by rw [f2, si_cell (by omega)]
  have q7 : x2.1 o 7 = x.1 o 7 := by rw [f2, si_cell (by omega)]
  rw [q6]
  refine ⟨by rw [vp_in_iff]; omega, fun z fz => rv_i (h z (by rw [fz, f2]; exact fm_si (fm_si (fm_rf _ _) rfl) rfl) (fun t k => ?_))⟩
  rw [rg_low hO (j := (x.1 o 6 + 2 * l + 1).toNatClampNeg) (by rw [t_cl, e2, q7]; omega) fz, rg_low hO (by rw [t_cl, e1]; omega) f2]
theorem kp_heldBy (hq : kV q) (ho : kiM q o) (hC : CO x) (hG : MG x o) (t : Int32) (h : ∀ r : Int32, F r x) : KT G q (d + 1) zk_X5_heldBy 0 [(0, vr o), (1, vi t)] [] x (ri F) := by
  have hb := hC.1.2.1
  have loop : ∀ (n : Nat) (a i : Int32), 0 ≤ i.toInt → (x.1 60 9).toInt - i.toInt ≤ n → KT G q (d + 1) zk_X5_heldBy 4 [(0, vr o), (1, vi t), (2, vi a), (3, vi i)] [] x (ri F) := by
    intro n
    induction n with
    | zero =>
      intro a i i0 hn
      refine kg_X5_heldBy_4 hq ho _ _ _ ⟨fun _ => ri_i (h _), fun c => ?_⟩
      exfalso; rw [t_le] at c; omega
    | succ n ih =>
      intro a i i0 hn
      refine kg_X5_heldBy_4 hq ho _ _ _ ⟨fun _ => ri_i (h _), fun c => ?_⟩
      rw [t_le] at c
      have e1 : (i + 1).toInt = i.toInt + 1 := t_add (by show _ ≤ _ + (1 : Int); omega) (by show _ + (1 : Int) ≤ _; omega)
      exact kp_holder hq ho hC hG _ i0 (by omega) (fun r => ⟨fun _ => ih _ _ (by omega) (by omega), fun _ => ih _ _ (by omega) (by omega)⟩)
  exact kg_X5_heldBy_0 hq ho _ (loop 6 _ _ (by decide) (by show _ - (0 : Int) ≤ _; omega))
theorem kp_waiters (hq : kV q) (ho : kiM q o) (hC : CO x) (hG : MG x o) (l : Int32) (h : ∀ r : Int32, F r x) : KT G q (d + 1) zk_X5_waiters 0 [(0, vr o), (1, vi l)] [] x (ri F) := by
  have hb := hC.1.2.2.1
  have loop : ∀ (n k : Nat) (a i : Int32), i.toInt = k → (x.1 60 10).toInt - k ≤ n → KT G q (d + 1) zk_X5_waiters 4 [(0, vr o), (1, vi l), (2, vi a), (3, vi i)] [] x (ri F) := by
    intro n
    induction n with
    | zero =>
      intro k a i ei hn
      refine kg_X5_waiters_4 hq ho _ _ _ ⟨fun _ => ri_i (h _), fun c => ?_⟩
      exfalso; rw [t_le] at c; omega
    | succ n ih =>
      intro k a i ei hn
      refine kg_X5_waiters_4 hq ho _ _ _ ⟨fun _ => ri_i (h _), fun c => ?_⟩
      rw [t_le] at c
      have e1 : (i + 1).toInt = ((k + 1 : Nat) : Int) := by rw [t_add (by show _ ≤ _ + (1 : Int); omega) (by show _ + (1 : Int) ≤ _; omega), ei]; rfl
      exact kp_get hq ho hC hG _ _ ei (show (3 : Int32).toInt = ((3 : Nat) : Int) from rfl) (by omega) (by omega) ⟨fun _ => ih (k + 1) _ _ e1 (by push_cast; omega), fun _ => kp_get hq ho hC hG _ _ ei (show (5 : Int32).toInt = ((5 : Nat) : Int) from rfl) (by omega) (by omega) ⟨fun _ => ih (k + 1) _ _ e1 (by push_cast; omega), fun _ => ih (k + 1) _ _ e1 (by push_cast; omega)⟩⟩
  exact kg_X5_waiters_0 hq ho _ (loop 6 0 _ _ rfl (by omega))
theorem lt_ix (hC : CO x) (hG : MG x o) {j : Int32} {J : Nat} (ej : j.toInt = J) (hJ : J < 8) : (x.1 o 9 + 2 * j).toInt = (((x.1 o 9).toInt.toNat + 2 * J : Nat) : Int) ∧ (x.1 o 9 + 2 * j + 1).toInt = (((x.1 o 9).toInt.toNat + 2 * J + 1 : Nat) : Int) ∧ (x.1 o 9).toInt.toNat + 2 * J + 1 < 32 := by
  have k1 : (1 : Int32).toInt = 1 := rfl
  have k2 : (2 : Int32).toInt = 2 := rfl
  obtain ⟨-, -, b3, -⟩ := MG_b hC hG
  have e1 : (2 * j).toInt = 2 * J := by rw [t_mul (by rw [k2]; omega) (by rw [k2]; omega), k2, ej]
  have e2 : (x.1 o 9 + 2 * j).toInt = (x.1 o 9).toInt + 2 * J := by rw [t_add (by omega) (by omega), e1]
  have e3 : (x.1 o 9 + 2 * j + 1).toInt = (x.1 o 9).toInt + 2 * J + 1 := by rw [t_add (by rw [k1]; omega) (by rw [k1]; omega), k1, e2]
  exact ⟨by omega, by omega, by omega⟩
theorem kp_lateCell (hq : kV q) (ho : kiM q o) (hC : CO x) (hG : MG x o) (t j : Int32) {T J : Nat} (et : t.toInt = T) (hT : T < 6) (ej : j.toInt = J) (hJ : J < 8) (h : F (rg x o T ((x.1 o 9).toInt.toNat + 2 * J)) x) : KT G q (d + 1) zk_X5_lateCell 0 [(0, vr o), (1, vi t), (2, vi j)] [] x (ri F) := by
  obtain ⟨e1, e2, e3⟩ := lt_ix hC hG ej hJ
  exact kg_X5_lateCell_0 hq ho _ _ (kp_get hq ho hC hG _ _ et e1 hT (by omega) (ri_i h))
theorem kp_lateValue (hq : kV q) (ho : kiM q o) (hC : CO x) (hG : MG x o) (t j : Int32) {T J : Nat} (et : t.toInt = T) (hT : T < 6) (ej : j.toInt = J) (hJ : J < 8) (h : ∀ r : Int32, F r x) : KT G q (d + 1) zk_X5_lateValue 0 [(0, vr o), (1, vi t), (2, vi j)] [] x (ri F) := by
  obtain ⟨e1, e2, e3⟩ := lt_ix hC hG ej hJ
  exact kg_X5_lateValue_0 hq ho _ _ (kp_get hq ho hC hG _ _ et e2 hT e3 (ri_i (h _)))
theorem kp_seenBy (hq : kV q) (ho : kiM q o) (hC : CO x) (hG : MG x o) (t c : Int32) {T : Nat} (et : t.toInt = T) (hT : T < 6) (hA : TA x o T) (hc : 0 ≤ c.toInt ∧ c.toInt < 24) (h : ∀ r : Int32, F r x) : KT G q (d + 2) zk_X5_seenBy 0 [(0, vr o), (1, vi t), (2, vi c)] [] x (ri F) := by
  have k0 : (0 : Int32).toInt = 0 := rfl
  have l8 := hA.2.1
  have loop : ∀ (n : Nat) (j : Int32), -1 ≤ j.toInt → j.toInt < 8 → j.toInt + 1 ≤ n → KT G q (d + 2) zk_X5_seenBy 10 [(0, vr o), (1, vi t), (2, vi c), (3, vi j)] [] x (ri F) := by
    intro n
    induction n with
    | zero =>
      intro j j0 j1 hn
      refine kg_X5_seenBy_10 hq ho _ _ _ ⟨fun _ => ⟨by rw [vp_in_iff]; omega, ri_i (h _)⟩, fun c => ?_⟩
      exfalso; rw [t_lt, k0] at c; omega
    | succ n ih =>
      intro j j0 j1 hn
      refine kg_X5_seenBy_10 hq ho _ _ _ ⟨fun _ => ⟨by rw [vp_in_iff]; omega, ri_i (h _)⟩, fun c => ?_⟩
      rw [t_lt, k0] at c
      have e1 : (j + (-1)).toInt = j.toInt - 1 := by rw [t_add (by rw [tm1]; omega) (by rw [tm1]; omega), tm1]; rfl
      have ej : j.toInt = ((j.toInt.toNat : Nat) : Int) := by omega
      obtain ⟨j2, ej2⟩ : ∃ j2, j2 = j + (-1) := ⟨_, rfl⟩
      rw [← ej2] at e1 ⊢
      exact kp_lateCell hq ho hC hG _ _ et hT ej (by omega) ⟨fun _ => ih _ (by omega) (by omega) (by omega), fun _ => kp_lateValue hq ho hC hG _ _ et hT ej (by omega) (fun r => ri_i (h _))⟩
  have e1 : (rg x o T 7 - 1).toInt = (rg x o T 7).toInt - 1 := t_sub (by show _ ≤ _ - (1 : Int); omega) (by show _ - (1 : Int) ≤ _; omega)
  exact kg_X5_seenBy_0 hq ho _ _ (kp_get hq ho hC hG _ _ et (show (7 : Int32).toInt = ((7 : Nat) : Int) from rfl) hT (by omega) (loop 8 _ (by omega) (by omega) (by omega)))
/-- what looking changes -/
def sLk (o c k : Nat) : Prop := (c = o ∧ k = 14) ∨ (c = 60 ∧ k = 5) ∨ c = 65
theorem sLk_M {c k : Nat} (h : sLk o c k) : sMk o c k := by unfold sLk at h; unfold sMk; omega
theorem rg_Lk (hO : o = 120 ∨ o = 220) (f : fm (sLk o) x y) (t k : Nat) : rg y o t k = rg x o t k := rg_eq hO (fm_w f (fun c k q => by unfold sLk at q; omega)) t k
theorem MM_Lk (hO : o = 120 ∨ o = 220) (f : fm (sLk o) x y) (h : MM x o) : MM y o := by
  have g := fm_w f (fun c k q => sLk_M q)
  refine ⟨CO_M hO h.1 g, MG_M hO h.2.1 g, fun t ht => ?_⟩
  rw [f 60 10 (by unfold sLk; omega)] at ht
  exact ⟨TA_eq hO g (h.2.2 t ht).1 (rg_Lk hO f t), TGo_eq hO g (h.2.2 t ht).2 (fun k _ => rg_Lk hO f t k)⟩
theorem kp_placeOf (hq : kV q) (ho : kiM q o) (hC : CO x) (hG : MG x o) (t : Int32) {T : Nat} (et : t.toInt = T) (hT : T < 6) (hA : TA x o T) (hop : sop x (rg x o T 2).toInt.toNat ≤ 4) (h : ∀ r y, fm (sLk o) x y → ((r = -1 ∧ ¬ y.1 o 14 = 0) ∨ (0 ≤ r.toInt ∧ r.toInt < (x.1 60 6).toInt)) → F r y) : KT G q (d + 2) zk_X5_placeOf 0 [(0, vr o), (1, vi t)] [] x (ri F) := by
  obtain ⟨v, e, l⟩ := MM_st hC hA
  have hO := kiM_O ho
  have k0 : (0 : Int32).toInt = 0 := rfl
  have c24 := hC.1.1
  obtain ⟨s1, s2, s3⟩ := (hC.2.2.2.1 _ l).1.1 hop
  refine kg_X5_placeOf_0 hq ho _ (kp_get hq ho hC hG _ _ et (show (2 : Int32).toInt = ((2 : Nat) : Int) from rfl) hT (by omega) ⟨v, fun _ => kp_localsAt hq ho hC hG _ et hT (fun r6 r0 r4 => kp_work hq hC (kk_M5 ho) (kl_M5 hq ho) _ _ _ r0 r4 (fun r8 y fy => ?_)), fun _ => ⟨v, ri_i (h _ x (fm_rf _ _) (Or.inr ?_))⟩⟩)
  · have fL : fm (sLk o) x y := fm_w fy (fun c k q => by unfold sWk at q; unfold sLk; omega)
    have p81 : KT G q (d + 2) zk_X5_placeOf 81 [(0, vr o)] [] y (ri F) := kg_X5_placeOf_81 hq ho ⟨fun _ z ez => ri_i (h _ z (by rw [ez]; exact fm_si fL (Or.inl ⟨rfl, rfl⟩)) (Or.inl ⟨rfl, by
      have : z.1 o 14 = 2 := by rw [ez, si_get, if_pos ⟨rfl, rfl⟩]
      rw [this]; decide⟩)), fun _ z ez => ri_i (h _ z (by rw [ez]; exact fm_si fL (Or.inl ⟨rfl, rfl⟩)) (Or.inl ⟨rfl, by
      have : z.1 o 14 = 1 := by rw [ez, si_get, if_pos ⟨rfl, rfl⟩]
      rw [this]; decide⟩))⟩
    refine ⟨fun _ => p81, fun _ => ⟨fun _ => p81, fun c8 => ⟨v, fun c9 => ⟨v, ri_i (h _ y fL (Or.inr ?_))⟩, fun _ => p81⟩⟩⟩
    rw [t_lt, k0] at c8
    rw [e, fy 86 _ (by unfold sWk; omega), t_lt] at c9
    rw [e, fy 85 _ (by unfold sWk; omega), t_add (by omega) (by omega)]
    omega
  · rw [e]; omega
theorem kp_goesLate (hq : kV q) (ho : kiM q o) (hC : CO x) (s : Int32) {S : Nat} (es : s.toInt = S) (hS : (S : Int) < ssm x) (h : ∀ r : Int32, (¬ r = 0 → x.1 o 3 = 1) → F r x) : KT G q d zk_X5_goesLate 0 [(0, vr o), (1, vi s)] [] x (ri F) := by
  have := hC.2.2.1.2
  have c24 := hC.1.1
  have v : vp_in s 400 := by rw [vp_in_iff]; omega
  have e : s.toNatClampNeg = S := by rw [t_cl, es]; rfl
  refine kg_X5_goesLate_0 hq ho _ ⟨fun _ => ri_i (h _ (fun q => absurd rfl q)), fun cw => ⟨v, fun _ => ri_i (h _ (fun q => absurd rfl q)), fun c1 => ⟨v, ?_, fun _ => ri_i (h _ (fun q => absurd rfl q)), fun _ => ri_i (h _ (fun _ => cw))⟩⟩⟩
  rw [e] at c1 ⊢
  have k1 : (1 : Int32).toInt = 1 := rfl
  obtain ⟨s1, s2, s3⟩ := (hC.2.2.2.1 _ hS).1.1 (by unfold sop; rw [c1, k1]; omega)
  rw [vp_in_iff]; omega
end KML
