/-! the class: what is made while all is tried -/
theorem rm_i {q q1 : kP} {F : gd → kP → Prop} {x : gd} (hu : kU q1) (hl : kle q q1) (h : F x q1) : rm q F none x q1 := ⟨rfl, hu, hl, h⟩
theorem zn_get {x : gd} {c c' k : Nat} : (znew x c).1 c' k = if c' = c then 0 else x.1 c' k := by
  show (if c' = c then fun _ => (0 : Int32) else x.1 c') k = _
  split <;> rfl
theorem t_div2 {a : Int32} (h : 0 ≤ a.toInt) : (a / 2).toInt = a.toInt / 2 := by
  rw [Int32.toInt_div_of_ne_right _ _ (by decide), show (2 : Int32).toInt = 2 from rfl, Int.tdiv_eq_ediv_of_nonneg h]
theorem tr_none {q : kP} {o i : Nat} (ho : kiT q o) (hi : ¬ i < oN q o) : (kf q).1 (o + 13) i = none := by
  rcases ho with ⟨rfl, h⟩ | ⟨rfl, h⟩
  · have hi : ¬ i < q.o0 := hi
    show kR q 273 i = _
    unfold kR
    rw [if_neg (by omega), if_neg (by omega), if_neg (by omega), if_neg (by omega), if_neg (by omega), if_pos rfl, if_neg hi]
  · have hi : ¬ i < q.o1 := hi
    show kR q 293 i = _
    unfold kR
    rw [if_neg (by omega), if_neg (by omega), if_neg (by omega), if_neg (by omega), if_neg (by omega), if_neg (by omega), if_pos rfl, if_neg hi]
theorem ke_no {q : kP} {k : Nat} (h : ¬ k < q.kn) : (kf q).1 203 k = none := by
  show kR q 203 k = _
  unfold kR
  rw [if_neg (by omega), if_neg (by omega), if_neg (by omega), if_neg (by omega), if_pos rfl, if_neg h]
theorem oN_U {q : kP} (hu : kU q) (o : Nat) : oN q o ≤ 3000 := by
  unfold oN; split
  · exact hu.2.2.2.2.2.1
  · exact hu.2.2.2.2.2.2
theorem oN_le {q q1 : kP} (h : kle q q1) (o : Nat) : oN q o ≤ oN q1 o := by
  unfold oN; split
  · exact h.2.2.1.2.1
  · exact h.2.2.1.2.2
theorem TO_le {x : gd} {q q1 : kP} {o : Nat} (hu : kU q1) (hl : kle q q1) (h : TO x q o) : TO x q1 o := ⟨⟨h.1.1, Int.le_trans h.1.2.1 (by have := oN_le hl o; omega), oN_U hu o⟩, h.2⟩
def sOu (o c k : Nat) : Prop := (c = o ∧ k = 3) ∨ c = o + 14 ∨ 4000 ≤ c
section KMD
variable {G : kG} {q : kP} {d : Nat} {x x0 y z : gd} {o : Nat} {F : Int32 → gd → Prop} {Fv : gd → Prop} {Fm : gd → kP → Prop} {X : String → gd → kP → Prop}
theorem kt_insert (hu : kU q) (ho : kiT q o) {a n : Nat} (ka : kK a = .inr (.int, n)) (ma : a ∈ (kf q).2.1) (hn : 24 ≤ n) (l1 l3 : Int32) (hT : TO x q o) (h1 : 0 ≤ l1.toInt ∧ l1.toInt ≤ (x.1 o 3).toInt) (h3 : 0 ≤ l3.toInt ∧ l3.toInt ≤ 24) (h : ∀ y q1, kU q1 → kle q q1 → q1.et = q.et → fm (sOu o) x y → TO y q1 o → Fm y q1) : KM G q (d + 2) zk_X10_insertOutcome 0 [(0, vr o), (1, vi l1), (2, vr a), (3, vi l3)] [] x (rm q Fm) X := by
  have hO := iT_O ho
  have k3 : (3000 : Int32).toInt = 3000 := rfl
  have k0 : (0 : Int32).toInt = 0 := rfl
  have k1 : (1 : Int32).toInt = 1 := rfl
  have hT0 := hT
  obtain ⟨⟨b0, b1, b2⟩, b3⟩ := hT
  have part2 : ∀ (q1 : kP) (z : gd), kU q1 → kle q q1 → q1.et = q.et → fm (fun c k => 4000 ≤ c) x z → (x.1 o 3).toInt < oN q1 o → KM G q1 (d + 2) zk_X10_insertOutcome 36 [(0, vr o), (1, vi l1), (2, vr a), (3, vi l3)] [] z (rm q Fm) X := by
    intro q1 z hu1 hl1 et1 fz hN
    have hN3 := oN_U hu1 o
    have ho1 := kle_T hl1 ho
    refine kg_X10_insertOutcome_36 hu1 ho1 ka (hl1.1 _ ma) l1 l3 ?_
    rw [fz o 3 (by omega), t_cl (x.1 o 3)]
    refine ⟨by rw [vp_in_iff]; omega, fun u eu => ?_⟩
    obtain ⟨c, hc1, hc2, hc3, hc4⟩ := tr_row hu1.1 ho1 (i := (x.1 o 3).toInt.toNat) (by omega)
    rw [hc1] at eu
    refine ⟨c, eu, hc2, hc3, by decide, by decide, by rw [t_lt, k0]; omega, by rw [tn0, t_cl]; omega, by rw [tn0, t_cl]; omega, fun x11 e11 => ?_⟩
    have f11 : fm (fun c k => 4000 ≤ c) x x11 := by intro c' k' hn'; rw [e11, scp_get, if_neg (by omega)]; exact fz c' k' hn'
    rw [f11 o 3 (by omega)]
    have es : (x.1 o 3 - l1).toInt = (x.1 o 3).toInt - l1.toInt := t_sub (by omega) (by omega)
    have e1 : (l1 + 1).toInt = l1.toInt + 1 := by rw [t_add (by rw [k1]; omega) (by rw [k1]; omega), k1]
    have e31 : (x.1 o 3 + 1).toInt = (x.1 o 3).toInt + 1 := by rw [t_add (by rw [k1]; omega) (by rw [k1]; omega), k1]
    refine ⟨by rw [t_lt, k0]; omega, by rw [t_lt, k0, e1]; omega, by rw [t_lt, k0, es]; omega, by rw [t_cl, t_cl, es]; omega, by rw [t_cl, t_cl, es, e1]; omega, fun x17 e17 => ⟨by rw [vp_in_iff]; omega, fun x19 e19 x20 e20 => ?_⟩⟩
    have h17 : x17.1 o 3 = x.1 o 3 := by rw [e17, scp_get, if_neg (by omega), f11 o 3 (by omega)]
    rw [h17] at e19
    have h19 : x19.1 o 3 = x.1 o 3 := by rw [e19, si_get, if_neg (by omega), h17]
    rw [h19] at e20
    refine rm_i hu1 hl1 (h x20 q1 hu1 hl1 et1 ?_ ?_)
    · intro c' k' hn'
      unfold sOu at hn'
      rw [e20, si_get, if_neg (by omega), e19, si_get, if_neg (by omega), e17, scp_get, if_neg (by omega)]
      exact f11 c' k' (by omega)
    · have g3 : x20.1 o 3 = x.1 o 3 + 1 := by rw [e20, si_get, if_pos ⟨rfl, rfl⟩]
      unfold TO
      rw [g3, e31]
      refine ⟨by omega, fun i hi => ?_⟩
      have gi : x20.1 (o + 14) i = if i = l1.toInt.toNat then x.1 o 3 else if l1.toInt.toNat + 1 ≤ i ∧ i < (x.1 o 3).toInt.toNat + 1 then x.1 (o + 14) (i - 1) else x.1 (o + 14) i := by
        rw [e20, si_get, if_neg (by omega), e19, si_get, t_cl]
        by_cases q1 : i = l1.toInt.toNat
        · rw [if_pos ⟨rfl, q1⟩, if_pos q1]
        · rw [if_neg (fun z => q1 z.2), if_neg q1, e17, scp_get, t_cl, t_cl, t_cl, es, e1]
          by_cases q2 : l1.toInt.toNat + 1 ≤ i ∧ i < (x.1 o 3).toInt.toNat + 1
          · rw [if_pos ⟨rfl, by omega, by omega⟩, if_pos q2, f11 _ _ (by omega), show l1.toInt.toNat + (i - (l1.toInt + 1).toNat) = i - 1 by omega]
          · rw [if_neg (by omega), if_neg q2, f11 _ _ (by omega)]
      rw [gi]
      by_cases q1 : i = l1.toInt.toNat
      · rw [if_pos q1]; omega
      · rw [if_neg q1]
        by_cases q2 : l1.toInt.toNat + 1 ≤ i ∧ i < (x.1 o 3).toInt.toNat + 1
        · rw [if_pos q2]
          have := b3 (i - 1) (by omega)
          omega
        · rw [if_neg q2]
          have := b3 i (by omega)
          omega
  refine kg_X10_insertOutcome_0 hu ho ka ma l1 l3 ⟨fun c => ?_, fun c => rm_i hu (kle_rf q) (h x q hu (kle_rf q) rfl (fm_rf _ _) hT0)⟩
  rw [t_lt, k3] at c
  have v3 : vp_in (x.1 o 3) 3000 := by rw [vp_in_iff]; omega
  rw [t_cl]
  refine ⟨v3, fun u eu => ⟨fun hno => ?_, fun c5 h5 => part2 q x hu (kle_rf q) rfl (fm_rf _ _) ?_⟩⟩
  · have hN : (x.1 o 3).toInt.toNat = oN q o := by
      by_cases hl : (x.1 o 3).toInt.toNat < oN q o
      · obtain ⟨c9, hc1, -⟩ := tr_row hu.1 ho hl
        rw [eu, hc1] at hno; cases hno
      · omega
    refine ⟨hN, v3, fun q6 x7 e6 e7 hu6 hl6 => part2 q6 x7 hu6 hl6 ?_ ?_ ?_⟩
    · rw [e6]; unfold kOr; split <;> rfl
    · intro c' k' hn'
      rw [e7, zn_get, if_neg]
      intro z
      apply hn'
      rw [z]
      unfold oC
      split <;> omega
    · have : oN q6 o = oN q o + 1 := by
        rw [e6]
        rcases hO with e | e
        · rw [e]; rfl
        · rw [e]; rfl
      omega
  · by_cases hl : (x.1 o 3).toInt.toNat < oN q o
    · omega
    · rw [eu, tr_none ho hl] at h5; cases h5
theorem kt_addOutcome (hu : kU q) (ho : kiT q o) {a n : Nat} (ka : kK a = .inr (.int, n)) (ma : a ∈ (kf q).2.1) (hn : 24 ≤ n) (l2 : Int32) (hT : TO x q o) (h2 : 0 ≤ l2.toInt ∧ l2.toInt ≤ 24) (h : ∀ y q1, kU q1 → kle q q1 → q1.et = q.et → fm (sOu o) x y → TO y q1 o → Fm y q1) : KM G q (d + 3) zk_X10_addOutcome 0 [(0, vr o), (1, vr a), (2, vi l2)] [] x (rm q Fm) X := by
  have k3 : (3000 : Int32).toInt = 3000 := rfl
  have k1 : (1 : Int32).toInt = 1 := rfl
  have hT0 := hT
  obtain ⟨⟨b0, b1, b2⟩, b3⟩ := hT
  have fin : ∀ l3 : Int32, 0 ≤ l3.toInt → l3.toInt ≤ (x.1 o 3).toInt → KM G q (d + 3) zk_X10_addOutcome 81 [(0, vr o), (1, vr a), (2, vi l2), (3, vi l3)] [] x (rm q Fm) X := by
    intro l3 g1 g2
    exact kg_X10_addOutcome_81 hu ho ka ma l2 l3 (kt_insert hu ho ka ma hn l3 l2 hT0 ⟨g1, g2⟩ h2 (fun y q1 hu1 hl1 e f t => rm_i hu1 hl1 (h y q1 hu1 hl1 e f t)))
  have loop : ∀ (m k : Nat) (l3 l4 l5 : Int32), l5.toInt = k → 3000 - (k : Int) ≤ m → 0 ≤ l3.toInt → l3.toInt ≤ (x.1 o 3).toInt → l4.toInt ≤ (x.1 o 3).toInt → KM G q (d + 3) zk_X10_addOutcome 11 [(0, vr o), (1, vr a), (2, vi l2), (3, vi l3), (4, vi l4), (5, vi l5)] [] x (rm q Fm) X := by
    intro m
    induction m with
    | zero =>
      intro k l3 l4 l5 e5 hm g1 g2 g3
      refine kg_X10_addOutcome_11 hu ho ka ma l2 l3 l4 l5 ⟨fun _ => fin l3 g1 g2, fun c => ?_⟩
      rw [t_le, k3] at c; omega
    | succ m ih =>
      intro k l3 l4 l5 e5 hm g1 g2 g3
      refine kg_X10_addOutcome_11 hu ho ka ma l2 l3 l4 l5 ⟨fun _ => fin l3 g1 g2, fun c => ⟨fun _ => fin l3 g1 g2, fun c2 => ?_⟩⟩
      rw [t_le, k3] at c
      rw [t_le] at c2
      have es : (l3 + l4).toInt = l3.toInt + l4.toInt := t_add (by omega) (by omega)
      have em : ((l3 + l4) / 2).toInt = (l3.toInt + l4.toInt) / 2 := by rw [t_div2 (by omega), es]
      obtain ⟨mid, hmid⟩ : ∃ w : Int32, w = (l3 + l4) / 2 := ⟨_, rfl⟩
      rw [← hmid] at em ⊢
      clear hmid
      have bm := b3 mid.toInt.toNat (by omega)
      have e51 : (l5 + 1).toInt = ((k + 1 : Nat) : Int) := by rw [t_add (by rw [k1]; omega) (by rw [k1]; omega), k1, e5]; rfl
      have em1 : (mid + 1).toInt = mid.toInt + 1 := by rw [t_add (by rw [k1]; omega) (by rw [k1]; omega), k1]
      rw [t_cl mid]
      obtain ⟨w, hw⟩ : ∃ w, w = x.1 (o + 14) mid.toInt.toNat := ⟨_, rfl⟩
      rw [← hw] at bm ⊢
      refine ⟨by decide, by rw [vp_in_iff]; omega, by rw [vp_in_iff]; omega, fun u eu => ?_⟩
      obtain ⟨c9, hc1, hc2, hc3, hc4⟩ := tr_row hu.1 ho (i := w.toNatClampNeg) (by rw [t_cl]; omega)
      rw [hc1] at eu
      exact ⟨c9, eu, hc2, hc3, kt_order hu.1 ho hc2 hc3 ka ma l2 (by omega) (by omega) (by omega) (fun r => ⟨fun _ => ⟨fun _ => ih (k + 1) _ _ _ e51 (by push_cast; omega) g1 g2 (by omega), fun _ => ih (k + 1) _ _ _ e51 (by push_cast; omega) (by omega) (by omega) g3⟩, fun _ => rm_i hu (kle_rf q) (h x q hu (kle_rf q) rfl (fm_rf _ _) hT0)⟩)⟩
  exact kg_X10_addOutcome_0 hu ho ka ma l2 (loop 3000 0 _ _ _ rfl (by omega) (by decide) (by show (0 : Int) ≤ _; omega) (Int.le_refl _))
end KMD
