/-! the class: sums are worked -/
section KWK
variable {G : kG} {q : kP} {d : Nat} {x x0 y z : gd} {F : Int32 → gd → Prop} {Fv : gd → Prop}
/-- what working a sum changes -/
def sWk (c k : Nat) : Prop := (c = 60 ∧ k = 5) ∨ c = 65
theorem CO_fm (h : CO x) (f : ∀ c k, (60 ≤ c ∧ c < 90 ∧ ¬ (c = 60 ∧ k = 5) ∧ c ≠ 65) → y.1 c k = x.1 c k) : CO y := by
  obtain ⟨h1, h2, h3, h4, h5⟩ := h
  have e60 : ∀ j, ¬ j = 5 → y.1 60 j = x.1 60 j := fun j hj => f _ _ (by omega)
  have es : ssm y = ssm x := by unfold ssm; rw [f 80 9 (by omega)]
  have ep : ∀ j, sop y j = sop x j := fun j => by unfold sop; rw [f 81 j (by omega)]
  have et : ∀ j, stg y j = stg x j := fun j => by unfold stg; rw [f 84 j (by omega)]
  refine ⟨?_, ?_, by omega, fun i hi => ⟨?_, ?_⟩, fun t ht => ?_⟩
  · rw [e60 6 (by omega), e60 9 (by omega), e60 10 (by omega), e60 13 (by omega), e60 14 (by omega), e60 16 (by omega)]; exact h1
  · rw [e60 3 (by omega)]
    refine ⟨h2.1, fun i hi c => ?_⟩
    rw [f 62 i (by omega)] at c
    rw [f 63 i (by omega)]; exact h2.2 i hi c
  · have := (h4 i (by omega)).1
    unfold CSa at this ⊢
    rw [ep, f 85 i (by omega), f 86 i (by omega), e60 6 (by omega), e60 9 (by omega), e60 10 (by omega)]; exact this
  · have := (h4 i (by omega)).2
    unfold CSb at this ⊢
    rw [ep, et, f 83 i (by omega), es, e60 13 (by omega), ep]; exact this
  · rw [e60 10 (by omega)] at ht
    rw [f 72 t (by omega), es]; exact h5 t ht
theorem kp_operate (hq : kV q) (p a b : Int32) (h : ∀ r y, fm (fun c k => c = 60 ∧ k = 5) x y → F r y) : KT G q d zk_X0_operate 0 [(0, vr 60), (1, vi p), (2, vi a), (3, vi b)] [] x (ri F) := by
  have g : ∀ r, ri F (some (vi r)) x := fun r => ri_i (h r x (fm_rf _ _))
  refine kg_X0_operate_0 hq _ _ _ ⟨fun _ => ⟨fun _ => g _, fun _ => ⟨fun _ => g _, fun _ => g _⟩⟩, fun _ => ⟨fun _ => g _, fun _ => ⟨fun _ => g _, fun _ => g _⟩⟩, fun _ => ⟨fun _ => g _, fun _ => g _⟩, fun _ => ⟨fun _ => g _, fun _ => g _⟩, fun _ => ⟨fun _ => g _, fun _ => g _⟩, fun _ => ⟨fun _ => g _, fun _ => g _⟩, fun _ => ⟨fun _ => g _, fun _ => g _⟩, fun _ => ⟨fun _ => g _, fun _ => g _⟩, fun _ => g _, fun _ => g _, fun _ => g _, fun _ => ⟨fun c => ⟨fun _ => ⟨c, g _⟩, fun _ => ⟨c, g _⟩⟩, fun _ z ez => ri_i (h _ z (by rw [ez]; exact fm_si (fm_rf _ _) ⟨rfl, rfl⟩))⟩⟩
theorem kp_work (hq : kV q) (hC : CO x) {a2 : Nat} (ka : kK a2 = .inr (.int, 228)) (ma : a2 ∈ (kf q).2.1) (s b t : Int32) (h0 : 0 ≤ b.toInt) (h1 : b.toInt ≤ 204) (h : ∀ r y, fm sWk x y → F r y) : KT G q (d + 1) zk_X0_work 0 [(0, vr 60), (1, vi s), (2, vr a2), (3, vi b), (4, vi t)] [] x (ri F) := by
  have k40 : (40 : Int32).toInt = 40 := rfl
  have k1 : (1 : Int32).toInt = 1 := rfl
  have k2 : (2 : Int32).toInt = 2 := rfl
  have k0 : (0 : Int32).toInt = 0 := rfl
  have v0 : vp_in 0 40 := by rw [vp_in_iff]; decide
  have loop : ∀ (n : Nat) (p i : Int32) (y : gd), fm sWk x y → 0 ≤ p.toInt → p.toInt ≤ 40 → (x.1 60 3).toInt - i.toInt ≤ n → KT G q (d + 1) zk_X0_work 11 [(0, vr 60), (2, vr a2), (3, vi b), (4, vi t), (5, vi p), (6, vi i)] [] y (ri F) := by
    have out : ∀ y, fm sWk x y → vp_in 0 40 ∧ ri F (some (vi (y.1 65 (0 : Int32).toNatClampNeg))) y := fun y fy => ⟨v0, ri_i (h _ y fy)⟩
    intro n
    induction n with
    | zero =>
      intro p i y fy p0 p1 hn
      refine kg_X0_work_11 hq ka ma _ _ _ _ ⟨fun _ => out y fy, fun c => ⟨fun _ => out y fy, fun c2 => ?_⟩⟩
      exfalso; rw [fy 60 3 (by unfold sWk; omega), t_le] at c2; omega
    | succ n ih =>
      intro p i y fy p0 p1 hn
      have hCy : CO y := CO_fm hC (fun c k hc => fy c k (by unfold sWk; omega))
      refine kg_X0_work_11 hq ka ma _ _ _ _ ⟨fun _ => out y fy, fun c => ⟨fun _ => out y fy, fun c2 => ⟨fun _ => out y fy, fun _ => ?_⟩⟩⟩
      rw [t_lt, k0] at c
      rw [fy 60 3 (by unfold sWk; omega), t_le] at c2
      have hs := hC.2.1.1
      have ei : (i + 1).toInt = i.toInt + 1 := t_add (by rw [k1]; omega) (by rw [k1]; omega)
      have vi9 : vp_in i 800 := by rw [vp_in_iff]; omega
      have next : ∀ (p2 : Int32) (z : gd), fm sWk x z → 0 ≤ p2.toInt → p2.toInt ≤ 40 → KT G q (d + 1) zk_X0_work 11 [(0, vr 60), (2, vr a2), (3, vi b), (4, vi t), (5, vi p2), (6, vi (i + 1))] [] z (ri F) := fun p2 z fz q0 q1 => ih p2 (i + 1) z fz q0 q1 (by omega)
      have p69 : (y.1 62 i.toNatClampNeg = 1 ∨ y.1 62 i.toNatClampNeg = 2 ∨ y.1 62 i.toNatClampNeg = 3) → KT G q (d + 1) zk_X0_work 69 [(0, vr 60), (2, vr a2), (3, vi b), (4, vi t), (5, vi p), (6, vi i), (7, vi (y.1 62 i.toNatClampNeg))] [] y (ri F) := by
        intro h123
        refine kg_X0_work_69 hq ka ma _ _ _ _ _ ⟨fun _ => next p y fy p0 p1, fun c4 => ?_⟩
        rw [t_le, k40] at c4
        have vp : vp_in p 40 := by rw [vp_in_iff]; omega
        have ep : (p + 1).toInt = p.toInt + 1 := t_add (by rw [k1]; omega) (by rw [k1]; omega)
        have push : ∀ (v : Int32) (z : gd), z = si y 65 p.toNatClampNeg v → KT G q (d + 1) zk_X0_work 11 [(0, vr 60), (2, vr a2), (3, vi b), (4, vi t), (5, vi (p + 1)), (6, vi (i + 1))] [] z (ri F) := fun v z ez => next (p + 1) z (by rw [ez]; exact fm_si fy (Or.inr rfl)) (by omega) (by omega)
        refine ⟨fun n1 => ⟨fun n3 => ?_, fun _ => ⟨vp, fun z ez => push _ z ez⟩⟩, fun _ => ⟨vi9, vp, fun z ez => push _ z ez⟩⟩
        have e2 : y.1 62 i.toNatClampNeg = 2 := by
          rcases h123 with e | e | e
          · exact absurd e n1
          · exact e
          · exact absurd e n3
        have ga := hCy.2.1.2 i.toNatClampNeg (by rw [fy 60 3 (by unfold sWk; omega), t_cl]; omega) e2
        refine ⟨vi9, ?_, vp, fun z ez => push _ z ez⟩
        rw [vp_in_iff, t_add (by omega) (by omega)]; omega
      have p139 : KT G q (d + 1) zk_X0_work 139 [(0, vr 60), (2, vr a2), (3, vi b), (4, vi t), (5, vi p), (6, vi i), (7, vi (y.1 62 i.toNatClampNeg))] [] y (ri F) := by
        refine kg_X0_work_139 hq ka ma _ _ _ _ _ ⟨fun _ => next p y fy p0 p1, fun c1 => ?_⟩
        rw [t_lt, k1] at c1
        have e1 : (p - 1).toInt = p.toInt - 1 := t_sub (by rw [k1]; omega) (by rw [k1]; omega)
        have vp : vp_in (p - 1) 40 := by rw [vp_in_iff]; omega
        have put : ∀ (v : Int32) (z : gd), z = si y 65 (p - 1).toNatClampNeg v → KT G q (d + 1) zk_X0_work 11 [(0, vr 60), (2, vr a2), (3, vi b), (4, vi t), (5, vi p), (6, vi (i + 1))] [] z (ri F) := fun v z ez => next p z (by rw [ez]; exact fm_si fy (Or.inr rfl)) p0 p1
        exact ⟨vp, fun _ => ⟨fun _ => ⟨vp, fun z ez => put _ z ez⟩, fun _ => ⟨vp, fun z ez => put _ z ez⟩⟩, fun _ => ⟨vp, fun z ez => put _ z ez⟩⟩
      refine ⟨vi9, fun _ => out y fy, fun _ => ⟨vi9, fun e => p69 (Or.inl e), fun _ => ⟨fun e => p69 (Or.inr (Or.inl e)), fun _ => ⟨fun _ => ⟨fun _ => p139, fun _ => ⟨fun _ => ⟨fun _ => next p y fy p0 p1, fun c5 => ?_⟩, fun _ => p139⟩⟩, fun e => p69 (Or.inr (Or.inr e))⟩⟩⟩⟩
      rw [t_lt, k2] at c5
      obtain ⟨p2, ep2⟩ : ∃ p2, p2 = p + (-1) := ⟨_, rfl⟩
      rw [← ep2]
      have e1 : p2.toInt = p.toInt - 1 := by rw [ep2, t_add (by rw [tm1]; omega) (by rw [tm1]; omega), tm1]; rfl
      have e2 : (p2 - 1).toInt = p.toInt - 2 := by rw [t_sub (by rw [k1]; omega) (by rw [k1]; omega), k1, e1]; omega
      have vp : vp_in (p2 - 1) 40 := by rw [vp_in_iff]; omega
      exact ⟨vp, by rw [vp_in_iff]; omega, kp_operate hq _ _ _ (fun r z fz => ⟨vp, fun w ew => next p2 w (by rw [ew]; exact fm_si (fm_tr fy (fm_w fz (fun c k q => Or.inl q))) (Or.inr rfl)) (by omega) (by omega)⟩)⟩
  exact kg_X0_work_0 hq ka ma _ _ _ (fun x1 e1 => loop ((x.1 60 3).toInt - s.toInt).toNat _ _ x1 (by rw [e1]; exact fm_si (fm_rf _ _) (Or.inl ⟨rfl, rfl⟩)) (by decide) (by decide) (by omega))
end KWK
