/-! the class: a statement -/
section KSA
variable {G : kG} {q : kP} {d : Nat} {x x0 y z : gd} {F : Int32 → gd → Prop} {Fv : gd → Prop} {X : String → gd → Prop} {P : Option gv → gd → Prop} {M : Int} {E : Nat → Prop}
theorem kp_opOf (hq : kV q) (s : Int32) (h : ∀ r : Int32, (¬ r = -1 → ¬ s = 0 ∧ (s = 57 → r = 5) ∧ ((¬ s = 56 ∧ ¬ s = 2) ∧ ¬ s = 54 ∧ ¬ s = 71 → 5 ≤ r.toInt ∧ ¬ r.toInt = 15 ∧ ¬ r.toInt = 16 ∧ ¬ r.toInt = 17 ∧ ¬ r.toInt = 20)) → F r x) : KT G q d zk_X7_opOf 0 [(0, vi s)] [] x (ri F) := by
  refine kg_X7_opOf_0 hq _ ⟨fun c => ri_i (h _ (fun _ => ?_)), fun c => ri_i (h _ (fun _ => ?_)), fun c => ri_i (h _ (fun _ => ?_)), fun c => ri_i (h _ (fun _ => ?_)), fun c => ri_i (h _ (fun _ => ?_)), fun c => ri_i (h _ (fun _ => ?_)), fun c => ri_i (h _ (fun _ => ?_)), fun c => ri_i (h _ (fun _ => ?_)), fun c => ri_i (h _ (fun _ => ?_)), fun c => ri_i (h _ (fun _ => ?_)), fun c => ri_i (h _ (fun _ => ?_)), fun c => ri_i (h _ (fun _ => ?_)), fun c => ri_i (h _ (fun _ => ?_)), fun c => ri_i (h _ (fun _ => ?_)), fun c => ri_i (h _ (fun q => absurd rfl q))⟩
  · rcases c with rfl | rfl <;> exact ⟨by decide, by decide, by decide⟩
  · rcases c with rfl | rfl <;> exact ⟨by decide, by decide, by decide⟩
  · rcases c with rfl | rfl <;> exact ⟨by decide, by decide, by decide⟩
  · subst c; exact ⟨by decide, by decide, by decide⟩
  · subst c; exact ⟨by decide, by decide, by decide⟩
  · rcases c with rfl | rfl <;> exact ⟨by decide, by decide, by decide⟩
  all_goals (subst c; exact ⟨by decide, by decide, by decide⟩)
theorem kb_statement (hq : kV q) (hx : RX x0 X) (hI : IT x0 x) (h : ∀ y, IT x0 y → nx x < nx y → Fv y) : KE G q (d + 12) zk_X7_statement 0 [(0, vr 100)] [] x (rv Fv) X := by
  have k16 : (16 : Int32).toInt = 16 := rfl
  obtain ⟨hB, o1, o17, acc⟩ := hI
  have hRB : RB x := by
    rcases hB with e | e
    · exact e.1.1
    · exact e.1.1.1
  have rs : ∀ {P : Option gv → gd → Prop} {v : Int32} (hv9 : ¬ v = 0 := by decide), KE G q (d + 11) zk_X7_refuse 0 [(0, vr 100), (1, vi v)] [] x P X := by
    intro P v hv9
    rcases hB with e | e
    · exact kb_refuse hq hx e v hv9
    · exact kb_refuse hq hx e.1 v hv9
  have p35 : ∀ l o : Int32, KE G q (d + 12) zk_X7_statement 35 [(0, vr 100), (1, vi l), (2, vi o)] [] x (rv Fv) X := fun l o => kg_X7_statement_35 hq _ _ ⟨fun _ => kg_X7_statement_46 hq _ _ _ rs, fun _ => kg_X7_statement_46 hq _ _ _ rs⟩
  refine kg_X7_statement_0 hq ⟨RB_at hRB, kp_sort hq hRB (kp_opOf hq _ (fun o hop => ⟨fun _ => p35 _ _, fun cn => ⟨fun c16 => ?_, fun _ => p35 _ _⟩⟩))⟩
  obtain ⟨s0, s57, sel⟩ := hop cn
  rw [t_le, k16] at c16
  have ho : om x ≤ 16 := c16
  generalize x.1 25 (x.1 100 4).toNatClampNeg = l
  have p197 : ∀ k : Int32, (k = 1 ∧ ¬ x.1 23 (x.1 100 4).toNatClampNeg = 54 ∨ k = 3) → KE G q (d + 12) zk_X7_statement 197 [] [vi k, vr 100] x (rv Fv) X := by
    intro k hk
    have hk' : k = 1 ∨ k = 3 := hk.imp (fun e => e.1) id
    refine kg_X7_statement_197 hq _ ?_
    rcases hB with e | ⟨e, e54⟩
    · refine kb_test hq hx e (fun i hi => absurd hi (fun e => e)) o1 ho acc s0 k hk' (Or.inl (e.2.2.2.2.2.2.1 (fun e => e))) (fun y hBy ny oy ay y13 => rv_i (h y ⟨Or.inl ?_, by omega, by omega, ay⟩ ny))
      rw [y13]; exact hBy
    · refine kb_test hq hx e (fun i hi => hi) o1 ho acc s0 k hk' (Or.inr ?_) (fun y hBy ny oy ay y13 => rv_i (h y ⟨Or.inl ?_, by omega, by omega, ay⟩ ny))
      · rcases hk with ⟨-, g⟩ | g
        · exact absurd e54 g
        · exact g
      · rw [y13]; exact hBy
  have hB0 : ¬ x.1 23 (x.1 100 4).toNatClampNeg = 54 → BB x0 x (x.1 60 13).toInt E0 := fun c => by
    rcases hB with e | ⟨-, e⟩
    · exact e
    · exact absurd e c
  have p173 : ∀ y, BB x0 y (x.1 60 13).toInt E0 → nx x < nx y → om y = om x → 2 * ssm y + om y ≤ nx y + 1 → y.1 60 13 = x.1 60 13 → KE G q (d + 12) zk_X7_statement 173 [(0, vr 100)] [] y (rv Fv) X := by
    intro y hBy ny oy ay y13
    refine kg_X7_statement_173 hq (kb_need hq hx hBy 27 (by decide) (fun _ z hBz nz gz => rv_i (h z ⟨Or.inl ?_, by rw [GS_om gz]; omega, by rw [GS_om gz]; omega, by rw [GS_om gz, GS_sm gz]; omega⟩ (by omega))))
    rw [GS_at gz 60 13 (by unfold sSum; omega), y13]; exact hBz
  refine kg_X7_statement_49 hq _ _ (kp_sort hq hRB ⟨fun c => ?_, fun c => ?_, fun c => ?_, fun c => ?_, fun c => ?_⟩)
  · -- let
    have e := hB0 (by rw [c]; decide)
    refine kb_newLocal hq hx e o1 s0 (fun t y hBy ny oy sy ht y9 yl y13 => ?_)
    obtain ⟨ky, oy', cy⟩ := BB_k hBy
    obtain ⟨M', m1, m2, m3⟩ : ∃ M' : Int, (x.1 60 13).toInt ≤ M' ∧ (y.1 100 9).toInt + 1 ≤ M' ∧ (M' ≤ (x.1 60 13).toInt ∨ M' ≤ (y.1 100 9).toInt + 1) := by
      by_cases hm : (y.1 100 9).toInt + 1 ≤ (x.1 60 13).toInt
      · exact ⟨_, Int.le_refl _, hm, Or.inl (Int.le_refl _)⟩
      · exact ⟨_, by omega, Int.le_refl _, Or.inr (Int.le_refl _)⟩
    have k0 := ky.1.1
    refine kb_source hq hx (BB_M m1 hBy) (by omega) (by omega) l _ _ (Or.inr ⟨fun e => ?_, k0, by omega⟩) (fun z hBz nz oz sz ⟨z9, z7, z13, z20⟩ => kb_need hq hx hBz 27 (by decide) (fun _ w hBw nw gw => ?_))
    · rw [e, tm1] at k0; omega
    have w9 : w.1 100 9 = y.1 100 9 := by rw [GS_at gw 100 9 (by unfold sSum; omega)]; exact z9
    have w7 : w.1 100 7 = y.1 100 7 := by rw [GS_at gw 100 7 (by unfold sSum; omega)]; exact z7
    have w13 : w.1 60 13 = x.1 60 13 := by rw [GS_at gw 60 13 (by unfold sSum; omega), z13, y13]
    have w20 : w.1 20 7 = y.1 20 7 := by rw [GS_at gw 20 7 (by unfold sSum; omega)]; exact z20 7
    have ow := GS_om gw
    have sw := GS_sm gw
    refine kb_makeKnown hq hBw t (by unfold tk at ht ⊢; rw [w20]; exact ht) (by rw [w9, w7]; exact yl) (by rw [w13, w9]; exact m3) (fun v hBv nv ov sv => rv_i (h v ⟨Or.inl hBv, by omega, by omega, by omega⟩ (by omega)))
  · -- a name
    have e := hB0 (by rw [c]; decide)
    obtain ⟨kx, ox, cx⟩ := BB_k e
    refine kp_sortBehind hq hRB ⟨fun _ => kb_setTarget hq hx e (cx.2.2.2.2.2.2 e.2.2.2.2.1) (fun t y hBy ny oy sy vt hl y13 => ⟨vt, kb_source hq hx hBy (by omega) (by omega) l _ _ hl (fun z hBz nz oz sz ⟨z9, z7, z13, z20⟩ => p173 z hBz (by omega) (by omega) (by omega) (by rw [z13, y13]))⟩), fun _ => kb_rowStatement hq hx e (by omega) (by omega) l (fun y hBy ny oy sy y13 => p173 y hBy (by omega) oy (by omega) y13)⟩
  · -- if, while
    refine kp_sort hq hRB ⟨fun c2 => p197 _ (Or.inl ⟨rfl, c2⟩), fun c2 => p197 _ (Or.inr rfl)⟩
  · -- lock
    have e := hB0 (by rw [c]; decide)
    rw [s57 c]
    refine kb_pass hq hx e s0 (fun y hBy ny gy => ?_)
    have oy := GS_om gy
    have sy := GS_sm gy
    refine kb_nameStep hq hx hBy (by omega) 5 l (by decide) (by decide) (fun z hBz nz sz oz opz vin z13 => ?_)
    obtain ⟨a1, a2, a3, -⟩ := BB_400 hBy (by omega)
    refine kb_openBlock hq hx hBz (by omega) (by omega) 2 _ (by decide) (Or.inl (hBz.2.2.2.2.2.2.1 (fun e => e))) ⟨fun c => by omega, fun _ => ⟨by decide, (y.1 80 9).toNatClampNeg, a3.symm, by omega, fun c => absurd c (by decide), fun _ => opz, fun c => absurd c (by decide)⟩⟩ (fun i hi he => absurd he (fun e => e)) (fun w hBw nw sw ow w13 => rv_i (h w ⟨Or.inl ?_, by omega, by omega, by omega⟩ (by omega)))
    rw [w13, z13, GS_at gy 60 13 (by unfold sSum; omega)]; exact hBw
  · -- the others
    have n56 := c 56 (by decide)
    have n2 := c 2 (by decide)
    have n54 := c 54 (by decide)
    have n71 := c 71 (by decide)
    obtain ⟨g1, g2⟩ := sel ⟨⟨n56, n2⟩, n54, n71⟩
    refine kb_plain hq hx (hB0 n54) acc (by omega) o l s0 g1 g2 (fun y hBy ny oy ay y13 => rv_i (h y ⟨Or.inl ?_, by omega, by omega, ay⟩ ny))
    rw [y13]; exact hBy
end KSA
