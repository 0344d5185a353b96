/-! finding: how far the first state is that shows it -/
def fdV (tr : Nat → Prop) (C : gCo) (lm : Nat → Nat) (l1 l2 r : Int32) : Prop := ∃ wn : Nat, (wn = 0 ∨ wn = 1) ∧ l1 = Int32.ofNat wn ∧ ((∃ s, tr wn ∧ fsF C wn (twM C lm wn) l2.toInt.toNat s ∧ r.toInt = ((pth (twM C lm wn) s).length : Nat)) ∨ ((∀ s, tr wn → ¬ fsF C wn (twM C lm wn) l2.toInt.toNat s) ∧ r = -1))
def sFi (C : gCo) (lm : Nat → Nat) (x : gd) (l1 l2 r : Int32) (y : gd) : Prop := fdV (fun v => ¬ x.1 (260 + 20 * v) 0 = 0) C lm l1 l2 r ∧ KRd x y
def tFi (C : gCo) (lm : Nat → Nat) (wr : Nat) (w : gd) (l1 l2 r : Int32) (w' : gd) : Prop := fdV (fun v => ¬ w.1 119 v = 0) C lm l1 l2 r ∧ rdM C wr w w'
theorem fdV_eq {tr tr' : Nat → Prop} {C : gCo} {lm : Nat → Nat} {l1 l2 r r' : Int32} (e : ∀ v, (v = 0 ∨ v = 1) → (tr v ↔ tr' v)) (h : fdV tr C lm l1 l2 r) (g : fdV tr' C lm l1 l2 r') : r = r' := by
  obtain ⟨wn, a1, a2, a3⟩ := h
  obtain ⟨wn', b1, b2, b3⟩ := g
  have ew := wn_eq b1 a1 b2 a2
  subst ew
  rcases a3 with ⟨s, c1, c2, c3⟩ | ⟨c1, c2⟩
  · rcases b3 with ⟨s', d1, d2, d3⟩ | ⟨d1, -⟩
    · have := fsF_u c2 d2
      subst this
      rw [t_eq, c3, d3]
    · exact absurd c2 (d1 s ((e _ a1).mp c1))
  · rcases b3 with ⟨s', d1, d2, d3⟩ | ⟨d1, d2⟩
    · exact absurd d2 (c1 s' ((e _ a1).mpr d1))
    · rw [c2, d2]
section KFI
variable {G : kG} {q : kP} {d : Nat} {x y w w' : gd} {P : Option gv → gd → Prop} {X : String → gd → Prop} {C : gCo} {wr n : Nat} {lm : Nat → Nat}
theorem ja_finding {l1 l2 r9 r : Int32} (h : JH C wr n lm x w) (hH : HOI y q) (k : ansK (e1Sh l1 l2) False (sFi C lm x l1 l2) x r9 y) (m : ansM C wr (e1Sh l1 l2) False (tFi C lm wr w l1 l2) w r w') : JR3 y w' ∧ ansE r9 r y w' :=
  ans_eq h hH Iff.rfl Iff.rfl (fun _ z => z) k m (fun c _ r' s t => ⟨JQ_rd h hH s.2 t.2, fdV_eq (fun v v01 => ⟨fun a b => a ((JH_T h v v01).1.mpr b), fun a b => a ((JH_T h v v01).1.mp b)⟩) s.1 t.1⟩)
theorem ka_finding (h : JH C wr n lm x w) (hq : kV q) (hH : HOI x q) (l1 l2 : Int32) (hX1 : e1Sh l1 l2 → X iAE x) (hP : ¬ e1Sh l1 l2 → ¬ False → ∀ r y, HOI y q → sFi C lm x l1 l2 r y → P (some (vi r)) y) : KE G q (d + 7) zk_X11_finding 0 [(0, vr 0), (1, vi l1), (2, vi l2)] [] x P X := by
  refine kg_X11_finding_0 hq l1 l2 (kf_way hq l1 (fun z => hX1 (fun z2 => z z2.1)) (fun hw => kh_fnd hq l2 (fun z => hX1 (fun z2 => z z2.2)) (fun f0 f11 => ?_)))
  obtain ⟨v, w01, ew, ewn⟩ := w_nat hw
  have ok : ¬ e1Sh l1 l2 := fun z => z ⟨hw, f0, f11⟩
  have hP := hP ok (fun z => z)
  refine kg_X11_firstState_0 hq l1 l2 (kh_was (w := v) hq hH l1 w01 ew (fun c0 => ⟨fun _ => ?_, fun c => absurd rfl c⟩) (fun e7 ho hz hC nz => ⟨fun c => absurd c (by decide), fun _ => ⟨way_in hw, fun u5 e5 => ⟨260 + 20 * v, by rw [e5, ewn, e7], ho, by rw [vp_in_iff]; omega, ?_⟩⟩⟩))
  · exact ri_i ⟨fun c => absurd rfl c, fun _ => hP _ x hH ⟨⟨v, w01, ew, Or.inr ⟨fun s t => absurd c0 t, rfl⟩⟩, KR_rf⟩⟩
  obtain ⟨-, ⟨⟨t0, -⟩, hPA, hFN⟩, -⟩ := (JH_T h v w01).2 nz
  have F2 : l2.toNatClampNeg = l2.toInt.toNat := rfl
  have b3 := hz.1.2
  rw [F2]
  rcases hFN l2.toInt.toNat (by omega) with ⟨g1, g2⟩ | ⟨s, p, g1, g2, g3, g4, g5⟩
  · rw [g1]
    refine ri_i ⟨fun c => absurd rfl c, fun _ => hP _ x hH ⟨⟨v, w01, ew, Or.inr ⟨fun s _ hs => ?_, rfl⟩⟩, KR_rf⟩⟩
    obtain ⟨p, a1, a2, -⟩ := hs
    exact g2 s p (gt_lt a1) a1 a2
  · obtain ⟨r, er⟩ : ∃ r, r = x.1 (260 + 20 * v + 7) l2.toInt.toNat := ⟨_, rfl⟩
    rw [← er] at g2 ⊢
    have rS : r.toNatClampNeg = s := by rw [t_cl, g2]; rfl
    have sl := gt_lt g3
    refine ri_i ⟨fun c => ⟨way_in hw, fun u7 e => ⟨260 + 20 * v, by rw [e, ewn, e7], ho, by rw [vp_in_iff]; omega, ?_⟩⟩, fun c => ?_⟩
    · rw [rS]
      exact hP _ x hH ⟨⟨v, w01, ew, Or.inl ⟨s, nz, ⟨p, g3, g4, g5⟩, PA_d TW_try hPA s s p (Nat.le_refl _) g3⟩⟩, KR_rf⟩
    · rw [c, tm1] at g2; omega
end KFI
section MFI
variable {G : mG} {d D : Nat} {x w : gd} {F : Int32 → gd → Prop} {C : gCo} {wr n : Nat} {lm : Nat → Nat} {q : kP}
theorem ma_finding (h : JH C wr n lm x w) (hH : HOI x q) (hm : MI w) (l1 l2 : Int32) (hD : 3 ≤ D) (hF : ∀ r w', ansM C wr (e1Sh l1 l2) False (tFi C lm wr w l1 l2) w r w' → F r w') : MT G D z_finding 0 [(0, vr 0), (1, vi l1), (2, vi l2)] [] w (ri F) := by
  obtain ⟨D, rfl⟩ : ∃ D', D = D' + 1 := ⟨D - 1, by omega⟩
  have km1 : (-1 : Int32).toInt = -1 := rfl
  refine sg_finding_0 _ _ (fun y e => ?_)
  have hy := z0_s e
  have qy := (MI_0 hy.1 hm).1
  have g119 : y.1 119 = w.1 119 := hy.1.2 119 (by decide) (by simp)
  have p63 : ∀ v : Nat, (v = 0 ∨ v = 1) → l1 = Int32.ofNat v → vp_in l1 2 → 0 ≤ l2.toInt → l2.toInt < 11 → ∀ s : Int32, (s = -1 → ∀ S, ¬ w.1 119 v = 0 → ¬ fsF C v (twM C lm v) l2.toInt.toNat S) → (¬ s = -1 → ¬ w.1 119 v = 0 ∧ ∃ S : Nat, s.toInt = (S : Nat) ∧ fsF C v (twM C lm v) l2.toInt.toNat S) → MT G (D + 1) z_finding 63 [(0, vr 0), (1, vi l1)] [vi s] y (ri F) := by
    intro v w01 ew wv f0 f1 s h1 h2
    have ok : ¬ e1Sh l1 l2 := fun z => z ⟨w_01 w01 ew, f0, f1⟩
    refine sg_finding_63 _ _ ⟨fun ne => ?_, fun e1 => ri_i (hF _ y (an_3 qy ok (fun z => z) hy.2 ⟨⟨v, w01, ew, Or.inr ⟨h1 e1, rfl⟩⟩, rd_0 hy.1 hm⟩))⟩
    obtain ⟨tr, S, es, hfs⟩ := h2 ne
    have tyw := ((JH_T h v w01).2 (fun z => tr ((JH_T h v w01).1.mp z))).2.2
    have ty : TYc C v y (twM C lm v) := TYc_mi hy.1 rfl tyw
    obtain ⟨p9, hp9, -⟩ := id hfs
    have sS := gt_lt hp9
    have b3 := ty.2.1
    have tm := tmul (k := 3000) (K := 3000) (N := 6000) (n := 3000) (i := s) rfl wv (by omega) (by omega) (by omega) (by omega) (by omega)
    have e9 : l1.toNatClampNeg = v := by rcases w01 with e | e <;> rw [ew, e] <;> rfl
    have cs : s.toNatClampNeg = S := by rw [t_cl, es]; rfl
    refine ⟨tm.1, ri_i (hF _ y (an_3 qy ok (fun z => z) hy.2 ⟨⟨v, w01, ew, Or.inl ⟨S, tr, hfs, ?_⟩⟩, rd_0 hy.1 hm⟩))⟩
    rw [tm.2, e9, cs]
    exact TYc_d TW_try ty S S p9 (Nat.le_refl _) hp9
  have p30 : ∀ b : Int32, (b = 0 → (vp_in l1 2 ∧ (l1 = 0 ∨ l1 = 1)) ∧ 0 ≤ l2.toInt ∧ l2.toInt < 11) → (¬ b = 0 → e1Sh l1 l2) → MT G (D + 1) z_finding 30 [(0, vr 0), (1, vi l1), (2, vi l2)] [vi b, vr 0] y (ri F) := by
    intro b hb hb2
    refine sg_finding_30 _ _ _ (sc_refk b 1 hy (by decide) (fun b0 => ⟨fun _ => ?_, fun q => absurd rfl q⟩) (fun nb y' m => ⟨fun q => absurd q (by decide), fun _ => ri_i (hF _ y' (an_1 hm (hb2 nb) m))⟩))
    obtain ⟨⟨wv, hw⟩, f0, f1⟩ := hb b0
    obtain ⟨v, w01, ew, ewn⟩ := w_nat hw
    obtain ⟨fv, fe⟩ := t11 wv f0 f1
    rw [ewn, g119]
    refine ⟨wv, fun t0 => p63 v w01 ew wv f0 f1 _ (fun _ S t => absurd t0 t) (fun z => absurd rfl z), fun tr => ⟨fv, ?_⟩⟩
    have tyw := ((JH_T h v w01).2 (fun z => tr ((JH_T h v w01).1.mp z))).2.2
    have ty : TYc C v y (twM C lm v) := TYc_mi hy.1 rfl tyw
    have cf : l2.toNatClampNeg = l2.toInt.toNat := rfl
    rw [fe, ewn, cf]
    refine p63 v w01 ew wv f0 f1 _ (fun e1 S _ hS => ?_) (fun ne => ⟨tr, ?_⟩)
    · rcases ty.2.2.1 l2.toInt.toNat (by omega) with ⟨-, g2⟩ | ⟨s9, p8, -, g2, -⟩
      · obtain ⟨p, a1, a2, -⟩ := hS
        exact g2 S p (gt_lt a1) a1 a2
      · have g2 : (y.1 126 (11 * v + l2.toInt.toNat)).toInt = (s9 : Nat) := g2
        rw [e1, km1] at g2; omega
    · rcases ty.2.2.1 l2.toInt.toNat (by omega) with ⟨g1, -⟩ | ⟨s9, p8, g1, g2, g3, g4, g5⟩
      · exact absurd g1 ne
      · exact ⟨s9, g2, p8, g3, g4, g5⟩
  refine sp_in _ _ _ ⟨fun c1 => p30 1 (fun q => absurd q (by decide)) (fun _ hg => ?_), fun c1 => sp_in _ _ _ ⟨fun c2 => p30 0 (fun _ => ⟨w_in (bi_ne.mp c1), f_in (bi_ne.mp c2)⟩) (fun z => absurd rfl z), fun c2 => p30 1 (fun q => absurd q (by decide)) (fun _ hg => ?_)⟩⟩
  · refine bi_eq.mp c1 ?_
    rcases hg.1 with e9 | e9 <;> rw [e9]
    · exact ⟨by decide, by decide⟩
    · exact ⟨by decide, by decide⟩
  · have k0 : (0 : Int32).toInt = 0 := rfl
    have k10 : (10 : Int32).toInt = 10 := rfl
    refine bi_eq.mp c2 ⟨t_le.mpr (by rw [k0]; exact hg.2.1), t_le.mpr ?_⟩
    have := hg.2.2
    rw [k10]; omega
end MFI
