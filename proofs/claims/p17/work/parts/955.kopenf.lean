section
/-! the class: a block is opened -/
section KOPF
variable {G : kG} {q : kP} {d : Nat} {x x0 y z xs : gd} {F : Int32 → gd → Prop} {Fv : gd → Prop} {X : String → gd → Prop} {P : Option gv → gd → Prop} {M : Int} {E : Nat → Prop} {K V : Nat → Int32} {sN : Nat → Nat → Bool} {e : Nat} {Ev Ev9 : gV} {Ml N : gU}
theorem kd_enter (hq : kV q) (hB : BB x0 x M E) (ho : om x ≤ 17) (hsm : ssm x < 1000) (k s : Int32) (h5 : TIk x ∨ k = 3 ∨ k = 4 ∨ k = 5) (hn : NB x k s) (hE : ∀ i : Nat, (i : Int) < ssm x → E i → (i : Int) = s.toInt → stg x i = -1) (h : ∀ y, BB x0 y M (fun i => (i = 1000000 ∧ k = 5) ∨ (i ≠ 1000000 ∧ E i ∧ ¬ (i : Int) = s.toInt)) → nx y = nx x → ssm y = ssm x → om y = om x + 1 → (∀ c j, c < 100 → y.1 c j = x.1 c j) → y.1 100 4 = x.1 100 4 → fm (fun c j => (c = 100 ∧ j = 13) ∨ (111 ≤ c ∧ c ≤ 113 ∧ j = (x.1 100 13).toNatClampNeg)) x y → y.1 111 (x.1 100 13).toNatClampNeg = k → y.1 113 (x.1 100 13).toNatClampNeg = x.1 100 9 → Pu x y k s → Fv y) : KT G q d zk_X7_enter 0 [(0, vr 100), (1, vi k), (2, vi s)] [] x (rv Fv) := by
  have k20 : (20 : Int32).toInt = 20 := rfl
  have o0 := (BB_om hB).1.1
  have vin : vp_in (x.1 100 13) 20 := by rw [vp_in_iff]; unfold om at *; omega
  refine kg_X7_enter_0 hq _ _ ⟨fun c => ?_, fun c => ⟨vin, fun x3 e3 => ?_⟩⟩
  · exfalso; rw [t_le, k20] at c; unfold om at *; omega
  have q3 : x3.1 100 13 = x.1 100 13 := by rw [e3]; (simp only [si_get, sfl_get, Nat.reduceEqDiff, eq_self, and_false, false_and, and_true, true_and, if_true, if_false, reduceIte, reduceCtorEq])
  refine ⟨by rw [q3]; exact vin, fun x5 e5 => ?_⟩
  rw [q3] at e5
  have q5 : x5.1 100 13 = x.1 100 13 := by rw [e5, ← q3]; (simp only [si_get, sfl_get, Nat.reduceEqDiff, eq_self, and_false, false_and, and_true, true_and, if_true, if_false, reduceIte, reduceCtorEq])
  refine ⟨by rw [q5]; exact vin, fun x7 e7 z ez => rv_i ?_⟩
  have x59 : x5.1 100 9 = x.1 100 9 := by rw [e5, e3]; (simp only [si_get, sfl_get, Nat.reduceEqDiff, eq_self, and_false, false_and, and_true, true_and, if_true, if_false, reduceIte, reduceCtorEq])
  rw [q5, x59] at e7
  have q7 : x7.1 100 13 = x.1 100 13 := by rw [e7, ← q5]; (simp only [si_get, sfl_get, Nat.reduceEqDiff, eq_self, and_false, false_and, and_true, true_and, if_true, if_false, reduceIte, reduceCtorEq])
  rw [q7] at ez
  have f : fm (fun c j => (c = 100 ∧ j = 13) ∨ (111 ≤ c ∧ c ≤ 113 ∧ j = (x.1 100 13).toNatClampNeg)) x z := by
    rw [ez, e7, e5, e3]
    exact fm_si (fm_si (fm_si (fm_si (fm_rf _ _) (Or.inr ⟨by omega, by omega, rfl⟩)) (Or.inr ⟨by omega, by omega, rfl⟩)) (Or.inr ⟨by omega, by omega, rfl⟩)) (Or.inl ⟨rfl, rfl⟩)
  have eO : om z = om x + 1 := by
    have : z.1 100 13 = x.1 100 13 + 1 := by rw [ez]; (simp only [si_get, sfl_get, Nat.reduceEqDiff, eq_self, and_false, false_and, and_true, true_and, if_true, if_false, reduceIte, reduceCtorEq])
    unfold om at *
    rw [this, t_add (by show _ ≤ _ + (1 : Int); omega) (by show _ + (1 : Int) ≤ _; omega)]; rfl
  have eN : (((x.1 100 13).toNatClampNeg : Nat) : Int) = om x := by rw [t_cl]; unfold om at *; omega
  have z1 : z.1 111 (x.1 100 13).toNatClampNeg = k := by rw [ez, e7, e5, e3]; (simp only [si_get, sfl_get, Nat.reduceEqDiff, eq_self, and_false, false_and, and_true, true_and, if_true, if_false, reduceIte, reduceCtorEq])
  have z2 : z.1 112 (x.1 100 13).toNatClampNeg = s := by rw [ez, e7, e5, e3]; (simp only [si_get, sfl_get, Nat.reduceEqDiff, eq_self, and_false, false_and, and_true, true_and, if_true, if_false, reduceIte, reduceCtorEq])
  have z3 : z.1 113 (x.1 100 13).toNatClampNeg = x.1 100 9 := by rw [ez, e7, e5, e3]; (simp only [si_get, sfl_get, Nat.reduceEqDiff, eq_self, and_false, false_and, and_true, true_and, if_true, if_false, reduceIte, reduceCtorEq])
  obtain ⟨hS, hF, ⟨r1, r2, r3, ⟨r4, r6⟩, r7⟩, hC, r5, r0, hI⟩ := hB
  have e4 : nx z = nx x := by unfold nx; rw [f 100 4 (by omega)]
  have es : ssm z = ssm x := by unfold ssm; rw [f 80 9 (by omega)]
  have z5 : z.1 100 5 = x.1 100 5 := f _ _ (by omega)
  have la : La x z := ⟨fun c k q1 q2 => f c k (by omega), by omega, fun j _ => f 42 j (by omega)⟩
  refine h z ⟨?_, ?_, ⟨fun c => ?_, NM_fm r2 (fun c k q1 q2 q3 q4 => f c k (by omega)) (f _ _ (by omega)) (f _ _ (by omega)), ?_, ⟨by omega, fun i hi => SA_La la (f _ _ (by omega)) (f _ _ (by omega)) (f _ _ (by omega)) (f _ _ (by omega)) (Int.le_refl _) (r6 i (by omega))⟩, ?_⟩, fun i hi he => ?_, by rw [z5]; exact r5, fm_tr r0 (fm_w f (fun c k q => by unfold sR; omega)), ⟨fun he j hj => ?_, fun j hj c => ?_⟩⟩ e4 es eO (fun c j hc => f c j (by omega)) (f _ _ (by omega)) f z1 z3 ⟨fun c j q q1 q2 => f c j (by unfold ccS at q; omega), by rw [t_cl, t_cl]; show (om z).toNat = (om x).toNat + 1; omega, z1, z2, r5⟩
  · obtain ⟨⟨hT, b1, b2, b3⟩, ⟨u1, u2⟩, hp, hP⟩ := hS
    unfold SU SV US RB mt
    rw [f 20 7 (by omega), f 60 3 (by omega), e4]
    refine ⟨⟨kT_fm hT la.1, b1, b2, b3⟩, ⟨fun j h1 h2 => ?_, fun j h1 h2 => ?_⟩, hp, fun i hi => La_PQ la (f _ _ (by omega)) (f _ _ (by omega)) (hP i hi)⟩
    · rw [f 42 j (by omega)]; exact u1 j h1 h2
    · rw [f 42 j (by omega)] at h2; rw [f 42 _ (by omega)]; exact u2 j h1 h2
  · unfold FR at hF ⊢
    rw [f 100 4 (by omega), f 42 _ (by omega)]; exact hF
  · obtain ⟨k1, o1, o2, o3, o4⟩ := r1 r5
    refine ⟨KN_fm k1 (f _ _ (by omega)) (f _ _ (by omega)) (fun k => f _ _ (by omega)), ?_⟩
    unfold OPs
    rw [eO, f 100 9 (by omega), f 100 7 (by omega)]
    refine ⟨by omega, fun j hj => ?_, fun i j hij hj => ?_, o4⟩
    · by_cases hj2 : j = (x.1 100 13).toNatClampNeg
      · subst hj2
        unfold OP1
        rw [z1, z2, z3, f 100 9 (by omega)]
        refine ⟨fun c => hn.1 (by omega), fun c => ?_, k1.1.1, Int.le_refl _⟩
        obtain ⟨p1, n, p2, p3, p4⟩ := hn.2 (by omega)
        refine ⟨p1, n, p2, by omega, ?_⟩
        unfold sop at p4 ⊢
        rw [f 81 n (by omega)]; exact p4
      · have := o2 j (by omega)
        unfold OP1 at this ⊢
        rw [f 111 j (by omega), f 112 j (by omega), f 113 j (by omega), f 100 9 (by omega), es]
        refine ⟨this.1, fun c => ?_, this.2.2⟩
        obtain ⟨p1, n, p2, p3, p4⟩ := this.2.1 c
        refine ⟨p1, n, p2, p3, ?_⟩
        unfold sop at p4 ⊢
        rw [f 81 n (by omega)]; exact p4
    · by_cases hj2 : j = (x.1 100 13).toNatClampNeg
      · by_cases hi2 : i = (x.1 100 13).toNatClampNeg
        · rw [hi2, hj2]; exact Int.le_refl _
        · rw [hj2, z3, f 113 i (by omega)]
          exact (o2 i (by omega)).2.2.2
      · rw [f 113 i (by omega), f 113 j (by omega)]; exact o3 i j hij (by omega)
  · unfold CD at r3 ⊢
    rw [f 60 6 (by omega), f 60 9 (by omega), f 60 10 (by omega), f 60 14 (by omega), f 60 16 (by omega), f 60 13 (by omega), z5, f 100 9 (by omega), f 40 8 (by omega), f 40 10 (by omega)]
    exact r3
  · unfold TS at r7 ⊢
    rw [f 60 10 (by omega), z5, es]
    refine ⟨fun t ht => ?_, fun c => absurd c r5⟩
    rw [f 72 t (by omega)]; exact r7.1 t ht
  · have ep : sop z i = sop x i := by unfold sop; rw [f 81 i (by omega)]
    have et : stg z i = stg x i := by unfold stg; rw [f 84 i (by omega)]
    by_cases hEi : E i
    · by_cases hi6 : i = 1000000
      · exfalso; omega
      · have heq : (i : Int) = s.toInt := by
          by_cases h9 : (i : Int) = s.toInt
          · exact h9
          · exact absurd (Or.inr ⟨hi6, hEi, h9⟩) he
        intro _
        refine Or.inl ⟨by rw [et]; exact hE i (by omega) hEi heq, by rw [z5]; exact r5, (x.1 100 13).toNatClampNeg, by omega, by rw [z2]; omega⟩
    · have := hC i (by omega) hEi
      unfold SC at this ⊢
      rw [ep, et, z5, es]
      intro c
      rcases this c with ⟨p1, p2, j, p3, p4⟩ | ⟨p1, p2, p3, p4⟩
      · exact Or.inl ⟨p1, p2, j, by omega, by rw [f 112 j (by omega)]; exact p4⟩
      · refine Or.inr ⟨p1, p2, p3, fun c2 => (p4 c2).imp id (fun e => ?_)⟩
        unfold sop at e ⊢
        rw [f 81 _ (by omega)]; exact e
  · have : j = (x.1 100 13).toNatClampNeg := by omega
    rw [this, z1]
    intro c
    exact he (Or.inl ⟨rfl, c⟩)
  · by_cases hj2 : j + 1 = (x.1 100 13).toNatClampNeg
    · rw [hj2, z1]
      rcases h5 with e | e
      · rw [f 111 j (by omega)] at c
        exact absurd c (e j (by omega))
      · exact e
    · rw [f 111 j (by omega)] at c
      rw [f 111 (j + 1) (by omega)]
      exact hI.2 j (by omega) c
theorem kd_openBlock (hq : kV q) (k s : Int32) (hx : ¬ (K (nn x) = 63 ∧ nn x < 700) → RX x0 X) (hR : RIw K V sN e Ev xs x Ml) (hV : KV' K e x Ev9) {u B : List Nat} {z9 : Nat} (hz : k.toInt = (z9 : Nat)) (hS : SKs x (om x).toNat u B) (hB : BB x0 x M E) (ho : om x ≤ 17) (hsm : ssm x < 1000) (hk5 : ¬ k = 5) (h5 : TIk x ∨ k = 3 ∨ k = 4 ∨ k = 5) (hn : NB x k s) (hE : ∀ i : Nat, (i : Int) < ssm x → E i → i = 1000000 ∨ ((i : Int) = s.toInt ∧ stg x i = -1)) (h : ∀ y, BB x0 y M E0 → nx y = nx x + 1 → ssm y = ssm x → om y = om x + 1 → y.1 60 13 = x.1 60 13 → K (nn x) = 63 → nn x < 700 → nn y = nn x + 1 → Lb x y → RIw K V sN e Ev xs y Ml → KV' K e y Ev9 → SKs y (om y).toNat (z9 :: u) ((x.1 100 9).toNatClampNeg :: B) → y.1 100 7 = x.1 100 7 → (∃ w, (∀ c k, ccS c k → w.1 c k = x.1 c k) ∧ Pu w y k s) → Fv y) : KE G q (d + 8) zk_X7_openBlock 0 [(0, vr 100), (1, vi k), (2, vi s)] [] x (rv Fv) X := by
  refine kg_X7_openBlock_0 hq _ _ (kd_need hq 23 63 (by decide) (by decide) (by decide) hx hB hR (fun kk c7 y hBy ny gy en hRy _ hcy => ?_))
  have e1 := GS_om gy
  have e2 := GS_sm gy
  refine kd_enter hq hBy (by omega) (by omega) k s (h5.imp (fun e => TI_eq e (GS_at gy _ _ (by unfold sSum; omega)) (fun k => GS_at gy _ _ (by unfold sSum; omega))) id) (NB_GS gy hn) (fun i hi he hs => ?_) (fun z hBz nz sz oz fz z4 ff t1 t3 hpu => rv_i (h z (BB_E hBz ?_ ?_) (by omega) (by omega) (by omega) (by rw [fz 60 13 (by omega), GS_at gy 60 13 (by unfold sSum; omega)]) kk c7 (by rw [← en]; unfold nn; rw [z4]) (Lb_tr (Lb_GS gy) (Lb_fm ff (fun c k q => by unfold Tc; omega))) (RI_st hRy z4 (fun j => fz _ _ (by omega)) (fun c k q1 q2 => fz _ _ (by omega))) (KV_fm (KV_GS gy hV) (ff _ _ (by omega)) (fun k => ff _ _ (by omega))) ?_ (by rw [ff 100 7 (by omega), GS_at gy 100 7 (by unfold sSum; omega)]) ⟨y, hcy, hpu⟩))
  · have : stg y i = stg x i := by unfold stg; rw [GS_at gy 84 i (by unfold sSum; omega)]
    rw [this]
    rcases hE i (by omega) he with e | e
    · omega
    · exact e.2
  · rintro (⟨-, e⟩ | ⟨e, -⟩)
    · exact absurd e hk5
    · exact absurd rfl e
  · rintro i hi (⟨e, -⟩ | ⟨e0, e, e2⟩) _
    · omega
    · rcases hE i (by omega) e with g | g
      · exact absurd g e0
      · exact absurd g.1 e2
  · have o0 := (BB_om hB).1.1
    have ey : (y.1 100 13).toNatClampNeg = (om x).toNat := by rw [t_cl]; show (om y).toNat = _; rw [e1]
    have ez : (om z).toNat = (om x).toNat + 1 := by omega
    rw [ey] at t1 t3 ff
    rw [ez]
    refine ⟨z9, u, rfl, by rw [t1]; exact hz, Or.inr ⟨?_, (x.1 100 9).toNatClampNeg, B, rfl, ?_, SKs_eq (fun k hk => ⟨?_, ?_⟩) hS⟩⟩
    · intro q5
      apply hk5
      have k5 : (5 : Int32).toInt = 5 := rfl
      rw [t_eq, k5, hz, q5]; rfl
    · rw [t3, GS_at gy 100 9 (by unfold sSum; omega)]
    · rw [ff 111 k (by omega), GS_at gy 111 k (by unfold sSum; omega)]
    · rw [ff 113 k (by omega), GS_at gy 113 k (by unfold sSum; omega)]
end KOPF
end
section
/-! the class: if and while -/
section KTF2
variable {G : kG} {q : kP} {d : Nat} {x x0 y z xs : gd} {F : Int32 → gd → Prop} {Fv : gd → Prop} {X : String → gd → Prop} {P : Option gv → gd → Prop} {M : Int} {E : Nat → Prop} {K V : Nat → Int32} {sN : Nat → Nat → Bool} {e : Nat} {Ev : gV} {Ml N : gU} {W : gTs}
theorem kd_test (hq : kV q) (k : Int32) (f c9 z9 v9 : Nat) (L : gU) {u B : List Nat} (hx : W = none → RX x0 X) (eW : W = eX K u c9 (nn x) L) (hf : (f : Int) + om x = 16) (hkz : (k = 1 ∧ K (nn x) = 41 ∧ z9 = 1 ∧ v9 = 61) ∨ (k = 3 ∧ K (nn x) = 24 ∧ z9 = 3 ∧ v9 = 60)) (hA : KA K V sN e x) (hn : nn x ≤ e) (hV : KV' K e x Ev) (hEv : ¬ Ev.2.1 = []) (hS : SKs x (om x).toNat u B) (hB : BB x0 x M E) (hE : ∀ i, E i → i = 1000000) (h1 : 1 ≤ om x) (ho : om x ≤ 16) (ha : 2 * ssm x + om x ≤ nx x) (hk : k = 1 ∨ k = 3) (h5 : TIk x ∨ k = 3) (h : ∀ y, BB x0 y M E0 → nx x < nx y → om y = om x + 1 → 2 * ssm y + om y ≤ nx y → y.1 60 13 = x.1 60 13 → Lb x y → KV' K e y Ev → SKs y (om y).toNat (z9 :: u) (Ev.1.length :: B) → y.1 100 7 = x.1 100 7 → ∀ N, RIw K V sN e Ev x y (N ++ [(20, z9, 0)]) → still N → W = eS K (z9 :: u) c9 (nn y) (L ++ (N ++ [(20, z9, 0)])) → CG sN V K Ev x y (N ++ [(20, z9, 0)]) → Fv y) : KE G q (d + 10) zk_X7_testStatement 0 [(0, vr 100), (1, vi k)] [] x (rv Fv) X := by
  have bx0 := hB.1.1.2.1
  have cx := nn_is bx0
  have o0 := (BB_om hB).1.1
  have ul := SKs_len hS
  have hf1 : 17 - u.length = f + 1 := by omega
  have hk0 : ¬ K (nn x) = 0 ∧ ¬ K (nn x) = 3 := by rcases hkz with ⟨-, e, -⟩ | ⟨-, e, -⟩ <;> rw [e] <;> decide
  have z5 : ¬ z9 = 5 := by rcases hkz with ⟨-, -, e, -⟩ | ⟨-, -, e, -⟩ <;> omega
  have hkz9 : k.toInt = (z9 : Nat) := by rcases hkz with ⟨e1, -, e2, -⟩ | ⟨e1, -, e2, -⟩ <;> rw [e1, e2] <;> rfl
  have hv9 : dull (v9, nn x, 0) ∧ still [(v9, nn x, 0)] := by rcases hkz with ⟨-, -, -, e⟩ | ⟨-, -, -, e⟩ <;> rw [e] <;> exact ⟨dull_k (by decide), stl_k (by decide)⟩
  have d20 : dull (20, z9, 0) := dull_k (by decide)
  refine kg_X7_testStatement_0 hq _ ⟨RB_at hB.1.1, kd_pass (xs := x) (Ml := []) (Ev := Ev) hq (fun c7 => hx ?_) hB ⟨hA, hn, UR_0 rfl⟩ hk0.1 hk0.2 (fun c7 y hBy ny gy eny hRy u0 hcy => ?_)⟩
  · rw [eW]
    refine eX_0 ?_
    rw [hf1, pS, if_pos c7]
  have hW1 : W = (pX K false f (nn x + 1) L).bind (fun q => (pBk (pS K f) K z9 c9 q.1 (q.2 ++ [(v9, nn x, 0)])).bind (fun q => eC K z9 u q.1 q.2.1 q.2.2)) := by
    rw [eW]
    cases hp : pX K false f (nn x + 1) L with
    | none =>
      refine eX_0 ?_
      rw [hf1, pS, if_neg (by omega)]
      rcases hkz with ⟨-, e, -⟩ | ⟨-, e, -⟩
      · rw [if_neg (by rw [e]; decide), if_pos e, hp]; rfl
      · rw [if_pos e, hp]; rfl
    | some q9 =>
      rcases hkz with ⟨-, e, e2, e3⟩ | ⟨-, e, e2, e3⟩
      · rw [e2, e3, eX_while hf1 c7 e hp]; rfl
      · rw [e2, e3, eX_if hf1 c7 e hp]; rfl
  have by0 := hBy.1.1.2.1
  have e1 := GS_om gy
  have e2 := GS_sm gy
  obtain ⟨p1, p2⟩ := BB_om hBy
  have eF : 17 - (y.1 100 13 + 1).toNatClampNeg = f := by
    have u := t_cl (y.1 100 13 + 1)
    rw [p2 (by omega)] at u
    omega
  have hVy := KV_GS gy hV
  refine kd_sum hq _ L (fun q9 => hx (by rw [eF, eny] at q9; rw [hW1, q9]; rfl)) hBy hRy.1 hRy.2.1 hVy (by rw [p2 (by omega)]; omega) (by rw [p2 (by omega)]; omega) (fun r z hBz nz gz N2 hRz hN2 hpX hcp hrr => ?_)
  rw [eF, eny] at hpX
  obtain ⟨N20, -, hPz⟩ := PD_xp (PD_0 (x := x) (t := none) (N := []) hcy (Or.inl rfl)) hpX hcp gz hrr
  rw [hpX] at hW1
  have hW2 : W = (pBk (pS K f) K z9 c9 (nn z) (L ++ N2 ++ [(v9, nn x, 0)])).bind (fun q => eC K z9 u q.1 q.2.1 q.2.2) := hW1
  have hRxz : RIw K V sN e Ev x z (N2 ++ [(v9, nn x, 0)]) := by
    have r1 := RI_app by0 still_nil hRy gz.1 hRz
    exact ⟨r1.1, r1.2.1, UR_dull r1.2.2 hv9.1⟩
  have hVz := KV_GS gz hVy
  have e3 := GS_om gz
  have e4 := GS_sm gz
  obtain ⟨a1, a2, a3, a4, a5⟩ := BB_400 hBz (by omega)
  refine kf_add hq _ _ _ a1 a2 (fun w hA vin hF9 => ⟨vin, fun v ev => ?_⟩)
  obtain ⟨f1, f2, f3, f4, f5⟩ := hA
  have fz : fm (fun c k => (81 ≤ c ∧ c ≤ 89 ∧ k = (z.1 80 9).toNatClampNeg) ∨ (c = 80 ∧ k = 9)) z v := by rw [ev]; exact fm_si f1 (Or.inl ⟨by omega, by omega, rfl⟩)
  have es : ssm v = ssm z + 1 := by
    have : v.1 80 9 = w.1 80 9 := by rw [ev]; (simp only [si_get, sfl_get, Nat.reduceEqDiff, eq_self, and_false, false_and, and_true, true_and, if_true, if_false, reduceIte, reduceCtorEq])
    unfold ssm at *; rw [this]; exact f2
  have z81 : v.1 81 (z.1 80 9).toNatClampNeg = 17 := by rw [ev]; (simp only [si_get, sfl_get, Nat.reduceEqDiff, eq_self, and_false, false_and, and_true, true_and, if_true, if_false, reduceIte, reduceCtorEq]); exact f3
  have z83 : v.1 83 (z.1 80 9).toNatClampNeg = z.1 100 9 := by rw [ev]; (simp only [si_get, sfl_get, Nat.reduceEqDiff, eq_self, and_false, false_and, and_true, true_and, if_true, if_false, reduceIte, reduceCtorEq]); exact f4
  have z84 : v.1 84 (z.1 80 9).toNatClampNeg = -1 := by rw [ev]; (simp only [si_get, sfl_get, Nat.reduceEqDiff, eq_self, and_false, false_and, and_true, true_and, if_true, if_false, reduceIte, reduceCtorEq]); exact f5
  have k17 : (17 : Int32).toInt = 17 := rfl
  have hstK : stK z v 17 (z.1 100 9) (-1) (-1) (-1) r (-1) := ⟨fun c k q q1 q2 => fz c k (fun w => w.elim q1 q2), es, z81, z83, z84, by rw [ev]; (simp only [si_get, sfl_get, Nat.reduceEqDiff, eq_self, and_false, false_and, and_true, true_and, if_true, if_false, reduceIte, reduceCtorEq]); exact hF9.1, by rw [ev]; (simp only [si_get, sfl_get, Nat.reduceEqDiff, eq_self, and_false, false_and, and_true, true_and, if_true, if_false, reduceIte, reduceCtorEq]); exact hF9.2.1, by rw [ev]; (simp only [si_get, sfl_get, Nat.reduceEqDiff, eq_self, and_false, false_and, and_true, true_and, if_true, if_false, reduceIte, reduceCtorEq]), by rw [ev]; (simp only [si_get, sfl_get, Nat.reduceEqDiff, eq_self, and_false, false_and, and_true, true_and, if_true, if_false, reduceIte, reduceCtorEq]); exact hF9.2.2.2.1⟩
  have hv60 : v9 = 60 ∨ v9 = 61 := by rcases hkz with ⟨-, -, -, e⟩ | ⟨-, -, -, e⟩ <;> omega
  have hk00 : ¬ k = 0 := by rcases hk with e | e <;> rw [e] <;> decide
  have hSA : SA v M (z.1 80 9).toNatClampNeg := by
    unfold SA sop stg
    rw [z81, z83, k17]
    exact ⟨by omega, ⟨a4, a5⟩, fun c => by omega, fun c => by omega⟩
  have hBv := BB_add hBz (n := (z.1 80 9).toNatClampNeg) (by omega) fz es hSA
  have n4 : nx v = nx z := by unfold nx; rw [fz 100 4 (by omega)]
  have n13 : om v = om z := by unfold om; rw [fz 100 13 (by omega)]
  have hk' : (1 ≤ k.toInt ∧ k.toInt ≤ 5) ∧ ¬ k = 5 ∧ ¬ k = 2 ∧ ¬ k = 4 := by rcases hk with rfl | rfl <;> decide
  have nvz : nn v = nn z := by unfold nn; rw [fz 100 4 (by omega)]
  have hRv : RIw K V sN e Ev x v (N2 ++ [(v9, nn x, 0)]) := RI_st hRxz (fz _ _ (by omega)) (fun j => fz _ _ (by omega)) (fun c k q1 q2 => fz _ _ (by omega))
  have hVv : KV' K e v Ev := KV_fm hVz (fz _ _ (by omega)) (fun k => fz _ _ (by omega))
  have hSv : SKs v (om v).toNat u B := by
    rw [n13, e3, e1]
    exact SKs_eq (fun k _ => ⟨by rw [fz 111 k (by omega), GS_at gz 111 k (by unfold sSum; omega), GS_at gy 111 k (by unfold sSum; omega)], by rw [fz 113 k (by omega), GS_at gz 113 k (by unfold sSum; omega), GS_at gy 113 k (by unfold sSum; omega)]⟩) hS
  have v9c : (v.1 100 9).toNatClampNeg = Ev.1.length := by rw [t_cl, hVv.1]; rfl
  refine kd_openBlock hq k _ (fun no => hx (by rw [hW2, pBk, if_neg (by rw [← nvz]; exact no)]; rfl)) hRv hVv hkz9 hSv hBv (by omega) (by omega) hk'.2.1 (h5.imp (fun e => TI_eq (TI_eq (TI_eq e (GS_at gy _ _ (by unfold sSum; omega)) (fun k => GS_at gy _ _ (by unfold sSum; omega))) (GS_at gz _ _ (by unfold sSum; omega)) (fun k => GS_at gz _ _ (by unfold sSum; omega))) (fz _ _ (by omega)) (fun k => fz _ _ (by omega))) Or.inl) ⟨fun c => by omega, fun _ => ⟨hk'.1, (z.1 80 9).toNatClampNeg, a3.symm, by omega, fun _ => by unfold sop; rw [z81]; rfl, fun c => absurd c hk'.2.2.1, fun c => ?_⟩⟩ (fun i hi he => ?_) (fun w9 hBu nu su ou u13 kk c79 enu lau hRu hVu hSu u7 hpu => rv_i (h w9 hBu (by omega) (by omega) (by omega) (by rw [u13, fz 60 13 (by omega), GS_at gz 60 13 (by unfold sSum; omega), GS_at gy 60 13 (by unfold sSum; omega)]) (Lb_tr (Lb_tr (Lb_GS (GS_tr gy gz)) (Lb_fm fz (fun c k q => by unfold Tc; omega))) lau) hVu (by rw [v9c] at hSu; exact hSu) (by rw [u7, fz 100 7 (by omega), GS_at gz 100 7 (by unfold sSum; omega), GS_at gy 100 7 (by unfold sSum; omega)]) (N2 ++ [(v9, nn x, 0)]) ⟨hRu.1, hRu.2.1, UR_dull hRu.2.2 d20⟩ (still_app hN2 hv9.2) (by rw [nvz] at kk c79 enu; rw [hW2, eS_block z5 (by omega) kk c79, enu, List.append_assoc L, List.append_assoc L]) (hpu.elim (fun w0 q0 => CG_test hPz hEv hVz hstK q0.1 q0.2 hk00 hv60))))
  · rcases c with c | c
    · exact absurd c hk'.2.2.2
    · exact absurd c hk'.2.1
  · rcases he with he | he
    · exact Or.inl (hE i he)
    · refine Or.inr ⟨by rw [he]; exact a3, ?_⟩
      rw [he]; unfold stg; rw [z84]; rfl
end KTF2
end
section
/-! the class: blocks are closed; statements -/
abbrev E1 : Nat → Prop := fun i => i = 1000000
/-- outside a thread -/
def OT (x0 x : gd) : Prop := SU x ∧ FR x ∧ RI0 x (x.1 60 13).toInt ∧ SCs x E0 ∧ x.1 100 5 = 0 ∧ fm sR x0 x ∧ 2 * ssm x ≤ nx x
/-- within a thread, between statements -/
def IT (x0 x : gd) : Prop := (BB x0 x (x.1 60 13).toInt E0 ∨ (BB x0 x (x.1 60 13).toInt E1 ∧ x.1 23 (x.1 100 4).toNatClampNeg = 54)) ∧ 1 ≤ om x ∧ om x ≤ 17 ∧ 2 * ssm x + om x ≤ nx x
section KCL
variable {G : kG} {q : kP} {d : Nat} {x x0 y z : gd} {F : Int32 → gd → Prop} {Fv : gd → Prop} {X : String → gd → Prop} {P : Option gv → gd → Prop} {M : Int} {E : Nat → Prop}
end KCL
end
section
/-! the class: an if ends -/
def n63 (N : gU) : Prop := ∀ v ∈ N, v = (63, 0, 0)
theorem n63_still {N : gU} (h : n63 N) : still N := fun v hv => by rw [h v hv]; decide
theorem n63_dull {v : Nat × Nat × Nat} (h : v = (63, 0, 0)) : dull v := by
  intro k hk c
  rw [h] at c
  have c : 63 = k := c
  rw [← c] at hk
  exact absurd hk (by decide)
theorem UR_63 {sN : Nat → Nat → Bool} {E : gV} {x y : gd} : ∀ {N M : gU}, UR sN E x y M → n63 N → UR sN E x y (M ++ N) := by
  intro N
  induction N with
  | nil => intro M h _; rw [List.append_nil]; exact h
  | cons v N ih =>
    intro M h g
    have := ih (UR_dull h (n63_dull (g v List.mem_cons_self))) (fun w hw => g w (List.mem_cons_of_mem _ hw))
    rw [List.append_assoc] at this
    exact this
section KEF
variable {G : kG} {q : kP} {d : Nat} {x x0 y z : gd} {F : Int32 → gd → Prop} {Fv : gd → Prop} {X : String → gd → Prop} {P : Option gv → gd → Prop} {M : Int} {E : Nat → Prop} {sN : Nat → Nat → Bool} {V : Nat → Int32}
theorem kd_endIf (hq : kV q) (K : Nat → Int32) (u B : List Nat) (c9 j9 : Nat) (L : gU) (hS : SKs x (om x).toNat u B) (hB : BB x0 x M E) (s : Int32) {n : Nat} (es : s.toInt = n) (hn : (n : Int) < ssm x) (hsm : ssm x < 400) (hop : sop x n = 17 ∨ sop x n = 20) (hE : ∀ i : Nat, (i : Int) < ssm x → E i → i = n) (h : ∀ y, BB x0 y M E0 → nx y = nx x → ssm y = ssm x → om y ≤ om x → (1 ≤ om x → 1 ≤ om y) → y.1 60 13 = x.1 60 13 → fm (fun c k => c = 84 ∨ (c = 100 ∧ k = 13)) x y → ∀ uy N, SKs y (om y).toNat uy B → n63 N → eS K u c9 j9 L = eS K uy c9 j9 (L ++ N) → CE sN V K n x y N → Fv y) : KT G q d zk_X7_endIf 0 [(0, vr 100), (1, vi s)] [] x (rv Fv) := by
  have eN : s.toNatClampNeg = n := by rw [t_cl, es]; rfl
  have k0 : (0 : Int32).toInt = 0 := rfl
  have k20 : (20 : Int32).toInt = 20 := rfl
  refine kg_X7_endIf_0 hq _ ⟨by rw [vp_in_iff]; omega, fun x2 e2 => ?_⟩
  rw [eN] at e2
  have hB2 : BB x0 x2 M E1 := BB_E (BB_tg hB (by omega) hn hop e2 ⟨hB.2.2.1.2.2.2.1.1, Int.le_refl _, fun _ => Or.inl hn⟩) (fun _ => rfl) (fun i hi he _ => by
    have : ssm x2 = ssm x := by unfold ssm; rw [e2, si_cell (by decide)]
    exact absurd (hE i (by omega) he.1) he.2)
  have h8 : ∀ (g : gd) (i : Nat), (sop g i = 17 ∨ sop g i = 20) → ¬ g.1 81 i = 8 := fun g i hg q => by
    unfold sop at hg
    rw [q] at hg
    exact absurd hg (by decide)
  have f2 : fm (fun c k => c = 84) x x2 := by rw [e2]; exact fm_si (fm_rf _ _) rfl
  have loop : ∀ (m : Nat) (k : Int32) (y : gd) (uy : List Nat) (N : gU), SKs y (om y).toNat uy B → n63 N → eS K u c9 j9 L = eS K uy c9 j9 (L ++ N) → CE sN V K n x y N → BB x0 y M E1 → fm (fun c k => c = 84 ∨ (c = 100 ∧ k = 13)) x y → om y ≤ om x → (1 ≤ om x → 1 ≤ om y) → 0 ≤ k.toInt → k.toInt + om y ≤ 18 → om y ≤ m → KT G q d zk_X7_endIf 18 [(0, vr 100), (2, vi k)] [] y (rv Fv) := by
    intro m
    induction m with
    | zero =>
      intro k y uy N hSy hN hWy hCy hBy fy o1 o2 hk0 hk hm
      have o0 := (BB_om hBy).1.1
      refine kg_X7_endIf_18 hq _ ⟨fun c => ?_, fun c => ⟨fun c2 => rv_i (h y ?_ ?_ ?_ o1 o2 (fy _ _ (by omega)) fy uy N hSy hN hWy hCy), fun c2 => ?_⟩⟩
      · exfalso; rw [t_le, k20] at c; omega
      · refine ⟨hBy.1, hBy.2.1, hBy.2.2.1, fun i hi he => hBy.2.2.2.1 i hi (fun e => ?_), hBy.2.2.2.2.1, hBy.2.2.2.2.2.1, fun _ k hk2 => by omega, hBy.2.2.2.2.2.2.2⟩
        have : ssm y = ssm x := by unfold ssm; rw [fy 80 9 (by omega)]
        have e' : i = 1000000 := e
        omega
      · unfold nx; rw [fy 100 4 (by omega)]
      · unfold ssm; rw [fy 80 9 (by omega)]
      · exfalso; rw [t_le, k0] at c2; unfold om at *; omega
    | succ m ih =>
      intro k y uy N hSy hN hWy hCy hBy fy o1 o2 hk0 hk hm
      have o0 := (BB_om hBy).1.1
      have esm : ssm y = ssm x := by unfold ssm; rw [fy 80 9 (by omega)]
      have out : (TIk y) → Fv y := fun hT => by
        refine h y ⟨hBy.1, hBy.2.1, hBy.2.2.1, fun i hi he => hBy.2.2.2.1 i hi (fun e => ?_), hBy.2.2.2.2.1, hBy.2.2.2.2.2.1, fun _ => hT, hBy.2.2.2.2.2.2.2⟩ ?_ esm o1 o2 (fy _ _ (by omega)) fy uy N hSy hN hWy hCy
        · have e' : i = 1000000 := e
          omega
        · unfold nx; rw [fy 100 4 (by omega)]
      refine kg_X7_endIf_18 hq _ ⟨fun c => ?_, fun c => ⟨fun c2 => rv_i (out (fun k hk2 => ?_)), fun c2 => ?_⟩⟩
      · exfalso; rw [t_le, k20] at c; omega
      · rw [t_le, k0] at c2; unfold om at *; omega
      rw [t_le, k0] at c2
      have o1' : 1 ≤ om y := by unfold om at *; omega
      have e13 : (y.1 100 13 - 1).toInt = om y - 1 := t_sub (by show _ ≤ _ - (1 : Int); unfold om at *; omega) (by show _ - (1 : Int) ≤ _; unfold om at *; omega)
      have n13 : (y.1 100 13 - 1).toNatClampNeg = (om y).toNat - 1 := by rw [t_cl, e13]; omega
      refine ⟨by rw [vp_in_iff, e13]; omega, fun c3 => rv_i (out (fun k hk2 => ?_)), fun c3 x5 e5 => ?_⟩
      · rw [n13] at c3
        have : k = (om y).toNat - 1 := by omega
        rw [this]; exact c3
      rw [n13] at c3
      obtain ⟨ky, oy, cy⟩ := BB_k hBy
      have hop1 := oy.2.1 ((om y).toNat - 1) (by omega)
      have hpos : 0 < (om y).toNat - 1 := by
        refine Nat.pos_of_ne_zero (fun e => ?_)
        have := (hop1.1 e).1
        rw [c3] at this
        exact absurd this (by decide)
      obtain ⟨-, t, t1, t2, -, -, t5⟩ := hop1.2.1 hpos
      have t20 := t5 (Or.inr c3)
      have f5 : fm (fun c k => c = 100 ∧ k = 13) y x5 := by rw [e5]; exact fm_si (fm_rf _ _) ⟨rfl, rfl⟩
      have q5 : om x5 = om y - 1 := by
        have : x5.1 100 13 = y.1 100 13 - 1 := by rw [e5]; (simp only [si_get, sfl_get, Nat.reduceEqDiff, eq_self, and_false, false_and, and_true, true_and, if_true, if_false, reduceIte, reduceCtorEq])
        unfold om at *; rw [this]; exact e13
      have hB5 := BB_pop hBy o1' (fm_w f5 (fun c k q => ⟨q.1, Or.inr q.2⟩)) q5 (by rw [f5 100 9 (by omega)]; exact ⟨ky.1.1, Int.le_refl _⟩) (fun j hj => by rw [f5 100 9 (by omega)]; exact (oy.2.1 j (by omega)).2.2.2)
      have m5 : (x5.1 100 13).toNatClampNeg = (om y).toNat - 1 := by
        rw [t_cl]; show (om x5).toNat = _; omega
      have s5 : x5.1 112 ((om y).toNat - 1) = y.1 112 ((om y).toNat - 1) := f5 _ _ (by omega)
      have tN : (y.1 112 ((om y).toNat - 1)).toNatClampNeg = t := by rw [t_cl, t1]; rfl
      have sm5 : ssm x5 = ssm y := by unfold ssm; rw [f5 80 9 (by omega)]
      refine ⟨by rw [vp_in_iff]; show 0 ≤ om x5 ∧ om x5 < _; omega, ?_⟩
      rw [m5, s5]
      refine ⟨by rw [vp_in_iff]; omega, fun x8 e8 => ?_⟩
      rw [tN] at e8
      have p5 : sop x5 t = 20 := by unfold sop at t20 ⊢; rw [f5 81 t (by omega)]; exact t20
      have hB8 : BB x0 x8 M E1 := BB_E (BB_tg hB5 (by omega) (n := t) (by omega) (Or.inr p5) e8 ⟨hB5.2.2.1.2.2.2.1.1, Int.le_refl _, fun _ => Or.inl (by show (t : Int) < ssm x5; omega)⟩) (fun _ => rfl) (fun i hi he hne => by
        rcases he with ⟨e | e | e, e2⟩
        · exact absurd e hne
        · exact absurd (by omega) e2
        · exact absurd e hne)
      have f8 : fm (fun c k => c = 84) x5 x8 := by rw [e8]; exact fm_si (fm_rf _ _) rfl
      have o8 : om x8 = om x5 := by unfold om; rw [f8 100 13 (by omega)]
      have ek : (k + 1).toInt = k.toInt + 1 := t_add (by show _ ≤ _ + (1 : Int); omega) (by show _ + (1 : Int) ≤ _; omega)
      have k5 : (5 : Int32).toInt = 5 := rfl
      have nS : (om y).toNat = ((om y).toNat - 1) + 1 := by omega
      have e8n : (om x8).toNat = (om y).toNat - 1 := by omega
      have v1 : om x8 ≤ om x := by omega
      have v2 : 1 ≤ om x8 := by omega
      have v3 : 0 ≤ (k + 1).toInt := by omega
      have v4 : (k + 1).toInt + om x8 ≤ 18 := by omega
      have v5 : om x8 ≤ (m : Int) := by omega
      rw [nS] at hSy
      obtain ⟨z9, u', q1, q2, q3⟩ := hSy
      rw [c3, k5] at q2
      have z5 : z9 = 5 := by clear q3; omega
      have hS' : SKs y ((om y).toNat - 1) u' B := by
        rcases q3 with ⟨-, q⟩ | ⟨q, -⟩
        · exact q
        · exact absurd z5 q
      have hS8 : SKs x8 (om x8).toNat u' B := by
        rw [e8n]
        exact SKs_eq (fun k _ => ⟨by rw [f8 _ _ (by omega), f5 _ _ (by omega)], by rw [f8 _ _ (by omega), f5 _ _ (by omega)]⟩) hS'
      exact ih (k + 1) x8 u' (N ++ [(63, 0, 0)]) hS8 (fun v hv => (List.mem_append.mp hv).elim (hN v) (fun q => List.mem_singleton.mp q)) (by rw [hWy, q1, z5, eS_5, List.append_assoc]) (CE_more hCy ⟨fun c j _ q => f5 c j q, by rw [m5, t_cl]; show _ = (om y).toNat; omega, by rw [m5, c3]; decide, by rw [m5]; exact t1, hBy.2.2.2.2.1⟩ e8 (h8 _ _ (Or.inr p5))) hB8 (fm_tr fy (fm_tr (fm_w f5 (fun c k q => Or.inr q)) (fm_w f8 (fun c k q => Or.inl q)))) v1 (fun _ => v2) v3 v4 v5
  have o2 : om x2 = om x := by unfold om; rw [f2 100 13 (by omega)]
  have o18 := (BB_om hB).1
  exact loop 18 _ x2 u [] (by rw [o2]; exact SKs_eq (fun k _ => ⟨f2 _ _ (by omega), f2 _ _ (by omega)⟩) hS) (fun v hv => by cases hv) (by rw [List.append_nil]) (CE_0 e2 (h8 _ _ hop)) hB2 (fm_w f2 (fun c k q => Or.inl q)) (by omega) (by omega) (by decide) (by rw [k0]; omega) (by omega)
end KEF
end
section
/-! the class: blocks are closed -/
section KCLF
variable {G : kG} {q : kP} {d : Nat} {x x0 y z xs : gd} {F : Int32 → gd → Prop} {Fv : gd → Prop} {X : String → gd → Prop} {P : Option gv → gd → Prop} {M : Int} {E : Nat → Prop} {K V : Nat → Int32} {sN : Nat → Nat → Bool} {e : Nat} {Ev : gV} {Ml N : gU} {W : gTs}
theorem RI_on (h0 : 0 ≤ nx y) (h : RIw K V sN e Ev x y Ml) (l : La y z) (g : RIw K V sN e (exs Ml Ev) y z N) : RIw K V sN e Ev x z (Ml ++ N) := ⟨g.1, g.2.1, UR_app h0 h.2.2 l g.2.2⟩
theorem RI_dull {v : Nat × Nat × Nat} (h : RIw K V sN e Ev x y Ml) (hv : dull v) : RIw K V sN e Ev x y (Ml ++ [v]) := ⟨h.1, h.2.1, UR_dull h.2.2 hv⟩
theorem RI_63 (h : RIw K V sN e Ev x y Ml) (hv : n63 N) : RIw K V sN e Ev x y (Ml ++ N) := ⟨h.1, h.2.1, UR_63 h.2.2 hv⟩
theorem eC_12 {z c j : Nat} {s : List Nat} {L : gU} (hz : z = 1 ∨ z = 2) : eC K z s c j L = eS K s c j L := by
  rw [eC, if_neg (by omega), if_neg (by omega), if_neg (by omega)]
theorem eC_4 {c j : Nat} {s : List Nat} {L : gU} : eC K 4 s c j L = eS K s c j (L ++ [(63, 0, 0)]) := by
  rw [eC, if_neg (by decide), if_neg (by decide), if_pos rfl]
theorem eC_0 {c j : Nat} {s : List Nat} {L : gU} : eC K 0 s c j L = some (c, j, L) := by
  rw [eC, if_pos rfl]
/-- the outermost block has no locals before it -/
def LBo (B : List Nat) : Prop := ∃ B', B = B' ++ [0]
theorem LBo_push {b : Nat} {B : List Nat} (h : LBo B) : LBo (b :: B) := by
  obtain ⟨B', e⟩ := h
  exact ⟨b :: B', by rw [e]; rfl⟩
theorem LBo_pop {B : List Nat} (h : LBo B) (h2 : ¬ B.tail = []) : LBo B.tail := by
  obtain ⟨B', e⟩ := h
  cases B' with
  | nil => rw [e] at h2; exact absurd rfl h2
  | cons b B' => exact ⟨B', by rw [e]; rfl⟩
theorem LBo_end {B : List Nat} (h : LBo B) (h2 : B.tail = []) : B.headD 0 = 0 := by
  obtain ⟨B', e⟩ := h
  cases B' with
  | nil => rw [e]; rfl
  | cons b B' => rw [e] at h2; exact absurd h2 (by simp)
/-- within a thread: what is known and open -/
def EN (K : Nat → Int32) (e : Nat) (x : gd) (u : List Nat) (Ev : gV) : Prop := KV' K e x Ev ∧ SKs x (om x).toNat u Ev.2.1 ∧ LBo Ev.2.1
theorem SKs_B0 : ∀ {n : Nat} {u B : List Nat}, SKs x n u B → (∀ k, k < n → 0 < k ∨ ¬ x.1 111 k = 5) → 1 ≤ n → ¬ B = [] := by
  intro n
  induction n with
  | zero => intro u B _ _ h; omega
  | succ n ih =>
    intro u B h g _
    obtain ⟨z, u', h1, h2, h3⟩ := h
    rcases h3 with ⟨a, b⟩ | ⟨a, b, B', c1, c2, c3⟩
    · by_cases hn : n = 0
      · rcases g n (Nat.lt_succ_self _) with g1 | g1
        · omega
        · exfalso
          apply g1
          have k5 : (5 : Int32).toInt = 5 := rfl
          rw [t_eq, k5]; omega
      · exact ih b (fun k hk => g k (Nat.lt_succ_of_lt hk)) (by omega)
    · rw [c1]; exact fun q => by cases q
theorem kd_openElse (hq : kV q) (c9 : Nat) (L : gU) {u : List Nat} (hx : W = none → RX x0 X) (eW : W = eC K 3 u c9 (nn x) L) (hul : (u.length : Int) = om x) (hA : KA K V sN e x) (hn0 : nn x ≤ e) (hN9 : EN K e x u Ev) (hB : BB x0 x M E) (s : Int32) {n : Nat} (es : s.toInt = n) (hn : (n : Int) < ssm x) (h1 : 1 ≤ om x) (ho : om x ≤ 16) (ha : 2 * ssm x + om x ≤ nx x) (hop : sop x n = 17) (hE : ∀ i : Nat, (i : Int) < ssm x → E i → i = n) (hs : x.1 23 (x.1 100 4).toNatClampNeg = 48) (h : ∀ y N u9, (BB x0 y M E0 ∧ W = eS K u9 c9 (nn y) (L ++ N) ∨ (BB x0 y M E1 ∧ y.1 23 (y.1 100 4).toNatClampNeg = 54) ∧ W = eX K u9 c9 (nn y) (L ++ N)) → RIw K V sN e Ev x y N → EN K e y u9 (exs N Ev) → Lb x y → y.1 100 7 = x.1 100 7 → nx x < nx y → ssm y = ssm x + 1 → om y = om x + 1 → 2 * ssm y + om y ≤ nx y + 2 → y.1 60 13 = x.1 60 13 → CGn sN V K n Ev x y N → Fv y) : KE G q (d + 9) zk_X7_openElse 0 [(0, vr 100), (1, vi s)] [] x (rv Fv) X := by
  have eN : s.toNatClampNeg = n := by rw [t_cl, es]; rfl
  have bx0 := hB.1.1.2.1
  have kk18 : K (nn x) = 18 := by rw [← hA.1 _ hn0, show x.1 23 (nn x) = 48 from hs]; decide
  obtain ⟨a1, a2, a3, a4, a5⟩ := BB_400 hB (by omega)
  have vs : vp_in s 400 := by rw [vp_in_iff]; omega
  refine kg_X7_openElse_0 hq _ ⟨vs, kf_add hq _ _ _ a1 a2 (fun w hAd vin hF9 => ⟨vs, fun z ez => ?_⟩)⟩
  obtain ⟨f1, f2, f3, f4, f5⟩ := hAd
  have hst : stK x w 20 (x.1 100 9) (-1) (-1) (-1) (-1) (-1) := ⟨fun c k q q1 q2 => f1 c k (fun z => z.elim q1 q2), f2, f3, f4, f5, hF9.1, hF9.2.1, hF9.2.2.1, hF9.2.2.2.1⟩
  rw [eN] at ez
  have k20 : (20 : Int32).toInt = 20 := rfl
  have hSA : SA w M (x.1 80 9).toNatClampNeg := by
    unfold SA sop stg
    rw [f3, f4, k20]
    exact ⟨by omega, ⟨a4, a5⟩, fun c => by omega, fun c => by omega⟩
  have hBw := BB_add hB (n := (x.1 80 9).toNatClampNeg) (by omega) f1 f2 hSA
  have pn : sop w n = 17 := by unfold sop at hop ⊢; rw [f1 81 n (by omega)]; exact hop
  have h8 : ¬ w.1 81 n = 8 := fun q => by
    unfold sop at pn
    rw [q] at pn
    exact absurd pn (by decide)
  have hBz := BB_tg hBw (by omega) (n := n) (by omega) (Or.inl pn) ez ⟨by show 0 ≤ ssm w; omega, Int.le_refl _, fun c => by omega⟩
  have fz : fm (fun c k => c = 84) w z := by rw [ez]; exact fm_si (fm_rf _ _) rfl
  have nz : nx z = nx x := by unfold nx; rw [fz 100 4 (by omega), f1 100 4 (by omega)]
  have sz : ssm z = ssm x + 1 := by
    have : ssm z = ssm w := by unfold ssm; rw [fz 80 9 (by omega)]
    omega
  have oz : om z = om x := by unfold om; rw [fz 100 13 (by omega), f1 100 13 (by omega)]
  have z4 : z.1 100 4 = x.1 100 4 := by rw [fz 100 4 (by omega), f1 100 4 (by omega)]
  have t84 : ¬ (x.1 80 9).toNatClampNeg = n := by omega
  have z84 : z.1 84 (x.1 80 9).toNatClampNeg = -1 := by rw [ez, si_get, if_neg (fun q => t84 q.2)]; exact f5
  have z81 : z.1 81 (x.1 80 9).toNatClampNeg = 20 := by rw [ez, si_cell (by decide)]; exact f3
  have nnz : nn z = nn x := by unfold nn; rw [z4]
  have hRz : RIw K V sN e Ev x z [] := RI_st ⟨hA, hn0, UR_0 rfl⟩ z4 (fun j => by rw [fz 42 j (by omega), f1 42 j (by omega)]) (fun c k q1 q2 => by rw [fz c k (by omega), f1 c k (by omega)])
  refine kd_pass (xs := x) (Ml := []) (Ev := Ev) hq (fun c7 => hx (by rw [eW]; exact eC_else7 kk18 (by omega))) hBz hRz (by rw [nnz, kk18]; decide) (by rw [nnz, kk18]; decide) (fun c7 y hBy ny gy eny hRy u0 hcy => kp_sort hq hBy.1.1 ?_)
  have ey := GS_om gy
  have sy := GS_sm gy
  have y81 : y.1 81 (x.1 80 9).toNatClampNeg = 20 := by rw [GS_at gy _ _ (by unfold sSum; omega)]; exact z81
  have y84 : y.1 84 (x.1 80 9).toNatClampNeg = -1 := by rw [GS_at gy _ _ (by unfold sSum; omega)]; exact z84
  have y13 : y.1 60 13 = x.1 60 13 := by rw [GS_at gy _ _ (by unfold sSum; omega), fz 60 13 (by omega), f1 60 13 (by omega)]
  have hEE : ∀ i : Nat, (i : Int) < ssm y → (E i ∨ i = (x.1 80 9).toNatClampNeg) ∧ i ≠ n → (i : Int) = ssm x ∧ stg y i = -1 := by
    rintro i hi ⟨e | e, e2⟩
    · by_cases hi3 : (i : Int) < ssm x
      · exact absurd (hE i hi3 e) e2
      · have : i = (x.1 80 9).toNatClampNeg := by omega
        rw [this]; exact ⟨a3, by unfold stg; rw [y84]; rfl⟩
    · rw [e]; exact ⟨a3, by unfold stg; rw [y84]; rfl⟩
  have nb : ∀ k : Int32, (k = 4 ∨ k = 5) → NB y k (x.1 80 9) := by
    intro k hk
    have hk' : (1 ≤ k.toInt ∧ k.toInt ≤ 5) ∧ ¬ k = 1 ∧ ¬ k = 3 ∧ ¬ k = 2 := by rcases hk with rfl | rfl <;> decide
    refine ⟨fun c => by omega, fun _ => ⟨hk'.1, (x.1 80 9).toNatClampNeg, a3.symm, by omega, fun c => ?_, fun c => absurd c hk'.2.2.2, fun _ => by unfold sop; rw [y81]; rfl⟩⟩
    rcases c with c | c
    · exact absurd c hk'.2.1
    · exact absurd c hk'.2.2.1
  rw [nnz] at c7 eny
  have hVy : KV' K e y Ev := KV_GS gy (KV_fm hN9.1 (by rw [fz _ _ (by omega), f1 _ _ (by omega)]) (fun k => by rw [fz _ _ (by omega), f1 _ _ (by omega)]))
  have hSy : SKs y (om y).toNat u Ev.2.1 := by
    rw [ey, oz]
    exact SKs_eq (fun k _ => ⟨by rw [GS_at gy 111 k (by unfold sSum; omega), fz 111 k (by omega), f1 111 k (by omega)], by rw [GS_at gy 113 k (by unfold sSum; omega), fz 113 k (by omega), f1 113 k (by omega)]⟩) hN9.2.1
  have lay : Lb x y := Lb_tr (Lb_tr (Lb_fm f1 (fun c k q => by unfold Tc; omega)) (Lb_fm fz (fun c k q => by unfold Tc; omega))) (Lb_GS gy)
  have y7 : y.1 100 7 = x.1 100 7 := by rw [GS_at gy 100 7 (by unfold sSum; omega), fz 100 7 (by omega), f1 100 7 (by omega)]
  have hRy2 : RIw K V sN e Ev x y [(62, nn x, 0)] := RI_dull hRy (dull_k (by decide))
  have st62 : still [(62, nn x, 0)] := stl_k (by decide)
  have y9c : (y.1 100 9).toNatClampNeg = Ev.1.length := by rw [t_cl, hVy.1]; rfl
  have k24 : y.1 23 (nn y) = 54 ↔ K (nn y) = 24 := KA_k hRy.1 hRy.2.1 54 (by decide)
  have hfu : 16 - u.length = 16 - u.length := rfl
  refine ⟨fun cne => ?_, fun c => ?_⟩
  · have hW4 : W = (pBk (pS K (16 - u.length)) K 4 c9 (nn y) (L ++ [(62, nn x, 0)])).bind (fun q => eC K 4 u q.1 q.2.1 q.2.2) := by
      rw [eW, eny]
      exact eC_else kk18 c7 (fun q => cne (k24.mpr (by rw [eny]; exact q)))
    refine kd_openBlock hq 4 _ (fun no => hx (by rw [hW4, pBk, if_neg no]; rfl)) hRy2 hVy (z9 := 4) (by decide) hSy hBy (by omega) (by omega) (by decide) (Or.inr (by decide)) (nb 4 (Or.inl rfl)) (fun i hi he => Or.inr (hEE i hi he)) (fun w9 hBu nu su ou u13 kk c79 enu lau hRu hVu hSu u7 hpu => rv_i (h w9 ([(62, nn x, 0)] ++ [(20, 4, 0)]) (4 :: u) (Or.inl ⟨hBu, ?_⟩) (RI_dull hRu (dull_k (by decide))) ?_ (Lb_tr lay lau) (by rw [u7, y7]) (by omega) (by omega) (by omega) (by omega) (by rw [u13]; exact y13) (hpu.elim (fun w0 q0 => CGn_20 (CG_62 hN9.1 hst ez h8 (fun c k q9 => (q0.1 c k q9).trans (hcy c k q9)) q0.2 (by decide))))))
    · rw [hW4, eS_block (by decide) rfl kk c79, enu, List.append_assoc]
    · have ex : exs ([(62, nn x, 0)] ++ [(20, 4, 0)]) Ev = (Ev.1, Ev.1.length :: Ev.2.1, Ev.2.2) := by
        rw [exs_app, exs_still st62]; rfl
      rw [ex]
      rw [y9c] at hSu
      exact ⟨hVu, hSu, LBo_push hN9.2.2⟩
  · have c24 := k24.mp c
    refine kd_enter hq hBy (by omega) (by omega) 5 _ (Or.inr (by decide)) (nb 5 (Or.inr rfl)) (fun i hi he _ => (hEE i hi he).2) (fun w9 hBu nu su ou fu u4 ff t1 t3 hpu => rv_i (h w9 [(62, nn x, 0)] (5 :: u) (Or.inr ⟨⟨BB_E hBu (fun _ => rfl) (fun i hi he hne => ?_), ?_⟩, ?_⟩) (RI_st hRy2 u4 (fun j => fu _ _ (by omega)) (fun c k q1 q2 => fu _ _ (by omega))) ?_ (Lb_tr lay (Lb_fm ff (fun c k q => by unfold Tc; omega))) (by rw [ff 100 7 (by omega), y7]) (by omega) (by omega) (by omega) (by omega) (by rw [fu 60 13 (by omega)]; exact y13) (CG_62 hN9.1 hst ez h8 hcy hpu (by decide))))
    rotate_left 2
    · have en9 : nn w9 = nn x + 1 := by rw [← eny]; unfold nn; rw [u4]
      rw [eW, en9]
      exact eC_elif kk18 c7 (by rw [← eny]; exact c24)
    · rw [exs_still st62]
      refine ⟨KV_fm hVy (ff _ _ (by omega)) (fun k => ff _ _ (by omega)), ?_, hN9.2.2⟩
      have o0 := (BB_om hBy).1.1
      have ey9 : (y.1 100 13).toNatClampNeg = (om y).toNat := by rw [t_cl]
      have ez : (om w9).toNat = (om y).toNat + 1 := by omega
      rw [ey9] at t1 t3 ff
      rw [ez]
      exact ⟨5, u, rfl, by rw [t1]; rfl, Or.inl ⟨rfl, SKs_eq (fun k hk => ⟨ff 111 k (by omega), ff 113 k (by omega)⟩) hSy⟩⟩
    · rcases he with ⟨e, -⟩ | ⟨-, e, e2⟩
      · exact absurd e hne
      · exact absurd (hEE i (by omega) e).1 e2
    · rw [u4, fu 23 _ (by omega)]; exact c
theorem kd_endThread (hq : kV q) (hB : BB x0 x M E) (ho : om x = 0) (hM : M ≤ (x.1 60 13).toInt) (hE : ∀ i : Nat, (i : Int) < ssm x → ¬ E i) (ha : 2 * ssm x + 2 ≤ nx x) (h : ∀ y, OT x0 y → nx y = nx x → fm (fun c k => (81 ≤ c ∧ c ≤ 89 ∧ k = (x.1 80 9).toNatClampNeg) ∨ (c = 80 ∧ k = 9) ∨ (c = 100 ∧ k = 5)) x y → (∃ w, stK x w 21 0 (-1) (-1) (-1) (-1) (-1) ∧ (∀ c k, ¬ (c = 100 ∧ k = 5) → y.1 c k = w.1 c k) ∧ y.1 100 5 = 0) → Fv y) : KT G q (d + 1) zk_X7_endThread 0 [(0, vr 100)] [] x (rv Fv) := by
  obtain ⟨a1, a2, a3, a4, a5⟩ := BB_400 hB (by omega)
  refine kg_X7_endThread_0 hq (kf_add hq _ _ _ a1 a2 (fun w hA vin hF9 z ez => rv_i ?_))
  obtain ⟨f1, f2, f3, f4, f5⟩ := hA
  obtain ⟨hS, hF, ⟨r1, r2, r3, ⟨r4, r6⟩, r7⟩, hC, r5, r0, hI⟩ := hB
  have f : fm (fun c k => (81 ≤ c ∧ c ≤ 89 ∧ k = (x.1 80 9).toNatClampNeg) ∨ (c = 80 ∧ k = 9) ∨ (c = 100 ∧ k = 5)) x z := by rw [ez]; exact fm_si (fm_w f1 (fun c k q => by omega)) (Or.inr (Or.inr ⟨rfl, rfl⟩))
  have z5 : z.1 100 5 = 0 := by rw [ez]; (simp only [si_get, sfl_get, Nat.reduceEqDiff, eq_self, and_false, false_and, and_true, true_and, if_true, if_false, reduceIte, reduceCtorEq])
  have es : ssm z = ssm x + 1 := by
    have : z.1 80 9 = w.1 80 9 := by rw [ez]; (simp only [si_get, sfl_get, Nat.reduceEqDiff, eq_self, and_false, false_and, and_true, true_and, if_true, if_false, reduceIte, reduceCtorEq])
    unfold ssm at *; rw [this]; exact f2
  have z81 : z.1 81 (x.1 80 9).toNatClampNeg = 21 := by rw [ez]; (simp only [si_get, sfl_get, Nat.reduceEqDiff, eq_self, and_false, false_and, and_true, true_and, if_true, if_false, reduceIte, reduceCtorEq]); exact f3
  have z83 : z.1 83 (x.1 80 9).toNatClampNeg = 0 := by rw [ez]; (simp only [si_get, sfl_get, Nat.reduceEqDiff, eq_self, and_false, false_and, and_true, true_and, if_true, if_false, reduceIte, reduceCtorEq]); exact f4
  have e4 : nx z = nx x := by unfold nx; rw [f 100 4 (by omega)]
  have la : La x z := ⟨fun c k q1 q2 => f c k (by omega), by omega, fun j _ => f 42 j (by omega)⟩
  have k21 : (21 : Int32).toInt = 21 := rfl
  have k0 : (0 : Int32).toInt = 0 := rfl
  have z13 : z.1 60 13 = x.1 60 13 := f _ _ (by omega)
  refine h z ⟨?_, ?_, ⟨fun c => absurd z5 c, NM_fm r2 (fun c k q1 q2 q3 q4 => f c k (by omega)) (f _ _ (by omega)) (f _ _ (by omega)), ?_, ⟨by omega, fun i hi => ?_⟩, ?_⟩, fun i hi _ => ?_, z5, fm_tr r0 (fm_w f (fun c k q => by unfold sR; omega)), by omega⟩ e4 f ⟨w, ⟨fun c k q q1 q2 => f1 c k (fun z => z.elim q1 q2), f2, f3, f4, f5, hF9.1, hF9.2.1, hF9.2.2.1, hF9.2.2.2.1⟩, fun c k q => by rw [ez, si_get, if_neg q], z5⟩
  · obtain ⟨⟨hT, b1, b2, b3⟩, ⟨u1, u2⟩, hp, hP⟩ := hS
    unfold SU SV US RB mt
    rw [f 20 7 (by omega), f 60 3 (by omega), e4]
    refine ⟨⟨kT_fm hT la.1, b1, b2, b3⟩, ⟨fun j h1 h2 => ?_, fun j h1 h2 => ?_⟩, hp, fun i hi => La_PQ la (f _ _ (by omega)) (f _ _ (by omega)) (hP i hi)⟩
    · rw [f 42 j (by omega)]; exact u1 j h1 h2
    · rw [f 42 j (by omega)] at h2; rw [f 42 _ (by omega)]; exact u2 j h1 h2
  · unfold FR at hF ⊢
    rw [f 100 4 (by omega), f 42 _ (by omega)]; exact hF
  · unfold CD at r3 ⊢
    rw [f 60 6 (by omega), f 60 9 (by omega), f 60 10 (by omega), f 60 14 (by omega), f 60 16 (by omega), z13, f 40 8 (by omega), f 40 10 (by omega)]
    exact ⟨r3.1, r3.2.1, r3.2.2.1, r3.2.2.2.1, r3.2.2.2.2.1, r3.2.2.2.2.2.1, fun c => absurd z5 c⟩
  · by_cases hi2 : i = (x.1 80 9).toNatClampNeg
    · rw [hi2]
      unfold SA sop stg
      rw [z81, z83, k21, k0]
      exact ⟨by omega, by omega, fun c => by omega, fun c => by omega⟩
    · exact SA_La la (f _ _ (by omega)) (f _ _ (by omega)) (f _ _ (by omega)) (f _ _ (by omega)) (by rw [z13]; exact hM) (r6 i (by omega))
  · unfold TS at r7 ⊢
    rw [f 60 10 (by omega)]
    refine ⟨fun t ht => ?_, fun _ => Or.inr ?_⟩
    · rw [f 72 t (by omega)]
      obtain ⟨p1, p2, -⟩ := r7.1 t ht
      exact ⟨p1, by omega, fun _ => by omega⟩
    · have : (ssm z).toNat - 1 = (x.1 80 9).toNatClampNeg := by omega
      rw [this]; exact z81
  · by_cases hi2 : i = (x.1 80 9).toNatClampNeg
    · rw [hi2]
      refine SC_no ?_ ?_ <;> (unfold sop; rw [z81]; decide)
    · have := hC i (by omega) (hE i (by omega))
      unfold SC at this ⊢
      have ep : sop z i = sop x i := by unfold sop; rw [f 81 i (by omega)]
      have et : stg z i = stg x i := by unfold stg; rw [f 84 i (by omega)]
      rw [ep, et]
      intro c
      rcases this c with ⟨p1, p2, j, p3, p4⟩ | ⟨p1, p2, p3, p4⟩
      · omega
      · refine Or.inr ⟨p1, by omega, fun _ => by omega, fun c20 => ?_⟩
        rcases p4 c20 with g1 | g1
        · exact Or.inl g1
        · by_cases hlt : (i : Int) < stg x i
          · exact Or.inl hlt
          · refine Or.inr ?_
            unfold sop at g1 ⊢
            rw [f 81 _ (by omega)]; exact g1
end KCLF
end
