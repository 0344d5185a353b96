/-! the class: a block is opened -/
section KOPF
variable {G : kG} {q : kP} {d : Nat} {x x0 y z xs : gd} {F : Int32 → gd → Prop} {Fv : gd → Prop} {X : String → gd → Prop} {P : Option gv → gd → Prop} {M : Int} {E : Nat → Prop} {K V : Nat → Int32} {sN : Nat → Nat → Bool} {e : Nat} {Ev Ev9 : gV} {Ml N : gU}
theorem kd_enter (hq : kV q) (hB : BB x0 x M E) (ho : om x ≤ 17) (hsm : ssm x < 1000) (k s : Int32) (h5 : TIk x ∨ k = 3 ∨ k = 4 ∨ k = 5) (hn : NB x k s) (hE : ∀ i : Nat, (i : Int) < ssm x → E i → (i : Int) = s.toInt → stg x i = -1) (h : ∀ y, BB x0 y M (fun i => (i = 1000000 ∧ k = 5) ∨ (i ≠ 1000000 ∧ E i ∧ ¬ (i : Int) = s.toInt)) → nx y = nx x → ssm y = ssm x → om y = om x + 1 → (∀ c j, c < 100 → y.1 c j = x.1 c j) → y.1 100 4 = x.1 100 4 → fm (fun c j => (c = 100 ∧ j = 13) ∨ (111 ≤ c ∧ c ≤ 113 ∧ j = (x.1 100 13).toNatClampNeg)) x y → y.1 111 (x.1 100 13).toNatClampNeg = k → y.1 113 (x.1 100 13).toNatClampNeg = x.1 100 9 → Pu x y k s → Fv y) : KT G q d zk_X7_enter 0 [(0, vr 100), (1, vi k), (2, vi s)] [] x (rv Fv) := by
  have k20 : (20 : Int32).toInt = 20 := rfl
  have o0 := (BB_om hB).1.1
  have vin : vp_in (x.1 100 13) 20 := by rw [vp_in_iff]; unfold om at *; omega
  refine kg_X7_enter_0 hq _ _ ⟨fun c => ?_, fun c => ⟨vin, fun x3 e3 => ?_⟩⟩
  · exfalso; rw [t_le, k20] at c; unfold om at *; omega
  have q3 : x3.1 100 13 = x.1 100 13 := by rw [e3]; (simp only [si_get, sfl_get, Nat.reduceEqDiff, eq_self, and_false, false_and, and_true, true_and, if_true, if_false, reduceIte, reduceCtorEq])
  refine ⟨by rw [q3]; exact vin, fun x5 e5 => ?_⟩
  rw [q3] at e5
  have q5 : x5.1 100 13 = x.1 100 13 := by rw [e5, ← q3]; (simp only [si_get, sfl_get, Nat.reduceEqDiff, eq_self, and_false, false_and, and_true, true_and, if_true, if_false, reduceIte, reduceCtorEq])
  refine ⟨by rw [q5]; exact vin, fun x7 e7 z ez => rv_i ?_⟩
  have x59 : x5.1 100 9 = x.1 100 9 := by rw [e5, e3]; (simp only [si_get, sfl_get, Nat.reduceEqDiff, eq_self, and_false, false_and, and_true, true_and, if_true, if_false, reduceIte, reduceCtorEq])
  rw [q5, x59] at e7
  have q7 : x7.1 100 13 = x.1 100 13 := by rw [e7, ← q5]; (simp only [si_get, sfl_get, Nat.reduceEqDiff, eq_self, and_false, false_and, and_true, true_and, if_true, if_false, reduceIte, reduceCtorEq])
  rw [q7] at ez
  have f : fm (fun c j => (c = 100 ∧ j = 13) ∨ (111 ≤ c ∧ c ≤ 113 ∧ j = (x.1 100 13).toNatClampNeg)) x z := by
    rw [ez, e7, e5, e3]
    exact fm_si (fm_si (fm_si (fm_si (fm_rf _ _) (Or.inr ⟨by omega, by omega, rfl⟩)) (Or.inr ⟨by omega, by omega, rfl⟩)) (Or.inr ⟨by omega, by omega, rfl⟩)) (Or.inl ⟨rfl, rfl⟩)
  have eO : om z = om x + 1 := by
    have : z.1 100 13 = x.1 100 13 + 1 := by rw [ez]; (simp only [si_get, sfl_get, Nat.reduceEqDiff, eq_self, and_false, false_and, and_true, true_and, if_true, if_false, reduceIte, reduceCtorEq])
    unfold om at *
    rw [this, t_add (by show _ ≤ _ + (1 : Int); omega) (by show _ + (1 : Int) ≤ _; omega)]; rfl
  have eN : (((x.1 100 13).toNatClampNeg : Nat) : Int) = om x := by rw [t_cl]; unfold om at *; omega
  have z1 : z.1 111 (x.1 100 13).toNatClampNeg = k := by rw [ez, e7, e5, e3]; (simp only [si_get, sfl_get, Nat.reduceEqDiff, eq_self, and_false, false_and, and_true, true_and, if_true, if_false, reduceIte, reduceCtorEq])
  have z2 : z.1 112 (x.1 100 13).toNatClampNeg = s := by rw [ez, e7, e5, e3]; (simp only [si_get, sfl_get, Nat.reduceEqDiff, eq_self, and_false, false_and, and_true, true_and, if_true, if_false, reduceIte, reduceCtorEq])
  have z3 : z.1 113 (x.1 100 13).toNatClampNeg = x.1 100 9 := by rw [ez, e7, e5, e3]; (simp only [si_get, sfl_get, Nat.reduceEqDiff, eq_self, and_false, false_and, and_true, true_and, if_true, if_false, reduceIte, reduceCtorEq])
  obtain ⟨hS, hF, ⟨r1, r2, r3, ⟨r4, r6⟩, r7⟩, hC, r5, r0, hI⟩ := hB
  have e4 : nx z = nx x := by unfold nx; rw [f 100 4 (by omega)]
  have es : ssm z = ssm x := by unfold ssm; rw [f 80 9 (by omega)]
  have z5 : z.1 100 5 = x.1 100 5 := f _ _ (by omega)
  have la : La x z := ⟨fun c k q1 q2 => f c k (by omega), by omega, fun j _ => f 42 j (by omega)⟩
  refine h z ⟨?_, ?_, ⟨fun c => ?_, NM_fm r2 (fun c k q1 q2 q3 q4 => f c k (by omega)) (f _ _ (by omega)) (f _ _ (by omega)), ?_, ⟨by omega, fun i hi => SA_La la (f _ _ (by omega)) (f _ _ (by omega)) (f _ _ (by omega)) (f _ _ (by omega)) (Int.le_refl _) (r6 i (by omega))⟩, ?_⟩, fun i hi he => ?_, by rw [z5]; exact r5, fm_tr r0 (fm_w f (fun c k q => by unfold sR; omega)), ⟨fun he j hj => ?_, fun j hj c => ?_⟩⟩ e4 es eO (fun c j hc => f c j (by omega)) (f _ _ (by omega)) f z1 z3 ⟨fun c j q q1 q2 => f c j (by unfold ccS at q; omega), by rw [t_cl, t_cl]; show (om z).toNat = (om x).toNat + 1; omega, z1, z2, r5⟩
  · obtain ⟨⟨hT, b1, b2, b3⟩, ⟨u1, u2⟩, hp, hP⟩ := hS
    unfold SU SV US RB mt
    rw [f 20 7 (by omega), f 60 3 (by omega), e4]
    refine ⟨⟨kT_fm hT la.1, b1, b2, b3⟩, ⟨fun j h1 h2 => ?_, fun j h1 h2 => ?_⟩, hp, fun i hi => La_PQ la (f _ _ (by omega)) (f _ _ (by omega)) (hP i hi)⟩
    · rw [f 42 j (by omega)]; exact u1 j h1 h2
    · rw [f 42 j (by omega)] at h2; rw [f 42 _ (by omega)]; exact u2 j h1 h2
  · unfold FR at hF ⊢
    rw [f 100 4 (by omega), f 42 _ (by omega)]; exact hF
  · obtain ⟨k1, o1, o2, o3, o4⟩ := r1 r5
    refine ⟨KN_fm k1 (f _ _ (by omega)) (f _ _ (by omega)) (fun k => f _ _ (by omega)), ?_⟩
    unfold OPs
    rw [eO, f 100 9 (by omega), f 100 7 (by omega)]
    refine ⟨by omega, fun j hj => ?_, fun i j hij hj => ?_, o4⟩
    · by_cases hj2 : j = (x.1 100 13).toNatClampNeg
      · subst hj2
        unfold OP1
        rw [z1, z2, z3, f 100 9 (by omega)]
        refine ⟨fun c => hn.1 (by omega), fun c => ?_, k1.1.1, Int.le_refl _⟩
        obtain ⟨p1, n, p2, p3, p4⟩ := hn.2 (by omega)
        refine ⟨p1, n, p2, by omega, ?_⟩
        unfold sop at p4 ⊢
        rw [f 81 n (by omega)]; exact p4
      · have := o2 j (by omega)
        unfold OP1 at this ⊢
        rw [f 111 j (by omega), f 112 j (by omega), f 113 j (by omega), f 100 9 (by omega), es]
        refine ⟨this.1, fun c => ?_, this.2.2⟩
        obtain ⟨p1, n, p2, p3, p4⟩ := this.2.1 c
        refine ⟨p1, n, p2, p3, ?_⟩
        unfold sop at p4 ⊢
        rw [f 81 n (by omega)]; exact p4
    · by_cases hj2 : j = (x.1 100 13).toNatClampNeg
      · by_cases hi2 : i = (x.1 100 13).toNatClampNeg
        · rw [hi2, hj2]; exact Int.le_refl _
        · rw [hj2, z3, f 113 i (by omega)]
          exact (o2 i (by omega)).2.2.2
      · rw [f 113 i (by omega), f 113 j (by omega)]; exact o3 i j hij (by omega)
  · unfold CD at r3 ⊢
    rw [f 60 6 (by omega), f 60 9 (by omega), f 60 10 (by omega), f 60 14 (by omega), f 60 16 (by omega), f 60 13 (by omega), z5, f 100 9 (by omega), f 40 8 (by omega), f 40 10 (by omega)]
    exact r3
  · unfold TS at r7 ⊢
    rw [f 60 10 (by omega), z5, es]
    refine ⟨fun t ht => ?_, fun c => absurd c r5⟩
    rw [f 72 t (by omega)]; exact r7.1 t ht
  · have ep : sop z i = sop x i := by unfold sop; rw [f 81 i (by omega)]
    have et : stg z i = stg x i := by unfold stg; rw [f 84 i (by omega)]
    by_cases hEi : E i
    · by_cases hi6 : i = 1000000
      · exfalso; omega
      · have heq : (i : Int) = s.toInt := by
          by_cases h9 : (i : Int) = s.toInt
          · exact h9
          · exact absurd (Or.inr ⟨hi6, hEi, h9⟩) he
        intro _
        refine Or.inl ⟨by rw [et]; exact hE i (by omega) hEi heq, by rw [z5]; exact r5, (x.1 100 13).toNatClampNeg, by omega, by rw [z2]; omega⟩
    · have := hC i (by omega) hEi
      unfold SC at this ⊢
      rw [ep, et, z5, es]
      intro c
      rcases this c with ⟨p1, p2, j, p3, p4⟩ | ⟨p1, p2, p3, p4⟩
      · exact Or.inl ⟨p1, p2, j, by omega, by rw [f 112 j (by omega)]; exact p4⟩
      · refine Or.inr ⟨p1, p2, p3, fun c2 => (p4 c2).imp id (fun e => ?_)⟩
        unfold sop at e ⊢
        rw [f 81 _ (by omega)]; exact e
  · have : j = (x.1 100 13).toNatClampNeg := by omega
    rw [this, z1]
    intro c
    exact he (Or.inl ⟨rfl, c⟩)
  · by_cases hj2 : j + 1 = (x.1 100 13).toNatClampNeg
    · rw [hj2, z1]
      rcases h5 with e | e
      · rw [f 111 j (by omega)] at c
        exact absurd c (e j (by omega))
      · exact e
    · rw [f 111 j (by omega)] at c
      rw [f 111 (j + 1) (by omega)]
      exact hI.2 j (by omega) c
theorem kd_openBlock (hq : kV q) (k s : Int32) (hx : ¬ (K (nn x) = 63 ∧ nn x < 700) → RX x0 X) (hR : RIw K V sN e Ev xs x Ml) (hV : KV' K e x Ev9) {u B : List Nat} {z9 : Nat} (hz : k.toInt = (z9 : Nat)) (hS : SKs x (om x).toNat u B) (hB : BB x0 x M E) (ho : om x ≤ 17) (hsm : ssm x < 1000) (hk5 : ¬ k = 5) (h5 : TIk x ∨ k = 3 ∨ k = 4 ∨ k = 5) (hn : NB x k s) (hE : ∀ i : Nat, (i : Int) < ssm x → E i → i = 1000000 ∨ ((i : Int) = s.toInt ∧ stg x i = -1)) (h : ∀ y, BB x0 y M E0 → nx y = nx x + 1 → ssm y = ssm x → om y = om x + 1 → y.1 60 13 = x.1 60 13 → K (nn x) = 63 → nn x < 700 → nn y = nn x + 1 → Lb x y → RIw K V sN e Ev xs y Ml → KV' K e y Ev9 → SKs y (om y).toNat (z9 :: u) ((x.1 100 9).toNatClampNeg :: B) → y.1 100 7 = x.1 100 7 → (∃ w, (∀ c k, ccS c k → w.1 c k = x.1 c k) ∧ Pu w y k s) → Fv y) : KE G q (d + 8) zk_X7_openBlock 0 [(0, vr 100), (1, vi k), (2, vi s)] [] x (rv Fv) X := by
  refine kg_X7_openBlock_0 hq _ _ (kd_need hq 23 63 (by decide) (by decide) (by decide) hx hB hR (fun kk c7 y hBy ny gy en hRy _ hcy => ?_))
  have e1 := GS_om gy
  have e2 := GS_sm gy
  refine kd_enter hq hBy (by omega) (by omega) k s (h5.imp (fun e => TI_eq e (GS_at gy _ _ (by unfold sSum; omega)) (fun k => GS_at gy _ _ (by unfold sSum; omega))) id) (NB_GS gy hn) (fun i hi he hs => ?_) (fun z hBz nz sz oz fz z4 ff t1 t3 hpu => rv_i (h z (BB_E hBz ?_ ?_) (by omega) (by omega) (by omega) (by rw [fz 60 13 (by omega), GS_at gy 60 13 (by unfold sSum; omega)]) kk c7 (by rw [← en]; unfold nn; rw [z4]) (Lb_tr (Lb_GS gy) (Lb_fm ff (fun c k q => by unfold Tc; omega))) (RI_st hRy z4 (fun j => fz _ _ (by omega)) (fun c k q1 q2 => fz _ _ (by omega))) (KV_fm (KV_GS gy hV) (ff _ _ (by omega)) (fun k => ff _ _ (by omega))) ?_ (by rw [ff 100 7 (by omega), GS_at gy 100 7 (by unfold sSum; omega)]) ⟨y, hcy, hpu⟩))
  · have : stg y i = stg x i := by unfold stg; rw [GS_at gy 84 i (by unfold sSum; omega)]
    rw [this]
    rcases hE i (by omega) he with e | e
    · omega
    · exact e.2
  · rintro (⟨-, e⟩ | ⟨e, -⟩)
    · exact absurd e hk5
    · exact absurd rfl e
  · rintro i hi (⟨e, -⟩ | ⟨e0, e, e2⟩) _
    · omega
    · rcases hE i (by omega) e with g | g
      · exact absurd g e0
      · exact absurd g.1 e2
  · have o0 := (BB_om hB).1.1
    have ey : (y.1 100 13).toNatClampNeg = (om x).toNat := by rw [t_cl]; show (om y).toNat = _; rw [e1]
    have ez : (om z).toNat = (om x).toNat + 1 := by omega
    rw [ey] at t1 t3 ff
    rw [ez]
    refine ⟨z9, u, rfl, by rw [t1]; exact hz, Or.inr ⟨?_, (x.1 100 9).toNatClampNeg, B, rfl, ?_, SKs_eq (fun k hk => ⟨?_, ?_⟩) hS⟩⟩
    · intro q5
      apply hk5
      have k5 : (5 : Int32).toInt = 5 := rfl
      rw [t_eq, k5, hz, q5]; rfl
    · rw [t3, GS_at gy 100 9 (by unfold sSum; omega)]
    · rw [ff 111 k (by omega), GS_at gy 111 k (by unfold sSum; omega)]
    · rw [ff 113 k (by omega), GS_at gy 113 k (by unfold sSum; omega)]
end KOPF
