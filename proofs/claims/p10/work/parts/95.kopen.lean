/-! the class: blocks are opened and closed -/
section KOP
variable {G : kG} {q : kP} {d : Nat} {x x0 y z : gd} {F : Int32 → gd → Prop} {Fv : gd → Prop} {X : String → gd → Prop} {P : Option gv → gd → Prop} {M : Int} {E : Nat → Prop}
/-- the block that is opened -/
def NB (x : gd) (k s : Int32) : Prop := (om x = 0 → k = 0 ∧ s = -1) ∧ (0 < om x → (1 ≤ k.toInt ∧ k.toInt ≤ 5) ∧ ∃ n : Nat, s.toInt = n ∧ (n : Int) < ssm x ∧ (k = 1 ∨ k = 3 → sop x n = 17) ∧ (k = 2 → sop x n = 5) ∧ (k = 4 ∨ k = 5 → sop x n = 20))
theorem kb_enter (hq : kV q) (hB : BB x0 x M E) (ho : om x ≤ 17) (hsm : ssm x < 1000) (k s : Int32) (h5 : TIk x ∨ k = 3 ∨ k = 4 ∨ k = 5) (hn : NB x k s) (hE : ∀ i : Nat, (i : Int) < ssm x → E i → (i : Int) = s.toInt → stg x i = -1) (h : ∀ y, BB x0 y M (fun i => (i = 1000000 ∧ k = 5) ∨ (i ≠ 1000000 ∧ E i ∧ ¬ (i : Int) = s.toInt)) → nx y = nx x → ssm y = ssm x → om y = om x + 1 → (∀ c j, c < 100 → y.1 c j = x.1 c j) → y.1 100 4 = x.1 100 4 → Fv y) : KT G q d zk_X7_enter 0 [(0, vr 100), (1, vi k), (2, vi s)] [] x (rv Fv) := by
  have k20 : (20 : Int32).toInt = 20 := rfl
  have o0 := (BB_om hB).1.1
  have vin : vp_in (x.1 100 13) 20 := by rw [vp_in_iff]; unfold om at *; omega
  refine kg_X7_enter_0 hq _ _ ⟨fun c => ?_, fun c => ⟨vin, fun x3 e3 => ?_⟩⟩
  · exfalso; rw [t_le, k20] at c; unfold om at *; omega
  have q3 : x3.1 100 13 = x.1 100 13 := by rw [e3]; (simp only [si_get, sfl_get, Nat.reduceEqDiff, eq_self, and_false, false_and, and_true, true_and, if_true, if_false, reduceIte, reduceCtorEq])
  refine ⟨by rw [q3]; exact vin, fun x5 e5 => ?_⟩
  rw [q3] at e5
  have q5 : x5.1 100 13 = x.1 100 13 := by rw [e5, ← q3]; (simp only [si_get, sfl_get, Nat.reduceEqDiff, eq_self, and_false, false_and, and_true, true_and, if_true, if_false, reduceIte, reduceCtorEq])
  refine ⟨by rw [q5]; exact vin, fun x7 e7 z ez => rv_i ?_⟩
  have x59 : x5.1 100 9 = x.1 100 9 := by rw [e5, e3]; (simp only [si_get, sfl_get, Nat.reduceEqDiff, eq_self, and_false, false_and, and_true, true_and, if_true, if_false, reduceIte, reduceCtorEq])
  rw [q5, x59] at e7
  have q7 : x7.1 100 13 = x.1 100 13 := by rw [e7, ← q5]; (simp only [si_get, sfl_get, Nat.reduceEqDiff, eq_self, and_false, false_and, and_true, true_and, if_true, if_false, reduceIte, reduceCtorEq])
  rw [q7] at ez
  have f : fm (fun c j => (c = 100 ∧ j = 13) ∨ (111 ≤ c ∧ c ≤ 113 ∧ j = (x.1 100 13).toNatClampNeg)) x z := by
    rw [ez, e7, e5, e3]
    exact fm_si (fm_si (fm_si (fm_si (fm_rf _ _) (Or.inr ⟨by omega, by omega, rfl⟩)) (Or.inr ⟨by omega, by omega, rfl⟩)) (Or.inr ⟨by omega, by omega, rfl⟩)) (Or.inl ⟨rfl, rfl⟩)
  have eO : om z = om x + 1 := by
    have : z.1 100 13 = x.1 100 13 + 1 := by rw [ez]; (simp only [si_get, sfl_get, Nat.reduceEqDiff, eq_self, and_false, false_and, and_true, true_and, if_true, if_false, reduceIte, reduceCtorEq])
    unfold om at *
    rw [this, t_add (by show _ ≤ _ + (1 : Int); omega) (by show _ + (1 : Int) ≤ _; omega)]; rfl
  have eN : (((x.1 100 13).toNatClampNeg : Nat) : Int) = om x := by rw [t_cl]; unfold om at *; omega
  have z1 : z.1 111 (x.1 100 13).toNatClampNeg = k := by rw [ez, e7, e5, e3]; (simp only [si_get, sfl_get, Nat.reduceEqDiff, eq_self, and_false, false_and, and_true, true_and, if_true, if_false, reduceIte, reduceCtorEq])
  have z2 : z.1 112 (x.1 100 13).toNatClampNeg = s := by rw [ez, e7, e5, e3]; (simp only [si_get, sfl_get, Nat.reduceEqDiff, eq_self, and_false, false_and, and_true, true_and, if_true, if_false, reduceIte, reduceCtorEq])
  have z3 : z.1 113 (x.1 100 13).toNatClampNeg = x.1 100 9 := by rw [ez, e7, e5, e3]; (simp only [si_get, sfl_get, Nat.reduceEqDiff, eq_self, and_false, false_and, and_true, true_and, if_true, if_false, reduceIte, reduceCtorEq])
  obtain ⟨hS, hF, ⟨r1, r2, r3, ⟨r4, r6⟩, r7⟩, hC, r5, r0, hI⟩ := hB
  have e4 : nx z = nx x := by unfold nx; rw [f 100 4 (by omega)]
  have es : ssm z = ssm x := by unfold ssm; rw [f 80 9 (by omega)]
  have z5 : z.1 100 5 = x.1 100 5 := f _ _ (by omega)
  have la : La x z := ⟨fun c k q1 q2 => f c k (by omega), by omega, fun j _ => f 42 j (by omega)⟩
  refine h z ⟨?_, ?_, ⟨fun c => ?_, NM_fm r2 (fun c k q1 q2 q3 q4 => f c k (by omega)) (f _ _ (by omega)) (f _ _ (by omega)), ?_, ⟨by omega, fun i hi => SA_La la (f _ _ (by omega)) (f _ _ (by omega)) (f _ _ (by omega)) (f _ _ (by omega)) (Int.le_refl _) (r6 i (by omega))⟩, ?_⟩, fun i hi he => ?_, by rw [z5]; exact r5, fm_tr r0 (fm_w f (fun c k q => by unfold sR; omega)), ⟨fun he j hj => ?_, fun j hj c => ?_⟩⟩ e4 es eO (fun c j hc => f c j (by omega)) (f _ _ (by omega))
  · obtain ⟨⟨hT, b1, b2, b3⟩, ⟨u1, u2⟩, hp, hP⟩ := hS
    unfold SU SV US RB mt
    rw [f 20 7 (by omega), f 60 3 (by omega), e4]
    refine ⟨⟨kT_fm hT la.1, b1, b2, b3⟩, ⟨fun j h1 h2 => ?_, fun j h1 h2 => ?_⟩, hp, fun i hi => La_PQ la (f _ _ (by omega)) (f _ _ (by omega)) (hP i hi)⟩
    · rw [f 42 j (by omega)]; exact u1 j h1 h2
    · rw [f 42 j (by omega)] at h2; rw [f 42 _ (by omega)]; exact u2 j h1 h2
  · unfold FR at hF ⊢
    rw [f 100 4 (by omega), f 42 _ (by omega)]; exact hF
  · obtain ⟨k1, o1, o2, o3, o4⟩ := r1 r5
    refine ⟨KN_fm k1 (f _ _ (by omega)) (f _ _ (by omega)) (fun k => f _ _ (by omega)), ?_⟩
    unfold OPs
    rw [eO, f 100 9 (by omega), f 100 7 (by omega)]
    refine ⟨by omega, fun j hj => ?_, fun i j hij hj => ?_, o4⟩
    · by_cases hj2 : j = (x.1 100 13).toNatClampNeg
      · subst hj2
        unfold OP1
        rw [z1, z2, z3, f 100 9 (by omega)]
        refine ⟨fun c => hn.1 (by omega), fun c => ?_, k1.1.1, Int.le_refl _⟩
        obtain ⟨p1, n, p2, p3, p4⟩ := hn.2 (by omega)
        refine ⟨p1, n, p2, by omega, ?_⟩
        unfold sop at p4 ⊢
        rw [f 81 n (by omega)]; exact p4
      · have := o2 j (by omega)
        unfold OP1 at this ⊢
        rw [f 111 j (by omega), f 112 j (by omega), f 113 j (by omega), f 100 9 (by omega), es]
        refine ⟨this.1, fun c => ?_, this.2.2⟩
        obtain ⟨p1, n, p2, p3, p4⟩ := this.2.1 c
        refine ⟨p1, n, p2, p3, ?_⟩
        unfold sop at p4 ⊢
        rw [f 81 n (by omega)]; exact p4
    · by_cases hj2 : j = (x.1 100 13).toNatClampNeg
      · by_cases hi2 : i = (x.1 100 13).toNatClampNeg
        · rw [hi2, hj2]; exact Int.le_refl _
        · rw [hj2, z3, f 113 i (by omega)]
          exact (o2 i (by omega)).2.2.2
      · rw [f 113 i (by omega), f 113 j (by omega)]; exact o3 i j hij (by omega)
  · unfold CD at r3 ⊢
    rw [f 60 6 (by omega), f 60 9 (by omega), f 60 10 (by omega), f 60 14 (by omega), f 60 16 (by omega), f 60 13 (by omega), z5, f 100 9 (by omega), f 40 8 (by omega), f 40 10 (by omega)]
    exact r3
  · unfold TS at r7 ⊢
    rw [f 60 10 (by omega), z5, es]
    refine ⟨fun t ht => ?_, fun c => absurd c r5⟩
    rw [f 72 t (by omega)]; exact r7.1 t ht
  · have ep : sop z i = sop x i := by unfold sop; rw [f 81 i (by omega)]
    have et : stg z i = stg x i := by unfold stg; rw [f 84 i (by omega)]
    by_cases hEi : E i
    · by_cases hi6 : i = 1000000
      · exfalso; omega
      · have heq : (i : Int) = s.toInt := by
          by_cases h9 : (i : Int) = s.toInt
          · exact h9
          · exact absurd (Or.inr ⟨hi6, hEi, h9⟩) he
        intro _
        refine Or.inl ⟨by rw [et]; exact hE i (by omega) hEi heq, by rw [z5]; exact r5, (x.1 100 13).toNatClampNeg, by omega, by rw [z2]; omega⟩
    · have := hC i (by omega) hEi
      unfold SC at this ⊢
      rw [ep, et, z5, es]
      intro c
      rcases this c with ⟨p1, p2, j, p3, p4⟩ | ⟨p1, p2, p3, p4⟩
      · exact Or.inl ⟨p1, p2, j, by omega, by rw [f 112 j (by omega)]; exact p4⟩
      · refine Or.inr ⟨p1, p2, p3, fun c2 => (p4 c2).imp id (fun e => ?_)⟩
        unfold sop at e ⊢
        rw [f 81 _ (by omega)]; exact e
  · have : j = (x.1 100 13).toNatClampNeg := by omega
    rw [this, z1]
    intro c
    exact he (Or.inl ⟨rfl, c⟩)
  · by_cases hj2 : j + 1 = (x.1 100 13).toNatClampNeg
    · rw [hj2, z1]
      rcases h5 with e | e
      · rw [f 111 j (by omega)] at c
        exact absurd c (e j (by omega))
      · exact e
    · rw [f 111 j (by omega)] at c
      rw [f 111 (j + 1) (by omega)]
      exact hI.2 j (by omega) c
theorem NB_GS {k s : Int32} (g : GS x y) (h : NB x k s) : NB y k s := by
  unfold NB at h ⊢
  rw [GS_om g, GS_sm g]
  refine ⟨h.1, fun c => ?_⟩
  obtain ⟨p1, n, p2, p3, p4⟩ := h.2 c
  refine ⟨p1, n, p2, p3, ?_⟩
  unfold sop at p4 ⊢
  rw [GS_at g 81 n (by unfold sSum; omega)]; exact p4
theorem kb_openBlock (hq : kV q) (hx : RX x0 X) (hB : BB x0 x M E) (ho : om x ≤ 17) (hsm : ssm x < 1000) (k s : Int32) (hk5 : ¬ k = 5) (h5 : TIk x ∨ k = 3 ∨ k = 4 ∨ k = 5) (hn : NB x k s) (hE : ∀ i : Nat, (i : Int) < ssm x → E i → i = 1000000 ∨ ((i : Int) = s.toInt ∧ stg x i = -1)) (h : ∀ y, BB x0 y M E0 → nx y = nx x + 1 → ssm y = ssm x → om y = om x + 1 → y.1 60 13 = x.1 60 13 → Fv y) : KE G q (d + 8) zk_X7_openBlock 0 [(0, vr 100), (1, vi k), (2, vi s)] [] x (rv Fv) X := by
  refine kg_X7_openBlock_0 hq _ _ (kb_need hq hx hB 23 (by decide) (fun _ y hBy ny gy => ?_))
  have e1 := GS_om gy
  have e2 := GS_sm gy
  refine kb_enter hq hBy (by omega) (by omega) k s (h5.imp (fun e => TI_eq e (GS_at gy _ _ (by unfold sSum; omega)) (fun k => GS_at gy _ _ (by unfold sSum; omega))) id) (NB_GS gy hn) (fun i hi he hs => ?_) (fun z hBz nz sz oz fz _ => rv_i (h z (BB_E hBz ?_ ?_) (by omega) (by omega) (by omega) (by rw [fz 60 13 (by omega), GS_at gy 60 13 (by unfold sSum; omega)])))
  · have : stg y i = stg x i := by unfold stg; rw [GS_at gy 84 i (by unfold sSum; omega)]
    rw [this]
    rcases hE i (by omega) he with e | e
    · omega
    · exact e.2
  · rintro (⟨-, e⟩ | ⟨e, -⟩)
    · exact absurd e hk5
    · exact absurd rfl e
  · rintro i hi (⟨e, -⟩ | ⟨e0, e, e2⟩) _
    · omega
    · rcases hE i (by omega) e with g | g
      · exact absurd g e0
      · exact absurd g.1 e2
theorem kb_test (hq : kV q) (hx : RX x0 X) (hB : BB x0 x M E) (hE : ∀ i, E i → i = 1000000) (h1 : 1 ≤ om x) (ho : om x ≤ 16) (ha : 2 * ssm x + om x ≤ nx x) (hs : ¬ x.1 23 (x.1 100 4).toNatClampNeg = 0) (k : Int32) (hk : k = 1 ∨ k = 3) (h5 : TIk x ∨ k = 3) (h : ∀ y, BB x0 y M E0 → nx x < nx y → om y = om x + 1 → 2 * ssm y + om y ≤ nx y → y.1 60 13 = x.1 60 13 → Fv y) : KE G q (d + 10) zk_X7_testStatement 0 [(0, vr 100), (1, vi k)] [] x (rv Fv) X := by
  refine kg_X7_testStatement_0 hq _ ⟨RB_at hB.1.1, kb_pass hq hx hB hs (fun y hBy ny gy => ?_)⟩
  have e1 := GS_om gy
  have e2 := GS_sm gy
  obtain ⟨p1, p2⟩ := BB_om hBy
  refine kb_sum hq hx hBy _ (by rw [p2 (by omega)]; omega) (by rw [p2 (by omega)]; omega) (fun r z hBz nz gz => ?_)
  have e3 := GS_om gz
  have e4 := GS_sm gz
  obtain ⟨a1, a2, a3, a4, a5⟩ := BB_400 hBz (by omega)
  refine kp_add hq _ _ _ a1 a2 (fun w hA vin => ⟨vin, fun v ev => ?_⟩)
  obtain ⟨f1, f2, f3, f4, f5⟩ := hA
  have fz : fm (fun c k => (81 ≤ c ∧ c ≤ 89 ∧ k = (z.1 80 9).toNatClampNeg) ∨ (c = 80 ∧ k = 9)) z v := by rw [ev]; exact fm_si f1 (Or.inl ⟨by omega, by omega, rfl⟩)
  have es : ssm v = ssm z + 1 := by
    have : v.1 80 9 = w.1 80 9 := by rw [ev]; (simp only [si_get, sfl_get, Nat.reduceEqDiff, eq_self, and_false, false_and, and_true, true_and, if_true, if_false, reduceIte, reduceCtorEq])
    unfold ssm at *; rw [this]; exact f2
  have z81 : v.1 81 (z.1 80 9).toNatClampNeg = 17 := by rw [ev]; (simp only [si_get, sfl_get, Nat.reduceEqDiff, eq_self, and_false, false_and, and_true, true_and, if_true, if_false, reduceIte, reduceCtorEq]); exact f3
  have z83 : v.1 83 (z.1 80 9).toNatClampNeg = z.1 100 9 := by rw [ev]; (simp only [si_get, sfl_get, Nat.reduceEqDiff, eq_self, and_false, false_and, and_true, true_and, if_true, if_false, reduceIte, reduceCtorEq]); exact f4
  have z84 : v.1 84 (z.1 80 9).toNatClampNeg = -1 := by rw [ev]; (simp only [si_get, sfl_get, Nat.reduceEqDiff, eq_self, and_false, false_and, and_true, true_and, if_true, if_false, reduceIte, reduceCtorEq]); exact f5
  have k17 : (17 : Int32).toInt = 17 := rfl
  have hSA : SA v M (z.1 80 9).toNatClampNeg := by
    unfold SA sop stg
    rw [z81, z83, k17]
    exact ⟨by omega, ⟨a4, a5⟩, fun c => by omega, fun c => by omega⟩
  have hBv := BB_add hBz (n := (z.1 80 9).toNatClampNeg) (by omega) fz es hSA
  have n4 : nx v = nx z := by unfold nx; rw [fz 100 4 (by omega)]
  have n13 : om v = om z := by unfold om; rw [fz 100 13 (by omega)]
  have hk' : (1 ≤ k.toInt ∧ k.toInt ≤ 5) ∧ ¬ k = 5 ∧ ¬ k = 2 ∧ ¬ k = 4 := by rcases hk with rfl | rfl <;> decide
  refine kb_openBlock hq hx hBv (by omega) (by omega) k _ hk'.2.1 (h5.imp (fun e => TI_eq (TI_eq (TI_eq e (GS_at gy _ _ (by unfold sSum; omega)) (fun k => GS_at gy _ _ (by unfold sSum; omega))) (GS_at gz _ _ (by unfold sSum; omega)) (fun k => GS_at gz _ _ (by unfold sSum; omega))) (fz _ _ (by omega)) (fun k => fz _ _ (by omega))) Or.inl) ⟨fun c => by omega, fun _ => ⟨hk'.1, (z.1 80 9).toNatClampNeg, a3.symm, by omega, fun _ => by unfold sop; rw [z81]; rfl, fun c => absurd c hk'.2.2.1, fun c => ?_⟩⟩ (fun i hi he => ?_) (fun u hBu nu su ou u13 => rv_i (h u hBu (by omega) (by omega) (by omega) (by rw [u13, fz 60 13 (by omega), GS_at gz 60 13 (by unfold sSum; omega), GS_at gy 60 13 (by unfold sSum; omega)])))
  · rcases c with c | c
    · exact absurd c hk'.2.2.2
    · exact absurd c hk'.2.1
  · rcases he with he | he
    · exact Or.inl (hE i he)
    · refine Or.inr ⟨by rw [he]; exact a3, ?_⟩
      rw [he]; unfold stg; rw [z84]; rfl
/-- where a step jumps is set -/
theorem BB_tg (hB : BB x0 x M E) (hsm : ssm x < 1000) {n : Nat} (hn : (n : Int) < ssm x) (ho : sop x n = 17 ∨ sop x n = 20) {v : Int32} (ez : z = si x 84 n v) (hv : 0 ≤ v.toInt ∧ v.toInt ≤ ssm x ∧ (sop x n = 20 → (n : Int) < v.toInt ∨ sop x v.toInt.toNat = 17)) : BB x0 z M (fun i => E i ∧ i ≠ n) := by
  have f : fm (fun c k => c = 84 ∧ k = n) x z := by rw [ez]; exact fm_si (fm_rf _ _) ⟨rfl, rfl⟩
  have zv : z.1 84 n = v := by rw [ez]; (simp only [si_get, sfl_get, Nat.reduceEqDiff, eq_self, and_false, false_and, and_true, true_and, if_true, if_false, reduceIte, reduceCtorEq])
  obtain ⟨hS, hF, ⟨r1, r2, r3, ⟨r4, r6⟩, r7⟩, hC, r5, r0, hI⟩ := hB
  have e4 : nx z = nx x := by unfold nx; rw [f 100 4 (by omega)]
  have es : ssm z = ssm x := by unfold ssm; rw [f 80 9 (by omega)]
  have eo : om z = om x := by unfold om; rw [f 100 13 (by omega)]
  have z5 : z.1 100 5 = x.1 100 5 := f _ _ (by omega)
  have la : La x z := ⟨fun c k q1 q2 => f c k (by omega), by omega, fun j _ => f 42 j (by omega)⟩
  refine ⟨?_, ?_, ⟨fun c => ?_, NM_fm r2 (fun c k q1 q2 q3 q4 => f c k (by omega)) (f _ _ (by omega)) (f _ _ (by omega)), ?_, ⟨by omega, fun i hi => ?_⟩, ?_⟩, fun i hi he => ?_, by rw [z5]; exact r5, fm_tr r0 (fm_w f (fun c k q => by unfold sR; omega)), TR_eq hI (fun e => ⟨e, fun e2 => ?_⟩) (f _ _ (by omega)) (fun k => f _ _ (by omega))⟩
  · obtain ⟨⟨hT, b1, b2, b3⟩, ⟨u1, u2⟩, hp, hP⟩ := hS
    unfold SU SV US RB mt
    rw [f 20 7 (by omega), f 60 3 (by omega), e4]
    refine ⟨⟨kT_fm hT la.1, b1, b2, b3⟩, ⟨fun j h1 h2 => ?_, fun j h1 h2 => ?_⟩, hp, fun i hi => La_PQ la (f _ _ (by omega)) (f _ _ (by omega)) (hP i hi)⟩
    · rw [f 42 j (by omega)]; exact u1 j h1 h2
    · rw [f 42 j (by omega)] at h2; rw [f 42 _ (by omega)]; exact u2 j h1 h2
  · unfold FR at hF ⊢
    rw [f 100 4 (by omega), f 42 _ (by omega)]; exact hF
  · obtain ⟨k1, o1, o2, o3, o4⟩ := r1 r5
    refine ⟨KN_fm k1 (f _ _ (by omega)) (f _ _ (by omega)) (fun k => f _ _ (by omega)), ?_⟩
    unfold OPs
    rw [eo, f 100 9 (by omega), f 100 7 (by omega)]
    refine ⟨o1, fun k hk => OP1_eq (fun j => f _ _ (by omega)) (f _ _ (by omega)) (fun c j q1 q2 => f _ _ (by omega)) (f _ _ (by omega)) (o2 k hk), fun j k hj hk => ?_, o4⟩
    rw [f 113 j (by omega), f 113 k (by omega)]; exact o3 j k hj hk
  · unfold CD at r3 ⊢
    rw [f 60 6 (by omega), f 60 9 (by omega), f 60 10 (by omega), f 60 14 (by omega), f 60 16 (by omega), f 60 13 (by omega), z5, f 100 9 (by omega), f 40 8 (by omega), f 40 10 (by omega)]
    exact r3
  · by_cases hi2 : i = n
    · have g := r6 i (by omega)
      rw [hi2] at g ⊢
      unfold SA at g ⊢
      have ep : sop z n = sop x n := by unfold sop; rw [f 81 _ (by omega)]
      rw [ep, f 83 _ (by omega), f 85 _ (by omega), e4]
      refine ⟨g.1, g.2.1, fun c => by clear g; omega, fun c => by clear g; omega⟩
    · exact SA_La la (f _ _ (by omega)) (f _ _ (by omega)) (f _ _ (by omega)) (f _ _ (by omega)) (Int.le_refl _) (r6 i (by omega))
  · unfold TS at r7 ⊢
    rw [f 60 10 (by omega), z5, es]
    refine ⟨fun t ht => ?_, fun c => absurd c r5⟩
    rw [f 72 t (by omega)]; exact r7.1 t ht
  · by_cases hi2 : i = n
    · rw [hi2]
      intro _
      have e2 : stg z n = v.toInt := by unfold stg; rw [zv]
      have ep : ∀ j, sop z j = sop x j := fun j => by unfold sop; rw [f 81 _ (by omega)]
      rw [e2, es, z5, ep, ep]
      exact Or.inr ⟨hv.1, hv.2.1, fun c => absurd c r5, hv.2.2⟩
    · exact SC_eq (fun j => f _ _ (by omega)) (f _ _ (by omega)) (f _ _ (by omega)) (f _ _ (by omega)) z5 (fun j => f _ _ (by omega)) (hC i (by omega) (fun e => he ⟨e, hi2⟩))
  · omega
/-- the innermost block is left -/
theorem BB_pop (hB : BB x0 x M E) (h1 : 1 ≤ om x) (f : fm (fun c k => c = 100 ∧ (k = 9 ∨ k = 13)) x z) (ho : om z = om x - 1) (hk : 0 ≤ (z.1 100 9).toInt ∧ (z.1 100 9).toInt ≤ (x.1 100 9).toInt) (hj : ∀ j : Nat, (j : Int) < om z → (x.1 113 j).toInt ≤ (z.1 100 9).toInt) : BB x0 z M (fun i => E i ∨ (i : Int) = (x.1 112 ((om x).toNat - 1)).toInt ∨ i = 1000000) := by
  obtain ⟨hS, hF, ⟨r1, r2, r3, ⟨r4, r6⟩, r7⟩, hC, r5, r0, hI⟩ := hB
  have e4 : nx z = nx x := by unfold nx; rw [f 100 4 (by omega)]
  have es : ssm z = ssm x := by unfold ssm; rw [f 80 9 (by omega)]
  have z5 : z.1 100 5 = x.1 100 5 := f _ _ (by omega)
  have la : La x z := ⟨fun c k q1 q2 => f c k (by omega), by omega, fun j _ => f 42 j (by omega)⟩
  refine ⟨?_, ?_, ⟨fun c => ?_, NM_fm r2 (fun c k q1 q2 q3 q4 => f c k (by omega)) (f _ _ (by omega)) (f _ _ (by omega)), ?_, ⟨by omega, fun i hi => SA_La la (f _ _ (by omega)) (f _ _ (by omega)) (f _ _ (by omega)) (f _ _ (by omega)) (Int.le_refl _) (r6 i (by omega))⟩, ?_⟩, fun i hi he => ?_, by rw [z5]; exact r5, fm_tr r0 (fm_w f (fun c k q => by unfold sR; omega)), ⟨fun he => absurd (Or.inr (Or.inr rfl)) he, fun j hj9 c => ?_⟩⟩
  · obtain ⟨⟨hT, b1, b2, b3⟩, ⟨u1, u2⟩, hp, hP⟩ := hS
    unfold SU SV US RB mt
    rw [f 20 7 (by omega), f 60 3 (by omega), e4]
    refine ⟨⟨kT_fm hT la.1, b1, b2, b3⟩, ⟨fun j h1 h2 => ?_, fun j h1 h2 => ?_⟩, hp, fun i hi => La_PQ la (f _ _ (by omega)) (f _ _ (by omega)) (hP i hi)⟩
    · rw [f 42 j (by omega)]; exact u1 j h1 h2
    · rw [f 42 j (by omega)] at h2; rw [f 42 _ (by omega)]; exact u2 j h1 h2
  · unfold FR at hF ⊢
    rw [f 100 4 (by omega), f 42 _ (by omega)]; exact hF
  · obtain ⟨k1, o1, o2, o3, o4, o5⟩ := r1 r5
    refine ⟨?_, ?_⟩
    · unfold KN tk at k1 ⊢
      rw [f 20 7 (by omega)]
      refine ⟨by omega, fun i hi => ?_⟩
      rw [f 109 i (by omega)]; exact k1.2 i (by omega)
    · unfold OPs
      rw [ho, f 100 7 (by omega)]
      refine ⟨by omega, fun k hk2 => ?_, fun j k hj hk => ?_, by omega, o5⟩
      · have := o2 k (by omega)
        unfold OP1 at this ⊢
        rw [f 111 k (by omega), f 112 k (by omega), f 113 k (by omega), es]
        refine ⟨this.1, fun c => ?_, this.2.2.1, hj k (by omega)⟩
        obtain ⟨p1, n, p2, p3, p4⟩ := this.2.1 c
        refine ⟨p1, n, p2, p3, ?_⟩
        unfold sop at p4 ⊢
        rw [f 81 n (by omega)]; exact p4
      · rw [f 113 j (by omega), f 113 k (by omega)]; exact o3 j k hj (by omega)
  · unfold CD at r3 ⊢
    rw [f 60 6 (by omega), f 60 9 (by omega), f 60 10 (by omega), f 60 14 (by omega), f 60 16 (by omega), f 60 13 (by omega), z5, f 40 8 (by omega), f 40 10 (by omega)]
    exact ⟨r3.1, r3.2.1, r3.2.2.1, r3.2.2.2.1, r3.2.2.2.2.1, r3.2.2.2.2.2.1, fun c => Int.le_trans hk.2 (r3.2.2.2.2.2.2 c)⟩
  · unfold TS at r7 ⊢
    rw [f 60 10 (by omega), z5, es]
    refine ⟨fun t ht => ?_, fun c => absurd c r5⟩
    rw [f 72 t (by omega)]; exact r7.1 t ht
  · have ep : ∀ j, sop z j = sop x j := fun j => by unfold sop; rw [f 81 j (by omega)]
    have et : stg z i = stg x i := by unfold stg; rw [f 84 i (by omega)]
    have := hC i (by omega) (fun e => he (Or.inl e))
    unfold SC at this ⊢
    rw [ep, et, z5, es, ep]
    intro c
    rcases this c with ⟨p1, p2, j, p3, p4⟩ | p
    · refine Or.inl ⟨p1, p2, j, ?_, by rw [f 112 j (by omega)]; exact p4⟩
      by_cases hjl : (j : Int) < om z
      · exact hjl
      · exfalso
        refine he (Or.inr (Or.inl ?_))
        have : j = (om x).toNat - 1 := by omega
        rw [← this]; exact p4.symm
    · exact Or.inr p
  · rw [f 111 _ (by omega)] at c ⊢
    exact hI.2 j (by omega) c
end KOP
