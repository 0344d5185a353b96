/-! the class: statements -/
/-- the innermost block is no else-if -/
def TIk (x : gd) : Prop := ∀ k : Nat, (k : Int) + 1 = om x → ¬ x.1 111 k = 5
/-- on an else-if stand if, else or else-if alone -/
def R5 (x : gd) : Prop := ∀ k : Nat, (k : Int) + 1 < om x → x.1 111 k = 5 → x.1 111 (k + 1) = 3 ∨ x.1 111 (k + 1) = 4 ∨ x.1 111 (k + 1) = 5
def TRk (x : gd) (E : Nat → Prop) : Prop := (¬ E 1000000 → TIk x) ∧ R5 x
/-- reading within a thread -/
def BB (x0 x : gd) (M : Int) (E : Nat → Prop) : Prop := SU x ∧ FR x ∧ RI0 x M ∧ SCs x E ∧ ¬ x.1 100 5 = 0 ∧ fm sR x0 x ∧ TRk x E
def GS (x y : gd) : Prop := La x y ∧ fm sSum x y
section KSM
variable {G : kG} {q : kP} {d : Nat} {x x0 y z : gd} {F : Int32 → gd → Prop} {Fv : gd → Prop} {X : String → gd → Prop} {P : Option gv → gd → Prop} {M : Int} {E : Nat → Prop}
theorem GS_rf : GS x x := ⟨La_rf, fm_rf _ _⟩
theorem GS_tr (a : GS x y) (b : GS y z) : GS x z := ⟨La_tr a.1 b.1, fm_tr a.2 b.2⟩
theorem GS_at (a : GS x y) (c k : Nat) (h : ¬ sSum c k) : y.1 c k = x.1 c k := a.2 c k h
theorem GS_sm (a : GS x y) : ssm y = ssm x := by unfold ssm; rw [a.2 80 9 (by unfold sSum; omega)]
theorem GS_om (a : GS x y) : om y = om x := by unfold om; rw [a.2 100 13 (by unfold sSum; omega)]
theorem TI_eq (h : TIk x) (e : y.1 100 13 = x.1 100 13) (f : ∀ k, y.1 111 k = x.1 111 k) : TIk y := fun k hk => by rw [f k]; exact h k (by unfold om at *; rw [e] at hk; exact hk)
theorem TR_eq {E E' : Nat → Prop} (h : TRk x E) (hE : E 1000000 → E' 1000000) (e : y.1 100 13 = x.1 100 13) (f : ∀ k, y.1 111 k = x.1 111 k) : TRk y E' := ⟨fun he => TI_eq (h.1 (fun c => he (hE c))) e f, fun k hk c => by
  rw [f] at c ⊢
  exact h.2 k (by unfold om at *; rw [e] at hk; exact hk) c⟩
theorem BB_on (hB : BB x0 x M E) (hS : SU y) (hF : FR y) (g : GS x y) : BB x0 y M E := ⟨hS, hF, RI0_La hB.2.2.1 g.1 g.2, SCs_La hB.2.2.2.1 g.2, by rw [g.2 100 5 (by unfold sSum; omega)]; exact hB.2.2.2.2.1, fm_tr hB.2.2.2.2.2.1 (fm_w g.2 (fun c k q => sSum_R q)), TR_eq hB.2.2.2.2.2.2 id (g.2 _ _ (by unfold sSum; omega)) (fun k => g.2 _ _ (by unfold sSum; omega))⟩
theorem kb_pass (hq : kV q) (hx : RX x0 X) (hB : BB x0 x M E) (hs : ¬ x.1 23 (x.1 100 4).toNatClampNeg = 0) (h : ∀ y, BB x0 y M E → nx y = nx x + 1 → GS x y → Fv y) : KE G q (d + 7) zk_X7_pass 0 [(0, vr 100)] [] x (rv Fv) X :=
  kp_pass hq hB.2.2.2.2.2.1 hx hB.1 hs (FR_12 hB.2.1) (fun y f n S fr la _ => by
    have g : GS x y := ⟨la, fm_w f (fun c k q => by unfold sSum; omega)⟩
    refine h y (BB_on hB ?_ fr g) n g
    unfold SU
    rw [f 60 3 (by omega)]; exact S)
theorem kb_need (hq : kV q) (hx : RX x0 X) (hB : BB x0 x M E) (w : Int32) (hw : ¬ w = 0) (h : x.1 23 (x.1 100 4).toNatClampNeg = w → ∀ y, BB x0 y M E → nx y = nx x + 1 → GS x y → Fv y) : KE G q (d + 7) zk_X7_need 0 [(0, vr 100), (1, vi w)] [] x (rv Fv) X :=
  kp_need hq hB.2.2.2.2.2.1 hx hB.1 w hw hB.2.1 (fun cw y f n S fr la _ => by
    have g : GS x y := ⟨la, fm_w f (fun c k q => by unfold sSum; omega)⟩
    refine h cw y (BB_on hB ?_ fr g) n g
    unfold SU
    rw [f 60 3 (by omega)]; exact S)
theorem kb_needFor (hq : kV q) (hx : RX x0 X) (hB : BB x0 x M E) (w u : Int32) (hw : ¬ w = 0) (hu : ¬ u = 12) (h : x.1 23 (x.1 100 4).toNatClampNeg = w → ∀ y, BB x0 y M E → nx y = nx x + 1 → GS x y → y.1 42 (x.1 100 4).toNatClampNeg = u → tk y (x.1 100 4) → F (x.1 100 4) y) : KE G q (d + 7) zk_X7_needFor 0 [(0, vr 100), (1, vi w), (2, vi u)] [] x (ri F) X :=
  kp_needFor hq hB.2.2.2.2.2.1 hx hB.1 w u hw (fun q => absurd q hu) (fun cw y f eu n S fr la _ ht => by
    have g : GS x y := ⟨la, fm_w f (fun c k q => by unfold sSum; omega)⟩
    refine h cw y (BB_on hB ?_ fr g) n g eu ht
    unfold SU
    rw [f 60 3 (by omega)]; exact S)
theorem kb_sum (hq : kV q) (hx : RX x0 X) (hB : BB x0 x M E) (D : Int32) (hD : 1 ≤ D.toInt) (hD2 : D.toInt ≤ 18) (h : ∀ r y, BB x0 y M E → nx x < nx y → GS x y → F r y) : KE G q (d + 9) zk_X7_sum 0 [(0, vr 100), (1, vi D)] [] x (ri F) X :=
  kp_sum hq hB.2.2.2.2.2.1 hx hB.1 hB.2.1 (fun c => (hB.2.2.1.1 c).1) D hD hD2 (fun r y S fr la f n => h r y (BB_on hB S fr ⟨la, f⟩) n ⟨la, f⟩)
theorem kb_refuse (hq : kV q) (hx : RX x0 X) (hB : BB x0 x M E) (n : Int32) (hn : ¬ n = 0 := by decide) : KE G q (d + 6) zk_X7_refuse 0 [(0, vr 100), (1, vi n)] [] x P X := kp_refuse hq n (RB_at hB.1.1) hB.2.2.2.2.2.1 hx hn
theorem BB_om (hB : BB x0 x M E) : (0 ≤ om x ∧ om x ≤ 18) ∧ (om x ≤ 17 → (x.1 100 13 + 1).toInt = om x + 1) := by
  obtain ⟨-, o1, -⟩ := hB.2.2.1.1 hB.2.2.2.2.1
  refine ⟨o1, fun h => t_add (by show _ ≤ _ + (1 : Int); unfold om at *; omega) (by show _ + (1 : Int) ≤ _; unfold om at *; omega)⟩
theorem BB_N (hB : BB x0 x M E) : ((x.1 100 4).toNatClampNeg : Int) = nx x := by
  have := hB.1.1.2.1
  rw [t_cl]; unfold nx at *; omega
/-- a step more within a thread -/
theorem BB_add (hB : BB x0 x M E) {n : Nat} (hn : (n : Int) = ssm x) (f : fm (fun c k => (81 ≤ c ∧ c ≤ 89 ∧ k = n) ∨ (c = 80 ∧ k = 9)) x z) (es : ssm z = ssm x + 1) (hA : SA z M n) : BB x0 z M (fun i => E i ∨ i = n) := by
  obtain ⟨hS, hF, ⟨h1, h2, h3, ⟨h4, h6⟩, h7⟩, hC, h5, h0, hI⟩ := hB
  have g : ∀ c k, c < 80 ∨ 89 < c → z.1 c k = x.1 c k := fun c k hc => f c k (by omega)
  have gs : ∀ c k, k ≠ n → ¬ (c = 80 ∧ k = 9) → z.1 c k = x.1 c k := fun c k hk hc => f c k (by omega)
  have la : La x z := ⟨fun c k q1 q2 => g c k (by omega), by unfold nx; rw [g 100 4 (by omega)]; exact Int.le_refl _, fun j _ => g 42 j (by omega)⟩
  have nn : nx z = nx x := by unfold nx; rw [g 100 4 (by omega)]
  have z5 : z.1 100 5 = x.1 100 5 := g _ _ (by omega)
  have zo : z.1 100 13 = x.1 100 13 := g _ _ (by omega)
  refine ⟨?_, ?_, ⟨fun c => ?_, NM_fm h2 (fun c k q1 q2 q3 q4 => g c k (by omega)) (g _ _ (by omega)) (g _ _ (by omega)), ?_, ⟨by omega, fun i hi => ?_⟩, ?_⟩, fun i hi he => ?_, by rw [z5]; exact h5, fm_tr h0 (fm_w f (fun c k q => by unfold sR; omega)), TR_eq hI Or.inl zo (fun k => g _ _ (by omega))⟩
  · obtain ⟨⟨hT, b1, b2, b3⟩, ⟨u1, u2⟩, hp, hP⟩ := hS
    unfold SU SV US RB mt
    rw [g 20 7 (by omega), g 60 3 (by omega), nn]
    refine ⟨⟨kT_fm hT la.1, b1, b2, b3⟩, ⟨fun j h1 h2 => ?_, fun j h1 h2 => ?_⟩, hp, fun i hi => La_PQ la (g _ _ (by omega)) (g _ _ (by omega)) (hP i hi)⟩
    · rw [g 42 j (by omega)]; exact u1 j h1 h2
    · rw [g 42 j (by omega)] at h2; rw [g 42 _ (by omega)]; exact u2 j h1 h2
  · unfold FR at hF ⊢
    rw [g 100 4 (by omega), g 42 _ (by omega)]; exact hF
  · obtain ⟨k1, o1, o2, o3, o4⟩ := h1 h5
    refine ⟨KN_fm k1 (g _ _ (by omega)) (g _ _ (by omega)) (fun k => g _ _ (by omega)), ?_⟩
    unfold OPs om
    rw [zo, g 100 9 (by omega), g 100 7 (by omega)]
    refine ⟨o1, fun k hk => ?_, fun j k hj hk => ?_, o4⟩
    · have := o2 k hk
      unfold OP1 at this ⊢
      rw [g 111 k (by omega), g 112 k (by omega), g 113 k (by omega), g 100 9 (by omega)]
      refine ⟨this.1, fun c => ?_, this.2.2⟩
      obtain ⟨p1, s, p2, p3, p4⟩ := this.2.1 c
      refine ⟨p1, s, p2, by omega, ?_⟩
      unfold sop at p4 ⊢
      rw [gs 81 s (by omega) (by omega)]; exact p4
    · rw [g 113 j (by omega), g 113 k (by omega)]; exact o3 j k hj hk
  · unfold CD at h3 ⊢
    rw [g 60 6 (by omega), g 60 9 (by omega), g 60 10 (by omega), g 60 14 (by omega), g 60 16 (by omega), g 60 13 (by omega), z5, g 100 9 (by omega), g 40 8 (by omega), g 40 10 (by omega)]
    exact h3
  · by_cases hi2 : i = n
    · rw [hi2]; exact hA
    · exact SA_La la (gs _ _ hi2 (by omega)) (gs _ _ hi2 (by omega)) (gs _ _ hi2 (by omega)) (gs _ _ hi2 (by omega)) (Int.le_refl _) (h6 i (by omega))
  · unfold TS at h7 ⊢
    rw [g 60 10 (by omega), z5]
    refine ⟨fun t ht => ?_, fun c => absurd c h5⟩
    rw [g 72 t (by omega)]
    obtain ⟨p1, p2, p3⟩ := h7.1 t ht
    exact ⟨p1, by omega, fun c => absurd c h5⟩
  · have hin : i ≠ n := fun e => he (Or.inr e)
    have := hC i (by omega) (fun e => he (Or.inl e))
    unfold SC at this ⊢
    have e1 : sop z i = sop x i := by unfold sop; rw [gs 81 i hin (by omega)]
    have e4 : stg z i = stg x i := by unfold stg; rw [gs 84 i hin (by omega)]
    rw [e1, e4, z5]
    intro c
    rcases this c with ⟨p1, p2, k, p3, p4⟩ | ⟨p1, p2, p3, p4⟩
    · exact Or.inl ⟨p1, p2, k, by unfold om at p3 ⊢; rw [zo]; exact p3, by rw [g 112 k (by omega)]; exact p4⟩
    · refine Or.inr ⟨p1, by omega, fun c5 => absurd c5 h5, fun c20 => ?_⟩
      rcases p4 c20 with g1 | g1
      · exact Or.inl g1
      · by_cases hlt : (i : Int) < stg x i
        · exact Or.inl hlt
        · refine Or.inr ?_
          unfold sop at g1 ⊢
          rw [gs 81 _ (by omega) (by omega)]; exact g1
theorem SC_no {i : Nat} (h1 : ¬ sop z i = 17) (h2 : ¬ sop z i = 20) : SC z i := fun c => by
  rcases c with c | c
  · exact absurd c h1
  · exact absurd c h2
theorem BB_E {E' : Nat → Prop} (hB : BB x0 x M E) (ht : E 1000000 → E' 1000000) (h : ∀ i : Nat, (i : Int) < ssm x → E i → ¬ E' i → SC x i) : BB x0 x M E' := ⟨hB.1, hB.2.1, hB.2.2.1, fun i hi he => by
  by_cases h9 : E i
  · exact h i hi h9 he
  · exact hB.2.2.2.1 i hi h9, hB.2.2.2.2.1, hB.2.2.2.2.2.1, TR_eq hB.2.2.2.2.2.2 ht rfl (fun _ => rfl)⟩
theorem RI0_M {M' : Int} (h : M ≤ M') (hR : RI0 x M) : RI0 x M' := ⟨hR.1, hR.2.1, hR.2.2.1, ⟨hR.2.2.2.1.1, fun i hi => SA_La La_rf rfl rfl rfl rfl h (hR.2.2.2.1.2 i hi)⟩, hR.2.2.2.2⟩
theorem BB_M {M' : Int} (h : M ≤ M') (hB : BB x0 x M E) : BB x0 x M' E := ⟨hB.1, hB.2.1, RI0_M h hB.2.2.1, hB.2.2.2⟩
theorem BB_400 (hB : BB x0 x M E) (ha : 2 * ssm x ≤ nx x + 2) : 0 ≤ ssm x ∧ ssm x < 400 ∧ (((x.1 80 9).toNatClampNeg : Nat) : Int) = ssm x ∧ 0 ≤ (x.1 100 9).toInt ∧ (x.1 100 9).toInt ≤ 8 := by
  have h4 := hB.2.2.1.2.2.2.1.1
  have b2 := hB.1.1.2.2.1
  obtain ⟨k1, -⟩ := hB.2.2.1.1 hB.2.2.2.2.1
  exact ⟨h4, by omega, by rw [t_cl]; unfold ssm at *; omega, k1.1⟩
theorem kb_nameStep (hq : kV q) (hx : RX x0 X) (hB : BB x0 x M E) (ha : 2 * ssm x ≤ nx x + 1) (o l : Int32) (ho : 5 ≤ o.toInt) (ho2 : o.toInt ≤ 10) (h : ∀ y, BB x0 y M E → nx y = nx x + 1 → ssm y = ssm x + 1 → om y = om x → sop y (x.1 80 9).toNatClampNeg = o.toInt → vp_in (x.1 80 9) 400 → y.1 60 13 = x.1 60 13 → F (x.1 80 9) y) : KE G q (d + 8) zk_X7_nameStep 0 [(0, vr 100), (1, vi o), (2, vi l)] [] x (ri F) X := by
  have p19 : ∀ u : Int32, ((u = 4 ∧ o.toInt ≤ 8) ∨ (u = 5 ∧ 9 ≤ o.toInt)) → KE G q (d + 8) zk_X7_nameStep 19 [(0, vr 100), (1, vi o), (2, vi l)] [vi u, vi 2, vr 100] x (ri F) X := by
    intro u hu
    refine kg_X7_nameStep_19 hq _ _ _ _ (kb_needFor hq hx hB 2 u (by decide) (by rcases hu with ⟨rfl, -⟩ | ⟨rfl, -⟩ <;> decide) (fun cw y hBy ny gy eu ht => ?_))
    have esm := GS_sm gy
    obtain ⟨a1, a2, a3, a4, a5⟩ := BB_400 hBy (by omega)
    have m80 : y.1 80 9 = x.1 80 9 := GS_at gy _ _ (by unfold sSum; omega)
    refine kp_add hq _ _ _ a1 a2 (fun w hA vin => ⟨vin, fun z ez => ri_i ?_⟩)
    rw [m80] at ez vin ⊢
    rw [m80] at a3
    obtain ⟨f1, f2, f3, f4, f5⟩ := hA
    rw [m80] at f1 f3 f4 f5
    have fz : fm (fun c k => (81 ≤ c ∧ c ≤ 89 ∧ k = (x.1 80 9).toNatClampNeg) ∨ (c = 80 ∧ k = 9)) y z := by rw [ez]; exact fm_si f1 (Or.inl ⟨by omega, by omega, rfl⟩)
    have es : ssm z = ssm y + 1 := by
      have : z.1 80 9 = w.1 80 9 := by rw [ez]; (simp only [si_get, sfl_get, Nat.reduceEqDiff, eq_self, and_false, false_and, and_true, true_and, if_true, if_false, reduceIte, reduceCtorEq])
      unfold ssm at *; rw [this]; exact f2
    have z81 : z.1 81 (x.1 80 9).toNatClampNeg = o := by rw [ez]; (simp only [si_get, sfl_get, Nat.reduceEqDiff, eq_self, and_false, false_and, and_true, true_and, if_true, if_false, reduceIte, reduceCtorEq]); exact f3
    have z83 : z.1 83 (x.1 80 9).toNatClampNeg = y.1 100 9 := by rw [ez]; (simp only [si_get, sfl_get, Nat.reduceEqDiff, eq_self, and_false, false_and, and_true, true_and, if_true, if_false, reduceIte, reduceCtorEq]); exact f4
    have z85 : z.1 85 (x.1 80 9).toNatClampNeg = x.1 100 4 := by rw [ez]; (simp only [si_get, sfl_get, Nat.reduceEqDiff, eq_self, and_false, false_and, and_true, true_and, if_true, if_false, reduceIte, reduceCtorEq])
    have eN := BB_N hB
    have hSA : SA z M (x.1 80 9).toNatClampNeg := by
      unfold SA sop stg
      rw [z81, z83, z85]
      refine ⟨by omega, ⟨a4, a5⟩, fun _ => ⟨(x.1 100 4).toNatClampNeg, eN.symm, ?_, fun c => by omega, fun c1 c2 => ?_, fun c => ?_⟩, fun c => by omega⟩
      · unfold nx
        rw [fz 100 4 (by omega)]
        unfold nx at *
        omega
      · rw [fz 42 _ (by omega), eu]
        rcases hu with ⟨e, -⟩ | ⟨-, e⟩
        · exact e
        · omega
      · rw [fz 42 _ (by omega), eu]
        rcases hu with ⟨-, e⟩ | ⟨e, -⟩
        · omega
        · exact e
    have hBz := BB_add hBy (n := (x.1 80 9).toNatClampNeg) (by omega) fz es hSA
    refine h z (BB_E hBz (fun e => e.elim id (fun e => by omega)) (fun i hi he hne => ?_)) ?_ (by omega) ?_ (by unfold sop; rw [z81]) vin (by rw [fz 60 13 (by omega), GS_at gy 60 13 (by unfold sSum; omega)])
    · rcases he with he | he
      · exact absurd he hne
      · rw [he]
        refine SC_no ?_ ?_ <;> (unfold sop; rw [z81]; omega)
    · unfold nx at *
      rw [fz 100 4 (by omega)]; exact ny
    · have := GS_om gy
      unfold om at *
      rw [fz 100 13 (by omega)]; exact this
  have k9 : (9 : Int32).toInt = 9 := rfl
  have k10 : (10 : Int32).toInt = 10 := rfl
  refine kg_X7_nameStep_0 hq _ _ ⟨fun c => p19 _ (Or.inr ⟨rfl, by rw [c]; decide⟩), fun c => ⟨fun c2 => p19 _ (Or.inl ⟨rfl, ?_⟩), fun c2 => p19 _ (Or.inr ⟨rfl, by rw [c2]; decide⟩)⟩⟩
  rw [t_eq, k9] at c
  rw [t_eq, k10] at c2
  omega
theorem kb_plain (hq : kV q) (hx : RX x0 X) (hB : BB x0 x M (fun _ => False)) (ha : 2 * ssm x + om x ≤ nx x) (ho : om x ≤ 17) (o l : Int32) (hs : ¬ x.1 23 (x.1 100 4).toNatClampNeg = 0) (h5 : 5 ≤ o.toInt) (h6 : ¬ o.toInt = 15 ∧ ¬ o.toInt = 16 ∧ ¬ o.toInt = 17 ∧ ¬ o.toInt = 20) (h : ∀ y, BB x0 y M (fun _ => False) → nx x < nx y → om y = om x → 2 * ssm y + om y ≤ nx y → y.1 60 13 = x.1 60 13 → Fv y) : KE G q (d + 11) zk_X7_plainStatement 0 [(0, vr 100), (1, vi o), (2, vi l)] [] x (rv Fv) X := by
  have k5 : (5 : Int32).toInt = 5 := rfl
  have k10 : (10 : Int32).toInt = 10 := rfl
  have o0 := (BB_om hB).1.1
  have p180 : ∀ y, BB x0 y M (fun _ => False) → nx x < nx y → (om y = om x ∧ y.1 60 13 = x.1 60 13) → 2 * ssm y + om y ≤ nx y + 1 → KE G q (d + 11) zk_X7_plainStatement 180 [(0, vr 100)] [] y (rv Fv) X := fun y hBy n1 n2 n3 => kg_X7_plainStatement_180 hq (kb_need hq hx hBy 27 (by decide) (fun _ z hBz nz gz => rv_i (h z hBz (by omega) (by rw [GS_om gz]; exact n2.1) (by rw [GS_om gz, GS_sm gz]; omega) (by rw [GS_at gz 60 13 (by unfold sSum; omega)]; exact n2.2))))
  have p139 : ∀ (y : gd) (l5 s : Int32), 10 < o.toInt → BB x0 y M (fun _ => False) → nx x < nx y → (om y = om x ∧ y.1 60 13 = x.1 60 13) → ssm y = ssm x → KE G q (d + 11) zk_X7_plainStatement 139 [(0, vr 100), (1, vi o), (2, vi l), (5, vi l5)] [vi s] y (rv Fv) X := by
    intro y l5 s h10 hBy n1 n2 n3
    obtain ⟨a1, a2, a3, a4, a5⟩ := BB_400 hBy (by omega)
    refine kg_X7_plainStatement_139 hq _ _ _ _ (kp_add hq _ _ _ a1 a2 (fun w hA vin => ⟨vin, fun z ez => ⟨vin, fun v ev => ?_⟩⟩))
    obtain ⟨f1, f2, f3, f4, f5⟩ := hA
    have fz : fm (fun c k => (81 ≤ c ∧ c ≤ 89 ∧ k = (y.1 80 9).toNatClampNeg) ∨ (c = 80 ∧ k = 9)) y v := by rw [ev, ez]; exact fm_si (fm_si f1 (Or.inl ⟨by omega, by omega, rfl⟩)) (Or.inl ⟨by omega, by omega, rfl⟩)
    have es : ssm v = ssm y + 1 := by
      have : v.1 80 9 = w.1 80 9 := by rw [ev, ez]; (simp only [si_get, sfl_get, Nat.reduceEqDiff, eq_self, and_false, false_and, and_true, true_and, if_true, if_false, reduceIte, reduceCtorEq])
      unfold ssm at *; rw [this]; exact f2
    have z81 : v.1 81 (y.1 80 9).toNatClampNeg = o := by rw [ev, ez]; (simp only [si_get, sfl_get, Nat.reduceEqDiff, eq_self, and_false, false_and, and_true, true_and, if_true, if_false, reduceIte, reduceCtorEq]); exact f3
    have z83 : v.1 83 (y.1 80 9).toNatClampNeg = y.1 100 9 := by rw [ev, ez]; (simp only [si_get, sfl_get, Nat.reduceEqDiff, eq_self, and_false, false_and, and_true, true_and, if_true, if_false, reduceIte, reduceCtorEq]); exact f4
    have hSA : SA v M (y.1 80 9).toNatClampNeg := by
      unfold SA sop stg
      rw [z81, z83]
      exact ⟨by omega, ⟨a4, a5⟩, fun c => by omega, fun c => by omega⟩
    have hBv := BB_add hBy (n := (y.1 80 9).toNatClampNeg) (by omega) fz es hSA
    have e4 : nx v = nx y := by unfold nx; rw [fz 100 4 (by omega)]
    have e13 : om v = om y := by unfold om; rw [fz 100 13 (by omega)]
    refine p180 v (BB_E hBv (fun e => e.elim id (fun e => by omega)) (fun i hi he hne => ?_)) (by omega) ⟨by omega, by rw [fz 60 13 (by omega)]; exact n2.2⟩ (by omega)
    rcases he with he | he
    · exact absurd he hne
    · rw [he]
      refine SC_no ?_ ?_ <;> (unfold sop; rw [z81]; omega)
  have p118 : ∀ (y : gd) (l5 s : Int32), 10 < o.toInt → BB x0 y M (fun _ => False) → nx x < nx y → (om y = om x ∧ y.1 60 13 = x.1 60 13) → ssm y = ssm x → KE G q (d + 11) zk_X7_plainStatement 118 [(0, vr 100), (1, vi o), (2, vi l), (5, vi l5)] [vi s] y (rv Fv) X := by
    intro y l5 s h10 hBy n1 n2 n3
    obtain ⟨o1, o2⟩ := BB_om hBy
    refine kg_X7_plainStatement_118 hq _ _ _ _ ⟨fun _ => p139 y _ _ h10 hBy n1 n2 n3, fun _ => kb_sum hq hx hBy _ (by rw [o2 (by omega)]; omega) (by rw [o2 (by omega)]; omega) (fun r z hBz nz gz => p139 z _ _ h10 hBz (by omega) ⟨by rw [GS_om gz]; exact n2.1, by rw [GS_at gz 60 13 (by unfold sSum; omega)]; exact n2.2⟩ (by rw [GS_sm gz]; exact n3))⟩
  have p95 : ∀ (y : gd) (l5 : Int32), 10 < o.toInt → BB x0 y M (fun _ => False) → nx x < nx y → (om y = om x ∧ y.1 60 13 = x.1 60 13) → ssm y = ssm x → KE G q (d + 11) zk_X7_plainStatement 95 [(0, vr 100), (1, vi o), (2, vi l), (5, vi l5)] [] y (rv Fv) X := fun y l5 h10 hBy n1 n2 n3 => kg_X7_plainStatement_95 hq _ _ _ ⟨fun _ => p118 y _ _ h10 hBy n1 n2 n3, fun _ => ⟨fun _ => p118 y _ _ h10 hBy n1 n2 n3, fun _ => ⟨fun _ => p118 y _ _ h10 hBy n1 n2 n3, fun _ => p118 y _ _ h10 hBy n1 n2 n3⟩⟩⟩
  have p63 : ∀ y, 10 < o.toInt → BB x0 y M (fun _ => False) → nx x < nx y → (om y = om x ∧ y.1 60 13 = x.1 60 13) → ssm y = ssm x → KE G q (d + 11) zk_X7_plainStatement 63 [(0, vr 100), (1, vi o), (2, vi l)] [] y (rv Fv) X := by
    intro y h10 hBy n1 n2 n3
    refine kg_X7_plainStatement_63 hq _ _ ⟨fun _ => p95 y _ h10 hBy n1 n2 n3, fun _ => kb_needFor hq hx hBy 3 13 (by decide) (by decide) (fun cw z hBz nz gz eu ht => ⟨RB_at hBy.1.1, kb_need hq hx hBz 28 (by decide) (fun _ w hBw nw gw => p95 w _ h10 hBw (by omega) ⟨by rw [GS_om gw, GS_om gz]; exact n2.1, by rw [GS_at gw 60 13 (by unfold sSum; omega), GS_at gz 60 13 (by unfold sSum; omega)]; exact n2.2⟩ (by rw [GS_sm gw, GS_sm gz]; exact n3))⟩)⟩
  have p14 : ∀ s : Int32, KE G q (d + 11) zk_X7_plainStatement 14 [(0, vr 100), (1, vi o), (2, vi l)] [vi s] x (rv Fv) X := by
    intro s
    refine kg_X7_plainStatement_14 hq _ _ _ (kb_pass hq hx hB hs (fun y hBy ny gy => ?_))
    have e1 := GS_sm gy
    have e2 := GS_om gy
    have e3 : y.1 60 13 = x.1 60 13 := GS_at gy _ _ (by unfold sSum; omega)
    refine ⟨fun c => ?_, fun c => ⟨fun c2 => p63 y (by rw [t_lt, k10] at c2; exact c2) hBy (by omega) ⟨e2, e3⟩ e1, fun c2 => ?_⟩⟩
    · exfalso; rw [t_lt, k5] at c; omega
    rw [t_lt, k10] at c2
    refine kb_nameStep hq hx hBy (by omega) o l h5 (by omega) (fun z hBz nz sz oz opz vin z13 => ?_)
    have fin : ∀ (v : Int32) (w : gd), w = si z 84 (y.1 80 9).toNatClampNeg v → KE G q (d + 11) zk_X7_plainStatement 180 [(0, vr 100)] [] w (rv Fv) X := by
      intro v w ew
      have fw : fm (fun c k => c = 84 ∧ k = (y.1 80 9).toNatClampNeg) z w := by rw [ew]; exact fm_si (fm_rf _ _) ⟨rfl, rfl⟩
      have e4 : nx w = nx z := by unfold nx; rw [fw 100 4 (by omega)]
      have e13 : om w = om z := by unfold om; rw [fw 100 13 (by omega)]
      have es : ssm w = ssm z := by unfold ssm; rw [fw 80 9 (by omega)]
      have la : La z w := ⟨fun c k q1 q2 => fw c k (by omega), by omega, fun j _ => fw 42 j (by omega)⟩
      refine p180 w ?_ (by omega) ⟨by omega, by rw [fw 60 13 (by omega), z13, e3]⟩ (by omega)
      obtain ⟨hS, hF, ⟨r1, r2, r3, ⟨r4, r6⟩, r7⟩, hC, r5, r0, hI⟩ := hBz
      have z5 : w.1 100 5 = z.1 100 5 := fw _ _ (by omega)
      refine ⟨?_, ?_, ⟨fun c => ?_, NM_fm r2 (fun c k q1 q2 q3 q4 => fw c k (by omega)) (fw _ _ (by omega)) (fw _ _ (by omega)), ?_, ⟨by omega, fun i hi => ?_⟩, ?_⟩, fun i hi he => ?_, by rw [z5]; exact r5, fm_tr r0 (fm_w fw (fun c k q => by unfold sR; omega)), TR_eq hI id (fw _ _ (by omega)) (fun k => fw _ _ (by omega))⟩
      · obtain ⟨⟨hT, b1, b2, b3⟩, ⟨u1, u2⟩, hp, hP⟩ := hS
        unfold SU SV US RB mt
        rw [fw 20 7 (by omega), fw 60 3 (by omega), e4]
        refine ⟨⟨kT_fm hT la.1, b1, b2, b3⟩, ⟨fun j h1 h2 => ?_, fun j h1 h2 => ?_⟩, hp, fun i hi => La_PQ la (fw _ _ (by omega)) (fw _ _ (by omega)) (hP i hi)⟩
        · rw [fw 42 j (by omega)]; exact u1 j h1 h2
        · rw [fw 42 j (by omega)] at h2; rw [fw 42 _ (by omega)]; exact u2 j h1 h2
      · unfold FR at hF ⊢
        rw [fw 100 4 (by omega), fw 42 _ (by omega)]; exact hF
      · obtain ⟨k1, o1, o2, o3, o4⟩ := r1 r5
        refine ⟨KN_fm k1 (fw _ _ (by omega)) (fw _ _ (by omega)) (fun k => fw _ _ (by omega)), ?_⟩
        unfold OPs
        rw [e13, fw 100 9 (by omega), fw 100 7 (by omega)]
        refine ⟨o1, fun k hk => OP1_eq (fun j => fw _ _ (by omega)) (fw _ _ (by omega)) (fun c j q1 q2 => fw _ _ (by omega)) (fw _ _ (by omega)) (o2 k hk), fun j k hj hk => ?_, o4⟩
        rw [fw 113 j (by omega), fw 113 k (by omega)]; exact o3 j k hj hk
      · unfold CD at r3 ⊢
        rw [fw 60 6 (by omega), fw 60 9 (by omega), fw 60 10 (by omega), fw 60 14 (by omega), fw 60 16 (by omega), fw 60 13 (by omega), z5, fw 100 9 (by omega), fw 40 8 (by omega), fw 40 10 (by omega)]
        exact r3
      · by_cases hi2 : i = (y.1 80 9).toNatClampNeg
        · have g := r6 i (by omega)
          rw [hi2] at g ⊢
          unfold SA at g ⊢
          have ep : sop w (y.1 80 9).toNatClampNeg = sop z (y.1 80 9).toNatClampNeg := by unfold sop; rw [fw 81 _ (by omega)]
          rw [ep, opz, fw 83 _ (by omega), fw 85 _ (by omega), e4]
          rw [opz] at g
          refine ⟨g.1, g.2.1, fun c => ?_, fun c => by omega⟩
          obtain ⟨t, t1, t2, t3⟩ := g.2.2.1 c
          refine ⟨t, t1, t2, ?_⟩
          rw [fw 42 t (by omega)]; exact t3
        · exact SA_La la (fw _ _ (by omega)) (fw _ _ (by omega)) (fw _ _ (by omega)) (fw _ _ (by omega)) (Int.le_refl _) (r6 i (by omega))
      · unfold TS at r7 ⊢
        rw [fw 60 10 (by omega), z5, es]
        refine ⟨fun t ht => ?_, fun c => absurd c r5⟩
        rw [fw 72 t (by omega)]; exact r7.1 t ht
      · by_cases hi2 : i = (y.1 80 9).toNatClampNeg
        · rw [hi2]
          refine SC_no ?_ ?_ <;> (unfold sop at *; rw [fw 81 _ (by omega), opz]; omega)
        · exact SC_eq (fun j => fw _ _ (by omega)) (fw _ _ (by omega)) (fw _ _ (by omega)) (fw _ _ (by omega)) z5 (fun j => fw _ _ (by omega)) (hC i (by omega) he)
    exact ⟨fun _ => ⟨vin, fun w ew => fin _ w ew⟩, fun _ => ⟨vin, fun w ew => fin _ w ew⟩⟩
  exact kg_X7_plainStatement_0 hq _ _ (kp_sort hq hB.1.1 ⟨fun _ => p14 _, fun _ => p14 _⟩)
end KSM
