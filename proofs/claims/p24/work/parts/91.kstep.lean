section
/-! the class: steps, open blocks -/
abbrev ssm (x : gd) : Int := (x.1 80 9).toInt
abbrev om (x : gd) : Int := (x.1 100 13).toInt
abbrev sop (x : gd) (i : Nat) : Int := (x.1 81 i).toInt
abbrev stg (x : gd) (i : Nat) : Int := (x.1 84 i).toInt
/-- a step's own -/
def SA (x : gd) (M : Int) (i : Nat) : Prop := (0 ≤ sop x i ∧ ¬ sop x i = 15) ∧ (0 ≤ (x.1 83 i).toInt ∧ (x.1 83 i).toInt ≤ 8) ∧ (sop x i ≤ 10 → ∃ t : Nat, (x.1 85 i).toInt = t ∧ (t : Int) < nx x ∧ (sop x i ≤ 4 → x.1 42 t = 6 ∨ x.1 42 t = 7 ∨ x.1 42 t = 8 ∨ x.1 42 t = 9) ∧ (5 ≤ sop x i → sop x i ≤ 8 → x.1 42 t = 4) ∧ (9 ≤ sop x i → x.1 42 t = 5)) ∧ ((sop x i = 0 ∨ (2 ≤ sop x i ∧ sop x i ≤ 4) ∨ sop x i = 16) → (0 ≤ stg x i ∧ stg x i < M) ∨ BU x)
/-- where a step jumps -/
def SC (x : gd) (i : Nat) : Prop := (sop x i = 17 ∨ sop x i = 20) → (stg x i = -1 ∧ ¬ x.1 100 5 = 0 ∧ ∃ k : Nat, (k : Int) < om x ∧ (x.1 112 k).toInt = i) ∨ (0 ≤ stg x i ∧ stg x i ≤ ssm x ∧ (x.1 100 5 = 0 → stg x i < ssm x) ∧ (sop x i = 20 → (i : Int) < stg x i ∨ sop x (stg x i).toNat = 17))
def SCs (x : gd) (E : Nat → Prop) : Prop := ∀ i : Nat, (i : Int) < ssm x → ¬ E i → SC x i
/-- an open block -/
def OP1 (x : gd) (k : Nat) : Prop := (k = 0 → x.1 111 k = 0 ∧ x.1 112 k = -1) ∧ (0 < k → (1 ≤ (x.1 111 k).toInt ∧ (x.1 111 k).toInt ≤ 5) ∧ ∃ s : Nat, (x.1 112 k).toInt = s ∧ (s : Int) < ssm x ∧ (x.1 111 k = 1 ∨ x.1 111 k = 3 → sop x s = 17) ∧ (x.1 111 k = 2 → sop x s = 5) ∧ (x.1 111 k = 4 ∨ x.1 111 k = 5 → sop x s = 20)) ∧ 0 ≤ (x.1 113 k).toInt ∧ (x.1 113 k).toInt ≤ (x.1 100 9).toInt
def OPs (x : gd) : Prop := (0 ≤ om x ∧ om x ≤ 18) ∧ (∀ k : Nat, (k : Int) < om x → OP1 x k) ∧ (∀ j k : Nat, j ≤ k → (k : Int) < om x → (x.1 113 j).toInt ≤ (x.1 113 k).toInt) ∧ (x.1 100 9).toInt ≤ (x.1 100 7).toInt ∧ (x.1 100 7).toInt ≤ 8
def CD (x : gd) : Prop := (0 ≤ (x.1 60 6).toInt ∧ (x.1 60 6).toInt ≤ 24) ∧ x.1 60 9 = x.1 40 8 ∧ x.1 60 10 = x.1 40 10 ∧ (0 ≤ (x.1 60 14).toInt ∧ (x.1 60 14).toInt ≤ 4) ∧ (0 ≤ (x.1 60 16).toInt ∧ (x.1 60 16).toInt ≤ 4) ∧ (0 ≤ (x.1 60 13).toInt ∧ (x.1 60 13).toInt ≤ 8) ∧ (¬ x.1 100 5 = 0 → (x.1 100 9).toInt ≤ (x.1 60 13).toInt)
/-- where threads begin, and that the last step stops -/
def TS (x : gd) : Prop := (∀ t : Nat, (t : Int) < (x.1 60 10).toInt → 0 ≤ (x.1 72 t).toInt ∧ (x.1 72 t).toInt ≤ ssm x ∧ (x.1 100 5 = 0 → (x.1 72 t).toInt < ssm x)) ∧ (x.1 100 5 = 0 → ssm x = 0 ∨ x.1 81 ((ssm x).toNat - 1) = 21)
def RI0 (x : gd) (M : Int) : Prop := (¬ x.1 100 5 = 0 → KN x ∧ OPs x) ∧ NM x ∧ CD x ∧ (0 ≤ ssm x ∧ (∀ i : Nat, (i : Int) < ssm x → SA x M i)) ∧ TS x
section KST
variable {G : kG} {q : kP} {d : Nat} {x x0 y z : gd} {F : Int32 → gd → Prop} {Fv : gd → Prop} {X : String → gd → Prop} {P : Option gv → gd → Prop} {m : Int}
theorem NM_fm (h : NM x) (f : ∀ c k, 40 ≤ c → c < 60 → c ≠ 42 → c ≠ 43 → y.1 c k = x.1 c k) (e7 : y.1 20 7 = x.1 20 7) (e6 : y.1 60 6 = x.1 60 6) : NM y := by
  unfold NM tk at h ⊢
  rw [f 40 6 (by omega) (by omega) (by omega) (by omega), f 40 8 (by omega) (by omega) (by omega) (by omega), f 40 10 (by omega) (by omega) (by omega) (by omega), e7, e6]
  refine ⟨h.1, h.2.1, h.2.2.1, fun i hi => ?_, fun i hi => ?_, fun i hi => ?_⟩
  · rw [f 44 i (by omega) (by omega) (by omega) (by omega), f 45 i (by omega) (by omega) (by omega) (by omega), f 46 i (by omega) (by omega) (by omega) (by omega)]; exact h.2.2.2.1 i hi
  · rw [f 48 i (by omega) (by omega) (by omega) (by omega)]; exact h.2.2.2.2.1 i hi
  · rw [f 50 i (by omega) (by omega) (by omega) (by omega)]; exact h.2.2.2.2.2 i hi
theorem SA_La {i : Nat} (la : La x y) (e1 : y.1 81 i = x.1 81 i) (e3 : y.1 83 i = x.1 83 i) (e5 : y.1 85 i = x.1 85 i) (e4 : y.1 84 i = x.1 84 i) {M M' : Int} (em : M ≤ M') (h : SA x M i) : SA y M' i := by
  unfold SA sop stg at h ⊢
  rw [e1, e3, e5, e4]
  have ln := la.2.1
  refine ⟨h.1, h.2.1, fun c => ?_, fun c => ?_⟩
  · obtain ⟨t, t1, t2, t3, t4, t5⟩ := h.2.2.1 c
    rw [← la.2.2 t t2] at t3 t4 t5
    exact ⟨t, t1, by omega, t3, t4, t5⟩
  · rcases h.2.2.2 c with g | g
    · exact Or.inl ⟨g.1, by omega⟩
    · exact Or.inr (La_BU la g)
theorem SC_eq {i : Nat} (e1 : ∀ j, y.1 81 j = x.1 81 j) (e4 : y.1 84 i = x.1 84 i) (em : y.1 80 9 = x.1 80 9) (eo : y.1 100 13 = x.1 100 13) (e5 : y.1 100 5 = x.1 100 5) (e2 : ∀ j, y.1 112 j = x.1 112 j) (h : SC x i) : SC y i := by
  unfold SC sop stg ssm om at h ⊢
  rw [e1, e4, em, eo, e5, e1]
  intro c
  rcases h c with ⟨g1, g2, k, g3, g4⟩ | g
  · exact Or.inl ⟨g1, g2, k, g3, by rw [e2]; exact g4⟩
  · exact Or.inr g
theorem OP1_eq {k : Nat} (e1 : ∀ j, y.1 81 j = x.1 81 j) (em : y.1 80 9 = x.1 80 9) (f : ∀ c j, 111 ≤ c → c ≤ 113 → y.1 c j = x.1 c j) (e9 : y.1 100 9 = x.1 100 9) (h : OP1 x k) : OP1 y k := by
  unfold OP1 sop ssm at h ⊢
  rw [f 111 k (by omega) (by omega), f 112 k (by omega) (by omega), f 113 k (by omega) (by omega), em, e9]
  refine ⟨h.1, fun c => ?_, h.2.2⟩
  obtain ⟨g1, s, g2, g3, g4⟩ := h.2.1 c
  exact ⟨g1, s, g2, g3, by rw [e1]; exact g4⟩
/-- reading on leaves all this -/
theorem RI0_La {M : Int} (h : RI0 x M) (la : La x y) (f : fm sSum x y) : RI0 y M := by
  obtain ⟨h1, h2, h3, ⟨h4, h6⟩, h7⟩ := h
  have g : ∀ c k, (c < 42 ∨ (42 < c ∧ c < 60) ∨ (63 < c ∧ c < 100) ∨ (100 < c ∧ c < 115)) → y.1 c k = x.1 c k := fun c k hc => f c k (by unfold sSum; omega)
  have g6 : ∀ k, ¬ k = 3 → y.1 60 k = x.1 60 k := fun k hk => f 60 k (by unfold sSum; omega)
  have g1 : ∀ k, ¬ k = 4 → ¬ k = 17 → y.1 100 k = x.1 100 k := fun k hk hl => f 100 k (by unfold sSum; omega)
  have ln := la.2.1
  have em : y.1 80 9 = x.1 80 9 := g _ _ (by omega)
  have es : ssm y = ssm x := by unfold ssm; rw [em]
  refine ⟨fun c => ?_, NM_fm h2 (fun c k q1 q2 q3 q4 => g c k (by omega)) (g _ _ (by omega)) (g6 _ (by omega)), ?_, ⟨by omega, fun i hi => SA_La la (g _ _ (by omega)) (g _ _ (by omega)) (g _ _ (by omega)) (g _ _ (by omega)) (Int.le_refl _) (h6 i (by omega))⟩, ?_⟩
  · rw [g1 5 (by omega) (by omega)] at c
    obtain ⟨k1, o1, o2, o3, o4⟩ := h1 c
    refine ⟨KN_fm k1 (g1 _ (by omega) (by omega)) (g _ _ (by omega)) (fun k => g _ _ (by omega)), ?_⟩
    unfold OPs om
    rw [g1 13 (by omega) (by omega), g1 9 (by omega) (by omega), g1 7 (by omega) (by omega)]
    refine ⟨o1, fun k hk => OP1_eq (fun j => g _ _ (by omega)) em (fun c j q1 q2 => g _ _ (by omega)) (g1 9 (by omega) (by omega)) (o2 k hk), fun j k hj hk => ?_, o4⟩
    rw [g 113 j (by omega), g 113 k (by omega)]; exact o3 j k hj hk
  · unfold CD at h3 ⊢
    rw [g6 6 (by omega), g6 9 (by omega), g6 10 (by omega), g6 14 (by omega), g6 16 (by omega), g6 13 (by omega), g1 5 (by omega) (by omega), g1 9 (by omega) (by omega), g 40 8 (by omega), g 40 10 (by omega)]
    exact h3
  · unfold TS at h7 ⊢
    rw [g6 10 (by omega), es, g1 5 (by omega) (by omega), g 81 _ (by omega)]
    refine ⟨fun t ht => ?_, h7.2⟩
    rw [g 72 t (by omega)]; exact h7.1 t ht
theorem SCs_La {E : Nat → Prop} (h : SCs x E) (f : fm sSum x y) : SCs y E := by
  intro i hi he
  have em : y.1 80 9 = x.1 80 9 := f _ _ (by unfold sSum; omega)
  refine SC_eq (fun j => f _ _ (by unfold sSum; omega)) (f _ _ (by unfold sSum; omega)) em (f _ _ (by unfold sSum; omega)) (f _ _ (by unfold sSum; omega)) (fun j => f _ _ (by unfold sSum; omega)) (h i ?_ he)
  unfold ssm at hi ⊢
  rw [← em]; exact hi
/-- one step more: all but what is put behind -/
def AD (x y : gd) (o l k : Int32) : Prop := fm (fun c k => (81 ≤ c ∧ c ≤ 89 ∧ k = (x.1 80 9).toNatClampNeg) ∨ (c = 80 ∧ k = 9)) x y ∧ ssm y = ssm x + 1 ∧ y.1 81 (x.1 80 9).toNatClampNeg = o ∧ y.1 83 (x.1 80 9).toNatClampNeg = k ∧ y.1 84 (x.1 80 9).toNatClampNeg = -1
end KST
end
section
/-! the class: a step is added, with all its fields -/
section KADF
variable {G : kG} {q : kP} {d : Nat} {x x0 y z : gd} {F : Int32 → gd → Prop}
theorem kf_add (hq : kV q) (o l k : Int32) (h0 : 0 ≤ ssm x) (h1 : ssm x < 400) (h : ∀ y, AD x y o l k → vp_in (x.1 80 9) 400 → (y.1 85 (x.1 80 9).toNatClampNeg = -1 ∧ y.1 87 (x.1 80 9).toNatClampNeg = -1 ∧ y.1 88 (x.1 80 9).toNatClampNeg = -1 ∧ y.1 89 (x.1 80 9).toNatClampNeg = -1) → F (x.1 80 9) y) : KT G q d zk_X8_add 0 [(0, vr 80), (1, vi o), (2, vi l), (3, vi k)] [] x (ri F) := by
  have k4 : (Int32.ofNat 400).toInt = 400 := rfl
  have vin : vp_in (x.1 80 9) 400 := by rw [vp_in_iff]; unfold ssm at *; omega
  refine kg_X8_add_0 hq _ _ _ ⟨fun c => ?_, fun _ => kg_X8_add_26 hq _ _ _ _ ⟨vin, fun x2 e2 => ⟨vin, fun x4 e4 => ⟨vin, fun x6 e6 => ⟨vin, fun x8 e8 => ⟨vin, fun x10 e10 => ⟨vin, fun x12 e12 => ⟨vin, fun x14 e14 => ⟨vin, fun x16 e16 => ⟨vin, fun x18 e18 y ey => ri_i (h y ⟨?_, ?_, ?_, ?_, ?_⟩ vin ⟨?_, ?_, ?_, ?_⟩)⟩⟩⟩⟩⟩⟩⟩⟩⟩⟩
  · exfalso; rw [t_le, k4] at c; unfold ssm at *; omega
  · rw [ey, e18, e16, e14, e12, e10, e8, e6, e4, e2]
    exact fm_si (fm_si (fm_si (fm_si (fm_si (fm_si (fm_si (fm_si (fm_si (fm_si (fm_rf _ _) (Or.inl ⟨by omega, by omega, rfl⟩)) (Or.inl ⟨by omega, by omega, rfl⟩)) (Or.inl ⟨by omega, by omega, rfl⟩)) (Or.inl ⟨by omega, by omega, rfl⟩)) (Or.inl ⟨by omega, by omega, rfl⟩)) (Or.inl ⟨by omega, by omega, rfl⟩)) (Or.inl ⟨by omega, by omega, rfl⟩)) (Or.inl ⟨by omega, by omega, rfl⟩)) (Or.inl ⟨by omega, by omega, rfl⟩)) (Or.inr ⟨rfl, rfl⟩)
  · have : y.1 80 9 = x.1 80 9 + 1 := by rw [ey]; (simp only [si_get, sfl_get, Nat.reduceEqDiff, eq_self, and_false, false_and, and_true, true_and, if_true, if_false, reduceIte, reduceCtorEq])
    unfold ssm at *
    rw [this, t_add (by show _ ≤ _ + (1 : Int); omega) (by show _ + (1 : Int) ≤ _; omega)]; rfl
  · rw [ey, e18, e16, e14, e12, e10, e8, e6, e4, e2]; (simp only [si_get, sfl_get, Nat.reduceEqDiff, eq_self, and_false, false_and, and_true, true_and, if_true, if_false, reduceIte, reduceCtorEq])
  · rw [ey, e18, e16, e14, e12, e10, e8, e6, e4, e2]; (simp only [si_get, sfl_get, Nat.reduceEqDiff, eq_self, and_false, false_and, and_true, true_and, if_true, if_false, reduceIte, reduceCtorEq])
  · rw [ey, e18, e16, e14, e12, e10, e8, e6, e4, e2]; (simp only [si_get, sfl_get, Nat.reduceEqDiff, eq_self, and_false, false_and, and_true, true_and, if_true, if_false, reduceIte, reduceCtorEq])
  · rw [ey, e18, e16, e14, e12, e10, e8, e6, e4, e2]; (simp only [si_get, sfl_get, Nat.reduceEqDiff, eq_self, and_false, false_and, and_true, true_and, if_true, if_false, reduceIte, reduceCtorEq])
  · rw [ey, e18, e16, e14, e12, e10, e8, e6, e4, e2]; (simp only [si_get, sfl_get, Nat.reduceEqDiff, eq_self, and_false, false_and, and_true, true_and, if_true, if_false, reduceIte, reduceCtorEq])
  · rw [ey, e18, e16, e14, e12, e10, e8, e6, e4, e2]; (simp only [si_get, sfl_get, Nat.reduceEqDiff, eq_self, and_false, false_and, and_true, true_and, if_true, if_false, reduceIte, reduceCtorEq])
  · rw [ey, e18, e16, e14, e12, e10, e8, e6, e4, e2]; (simp only [si_get, sfl_get, Nat.reduceEqDiff, eq_self, and_false, false_and, and_true, true_and, if_true, if_false, reduceIte, reduceCtorEq])
end KADF
end
section
/-! the class: statements -/
/-- the innermost block is no else-if -/
def TIk (x : gd) : Prop := ∀ k : Nat, (k : Int) + 1 = om x → ¬ x.1 111 k = 5
/-- on an else-if stand if, else or else-if alone -/
def R5 (x : gd) : Prop := ∀ k : Nat, (k : Int) + 1 < om x → x.1 111 k = 5 → x.1 111 (k + 1) = 3 ∨ x.1 111 (k + 1) = 4 ∨ x.1 111 (k + 1) = 5
def TRk (x : gd) (E : Nat → Prop) : Prop := (¬ E 1000000 → TIk x) ∧ R5 x
/-- reading within a thread -/
def BB (x0 x : gd) (M : Int) (E : Nat → Prop) : Prop := SU x ∧ FR x ∧ RI0 x M ∧ SCs x E ∧ ¬ x.1 100 5 = 0 ∧ fm sR x0 x ∧ TRk x E
def GS (x y : gd) : Prop := La x y ∧ fm sSum x y
section KSM
variable {G : kG} {q : kP} {d : Nat} {x x0 y z : gd} {F : Int32 → gd → Prop} {Fv : gd → Prop} {X : String → gd → Prop} {P : Option gv → gd → Prop} {M : Int} {E : Nat → Prop}
theorem GS_rf : GS x x := ⟨La_rf, fm_rf _ _⟩
theorem GS_tr (a : GS x y) (b : GS y z) : GS x z := ⟨La_tr a.1 b.1, fm_tr a.2 b.2⟩
theorem GS_at (a : GS x y) (c k : Nat) (h : ¬ sSum c k) : y.1 c k = x.1 c k := a.2 c k h
theorem GS_sm (a : GS x y) : ssm y = ssm x := by unfold ssm; rw [a.2 80 9 (by unfold sSum; omega)]
theorem GS_om (a : GS x y) : om y = om x := by unfold om; rw [a.2 100 13 (by unfold sSum; omega)]
theorem TI_eq (h : TIk x) (e : y.1 100 13 = x.1 100 13) (f : ∀ k, y.1 111 k = x.1 111 k) : TIk y := fun k hk => by rw [f k]; exact h k (by unfold om at *; rw [e] at hk; exact hk)
theorem TR_eq {E E' : Nat → Prop} (h : TRk x E) (hE : E 1000000 → E' 1000000) (e : y.1 100 13 = x.1 100 13) (f : ∀ k, y.1 111 k = x.1 111 k) : TRk y E' := ⟨fun he => TI_eq (h.1 (fun c => he (hE c))) e f, fun k hk c => by
  rw [f] at c ⊢
  exact h.2 k (by unfold om at *; rw [e] at hk; exact hk) c⟩
theorem BB_on (hB : BB x0 x M E) (hS : SU y) (hF : FR y) (g : GS x y) : BB x0 y M E := ⟨hS, hF, RI0_La hB.2.2.1 g.1 g.2, SCs_La hB.2.2.2.1 g.2, by rw [g.2 100 5 (by unfold sSum; omega)]; exact hB.2.2.2.2.1, fm_tr hB.2.2.2.2.2.1 (fm_w g.2 (fun c k q => sSum_R q)), TR_eq hB.2.2.2.2.2.2 id (g.2 _ _ (by unfold sSum; omega)) (fun k => g.2 _ _ (by unfold sSum; omega))⟩
theorem kb_refuse (hq : kV q) (hx : RX x0 X) (hB : BB x0 x M E) (n : Int32) (hn : ¬ n = 0 := by decide) : KE G q (d + 6) zk_X7_refuse 0 [(0, vr 100), (1, vi n)] [] x P X := kp_refuse hq n (RB_at hB.1.1) hB.2.2.2.2.2.1 hx hn
theorem BB_om (hB : BB x0 x M E) : (0 ≤ om x ∧ om x ≤ 18) ∧ (om x ≤ 17 → (x.1 100 13 + 1).toInt = om x + 1) := by
  obtain ⟨-, o1, -⟩ := hB.2.2.1.1 hB.2.2.2.2.1
  refine ⟨o1, fun h => t_add (by show _ ≤ _ + (1 : Int); unfold om at *; omega) (by show _ + (1 : Int) ≤ _; unfold om at *; omega)⟩
theorem BB_N (hB : BB x0 x M E) : ((x.1 100 4).toNatClampNeg : Int) = nx x := by
  have := hB.1.1.2.1
  rw [t_cl]; unfold nx at *; omega
/-- a step more within a thread -/
theorem BB_add (hB : BB x0 x M E) {n : Nat} (hn : (n : Int) = ssm x) (f : fm (fun c k => (81 ≤ c ∧ c ≤ 89 ∧ k = n) ∨ (c = 80 ∧ k = 9)) x z) (es : ssm z = ssm x + 1) (hA : SA z M n) : BB x0 z M (fun i => E i ∨ i = n) := by
  obtain ⟨hS, hF, ⟨h1, h2, h3, ⟨h4, h6⟩, h7⟩, hC, h5, h0, hI⟩ := hB
  have g : ∀ c k, c < 80 ∨ 89 < c → z.1 c k = x.1 c k := fun c k hc => f c k (by omega)
  have gs : ∀ c k, k ≠ n → ¬ (c = 80 ∧ k = 9) → z.1 c k = x.1 c k := fun c k hk hc => f c k (by omega)
  have la : La x z := ⟨fun c k q1 q2 => g c k (by omega), by unfold nx; rw [g 100 4 (by omega)]; exact Int.le_refl _, fun j _ => g 42 j (by omega)⟩
  have nn : nx z = nx x := by unfold nx; rw [g 100 4 (by omega)]
  have z5 : z.1 100 5 = x.1 100 5 := g _ _ (by omega)
  have zo : z.1 100 13 = x.1 100 13 := g _ _ (by omega)
  refine ⟨?_, ?_, ⟨fun c => ?_, NM_fm h2 (fun c k q1 q2 q3 q4 => g c k (by omega)) (g _ _ (by omega)) (g _ _ (by omega)), ?_, ⟨by omega, fun i hi => ?_⟩, ?_⟩, fun i hi he => ?_, by rw [z5]; exact h5, fm_tr h0 (fm_w f (fun c k q => by unfold sR; omega)), TR_eq hI Or.inl zo (fun k => g _ _ (by omega))⟩
  · obtain ⟨⟨hT, b1, b2, b3⟩, ⟨u1, u2⟩, hp, hP⟩ := hS
    unfold SU SV US RB mt
    rw [g 20 7 (by omega), g 60 3 (by omega), nn]
    refine ⟨⟨kT_fm hT la.1, b1, b2, b3⟩, ⟨fun j h1 h2 => ?_, fun j h1 h2 => ?_⟩, hp, fun i hi => La_PQ la (g _ _ (by omega)) (g _ _ (by omega)) (hP i hi)⟩
    · rw [g 42 j (by omega)]; exact u1 j h1 h2
    · rw [g 42 j (by omega)] at h2; rw [g 42 _ (by omega)]; exact u2 j h1 h2
  · unfold FR at hF ⊢
    rw [g 100 4 (by omega), g 42 _ (by omega)]; exact hF
  · obtain ⟨k1, o1, o2, o3, o4⟩ := h1 h5
    refine ⟨KN_fm k1 (g _ _ (by omega)) (g _ _ (by omega)) (fun k => g _ _ (by omega)), ?_⟩
    unfold OPs om
    rw [zo, g 100 9 (by omega), g 100 7 (by omega)]
    refine ⟨o1, fun k hk => ?_, fun j k hj hk => ?_, o4⟩
    · have := o2 k hk
      unfold OP1 at this ⊢
      rw [g 111 k (by omega), g 112 k (by omega), g 113 k (by omega), g 100 9 (by omega)]
      refine ⟨this.1, fun c => ?_, this.2.2⟩
      obtain ⟨p1, s, p2, p3, p4⟩ := this.2.1 c
      refine ⟨p1, s, p2, by omega, ?_⟩
      unfold sop at p4 ⊢
      rw [gs 81 s (by omega) (by omega)]; exact p4
    · rw [g 113 j (by omega), g 113 k (by omega)]; exact o3 j k hj hk
  · unfold CD at h3 ⊢
    rw [g 60 6 (by omega), g 60 9 (by omega), g 60 10 (by omega), g 60 14 (by omega), g 60 16 (by omega), g 60 13 (by omega), z5, g 100 9 (by omega), g 40 8 (by omega), g 40 10 (by omega)]
    exact h3
  · by_cases hi2 : i = n
    · rw [hi2]; exact hA
    · exact SA_La la (gs _ _ hi2 (by omega)) (gs _ _ hi2 (by omega)) (gs _ _ hi2 (by omega)) (gs _ _ hi2 (by omega)) (Int.le_refl _) (h6 i (by omega))
  · unfold TS at h7 ⊢
    rw [g 60 10 (by omega), z5]
    refine ⟨fun t ht => ?_, fun c => absurd c h5⟩
    rw [g 72 t (by omega)]
    obtain ⟨p1, p2, p3⟩ := h7.1 t ht
    exact ⟨p1, by omega, fun c => absurd c h5⟩
  · have hin : i ≠ n := fun e => he (Or.inr e)
    have := hC i (by omega) (fun e => he (Or.inl e))
    unfold SC at this ⊢
    have e1 : sop z i = sop x i := by unfold sop; rw [gs 81 i hin (by omega)]
    have e4 : stg z i = stg x i := by unfold stg; rw [gs 84 i hin (by omega)]
    rw [e1, e4, z5]
    intro c
    rcases this c with ⟨p1, p2, k, p3, p4⟩ | ⟨p1, p2, p3, p4⟩
    · exact Or.inl ⟨p1, p2, k, by unfold om at p3 ⊢; rw [zo]; exact p3, by rw [g 112 k (by omega)]; exact p4⟩
    · refine Or.inr ⟨p1, by omega, fun c5 => absurd c5 h5, fun c20 => ?_⟩
      rcases p4 c20 with g1 | g1
      · exact Or.inl g1
      · by_cases hlt : (i : Int) < stg x i
        · exact Or.inl hlt
        · refine Or.inr ?_
          unfold sop at g1 ⊢
          rw [gs 81 _ (by omega) (by omega)]; exact g1
theorem SC_no {i : Nat} (h1 : ¬ sop z i = 17) (h2 : ¬ sop z i = 20) : SC z i := fun c => by
  rcases c with c | c
  · exact absurd c h1
  · exact absurd c h2
theorem BB_E {E' : Nat → Prop} (hB : BB x0 x M E) (ht : E 1000000 → E' 1000000) (h : ∀ i : Nat, (i : Int) < ssm x → E i → ¬ E' i → SC x i) : BB x0 x M E' := ⟨hB.1, hB.2.1, hB.2.2.1, fun i hi he => by
  by_cases h9 : E i
  · exact h i hi h9 he
  · exact hB.2.2.2.1 i hi h9, hB.2.2.2.2.1, hB.2.2.2.2.2.1, TR_eq hB.2.2.2.2.2.2 ht rfl (fun _ => rfl)⟩
theorem RI0_M {M' : Int} (h : M ≤ M') (hR : RI0 x M) : RI0 x M' := ⟨hR.1, hR.2.1, hR.2.2.1, ⟨hR.2.2.2.1.1, fun i hi => SA_La La_rf rfl rfl rfl rfl h (hR.2.2.2.1.2 i hi)⟩, hR.2.2.2.2⟩
theorem BB_M {M' : Int} (h : M ≤ M') (hB : BB x0 x M E) : BB x0 x M' E := ⟨hB.1, hB.2.1, RI0_M h hB.2.2.1, hB.2.2.2⟩
theorem BB_400 (hB : BB x0 x M E) (ha : 2 * ssm x ≤ nx x + 2) : 0 ≤ ssm x ∧ ssm x < 400 ∧ (((x.1 80 9).toNatClampNeg : Nat) : Int) = ssm x ∧ 0 ≤ (x.1 100 9).toInt ∧ (x.1 100 9).toInt ≤ 8 := by
  have h4 := hB.2.2.1.2.2.2.1.1
  have b2 := hB.1.1.2.2.1
  obtain ⟨k1, -⟩ := hB.2.2.1.1 hB.2.2.2.2.1
  exact ⟨h4, by omega, by rw [t_cl]; unfold ssm at *; omega, k1.1⟩
end KSM
end
section
/-! a sum's events, by the grammar -/
def sG (o : Bool) (L L' : gU) : Prop := ∃ N, L' = L ++ N ∧ sEv o N
section SGL
variable {K : Nat → Int32} {L L' L2 : gU} {o : Bool}
theorem sG_rf : sG o L L := ⟨[], by rw [List.append_nil], sEv_nil⟩
theorem sG_tr (h : sG o L L') (g : sG o L' L2) : sG o L L2 := by
  obtain ⟨N, e, h⟩ := h
  obtain ⟨N2, e2, g⟩ := g
  exact ⟨N ++ N2, by rw [e2, e, List.append_assoc], sEv_app h g⟩
theorem sG_k {k a b : Nat} (h : k = 50 ∨ k = 51 ∨ k = 52 ∨ k = 53 ∨ (o = false ∧ k = 3) ∨ (o = true ∧ (k = 6 ∨ k = 7 ∨ k = 12))) : sG o L (L ++ [(k, a, b)]) := ⟨_, rfl, sEv_one h⟩
theorem pt_sG {w : Int32} {q r : Nat × gU} (h : pt K w q = some r) : sG o q.2 r.2 := by
  obtain ⟨-, -, e⟩ := pt_is h
  rw [e]; exact sG_rf
abbrev sgo (o : Bool) (rE : Nat → Nat → gU → gOp) : Prop := ∀ s i L q, rE s i L = some q → sG o L q.2
theorem pW_sG {rE : Nat → Nat → gU → gOp} {th : Nat} (hr : sgo o rE) : ∀ (f j : Nat) (L : gU) (q : Nat × gU), pW rE K th f j L = some q → sG o L q.2 := by
  intro f
  induction f with
  | zero => intro j L q h; exact absurd h (by simp [pW])
  | succ f ih =>
    intro j L q h
    rw [pW] at h
    split at h
    · split at h
      · obtain ⟨z, hz, h2⟩ := Option.bind_eq_some_iff.mp h
        exact sG_tr (hr _ _ _ _ hz) (sG_tr (sG_k (Or.inr (Or.inl rfl))) (ih _ _ _ h2))
      · exact absurd h (by simp)
    · cases Option.some.inj h; exact sG_rf
theorem pO_sG {rE : Nat → Nat → gU → gOp} (hr : sgo o rE) {i : Nat} {q : Nat × gU} (h : pO rE K o i L = some q) : sG o L q.2 := by
  unfold pO at h
  split at h
  · exact absurd h (by simp)
  · split at h
    · cases Option.some.inj h; exact sG_k (Or.inr (Or.inr (Or.inl rfl)))
    · split at h
      · cases Option.some.inj h; exact sG_k (Or.inr (Or.inr (Or.inr (Or.inl rfl))))
      · split at h
        · obtain ⟨z, hz, h2⟩ := Option.bind_eq_some_iff.mp h
          exact sG_tr (hr _ _ _ _ hz) (pt_sG h2)
        · split at h
          · split at h
            · next ho =>
              split at h
              · split at h
                · cases Option.some.inj h
                  exact ⟨_, rfl, sEv_app (N := [_]) (M := [_]) (sEv_one (Or.inr (Or.inr (Or.inr (Or.inr (Or.inr ⟨ho, Or.inr (Or.inl rfl)⟩)))))) (sEv_one (Or.inr (Or.inr (Or.inr (Or.inr (Or.inr ⟨ho, Or.inr (Or.inr rfl)⟩))))))⟩
                · exact absurd h (by simp)
              · cases Option.some.inj h; exact sG_k (Or.inr (Or.inr (Or.inr (Or.inr (Or.inr ⟨ho, Or.inl rfl⟩)))))
            · next ho =>
              cases Option.some.inj h
              exact sG_k (Or.inr (Or.inr (Or.inr (Or.inr (Or.inl ⟨by cases o with | false => rfl | true => exact absurd rfl ho, rfl⟩)))))
          · exact absurd h (by simp)
theorem pE_sG : ∀ f : Nat, sgo o (pE K o f) := by
  intro f
  induction f with
  | zero => intro s i L q h; exact absurd h (by simp [pE])
  | succ f ih =>
    intro s i L q h
    rw [pE] at h
    split at h
    · obtain ⟨z, hz, h2⟩ := Option.bind_eq_some_iff.mp h
      refine sG_tr ?_ (pW_sG ih _ _ _ _ h2)
      split at hz
      · split at hz
        · obtain ⟨y, hy, h3⟩ := Option.bind_eq_some_iff.mp hz
          cases Option.some.inj h3
          exact sG_tr (ih _ _ _ _ hy) (sG_k (Or.inl rfl))
        · exact absurd hz (by simp)
      · exact pO_sG ih hz
    · exact absurd h (by simp)
/-- a whole sum: its events, then its end -/
theorem pX_sE {f i j : Nat} {N : gU} (h : pX K o f i L = some (j, L ++ N)) : ∃ N', N = N' ++ [(54, 0, 0)] ∧ sEv o N' := by
  obtain ⟨z, hz, h2⟩ := Option.bind_eq_some_iff.mp h
  obtain ⟨N', e, hs⟩ := pE_sG f _ _ _ _ hz
  unfold pan at h2
  have h2 := Option.some.inj h2
  have e2 : z.2 ++ [(54, 0, 0)] = L ++ N := congrArg Prod.snd h2
  rw [e, List.append_assoc] at e2
  exact ⟨N', (List.append_cancel_left e2).symm, hs⟩
end SGL
end
section
/-! the class's code as the events say it, while it is read: names stand as their tokens -/
/-- a local's name alone is a sum -/
def alP (sN : Nat → Nat → Bool) (E : gV) (i : Nat) : List (Int32 × Int32) := match kfi sN E.1 i with
  | some p => [(2, Int32.ofNat p), (0, 0)]
  | none => []
def tPv (sN : Nat → Nat → Bool) (V K : Nat → Int32) (E : gV) (v : Nat × Nat × Nat) : List (Int32 × Int32) := if v.1 = 24 then alP sN E v.2.1 else if v.1 = 27 then alP sN E v.2.2 else (cPt sN V K E v).toList
/-- the parts of events in a row -/
def tPs (sN : Nat → Nat → Bool) (V K : Nat → Int32) : gU → gV → List (Int32 × Int32)
  | [], _ => []
  | v :: M, E => tPv sN V K E v ++ tPs sN V K M (exV E v)
/-- a sum's parts and its end stand in P from r on -/
def SUc (P : List (Int32 × Int32)) (r : Int32) (Q : List (Int32 × Int32)) : Prop := ∃ n : Nat, r.toInt = (min n 800 : Nat) ∧ ∀ i q, (Q ++ [(0, 0)])[i]? = some q → P[n + i]? = some q
def cSu (sN : Nat → Nat → Bool) (V K : Nat → Int32) (P : List (Int32 × Int32)) (ks : gK) (v : Int32) : Option gU → Prop
  | none => v = -1
  | some N => SUc P v (sPs sN V K (ks, [0], 0) N)
def tgI (v : Int32) (o : Option Nat) : Prop := match o with
  | none => v = -1
  | some n => v.toInt = (n : Nat)
def obI (V : Nat → Int32) (v : Int32) (op : Nat) (o : Option Nat) : Prop := match o with
  | none => v = -1
  | some t => if op = 13 then v = V t else v.toInt = (t : Nat)
/-- one step: op 81, known 83, target 84, object 85, index 87, first 88, second 89 -/
def kS (sN : Nat → Nat → Bool) (V K : Nat → Int32) (x : gd) (P : List (Int32 × Int32)) (j : Nat) (st : gSt) : Prop :=
  x.1 81 j = Int32.ofNat st.1 ∧ (x.1 83 j).toInt = st.2.2.1.1.length ∧
  ((st.1 = 0 ∨ (2 ≤ st.1 ∧ st.1 ≤ 4) ∨ st.1 = 16 ∨ st.1 = 17 ∨ st.1 = 20) → tgI (x.1 84 j) st.2.2.2.1) ∧ (st.1 = 8 → (x.1 84 j = 1 ↔ st.2.2.2.2.2.1 = true)) ∧
  (¬ st.1 = 16 → obI V (x.1 85 j) st.1 st.2.2.2.2.1) ∧
  cSu sN V K P st.2.2.1.1 (x.1 87 j) st.2.2.2.2.2.2.1 ∧ cSu sN V K P st.2.2.1.1 (x.1 88 j) st.2.2.2.2.2.2.2.1 ∧ cSu sN V K P st.2.2.1.1 (x.1 89 j) st.2.2.2.2.2.2.2.2
def SRk (sN : Nat → Nat → Bool) (V K : Nat → Int32) (x : gd) (P : List (Int32 × Int32)) (S : List gSt) : Prop := (x.1 80 9).toInt = S.length ∧ ∀ j st, S[j]? = some st → kS sN V K x P j st
/-- the steps of the open statements (a thread's block has none) -/
def SKk (x : gd) : Nat → List Nat → Prop
  | 0, k => k = []
  | n + 1, k => (x.1 111 n = 0 ∧ SKk x n k) ∨ (¬ x.1 111 n = 0 ∧ ∃ j k', k = j :: k' ∧ (x.1 112 n).toInt = (j : Nat) ∧ SKk x n k')
def CCp (sN : Nat → Nat → Bool) (V K : Nat → Int32) (x : gd) (c : gCd) (d : Nat × Int32 × List (Int32 × Bool)) (P : List (Int32 × Int32)) : Prop :=
  PR x P ∧ SRk sN V K x P c.2.1 ∧ ((¬ x.1 100 5 = 0 → SKk x (x.1 100 13).toNatClampNeg c.2.2.1) ∧ (x.1 100 5 = 0 → c.2.2.1 = [])) ∧
  ((x.1 60 10).toInt = c.2.2.2.2.1.length ∧ ∀ (t : Nat) (q : Nat × Nat), c.2.2.2.2.1[t]? = some q → (x.1 72 t).toInt = q.1 ∧ x.1 73 t = Int32.ofNat q.2) ∧
  ((x.1 60 6).toInt = d.2.2.length ∧ ∀ j q, d.2.2[j]? = some q → x.1 68 j = q.1 ∧ x.1 69 j = if q.2 = true then 1 else 0) ∧
  ((x.1 60 14).toInt = (clF 35 c.2.2.2.2.2).length ∧ ∀ k N, (clF 35 c.2.2.2.2.2)[k]? = some N → SUc P (x.1 76 k) (sPs sN V K E0v N)) ∧
  ((x.1 60 16).toInt = (clF 36 c.2.2.2.2.2).length ∧ ∀ k N, (clF 36 c.2.2.2.2.2)[k]? = some N → SUc P (x.1 78 k) (sPs sN V K E0v N))
/-- what reading a piece does to the code: from x to y by the events M (no statement is under way before it, none behind it) -/
def CG (sN : Nat → Nat → Bool) (V K : Nat → Int32) (E : gV) (x y : gd) (M : gU) : Prop := ∀ c d P, eqE c.1 E → c.2.2.2.1 = rg0 → CCp sN V K x c d P → CCp sN V K y (cds sN K M c) (ces K V M d) (P ++ tPs sN V K M E) ∧ eqE (cds sN K M c).1 (exs M E) ∧ (cds sN K M c).2.2.2.1 = rg0
/-- the cells on which it rests -/
def ccS (c k : Nat) : Prop := (c = 60 ∧ k ≠ 13) ∨ (61 ≤ c ∧ c < 90) ∨ (c = 100 ∧ (k = 5 ∨ k = 13)) ∨ c = 111 ∨ c = 112
section KCO
variable {sN : Nat → Nat → Bool} {V K : Nat → Int32} {E : gV} {x y z : gd} {M N : gU} {c : gCd} {d : Nat × Int32 × List (Int32 × Bool)} {P Q : List (Int32 × Int32)} {S : List gSt}
theorem tPs_app : ∀ {M : gU} {E : gV}, tPs sN V K (M ++ N) E = tPs sN V K M E ++ tPs sN V K N (exs M E) := by
  intro M
  induction M with
  | nil => intro E; rfl
  | cons v M ih =>
    intro E
    show tPv sN V K E v ++ tPs sN V K (M ++ N) (exV E v) = (tPv sN V K E v ++ tPs sN V K M (exV E v)) ++ tPs sN V K N (exs M (exV E v))
    rw [ih, List.append_assoc]
theorem tPs_still : ∀ {M : gU}, still M → (∀ v ∈ M, ¬ v.1 = 24 ∧ ¬ v.1 = 27) → tPs sN V K M E = sPs sN V K E M := by
  intro M
  induction M with
  | nil => intro _ _; rfl
  | cons v M ih =>
    intro h g
    show tPv sN V K E v ++ tPs sN V K M (exV E v) = (v :: M).filterMap (cPt sN V K E)
    have e : tPv sN V K E v = (cPt sN V K E v).toList := by
      unfold tPv
      rw [if_neg (g v List.mem_cons_self).1, if_neg (g v List.mem_cons_self).2]
    rw [e, exV_still (h v List.mem_cons_self), ih (fun w hw => h w (List.mem_cons_of_mem _ hw)) (fun w hw => g w (List.mem_cons_of_mem _ hw)), List.filterMap_cons]
    cases cPt sN V K E v <;> rfl
theorem SUc_mono {r : Int32} (h : SUc P r Q) (P' : List (Int32 × Int32)) : SUc (P ++ P') r Q := by
  obtain ⟨n, h1, h2⟩ := h
  refine ⟨n, h1, fun i q hq => ?_⟩
  have a := h2 i q hq
  rw [List.getElem?_append_left (gt_lt a)]
  exact a
theorem cSu_mono {ks : gK} {v : Int32} {o : Option gU} (h : cSu sN V K P ks v o) (P' : List (Int32 × Int32)) : cSu sN V K (P ++ P') ks v o := by
  cases o with
  | none => exact h
  | some N => exact SUc_mono h P'
theorem kS_mono {j : Nat} {st : gSt} (h : kS sN V K x P j st) (P' : List (Int32 × Int32)) : kS sN V K x (P ++ P') j st := by
  obtain ⟨h1, h2, h3, h4, h5, h6, h7, h8⟩ := h
  exact ⟨h1, h2, h3, h4, h5, cSu_mono h6 P', cSu_mono h7 P', cSu_mono h8 P'⟩
theorem kS_eq {j : Nat} {st : gSt} (e : ∀ k, 81 ≤ k → k < 90 → y.1 k j = x.1 k j) (h : kS sN V K x P j st) : kS sN V K y P j st := by
  unfold kS
  rw [e 81 (by decide) (by decide), e 83 (by decide) (by decide), e 84 (by decide) (by decide), e 85 (by decide) (by decide), e 87 (by decide) (by decide), e 88 (by decide) (by decide), e 89 (by decide) (by decide)]
  exact h
theorem SKk_eq : ∀ {n : Nat} {k : List Nat}, (∀ i, i < n → y.1 111 i = x.1 111 i ∧ y.1 112 i = x.1 112 i) → SKk x n k → SKk y n k := by
  intro n
  induction n with
  | zero => intro k _ h; exact h
  | succ n ih =>
    intro k e h
    obtain ⟨e1, e2⟩ := e n (Nat.lt_succ_self _)
    have e' : ∀ i, i < n → y.1 111 i = x.1 111 i ∧ y.1 112 i = x.1 112 i := fun i hi => e i (Nat.lt_succ_of_lt hi)
    rcases h with ⟨h1, h2⟩ | ⟨h1, j, k', h2, h3, h4⟩
    · exact Or.inl ⟨by rw [e1]; exact h1, ih e' h2⟩
    · exact Or.inr ⟨by rw [e1]; exact h1, j, k', h2, by rw [e2]; exact h3, ih e' h4⟩
theorem CCp_eq (e : ∀ c k, ccS c k → y.1 c k = x.1 c k) (h : CCp sN V K x c d P) : CCp sN V K y c d P := by
  obtain ⟨⟨p1, p2⟩, ⟨s1, s2⟩, ⟨k1, k2⟩, ⟨b1, b2⟩, ⟨c1, c2⟩, ⟨a1, a2⟩, ⟨f1, f2⟩⟩ := h
  have g : ∀ c k, 61 ≤ c → c < 90 → y.1 c k = x.1 c k := fun c k q1 q2 => e c k (Or.inr (Or.inl ⟨q1, q2⟩))
  have g6 : ∀ k, k ≠ 13 → y.1 60 k = x.1 60 k := fun k q => e 60 k (Or.inl ⟨rfl, q⟩)
  have e5 : y.1 100 5 = x.1 100 5 := e _ _ (Or.inr (Or.inr (Or.inl ⟨rfl, Or.inl rfl⟩)))
  have e13 : y.1 100 13 = x.1 100 13 := e _ _ (Or.inr (Or.inr (Or.inl ⟨rfl, Or.inr rfl⟩)))
  refine ⟨⟨by rw [g6 3 (by decide)]; exact p1, fun i q hi hq => by rw [g 62 i (by decide) (by decide), g 63 i (by decide) (by decide)]; exact p2 i q hi hq⟩, ⟨by rw [g 80 9 (by decide) (by decide)]; exact s1, fun j st hj => kS_eq (fun k q1 q2 => g k j (by omega) q2) (s2 j st hj)⟩, ⟨fun q => ?_, fun q => k2 (by rw [← e5]; exact q)⟩, ⟨by rw [g6 10 (by decide)]; exact b1, fun t q hq => by rw [g 72 t (by decide) (by decide), g 73 t (by decide) (by decide)]; exact b2 t q hq⟩, ⟨by rw [g6 6 (by decide)]; exact c1, fun j q hq => by rw [g 68 j (by decide) (by decide), g 69 j (by decide) (by decide)]; exact c2 j q hq⟩, ⟨by rw [g6 14 (by decide)]; exact a1, fun k N hN => by rw [g 76 k (by decide) (by decide)]; exact a2 k N hN⟩, ⟨by rw [g6 16 (by decide)]; exact f1, fun k N hN => by rw [g 78 k (by decide) (by decide)]; exact f2 k N hN⟩⟩
  rw [e13]
  exact SKk_eq (fun i _ => ⟨e _ _ (Or.inr (Or.inr (Or.inr (Or.inl rfl)))), e _ _ (Or.inr (Or.inr (Or.inr (Or.inr rfl))))⟩) (k1 (by rw [← e5]; exact q))
theorem CG_app (h : CG sN V K E x y M) (g : CG sN V K (exs M E) y z N) : CG sN V K E x z (M ++ N) := fun c d P he hr hc => by
  obtain ⟨h1, h2, h3⟩ := h c d P he hr hc
  obtain ⟨g1, g2, g3⟩ := g _ _ _ h2 h3 h1
  rw [cds_app, ces_app, tPs_app, exs_app, ← List.append_assoc]
  exact ⟨g1, g2, g3⟩
theorem CG_st (h : CG sN V K E x y M) (e : ∀ c k, ccS c k → z.1 c k = y.1 c k) : CG sN V K E x z M := fun c d P he hr hc => ⟨CCp_eq e (h c d P he hr hc).1, (h c d P he hr hc).2⟩
theorem CG_pre (e : ∀ c k, ccS c k → y.1 c k = x.1 c k) (h : CG sN V K E y z M) : CG sN V K E x z M := fun c d P he hr hc => h c d P he hr (CCp_eq e hc)
/-- one step is added -/
def stK (x y : gd) (o kn tg ob ix e f : Int32) : Prop := (∀ c k, ccS c k → ¬ (81 ≤ c ∧ c ≤ 89 ∧ k = (x.1 80 9).toNatClampNeg) → ¬ (c = 80 ∧ k = 9) → y.1 c k = x.1 c k) ∧ (y.1 80 9).toInt = (x.1 80 9).toInt + 1 ∧ y.1 81 (x.1 80 9).toNatClampNeg = o ∧ y.1 83 (x.1 80 9).toNatClampNeg = kn ∧ y.1 84 (x.1 80 9).toNatClampNeg = tg ∧ y.1 85 (x.1 80 9).toNatClampNeg = ob ∧ y.1 87 (x.1 80 9).toNatClampNeg = ix ∧ y.1 88 (x.1 80 9).toNatClampNeg = e ∧ y.1 89 (x.1 80 9).toNatClampNeg = f
theorem CCp_add {o kn tg ob ix e f : Int32} {st : gSt} {Ec : gV} {k : List Nat} {r r' : gRg} {w : List (Nat × Nat) × List (Nat × gU)} (h : CCp sN V K x (Ec, S, k, r, w) d P) (a : stK x y o kn tg ob ix e f) (h1 : o = Int32.ofNat st.1) (h2 : kn.toInt = st.2.2.1.1.length) (h3 : (st.1 = 0 ∨ (2 ≤ st.1 ∧ st.1 ≤ 4) ∨ st.1 = 16 ∨ st.1 = 17 ∨ st.1 = 20) → tgI tg st.2.2.2.1) (h4 : st.1 = 8 → (tg = 1 ↔ st.2.2.2.2.2.1 = true)) (h5 : ¬ st.1 = 16 → obI V ob st.1 st.2.2.2.2.1) (h6 : cSu sN V K P st.2.2.1.1 ix st.2.2.2.2.2.2.1) (h7 : cSu sN V K P st.2.2.1.1 e st.2.2.2.2.2.2.2.1) (h8 : cSu sN V K P st.2.2.1.1 f st.2.2.2.2.2.2.2.2) : CCp sN V K y (Ec, S ++ [st], k, r', w) d P := by
  obtain ⟨⟨p1, p2⟩, ⟨s1, s2⟩, ⟨k1, k2⟩, ⟨b1, b2⟩, ⟨c1, c2⟩, ⟨a1, a2⟩, ⟨f1, f2⟩⟩ := h
  have s1 : (x.1 80 9).toInt = S.length := s1
  obtain ⟨fr, g9, v81, v83, v84, v85, v87, v88, v89⟩ := a
  have en : (x.1 80 9).toNatClampNeg = S.length := by rw [t_cl, s1]; omega
  rw [en] at fr v81 v83 v84 v85 v87 v88 v89
  have g : ∀ c k, 61 ≤ c → c < 80 → y.1 c k = x.1 c k := fun c k q1 q2 => fr c k (Or.inr (Or.inl ⟨q1, by omega⟩)) (by omega) (by omega)
  have g6 : ∀ k, k ≠ 13 → y.1 60 k = x.1 60 k := fun k q => fr 60 k (Or.inl ⟨rfl, q⟩) (by omega) (by omega)
  have e5 : y.1 100 5 = x.1 100 5 := fr _ _ (Or.inr (Or.inr (Or.inl ⟨rfl, Or.inl rfl⟩))) (by omega) (by omega)
  have e13 : y.1 100 13 = x.1 100 13 := fr _ _ (Or.inr (Or.inr (Or.inl ⟨rfl, Or.inr rfl⟩))) (by omega) (by omega)
  refine ⟨⟨by rw [g6 3 (by decide)]; exact p1, fun i q hi hq => by rw [g 62 i (by decide) (by decide), g 63 i (by decide) (by decide)]; exact p2 i q hi hq⟩, ⟨by rw [g9, s1]; show _ = (((S ++ [st]).length : Nat) : Int); rw [List.length_append]; rfl, sn_get (fun j r9 hr9 => ?_) ?_⟩, ⟨fun q => ?_, fun q => k2 (by rw [← e5]; exact q)⟩, ⟨by rw [g6 10 (by decide)]; exact b1, fun t q hq => by rw [g 72 t (by decide) (by decide), g 73 t (by decide) (by decide)]; exact b2 t q hq⟩, ⟨by rw [g6 6 (by decide)]; exact c1, fun j q hq => by rw [g 68 j (by decide) (by decide), g 69 j (by decide) (by decide)]; exact c2 j q hq⟩, ⟨by rw [g6 14 (by decide)]; exact a1, fun k N hN => by rw [g 76 k (by decide) (by decide)]; exact a2 k N hN⟩, ⟨by rw [g6 16 (by decide)]; exact f1, fun k N hN => by rw [g 78 k (by decide) (by decide)]; exact f2 k N hN⟩⟩
  · have hj := gt_lt hr9
    exact kS_eq (fun k q1 q2 => fr k j (Or.inr (Or.inl ⟨by omega, q2⟩)) (by omega) (by omega)) (s2 j r9 hr9)
  · unfold kS
    rw [v81, v83, v84, v85, v87, v88, v89]
    exact ⟨h1, h2, h3, h4, h5, h6, h7, h8⟩
  · rw [e13]
    exact SKk_eq (fun i _ => ⟨fr _ _ (Or.inr (Or.inr (Or.inr (Or.inl rfl)))) (by omega) (by omega), fr _ _ (Or.inr (Or.inr (Or.inr (Or.inr rfl)))) (by omega) (by omega)⟩) (k1 (by rw [← e5]; exact q))
/-- a sum's parts are written, no more -/
theorem CCp_sum {Ec : gV} {k : List Nat} {r r' : gRg} {w : List (Nat × Nat) × List (Nat × gU)} (h : CCp sN V K x (Ec, S, k, r, w) d P) (a : CPl x y Q) (e : ∀ c k, ccS c k → ¬ (c = 60 ∧ k = 3) → ¬ c = 62 → ¬ c = 63 → y.1 c k = x.1 c k) : CCp sN V K y (Ec, S, k, r', w) d (P ++ Q) := by
  obtain ⟨p, ⟨s1, s2⟩, ⟨k1, k2⟩, ⟨b1, b2⟩, ⟨c1, c2⟩, ⟨a1, a2⟩, ⟨f1, f2⟩⟩ := h
  have g : ∀ c k, 64 ≤ c → c < 90 → y.1 c k = x.1 c k := fun c k q1 q2 => e c k (Or.inr (Or.inl ⟨by omega, q2⟩)) (by omega) (by omega) (by omega)
  have g6 : ∀ k, k ≠ 13 → k ≠ 3 → y.1 60 k = x.1 60 k := fun k q q2 => e 60 k (Or.inl ⟨rfl, q⟩) (by omega) (by omega) (by omega)
  have e5 : y.1 100 5 = x.1 100 5 := e _ _ (Or.inr (Or.inr (Or.inl ⟨rfl, Or.inl rfl⟩))) (by omega) (by omega) (by omega)
  have e13 : y.1 100 13 = x.1 100 13 := e _ _ (Or.inr (Or.inr (Or.inl ⟨rfl, Or.inr rfl⟩))) (by omega) (by omega) (by omega)
  refine ⟨a P p, ⟨by rw [g 80 9 (by decide) (by decide)]; exact s1, fun j st hj => kS_mono (kS_eq (fun k q1 q2 => g k j (by omega) q2) (s2 j st hj)) Q⟩, ⟨fun q => ?_, fun q => k2 (by rw [← e5]; exact q)⟩, ⟨by rw [g6 10 (by decide) (by decide)]; exact b1, fun t q hq => by rw [g 72 t (by decide) (by decide), g 73 t (by decide) (by decide)]; exact b2 t q hq⟩, ⟨by rw [g6 6 (by decide) (by decide)]; exact c1, fun j q hq => by rw [g 68 j (by decide) (by decide), g 69 j (by decide) (by decide)]; exact c2 j q hq⟩, ⟨by rw [g6 14 (by decide) (by decide)]; exact a1, fun k N hN => by rw [g 76 k (by decide) (by decide)]; exact SUc_mono (a2 k N hN) Q⟩, ⟨by rw [g6 16 (by decide) (by decide)]; exact f1, fun k N hN => by rw [g 78 k (by decide) (by decide)]; exact SUc_mono (f2 k N hN) Q⟩⟩
  rw [e13]
  exact SKk_eq (fun i _ => ⟨e _ _ (Or.inr (Or.inr (Or.inr (Or.inl rfl)))) (by omega) (by omega) (by omega), e _ _ (Or.inr (Or.inr (Or.inr (Or.inr rfl)))) (by omega) (by omega) (by omega)⟩) (k1 (by rw [← e5]; exact q))
/-- where a sum begins that is written next -/
theorem SUc_next {r : Int32} (hp : PR x P) (hr : r = x.1 60 3) (Q : List (Int32 × Int32)) : SUc (P ++ (Q ++ [(0, 0)])) r Q := by
  refine ⟨P.length, by rw [hr]; exact hp.1, fun i q hq => ?_⟩
  rw [List.getElem?_append_right (by omega), Nat.add_sub_cancel_left]
  exact hq
theorem sPs_54 : sPs sN V K E (N ++ [(54, 0, 0)]) = sPs sN V K E N ++ [(0, 0)] := by
  rw [sPs_app]
  rfl
/-- a thread's sum: only the names known count -/
theorem sPs_E {E' : gV} (h : sEv false N) (he : ∀ t, kfi sN E.1 t = kfi sN E'.1 t) : sPs sN V K E N = sPs sN V K E' N := by
  induction N with
  | nil => rfl
  | cons v N ih =>
    have e : cPt sN V K E v = cPt sN V K E' v := by
      unfold cPt
      rw [he]
      have hv := h v List.mem_cons_self
      by_cases c : v.1 = 6 ∨ v.1 = 7
      · exfalso
        rcases hv with q | q | q | q | q | q
        · omega
        · omega
        · omega
        · omega
        · have := q.2; omega
        · exact absurd q.1 (by decide)
      · rw [if_neg c, if_neg c]
    show (v :: N).filterMap _ = (v :: N).filterMap _
    rw [List.filterMap_cons, List.filterMap_cons, e]
    have := ih (fun w hw => h w (List.mem_cons_of_mem _ hw))
    unfold sPs at this
    rw [this]
end KCO
end
section
/-! the class: statements, and when they are refused -/
section KSMF
variable {G : kG} {q : kP} {d : Nat} {x x0 y z xs : gd} {F : Int32 → gd → Prop} {Fv : gd → Prop} {X : String → gd → Prop} {P : Option gv → gd → Prop} {M : Int} {E : Nat → Prop} {K V : Nat → Int32} {sN : Nat → Nat → Bool} {e : Nat} {Ev : gV} {Ml N : gU}
theorem KV_GS (g : GS x y) (h : KV' K e x Ev) : KV' K e y Ev := KV_fm h (g.2 _ _ (by unfold sSum; omega)) (fun k => g.2 _ _ (by unfold sSum; omega))
theorem sort_n0 (hA : KA K V sN e x) (hn : nn x ≤ e) (k0 : ¬ K (nn x) = 0) : ¬ x.1 23 (x.1 100 4).toNatClampNeg = 0 := fun z => k0 (by rw [← hA.1 _ hn, show x.1 23 (nn x) = 0 from z]; decide)
/-- a token with a use -/
theorem RI_use (h : RIw K V sN e Ev xs x Ml) (h0 : 0 ≤ nx x) (l : La x y) (hA : KA K V sN e y) (hn : nn y ≤ e) (e1 : nn y = nn x + 1) (mA : HAs sN (y.1 42) (nn y) N (exs Ml Ev)) (mB : ¬ y.1 42 (nn x) = 0 → HBs sN N (exs Ml Ev) (nn x) (y.1 42 (nn x))) : RIw K V sN e Ev xs y (Ml ++ N) := ⟨hA, hn, UR_app h0 h.2.2 l ⟨mA, fun j h1 h2 h3 => by
  have ej : j = nn x := by omega
  rw [ej] at h3 ⊢
  exact mB h3⟩⟩
/-- an event told behind what it is of -/
theorem UR_late {v : Nat × Nat × Nat} (h0 : 0 ≤ nx y) (hN : still N) (l : La y z) (g : UR sN Ev y z N) (hA : HAw sN (z.1 42) (nn z) Ev v) (hB : ∀ j, nn x ≤ j → j < nn y → ¬ y.1 42 j = 0 → HB sN Ev v j (y.1 42 j)) : UR sN Ev x z (N ++ [v]) := by
  obtain ⟨n1, n2⟩ := La_nn h0 l
  refine ⟨HAs_app.mpr ⟨g.1, HAs_one.mpr (by rw [exs_still hN]; exact hA)⟩, fun j h1 h2 h3 => HBs_app.mpr ?_⟩
  by_cases c : j < nn y
  · rw [n2 j c] at h3 ⊢
    exact Or.inr (HBs_one.mpr (by rw [exs_still hN]; exact hB j h1 c h3))
  · exact Or.inl (g.2 j (by omega) h2 h3)
theorem kd_pass (hq : kV q) (hx : 700 ≤ nn x → RX x0 X) (hB : BB x0 x M E) (hR : RIw K V sN e Ev xs x Ml) (k0 : ¬ K (nn x) = 0) (k3 : ¬ K (nn x) = 3) (h : nn x < 700 → ∀ y, BB x0 y M E → nx y = nx x + 1 → GS x y → nn y = nn x + 1 → RIw K V sN e Ev xs y Ml → y.1 42 (nn x) = 0 → (∀ c k, ccS c k → y.1 c k = x.1 c k) → Fv y) : KE G q (d + 7) zk_X7_pass 0 [(0, vr 100)] [] x (rv Fv) X := by
  have b0 := hB.1.1.2.1
  have c0 := nn_is b0
  refine kf_pass hq hB.2.2.2.2.2.1 (fun c => hx (by omega)) hB.1 (sort_n0 hR.1 hR.2.1 k0) (FR_12 hB.2.1) (fun c7 y f n S fr la _ => ?_)
  have g : GS x y := ⟨la, fm_w f (fun c k q => by unfold sSum; omega)⟩
  have ut : y.1 42 (nn x) = 0 := by rw [f 42 _ (by omega)]; exact hB.2.1
  refine h (by omega) y (BB_on hB ?_ fr g) n g (nn_up b0 n) (RI_tok hR b0 c7 k0 k3 la n ut) ut (fun c k q => f c k (by unfold ccS at q; omega))
  unfold SU
  rw [f 60 3 (by omega)]; exact S
theorem kd_need (hq : kV q) (w kw : Int32) (hkw : kc w = kw) (hkn : ¬ kw = -1 ∧ ¬ kw = 0 ∧ ¬ kw = 3) (hw : ¬ w = 0) (hx : ¬ (K (nn x) = kw ∧ nn x < 700) → RX x0 X) (hB : BB x0 x M E) (hR : RIw K V sN e Ev xs x Ml) (h : K (nn x) = kw → nn x < 700 → ∀ y, BB x0 y M E → nx y = nx x + 1 → GS x y → nn y = nn x + 1 → RIw K V sN e Ev xs y Ml → y.1 42 (nn x) = 0 → (∀ c k, ccS c k → y.1 c k = x.1 c k) → Fv y) : KE G q (d + 7) zk_X7_need 0 [(0, vr 100), (1, vi w)] [] x (rv Fv) X := by
  have b0 := hB.1.1.2.1
  have c0 := nn_is b0
  have ki : x.1 23 (x.1 100 4).toNatClampNeg = w ↔ K (nn x) = kw := by
    rw [← hkw]
    exact KA_k hR.1 hR.2.1 w (by rw [hkw]; exact hkn.1)
  refine kf_need hq hB.2.2.2.2.2.1 w (fun c => hx (fun z => c.elim (fun c => c (ki.mpr z.1)) (fun c => absurd z.2 (by omega)))) hB.1 hw hB.2.1 (fun cw c7 y f n S fr la _ => ?_)
  have kk := ki.mp cw
  have g : GS x y := ⟨la, fm_w f (fun c k q => by unfold sSum; omega)⟩
  have ut : y.1 42 (nn x) = 0 := by rw [f 42 _ (by omega)]; exact hB.2.1
  refine h kk (by omega) y (BB_on hB ?_ fr g) n g (nn_up b0 n) (RI_tok hR b0 c7 (by rw [kk]; exact hkn.2.1) (by rw [kk]; exact hkn.2.2) la n ut) ut (fun c k q => f c k (by unfold ccS at q; omega))
  unfold SU
  rw [f 60 3 (by omega)]; exact S
theorem kd_needFor (hq : kV q) (w u kw : Int32) (hkw : kc w = kw) (hkn : ¬ kw = -1 ∧ ¬ kw = 0 ∧ ¬ kw = 3) (hw : ¬ w = 0) (hu : ¬ u = 12) (hx : ¬ (K (nn x) = kw ∧ nn x < 700) → RX x0 X) (hB : BB x0 x M E) (hA : KA K V sN e x) (hn : nn x ≤ e) (h : K (nn x) = kw → nn x < 700 → ∀ y, BB x0 y M E → nx y = nx x + 1 → GS x y → nn y = nn x + 1 → KA K V sN e y → nn y ≤ e → y.1 42 (nn x) = u → tk y (x.1 100 4) → (∀ c k, ccS c k → y.1 c k = x.1 c k) → F (x.1 100 4) y) : KE G q (d + 7) zk_X7_needFor 0 [(0, vr 100), (1, vi w), (2, vi u)] [] x (ri F) X := by
  have b0 := hB.1.1.2.1
  have c0 := nn_is b0
  have ki : x.1 23 (x.1 100 4).toNatClampNeg = w ↔ K (nn x) = kw := by
    rw [← hkw]
    exact KA_k hA hn w (by rw [hkw]; exact hkn.1)
  refine kf_needFor hq hB.2.2.2.2.2.1 w u (fun c => hx (fun z => c.elim (fun c => c (ki.mpr z.1)) (fun c => absurd z.2 (by omega)))) hB.1 hw (fun q => absurd q hu) (fun cw c7 y f eu n S fr la _ ht => ?_)
  have kk := ki.mp cw
  have g : GS x y := ⟨la, fm_w f (fun c k q => by unfold sSum; omega)⟩
  have en := nn_up b0 n
  refine h kk (by omega) y (BB_on hB ?_ fr g) n g en (KA_fm hA la.1) (by rw [en]; exact KA_on hA hn (by omega) (by rw [kk]; exact hkn.2.1) (by rw [kk]; exact hkn.2.2)) eu ht (fun c k q => f c k (by unfold ccS at q; omega))
  unfold SU
  rw [f 60 3 (by omega)]; exact S
theorem kd_sum (hq : kV q) (D : Int32) (L : gU) (hx : pX K false (17 - D.toNatClampNeg) (nn x) L = none → RX x0 X) (hB : BB x0 x M E) (hA : KA K V sN e x) (hn : nn x ≤ e) (hE : KV' K e x Ev) (hD : 1 ≤ D.toInt) (hD2 : D.toInt ≤ 18) (h : ∀ r y, BB x0 y M E → nx x < nx y → GS x y → ∀ N, RIw K V sN e Ev x y N → still N → pX K false (17 - D.toNatClampNeg) (nn x) L = some (nn y, L ++ N) → CPl x y (sPs sN V K Ev N) → r = x.1 60 3 → F r y) : KE G q (d + 9) zk_X7_sum 0 [(0, vr 100), (1, vi D)] [] x (ri F) X :=
  kf_sum hq hB.2.2.2.2.2.1 D L hx hB.1 hB.2.1 (fun c => ⟨(hB.2.2.1.1 c).1, hE⟩) ⟨fun q => absurd q (by decide), fun q => absurd q hB.2.2.2.2.1⟩ ⟨hA, hn, UR_0 rfl⟩ hD hD2 (fun r y S fr la f n N hR hN hp hcp hr => h r y (BB_on hB S fr ⟨la, f⟩) n ⟨la, f⟩ N hR hN hp (hcp (fun q => absurd q (by decide))) hr)
theorem kd_refuse (hq : kV q) (hx : RX x0 X) (hB : BB x0 x M E) (n : Int32) (hn : ¬ n = 0 := by decide) : KE G q (d + 6) zk_X7_refuse 0 [(0, vr 100), (1, vi n)] [] x P X := kp_refuse hq n (RB_at hB.1.1) hB.2.2.2.2.2.1 hx hn
/-- what is told, and the counts -/
def Tc (c k : Nat) : Prop := c = 40 ∨ (44 ≤ c ∧ c ≤ 51) ∨ (c = 60 ∧ k ≠ 3 ∧ k ≠ 13)
def TBe (x y : gd) : Prop := ∀ c k, Tc c k → y.1 c k = x.1 c k
def Lb (x y : gd) : Prop := La x y ∧ TBe x y
theorem TBe_tr (h : TBe x y) (g : TBe y z) : TBe x z := fun c k q => (g c k q).trans (h c k q)
theorem Lb_tr (h : Lb x y) (g : Lb y z) : Lb x z := ⟨La_tr h.1 g.1, TBe_tr h.2 g.2⟩
theorem TBe_GS (g : GS x y) : TBe x y := fun c k q => GS_at g c k (by unfold Tc at q; unfold sSum; omega)
theorem Lb_GS (g : GS x y) : Lb x y := ⟨g.1, TBe_GS g⟩
theorem Lb_fm {S : Nat → Nat → Prop} (f : fm S x y) (hS : ∀ c k, S c k → ¬ ((20 ≤ c ∧ c < 40) ∨ c = 42 ∨ (c = 100 ∧ k = 4) ∨ Tc c k)) : Lb x y := ⟨⟨fun c k q1 q2 => f c k (fun z => hS c k z (Or.inl ⟨q1, q2⟩)), by unfold nx; rw [f 100 4 (fun z => hS _ _ z (Or.inr (Or.inr (Or.inl ⟨rfl, rfl⟩))))]; exact Int.le_refl _, fun j _ => f 42 j (fun z => hS _ _ z (Or.inr (Or.inl rfl)))⟩, fun c k q => f c k (fun z => hS c k z (Or.inr (Or.inr (Or.inr q))))⟩
/-- what is open stays, and the lets -/
def OPe (x y : gd) : Prop := Lb x y ∧ (∀ c k, 111 ≤ c → c ≤ 113 → y.1 c k = x.1 c k) ∧ y.1 100 7 = x.1 100 7
theorem OPe_GS (g : GS x y) : OPe x y := ⟨Lb_GS g, fun c k q1 q2 => GS_at g _ _ (by unfold sSum; omega), GS_at g _ _ (by unfold sSum; omega)⟩
theorem OPe_tr (h : OPe x y) (g : OPe y z) : OPe x z := ⟨Lb_tr h.1 g.1, fun c k q1 q2 => (g.2.1 c k q1 q2).trans (h.2.1 c k q1 q2), g.2.2.trans h.2.2⟩
theorem OPe_st {n : Nat} (f : fm (fun c k => (81 ≤ c ∧ c ≤ 89 ∧ k = n) ∨ (c = 80 ∧ k = 9)) x y) : OPe x y := ⟨Lb_fm f (fun c k q => by unfold Tc; omega), fun c k q1 q2 => f _ _ (by omega), f _ _ (by omega)⟩
end KSMF
end
section
/-! the class: what statements without a block add to the code -/
section KPC
variable {sN : Nat → Nat → Bool} {V K : Nat → Int32} {Ev : gV} {x y z w : gd} {N : gU} {v : Nat × Nat × Nat} {e i j : Nat} {o ob s tg kn ix e9 f9 : Int32}
theorem sEv_still {o : Bool} (h : sEv o N) : still N := fun v hv => by
  have := h v hv
  omega
theorem sEv_ce {o : Bool} (h : sEv o N) {d : Nat × Int32 × List (Int32 × Bool)} : ces K V N d = d := ces_no (fun v hv q => by
  have := h v hv
  omega)
theorem tPs_x {o : Bool} {E : gV} (h : sEv o N) : tPs sN V K (N ++ [(54, 0, 0)]) E = sPs sN V K E (N ++ [(54, 0, 0)]) := by
  refine tPs_still (still_54 (sEv_still h)) (fun v hv => ?_)
  rcases List.mem_append.mp hv with q | q
  · have := h v q
    omega
  · rw [List.mem_singleton.mp q]; exact ⟨by show ¬ 54 = 24; decide, by show ¬ 54 = 27; decide⟩
theorem opP_c (k : Int32) : opP k = 11 ∨ opP k = 12 ∨ opP k = 19 := by
  unfold opP
  split
  · exact Or.inl rfl
  · split
    · exact Or.inr (Or.inl rfl)
    · exact Or.inr (Or.inr rfl)
theorem opS_c (k : Int32) : opS k = 18 ∨ opS k = 14 := by
  unfold opS
  split
  · exact Or.inl rfl
  · exact Or.inr rfl
theorem opW_c (k : Int32) : 5 ≤ opW k ∧ opW k ≤ 10 := by
  unfold opW
  split
  · decide
  · split
    · decide
    · split
      · decide
      · split
        · decide
        · split <;> decide
/-- nothing was written yet, or one sum -/
def PCd (sN : Nat → Nat → Bool) (V K : Nat → Int32) (Ev : gV) (x y : gd) (s : Int32) (N : gU) : Prop := (N = [] ∧ s = -1 ∧ ∀ c k, ccS c k → y.1 c k = x.1 c k) ∨ ∃ N' y0, N = N' ++ [(54, 0, 0)] ∧ sEv false N' ∧ (∀ c k, ccS c k → y0.1 c k = x.1 c k) ∧ CPl y0 y (sPs sN V K Ev N) ∧ (∀ c k, ccS c k → ¬ (c = 60 ∧ k = 3) → ¬ c = 62 → ¬ c = 63 → y.1 c k = y0.1 c k) ∧ s = y0.1 60 3
theorem CG_pl (hE : KV' K e y Ev) (hEv : ¬ Ev.2.1 = []) (hpc : PCd sN V K Ev x y s N) (a : stK y z o (y.1 100 9) (-1) ob (-1) s (-1)) (hv : (v = (68, i, 0) ∧ ob = -1 ∧ N = [] ∧ o = Int32.ofNat (opP (K i))) ∨ (v = (69, i, 0) ∧ ob = -1 ∧ ¬ N = [] ∧ o = Int32.ofNat (opS (K i))) ∨ (v = (70, i, j) ∧ ob = V j ∧ ¬ N = [] ∧ o = 13)) : CG sN V K Ev x z (N ++ [v]) := by
  intro c d P he hr hc
  obtain ⟨Ec, S, k, r, w⟩ := c
  have hr : r = rg0 := hr
  subst hr
  have he : eqE Ec Ev := he
  have kl : (y.1 100 9).toInt = (Ec.1.length : Nat) := by rw [hE.1, eqE_len he]
  have hEc : ¬ Ec.2.1 = [] := by rw [he.2]; exact hEv
  rcases hpc with ⟨eN, es, fr⟩ | ⟨N', y0, eN, hs', fr, hcp, fr2, es⟩
  · have hv : v = (68, i, 0) ∧ ob = -1 ∧ o = Int32.ofNat (opP (K i)) := by
      rcases hv with ⟨a1, a2, _, a4⟩ | ⟨_, _, a3, _⟩ | ⟨_, _, a3, _⟩
      · exact ⟨a1, a2, a4⟩
      · exact absurd eN a3
      · exact absurd eN a3
    obtain ⟨v1, v2, v3⟩ := hv
    rw [eN, v1, List.nil_append, cds_one, cd_68]
    have op := opP_c (K i)
    have q := CCp_add (st := (opP (K i), i, knw Ec, none, none, false, none, none, none)) (r' := rg0) (CCp_eq fr hc) a v3 kl (fun q => by exfalso; have q : opP (K i) = 0 ∨ (2 ≤ opP (K i) ∧ opP (K i) ≤ 4) ∨ opP (K i) = 16 ∨ opP (K i) = 17 ∨ opP (K i) = 20 := q; omega) (fun q => by exfalso; have q : opP (K i) = 8 := q; omega) (fun _ => v2) rfl es rfl
    refine ⟨?_, ?_, rfl⟩
    · show CCp sN V K z _ d (P ++ [])
      rw [List.append_nil]
      exact q
    · rw [exs_still (stl_k (by decide))]
      exact he
  · have hN : ¬ N = [] := fun q => by rw [q] at eN; simp at eN
    have hst : still N := by rw [eN]; exact still_54 (sEv_still hs')
    have ks : sPs sN V K Ev N' = sPs sN V K (Ec.1, [0], 0) N' := sPs_E hs' (fun t => kfi_len he.1.symm)
    have h0 := CCp_eq fr hc
    have h1 := CCp_sum (r' := rg0) h0 hcp fr2
    have su : SUc (P ++ sPs sN V K Ev N) s (sPs sN V K (Ec.1, [0], 0) N') := by
      rw [eN, sPs_54, ← ks]
      exact SUc_next h0.1 es _
    have hv2 : (v = (69, i, 0) ∧ ob = -1 ∧ o = Int32.ofNat (opS (K i))) ∨ (v = (70, i, j) ∧ ob = V j ∧ o = 13) := by
      rcases hv with ⟨_, _, a3, _⟩ | ⟨a1, a2, _, a4⟩ | ⟨a1, a2, _, a4⟩
      · exact absurd a3 hN
      · exact Or.inl ⟨a1, a2, a4⟩
      · exact Or.inr ⟨a1, a2, a4⟩
    rcases hv2 with ⟨v1, v2, v3⟩ | ⟨v1, v2, v3⟩
    · have op := opS_c (K i)
      have q := CCp_add (st := (opS (K i), i, knw Ec, none, none, false, none, some N', none)) (r' := rg0) h1 a v3 kl (fun q => by exfalso; have q : opS (K i) = 0 ∨ (2 ≤ opS (K i) ∧ opS (K i) ≤ 4) ∨ opS (K i) = 16 ∨ opS (K i) = 17 ∨ opS (K i) = 20 := q; omega) (fun q => by exfalso; have q : opS (K i) = 8 := q; omega) (fun _ => v2) rfl su rfl
      have ec : cds sN K (N ++ [v]) (Ec, S, k, rg0, w) = (Ec, S ++ [(opS (K i), i, knw Ec, none, none, false, none, some N', none)], k, rg0, w) := by
        rw [eN, v1, cds_app, cds_x hs' hEc, cds_one, cd_69]; rfl
      have ee : ces K V (N ++ [v]) d = d := by
        rw [eN, v1, ces_app, ces_app, sEv_ce hs']; rfl
      have ep : tPs sN V K (N ++ [v]) Ev = sPs sN V K Ev N := by
        rw [tPs_app, eN, tPs_x hs', v1]
        exact List.append_nil _
      rw [ec, ee, ep]
      exact ⟨q, by rw [exs_still (still_app hst (by rw [v1]; exact stl_k (by decide)))]; exact he, rfl⟩
    · have q := CCp_add (st := (13, i, knw Ec, none, some j, false, none, some N', none)) (r' := rg0) h1 a v3 kl (fun q => by exfalso; have q : (13 : Nat) = 0 ∨ (2 ≤ 13 ∧ 13 ≤ 4) ∨ (13 : Nat) = 16 ∨ (13 : Nat) = 17 ∨ (13 : Nat) = 20 := q; omega) (fun q => by exfalso; have q : (13 : Nat) = 8 := q; omega) (fun _ => v2) rfl su rfl
      have ec : cds sN K (N ++ [v]) (Ec, S, k, rg0, w) = (Ec, S ++ [(13, i, knw Ec, none, some j, false, none, some N', none)], k, rg0, w) := by
        rw [eN, v1, cds_app, cds_x hs' hEc, cds_one, cd_70]; rfl
      have ee : ces K V (N ++ [v]) d = d := by
        rw [eN, v1, ces_app, ces_app, sEv_ce hs']; rfl
      have ep : tPs sN V K (N ++ [v]) Ev = sPs sN V K Ev N := by
        rw [tPs_app, eN, tPs_x hs', v1]
        exact List.append_nil _
      rw [ec, ee, ep]
      exact ⟨q, by rw [exs_still (still_app hst (by rw [v1]; exact stl_k (by decide)))]; exact he, rfl⟩
theorem stK_84 (a : stK y z o kn tg ob ix e9 f9) {v8 : Int32} (ew : w = si z 84 (y.1 80 9).toNatClampNeg v8) : stK y w o kn v8 ob ix e9 f9 := by
  obtain ⟨a1, a2, a3, a4, a5, a6, a7, a8, a9⟩ := a
  have o9 : ∀ (c k : Nat), ¬ (c = 84 ∧ k = (y.1 80 9).toNatClampNeg) → w.1 c k = z.1 c k := fun c k q => by rw [ew, si_get, if_neg q]
  refine ⟨fun c k q q1 q2 => ?_, by rw [o9 80 9 (by omega)]; exact a2, by rw [o9 81 _ (by omega)]; exact a3, by rw [o9 83 _ (by omega)]; exact a4, by rw [ew, si_get, if_pos ⟨rfl, rfl⟩], by rw [o9 85 _ (by omega)]; exact a6, by rw [o9 87 _ (by omega)]; exact a7, by rw [o9 88 _ (by omega)]; exact a8, by rw [o9 89 _ (by omega)]; exact a9⟩
  rw [o9 c k (by omega)]
  exact a1 c k q q1 q2
/-- take, give, wait, wake, start, join -/
theorem CG_nm (hE : KV' K e y Ev) (fr : ∀ c k, ccS c k → y.1 c k = x.1 c k) (a : stK y z o (y.1 100 9) tg ob (-1) (-1) (-1)) (hv : v = (66, i, j) ∨ v = (67, i, j)) (ho : o = Int32.ofNat (opW (K i))) (hob : ob.toInt = (j : Nat)) (htg : tg = 1 ↔ K i = 40) : CG sN V K Ev x z [v] := by
  intro c d P he hr hc
  obtain ⟨Ec, S, k, r, w⟩ := c
  have hr : r = rg0 := hr
  subst hr
  have he : eqE Ec Ev := he
  have kl : (y.1 100 9).toInt = (Ec.1.length : Nat) := by rw [hE.1, eqE_len he]
  have op := opW_c (K i)
  have q := CCp_add (st := (opW (K i), i, knw Ec, none, some j, decide (K i = 40), none, none, none)) (r' := rg0) (CCp_eq fr hc) a ho kl (fun q => by exfalso; have q : opW (K i) = 0 ∨ (2 ≤ opW (K i) ∧ opW (K i) ≤ 4) ∨ opW (K i) = 16 ∨ opW (K i) = 17 ∨ opW (K i) = 20 := q; omega) (fun _ => by rw [htg]; exact decide_eq_true_iff.symm) (fun _ => by
    show if opW (K i) = 13 then ob = V j else ob.toInt = (j : Nat)
    rw [if_neg (by omega)]; exact hob) rfl rfl rfl
  have ec : cds sN K [v] (Ec, S, k, rg0, w) = (Ec, S ++ [(opW (K i), i, knw Ec, none, some j, decide (K i = 40), none, none, none)], k, rg0, w) := by
    rcases hv with e | e
    · rw [e, cds_one, cd_66]
    · rw [e, cds_one, cd_67]
  have ee : ces K V [v] d = d := by rcases hv with e | e <;> (rw [e]; rfl)
  have ep : tPs sN V K [v] Ev = [] := by rcases hv with e | e <;> (rw [e]; rfl)
  have ex : exs [v] Ev = Ev := by rcases hv with e | e <;> (rw [e]; exact exs_still (stl_k (by decide)))
  rw [ec, ee, ep, ex, List.append_nil]
  exact ⟨q, he, rfl⟩
end KPC
end
