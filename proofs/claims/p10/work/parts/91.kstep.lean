/-! the class: steps, open blocks -/
abbrev ssm (x : gd) : Int := (x.1 80 9).toInt
abbrev om (x : gd) : Int := (x.1 100 13).toInt
abbrev sop (x : gd) (i : Nat) : Int := (x.1 81 i).toInt
abbrev stg (x : gd) (i : Nat) : Int := (x.1 84 i).toInt
/-- a step's own -/
def SA (x : gd) (M : Int) (i : Nat) : Prop := (0 ≤ sop x i ∧ ¬ sop x i = 15) ∧ (0 ≤ (x.1 83 i).toInt ∧ (x.1 83 i).toInt ≤ 8) ∧ (sop x i ≤ 10 → ∃ t : Nat, (x.1 85 i).toInt = t ∧ (t : Int) < nx x ∧ (sop x i ≤ 4 → x.1 42 t = 6 ∨ x.1 42 t = 7 ∨ x.1 42 t = 8 ∨ x.1 42 t = 9) ∧ (5 ≤ sop x i → sop x i ≤ 8 → x.1 42 t = 4) ∧ (9 ≤ sop x i → x.1 42 t = 5)) ∧ ((sop x i = 0 ∨ (2 ≤ sop x i ∧ sop x i ≤ 4) ∨ sop x i = 16) → (0 ≤ stg x i ∧ stg x i < M) ∨ BU x)
/-- where a step jumps -/
def SC (x : gd) (i : Nat) : Prop := (sop x i = 17 ∨ sop x i = 20) → (stg x i = -1 ∧ ¬ x.1 100 5 = 0 ∧ ∃ k : Nat, (k : Int) < om x ∧ (x.1 112 k).toInt = i) ∨ (0 ≤ stg x i ∧ stg x i ≤ ssm x ∧ (x.1 100 5 = 0 → stg x i < ssm x) ∧ (sop x i = 20 → (i : Int) < stg x i ∨ sop x (stg x i).toNat = 17))
def SCs (x : gd) (E : Nat → Prop) : Prop := ∀ i : Nat, (i : Int) < ssm x → ¬ E i → SC x i
/-- an open block -/
def OP1 (x : gd) (k : Nat) : Prop := (k = 0 → x.1 111 k = 0 ∧ x.1 112 k = -1) ∧ (0 < k → (1 ≤ (x.1 111 k).toInt ∧ (x.1 111 k).toInt ≤ 5) ∧ ∃ s : Nat, (x.1 112 k).toInt = s ∧ (s : Int) < ssm x ∧ (x.1 111 k = 1 ∨ x.1 111 k = 3 → sop x s = 17) ∧ (x.1 111 k = 2 → sop x s = 5) ∧ (x.1 111 k = 4 ∨ x.1 111 k = 5 → sop x s = 20)) ∧ 0 ≤ (x.1 113 k).toInt ∧ (x.1 113 k).toInt ≤ (x.1 100 9).toInt
def OPs (x : gd) : Prop := (0 ≤ om x ∧ om x ≤ 18) ∧ (∀ k : Nat, (k : Int) < om x → OP1 x k) ∧ (∀ j k : Nat, j ≤ k → (k : Int) < om x → (x.1 113 j).toInt ≤ (x.1 113 k).toInt) ∧ (x.1 100 9).toInt ≤ (x.1 100 7).toInt ∧ (x.1 100 7).toInt ≤ 8
def CD (x : gd) : Prop := (0 ≤ (x.1 60 6).toInt ∧ (x.1 60 6).toInt ≤ 24) ∧ x.1 60 9 = x.1 40 8 ∧ x.1 60 10 = x.1 40 10 ∧ (0 ≤ (x.1 60 14).toInt ∧ (x.1 60 14).toInt ≤ 4) ∧ (0 ≤ (x.1 60 16).toInt ∧ (x.1 60 16).toInt ≤ 4) ∧ (0 ≤ (x.1 60 13).toInt ∧ (x.1 60 13).toInt ≤ 8) ∧ (¬ x.1 100 5 = 0 → (x.1 100 9).toInt ≤ (x.1 60 13).toInt)
/-- where threads begin, and that the last step stops -/
def TS (x : gd) : Prop := (∀ t : Nat, (t : Int) < (x.1 60 10).toInt → 0 ≤ (x.1 72 t).toInt ∧ (x.1 72 t).toInt ≤ ssm x ∧ (x.1 100 5 = 0 → (x.1 72 t).toInt < ssm x)) ∧ (x.1 100 5 = 0 → ssm x = 0 ∨ x.1 81 ((ssm x).toNat - 1) = 21)
def RI0 (x : gd) (M : Int) : Prop := (¬ x.1 100 5 = 0 → KN x ∧ OPs x) ∧ NM x ∧ CD x ∧ (0 ≤ ssm x ∧ (∀ i : Nat, (i : Int) < ssm x → SA x M i)) ∧ TS x
section KST
variable {G : kG} {q : kP} {d : Nat} {x x0 y z : gd} {F : Int32 → gd → Prop} {Fv : gd → Prop} {X : String → gd → Prop} {P : Option gv → gd → Prop} {m : Int}
theorem NM_fm (h : NM x) (f : ∀ c k, 40 ≤ c → c < 60 → c ≠ 42 → c ≠ 43 → y.1 c k = x.1 c k) (e7 : y.1 20 7 = x.1 20 7) (e6 : y.1 60 6 = x.1 60 6) : NM y := by
  unfold NM tk at h ⊢
  rw [f 40 6 (by omega) (by omega) (by omega) (by omega), f 40 8 (by omega) (by omega) (by omega) (by omega), f 40 10 (by omega) (by omega) (by omega) (by omega), e7, e6]
  refine ⟨h.1, h.2.1, h.2.2.1, fun i hi => ?_, fun i hi => ?_, fun i hi => ?_⟩
  · rw [f 44 i (by omega) (by omega) (by omega) (by omega), f 45 i (by omega) (by omega) (by omega) (by omega), f 46 i (by omega) (by omega) (by omega) (by omega)]; exact h.2.2.2.1 i hi
  · rw [f 48 i (by omega) (by omega) (by omega) (by omega)]; exact h.2.2.2.2.1 i hi
  · rw [f 50 i (by omega) (by omega) (by omega) (by omega)]; exact h.2.2.2.2.2 i hi
theorem SA_La {i : Nat} (la : La x y) (e1 : y.1 81 i = x.1 81 i) (e3 : y.1 83 i = x.1 83 i) (e5 : y.1 85 i = x.1 85 i) (e4 : y.1 84 i = x.1 84 i) {M M' : Int} (em : M ≤ M') (h : SA x M i) : SA y M' i := by
  unfold SA sop stg at h ⊢
  rw [e1, e3, e5, e4]
  have ln := la.2.1
  refine ⟨h.1, h.2.1, fun c => ?_, fun c => ?_⟩
  · obtain ⟨t, t1, t2, t3, t4, t5⟩ := h.2.2.1 c
    rw [← la.2.2 t t2] at t3 t4 t5
    exact ⟨t, t1, by omega, t3, t4, t5⟩
  · rcases h.2.2.2 c with g | g
    · exact Or.inl ⟨g.1, by omega⟩
    · exact Or.inr (La_BU la g)
theorem SC_eq {i : Nat} (e1 : ∀ j, y.1 81 j = x.1 81 j) (e4 : y.1 84 i = x.1 84 i) (em : y.1 80 9 = x.1 80 9) (eo : y.1 100 13 = x.1 100 13) (e5 : y.1 100 5 = x.1 100 5) (e2 : ∀ j, y.1 112 j = x.1 112 j) (h : SC x i) : SC y i := by
  unfold SC sop stg ssm om at h ⊢
  rw [e1, e4, em, eo, e5, e1]
  intro c
  rcases h c with ⟨g1, g2, k, g3, g4⟩ | g
  · exact Or.inl ⟨g1, g2, k, g3, by rw [e2]; exact g4⟩
  · exact Or.inr g
theorem OP1_eq {k : Nat} (e1 : ∀ j, y.1 81 j = x.1 81 j) (em : y.1 80 9 = x.1 80 9) (f : ∀ c j, 111 ≤ c → c ≤ 113 → y.1 c j = x.1 c j) (e9 : y.1 100 9 = x.1 100 9) (h : OP1 x k) : OP1 y k := by
  unfold OP1 sop ssm at h ⊢
  rw [f 111 k (by omega) (by omega), f 112 k (by omega) (by omega), f 113 k (by omega) (by omega), em, e9]
  refine ⟨h.1, fun c => ?_, h.2.2⟩
  obtain ⟨g1, s, g2, g3, g4⟩ := h.2.1 c
  exact ⟨g1, s, g2, g3, by rw [e1]; exact g4⟩
/-- reading on leaves all this -/
theorem RI0_La {M : Int} (h : RI0 x M) (la : La x y) (f : fm sSum x y) : RI0 y M := by
  obtain ⟨h1, h2, h3, ⟨h4, h6⟩, h7⟩ := h
  have g : ∀ c k, (c < 42 ∨ (42 < c ∧ c < 60) ∨ (63 < c ∧ c < 100) ∨ (100 < c ∧ c < 115)) → y.1 c k = x.1 c k := fun c k hc => f c k (by unfold sSum; omega)
  have g6 : ∀ k, ¬ k = 3 → y.1 60 k = x.1 60 k := fun k hk => f 60 k (by unfold sSum; omega)
  have g1 : ∀ k, ¬ k = 4 → ¬ k = 17 → y.1 100 k = x.1 100 k := fun k hk hl => f 100 k (by unfold sSum; omega)
  have ln := la.2.1
  have em : y.1 80 9 = x.1 80 9 := g _ _ (by omega)
  have es : ssm y = ssm x := by unfold ssm; rw [em]
  refine ⟨fun c => ?_, NM_fm h2 (fun c k q1 q2 q3 q4 => g c k (by omega)) (g _ _ (by omega)) (g6 _ (by omega)), ?_, ⟨by omega, fun i hi => SA_La la (g _ _ (by omega)) (g _ _ (by omega)) (g _ _ (by omega)) (g _ _ (by omega)) (Int.le_refl _) (h6 i (by omega))⟩, ?_⟩
  · rw [g1 5 (by omega) (by omega)] at c
    obtain ⟨k1, o1, o2, o3, o4⟩ := h1 c
    refine ⟨KN_fm k1 (g1 _ (by omega) (by omega)) (g _ _ (by omega)) (fun k => g _ _ (by omega)), ?_⟩
    unfold OPs om
    rw [g1 13 (by omega) (by omega), g1 9 (by omega) (by omega), g1 7 (by omega) (by omega)]
    refine ⟨o1, fun k hk => OP1_eq (fun j => g _ _ (by omega)) em (fun c j q1 q2 => g _ _ (by omega)) (g1 9 (by omega) (by omega)) (o2 k hk), fun j k hj hk => ?_, o4⟩
    rw [g 113 j (by omega), g 113 k (by omega)]; exact o3 j k hj hk
  · unfold CD at h3 ⊢
    rw [g6 6 (by omega), g6 9 (by omega), g6 10 (by omega), g6 14 (by omega), g6 16 (by omega), g6 13 (by omega), g1 5 (by omega) (by omega), g1 9 (by omega) (by omega), g 40 8 (by omega), g 40 10 (by omega)]
    exact h3
  · unfold TS at h7 ⊢
    rw [g6 10 (by omega), es, g1 5 (by omega) (by omega), g 81 _ (by omega)]
    refine ⟨fun t ht => ?_, h7.2⟩
    rw [g 72 t (by omega)]; exact h7.1 t ht
theorem SCs_La {E : Nat → Prop} (h : SCs x E) (f : fm sSum x y) : SCs y E := by
  intro i hi he
  have em : y.1 80 9 = x.1 80 9 := f _ _ (by unfold sSum; omega)
  refine SC_eq (fun j => f _ _ (by unfold sSum; omega)) (f _ _ (by unfold sSum; omega)) em (f _ _ (by unfold sSum; omega)) (f _ _ (by unfold sSum; omega)) (fun j => f _ _ (by unfold sSum; omega)) (h i ?_ he)
  unfold ssm at hi ⊢
  rw [← em]; exact hi
/-- one step more: all but what is put behind -/
def AD (x y : gd) (o l k : Int32) : Prop := fm (fun c k => (81 ≤ c ∧ c ≤ 89 ∧ k = (x.1 80 9).toNatClampNeg) ∨ (c = 80 ∧ k = 9)) x y ∧ ssm y = ssm x + 1 ∧ y.1 81 (x.1 80 9).toNatClampNeg = o ∧ y.1 83 (x.1 80 9).toNatClampNeg = k ∧ y.1 84 (x.1 80 9).toNatClampNeg = -1
theorem kp_add (hq : kV q) (o l k : Int32) (h0 : 0 ≤ ssm x) (h1 : ssm x < 400) (h : ∀ y, AD x y o l k → vp_in (x.1 80 9) 400 → F (x.1 80 9) y) : KT G q d zk_X8_add 0 [(0, vr 80), (1, vi o), (2, vi l), (3, vi k)] [] x (ri F) := by
  have k4 : (Int32.ofNat 400).toInt = 400 := rfl
  have vin : vp_in (x.1 80 9) 400 := by rw [vp_in_iff]; unfold ssm at *; omega
  refine kg_X8_add_0 hq _ _ _ ⟨fun c => ?_, fun _ => kg_X8_add_26 hq _ _ _ _ ⟨vin, fun x2 e2 => ⟨vin, fun x4 e4 => ⟨vin, fun x6 e6 => ⟨vin, fun x8 e8 => ⟨vin, fun x10 e10 => ⟨vin, fun x12 e12 => ⟨vin, fun x14 e14 => ⟨vin, fun x16 e16 => ⟨vin, fun x18 e18 y ey => ri_i (h y ⟨?_, ?_, ?_, ?_, ?_⟩ vin)⟩⟩⟩⟩⟩⟩⟩⟩⟩⟩
  · exfalso; rw [t_le, k4] at c; unfold ssm at *; omega
  · rw [ey, e18, e16, e14, e12, e10, e8, e6, e4, e2]
    exact fm_si (fm_si (fm_si (fm_si (fm_si (fm_si (fm_si (fm_si (fm_si (fm_si (fm_rf _ _) (Or.inl ⟨by omega, by omega, rfl⟩)) (Or.inl ⟨by omega, by omega, rfl⟩)) (Or.inl ⟨by omega, by omega, rfl⟩)) (Or.inl ⟨by omega, by omega, rfl⟩)) (Or.inl ⟨by omega, by omega, rfl⟩)) (Or.inl ⟨by omega, by omega, rfl⟩)) (Or.inl ⟨by omega, by omega, rfl⟩)) (Or.inl ⟨by omega, by omega, rfl⟩)) (Or.inl ⟨by omega, by omega, rfl⟩)) (Or.inr ⟨rfl, rfl⟩)
  · have : y.1 80 9 = x.1 80 9 + 1 := by rw [ey]; (simp only [si_get, sfl_get, Nat.reduceEqDiff, eq_self, and_false, false_and, and_true, true_and, if_true, if_false, reduceIte, reduceCtorEq])
    unfold ssm at *
    rw [this, t_add (by show _ ≤ _ + (1 : Int); omega) (by show _ + (1 : Int) ≤ _; omega)]; rfl
  · rw [ey, e18, e16, e14, e12, e10, e8, e6, e4, e2]; (simp only [si_get, sfl_get, Nat.reduceEqDiff, eq_self, and_false, false_and, and_true, true_and, if_true, if_false, reduceIte, reduceCtorEq])
  · rw [ey, e18, e16, e14, e12, e10, e8, e6, e4, e2]; (simp only [si_get, sfl_get, Nat.reduceEqDiff, eq_self, and_false, false_and, and_true, true_and, if_true, if_false, reduceIte, reduceCtorEq])
  · rw [ey, e18, e16, e14, e12, e10, e8, e6, e4, e2]; (simp only [si_get, sfl_get, Nat.reduceEqDiff, eq_self, and_false, false_and, and_true, true_and, if_true, if_false, reduceIte, reduceCtorEq])
end KST
