/-! the class: a step is added, with all its fields -/
section KADF
variable {G : kG} {q : kP} {d : Nat} {x x0 y z : gd} {F : Int32 → gd → Prop}
theorem kf_add (hq : kV q) (o l k : Int32) (h0 : 0 ≤ ssm x) (h1 : ssm x < 400) (h : ∀ y, AD x y o l k → vp_in (x.1 80 9) 400 → (y.1 85 (x.1 80 9).toNatClampNeg = -1 ∧ y.1 87 (x.1 80 9).toNatClampNeg = -1 ∧ y.1 88 (x.1 80 9).toNatClampNeg = -1 ∧ y.1 89 (x.1 80 9).toNatClampNeg = -1) → F (x.1 80 9) y) : KT G q d zk_X8_add 0 [(0, vr 80), (1, vi o), (2, vi l), (3, vi k)] [] x (ri F) := by
  have k4 : (Int32.ofNat 400).toInt = 400 := rfl
  have vin : vp_in (x.1 80 9) 400 := by rw [vp_in_iff]; unfold ssm at *; omega
  refine kg_X8_add_0 hq _ _ _ ⟨fun c => ?_, fun _ => kg_X8_add_26 hq _ _ _ _ ⟨vin, fun x2 e2 => ⟨vin, fun x4 e4 => ⟨vin, fun x6 e6 => ⟨vin, fun x8 e8 => ⟨vin, fun x10 e10 => ⟨vin, fun x12 e12 => ⟨vin, fun x14 e14 => ⟨vin, fun x16 e16 => ⟨vin, fun x18 e18 y ey => ri_i (h y ⟨?_, ?_, ?_, ?_, ?_⟩ vin ⟨?_, ?_, ?_, ?_⟩)⟩⟩⟩⟩⟩⟩⟩⟩⟩⟩
  · exfalso; rw [t_le, k4] at c; unfold ssm at *; omega
  · rw [ey, e18, e16, e14, e12, e10, e8, e6, e4, e2]
    exact fm_si (fm_si (fm_si (fm_si (fm_si (fm_si (fm_si (fm_si (fm_si (fm_si (fm_rf _ _) (Or.inl ⟨by omega, by omega, rfl⟩)) (Or.inl ⟨by omega, by omega, rfl⟩)) (Or.inl ⟨by omega, by omega, rfl⟩)) (Or.inl ⟨by omega, by omega, rfl⟩)) (Or.inl ⟨by omega, by omega, rfl⟩)) (Or.inl ⟨by omega, by omega, rfl⟩)) (Or.inl ⟨by omega, by omega, rfl⟩)) (Or.inl ⟨by omega, by omega, rfl⟩)) (Or.inl ⟨by omega, by omega, rfl⟩)) (Or.inr ⟨rfl, rfl⟩)
  · have : y.1 80 9 = x.1 80 9 + 1 := by rw [ey]; (simp only [si_get, sfl_get, Nat.reduceEqDiff, eq_self, and_false, false_and, and_true, true_and, if_true, if_false, reduceIte, reduceCtorEq])
    unfold ssm at *
    rw [this, t_add (by show _ ≤ _ + (1 : Int); omega) (by show _ + (1 : Int) ≤ _; omega)]; rfl
  · rw [ey, e18, e16, e14, e12, e10, e8, e6, e4, e2]; (simp only [si_get, sfl_get, Nat.reduceEqDiff, eq_self, and_false, false_and, and_true, true_and, if_true, if_false, reduceIte, reduceCtorEq])
  · rw [ey, e18, e16, e14, e12, e10, e8, e6, e4, e2]; (simp only [si_get, sfl_get, Nat.reduceEqDiff, eq_self, and_false, false_and, and_true, true_and, if_true, if_false, reduceIte, reduceCtorEq])
  · rw [ey, e18, e16, e14, e12, e10, e8, e6, e4, e2]; (simp only [si_get, sfl_get, Nat.reduceEqDiff, eq_self, and_false, false_and, and_true, true_and, if_true, if_false, reduceIte, reduceCtorEq])
  · rw [ey, e18, e16, e14, e12, e10, e8, e6, e4, e2]; (simp only [si_get, sfl_get, Nat.reduceEqDiff, eq_self, and_false, false_and, and_true, true_and, if_true, if_false, reduceIte, reduceCtorEq])
  · rw [ey, e18, e16, e14, e12, e10, e8, e6, e4, e2]; (simp only [si_get, sfl_get, Nat.reduceEqDiff, eq_self, and_false, false_and, and_true, true_and, if_true, if_false, reduceIte, reduceCtorEq])
  · rw [ey, e18, e16, e14, e12, e10, e8, e6, e4, e2]; (simp only [si_get, sfl_get, Nat.reduceEqDiff, eq_self, and_false, false_and, and_true, true_and, if_true, if_false, reduceIte, reduceCtorEq])
  · rw [ey, e18, e16, e14, e12, e10, e8, e6, e4, e2]; (simp only [si_get, sfl_get, Nat.reduceEqDiff, eq_self, and_false, false_and, and_true, true_and, if_true, if_false, reduceIte, reduceCtorEq])
end KADF
