/-! the class: one local more is known -/
section KMK
variable {G : kG} {q : kP} {d : Nat} {x x0 y z xs : gd} {F : Int32 → gd → Prop} {Fv : gd → Prop} {X : String → gd → Prop} {P : Option gv → gd → Prop} {M : Int} {E : Nat → Prop} {K V : Nat → Int32} {sN : Nat → Nat → Bool} {e : Nat} {Ev : gV} {Ml N : gU}
theorem kd_makeKnown (hq : kV q) (hB : BB x0 x M E) (t : Int32) (ht : tk x t) (h1 : (x.1 100 9).toInt + 1 ≤ (x.1 100 7).toInt) (hM : M ≤ (x.1 60 13).toInt ∨ M ≤ (x.1 100 9).toInt + 1) (hE : KV' K e x Ev) (hk1 : K t.toNatClampNeg = 1) (hte : t.toNatClampNeg ≤ e) (b : Nat) (h : ∀ y, BB x0 y (y.1 60 13).toInt E → nx y = nx x → om y = om x → ssm y = ssm x → KV' K e y (exV Ev (22, t.toNatClampNeg, b)) → fm (fun c k => (c = 100 ∧ (k = 7 ∨ k = 9)) ∨ c = 109 ∨ (c = 60 ∧ k = 13)) x y → y.1 100 7 = x.1 100 7 → Fv y) : KT G q (d + 1) zk_X7_makeKnown 0 [(0, vr 100), (1, vi t)] [] x (rv Fv) := by
  have k8 : (8 : Int32).toInt = 8 := rfl
  obtain ⟨kx, ox, cx⟩ := BB_k hB
  have l8 := ox.2.2.2.2
  have k0 := kx.1.1
  have m0 := cx.2.2.2.2.2.1
  refine kg_X7_makeKnown_0 hq _ ⟨fun c => ?_, fun c => ⟨by rw [vp_in_iff]; omega, fun x3 e3 x4 e4 => ?_⟩⟩
  · exfalso; rw [t_le, k8] at c; omega
  refine kg_X7_makeKnown_29 hq (fun r hr r1 r2 z ez => rv_i ?_)
  have x39 : x3.1 100 9 = x.1 100 9 := by rw [e3]; (simp only [si_get, sfl_get, Nat.reduceEqDiff, eq_self, and_false, false_and, and_true, true_and, if_true, if_false, reduceIte, reduceCtorEq])
  have x49 : x4.1 100 9 = x.1 100 9 + 1 := by rw [e4, x39]; (simp only [si_get, sfl_get, Nat.reduceEqDiff, eq_self, and_false, false_and, and_true, true_and, if_true, if_false, reduceIte, reduceCtorEq])
  have t49 : (x4.1 100 9).toInt = (x.1 100 9).toInt + 1 := by rw [x49, t_add (by show _ ≤ _ + (1 : Int); omega) (by show _ + (1 : Int) ≤ _; omega)]; rfl
  have x413 : x4.1 60 13 = x.1 60 13 := by rw [e4, e3]; (simp only [si_get, sfl_get, Nat.reduceEqDiff, eq_self, and_false, false_and, and_true, true_and, if_true, if_false, reduceIte, reduceCtorEq])
  rw [x413] at hr r1
  have f : fm (fun c k => (c = 100 ∧ (k = 7 ∨ k = 9)) ∨ c = 109 ∨ (c = 60 ∧ k = 13)) x z := by
    rw [ez, e4, e3]; exact fm_si (fm_si (fm_si (fm_rf _ _) (Or.inr (Or.inl rfl))) (Or.inl ⟨rfl, Or.inr rfl⟩)) (Or.inr (Or.inr ⟨rfl, rfl⟩))
  have z9 : z.1 100 9 = x4.1 100 9 := by rw [ez]; (simp only [si_get, sfl_get, Nat.reduceEqDiff, eq_self, and_false, false_and, and_true, true_and, if_true, if_false, reduceIte, reduceCtorEq])
  have z7 : z.1 100 7 = x.1 100 7 := by rw [ez, e4, e3]; (simp only [si_get, sfl_get, Nat.reduceEqDiff, eq_self, and_false, false_and, and_true, true_and, if_true, if_false, reduceIte, reduceCtorEq])
  have z13 : z.1 60 13 = r := by rw [ez]; (simp only [si_get, sfl_get, Nat.reduceEqDiff, eq_self, and_false, false_and, and_true, true_and, if_true, if_false, reduceIte, reduceCtorEq])
  have eN : (((x.1 100 9).toNatClampNeg : Nat) : Int) = (x.1 100 9).toInt := by rw [t_cl]; omega
  have hKz : KN z := by
    unfold KN tk at kx ⊢
    rw [z9, t49, f 20 7 (by omega)]
    refine ⟨by omega, fun i hi => ?_⟩
    by_cases hi2 : i = (x.1 100 9).toNatClampNeg
    · have : z.1 109 i = t := by rw [hi2, ez, e4, e3]; (simp only [si_get, sfl_get, Nat.reduceEqDiff, eq_self, and_false, false_and, and_true, true_and, if_true, if_false, reduceIte, reduceCtorEq])
      rw [this]; exact ht
    · have : z.1 109 i = x.1 109 i := by
        rw [ez, e4, e3, si_get, if_neg (by omega), si_get, if_neg (by omega), si_get, if_neg (fun q => hi2 q.2)]
      rw [this]; exact kx.2 i (by omega)
  have hEz : KV' K e z (exV Ev (22, t.toNatClampNeg, b)) := by
    obtain ⟨e9, he⟩ := hE
    show (z.1 100 9).toInt = (((t.toNatClampNeg, Ev.2.2) :: Ev.1).length : Nat) ∧ ∀ (p : Nat) (k : Nat × Nat), ((t.toNatClampNeg, Ev.2.2) :: Ev.1)[p]? = some k → (z.1 109 (((t.toNatClampNeg, Ev.2.2) :: Ev.1).length - 1 - p)).toNatClampNeg = k.1 ∧ K k.1 = 1 ∧ k.1 ≤ e
    rw [List.length_cons]
    refine ⟨by rw [z9, t49]; omega, fun p k hp => ?_⟩
    cases p with
    | zero =>
      have ek : (t.toNatClampNeg, Ev.2.2) = k := Option.some.inj hp
      rw [← ek]
      have ei : Ev.1.length + 1 - 1 - 0 = (x.1 100 9).toNatClampNeg := by omega
      have : z.1 109 (x.1 100 9).toNatClampNeg = t := by rw [ez, e4, e3]; (simp only [si_get, sfl_get, Nat.reduceEqDiff, eq_self, and_false, false_and, and_true, true_and, if_true, if_false, reduceIte, reduceCtorEq])
      rw [ei, this]
      exact ⟨rfl, hk1, hte⟩
    | succ p =>
      have hp2 : Ev.1[p]? = some k := hp
      obtain ⟨hpl, -⟩ := List.getElem?_eq_some_iff.mp hp2
      have ei : Ev.1.length + 1 - 1 - (p + 1) = Ev.1.length - 1 - p := by omega
      have : z.1 109 (Ev.1.length - 1 - p) = x.1 109 (Ev.1.length - 1 - p) := by
        rw [ez, e4, e3, si_get, if_neg (by omega), si_get, if_neg (by omega), si_get, if_neg (by omega)]
      rw [ei, this]
      exact he p k hp2
  refine h z (BB_kn hB (M' := (z.1 60 13).toInt) (by rw [z13]; omega) f hKz (by rw [z9, t49]; omega) (by rw [z9, t49, z7]; omega) (by rw [z13]; omega) (by rw [z9, z13]; omega)) ?_ ?_ ?_ hEz f z7
  · unfold nx; rw [f 100 4 (by omega)]
  · unfold om; rw [f 100 13 (by omega)]
  · unfold ssm; rw [f 80 9 (by omega)]
end KMK
