section
/-! all that the program can do, state by state -/
abbrev tL : List Nat := [82, 84, 88, 89, 90, 91, 92, 93, 136]
abbrev tA' : List Nat := [70, 71, 72, 73, 74, 75, 76, 77, 78, 79, 80, 81, 82, 84, 86, 87, 88, 120, 121, 122, 123, 124, 125, 126, 127, 128, 129, 130, 131, 132, 133, 134, 135]
/-- the choices found change nothing of the state -/
theorem sl_sw {a b z : gd} (m : md [84] [86, 87, 88] b a) (e : eqS (Sl b) b z) : eqS (Sl a) a z := by
  have e80 : a.1 80 = b.1 80 := m.2.1 80 (by decide) (by decide)
  intro c j h
  have hb : coreP c j ∨ Sl b c j := h.imp id (fun q => by unfold Sl at q ⊢; rw [← e80]; exact q)
  rw [e c j hb]
  symm
  rcases h with h | h
  · rcases h with ⟨h1, h2⟩ | ⟨n, h1, h2⟩
    · rw [h1]
      refine m.1 j (fun w => ?_)
      rw [List.mem_singleton.mp w] at h2
      exact absurd h2 (by decide)
    · have hc : c ≠ 0 ∧ c ∉ [86, 87, 88] := by
        simp at h1
        refine ⟨by omega, ?_⟩
        simp
        omega
      rw [m.2.1 c hc.1 hc.2]
  · obtain ⟨hc, _⟩ := h
    rw [m.2.1 c (by omega) (by simp; omega)]
/-- a state that was kept, with its row -/
def TR (y : gd) (W : Nat) (A : Nat → gd) (s : Nat) : Prop := TN y W A s ∧ ∀ i : Nat, i < 222 → y.1 133 (240 * s + i) = pv (A s) i
/-- what trying keeps -/
def TI (z : gd) (W : Nat) (A : Nat → gd) (M : Nat) (y : gd) : Prop := mi tL tA' z y ∧ ow W z y ∧ y.1 120 W = Int32.ofNat M ∧ 0 ≤ (y.1 123 W).toInt ∧ (y.1 123 W).toInt ≤ M ∧ fnd y W M ∧ (∀ s : Nat, s < M → TR y W A s) ∧ St z (w32 W) (A 0) ∧ ∀ s : Nat, s < M → prE z (A s) ∧ (A s).1 0 68 = z.1 0 68
theorem ofN {M : Nat} (h : M ≤ 3000) : (Int32.ofNat M).toInt = M := by
  have : (Int32.ofNat M).toInt = (M : Int).bmod (2 ^ 32) := Int32.toInt_ofNat
  rw [this]
  exact Int.bmod_eq_of_le (by omega) (by omega)
theorem TI_mi {z y y' : gd} {W M : Nat} {A : Nat → gd} {L B : List Nat} (q : TI z W A M y) (m : mi L B y y') (hL : L.all (tL.elem ·) = true) (hB : B.all (tA'.elem ·) = true) (hN : [120, 123, 126, 130, 131, 132, 133].all (fun k => !B.elem k) = true) : TI z W A M y' := by
  obtain ⟨q1, q2, q3, q4, q5, q6, q7, q8, q9⟩ := q
  have g := fun k (h0 : k ≠ 0) hk => m.2.1 k h0 (all_no hN k hk)
  refine ⟨mi_tr q1 m ?_ ?_, ow_tr q2 (ow_mi m (all_sub hN rfl)), by rw [g 120 (by decide) (by decide)]; exact q3, by rw [g 123 (by decide) (by decide)]; exact q4, by rw [g 123 (by decide) (by decide)]; exact q5, ?_, fun s hs => ?_, q8, q9⟩
  · rw [List.all_append, hL]; rfl
  · rw [List.all_append, hB]; rfl
  · unfold fnd
    rw [g 126 (by decide) (by decide)]
    exact q6
  · have r := q7 s hs
    unfold TR TN at r ⊢
    rw [g 130 (by decide) (by decide), g 131 (by decide) (by decide), g 132 (by decide) (by decide), g 133 (by decide) (by decide)]
    exact r
section TRY
variable {G : mG} {d D : Nat} {x z a : gd} {F : Int32 → gd → Prop} {Fv : gd → Prop}
end TRY
end
section
/-! the calls of trying: attempt, tried, outcome, finding, show, common, ring, alike -/
section TCA
variable {G : mG} {d D : Nat} {x z a : gd} {F : Int32 → gd → Prop} {Fv : gd → Prop}
theorem w_in {w : Int32} (h : (0 : Int32) ≤ w ∧ w ≤ 1) : vp_in w 2 ∧ (w = 0 ∨ w = 1) := by
  have k0 : (0 : Int32).toInt = 0 := rfl
  have k1 : (1 : Int32).toInt = 1 := rfl
  obtain ⟨a, b⟩ := h
  rw [t_le, k0] at a
  rw [t_le, k1] at b
  exact ⟨by rw [vp_in_iff]; omega, by rw [t_eq, t_eq, k0, k1]; omega⟩
theorem TY_TI {z y : gd} {W M : Nat} {A : Nat → gd} (hM : M ≤ 3000) (q : TI z W A M y) : TY y W := by
  obtain ⟨t1, t2, t3, t4, t5, t6, t7, t8, t9⟩ := q
  have oM := ofN hM
  refine ⟨A, St_pr (prE_mi (prE_rf z) t1 rfl rfl) t8, by rw [t3, oM]; omega, by rw [t3, oM]; omega, t4, by omega, fun s hs => (t7 s (by rw [t3, oM] at hs; omega)).1, fun f hf => ?_⟩
  rw [t3, oM]
  exact t6 f hf
/-- the other way's trying stays -/
theorem TY_ow {z y : gd} {W w : Nat} (hw : w < 2) (ne : ¬ w = W) (o : ow W z y) (p : prE z y) (q : TY z w) : TY y w := by
  obtain ⟨o1, o2, o3, o4⟩ := o w hw ne
  obtain ⟨A, q1, q2, q3, q4, q5, q6, q7⟩ := q
  refine ⟨A, St_pr p q1, by rw [o1]; exact q2, by rw [o1]; exact q3, by rw [o2]; exact q4, by rw [o2]; exact q5, fun s hs => ?_, fun f hf => by rw [o3 f hf, o1]; exact q7 f hf⟩
  rw [o1] at hs
  obtain ⟨r1, r2, r3, r4⟩ := q6 s hs
  obtain ⟨e1, e2, e3⟩ := o4 s (by omega)
  refine ⟨r1, by rw [e3]; exact r2, by rw [e3]; exact r3, fun h => ?_⟩
  obtain ⟨p', p1, p2, p3, p4, p5, p6⟩ := r4 h
  exact ⟨p', p1, by rw [e1]; exact p2, by rw [e3, (o4 p' (by omega)).2.2]; exact p3, by rw [e2]; exact p4, by rw [e2]; exact p5, by rw [e2]; exact p6⟩
theorem f_in {f : Int32} (h : (0 : Int32) ≤ f ∧ f ≤ 10) : 0 ≤ f.toInt ∧ f.toInt < 11 := by
  have k0 : (0 : Int32).toInt = 0 := rfl
  have k1 : (10 : Int32).toInt = 10 := rfl
  obtain ⟨a, b⟩ := h
  rw [t_le, k0] at a
  rw [t_le, k1] at b
  exact ⟨a, by omega⟩
end TCA
end
section
/-! show: the way to a finding, gone again -/
section TSH
variable {G : mG} {d D : Nat} {x z a : gd} {F : Int32 → gd → Prop} {Fv : gd → Prop}
end TSH
end
