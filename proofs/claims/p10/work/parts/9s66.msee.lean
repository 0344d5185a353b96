/-! the machine: small rows; the model's see -/
section PAC
variable {C : gCo} {M : gMa} {w t s c : Nat} {e f : Int32} {wk : Option Nat}
theorem lkI_le : (lkI C M t).1 ≤ 2 := by
  unfold lkI
  split
  · exact Nat.zero_le _
  · split
    · show 1 ≤ 2
      omega
    · split
      · show 2 ≤ 2
        omega
      · exact Nat.zero_le _
theorem rsF_le : rsF C w M t s c ≤ 9 := by
  unfold rsF
  (repeat' split) <;> omega
theorem lkM_le : (lkM C w M t).1 ≤ 9 := by
  unfold lkM
  split
  · exact Nat.zero_le _
  · split
    · show (lkI C M t).1 ≤ 9
      have := lkI_le (C := C) (M := M) (t := t)
      omega
    · split
      · show 1 ≤ 9
        omega
      · split
        · show 1 ≤ 9
          omega
        · exact rsF_le
theorem ef_0 : efM C w M t 0 c e f wk = (M, seM M t c) := by unfold efM; rfl
theorem ef_1 : efM C w M t 1 c e f wk = if w = 0 ∨ suM C c = true then (upC M c e, 0) else (upT M t ((M.2.2 t).1, (M.2.2 t).2.1, (M.2.2 t).2.2.1, (M.2.2 t).2.2.2.1, (M.2.2 t).2.2.2.2.1, (M.2.2 t).2.2.2.2.2.1, (M.2.2 t).2.2.2.2.2.2.1 ++ [(c, e)], (M.2.2 t).2.2.2.2.2.2.2), 0) := by unfold efM; rfl
theorem ef_2 : efM C w M t 2 c e f wk = (upC M c e, M.1 c) := by unfold efM; rfl
theorem ef_3 : efM C w M t 3 c e f wk = (upC M c (M.1 c + e), M.1 c) := by unfold efM; rfl
theorem ef_4 : efM C w M t 4 c e f wk = (upC M c (if M.1 c = e then f else M.1 c), if M.1 c = e then 1 else 0) := by unfold efM; rfl
theorem ef_5 : efM C w M t 5 c e f wk = (upL M c (t + 1, (M.2.1 c).2 + 1), 0) := by unfold efM; rfl
theorem ef_6 : efM C w M t 6 c e f wk = (upL M c (if (M.2.1 c).2 - 1 = 0 then 0 else t + 1, (M.2.1 c).2 - 1), 0) := by unfold efM; rfl
theorem ef_7 : efM C w M t 7 c e f wk = (upT (upL M c (0, 0)) t ((M.2.2 t).1, (M.2.2 t).2.1, (M.2.2 t).2.2.1, 1, (M.2.1 c).2, (M.2.2 t).2.2.2.2.2), 0) := by unfold efM; rfl
theorem ef_13 : efM C w M t 13 c e f wk = (upT M t ((M.2.2 t).1, (M.2.2 t).2.1, (M.2.2 t).2.2.1, (M.2.2 t).2.2.2.1, (M.2.2 t).2.2.2.2.1, (stN C (M.2.2 t).2.2.1).2.2.2.2.1, (M.2.2 t).2.2.2.2.2.2), 0) := by unfold efM; rfl
theorem ef_14 : efM C w M t 14 c e f wk = (upT M t ((M.2.2 t).1, (M.2.2 t).2.1, (M.2.2 t).2.2.1, (M.2.2 t).2.2.2.1, (M.2.2 t).2.2.2.2.1, -1, (M.2.2 t).2.2.2.2.2.2), 0) := by unfold efM; rfl
theorem ef_15 : efM C w M t 15 c e f wk = (upT (upL M c (t + 1, (M.2.2 t).2.2.2.2.1)) t ((M.2.2 t).1, (M.2.2 t).2.1, (M.2.2 t).2.2.1, 0, 0, (M.2.2 t).2.2.2.2.2), 0) := by unfold efM; rfl
theorem ef_o (h : s = 10 ∨ s = 11 ∨ s = 12) : efM C w M t s c e f wk = (M, 0) := by
  rcases h with h | h | h <;> rw [h] <;> unfold efM <;> rfl
theorem acM_F (h : ¬ (lkM C w M t).1 = 0) : acM C w M t wk = upT M t (thF (M.2.2 t) (lkM C w M t).1) := by
  unfold acM
  rw [if_pos h]
theorem acM_7 (h : (lkM C w M t).1 = 0) (h7 : soM C (M.2.2 t) = 7) : acM C w M t wk = (efM C w M t 7 (lkM C w M t).2.1.toNatClampNeg 0 0 wk).1 := by
  unfold acM
  rw [if_neg (fun z => z h), if_pos h7]
theorem acM_is {E : gMa} {v : Int32} (h : (lkM C w M t).1 = 0) (h7 : ¬ soM C (M.2.2 t) = 7) (e9 : efM C w M t (soM C (M.2.2 t)) (lkM C w M t).2.1.toNatClampNeg (lkM C w M t).2.2.1 (lkM C w M t).2.2.2 wk = (E, v)) : acM C w M t wk = upT E t (thN C t (E.2.2 t) ((M.2.2 t).2.2.1 + 1) (toV (stN C (M.2.2 t).2.2.1) (M.2.2 t).2.2.2.2.2.2.2 v)) := by
  unfold acM
  rw [if_neg (fun z => z h), if_neg h7, e9]
end PAC
section DSE
variable {d : Nat} {S : gS} {x y : gd} {F : Int32 → gd → gS → Prop} {Fv : gd → gS → Prop} {C : gCo} {M : gMa}
theorem ds_see3 (t c : Int32) (ht : vp_in t 6) (hc : vp_in c 24) (q : rl x S t.toNatClampNeg) {l : List (Nat × Int32)} (hl : mLt x t.toNatClampNeg l) (h : F (seL l c.toNatClampNeg (x.1 70 c.toNatClampNeg)) x S) : MD d z_see 0 [(0, vr 0), (1, vi t), (2, vi c)] [] S x (Di F) := by
  have k1 : (1 : Int32).toInt = 1 := rfl
  obtain ⟨l1, l2⟩ := hl
  have q8 := q.2.1
  have cb := vp_in_iff.mp hc
  have cc := cl_i cb.1
  obtain ⟨R, eR⟩ : ∃ R, R = seL l c.toNatClampNeg (x.1 70 c.toNatClampNeg) := ⟨_, rfl⟩
  rw [← eR] at h
  have loop : ∀ (n : Nat) (v i : Int32), 0 ≤ i.toInt → (x.1 80 t.toNatClampNeg).toInt - i.toInt ≤ n → seL (l.drop i.toInt.toNat) c.toNatClampNeg v = R → MD d z_see 10 [(0, vr 0), (1, vi t), (2, vi c), (3, vi v), (4, vi i)] [] S x (Di F) := by
    have fin : ∀ (v i : Int32), (x.1 80 t.toNatClampNeg).toInt ≤ i.toInt → seL (l.drop i.toInt.toNat) c.toNatClampNeg v = R → Di F (some (vi v)) x S := fun v i hi hs => by
      rw [List.drop_eq_nil_of_le (by omega)] at hs
      have hs : v = R := hs
      rw [hs]
      exact Di_i h
    intro n
    induction n with
    | zero =>
      intro v i i0 hi hs
      exact sd_see_10 _ _ _ _ ⟨ht, fun _ => fin v i (by omega) hs, fun c => absurd (t_le.mpr (by omega)) c⟩
    | succ n ih =>
      intro v i i0 hi hs
      refine sd_see_10 _ _ _ _ ⟨ht, fun c9 => fin v i (by rw [t_le] at c9; exact c9) hs, fun c9 => ?_⟩
      rw [t_le] at c9
      obtain ⟨a1, a2, a3, a4⟩ := rl_at ht q (i := i) i0 (by omega)
      have i1 : (i + 1).toInt = i.toInt + 1 := by rw [t_add (by omega) (by omega), k1]
      have hi' : i.toInt.toNat < l.length := by omega
      obtain ⟨b1, b2, b3⟩ := l2 i.toInt.toNat _ (List.getElem?_eq_getElem hi')
      rw [List.drop_eq_getElem_cons hi', seL] at hs
      have ea : (10 * t + i).toNatClampNeg = 10 * t.toNatClampNeg + i.toInt.toNat := by rw [(t10 ht i0 (by omega)).2, t_cl i]
      have en : (i + 1).toInt.toNat = i.toInt.toNat + 1 := by omega
      have ec : Int32.ofNat l[i.toInt.toNat].1 = c ↔ l[i.toInt.toNat].1 = c.toNatClampNeg := by
        have e9 : (Int32.ofNat l[i.toInt.toNat].1).toInt = (l[i.toInt.toNat].1 : Nat) := Int32.toInt_ofNat_of_lt (by omega)
        rw [t_eq, e9]
        omega
      refine ⟨a1, a2, fun c9 => ih _ _ (by omega) (by omega) ?_, fun c9 => ⟨a1, a3, ih _ _ (by omega) (by omega) ?_⟩⟩
      · rw [ea, b1] at c9
        rw [if_neg (fun z => c9 (ec.mpr z))] at hs
        rw [en]; exact hs
      · rw [ea, b1] at c9
        rw [if_pos (ec.mp c9)] at hs
        rw [en, ea, b2]; exact hs
  exact sd_see_0 _ _ ⟨hc, loop _ _ 0 (by decide) (Int.self_le_toNat _) eR.symm⟩
theorem MM1_md {L A : List Nat} (m : md L A x y) (hA : [70, 71, 72, 73, 74, 75, 76, 77, 78, 79, 80, 81, 82].all (fun k => !A.elem k) = true) (h : MM1 x C M) : MM1 y C M := by
  have f : ∀ k ∈ [70, 71, 72, 73, 74, 75, 76, 77, 78, 79, 80, 81, 82], y.1 k = x.1 k := fun k hk => m.2.1 k (fun e => by rw [e] at hk; exact absurd hk (by decide)) (all_no hA k hk)
  unfold MM1 mTq mLt mLv at h ⊢
  rw [f 70 (by decide), f 71 (by decide), f 72 (by decide), f 73 (by decide), f 74 (by decide), f 75 (by decide), f 76 (by decide), f 77 (by decide), f 78 (by decide), f 79 (by decide), f 80 (by decide), f 81 (by decide), f 82 (by decide)]
  exact h
end DSE
