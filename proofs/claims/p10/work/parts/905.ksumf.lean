/-! the class: sums are read as the grammar says -/
theorem opE_dull {v : Nat × Nat × Nat} (h : v.1 = 50 ∨ v.1 = 51) : dull v := by
  intro k hk c
  rw [c] at h
  rcases h with rfl | rfl <;> exact absurd hk (by decide)
theorem UR_op {sN : Nat → Nat → Bool} {E : gV} {x y : gd} : ∀ {N M : gU}, UR sN E x y M → opE N → UR sN E x y (M ++ N) := by
  intro N
  induction N with
  | nil => intro M h _; rw [List.append_nil]; exact h
  | cons v N ih =>
    intro M h g
    have := ih (UR_dull h (opE_dull (g v List.mem_cons_self))) (fun w hw => g w (List.mem_cons_of_mem _ hw))
    rw [List.append_assoc] at this
    exact this
/-- the operators held, as the grammar's stack -/
def HD (x : gd) : Nat → gH → Prop
  | 0, s => s = []
  | n + 1, s => ∃ a r v s', s = (a, r, v) :: s' ∧ ((x.1 117 n).toNatClampNeg + r = 17 ∨ (17 ≤ (x.1 117 n).toNatClampNeg ∧ r = 0)) ∧ ((x.1 116 n).toInt = (a : Nat) ∨ ((x.1 116 n).toInt = 6 ∧ a = 5)) ∧ (a ≤ 5 ∧ (n = 0 → a = 0)) ∧ (v.1 = 50 ∨ v.1 = 51) ∧ HD x n s'
theorem HD_eq {x y : gd} : ∀ {n : Nat} {s : gH}, (∀ k, k < n → y.1 116 k = x.1 116 k ∧ y.1 117 k = x.1 117 k) → HD x n s → HD y n s := by
  intro n
  induction n with
  | zero => intro s _ h; exact h
  | succ n ih =>
    intro s e h
    obtain ⟨a, r, v, s', h1, h2, h3, h4, h5, h6⟩ := h
    obtain ⟨e1, e2⟩ := e n (Nat.lt_succ_self _)
    exact ⟨a, r, v, s', h1, by rw [e2]; exact h2, by rw [e1]; exact h3, h4, h5, ih (fun k hk => e k (Nat.lt_succ_of_lt hk)) h6⟩
/-- how many parentheses -/
def zs : gH → Nat
  | [] => 0
  | z :: s => zs s + (if z.1 = 0 then 1 else 0)
theorem HD_zs {x : gd} : ∀ {n : Nat} {s : gH}, HD x n s → zc x n = zs s := by
  intro n
  induction n with
  | zero => intro s h; have h : s = [] := h; rw [h]; rfl
  | succ n ih =>
    intro s h
    obtain ⟨a, r, v, s', h1, h2, h3, h4, h5, h6⟩ := h
    rw [h1]
    show zc x n + (if x.1 116 n = 0 then 1 else 0) = zs s' + (if a = 0 then 1 else 0)
    rw [ih h6]
    have k0 : (0 : Int32).toInt = 0 := rfl
    congr 1
    by_cases c : a = 0
    · rw [if_pos c, if_pos]
      rw [t_eq, k0]; omega
    · rw [if_neg c, if_neg]
      rw [t_eq, k0]; omega
theorem HD_b {x : gd} : ∀ {n : Nat} {s : gH}, HD x (n + 1) s → 1 ≤ zs s := by
  intro n
  induction n with
  | zero =>
    intro s h
    obtain ⟨a, r, v, s', h1, h2, h3, h4, h5, h6⟩ := h
    rw [h1]
    show 1 ≤ zs s' + (if a = 0 then 1 else 0)
    rw [if_pos (h4.2 rfl)]; omega
  | succ n ih =>
    intro s h
    obtain ⟨a, r, v, s', h1, h2, h3, h4, h5, h6⟩ := h
    rw [h1]
    show 1 ≤ zs s' + (if a = 0 then 1 else 0)
    have := ih h6
    omega
theorem dW_stuck {K : Nat → Int32} {o : Bool} {j : Nat} (h : pst (K j) = 0) (hn : ¬ (K j = 62 ∧ j < 700)) : ∀ {s : gH} {L : gU}, 2 ≤ zs s → dW K o s j L = none := by
  intro s
  induction s with
  | nil => intro L h2; exact absurd h2 (by decide)
  | cons z s ih =>
    intro L h2
    obtain ⟨a, r, v⟩ := z
    have h2 : 2 ≤ zs s + (if a = 0 then 1 else 0) := h2
    cases s with
    | nil =>
      exfalso
      have : zs ([] : gH) = 0 := rfl
      rw [this] at h2
      split at h2 <;> omega
    | cons y s =>
      by_cases c : a = 0
      · subst c
        rw [dW_par h, if_neg hn]
      · rw [if_neg c] at h2
        rw [dW_pop c (by omega)]
        exact ih h2
section KSF
variable {G : kG} {q : kP} {d : Nat} {x x0 y z : gd} {F : Int32 → gd → Prop} {Fv : gd → Prop} {X : String → gd → Prop} {P : Option gv → gd → Prop} {m : Int}
theorem kf_hold (hq : kV q) (p s t : Int32) (hH : HI x) (hp : ¬ p = 2 ∧ ¬ p = 6) (hs : 0 ≤ s.toInt) (h1 : (x.1 100 17).toInt + 1 ≤ t.toInt) (h2 : t.toInt ≤ 18) (h3 : ∀ i : Nat, (i : Int) < (x.1 100 17).toInt → (x.1 117 i).toInt ≤ t.toInt) (h : ∀ y, fm (fun c k => (c = 100 ∧ k = 17) ∨ (115 ≤ c ∧ c ≤ 117)) x y → HI y → hz y = hz x + (if s = 0 then 1 else 0) → (y.1 100 17).toInt = (x.1 100 17).toInt + 1 → y.1 116 (x.1 100 17).toNatClampNeg = s → y.1 117 (x.1 100 17).toNatClampNeg = t → (∀ k, k < (x.1 100 17).toNatClampNeg → y.1 116 k = x.1 116 k ∧ y.1 117 k = x.1 117 k) → y.1 115 (x.1 100 17).toNatClampNeg = p → (∀ k, k < (x.1 100 17).toNatClampNeg → y.1 115 k = x.1 115 k) → Fv y) : KT G q d zk_X7_hold 0 [(0, vr 100), (1, vi p), (2, vi s), (3, vi t)] [] x (rv Fv) := by
  obtain ⟨⟨a0, a1⟩, a2, a3⟩ := hH
  have k20 : (20 : Int32).toInt = 20 := rfl
  have eN : ((x.1 100 17).toNatClampNeg : Int) = (x.1 100 17).toInt := by rw [t_cl]; omega
  have vin : vp_in (x.1 100 17) 20 := by rw [vp_in_iff]; omega
  refine kg_X7_hold_0 hq _ _ _ ⟨fun c => ?_, fun c => ⟨vin, fun x3 e3 => ?_⟩⟩
  · exfalso; rw [t_le, k20] at c; omega
  have f3 : x3.1 100 17 = x.1 100 17 := by rw [e3]; (simp only [si_get, sfl_get, Nat.reduceEqDiff, eq_self, and_false, false_and, and_true, true_and, if_true, if_false, reduceIte, reduceCtorEq])
  refine ⟨by rw [f3]; exact vin, fun x5 e5 => ?_⟩
  rw [f3] at e5
  have f5 : x5.1 100 17 = x.1 100 17 := by rw [e5, ← f3]; (simp only [si_get, sfl_get, Nat.reduceEqDiff, eq_self, and_false, false_and, and_true, true_and, if_true, if_false, reduceIte, reduceCtorEq])
  refine ⟨by rw [f5]; exact vin, fun x7 e7 y ey => rv_i (h y ?_ ?_ ?_ ?_ ?_ ?_ ?_ ?_ ?_)⟩
  · rw [ey, e7, e5, e3]
    exact fm_si (fm_si (fm_si (fm_si (fm_rf _ _) (Or.inr (by omega))) (Or.inr (by omega))) (Or.inr (by omega))) (Or.inl ⟨rfl, rfl⟩)
  all_goals
    rw [f5] at e7
    have f7 : x7.1 100 17 = x.1 100 17 := by rw [e7, ← f5]; (simp only [si_get, sfl_get, Nat.reduceEqDiff, eq_self, and_false, false_and, and_true, true_and, if_true, if_false, reduceIte, reduceCtorEq])
    rw [f7] at ey
    have fy : y.1 100 17 = x.1 100 17 + 1 := by rw [ey]; (simp only [si_get, sfl_get, Nat.reduceEqDiff, eq_self, and_false, false_and, and_true, true_and, if_true, if_false, reduceIte, reduceCtorEq])
    have ty : (y.1 100 17).toInt = (x.1 100 17).toInt + 1 := by rw [fy, t_add (by show _ ≤ _ + (1 : Int); omega) (by show _ + (1 : Int) ≤ _; omega)]; rfl
    have g : ∀ c k, 115 ≤ c → c ≤ 117 → k ≠ (x.1 100 17).toNatClampNeg → y.1 c k = x.1 c k := by
      intro c k c1 c2 hk
      rw [ey, e7, e5, e3, si_get, if_neg (by omega), si_get, if_neg (fun q => hk q.2), si_get, if_neg (fun q => hk q.2), si_get, if_neg (fun q => hk q.2)]
    have g5 : y.1 115 (x.1 100 17).toNatClampNeg = p := by rw [ey, e7, e5, e3]; (simp only [si_get, sfl_get, Nat.reduceEqDiff, eq_self, and_false, false_and, and_true, true_and, if_true, if_false, reduceIte, reduceCtorEq])
    have g6 : y.1 116 (x.1 100 17).toNatClampNeg = s := by rw [ey, e7, e5, e3]; (simp only [si_get, sfl_get, Nat.reduceEqDiff, eq_self, and_false, false_and, and_true, true_and, if_true, if_false, reduceIte, reduceCtorEq])
    have g7 : y.1 117 (x.1 100 17).toNatClampNeg = t := by rw [ey, e7, e5, e3]; (simp only [si_get, sfl_get, Nat.reduceEqDiff, eq_self, and_false, false_and, and_true, true_and, if_true, if_false, reduceIte, reduceCtorEq])
  · refine ⟨by omega, fun i hi => ?_, fun i j hij hj => ?_⟩
    · by_cases hi2 : i = (x.1 100 17).toNatClampNeg
      · subst hi2
        rw [g5, g6, g7]
        exact ⟨hp, hs, by omega, h2⟩
      · rw [g 115 i (by omega) (by omega) hi2, g 116 i (by omega) (by omega) hi2, g 117 i (by omega) (by omega) hi2]
        exact a2 i (by omega)
    · by_cases hj2 : j = (x.1 100 17).toNatClampNeg
      · by_cases hi2 : i = (x.1 100 17).toNatClampNeg
        · rw [hi2, hj2]; exact Int.le_refl _
        · rw [hj2, g7, g 117 i (by omega) (by omega) hi2]; exact h3 i (by omega)
      · rw [g 117 i (by omega) (by omega) (by omega), g 117 j (by omega) (by omega) hj2]; exact a3 i j hij (by omega)
  · unfold hz
    have : (y.1 100 17).toNatClampNeg = (x.1 100 17).toNatClampNeg + 1 := by
      have : ((y.1 100 17).toNatClampNeg : Int) = (y.1 100 17).toInt := by rw [t_cl]; omega
      omega
    rw [this]
    show zc y _ + (if y.1 116 _ = 0 then 1 else 0) = _
    rw [g6, zc_eq (z := y) (y := x) _ (fun i hi => g 116 i (by omega) (by omega) (by omega))]
  · exact ty
  · exact g6
  · exact g7
  · exact fun k hk => ⟨g 116 k (by omega) (by omega) (by omega), g 117 k (by omega) (by omega) (by omega)⟩
  · exact g5
  · exact fun k hk => g 115 k (by omega) (by omega) (by omega)
theorem kf_beginsSum (hq : kV q) (s : Int32) (o : Bool) (ho : o = true ↔ x.1 100 5 = 0) (h : ∀ r : Int32, (¬ r = 0 ↔ s = 3 ∨ s = 2 ∨ s = 21 ∨ s = 59 ∨ s = 18 ∨ (s = 62 ∧ o = false)) → F r x) : KT G q d zk_X7_beginsSum 0 [(0, vr 100), (1, vi s)] [] x (ri F) := by
  have yes : ∀ r : Int32, r = 1 → (s = 3 ∨ s = 2 ∨ s = 21 ∨ s = 59 ∨ s = 18 ∨ (s = 62 ∧ o = false)) → F r x := fun r e c => h r ⟨fun _ => c, fun _ => by rw [e]; decide⟩
  refine kg_X7_beginsSum_0 hq _ ⟨fun c => ri_i (yes _ rfl (Or.inl c)), fun n1 => ⟨fun c => ri_i (yes _ rfl (Or.inr (Or.inl c))), fun n2 => ⟨fun c => ri_i (yes _ rfl (Or.inr (Or.inr (Or.inl c)))), fun n3 => ⟨fun c => ri_i (yes _ rfl (Or.inr (Or.inr (Or.inr (Or.inl c))))), fun n4 => ⟨fun c => ri_i (yes _ rfl (Or.inr (Or.inr (Or.inr (Or.inr (Or.inl c)))))), fun n5 => ⟨fun n6 => ri_i (h _ ⟨fun z => absurd rfl z, fun z => ?_⟩), fun c => ⟨fun c5 => ri_i (h _ ⟨fun z => absurd rfl z, fun z => ?_⟩), fun c5 => ri_i (yes _ rfl (Or.inr (Or.inr (Or.inr (Or.inr (Or.inr ⟨c, ?_⟩))))))⟩⟩⟩⟩⟩⟩⟩
  · rcases z with z | z | z | z | z | z
    · exact absurd z n1
    · exact absurd z n2
    · exact absurd z n3
    · exact absurd z n4
    · exact absurd z n5
    · exact absurd z.1 n6
  · rcases z with z | z | z | z | z | z
    · exact absurd z n1
    · exact absurd z n2
    · exact absurd z n3
    · exact absurd z n4
    · exact absurd z n5
    · have := ho.mpr c5
      rw [z.2] at this
      exact absurd this (by decide)
  · cases o with
    | false => rfl
    | true => exact absurd (ho.mp rfl) c5
theorem kf_strengthOf (hq : kV q) (s k : Int32) (hk : kc s = k) (h : ∀ r : Int32, r.toInt = (pst k : Nat) → (¬ r = 0 → (1 ≤ r.toInt ∧ r.toInt ≤ 5) ∧ ¬ s = 2 ∧ ¬ s = 6 ∧ ¬ s = 0) → F r x) : KT G q d zk_X7_strengthOf 0 [(0, vi s)] [] x (ri F) := by
  refine kg_X7_strengthOf_0 hq _ ⟨fun c => ri_i (h _ ?_ (fun _ => ⟨by decide, ?_⟩)), fun c => ri_i (h _ ?_ (fun _ => ⟨by decide, ?_⟩)), fun c => ri_i (h _ ?_ (fun _ => ⟨by decide, ?_⟩)), fun c => ri_i (h _ ?_ (fun _ => ⟨by decide, ?_⟩)), fun c => ri_i (h _ ?_ (fun _ => ⟨by decide, ?_⟩)), fun c => ri_i (h _ ?_ (fun q => absurd rfl q))⟩
  · rw [← hk, c]; decide
  · rw [c]; decide
  · rw [← hk, c]; decide
  · rw [c]; decide
  · rcases c with e | e | e | e | e | e <;> rw [← hk, e] <;> decide
  · rcases c with e | e | e | e | e | e <;> rw [e] <;> decide
  · rcases c with e | e <;> rw [← hk, e] <;> decide
  · rcases c with e | e <;> rw [e] <;> decide
  · rcases c with e | e | e <;> rw [← hk, e] <;> decide
  · rcases c with e | e | e <;> rw [e] <;> decide
  · have kn : ∀ w ∈ [(60 : Int32), 42, 11, 12, 13, 14, 15, 16, 17, 18, 19, 20, 58], ¬ kc w = -1 := by decide
    have no : ∀ w ∈ [(60 : Int32), 42, 11, 12, 13, 14, 15, 16, 17, 18, 19, 20, 58], ¬ k = kc w := fun w hw e => c w hw (kc_i (hk.trans e) (kn w hw))
    have : pst k = 0 := pst_c (fun w hw => by
      rcases (by simpa using hw : w = 30 ∨ w = 12 ∨ w = 51 ∨ w = 52 ∨ w = 53 ∨ w = 54 ∨ w = 55 ∨ w = 56 ∨ w = 57 ∨ w = 58 ∨ w = 59 ∨ w = 60 ∨ w = 28) with e | e | e | e | e | e | e | e | e | e | e | e | e <;> rw [e]
      · exact no 60 (by decide)
      · exact no 42 (by decide)
      · exact no 11 (by decide)
      · exact no 12 (by decide)
      · exact no 13 (by decide)
      · exact no 14 (by decide)
      · exact no 15 (by decide)
      · exact no 16 (by decide)
      · exact no 17 (by decide)
      · exact no 18 (by decide)
      · exact no 19 (by decide)
      · exact no 20 (by decide)
      · exact no 58 (by decide))
    rw [this]
    decide
theorem kf_release (hq : kV q) (s : Int32) (hs : 1 ≤ s.toInt) (hs5 : s.toInt ≤ 5) (K : Nat → Int32) (o : Bool) (j : Nat) (st : gH) (L : gU) (hst : HD x (x.1 100 17).toNatClampNeg st) (hhp : HP K x (x.1 100 17).toNatClampNeg st) (hj : (pst (K j) : Int) ≤ s.toInt) (h2 : 1 ≤ hz x) (hS : SU x) (hH : HI x) (h : ∀ y, fm (fun c k => (c = 100 ∧ k = 17) ∨ (c = 60 ∧ k = 3) ∨ c = 62 ∨ c = 63) x y → SU y → HI y → hz y = hz x → (y.1 100 17).toInt ≤ (x.1 100 17).toInt → ((y.1 100 17).toInt = 0 ∨ (y.1 116 ((y.1 100 17).toInt.toNat - 1)).toInt < s.toInt) → (∀ k, y.1 116 k = x.1 116 k ∧ y.1 117 k = x.1 117 k) → ∀ a r v s' M, HD y (y.1 100 17).toNatClampNeg ((a, r, v) :: s') → (a : Int) < s.toInt → opE M → dW K o st j L = dW K o ((a, r, v) :: s') j (L ++ M) → HP K y (y.1 100 17).toNatClampNeg ((a, r, v) :: s') → CPl x y (oPs K M) → (∀ k, y.1 115 k = x.1 115 k) → Fv y) : KT G q (d + 1) zk_X7_release 0 [(0, vr 100), (1, vi s)] [] x (rv Fv) := by
  have k0 : (0 : Int32).toInt = 0 := rfl
  have k20 : (20 : Int32).toInt = 20 := rfl
  have loop : ∀ (n : Nat) (k : Int32) (y : gd) (sy : gH) (M : gU), HD y (y.1 100 17).toNatClampNeg sy → opE M → dW K o st j L = dW K o sy j (L ++ M) → HP K y (y.1 100 17).toNatClampNeg sy → CPl x y (oPs K M) → (∀ k, y.1 115 k = x.1 115 k) → (∀ k, y.1 116 k = x.1 116 k ∧ y.1 117 k = x.1 117 k) → fm (fun c k => (c = 100 ∧ k = 17) ∨ (c = 60 ∧ k = 3) ∨ c = 62 ∨ c = 63) x y → SU y → HI y → hz y = hz x → (y.1 100 17).toInt ≤ (x.1 100 17).toInt → (y.1 100 17).toInt ≤ n → 0 ≤ k.toInt → k.toInt + (y.1 100 17).toInt ≤ 18 → KT G q (d + 1) zk_X7_release 2 [(0, vr 100), (1, vi s), (2, vi k)] [] y (rv Fv) := by
    intro n
    induction n with
    | zero =>
      intro k y sy M hHD hM hdW hHP hCP h115 hsa hf hSy hHy hzy hle hn k0' kk
      have a0 := hHy.1.1
      refine kg_X7_release_2 hq _ _ ⟨fun c => ?_, fun c => ⟨fun c2 => ?_, fun c2 => ?_⟩⟩
      · exfalso; rw [t_le, k20] at c; omega
      · exfalso
        have e0 : (y.1 100 17).toNatClampNeg = 0 := by rw [t_cl]; omega
        unfold hz at hzy
        rw [e0] at hzy
        have : zc y 0 = 0 := rfl
        unfold hz at h2
        omega
      · exfalso; rw [t_le, k0] at c2; omega
    | succ n ih =>
      intro k y sy M hHD hM hdW hHP hCP h115 hsa hf hSy hHy hzy hle hn k0' kk
      obtain ⟨⟨a0, a1⟩, a2, a3⟩ := id hHy
      refine kg_X7_release_2 hq _ _ ⟨fun c => ?_, fun c => ⟨fun c2 => ?_, fun c2 => ?_⟩⟩
      · exfalso; rw [t_le, k20] at c; omega
      · exfalso
        rw [t_le, k0] at c2
        have e0 : (y.1 100 17).toNatClampNeg = 0 := by rw [t_cl]; omega
        unfold hz at hzy
        rw [e0] at hzy
        have : zc y 0 = 0 := rfl
        unfold hz at h2
        omega
      rw [t_le, k0] at c2
      have n9 : (y.1 100 17).toNatClampNeg = ((y.1 100 17).toInt.toNat - 1) + 1 := by rw [t_cl]; omega
      have hHD9 := hHD
      rw [n9] at hHD9
      obtain ⟨a, r, v, s', es, w1, w2, w3, w4, w5⟩ := hHD9
      have e1 : (y.1 100 17 - 1).toInt = (y.1 100 17).toInt - 1 := t_sub (by show _ ≤ _ - (1 : Int); omega) (by show _ - (1 : Int) ≤ _; omega)
      have e2 : (y.1 100 17 - 1).toNatClampNeg = (y.1 100 17).toInt.toNat - 1 := by rw [t_cl, e1]; omega
      refine ⟨by rw [vp_in_iff]; omega, fun c3 => rv_i (h y hf hSy hHy hzy hle (Or.inr ?_) hsa a r v s' M (by rw [← es]; exact hHD) ?_ hM (by rw [← es]; exact hdW) (by rw [← es]; exact hHP) hCP h115), fun c3 x5 e5 => ?_⟩
      · rw [t_lt, e2] at c3; exact c3
      · rw [t_lt, e2] at c3; omega
      rw [t_lt, e2] at c3
      have f5 : x5.1 100 17 = y.1 100 17 - 1 := by rw [e5]; (simp only [si_get, sfl_get, Nat.reduceEqDiff, eq_self, and_false, false_and, and_true, true_and, if_true, if_false, reduceIte, reduceCtorEq])
      have i5 : (x5.1 100 17).toInt = (y.1 100 17).toInt - 1 := by rw [f5]; exact e1
      have m5 : fm (fun c k => c = 100 ∧ k = 17) y x5 := by rw [e5]; exact fm_si (fm_rf _ _) ⟨rfl, rfl⟩
      have la5 : La y x5 := ⟨fun c k q1 q2 => m5 c k (by omega), by unfold nx; rw [m5 100 4 (by omega)]; exact Int.le_refl _, fun j _ => m5 42 j (by omega)⟩
      have H5 : HI x5 := by
        refine ⟨by omega, fun i hi => ?_, fun i j hij hj => ?_⟩
        · rw [m5 115 i (by omega), m5 116 i (by omega), m5 117 i (by omega)]; exact a2 i (by omega)
        · rw [m5 117 i (by omega), m5 117 j (by omega)]; exact a3 i j hij (by omega)
      have S5 : SU x5 := by
        obtain ⟨⟨hT, b1, b2, b3⟩, ⟨u1, u2⟩, hp, hP⟩ := hSy
        have q4 : x5.1 100 4 = y.1 100 4 := m5 _ _ (by omega)
        have q7 : x5.1 20 7 = y.1 20 7 := m5 _ _ (by omega)
        have q3 : x5.1 60 3 = y.1 60 3 := m5 _ _ (by omega)
        unfold SU SV US RB nx mt
        rw [q4, q7, q3]
        refine ⟨⟨kT_fm hT la5.1, b1, b2, b3⟩, ⟨fun j h1 h2 => ?_, fun j h1 h2 => ?_⟩, hp, fun i hi => La_PQ la5 (m5 _ _ (by omega)) (m5 _ _ (by omega)) (hP i hi)⟩
        · rw [m5 42 j (by omega)]; exact u1 j h1 h2
        · rw [m5 42 j (by omega)] at h2; rw [m5 42 _ (by omega)]; exact u2 j h1 h2
      have z5 : hz x5 = hz y := by
        unfold hz
        have n5 : (y.1 100 17).toNatClampNeg = (x5.1 100 17).toNatClampNeg + 1 := by rw [t_cl, t_cl]; omega
        have n6 : (x5.1 100 17).toNatClampNeg = (y.1 100 17).toInt.toNat - 1 := by rw [t_cl]; omega
        rw [n5]
        show _ = zc y _ + (if y.1 116 _ = 0 then 1 else 0)
        rw [n6, if_neg (fun q => by rw [q] at c3; rw [k0] at c3; omega), zc_eq (z := x5) (y := y) _ (fun i _ => m5 116 i (by omega))]
        rfl
      have v5 : vp_in (x5.1 100 17) 20 := by rw [vp_in_iff]; omega
      have e6 : (k + 1).toInt = k.toInt + 1 := t_add (by show _ ≤ _ + (1 : Int); omega) (by show _ + (1 : Int) ≤ _; omega)
      have h5 := a2 ((y.1 100 17).toInt.toNat - 1) (by omega)
      have n6 : (x5.1 100 17).toNatClampNeg = (y.1 100 17).toInt.toNat - 1 := by rw [t_cl]; omega
      have a0' : ¬ a = 0 := by omega
      have x53 : x5.1 60 3 = y.1 60 3 := m5 60 3 (by omega)
      refine ⟨v5, kf_addPart hq _ _ S5.2.2.1 (fun z hz9 hcz => ?_)⟩
      rw [n6, m5 115 _ (by omega)] at hz9 hcz
      have hv9 : y.1 115 ((y.1 100 17).toInt.toNat - 1) = oP K v := by
        have hq9 := hHP
        rw [n9, es] at hq9
        exact hq9.1 a0'
      have S6 : SU z := AP_SU S5 hz9 (fun c => absurd c h5.1.1) h5.1.2
      obtain ⟨H6, z6⟩ := HI_eq (z := z) H5 (hz9.1 _ _ (by omega)) (fun c k q1 q2 => hz9.1 c k (by omega))
      have w6 : z.1 100 17 = x5.1 100 17 := hz9.1 _ _ (by omega)
      have a0 : ¬ a = 0 := by omega
      have sz : zs s' = hz y := by
        unfold hz
        rw [HD_zs hHD, es]
        show zs s' = zs s' + (if a = 0 then 1 else 0)
        rw [if_neg a0]; rfl
      obtain ⟨y1, s1, es1⟩ : ∃ y1 s1, s' = y1 :: s1 := by
        cases s' with
        | nil => rw [hzy] at sz; exact absurd (show hz x = 0 from sz.symm) (by omega)
        | cons y1 s1 => exact ⟨y1, s1, rfl⟩
      have dp : dW K o st j L = dW K o s' j (L ++ (M ++ [v])) := by
        rw [hdW, es, es1, dW_pop a0 (by omega), List.append_assoc]
      have nz : (z.1 100 17).toNatClampNeg = (y.1 100 17).toInt.toNat - 1 := by rw [w6]; exact n6
      have sz9 : ∀ k, z.1 116 k = y.1 116 k ∧ z.1 117 k = y.1 117 k := fun k => ⟨by rw [hz9.1 _ _ (by omega), m5 _ _ (by omega)], by rw [hz9.1 _ _ (by omega), m5 _ _ (by omega)]⟩
      have z115 : ∀ k, z.1 115 k = y.1 115 k := fun k => by rw [hz9.1 _ _ (by omega), m5 _ _ (by omega)]
      have hHPz : HP K z (z.1 100 17).toNatClampNeg s' := by
        rw [nz]
        have hq9 := hHP
        rw [n9, es] at hq9
        exact HP_eq (fun k _ => z115 k) hq9.2
      have hCPz : CPl x z (oPs K (M ++ [v])) := by
        rw [oPs_app]
        refine CPl_app (CPl_st hCP x53 (fun k => ⟨m5 62 k (by omega), m5 63 k (by omega)⟩)) ?_
        rw [hv9] at hcz
        exact hcz
      refine ih _ z s' (M ++ [v]) (by rw [nz]; exact HD_eq (fun k _ => sz9 k) w5) (opE_app hM (opE_one w4)) dp hHPz hCPz (fun k => (z115 k).trans (h115 k)) (fun k => ⟨(sz9 k).1.trans (hsa k).1, (sz9 k).2.trans (hsa k).2⟩) (fm_tr (fm_tr hf (fm_w m5 (fun c k q => Or.inl q))) (fm_w hz9.1 (fun c k q => by omega))) S6 H6 (by rw [z6, z5, hzy]) ?_ ?_ ?_ ?_ <;> (try rw [w6]) <;> omega
  exact kg_X7_release_0 hq _ (loop 18 _ x st [] hst opE_nil (by rw [List.append_nil]) hhp CPl_rf (fun _ => rfl) (fun k => ⟨rfl, rfl⟩) (fm_rf _ _) hS hH rfl (Int.le_refl _) hH.1.2 (by decide) (by rw [k0]; have := hH.1.2; omega))
end KSF
