/-! the class: the cut text, names -/
/-- n tokens are well -/
def kTw (x : gd) (n : Nat) : Prop := ∀ j, j < n → (0 ≤ (x.1 24 j).toInt ∧ 0 ≤ (x.1 26 j).toInt ∧ (x.1 24 j).toInt + (x.1 26 j).toInt ≤ 3000) ∧ ¬ x.1 23 j = 0 ∧ (x.1 23 j = 3 → 0 ≤ (x.1 27 j).toInt)
def kT (x : gd) : Prop := kL x ∧ ∃ n : Nat, (x.1 20 7).toInt = n ∧ n ≤ 701 ∧ kTw x n ∧ x.1 23 n = 0
/-- a token of the text -/
def tk (x : gd) (a : Int32) : Prop := 0 ≤ a.toInt ∧ a.toInt < (x.1 20 7).toInt
/-- what cutting changes -/
def skC (c k : Nat) : Prop := (23 ≤ c ∧ c ≤ 27) ∨ (c = 20 ∧ 7 ≤ k)
section KNM
variable {G : kG} {q : kP} {d : Nat} {x : gd} {F : Int32 → gd → Prop} {Fv : gd → Prop}
theorem kp_cut (hq : kV q) (hl : kL x) (h : ∀ x', fm skC x x' → kT x' → Fv x') : KT G q (d + 10) zk_X9_cut 0 [(0, vr 20)] [] x (rv Fv) := by
  have fin : ∀ (n : Nat) (y : gd), fm skC x y → (y.1 20 7).toInt = n → n ≤ 701 → kTw y n → KT G q (d + 10) zk_X9_cut 122 [(0, vr 20)] [] y (rv Fv) := by
    intro n y hf en hn hw
    have em : (y.1 20 7).toNatClampNeg = n := by rw [t_cl, en]; rfl
    have vin : vp_in (y.1 20 7) 702 := by rw [vp_in_iff]; omega
    refine kg_X9_cut_122 hq ⟨vin, fun x2 e2 => ?_⟩
    rw [em] at e2
    have m2 : x2.1 20 7 = y.1 20 7 := by rw [e2]; (simp only [si_get, sfl_get, Nat.reduceEqDiff, eq_self, and_false, false_and, and_true, true_and, if_true, if_false, reduceIte, reduceCtorEq])
    refine ⟨by rw [m2]; exact vin, fun x4 e4 => ?_⟩
    rw [m2, em] at e4
    have m4 : x4.1 20 7 = y.1 20 7 := by rw [e4, ← m2]; (simp only [si_get, sfl_get, Nat.reduceEqDiff, eq_self, and_false, false_and, and_true, true_and, if_true, if_false, reduceIte, reduceCtorEq])
    refine ⟨by rw [m4]; exact vin, fun x6 e6 => rv_i (h x6 ?_ ?_)⟩
    · rw [e6, e4, e2]
      exact fm_si (fm_si (fm_si hf (Or.inl (by omega))) (Or.inl (by omega))) (Or.inl (by omega))
    rw [m4, em] at e6
    have m6 : x6.1 20 7 = y.1 20 7 := by rw [e6, ← m4]; (simp only [si_get, sfl_get, Nat.reduceEqDiff, eq_self, and_false, false_and, and_true, true_and, if_true, if_false, reduceIte, reduceCtorEq])
    have g : ∀ c j, 23 ≤ c → c ≤ 27 → j ≠ n → x6.1 c j = y.1 c j := by
      intro c j c1 c2 hj
      rw [e6, si_get, if_neg (fun q => hj q.2), e4, si_get, if_neg (fun q => hj q.2), e2, si_get, if_neg (fun q => hj q.2)]
    refine ⟨?_, n, by rw [m6]; exact en, hn, fun j hj => ?_, ?_⟩
    · unfold kL
      have : x6.1 20 1 = x.1 20 1 := by rw [e6, e4, e2]; (simp only [si_get, sfl_get, Nat.reduceEqDiff, eq_self, and_false, false_and, and_true, true_and, if_true, if_false, reduceIte, reduceCtorEq]); exact hf _ _ (by unfold skC; omega)
      rw [this]; exact hl
    · rw [g 24 j (by omega) (by omega) (by omega), g 26 j (by omega) (by omega) (by omega), g 23 j (by omega) (by omega) (by omega), g 27 j (by omega) (by omega) (by omega)]
      exact hw j hj
    · rw [e6, e4, e2]; (simp only [si_get, sfl_get, Nat.reduceEqDiff, eq_self, and_false, false_and, and_true, true_and, if_true, if_false, reduceIte, reduceCtorEq])
  have loop : ∀ (m n : Nat) (l1 l2 : Int32) (y : gd), n + m = 701 → l2.toInt = n → fm skC x y → (y.1 20 7).toInt = n → kTw y n → 0 ≤ (y.1 20 8).toInt → (y.1 20 8).toInt ≤ (x.1 20 1).toInt → KT G q (d + 10) zk_X9_cut 19 [(0, vr 20), (1, vi l1), (2, vi l2)] [] y (rv Fv) := by
    intro m
    induction m with
    | zero =>
      intro n l1 l2 y hn el hf en hw a0 a1
      refine kg_X9_cut_19 hq _ _ ⟨fun _ => fin n y hf en (by omega) hw, fun c => ?_⟩
      exfalso; clear h fin hf hw; ((try simp only [t_lt, t_le, t_eq, t_cl, tm1, vp_in_iff, Int32.toInt_add, Int32.toInt_sub, Int32.toInt_mul, Int32.reduceToInt, Nat.reducePow] at *) <;> (try simp (disch := omega) only [bm] at *) <;> omega)
    | succ m ih =>
      intro n l1 l2 y hn el hf en hw a0 a1
      have ely : y.1 20 1 = x.1 20 1 := hf _ _ (by unfold skC; omega)
      have hly : kL y := by unfold kL; rw [ely]; exact hl
      refine kg_X9_cut_19 hq _ _ ⟨fun _ => fin n y hf en (by omega) hw, fun c => ⟨fun _ => fin n y hf en (by omega) hw, fun _ => ?_⟩⟩
      have e1 : (l2 + 1).toInt = ((n + 1 : Nat) : Int) := by clear h fin hf hw ih c; ((try simp only [t_lt, t_le, t_eq, t_cl, tm1, vp_in_iff, Int32.toInt_add, Int32.toInt_sub, Int32.toInt_mul, Int32.reduceToInt, Nat.reducePow] at *) <;> (try simp (disch := omega) only [bm] at *) <;> omega)
      refine kp_skip hq hly a0 (by rw [ely]; exact a1) (fun x3 f3 b1 b2 => ?_)
      have m3 : x3.1 20 7 = y.1 20 7 := f3 _ _ (by omega)
      have l3 : x3.1 20 1 = x.1 20 1 := by rw [f3 _ _ (by omega), ely]
      have hf3 : fm skC x x3 := fm_tr hf (fm_w f3 (fun c k q => Or.inr ⟨q.1, by omega⟩))
      have em : (x3.1 20 7).toNatClampNeg = n := by rw [m3, t_cl, en]; rfl
      have w3 : kTw x3 n := fun j hj => by rw [f3 24 j (by omega), f3 26 j (by omega), f3 23 j (by omega), f3 27 j (by omega)]; exact hw j hj
      refine ⟨fun c3 => ?_, fun _ => fin n x3 hf3 (by rw [m3]; exact en) (by omega) w3⟩
      have vin : vp_in (x3.1 20 7) 702 := by rw [m3, vp_in_iff]; omega
      refine ⟨vin, fun x6 e6 => ?_⟩
      have m6 : x6.1 20 7 = x3.1 20 7 := by rw [e6]; (simp only [si_get, sfl_get, Nat.reduceEqDiff, eq_self, and_false, false_and, and_true, true_and, if_true, if_false, reduceIte, reduceCtorEq])
      refine ⟨by rw [m6]; exact vin, fun x8 e8 => ?_⟩
      have m8 : x8.1 20 7 = x3.1 20 7 := by rw [e8, ← m6]; (simp only [si_get, sfl_get, Nat.reduceEqDiff, eq_self, and_false, false_and, and_true, true_and, if_true, if_false, reduceIte, reduceCtorEq])
      have a8 : x8.1 20 8 = x3.1 20 8 := by rw [e8, e6]; (simp only [si_get, sfl_get, Nat.reduceEqDiff, eq_self, and_false, false_and, and_true, true_and, if_true, if_false, reduceIte, reduceCtorEq])
      have l8 : x8.1 20 1 = x.1 20 1 := by rw [e8, e6, ← l3]; (simp only [si_get, sfl_get, Nat.reduceEqDiff, eq_self, and_false, false_and, and_true, true_and, if_true, if_false, reduceIte, reduceCtorEq])
      rw [em] at e6
      rw [m6, em] at e8
      have hl8 : kL x8 := by unfold kL; rw [l8]; exact hl
      have lt3 : (x3.1 20 8).toInt < (x.1 20 1).toInt := by rw [l3, t_lt] at c3; exact c3
      rw [ely] at b2
      refine kp_cutOne hq hl8 (by rw [m8]; exact vin) (by rw [a8]; omega) (by rw [a8, l8]; exact lt3) (fun r x9 r0 r3 f9 s0 s1 t0 t1 => ?_)
      rw [m8, em] at r3 f9 s0 s1
      rw [a8] at s1 t0
      rw [l8] at t1
      refine ⟨by rw [m8]; exact vin, fun x12 e12 => ?_⟩
      rw [m8, em] at e12
      have m12 : x12.1 20 7 = x3.1 20 7 := by rw [e12, si_cell (by decide), f9 _ _ (by unfold skO; omega), m8]
      have next : ∀ l z, z = si x12 20 7 (x12.1 20 7 + 1) → KT G q (d + 10) zk_X9_cut 19 [(0, vr 20), (1, vi l), (2, vi (l2 + 1))] [] z (rv Fv) := by
        intro l z ez
        have g : ∀ c j, 23 ≤ c → c ≤ 27 → j ≠ n → z.1 c j = y.1 c j := by
          intro c j c1 c2 hj
          rw [ez, si_get, if_neg (by omega), e12, si_get, if_neg (fun q => hj q.2), f9 _ _ (by unfold skO; omega), e8, si_get, if_neg (fun q => hj q.2), e6, si_get, if_neg (fun q => hj q.2), f3 _ _ (by omega)]
        have z24 : z.1 24 n = x3.1 20 8 := by rw [ez, si_get, if_neg (by omega), e12, si_get, if_neg (by omega), f9 _ _ (by unfold skO; omega), e8, e6]; (simp only [si_get, sfl_get, Nat.reduceEqDiff, eq_self, and_false, false_and, and_true, true_and, if_true, if_false, reduceIte, reduceCtorEq])
        have z26 : z.1 26 n = x9.1 26 n := by rw [ez, e12]; (simp only [si_get, sfl_get, Nat.reduceEqDiff, eq_self, and_false, false_and, and_true, true_and, if_true, if_false, reduceIte, reduceCtorEq])
        have z27 : z.1 27 n = x9.1 27 n := by rw [ez, e12]; (simp only [si_get, sfl_get, Nat.reduceEqDiff, eq_self, and_false, false_and, and_true, true_and, if_true, if_false, reduceIte, reduceCtorEq])
        have z23 : z.1 23 n = r := by rw [ez, e12]; (simp only [si_get, sfl_get, Nat.reduceEqDiff, eq_self, and_false, false_and, and_true, true_and, if_true, if_false, reduceIte, reduceCtorEq])
        have z8 : z.1 20 8 = x9.1 20 8 := by rw [ez, e12]; (simp only [si_get, sfl_get, Nat.reduceEqDiff, eq_self, and_false, false_and, and_true, true_and, if_true, if_false, reduceIte, reduceCtorEq])
        refine ih (n + 1) l (l2 + 1) z (by omega) e1 ?_ ?_ ?_ ?_ ?_
        · have f6 : fm skC x x8 := by rw [e8, e6]; exact fm_si (fm_si hf3 (Or.inl (by omega))) (Or.inl (by omega))
          have f10 : fm skC x x9 := fm_tr f6 (fm_w f9 (fun c k q => by unfold skO at q; unfold skC; omega))
          rw [ez, e12]
          exact fm_si (fm_si f10 (Or.inl (by omega))) (Or.inr ⟨rfl, by omega⟩)
        · have : z.1 20 7 = x12.1 20 7 + 1 := by rw [ez]; (simp only [si_get, sfl_get, Nat.reduceEqDiff, eq_self, and_false, false_and, and_true, true_and, if_true, if_false, reduceIte, reduceCtorEq])
          have g2 : (y.1 20 7 + 1).toInt = ((n + 1 : Nat) : Int) := by
            rw [t_add (by show _ ≤ _ + (1 : Int); omega) (by show _ + (1 : Int) ≤ _; omega), en]; rfl
          rw [this, m12, m3, g2]
        · intro j hj
          by_cases hjn : j = n
          · subst hjn
            rw [z24, z26, z23, z27]
            exact ⟨⟨by omega, s0, by omega⟩, r0, r3⟩
          · rw [g 24 j (by omega) (by omega) hjn, g 26 j (by omega) (by omega) hjn, g 23 j (by omega) (by omega) hjn, g 27 j (by omega) (by omega) hjn]
            exact hw j (by omega)
        · rw [z8]; omega
        · rw [z8]; exact t1
      exact ⟨by rw [m12]; exact vin, fun _ z ez => next _ z ez, fun _ z ez => next _ z ez⟩
  refine kg_X9_cut_0 hq (fun x1 e1 x2 e2 x3 e3 => loop 701 0 _ _ x3 rfl rfl ?_ ?_ ?_ ?_ ?_)
  · rw [e3, e2, e1]; exact fm_si (fm_si (fm_si (fm_rf _ _) (Or.inr ⟨rfl, by omega⟩)) (Or.inr ⟨rfl, by omega⟩)) (Or.inr ⟨rfl, by omega⟩)
  · rw [e3]; (simp only [si_get, sfl_get, Nat.reduceEqDiff, eq_self, and_false, false_and, and_true, true_and, if_true, if_false, reduceIte, reduceCtorEq]); rfl
  · intro j hj; omega
  · have : x3.1 20 8 = 0 := by rw [e3, e2, e1]; (simp only [si_get, sfl_get, Nat.reduceEqDiff, eq_self, and_false, false_and, and_true, true_and, if_true, if_false, reduceIte, reduceCtorEq])
    rw [this]; decide
  · have : x3.1 20 8 = 0 := by rw [e3, e2, e1]; (simp only [si_get, sfl_get, Nat.reduceEqDiff, eq_self, and_false, false_and, and_true, true_and, if_true, if_false, reduceIte, reduceCtorEq])
    rw [this]; exact hl.1
theorem kT_at (hT : kT x) {a : Int32} (ha : tk x a) : vp_in a 702 ∧ (0 ≤ (x.1 24 a.toNatClampNeg).toInt ∧ 0 ≤ (x.1 26 a.toNatClampNeg).toInt ∧ (x.1 24 a.toNatClampNeg).toInt + (x.1 26 a.toNatClampNeg).toInt ≤ 3000) := by
  obtain ⟨hl, n, en, hn, hw, -⟩ := hT
  obtain ⟨h0, h1⟩ := ha
  exact ⟨by rw [vp_in_iff]; omega, (hw _ (by rw [t_cl]; omega)).1⟩
theorem kp_sameName (hq : kV q) (hT : kT x) (a b : Int32) (ha : tk x a) (hb : tk x b) (h : ∀ r, gbool r → F r x) : KT G q d zk_X9_sameName 0 [(0, vr 20), (1, vi a), (2, vi b)] [] x (ri F) := by
  obtain ⟨va, a1, a2, a3⟩ := kT_at hT ha
  obtain ⟨vb, b1, b2, b3⟩ := kT_at hT hb
  have loop : ∀ (n : Nat) (i : Int32), 0 ≤ i.toInt → (x.1 26 a.toNatClampNeg).toInt = (x.1 26 b.toNatClampNeg).toInt → (x.1 26 a.toNatClampNeg).toInt - i.toInt ≤ n → KT G q d zk_X9_sameName 34 [(0, vr 20), (1, vi a), (2, vi b), (3, vi i)] [] x (ri F) := by
    intro n
    induction n with
    | zero =>
      intro i i0 hs hn
      refine kg_X9_sameName_34 hq _ _ _ ⟨va, fun _ => ri_i (h _ gbool_1), fun c => ?_⟩
      exfalso; rw [t_le] at c; omega
    | succ n ih =>
      intro i i0 hs hn
      refine kg_X9_sameName_34 hq _ _ _ ⟨va, fun _ => ri_i (h _ gbool_1), fun c => ?_⟩
      rw [t_le] at c
      have e1 : (i + 1).toInt = i.toInt + 1 := t_add (by show _ ≤ _ + (1 : Int); omega) (by show _ + (1 : Int) ≤ _; omega)
      have e2 := t_add (a := x.1 24 a.toNatClampNeg) (b := i) (by omega) (by omega)
      have e3 := t_add (a := x.1 24 b.toNatClampNeg) (b := i) (by omega) (by omega)
      exact ⟨va, by rw [vp_in_iff]; omega, vb, by rw [vp_in_iff]; omega, fun _ => ih _ (by omega) hs (by omega), fun _ => ri_i (h _ gbool_0)⟩
  exact kg_X9_sameName_0 hq _ _ ⟨va, vb, fun _ => ri_i (h _ gbool_0), fun _ => ⟨va, vb, fun c => loop ((x.1 26 a.toNatClampNeg).toInt).toNat _ (by decide) (by rw [c]) (by show _ - (0 : Int) ≤ _; omega), fun _ => ri_i (h _ gbool_0)⟩⟩
/-- what was told -/
def NM (x : gd) : Prop := (0 ≤ (x.1 40 6).toInt ∧ (x.1 40 6).toInt ≤ 24) ∧ (0 ≤ (x.1 40 8).toInt ∧ (x.1 40 8).toInt ≤ 6) ∧ (0 ≤ (x.1 40 10).toInt ∧ (x.1 40 10).toInt ≤ 6) ∧ (∀ i : Nat, (i : Int) < (x.1 40 6).toInt → tk x (x.1 44 i) ∧ 0 ≤ (x.1 45 i).toInt ∧ 0 ≤ (x.1 46 i).toInt ∧ (x.1 46 i).toInt ≤ 8 ∧ (x.1 45 i).toInt + 1 ≤ (x.1 60 6).toInt ∧ (x.1 45 i).toInt + (x.1 46 i).toInt ≤ (x.1 60 6).toInt) ∧ (∀ i : Nat, (i : Int) < (x.1 40 8).toInt → tk x (x.1 48 i)) ∧ ∀ i : Nat, (i : Int) < (x.1 40 10).toInt → tk x (x.1 50 i)
theorem kp_numberOf (hq : kV q) (hT : kT x) {a1 n1 : Nat} (ka1 : kK a1 = .inr (.int, n1)) (ma1 : a1 ∈ (kf q).2.1) (m t : Int32) (h0 : 0 ≤ m.toInt) (hn : m.toInt ≤ n1) (hk : ∀ i : Nat, (i : Int) < m.toInt → tk x (x.1 a1 i)) (ht : tk x t) (h : ∀ r : Int32, (r = -1 ∨ (0 ≤ r.toInt ∧ r.toInt < m.toInt)) → F r x) : KT G q (d + 1) zk_X6_numberOf 0 [(0, vr 40), (1, vr a1), (2, vi m), (3, vi t)] [] x (ri F) := by
  have loop : ∀ (n : Nat) (i : Int32), 0 ≤ i.toInt → m.toInt - i.toInt ≤ n → KT G q (d + 1) zk_X6_numberOf 3 [(0, vr 40), (1, vr a1), (2, vi m), (3, vi t), (4, vi i)] [] x (ri F) := by
    intro n
    induction n with
    | zero =>
      intro i i0 hn
      refine kg_X6_numberOf_3 hq ka1 ma1 _ _ _ ⟨fun _ => ri_i (h _ (Or.inl rfl)), fun c => ?_⟩
      exfalso; rw [t_le] at c; omega
    | succ n ih =>
      intro i i0 hn
      refine kg_X6_numberOf_3 hq ka1 ma1 _ _ _ ⟨fun _ => ri_i (h _ (Or.inl rfl)), fun c => ?_⟩
      rw [t_le] at c
      have rm := t_rg m
      have e1 : (i + 1).toInt = i.toInt + 1 := t_add (by show _ ≤ _ + (1 : Int); omega) (by show _ + (1 : Int) ≤ _; omega)
      exact ⟨by rw [vp_in_iff]; omega, kp_sameName hq hT _ _ (hk _ (by rw [t_cl]; omega)) ht (fun r _ => ⟨fun _ => ih _ (by omega) (by omega), fun _ => ri_i (h _ (Or.inr ⟨i0, by omega⟩))⟩)⟩
  exact kg_X6_numberOf_0 hq ka1 ma1 _ _ (loop m.toInt.toNat _ (by decide) (by show _ - (0 : Int) ≤ _; omega))
theorem kp_isAmong (hq : kV q) (hT : kT x) {a1 n1 : Nat} (ka1 : kK a1 = .inr (.int, n1)) (ma1 : a1 ∈ (kf q).2.1) (m t : Int32) (h0 : 0 ≤ m.toInt) (hn : m.toInt ≤ n1) (hk : ∀ i : Nat, (i : Int) < m.toInt → tk x (x.1 a1 i)) (ht : tk x t) (h : ∀ r : Int32, F r x) : KT G q (d + 1) zk_X6_isAmong 0 [(0, vr 40), (1, vr a1), (2, vi m), (3, vi t)] [] x (ri F) := by
  have loop : ∀ (n : Nat) (i : Int32), 0 ≤ i.toInt → m.toInt - i.toInt ≤ n → KT G q (d + 1) zk_X6_isAmong 3 [(0, vr 40), (1, vr a1), (2, vi m), (3, vi t), (4, vi i)] [] x (ri F) := by
    intro n
    induction n with
    | zero =>
      intro i i0 hn
      refine kg_X6_isAmong_3 hq ka1 ma1 _ _ _ ⟨fun _ => ri_i (h _), fun c => ?_⟩
      exfalso; rw [t_le] at c; omega
    | succ n ih =>
      intro i i0 hn
      refine kg_X6_isAmong_3 hq ka1 ma1 _ _ _ ⟨fun _ => ri_i (h _), fun c => ?_⟩
      rw [t_le] at c
      have rm := t_rg m
      have e1 : (i + 1).toInt = i.toInt + 1 := t_add (by show _ ≤ _ + (1 : Int); omega) (by show _ + (1 : Int) ≤ _; omega)
      have vin : vp_in i n1 := by rw [vp_in_iff]; omega
      exact ⟨vin, fun _ => ih _ (by omega) (by omega), fun _ => ⟨vin, kp_sameName hq hT _ _ (hk _ (by rw [t_cl]; omega)) ht (fun r _ => ⟨fun _ => ih _ (by omega) (by omega), fun _ => ri_i (h _)⟩)⟩⟩
  exact kg_X6_isAmong_0 hq ka1 ma1 _ _ (loop m.toInt.toNat _ (by decide) (by show _ - (0 : Int) ≤ _; omega))
theorem kp_isToldBefore (hq : kV q) (hT : kT x) (hN : NM x) (t : Int32) (ht : tk x t) (h : ∀ r : Int32, F r x) : KT G q (d + 2) zk_X6_isToldBefore 0 [(0, vr 40), (1, vi t)] [] x (ri F) := by
  obtain ⟨⟨a0, a1⟩, ⟨b0, b1⟩, ⟨c0, c1⟩, hc, hl, hh⟩ := hN
  exact kg_X6_isToldBefore_0 hq _ (kp_isAmong hq hT kk_44 (kl_44 hq) _ _ a0 a1 (fun i hi => (hc i hi).1) ht (fun r => ⟨fun _ => ri_i (h _), fun _ => kp_isAmong hq hT kk_48 (kl_48 hq) _ _ b0 b1 hl ht (fun r => ⟨fun _ => ri_i (h _), fun _ => kp_isAmong hq hT kk_50 (kl_50 hq) _ _ c0 c1 hh ht (fun r => ⟨fun _ => ri_i (h _), fun _ => ri_i (h _)⟩)⟩)⟩))
theorem kp_cellOf (hq : kV q) (hT : kT x) (hN : NM x) (t b : Int32) (ht : tk x t) (h : ∀ r : Int32, (r = -1 ∨ (0 ≤ r.toInt ∧ r.toInt < (x.1 40 6).toInt)) → F r x) : KT G q (d + 1) zk_X6_cellOf 0 [(0, vr 40), (1, vi t), (2, vi b)] [] x (ri F) := by
  obtain ⟨⟨a0, a1⟩, -, -, hc, -⟩ := hN
  have loop : ∀ (n : Nat) (i : Int32), 0 ≤ i.toInt → (x.1 40 6).toInt - i.toInt ≤ n → KT G q (d + 1) zk_X6_cellOf 2 [(0, vr 40), (1, vi t), (2, vi b), (3, vi i)] [] x (ri F) := by
    intro n
    induction n with
    | zero =>
      intro i i0 hn
      refine kg_X6_cellOf_2 hq _ _ _ ⟨fun _ => ri_i (h _ (Or.inl rfl)), fun c => ?_⟩
      exfalso; rw [t_le] at c; omega
    | succ n ih =>
      intro i i0 hn
      refine kg_X6_cellOf_2 hq _ _ _ ⟨fun _ => ri_i (h _ (Or.inl rfl)), fun c => ?_⟩
      rw [t_le] at c
      have e1 : (i + 1).toInt = i.toInt + 1 := t_add (by show _ ≤ _ + (1 : Int); omega) (by show _ + (1 : Int) ≤ _; omega)
      have vin : vp_in i 24 := by rw [vp_in_iff]; omega
      have mid : ∀ s : Int32, KT G q (d + 1) zk_X6_cellOf 24 [(0, vr 40), (1, vi t), (2, vi b), (3, vi i)] [vi s] x (ri F) := fun s => kg_X6_cellOf_24 hq _ _ _ _ ⟨fun _ => ih _ (by omega) (by omega), fun _ => ⟨vin, kp_sameName hq hT _ _ (hc _ (by rw [t_cl]; omega)).1 ht (fun r _ => ⟨fun _ => ih _ (by omega) (by omega), fun _ => ri_i (h _ (Or.inr ⟨i0, by omega⟩))⟩)⟩⟩
      exact ⟨vin, fun _ => mid _, fun _ => mid _⟩
  exact kg_X6_cellOf_0 hq _ _ (loop (x.1 40 6).toInt.toNat _ (by decide) (by show _ - (0 : Int) ≤ _; omega))
theorem kp_isRowSize (hq : kV q) (v : Int32) (h : ∀ r : Int32, (¬ r = 0 → 1 ≤ v.toInt ∧ v.toInt ≤ 8) → F r x) : KT G q d zk_X6_isRowSize 0 [(0, vi v)] [] x (ri F) := by
  refine kg_X6_isRowSize_0 hq _ ⟨fun c1 => ri_i (h _ (fun q => absurd rfl q)), fun c1 => ⟨fun c2 => ri_i (h _ (fun q => absurd rfl q)), fun c2 => ri_i (h _ (fun _ => ?_))⟩⟩
  clear h; constructor <;> ((try simp only [t_lt, t_le, t_eq, t_cl, tm1, vp_in_iff, Int32.toInt_add, Int32.toInt_sub, Int32.toInt_mul, Int32.reduceToInt, Nat.reducePow] at *) <;> (try simp (disch := omega) only [bm] at *) <;> omega)
/-- a token that was judged -/
def JM (x : gd) (j : Nat) : Prop := (x.1 42 j = 0 ∨ x.1 42 j = 1 ∨ x.1 42 j = 4 ∨ x.1 42 j = 5 ∨ x.1 42 j = 6 ∨ x.1 42 j = 7 ∨ x.1 42 j = 11 ∨ x.1 42 j = 12 ∨ x.1 42 j = 13) ∧ (x.1 42 j = 4 → 0 ≤ (x.1 43 j).toInt ∧ (x.1 43 j).toInt < (x.1 40 8).toInt) ∧ (x.1 42 j = 5 → 0 ≤ (x.1 43 j).toInt ∧ (x.1 43 j).toInt < (x.1 40 10).toInt) ∧ (x.1 42 j = 6 ∨ x.1 42 j = 7 → 0 ≤ (x.1 43 j).toInt ∧ (x.1 43 j).toInt < (x.1 40 6).toInt) ∧ (x.1 42 j = 12 → (x.1 27 j).toInt < (x.1 46 (x.1 43 (j - 2)).toNatClampNeg).toInt)
theorem JM_of {j : Nat} {u : Int32} (e : x.1 42 j = u) (h1 : u = 0 ∨ u = 1 ∨ u = 11 ∨ u = 13) : JM x j := by
  unfold JM
  rw [e]
  rcases h1 with rfl | rfl | rfl | rfl <;> refine ⟨by decide, fun q => absurd q (by decide), fun q => absurd q (by decide), fun q => absurd q (by decide), fun q => absurd q (by decide)⟩
theorem kp_faultOfCell (hq : kV q) (hT : kT x) (hN : NM x) (i : Int32) {j : Nat} (ei : i.toInt = j) (ht : tk x i) (h : ∀ r y, fm (fun c k => c = 43 ∧ k = j) x y → (r = 0 → JM y j) → F r y) : KT G q (d + 2) zk_X6_faultOfCell 0 [(0, vr 40), (1, vi i)] [] x (ri F) := by
  have vin := (kT_at hT ht).1
  have ej : i.toNatClampNeg = j := by rw [t_cl, ei]; rfl
  have mid : ∀ s : Int32, KT G q (d + 2) zk_X6_faultOfCell 34 [(0, vr 40), (1, vi i)] [vi s, vi i, vr 40, vi i, vr 43] x (ri F) := by
    intro s
    refine kg_X6_faultOfCell_34 hq _ _ _ _ (kp_cellOf hq hT hN _ _ ht (fun r hr => ⟨vin, fun x4 e4 => ?_⟩))
    rw [ej] at e4 ⊢
    have f4 : fm (fun c k => c = 43 ∧ k = j) x x4 := by rw [e4]; exact fm_si (fm_rf _ _) ⟨rfl, rfl⟩
    have g4 : x4.1 43 j = r := by rw [e4]; (simp only [si_get, sfl_get, Nat.reduceEqDiff, eq_self, and_false, false_and, and_true, true_and, if_true, if_false, reduceIte, reduceCtorEq])
    have g6 : x4.1 40 6 = x.1 40 6 := f4 _ _ (by omega)
    refine ⟨vin, fun c => ?_, fun _ => ri_i (h _ x4 f4 (fun q => absurd q (by decide)))⟩
    rw [g4] at c
    have hr2 : 0 ≤ r.toInt ∧ r.toInt < (x.1 40 6).toInt := by
      rcases hr with e | e
      · exact absurd e c
      · exact e
    have jm : ∀ u : Int32, x4.1 42 j = u → (u = 6 ∨ u = 7) → JM x4 j := by
      intro u eu hu
      unfold JM
      rw [eu, g4, g6]
      rcases hu with rfl | rfl <;> exact ⟨by decide, fun q => absurd q (by decide), fun q => absurd q (by decide), fun _ => hr2, fun q => absurd q (by decide)⟩
    exact ⟨vin, fun c6 => ri_i (h _ x4 f4 (fun _ => jm 6 c6 (Or.inl rfl))), fun _ => ⟨vin, fun _ => ri_i (h _ x4 f4 (fun q => absurd q (by decide))), fun c7 => ri_i (h _ x4 f4 (fun _ => jm 7 c7 (Or.inr rfl)))⟩⟩
  exact kg_X6_faultOfCell_0 hq _ ⟨vin, fun _ => mid _, fun _ => ⟨vin, fun _ => mid _, fun _ => mid _⟩⟩
theorem kp_faultOf (hq : kV q) (hT : kT x) (hN : NM x) (i : Int32) {j : Nat} (ei : i.toInt = j) (ht : tk x i) (hp : x.1 42 j = 12 → 2 ≤ j ∧ 0 ≤ (x.1 43 (j - 2)).toInt ∧ (x.1 43 (j - 2)).toInt < 24) (h : ∀ r y, fm (fun c k => c = 43 ∧ k = j) x y → (r = 0 → JM y j) → F r y) : KT G q (d + 3) zk_X6_faultOf 0 [(0, vr 40), (1, vi i)] [] x (ri F) := by
  have vin := (kT_at hT ht).1
  have ej : i.toNatClampNeg = j := by rw [t_cl, ei]; rfl
  obtain ⟨⟨a0, a1⟩, ⟨b0, b1⟩, ⟨c0, c1⟩, hc, hl, hh⟩ := id hN
  have rf := fm_rf (fun c k => c = 43 ∧ k = j) x
  have no : ∀ {r : Int32} {y : gd}, ¬ r = 0 → fm (fun c k => c = 43 ∧ k = j) x y → ri F (some (vi r)) y := fun hr hf => ri_i (h _ _ hf (fun q => absurd q hr))
  refine kg_X6_faultOf_0 hq _ ⟨vin, ?_⟩
  rw [ej]
  refine ⟨fun c => kp_isToldBefore hq hT hN _ ht (fun r => ⟨fun _ => ri_i (h _ x rf (fun _ => JM_of c (Or.inr (Or.inl rfl)))), fun _ => no (by decide) rf⟩), fun _ => no (by decide) rf, fun _ => no (by decide) rf, fun c => ?_, fun c => ?_, fun _ => no (by decide) rf, fun c => ⟨vin, kp_isRowSize hq _ (fun r hr => ⟨fun _ => no (by decide) rf, fun _ => ri_i (h _ x rf (fun _ => JM_of c (Or.inr (Or.inr (Or.inl rfl)))))⟩)⟩, fun c => ⟨vin, fun _ => ri_i (h _ x rf (fun _ => JM_of c (Or.inr (Or.inr (Or.inr rfl))))), fun _ => no (by decide) rf⟩, fun c => ⟨fun _ => no (by decide) rf, fun _ => ?_⟩, fun _ => kp_faultOfCell hq hT hN _ ei ht (fun r y hf hr => ri_i (h r y hf hr))⟩
  · refine kp_numberOf hq hT kk_48 (kl_48 hq) _ _ b0 b1 hl ht (fun r hr => ⟨vin, fun z ez => ?_⟩)
    have fz : fm (fun c k => c = 43 ∧ k = j) x z := by rw [ez]; exact fm_si (fm_rf _ _) ⟨rfl, rfl⟩
    have gz : z.1 43 j = r := by rw [ez]; (simp only [si_get, sfl_get, Nat.reduceEqDiff, eq_self, and_false, false_and, and_true, true_and, if_true, if_false, reduceIte, reduceCtorEq])
    refine ⟨vin, fun c2 => ri_i (h _ z fz (fun _ => ?_)), fun _ => no (by decide) fz⟩
    rw [gz] at c2
    unfold JM
    rw [fz 42 j (by omega), fz 40 8 (by omega), gz, c]
    refine ⟨by decide, fun _ => ?_, fun q => absurd q (by decide), fun q => absurd q (by decide), fun q => absurd q (by decide)⟩
    rcases hr with e | e
    · exact absurd e c2
    · exact e
  · refine kp_numberOf hq hT kk_50 (kl_50 hq) _ _ c0 c1 hh ht (fun r hr => ⟨vin, fun z ez => ?_⟩)
    have fz : fm (fun c k => c = 43 ∧ k = j) x z := by rw [ez]; exact fm_si (fm_rf _ _) ⟨rfl, rfl⟩
    have gz : z.1 43 j = r := by rw [ez]; (simp only [si_get, sfl_get, Nat.reduceEqDiff, eq_self, and_false, false_and, and_true, true_and, if_true, if_false, reduceIte, reduceCtorEq])
    refine ⟨vin, fun c2 => ri_i (h _ z fz (fun _ => ?_)), fun _ => no (by decide) fz⟩
    rw [gz] at c2
    unfold JM
    rw [fz 42 j (by omega), fz 40 10 (by omega), gz, c]
    refine ⟨by decide, fun q => absurd q (by decide), fun _ => ?_, fun q => absurd q (by decide), fun q => absurd q (by decide)⟩
    rcases hr with e | e
    · exact absurd e c2
    · exact e
  · obtain ⟨p1, p2, p3⟩ := hp c
    have k2 : (2 : Int32).toInt = 2 := rfl
    have vv := vp_in_iff.mp vin
    rw [ei] at vv
    have e2 : (i - 2).toInt = ((j - 2 : Nat) : Int) := by rw [t_sub (by rw [k2, ei]; omega) (by rw [k2, ei]; omega), k2, ei]; omega
    have e3 : (i - 2).toNatClampNeg = j - 2 := by rw [t_cl, e2]; rfl
    have v2 : vp_in (i - 2) 702 := by rw [vp_in_iff] at vin ⊢; omega
    rw [e3]
    refine ⟨vin, v2, by rw [vp_in_iff]; omega, fun _ => no (by decide) rf, fun c3 => ri_i (h _ x rf (fun _ => ?_))⟩
    unfold JM
    rw [c]
    refine ⟨by decide, fun q => absurd q (by decide), fun q => absurd q (by decide), fun q => absurd q (by decide), fun _ => ?_⟩
    rw [t_le] at c3
    omega
theorem kp_judge (hq : kV q) (hT : kT x) (hN : NM x) (hp : ∀ j : Nat, (j : Int) < (x.1 20 7).toInt → x.1 42 j = 12 → 2 ≤ j ∧ x.1 42 (j - 2) = 7) (h : ∀ r y, fm (fun c k => c = 43 ∨ (c = 40 ∧ k = 11)) x y → (r = 0 → ∀ j : Nat, (j : Int) < (x.1 20 7).toInt → JM y j) → (¬ r = 0 → tk x (y.1 40 11)) → F r y) : KT G q (d + 4) zk_X6_judge 0 [(0, vr 40)] [] x (ri F) := by
  obtain ⟨-, n, en, hn, -⟩ := id hT
  have loop : ∀ (m j : Nat) (i : Int32) (y : gd), i.toInt = j → j + m = n → fm (fun c k => c = 43) x y → (∀ k, k < j → JM y k) → KT G q (d + 4) zk_X6_judge 2 [(0, vr 40), (1, vi i)] [] y (ri F) := by
    intro m
    induction m with
    | zero =>
      intro j i y ei hj hf hJ
      have e7 : y.1 20 7 = x.1 20 7 := hf _ _ (by omega)
      refine kg_X6_judge_2 hq _ ⟨fun _ => ri_i (h _ y (fm_w hf (fun c k q => Or.inl q)) (fun _ k hk => hJ k (by omega)) (fun q => absurd rfl q)), fun c => ?_⟩
      exfalso; rw [e7, t_le] at c; omega
    | succ m ih =>
      intro j i y ei hj hf hJ
      have e7 : y.1 20 7 = x.1 20 7 := hf _ _ (by omega)
      have ej : i.toNatClampNeg = j := by rw [t_cl, ei]; rfl
      have hTy : kT y := by
        obtain ⟨q1, n2, q2, q3, q4, q5⟩ := hT
        refine ⟨by unfold kL; rw [hf 20 1 (by omega)]; exact q1, n2, by rw [e7]; exact q2, q3, fun k hk => ?_, by rw [hf 23 _ (by omega)]; exact q5⟩
        rw [hf 24 k (by omega), hf 26 k (by omega), hf 23 k (by omega), hf 27 k (by omega)]
        exact q4 k hk
      have hNy : NM y := by
        unfold NM tk at hN ⊢
        rw [hf 40 6 (by omega), hf 40 8 (by omega), hf 40 10 (by omega), hf 60 6 (by omega), e7]
        refine ⟨hN.1, hN.2.1, hN.2.2.1, fun k hk => ?_, fun k hk => ?_, fun k hk => ?_⟩
        · rw [hf 44 k (by omega), hf 45 k (by omega), hf 46 k (by omega)]; exact hN.2.2.2.1 k hk
        · rw [hf 48 k (by omega)]; exact hN.2.2.2.2.1 k hk
        · rw [hf 50 k (by omega)]; exact hN.2.2.2.2.2 k hk
      have hti : tk y i := by unfold tk; rw [e7]; omega
      have vin := (kT_at hTy hti).1
      have e1 : (i + 1).toInt = ((j + 1 : Nat) : Int) := by rw [t_add (by show _ ≤ _ + (1 : Int); omega) (by show _ + (1 : Int) ≤ _; omega), ei]; rfl
      refine kg_X6_judge_2 hq _ ⟨fun c => ?_, fun c => ⟨vin, ?_⟩⟩
      · exfalso; rw [e7, t_le] at c; omega
      rw [ej]
      have mid : ∀ (r : Int32) (z : gd), fm (fun c k => c = 43 ∧ k = j) y z → (r = 0 → JM z j) → KT G q (d + 4) zk_X6_judge 31 [(0, vr 40), (1, vi i)] [vi r] z (ri F) := by
        intro r z fz hr
        have fx : fm (fun c k => c = 43) x z := fm_tr hf (fm_w fz (fun c k q => q.1))
        refine kg_X6_judge_31 hq _ _ ⟨fun c0 => ih (j + 1) _ z e1 (by omega) fx (fun k hk => ?_), fun c0 w ew => ri_i (h _ w ?_ (fun q => absurd q c0) (fun _ => ?_))⟩
        · by_cases hkj : k = j
          · rw [hkj]; exact hr c0
          · have hk := hJ k (by omega)
            unfold JM at hk ⊢
            rw [fz 42 k (by omega), fz 43 k (by omega), fz 40 8 (by omega), fz 40 10 (by omega), fz 40 6 (by omega), fz 27 k (by omega), fz 43 (k - 2) (by omega), fz 46 _ (by omega)]
            exact hk
        · rw [ew]; exact fm_si (fm_w fx (fun c k q => Or.inl q)) (Or.inr ⟨rfl, rfl⟩)
        · have : w.1 40 11 = i := by rw [ew]; (simp only [si_get, sfl_get, Nat.reduceEqDiff, eq_self, and_false, false_and, and_true, true_and, if_true, if_false, reduceIte, reduceCtorEq])
          rw [this]; unfold tk; omega
      refine ⟨fun c1 => kp_faultOf hq hTy hNy _ ei hti ?_ (fun r z fz hr => mid r z fz hr), fun c1 => mid 0 y (fm_rf _ _) (fun _ => JM_of c1 (Or.inl rfl))⟩
      intro c12
      rw [hf 42 j (by omega)] at c12
      obtain ⟨p1, p2⟩ := hp j (by omega) c12
      have hk := hJ (j - 2) (by omega)
      have g := hk.2.2.2.1 (Or.inr (by rw [hf 42 _ (by omega)]; exact p2))
      have g6 := hNy.1.2
      exact ⟨p1, g.1, by omega⟩
  exact kg_X6_judge_0 hq (loop n 0 _ x rfl (by omega) (fm_rf _ _) (fun k hk => by omega))
end KNM
