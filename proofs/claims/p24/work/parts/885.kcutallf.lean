section
/-! cutting the whole text -/
theorem TSq_cg {b : Nat → Int32} {n e : Nat} {K K' V V' : Nat → Int32} {P P' Z Z' : Nat → Nat} (h : TSq b n e K P Z V) (g : ∀ j, j ≤ e → K' j = K j ∧ P' j = P j ∧ Z' j = Z j ∧ V' j = V j) : TSq b n e K' P' Z' V' := by
  obtain ⟨h0, h1, h2, h3, h4, h5⟩ := h
  refine ⟨h0, by rw [(g 0 (by omega)).2.1]; exact h1, fun j hj => ?_, fun j hj => ?_, fun j hj => ?_, by rw [(g e (by omega)).1]; exact h5⟩
  · rw [(g (j + 1) (by omega)).2.1, (g j (by omega)).2.1, (g j (by omega)).2.2.1]; exact h2 j hj
  · obtain ⟨a1, a2, a3, a4⟩ := g j hj
    rw [a1, a2, a3, a4]; exact h3 j hj
  · rw [(g j (by omega)).1]; exact h4 j hj
theorem TC_701 {b : Nat → Int32} {n p : Nat} {K V : Nat → Int32} {P Z : Nat → Nat} (h : TC b n 701 p K P Z V) : TSq b n 700 K P Z V := by
  obtain ⟨h1, h2, h3, h4⟩ := h
  exact ⟨by omega, (h2 (by omega)).1, fun j hj => h3 j (by omega), fun j hj => (h4 j (by omega)).1, fun j hj => (h4 j (by omega)).2, Or.inr (Or.inr rfl)⟩
theorem whv_0 {b : Nat → Int32} {p : Nat} : ∀ m, m ≤ 9 → (∀ i, i < m → isD (b (p + i))) → vW (Int32.ofNat m) (whv b p m) := by
  intro m
  induction m with
  | zero => intro _ _; exact vW_0
  | succ m ih =>
    intro hm hd
    have e1 : (Int32.ofNat m).toInt = m := Int32.toInt_ofNat_of_lt (by omega)
    have e2 : (Int32.ofNat (m + 1)).toInt = ((m + 1 : Nat) : Int) := Int32.toInt_ofNat_of_lt (by omega)
    have k1 : (1 : Int32).toInt = 1 := rfl
    have k9 : (9 : Int32).toInt = 9 := rfl
    have e3 : (Int32.ofNat m + 1).toInt = (Int32.ofNat m).toInt + 1 := by rw [t_add (by omega) (by omega), k1]
    have e4 : Int32.ofNat (m + 1) = Int32.ofNat m + 1 := by rw [t_eq, e2, e3, e1]; omega
    rw [e4]
    exact vW_up (by omega) (by rw [t_le, k9]; omega) e3 (hd m (by omega)) (ih (by omega) (fun i hi => hd i (by omega)))
theorem sgk_2 {c d : Int32} : ¬ sgk c d = 2 := by
  unfold sgk
  repeat' (first | apply ite_n | decide)
theorem TOK_v {b : Nat → Int32} {n p m : Nat} {k v : Int32} (h : TOK b n p k m v) (hk : k = 2) : 0 ≤ v.toInt := by
  rcases h with ⟨-, h⟩ | ⟨-, -, -, ⟨w, hw, -, h⟩ | ⟨-, ⟨-, h⟩ | ⟨-, h⟩⟩⟩ | ⟨-, -, ⟨-, -, h9, hd, hv⟩ | ⟨h, -⟩⟩ | ⟨-, -, h, -⟩
  · rw [hk] at h; exact absurd h (by decide)
  · rw [hk] at h
    have e : (Int32.ofNat (10 + w)).toInt = ((10 + w : Nat) : Int) := Int32.toInt_ofNat_of_lt (by omega)
    rw [← h] at e
    have : (2 : Int32).toInt = 2 := rfl
    omega
  · rw [hk] at h; exact absurd h (by decide)
  · rw [hk] at h; exact absurd h (by decide)
  · rw [hv]; exact (whv_0 m h9 hd).1
  · rw [hk] at h; exact absurd h (by decide)
  · rw [hk] at h; exact absurd h.symm sgk_2
abbrev kP' (x : gd) : Nat → Nat := fun j => (x.1 24 j).toNatClampNeg
abbrev kZ' (x : gd) : Nat → Nat := fun j => (x.1 26 j).toNatClampNeg
abbrev kK' (x : gd) : Nat → Int32 := fun j => kc (x.1 23 j)
theorem kc_1 {s : Int32} (h : s = 1) : kc s = 3 := by rw [h]; decide
theorem kc_3 {s : Int32} (h : s = 3) : kc s = 2 := by rw [h]; decide
theorem TOK_01 {b : Nat → Int32} {n p m : Nat} {k v : Int32} (h : TOK b n p k m v) (hp : p < n) : ¬ k = 0 := by
  rcases h with ⟨h, -⟩ | ⟨-, -, -, ⟨w, hw, -, h⟩ | ⟨-, ⟨-, h⟩ | ⟨-, h⟩⟩⟩ | ⟨-, -, ⟨h, -⟩ | ⟨h, -⟩⟩ | ⟨-, -, h, -⟩
  · omega
  · have e : (Int32.ofNat (10 + w)).toInt = ((10 + w : Nat) : Int) := Int32.toInt_ofNat_of_lt (by omega)
    rw [← h] at e
    intro q
    rw [q] at e
    have : (0 : Int32).toInt = 0 := rfl
    omega
  · rw [h]; decide
  · rw [h]; decide
  · rw [h]; decide
  · rw [h]; decide
  · rw [h]
    unfold sgk
    repeat' (first | apply ite_n | decide)
/-- what the class cut: e tokens that go on, and the last -/
def KCUT (b : Nat → Int32) (N : Nat) (x : gd) (e : Nat) : Prop := TSq b N e (kK' x) (kP' x) (kZ' x) (x.1 27) ∧ ((x.1 23 e = 0 ∧ (x.1 20 7).toInt = e) ∨ (¬ x.1 23 e = 0 ∧ (x.1 20 7).toInt = e + 1)) ∧ (∀ j, j ≤ e → x.1 23 j = 2 → x.1 27 j = hsh b (kP' x j) (kZ' x j)) ∧ kT x
section KCA
variable {G : kG} {q : kP} {d : Nat} {x : gd} {F : Int32 → gd → Prop} {Fv : gd → Prop}
theorem kf_cut (hq : kV q) (hl : kL x) (h : ∀ x' e, fm skC x x' → KCUT (kby x) (kln x) x' e → Fv x') : KT G q (d + 10) zk_X9_cut 0 [(0, vr 20)] [] x (rv Fv) := by
  obtain ⟨b, eb⟩ : ∃ b, b = kby x := ⟨_, rfl⟩
  obtain ⟨N, eN⟩ : ∃ N, N = kln x := ⟨_, rfl⟩
  rw [← eb, ← eN] at h
  have uN : (N : Int) = (x.1 20 1).toInt := by
    rw [eN]
    show (((x.1 20 1).toNatClampNeg : Nat) : Int) = _
    rw [t_cl]; have := hl.1; omega
  have g1 := hl.2
  have fin : ∀ (n : Nat) (y : gd), fm skC x y → (y.1 20 7).toInt = n → n ≤ 701 → kTw y n → (∀ j, j < n → y.1 23 j = 2 → y.1 27 j = hsh b (kP' y j) (kZ' y j)) → ((0 < n ∧ TSq b N (n - 1) (kK' y) (kP' y) (kZ' y) (y.1 27)) ∨ (n ≤ 700 ∧ ∃ p, lx b N p = N ∧ TC b N n p (kK' y) (kP' y) (kZ' y) (y.1 27))) → KT G q (d + 10) zk_X9_cut 122 [(0, vr 20)] [] y (rv Fv) := by
    intro n y hf en hn hw hh hT
    have em : (y.1 20 7).toNatClampNeg = n := by rw [t_cl, en]; rfl
    have vin : vp_in (y.1 20 7) 702 := by rw [vp_in_iff]; omega
    refine kg_X9_cut_122 hq ⟨vin, fun x2 e2 => ?_⟩
    rw [em] at e2
    have m2 : x2.1 20 7 = y.1 20 7 := by rw [e2]; (simp only [si_get, sfl_get, Nat.reduceEqDiff, eq_self, and_false, false_and, and_true, true_and, if_true, if_false, reduceIte, reduceCtorEq])
    refine ⟨by rw [m2]; exact vin, fun x4 e4 => ?_⟩
    rw [m2, em] at e4
    have m4 : x4.1 20 7 = y.1 20 7 := by rw [e4, ← m2]; (simp only [si_get, sfl_get, Nat.reduceEqDiff, eq_self, and_false, false_and, and_true, true_and, if_true, if_false, reduceIte, reduceCtorEq])
    refine ⟨by rw [m4]; exact vin, fun x6 e6 => rv_i ?_⟩
    have hf6 : fm skC x x6 := by
      rw [e6, e4, e2]
      exact fm_si (fm_si (fm_si hf (Or.inl (by omega))) (Or.inl (by omega))) (Or.inl (by omega))
    rw [m4, em] at e6
    have m6 : x6.1 20 7 = y.1 20 7 := by rw [e6, ← m4]; (simp only [si_get, sfl_get, Nat.reduceEqDiff, eq_self, and_false, false_and, and_true, true_and, if_true, if_false, reduceIte, reduceCtorEq])
    have g : ∀ c j, 23 ≤ c → c ≤ 27 → j ≠ n → x6.1 c j = y.1 c j := by
      intro c j c1 c2 hj
      rw [e6, si_get, if_neg (fun q => hj q.2), e4, si_get, if_neg (fun q => hj q.2), e2, si_get, if_neg (fun q => hj q.2)]
    have s23 : x6.1 23 n = 0 := by rw [e6, e4, e2]; (simp only [si_get, sfl_get, Nat.reduceEqDiff, eq_self, and_false, false_and, and_true, true_and, if_true, if_false, reduceIte, reduceCtorEq])
    have s24 : x6.1 24 n = x.1 20 1 := by rw [e6, e4, e2]; (simp only [si_get, sfl_get, Nat.reduceEqDiff, eq_self, and_false, false_and, and_true, true_and, if_true, if_false, reduceIte, reduceCtorEq]); exact hf _ _ (by unfold skC; omega)
    have s26 : ∀ j, x6.1 26 j = y.1 26 j := fun j => by rw [e6, e4, e2]; (simp only [si_get, sfl_get, Nat.reduceEqDiff, eq_self, and_false, false_and, and_true, true_and, if_true, if_false, reduceIte, reduceCtorEq])
    have s27 : ∀ j, x6.1 27 j = y.1 27 j := fun j => by rw [e6, e4, e2]; (simp only [si_get, sfl_get, Nat.reduceEqDiff, eq_self, and_false, false_and, and_true, true_and, if_true, if_false, reduceIte, reduceCtorEq])
    have hT6 : kT x6 := by
      refine ⟨?_, n, by rw [m6]; exact en, hn, fun j hj => ?_, s23⟩
      · unfold kL
        have : x6.1 20 1 = x.1 20 1 := hf6 _ _ (by unfold skC; omega)
        rw [this]; exact hl
      · rw [g 24 j (by omega) (by omega) (by omega), g 26 j (by omega) (by omega) (by omega), g 23 j (by omega) (by omega) (by omega), g 27 j (by omega) (by omega) (by omega)]
        exact hw j hj
    have hh6 : ∀ j, j < n → x6.1 23 j = 2 → x6.1 27 j = hsh b (kP' x6 j) (kZ' x6 j) := by
      intro j hj
      unfold kP' kZ'
      rw [g 24 j (by omega) (by omega) (by omega), g 26 j (by omega) (by omega) (by omega), g 23 j (by omega) (by omega) (by omega), g 27 j (by omega) (by omega) (by omega)]
      exact hh j hj
    rcases hT with ⟨n0, hT⟩ | ⟨n7, p, hp, hT⟩
    · refine h x6 (n - 1) hf6 ⟨TSq_cg hT (fun j hj => ?_), Or.inr ⟨?_, by rw [m6, en]; omega⟩, fun j hj => hh6 j (by omega), hT6⟩
      · unfold kK' kP' kZ'
        rw [g 24 j (by omega) (by omega) (by omega), g 26 j (by omega) (by omega) (by omega), g 23 j (by omega) (by omega) (by omega), g 27 j (by omega) (by omega) (by omega)]
        exact ⟨rfl, rfl, rfl, rfl⟩
      · rw [g 23 _ (by omega) (by omega) (by omega)]
        exact (hw (n - 1) (by omega)).2.1
    · have u1 : (x.1 20 1).toNatClampNeg = N := eN.symm
      have up := TC_up (K' := kK' x6) (P' := kP' x6) (Z' := kZ' x6) (V' := x6.1 27) (k := 0) (q := N) (m := kZ' x6 n) (v := x6.1 27 n) hT (fun j => ?_) (fun j => ?_) (fun j => ?_) (fun j => ?_) hp.symm (Or.inl ⟨Nat.le_refl _, rfl⟩)
      · obtain ⟨u2, u3, u4, u5, -, -, u6⟩ := up
        refine h x6 n hf6 ⟨⟨n7, u3, u4, fun j hj => ?_, fun j hj => (u2 j hj).2, Or.inl u6⟩, Or.inl ⟨s23, by rw [m6, en]⟩, fun j hj => ?_, hT6⟩
        · by_cases cj : j = n
          · rw [cj]; exact u5
          · exact (u2 j (by omega)).1
        · by_cases cj : j = n
          · rw [cj, s23]; exact fun z => absurd z (by decide)
          · exact hh6 j (by omega)
      · by_cases cj : j = n
        · rw [if_pos cj, cj]
          show kc (x6.1 23 n) = 0
          rw [s23]; decide
        · rw [if_neg cj]
          show kc (x6.1 23 j) = kc (y.1 23 j)
          rw [g 23 j (by omega) (by omega) cj]
      · by_cases cj : j = n
        · rw [if_pos cj, cj]
          show (x6.1 24 n).toNatClampNeg = N
          rw [s24]; exact u1
        · rw [if_neg cj]
          show (x6.1 24 j).toNatClampNeg = (y.1 24 j).toNatClampNeg
          rw [g 24 j (by omega) (by omega) cj]
      · by_cases cj : j = n
        · rw [if_pos cj, cj]
        · rw [if_neg cj]
          show (x6.1 26 j).toNatClampNeg = (y.1 26 j).toNatClampNeg
          rw [s26]
      · by_cases cj : j = n
        · rw [if_pos cj, cj]
        · rw [if_neg cj, s27]
  have loop : ∀ (m n : Nat) (l1 l2 : Int32) (y : gd), n + m = 701 → l2.toInt = n → fm skC x y → (y.1 20 7).toInt = n → kTw y n → 0 ≤ (y.1 20 8).toInt → (y.1 20 8).toInt ≤ (x.1 20 1).toInt → (∀ j, j < n → y.1 23 j = 2 → y.1 27 j = hsh b (kP' y j) (kZ' y j)) → (¬ l1 = 0 → TC b N n (y.1 20 8).toNatClampNeg (kK' y) (kP' y) (kZ' y) (y.1 27)) → (l1 = 0 → 0 < n ∧ TSq b N (n - 1) (kK' y) (kP' y) (kZ' y) (y.1 27)) → KT G q (d + 10) zk_X9_cut 19 [(0, vr 20), (1, vi l1), (2, vi l2)] [] y (rv Fv) := by
    intro m
    induction m with
    | zero =>
      intro n l1 l2 y hn el hf en hw a0 a1 hh t1 t0
      refine kg_X9_cut_19 hq _ _ ⟨fun _ => fin n y hf en (by omega) hw hh ?_, fun c => ?_⟩
      · by_cases c0 : l1 = 0
        · exact Or.inl (t0 c0)
        · have n701 : n = 701 := by omega
          have := t1 c0
          rw [n701] at this ⊢
          exact Or.inl ⟨by omega, TC_701 this⟩
      · exfalso; clear h fin hf hw hh t1 t0; ((try simp only [t_lt, t_le, t_eq, t_cl, tm1, vp_in_iff, Int32.toInt_add, Int32.toInt_sub, Int32.toInt_mul, Int32.reduceToInt, Nat.reducePow] at *) <;> (try simp (disch := omega) only [bm] at *) <;> omega)
    | succ m ih =>
      intro n l1 l2 y hn el hf en hw a0 a1 hh t1 t0
      have ely : y.1 20 1 = x.1 20 1 := hf _ _ (by unfold skC; omega)
      have hly : kL y := by unfold kL; rw [ely]; exact hl
      have eby : kby y = b := by rw [eb]; funext p; unfold kby; rw [hf 21 p (by unfold skC; omega)]
      have eln : kln y = N := by rw [eN]; unfold kln; rw [ely]
      refine kg_X9_cut_19 hq _ _ ⟨fun c => ?_, fun c => ⟨fun c0 => fin n y hf en (by omega) hw hh (Or.inl (t0 c0)), fun c0 => ?_⟩⟩
      · exfalso; clear h fin hf hw hh t1 t0 ih; ((try simp only [t_lt, t_le, t_eq, t_cl, tm1, vp_in_iff, Int32.toInt_add, Int32.toInt_sub, Int32.toInt_mul, Int32.reduceToInt, Nat.reducePow] at *) <;> (try simp (disch := omega) only [bm] at *) <;> omega)
      have tc := t1 c0
      have e1 : (l2 + 1).toInt = ((n + 1 : Nat) : Int) := by
        have k1 : (1 : Int32).toInt = 1 := rfl
        rw [t_add (by omega) (by omega), k1, el]; rfl
      refine kf_skip hq hly a0 (by rw [ely]; exact a1) (fun x3 f3 b1 b2 b3 => ?_)
      rw [eby, eln] at b3
      have m3 : x3.1 20 7 = y.1 20 7 := f3 _ _ (by omega)
      have l3 : x3.1 20 1 = x.1 20 1 := by rw [f3 _ _ (by omega), ely]
      have hf3 : fm skC x x3 := fm_tr hf (fm_w f3 (fun c k q => Or.inr ⟨q.1, by omega⟩))
      have em : (x3.1 20 7).toNatClampNeg = n := by rw [m3, t_cl, en]; rfl
      have w3 : kTw x3 n := fun j hj => by rw [f3 24 j (by omega), f3 26 j (by omega), f3 23 j (by omega), f3 27 j (by omega)]; exact hw j hj
      have q23 : kK' x3 = kK' y := by funext j; show kc (x3.1 23 j) = kc (y.1 23 j); rw [f3 23 j (by omega)]
      have q24 : kP' x3 = kP' y := by funext j; show (x3.1 24 j).toNatClampNeg = (y.1 24 j).toNatClampNeg; rw [f3 24 j (by omega)]
      have q26 : kZ' x3 = kZ' y := by funext j; show (x3.1 26 j).toNatClampNeg = (y.1 26 j).toNatClampNeg; rw [f3 26 j (by omega)]
      have q27 : x3.1 27 = y.1 27 := by funext j; rw [f3 27 j (by omega)]
      have u3 := t_cl (x3.1 20 8)
      rw [ely] at b2
      refine ⟨fun c3 => ?_, fun c3 => fin n x3 hf3 (by rw [m3]; exact en) (by omega) w3 (fun j hj => ?_) (Or.inr ⟨by omega, (y.1 20 8).toNatClampNeg, ?_, ?_⟩)⟩
      rotate_left
      · rw [q24, q26, q27, f3 23 j (by omega)]; exact hh j hj
      · rw [← b3]
        rw [l3, t_lt] at c3
        omega
      · rw [q23, q24, q26, q27]; exact tc
      have vin : vp_in (x3.1 20 7) 702 := by rw [m3, vp_in_iff]; omega
      refine ⟨vin, fun x6 e6 => ?_⟩
      have m6 : x6.1 20 7 = x3.1 20 7 := by rw [e6]; (simp only [si_get, sfl_get, Nat.reduceEqDiff, eq_self, and_false, false_and, and_true, true_and, if_true, if_false, reduceIte, reduceCtorEq])
      refine ⟨by rw [m6]; exact vin, fun x8 e8 => ?_⟩
      have m8 : x8.1 20 7 = x3.1 20 7 := by rw [e8, ← m6]; (simp only [si_get, sfl_get, Nat.reduceEqDiff, eq_self, and_false, false_and, and_true, true_and, if_true, if_false, reduceIte, reduceCtorEq])
      have a8 : x8.1 20 8 = x3.1 20 8 := by rw [e8, e6]; (simp only [si_get, sfl_get, Nat.reduceEqDiff, eq_self, and_false, false_and, and_true, true_and, if_true, if_false, reduceIte, reduceCtorEq])
      have l8 : x8.1 20 1 = x.1 20 1 := by rw [e8, e6, ← l3]; (simp only [si_get, sfl_get, Nat.reduceEqDiff, eq_self, and_false, false_and, and_true, true_and, if_true, if_false, reduceIte, reduceCtorEq])
      rw [em] at e6
      rw [m6, em] at e8
      have hl8 : kL x8 := by unfold kL; rw [l8]; exact hl
      have lt3 : (x3.1 20 8).toInt < (x.1 20 1).toInt := by rw [l3, t_lt] at c3; exact c3
      have f6 : fm skC x x8 := by rw [e8, e6]; exact fm_si (fm_si hf3 (Or.inl (by omega))) (Or.inl (by omega))
      have eb8 : b = kby x8 := by rw [eb]; funext p; unfold kby; rw [f6 21 p (by unfold skC; omega)]
      have eN8 : N = kln x8 := by rw [eN]; unfold kln; rw [l8]
      refine kf_cutOne hq b N (x3.1 20 8).toNatClampNeg hl8 (by rw [m8]; exact vin) eb8 eN8 (by rw [a8]; omega) (by omega) (fun r x9 k f9 tk9 r0 r2 s0 t0' t1' => ?_)
      rw [m8, em] at tk9 f9 s0 r2
      refine ⟨by rw [m8]; exact vin, fun x12 e12 => ?_⟩
      rw [m8, em] at e12
      have m12 : x12.1 20 7 = x3.1 20 7 := by rw [e12, si_cell (by decide), f9 _ _ (by unfold skO; omega), m8]
      have next : ∀ l z, z = si x12 20 7 (x12.1 20 7 + 1) → (¬ l = 0 ↔ ¬ r = 1) → KT G q (d + 10) zk_X9_cut 19 [(0, vr 20), (1, vi l), (2, vi (l2 + 1))] [] z (rv Fv) := by
        intro l z ez hlr
        have g : ∀ c j, 23 ≤ c → c ≤ 27 → j ≠ n → z.1 c j = y.1 c j := by
          intro c j c1 c2 hj
          rw [ez, si_get, if_neg (by omega), e12, si_get, if_neg (fun q => hj q.2), f9 _ _ (by unfold skO; omega), e8, si_get, if_neg (fun q => hj q.2), e6, si_get, if_neg (fun q => hj q.2), f3 _ _ (by omega)]
        have z24 : z.1 24 n = x3.1 20 8 := by rw [ez, si_get, if_neg (by omega), e12, si_get, if_neg (by omega), f9 _ _ (by unfold skO; omega), e8, e6]; (simp only [si_get, sfl_get, Nat.reduceEqDiff, eq_self, and_false, false_and, and_true, true_and, if_true, if_false, reduceIte, reduceCtorEq])
        have z26 : z.1 26 n = x9.1 26 n := by rw [ez, e12]; (simp only [si_get, sfl_get, Nat.reduceEqDiff, eq_self, and_false, false_and, and_true, true_and, if_true, if_false, reduceIte, reduceCtorEq])
        have z27 : z.1 27 n = x9.1 27 n := by rw [ez, e12]; (simp only [si_get, sfl_get, Nat.reduceEqDiff, eq_self, and_false, false_and, and_true, true_and, if_true, if_false, reduceIte, reduceCtorEq])
        have z23 : z.1 23 n = r := by rw [ez, e12]; (simp only [si_get, sfl_get, Nat.reduceEqDiff, eq_self, and_false, false_and, and_true, true_and, if_true, if_false, reduceIte, reduceCtorEq])
        have z8 : z.1 20 8 = x9.1 20 8 := by rw [ez, e12]; (simp only [si_get, sfl_get, Nat.reduceEqDiff, eq_self, and_false, false_and, and_true, true_and, if_true, if_false, reduceIte, reduceCtorEq])
        have cz : (z.1 20 8).toNatClampNeg = (x3.1 20 8).toNatClampNeg + k := by rw [z8, t_cl, t0']; rfl
        have c26 : (z.1 26 n).toNatClampNeg = k := by rw [z26, t_cl, s0]; rfl
        have up := TC_up (K' := kK' z) (P' := kP' z) (Z' := kZ' z) (V' := z.1 27) (k := kc r) (q := (x3.1 20 8).toNatClampNeg) (m := k) (v := x9.1 27 n) tc (fun j => by
          by_cases cj : j = n
          · rw [if_pos cj, cj]; show kc (z.1 23 n) = _; rw [z23]
          · rw [if_neg cj]; show kc (z.1 23 j) = kc (y.1 23 j); rw [g 23 j (by omega) (by omega) cj]) (fun j => by
          by_cases cj : j = n
          · rw [if_pos cj, cj]; show (z.1 24 n).toNatClampNeg = _; rw [z24]
          · rw [if_neg cj]; show (z.1 24 j).toNatClampNeg = (y.1 24 j).toNatClampNeg; rw [g 24 j (by omega) (by omega) cj]) (fun j => by
          by_cases cj : j = n
          · rw [if_pos cj, cj]; exact c26
          · rw [if_neg cj]; show (z.1 26 j).toNatClampNeg = (y.1 26 j).toNatClampNeg; rw [g 26 j (by omega) (by omega) cj]) (fun j => by
          by_cases cj : j = n
          · rw [if_pos cj, cj, z27]
          · rw [if_neg cj, g 27 j (by omega) (by omega) cj]) b3 tk9
        obtain ⟨u2, uP, u4, u5, v1, v2, v3⟩ := up
        have k0 : ¬ kc r = 0 := TOK_01 tk9 (by omega)
        refine ih (n + 1) l (l2 + 1) z (by omega) e1 ?_ ?_ ?_ ?_ ?_ ?_ ?_ ?_
        · have f10 : fm skC x x9 := fm_tr f6 (fm_w f9 (fun c k q => by unfold skO at q; unfold skC; omega))
          rw [ez, e12]
          exact fm_si (fm_si f10 (Or.inl (by omega))) (Or.inr ⟨rfl, by omega⟩)
        · have : z.1 20 7 = x12.1 20 7 + 1 := by rw [ez]; (simp only [si_get, sfl_get, Nat.reduceEqDiff, eq_self, and_false, false_and, and_true, true_and, if_true, if_false, reduceIte, reduceCtorEq])
          have g2 : (y.1 20 7 + 1).toInt = ((n + 1 : Nat) : Int) := by
            rw [t_add (by show _ ≤ _ + (1 : Int); omega) (by show _ + (1 : Int) ≤ _; omega), en]; rfl
          rw [this, m12, m3, g2]
        · intro j hj
          by_cases hjn : j = n
          · subst hjn
            rw [z24, z26, z23, z27]
            exact ⟨⟨by omega, by omega, by omega⟩, r0, fun r3 => TOK_v tk9 (kc_3 r3)⟩
          · rw [g 24 j (by omega) (by omega) hjn, g 26 j (by omega) (by omega) hjn, g 23 j (by omega) (by omega) hjn, g 27 j (by omega) (by omega) hjn]
            exact hw j (by omega)
        · rw [z8]; omega
        · rw [z8]; omega
        · intro j hj
          by_cases hjn : j = n
          · rw [hjn, z23, v1, v2, z27]; exact r2
          · show z.1 23 j = 2 → z.1 27 j = hsh b (z.1 24 j).toNatClampNeg (z.1 26 j).toNatClampNeg
            rw [g 24 j (by omega) (by omega) hjn, g 26 j (by omega) (by omega) hjn, g 23 j (by omega) (by omega) hjn, g 27 j (by omega) (by omega) hjn]
            exact hh j (by omega)
        · intro l0
          have r1 := hlr.mp l0
          refine ⟨fun q => absurd q (by omega), fun _ => ⟨uP, by rw [cz, show n + 1 - 1 = n by omega, v1, v2]⟩, fun j hj => u4 j (by omega), fun j hj => ?_⟩
          by_cases hjn : j = n
          · rw [hjn]
            refine ⟨u5, by rw [v3]; exact k0, ?_⟩
            rw [v3]
            exact fun z => r1 (kc_i1 z)
          · exact u2 j (by omega)
        · intro l0
          have r1 : r = 1 := by
            by_cases c : r = 1
            · exact c
            · exact absurd l0 (hlr.mpr c)
          refine ⟨by omega, ?_⟩
          rw [show n + 1 - 1 = n by omega]
          refine ⟨by omega, uP, u4, fun j hj => ?_, fun j hj => (u2 j hj).2, Or.inr (Or.inl ?_)⟩
          · by_cases cj : j = n
            · rw [cj]; exact u5
            · exact (u2 j (by omega)).1
          · rw [v3]; exact kc_1 r1
      have s23 : x12.1 23 n = r := by rw [e12]; (simp only [si_get, sfl_get, Nat.reduceEqDiff, eq_self, and_false, false_and, and_true, true_and, if_true, if_false, reduceIte, reduceCtorEq])
      refine ⟨by rw [m12]; exact vin, fun c9 z ez => next _ z ez ?_, fun c9 z ez => next _ z ez ?_⟩
      all_goals
        rw [m12, em, s23] at c9
      · exact ⟨fun z => absurd rfl z, fun z => absurd c9 z⟩
      · exact ⟨fun _ => c9, fun _ => by decide⟩
  refine kg_X9_cut_0 hq (fun x1 e1 x2 e2 x3 e3 => ?_)
  have z8 : x3.1 20 8 = 0 := by rw [e3, e2, e1]; (simp only [si_get, sfl_get, Nat.reduceEqDiff, eq_self, and_false, false_and, and_true, true_and, if_true, if_false, reduceIte, reduceCtorEq])
  refine loop 701 0 _ _ x3 rfl rfl ?_ ?_ ?_ ?_ ?_ ?_ ?_ ?_
  · rw [e3, e2, e1]; exact fm_si (fm_si (fm_si (fm_rf _ _) (Or.inr ⟨rfl, by omega⟩)) (Or.inr ⟨rfl, by omega⟩)) (Or.inr ⟨rfl, by omega⟩)
  · rw [e3]; (simp only [si_get, sfl_get, Nat.reduceEqDiff, eq_self, and_false, false_and, and_true, true_and, if_true, if_false, reduceIte, reduceCtorEq]); rfl
  · intro j hj; omega
  · rw [z8]; decide
  · rw [z8]; exact hl.1
  · intro j hj; omega
  · intro _
    rw [z8]
    exact ⟨fun _ => rfl, fun q => absurd q (by omega), fun j hj => absurd hj (by omega), fun j hj => absurd hj (by omega)⟩
  · intro q; exact absurd q (by decide)
end KCA
end
section
/-! the class: the reader's small steps -/
/-- where reading is, how many tokens there are -/
abbrev nx (x : gd) : Int := (x.1 100 4).toInt
abbrev mt (x : gd) : Int := (x.1 20 7).toInt
def RB (x : gd) : Prop := kT x ∧ 0 ≤ nx x ∧ nx x ≤ 700 ∧ nx x ≤ mt x
/-- a use that is a fault -/
def BU (x : gd) : Prop := ∃ j : Nat, (j : Int) < nx x ∧ (x.1 42 j = 3 ∨ x.1 42 j = 8 ∨ x.1 42 j = 9 ∨ x.1 42 j = 10)
def US (x : gd) : Prop := (∀ j : Nat, nx x < j → j < 702 → x.1 42 j = 0) ∧ ∀ j : Nat, (j : Int) < nx x → x.1 42 j = 12 → 2 ≤ j ∧ x.1 42 (j - 2) = 7
/-- a part of a sum -/
def PQ (x : gd) (i : Nat) : Prop := (x.1 62 i = 2 → (0 ≤ (x.1 63 i).toInt ∧ (x.1 63 i).toInt < 24) ∨ BU x) ∧ (x.1 62 i = 6 → ∃ t : Nat, (x.1 63 i).toInt = t ∧ (t : Int) < nx x ∧ (x.1 42 t = 6 ∨ (x.1 42 t = 7 ∧ (t : Int) + 2 < nx x ∧ x.1 42 (t + 2) = 12 ∧ x.1 23 (t + 2) = 3)))
def SV (x : gd) (m : Int) : Prop := RB x ∧ US x ∧ (0 ≤ (x.1 60 3).toInt ∧ (x.1 60 3).toInt ≤ 800) ∧ ∀ i : Nat, (i : Int) < m → PQ x i
/-- later in reading -/
def La (x y : gd) : Prop := (∀ c k, 20 ≤ c → c < 40 → y.1 c k = x.1 c k) ∧ nx x ≤ nx y ∧ ∀ j : Nat, (j : Int) < nx x → y.1 42 j = x.1 42 j
/-- what reading changes -/
def sR (c k : Nat) : Prop := 40 ≤ c ∧ c < 120
def RX (x0 : gd) (X : String → gd → Prop) : Prop := ∀ y, fm sR x0 y → vp_in (y.1 100 4) 702 → ¬ y.1 100 6 = 0 → X iSE y
def FR (x : gd) : Prop := x.1 42 (x.1 100 4).toNatClampNeg = 0
section KRD
variable {G : kG} {q : kP} {d : Nat} {x x0 y z : gd} {F : Int32 → gd → Prop} {Fv : gd → Prop} {X : String → gd → Prop} {P : Option gv → gd → Prop} {m : Int}
theorem La_rf : La x x := ⟨fun _ _ _ _ => rfl, Int.le_refl _, fun _ _ => rfl⟩
theorem La_tr (a : La x y) (b : La y z) : La x z := ⟨fun c k h1 h2 => (b.1 c k h1 h2).trans (a.1 c k h1 h2), Int.le_trans a.2.1 b.2.1, fun j hj => (b.2.2 j (Int.lt_of_lt_of_le hj a.2.1)).trans (a.2.2 j hj)⟩
theorem La_BU (a : La x y) (h : BU x) : BU y := by
  obtain ⟨j, h1, h2⟩ := h
  exact ⟨j, Int.lt_of_lt_of_le h1 a.2.1, by rw [a.2.2 j h1]; exact h2⟩
theorem La_PQ (a : La x y) {i : Nat} (e1 : y.1 62 i = x.1 62 i) (e2 : y.1 63 i = x.1 63 i) (h : PQ x i) : PQ y i := by
  unfold PQ at h ⊢
  rw [e1, e2]
  refine ⟨fun c => (h.1 c).imp id (La_BU a), fun c => ?_⟩
  obtain ⟨t, h1, h2, h3⟩ := h.2 c
  have := a.2.1
  refine ⟨t, h1, by omega, ?_⟩
  rw [a.2.2 t h2]
  rcases h3 with h3 | ⟨h3, h4, h5, h6⟩
  · exact Or.inl h3
  · refine Or.inr ⟨h3, by omega, ?_, ?_⟩
    · rw [a.2.2 _ (by omega)]; exact h5
    · rw [a.1 23 _ (by omega) (by omega)]; exact h6
theorem kT_fm (h : kT x) (f : ∀ c k, 20 ≤ c → c < 40 → y.1 c k = x.1 c k) : kT y := by
  obtain ⟨q1, n2, q2, q3, q4, q5⟩ := h
  refine ⟨by unfold kL; rw [f 20 1 (by omega) (by omega)]; exact q1, n2, by rw [f 20 7 (by omega) (by omega)]; exact q2, q3, fun k hk => ?_, by rw [f 23 _ (by omega) (by omega)]; exact q5⟩
  rw [f 24 k (by omega) (by omega), f 26 k (by omega) (by omega), f 23 k (by omega) (by omega), f 27 k (by omega) (by omega)]
  exact q4 k hk
theorem RB_at (h : RB x) : vp_in (x.1 100 4) 702 := by rw [vp_in_iff]; have := h.2.1; have := h.2.2.1; unfold nx at *; omega
theorem RB_lt (h : RB x) (hs : ¬ x.1 23 (x.1 100 4).toNatClampNeg = 0) : nx x < mt x := by
  obtain ⟨⟨-, n, e1, e2, e3, e4⟩, h1, h2, h3⟩ := h
  unfold nx mt at *
  refine Int.lt_iff_le_and_ne.mpr ⟨h3, fun q => hs ?_⟩
  have : (x.1 100 4).toNatClampNeg = n := by rw [t_cl, q, e1]; rfl
  rw [this]; exact e4
/-- on to the next token; the one that is passed has the use u -/
theorem SV_adv (h : SV x m) (hs : ¬ x.1 23 (x.1 100 4).toNatClampNeg = 0) (h7 : nx x < 700) {u : Int32} (hu : u = 12 → 2 ≤ (x.1 100 4).toNatClampNeg ∧ x.1 42 ((x.1 100 4).toNatClampNeg - 2) = 7) (f : fm (fun c k => (c = 42 ∧ k = (x.1 100 4).toNatClampNeg) ∨ (c = 100 ∧ k = 4)) x y) (e1 : y.1 42 (x.1 100 4).toNatClampNeg = u) (e2 : nx y = nx x + 1) : SV y m ∧ FR y ∧ La x y := by
  have hlt := RB_lt h.1 hs
  obtain ⟨⟨hT, b1, b2, b3⟩, ⟨u1, u2⟩, hp, hP⟩ := h
  have eN : ((x.1 100 4).toNatClampNeg : Int) = nx x := by rw [t_cl]; unfold nx at *; omega
  have la : La x y := ⟨fun c k q1 q2 => f c k (by omega), by omega, fun j hj => f 42 j (by omega)⟩
  have e7 : mt y = mt x := by unfold mt; rw [f 20 7 (by omega)]
  refine ⟨⟨⟨kT_fm hT la.1, by omega, by omega, by omega⟩, ⟨fun j h1 h2 => ?_, fun j h1 h2 => ?_⟩, ?_, fun i hi => La_PQ la (f _ _ (by omega)) (f _ _ (by omega)) (hP i hi)⟩, ?_, la⟩
  · rw [f 42 j (by omega)]; exact u1 j (by omega) h2
  · by_cases hj : j = (x.1 100 4).toNatClampNeg
    · rw [hj, e1] at h2
      obtain ⟨g1, g2⟩ := hu h2
      rw [hj, f 42 _ (by omega)]
      exact ⟨g1, g2⟩
    · rw [f 42 j (by omega)] at h2
      obtain ⟨g1, g2⟩ := u2 j (by omega) h2
      rw [f 42 _ (by omega)]
      exact ⟨g1, g2⟩
  · rw [f 60 3 (by omega)]; exact hp
  · unfold FR
    have : (y.1 100 4).toNatClampNeg = (x.1 100 4).toNatClampNeg + 1 := by
      have : ((y.1 100 4).toNatClampNeg : Int) = nx y := by rw [t_cl]; unfold nx at *; omega
      omega
    rw [this, f 42 _ (by omega)]
    exact u1 _ (by omega) (by omega)
theorem kp_refuse (hq : kV q) (n : Int32) (h1 : vp_in (x.1 100 4) 702) (h0 : fm sR x0 x) (hx : RX x0 X) (hn : ¬ n = 0 := by decide) : KE G q (d + 6) zk_X7_refuse 0 [(0, vr 100), (1, vi n)] [] x P X := by
  have g : ∀ v : Int32, ¬ v = 0 → KE G q (d + 6) zk_X7_refuse 22 [] [vi v, vr 100] x P X := fun v hv => kg_X7_refuse_22 hq _ (fun z ez => by
    refine hx z ?_ ?_ (by rw [ez, si_get, if_pos ⟨rfl, rfl⟩]; exact hv)
    · rw [ez]; exact fm_si h0 (by unfold sR; omega)
    · have : z.1 100 4 = x.1 100 4 := by rw [ez]; (simp only [si_get, sfl_get, Nat.reduceEqDiff, eq_self, and_false, false_and, and_true, true_and, if_true, if_false, reduceIte, reduceCtorEq])
      rw [this]; exact h1)
  exact kg_X7_refuse_0 hq _ ⟨h1, fun _ => g _ hn, fun _ => g _ (by decide)⟩
theorem kp_sort (hq : kV q) (h1 : RB x) (h : F (x.1 23 (x.1 100 4).toNatClampNeg) x) : KT G q d zk_X7_sort 0 [(0, vr 100)] [] x (ri F) := kg_X7_sort_0 hq ⟨RB_at h1, ri_i h⟩
theorem nx_1 (h : RB x) : (x.1 100 4 + 1).toInt = nx x + 1 ∧ (x.1 100 4 + 1).toNatClampNeg = (x.1 100 4).toNatClampNeg + 1 := by
  have h1 := h.2.1
  have h2 := h.2.2.1
  have e : (x.1 100 4 + 1).toInt = nx x + 1 := t_add (by show _ ≤ _ + (1 : Int); unfold nx at *; omega) (by show _ + (1 : Int) ≤ _; unfold nx at *; omega)
  exact ⟨e, by rw [t_cl, e, t_cl]; unfold nx at *; omega⟩
theorem kp_sortBehind (hq : kV q) (h1 : RB x) (h : F (x.1 23 ((x.1 100 4).toNatClampNeg + 1)) x) : KT G q d zk_X7_sortBehind 0 [(0, vr 100)] [] x (ri F) := by
  obtain ⟨e1, e2⟩ := nx_1 h1
  refine kg_X7_sortBehind_0 hq ⟨?_, ?_⟩
  · rw [vp_in_iff]; have := h1.2.1; have := h1.2.2.1; omega
  · rw [e2]; exact ri_i h
theorem nx_si (h : RB x) (ey : y = si x 100 4 (x.1 100 4 + 1)) : nx y = nx x + 1 ∧ fm (fun c k => (c = 42 ∧ k = (x.1 100 4).toNatClampNeg) ∨ (c = 100 ∧ k = 4)) x y ∧ y.1 42 (x.1 100 4).toNatClampNeg = x.1 42 (x.1 100 4).toNatClampNeg := by
  refine ⟨?_, ?_, ?_⟩
  · have : y.1 100 4 = x.1 100 4 + 1 := by rw [ey]; (simp only [si_get, sfl_get, Nat.reduceEqDiff, eq_self, and_false, false_and, and_true, true_and, if_true, if_false, reduceIte, reduceCtorEq])
    unfold nx
    rw [this]; exact (nx_1 h).1
  · rw [ey]; exact fm_si (fm_rf _ _) (Or.inr ⟨rfl, rfl⟩)
  · rw [ey]; (simp only [si_get, sfl_get, Nat.reduceEqDiff, eq_self, and_false, false_and, and_true, true_and, if_true, if_false, reduceIte, reduceCtorEq])
/-- a part more -/
def AP (x y : gd) (p a : Int32) : Prop := fm (fun c k => (c = 60 ∧ k = 3) ∨ c = 62 ∨ c = 63) x y ∧ (0 ≤ (y.1 60 3).toInt ∧ (y.1 60 3).toInt ≤ 800) ∧ (x.1 60 3).toInt ≤ (y.1 60 3).toInt ∧ (∀ i : Nat, (i : Int) < (x.1 60 3).toInt → y.1 62 i = x.1 62 i ∧ y.1 63 i = x.1 63 i) ∧ ∀ i : Nat, (i : Int) < (y.1 60 3).toInt → (i : Int) < (x.1 60 3).toInt ∨ (y.1 62 i = p ∧ y.1 63 i = a)
theorem AP_La {p a : Int32} (h : AP x y p a) : La x y := ⟨fun c k q1 q2 => h.1 c k (by omega), by unfold nx; rw [h.1 100 4 (by omega)]; exact Int.le_refl _, fun j _ => h.1 42 j (by omega)⟩
theorem AP_SV {p a : Int32} (hm : m ≤ (x.1 60 3).toInt) (hS : SV x m) (h : AP x y p a) : SV y m := by
  have la := AP_La h
  obtain ⟨⟨hT, b1, b2, b3⟩, ⟨u1, u2⟩, hp, hP⟩ := hS
  have e4 : y.1 100 4 = x.1 100 4 := h.1 _ _ (by omega)
  have e7 : y.1 20 7 = x.1 20 7 := h.1 _ _ (by omega)
  refine ⟨⟨kT_fm hT la.1, by unfold nx; rw [e4]; exact b1, by unfold nx; rw [e4]; exact b2, by unfold nx mt; rw [e4, e7]; exact b3⟩, ⟨fun j h1 h2 => ?_, fun j h1 h2 => ?_⟩, h.2.1, fun i hi => La_PQ la (h.2.2.2.1 i (by omega)).1 (h.2.2.2.1 i (by omega)).2 (hP i hi)⟩
  · rw [h.1 42 j (by omega)]; exact u1 j (by unfold nx at h1; rw [e4] at h1; exact h1) h2
  · rw [h.1 42 j (by omega)] at h2
    rw [h.1 42 _ (by omega)]
    exact u2 j (by unfold nx at h1; rw [e4] at h1; exact h1) h2
/-- all parts are well -/
abbrev SU (x : gd) : Prop := SV x (x.1 60 3).toInt
theorem AP_SU {p a : Int32} (hS : SU x) (h : AP x y p a) (hp2 : p = 2 → (0 ≤ a.toInt ∧ a.toInt < 24) ∨ BU y) (hp6 : ¬ p = 6) : SU y := by
  obtain ⟨g1, g2, g3, g4⟩ := AP_SV (Int.le_refl _) hS h
  refine ⟨g1, g2, g3, fun i hi => ?_⟩
  rcases h.2.2.2.2 i hi with e | ⟨e1, e2⟩
  · exact g4 i e
  · unfold PQ
    rw [e1, e2]
    exact ⟨hp2, fun c => absurd c hp6⟩
/-- locals that are known -/
def KN (x : gd) : Prop := (0 ≤ (x.1 100 9).toInt ∧ (x.1 100 9).toInt ≤ 8) ∧ ∀ i : Nat, (i : Int) < (x.1 100 9).toInt → tk x (x.1 109 i)
end KRD
end
section
/-! the class: the reader's small steps, and when they refuse -/
section KRDF
variable {G : kG} {q : kP} {d : Nat} {x x0 y z : gd} {F : Int32 → gd → Prop} {Fv : gd → Prop} {X : String → gd → Prop} {P : Option gv → gd → Prop} {m : Int}
theorem kf_pass (hq : kV q) (h0 : fm sR x0 x) (hx : 700 ≤ nx x → RX x0 X) (hS : SV x m) (hs : ¬ x.1 23 (x.1 100 4).toNatClampNeg = 0) (hu : ¬ x.1 42 (x.1 100 4).toNatClampNeg = 12) (h : nx x < 700 → ∀ y, fm (fun c k => c = 100 ∧ k = 4) x y → nx y = nx x + 1 → SV y m → FR y → La x y → fm sR x0 y → Fv y) : KE G q (d + 7) zk_X7_pass 0 [(0, vr 100)] [] x (rv Fv) X := by
  refine kg_X7_pass_0 hq ⟨fun c y ey => rv_i ?_, fun c => kp_refuse hq _ (RB_at hS.1) h0 (hx (by rw [t_lt] at c; have : (700 : Int32).toInt = 700 := rfl; unfold nx; omega))⟩
  obtain ⟨e1, e2, e3⟩ := nx_si hS.1 ey
  obtain ⟨g1, g2, g3⟩ := SV_adv hS hs (by rw [t_lt] at c; exact c) (u := x.1 42 (x.1 100 4).toNatClampNeg) (fun q => absurd q hu) e2 e3 e1
  exact h (by rw [t_lt] at c; exact c) y (by rw [ey]; exact fm_si (fm_rf _ _) ⟨rfl, rfl⟩) e1 g1 g2 g3 (by rw [ey]; exact fm_si h0 (by unfold sR; omega))
theorem kf_need (hq : kV q) (h0 : fm sR x0 x) (w : Int32) (hx : (¬ x.1 23 (x.1 100 4).toNatClampNeg = w ∨ 700 ≤ nx x) → RX x0 X) (hS : SV x m) (hw : ¬ w = 0) (hu : FR x) (h : x.1 23 (x.1 100 4).toNatClampNeg = w → nx x < 700 → ∀ y, fm (fun c k => c = 100 ∧ k = 4) x y → nx y = nx x + 1 → SV y m → FR y → La x y → fm sR x0 y → Fv y) : KE G q (d + 7) zk_X7_need 0 [(0, vr 100), (1, vi w)] [] x (rv Fv) X := by
  have k7 : (700 : Int32).toInt = 700 := rfl
  have g32 : RX x0 X → ∀ s : Int32, ¬ s = 0 → KE G q (d + 7) zk_X7_need 32 [(0, vr 100)] [vi s, vr 100] x (rv Fv) X := fun hx s hs9 => kg_X7_need_32 hq _ (kp_refuse hq _ (RB_at hS.1) h0 hx hs9)
  have g18 : RX x0 X → KE G q (d + 7) zk_X7_need 18 [(0, vr 100), (1, vi w)] [] x (rv Fv) X := fun hx => kg_X7_need_18 hq _ (kp_sort hq hS.1 ⟨fun _ => g32 hx _ (by decide), fun _ => g32 hx _ (by decide)⟩)
  refine kg_X7_need_0 hq _ (kp_sort hq hS.1 ⟨fun c => g18 (hx (Or.inl c)), fun cw => ⟨fun c y ey => rv_i ?_, fun c => g18 (hx (Or.inr (by rw [t_lt, k7] at c; unfold nx; omega)))⟩⟩)
  obtain ⟨e1, e2, e3⟩ := nx_si hS.1 ey
  unfold FR at hu
  obtain ⟨g1, g2, g3⟩ := SV_adv hS (by rw [cw]; exact hw) (by rw [t_lt] at c; exact c) (u := x.1 42 (x.1 100 4).toNatClampNeg) (fun q => absurd q (by rw [hu]; decide)) e2 e3 e1
  exact h cw (by rw [t_lt] at c; exact c) y (by rw [ey]; exact fm_si (fm_rf _ _) ⟨rfl, rfl⟩) e1 g1 g2 g3 (by rw [ey]; exact fm_si h0 (by unfold sR; omega))
theorem kf_needFor (hq : kV q) (h0 : fm sR x0 x) (w u : Int32) (hx : (¬ x.1 23 (x.1 100 4).toNatClampNeg = w ∨ 700 ≤ nx x) → RX x0 X) (hS : SV x m) (hw : ¬ w = 0) (hu : u = 12 → 2 ≤ (x.1 100 4).toNatClampNeg ∧ x.1 42 ((x.1 100 4).toNatClampNeg - 2) = 7) (h : x.1 23 (x.1 100 4).toNatClampNeg = w → nx x < 700 → ∀ y, fm (fun c k => (c = 42 ∧ k = (x.1 100 4).toNatClampNeg) ∨ (c = 100 ∧ k = 4)) x y → y.1 42 (x.1 100 4).toNatClampNeg = u → nx y = nx x + 1 → SV y m → FR y → La x y → fm sR x0 y → tk y (x.1 100 4) → F (x.1 100 4) y) : KE G q (d + 7) zk_X7_needFor 0 [(0, vr 100), (1, vi w), (2, vi u)] [] x (ri F) X := by
  have g35 : x.1 23 (x.1 100 4).toNatClampNeg = w → (x.1 100 4).toInt < 700 → KE G q (d + 7) zk_X7_needFor 35 [(0, vr 100), (2, vi u)] [] x (ri F) X := by
    intro cw c
    refine kg_X7_needFor_35 hq _ ⟨RB_at hS.1, fun x2 e2 y ey => ?_⟩
    have f4 : x2.1 100 4 = x.1 100 4 := by rw [e2]; (simp only [si_get, sfl_get, Nat.reduceEqDiff, eq_self, and_false, false_and, and_true, true_and, if_true, if_false, reduceIte, reduceCtorEq])
    rw [f4] at ey
    have y4 : y.1 100 4 = x.1 100 4 + 1 := by rw [ey]; (simp only [si_get, sfl_get, Nat.reduceEqDiff, eq_self, and_false, false_and, and_true, true_and, if_true, if_false, reduceIte, reduceCtorEq])
    have yN : nx y = nx x + 1 := by unfold nx; rw [y4]; exact (nx_1 hS.1).1
    have er : y.1 100 4 - 1 = x.1 100 4 := by rw [y4]; exact Int32.add_sub_cancel _ _
    have ff : fm (fun c k => (c = 42 ∧ k = (x.1 100 4).toNatClampNeg) ∨ (c = 100 ∧ k = 4)) x y := by rw [ey, e2]; exact fm_si (fm_si (fm_rf _ _) (Or.inl ⟨rfl, rfl⟩)) (Or.inr ⟨rfl, rfl⟩)
    have eu : y.1 42 (x.1 100 4).toNatClampNeg = u := by rw [ey, e2]; (simp only [si_get, sfl_get, Nat.reduceEqDiff, eq_self, and_false, false_and, and_true, true_and, if_true, if_false, reduceIte, reduceCtorEq])
    have hlt := RB_lt hS.1 (by rw [cw]; exact hw)
    obtain ⟨g1, g2, g3⟩ := SV_adv hS (by rw [cw]; exact hw) c hu ff eu yN
    rw [er]
    refine ri_i (h cw c y ff eu yN g1 g2 g3 (by rw [ey, e2]; exact fm_si (fm_si h0 (by unfold sR; omega)) (by unfold sR; omega)) ⟨hS.1.2.1, ?_⟩)
    rw [ff 20 7 (by omega)]; exact hlt
  have g18 : (¬ x.1 23 (x.1 100 4).toNatClampNeg = w ∨ ¬ (x.1 100 4).toInt < 700) → KE G q (d + 7) zk_X7_needFor 18 [(0, vr 100), (1, vi w), (2, vi u)] [] x (ri F) X := by
    intro ho
    have k7 : (700 : Int32).toInt = 700 := rfl
    have hx := hx (ho.imp id (fun z => by unfold nx; omega))
    have g32 : ∀ s : Int32, ¬ s = 0 → KE G q (d + 7) zk_X7_needFor 32 [(0, vr 100), (2, vi u)] [vi s, vr 100] x (ri F) X := fun s hs9 => kg_X7_needFor_32 hq _ _ (kp_refuse hq _ (RB_at hS.1) h0 hx hs9)
    exact kg_X7_needFor_18 hq _ _ (kp_sort hq hS.1 ⟨fun _ => g32 _ (by decide), fun _ => g32 _ (by decide)⟩)
  exact kg_X7_needFor_0 hq _ _ (kp_sort hq hS.1 ⟨fun c => g18 (Or.inl c), fun cw => ⟨fun c => g35 cw (by rw [t_lt] at c; exact c), fun c => g18 (Or.inr (by rw [t_lt] at c; exact c))⟩⟩)
end KRDF
end
section
/-! what the class notes of names' uses, by what is told: HAw, what an event makes of the uses; HB, whether an event tells of a use -/
abbrev nn (x : gd) : Nat := (x.1 100 4).toNatClampNeg
def HAw (sN : Nat → Nat → Bool) (U : Nat → Int32) (n : Nat) (E : gV) (v : Nat × Nat × Nat) : Prop :=
  (v.1 = 3 → v.2.1 < n ∧ (kfi sN E.1 v.2.1 = none → U v.2.1 = 3)) ∧
  (v.1 = 6 → v.2.1 < n ∧ U v.2.1 = 6) ∧
  (v.1 = 7 → v.2.1 < n ∧ (U v.2.1 = 7 ∨ U v.2.1 = 9)) ∧
  (v.1 = 12 → v.2.1 < n ∧ U v.2.1 = 12 ∧ v.2.1 = v.2.2 + 2) ∧
  (v.1 = 23 → v.2.1 < n ∧ ((∃ k ∈ E.1.take (E.1.length - E.2.1.headD 0), sN k.1 v.2.1 = true) → U v.2.1 = 2)) ∧
  (v.1 = 24 ∨ v.1 = 25 → v.2.1 < n ∧ (kfi sN E.1 v.2.1 = none → U v.2.1 = 6)) ∧
  (v.1 = 26 → kfi sN E.1 v.2.1 = none → ∃ j, j < n ∧ (U j = 9 ∨ U j = 10)) ∧
  (v.1 = 27 → v.2.2 < n ∧ (kfi sN E.1 v.2.2 = none → (kfi sN E.1 v.2.1 = none → U v.2.2 = 8) ∧ (¬ kfi sN E.1 v.2.1 = none → U v.2.2 = 6))) ∧
  (v.1 = 27 → v.2.1 < n ∧ (kfi sN E.1 v.2.1 = none → U v.2.1 = 6)) ∧
  (v.1 = 65 ∨ v.1 = 66 → v.2.2 < n ∧ U v.2.2 = 4) ∧
  (v.1 = 67 → v.2.2 < n ∧ U v.2.2 = 5) ∧
  (v.1 = 70 → v.2.2 < n ∧ U v.2.2 = 13) ∧
  (v.1 = 31 ∨ v.1 = 32 ∨ v.1 = 33 ∨ v.1 = 34 → v.2.1 < n ∧ U v.2.1 = 1) ∧
  (v.1 = 32 → v.2.2 < n ∧ U v.2.2 = 11)
def HB (sN : Nat → Nat → Bool) (E : gV) (v : Nat × Nat × Nat) (j : Nat) (u : Int32) : Prop :=
  (v.1 = 3 ∧ u = 3 ∧ j = v.2.1 ∧ kfi sN E.1 v.2.1 = none) ∨
  (v.1 = 6 ∧ u = 6 ∧ j = v.2.1) ∨
  (v.1 = 7 ∧ u = 7 ∧ j = v.2.1) ∨
  (v.1 = 12 ∧ u = 12 ∧ j = v.2.1 ∧ j = v.2.2 + 2) ∨
  (v.1 = 23 ∧ u = 2 ∧ ∃ k ∈ E.1.take (E.1.length - E.2.1.headD 0), sN k.1 v.2.1 = true) ∨
  ((v.1 = 24 ∨ v.1 = 25) ∧ u = 6 ∧ j = v.2.1 ∧ kfi sN E.1 v.2.1 = none) ∨
  (v.1 = 26 ∧ kfi sN E.1 v.2.1 = none ∧ (u = 6 ∨ u = 9 ∨ u = 10)) ∨
  (v.1 = 27 ∧ u = 8 ∧ kfi sN E.1 v.2.2 = none ∧ kfi sN E.1 v.2.1 = none) ∨
  (v.1 = 27 ∧ u = 6 ∧ j = v.2.2 ∧ kfi sN E.1 v.2.2 = none ∧ ¬ kfi sN E.1 v.2.1 = none) ∨
  (v.1 = 27 ∧ u = 6 ∧ j = v.2.1 ∧ kfi sN E.1 v.2.1 = none) ∨
  ((v.1 = 65 ∨ v.1 = 66) ∧ u = 4 ∧ j = v.2.2) ∨
  (v.1 = 67 ∧ u = 5 ∧ j = v.2.2) ∨
  (v.1 = 70 ∧ u = 13 ∧ j = v.2.2) ∨
  ((v.1 = 31 ∨ v.1 = 32 ∨ v.1 = 33 ∨ v.1 = 34) ∧ u = 1 ∧ j = v.2.1) ∨
  (v.1 = 32 ∧ u = 11 ∧ j = v.2.2)
def HAs (sN : Nat → Nat → Bool) (U : Nat → Int32) (n : Nat) : gU → gV → Prop
  | [], _ => True
  | v :: L, E => HAw sN U n E v ∧ HAs sN U n L (exV E v)
def HBs (sN : Nat → Nat → Bool) : gU → gV → Nat → Int32 → Prop
  | [], _, _, _ => False
  | v :: L, E, j, u => HB sN E v j u ∨ HBs sN L (exV E v) j u
section MRK
variable {sN : Nat → Nat → Bool} {U U' : Nat → Int32} {n n' : Nat} {E : gV} {v : Nat × Nat × Nat} {L M : gU} {j : Nat} {u : Int32}
theorem HAs_app : ∀ {L : gU} {E : gV}, HAs sN U n (L ++ M) E ↔ HAs sN U n L E ∧ HAs sN U n M (exs L E) := by
  intro L
  induction L with
  | nil => intro E; exact ⟨fun h => ⟨trivial, h⟩, fun h => h.2⟩
  | cons v L ih =>
    intro E
    show HAw sN U n E v ∧ HAs sN U n (L ++ M) (exV E v) ↔ (HAw sN U n E v ∧ HAs sN U n L (exV E v)) ∧ HAs sN U n M (exs L (exV E v))
    rw [ih, and_assoc]
theorem HBs_app : ∀ {L : gU} {E : gV}, HBs sN (L ++ M) E j u ↔ HBs sN L E j u ∨ HBs sN M (exs L E) j u := by
  intro L
  induction L with
  | nil => intro E; exact ⟨Or.inr, fun h => h.elim (fun q => q.elim) id⟩
  | cons v L ih =>
    intro E
    show HB sN E v j u ∨ HBs sN (L ++ M) (exV E v) j u ↔ (HB sN E v j u ∨ HBs sN L (exV E v) j u) ∨ HBs sN M (exs L (exV E v)) j u
    rw [ih, or_assoc]
theorem HAs_one : HAs sN U n [v] E ↔ HAw sN U n E v := ⟨fun h => h.1, fun h => ⟨h, trivial⟩⟩
theorem HBs_one : HBs sN [v] E j u ↔ HB sN E v j u := ⟨fun h => h.elim id (fun q => q.elim), Or.inl⟩
theorem HA_up (h : HAw sN U n E v) (hn : n ≤ n') (e : ∀ j, j < n → U' j = U j) : HAw sN U' n' E v := by
  obtain ⟨h1, h2, h3, h4, h5, h6, h7, h8, h9, h10, h11, h12, h13, h14⟩ := h
  have up : ∀ {t : Nat}, t < n → t < n' := fun q => Nat.lt_of_lt_of_le q hn
  refine ⟨fun c => ⟨up (h1 c).1, fun z => ?_⟩, fun c => ⟨up (h2 c).1, ?_⟩, fun c => ⟨up (h3 c).1, ?_⟩, fun c => ⟨up (h4 c).1, ?_, (h4 c).2.2⟩, fun c => ⟨up (h5 c).1, fun z => ?_⟩, fun c => ⟨up (h6 c).1, fun z => ?_⟩, fun c z => ?_, fun c => ⟨up (h8 c).1, fun z => ⟨fun z1 => ?_, fun z1 => ?_⟩⟩, fun c => ⟨up (h9 c).1, fun z => ?_⟩, fun c => ⟨up (h10 c).1, ?_⟩, fun c => ⟨up (h11 c).1, ?_⟩, fun c => ⟨up (h12 c).1, ?_⟩, fun c => ⟨up (h13 c).1, ?_⟩, fun c => ⟨up (h14 c).1, ?_⟩⟩
  · rw [e _ (h1 c).1]; exact (h1 c).2 z
  · rw [e _ (h2 c).1]; exact (h2 c).2
  · rw [e _ (h3 c).1]; exact (h3 c).2
  · rw [e _ (h4 c).1]; exact (h4 c).2.1
  · rw [e _ (h5 c).1]; exact (h5 c).2 z
  · rw [e _ (h6 c).1]; exact (h6 c).2 z
  · obtain ⟨j, a, b⟩ := h7 c z
    exact ⟨j, up a, by rw [e _ a]; exact b⟩
  · rw [e _ (h8 c).1]; exact ((h8 c).2 z).1 z1
  · rw [e _ (h8 c).1]; exact ((h8 c).2 z).2 z1
  · rw [e _ (h9 c).1]; exact (h9 c).2 z
  · rw [e _ (h10 c).1]; exact (h10 c).2
  · rw [e _ (h11 c).1]; exact (h11 c).2
  · rw [e _ (h12 c).1]; exact (h12 c).2
  · rw [e _ (h13 c).1]; exact (h13 c).2
  · rw [e _ (h14 c).1]; exact (h14 c).2
theorem HAs_up (hn : n ≤ n') (e : ∀ j, j < n → U' j = U j) : ∀ {L : gU} {E : gV}, HAs sN U n L E → HAs sN U' n' L E := by
  intro L
  induction L with
  | nil => intro E _; exact trivial
  | cons v L ih => intro E h; exact ⟨HA_up h.1 hn e, ih h.2⟩
/-- events that tell of no use -/
def dull (v : Nat × Nat × Nat) : Prop := ∀ k ∈ [3, 6, 7, 12, 23, 24, 25, 26, 27, 65, 66, 67, 70, 31, 32, 33, 34], ¬ v.1 = k
theorem HA_dull (h : dull v) : HAw sN U n E v := by
  have no : ∀ k : Nat, k ∈ [3, 6, 7, 12, 23, 24, 25, 26, 27, 65, 66, 67, 70, 31, 32, 33, 34] → v.1 = k → False := fun k hk c => h k hk c
  refine ⟨fun c => (no 3 (by decide) c).elim, fun c => (no 6 (by decide) c).elim, fun c => (no 7 (by decide) c).elim, fun c => (no 12 (by decide) c).elim, fun c => (no 23 (by decide) c).elim, fun c => (c.elim (no 24 (by decide)) (no 25 (by decide))).elim, fun c => (no 26 (by decide) c).elim, fun c => (no 27 (by decide) c).elim, fun c => (no 27 (by decide) c).elim, fun c => (c.elim (no 65 (by decide)) (no 66 (by decide))).elim, fun c => (no 67 (by decide) c).elim, fun c => (no 70 (by decide) c).elim, fun c => ?_, fun c => (no 32 (by decide) c).elim⟩
  rcases c with c | c | c | c
  · exact (no 31 (by decide) c).elim
  · exact (no 32 (by decide) c).elim
  · exact (no 33 (by decide) c).elim
  · exact (no 34 (by decide) c).elim
theorem HA_3 {a b : Nat} : HAw sN U n E (3, a, b) ↔ a < n ∧ (kfi sN E.1 a = none → U a = 3) := by unfold HAw; simp
theorem HA_6 {a b : Nat} : HAw sN U n E (6, a, b) ↔ a < n ∧ U a = 6 := by unfold HAw; simp
theorem HA_7 {a b : Nat} : HAw sN U n E (7, a, b) ↔ a < n ∧ (U a = 7 ∨ U a = 9) := by unfold HAw; simp
theorem HA_12 {a b : Nat} : HAw sN U n E (12, a, b) ↔ a < n ∧ U a = 12 ∧ a = b + 2 := by unfold HAw; simp
end MRK
/-- from x to y, M was read and noted -/
def UR (sN : Nat → Nat → Bool) (E : gV) (x y : gd) (M : gU) : Prop := HAs sN (y.1 42) (nn y) M E ∧ ∀ j, nn x ≤ j → j < nn y → ¬ y.1 42 j = 0 → HBs sN M E j (y.1 42 j)
section URS
variable {sN : Nat → Nat → Bool} {E : gV} {v : Nat × Nat × Nat} {M N : gU} {x y z : gd}
theorem nn_is (h : 0 ≤ nx x) : ((nn x : Nat) : Int) = nx x := by
  unfold nn nx at *
  rw [t_cl]; omega
theorem La_nn (h0 : 0 ≤ nx x) (h : La x y) : nn x ≤ nn y ∧ ∀ j, j < nn x → y.1 42 j = x.1 42 j := by
  have a := nn_is h0
  have b := nn_is (x := y) (by have := h.2.1; omega)
  have c := h.2.1
  exact ⟨by omega, fun j hj => h.2.2 j (by omega)⟩
theorem UR_app (h0 : 0 ≤ nx y) (h : UR sN E x y M) (l : La y z) (g : UR sN (exs M E) y z N) : UR sN E x z (M ++ N) := by
  obtain ⟨n1, n2⟩ := La_nn h0 l
  refine ⟨HAs_app.mpr ⟨HAs_up n1 n2 h.1, g.1⟩, fun j h1 h2 h3 => HBs_app.mpr ?_⟩
  by_cases c : j < nn y
  · rw [n2 j c] at h3 ⊢
    exact Or.inl (h.2 j h1 c h3)
  · exact Or.inr (g.2 j (by omega) h2 h3)
/-- nothing but the place is the same -/
theorem UR_0 (e : nn y = nn x) : UR sN E x y [] := ⟨trivial, fun j h1 h2 => by omega⟩
theorem UR_same (h : UR sN E x y M) (e4 : nn z = nn y) (e : ∀ j, j < nn y → z.1 42 j = y.1 42 j) : UR sN E x z M := by
  refine ⟨by rw [e4]; exact HAs_up (Nat.le_refl _) e h.1, fun j h1 h2 h3 => ?_⟩
  rw [e4] at h2
  rw [e j h2] at h3 ⊢
  exact h.2 j h1 h2 h3
theorem UR_dull (h : UR sN E x y M) (hv : dull v) : UR sN E x y (M ++ [v]) := ⟨HAs_app.mpr ⟨h.1, HAs_one.mpr (HA_dull hv)⟩, fun j h1 h2 h3 => HBs_app.mpr (Or.inl (h.2 j h1 h2 h3))⟩
/-- a token without a use is passed -/
theorem UR_tok (h0 : 0 ≤ nx y) (h : UR sN E x y M) (l : La y z) (e : nn z = nn y + 1) (u : z.1 42 (nn y) = 0) : UR sN E x z M := by
  obtain ⟨n1, n2⟩ := La_nn h0 l
  refine ⟨HAs_up n1 n2 h.1, fun j h1 h2 h3 => ?_⟩
  by_cases c : j < nn y
  · rw [n2 j c] at h3 ⊢
    exact h.2 j h1 c h3
  · have : j = nn y := by omega
    rw [this] at h3
    exact absurd u h3
end URS
/-- the class's tokens, up to e, are those of K and V; names alike by sN -/
def smk (x : gd) (a b : Nat) : Prop := x.1 27 a = x.1 27 b ∧ x.1 26 a = x.1 26 b ∧ ∀ i, i < (x.1 26 a).toNatClampNeg → x.1 21 ((x.1 24 a).toNatClampNeg + i) = x.1 21 ((x.1 24 b).toNatClampNeg + i)
def KA (K V : Nat → Int32) (sN : Nat → Nat → Bool) (e : Nat) (x : gd) : Prop := (∀ j, j ≤ e → kc (x.1 23 j) = K j) ∧ (∀ j, j ≤ e → K j = 2 → x.1 27 j = V j) ∧ (∀ a b, a ≤ e → b ≤ e → K a = 1 → K b = 1 → (smk x a b ↔ sN a b = true)) ∧ e ≤ 700 ∧ (K e = 0 ∨ K e = 3 ∨ e = 700)
section KAS
variable {K V : Nat → Int32} {sN : Nat → Nat → Bool} {e : Nat} {x y : gd}
theorem KA_fm (h : KA K V sN e x) (f : ∀ c k, 20 ≤ c → c < 40 → y.1 c k = x.1 c k) : KA K V sN e y := by
  have r : ∀ c, 20 ≤ c → c < 40 → y.1 c = x.1 c := fun c h1 h2 => by funext k; exact f c k h1 h2
  unfold KA smk at h ⊢
  rw [r 23 (by omega) (by omega), r 27 (by omega) (by omega), r 26 (by omega) (by omega), r 24 (by omega) (by omega), r 21 (by omega) (by omega)]
  exact h
/-- a kind, and the class's number of it -/
theorem KA_k (h : KA K V sN e x) {j : Nat} (hj : j ≤ e) (c : Int32) (hc : ¬ kc c = -1) : x.1 23 j = c ↔ K j = kc c := by
  rw [← h.1 j hj]
  exact ⟨fun q => by rw [q], fun q => kc_i q hc⟩
/-- behind a token that is one, and not one too many, there is another -/
theorem KA_on (h : KA K V sN e x) {j : Nat} (hj : j ≤ e) (h7 : j < 700) (h0 : ¬ K j = 0) (h3 : ¬ K j = 3) : j + 1 ≤ e := by
  by_cases c : j = e
  · rw [c] at h0 h3 h7
    rcases h.2.2.2.2 with z | z | z
    · exact absurd z h0
    · exact absurd z h3
    · omega
  · omega
end KAS
section KSN
variable {G : kG} {q : kP} {d : Nat} {x : gd} {F : Int32 → gd → Prop} {K V : Nat → Int32} {sN : Nat → Nat → Bool} {e : Nat}
theorem kf_sameName (hq : kV q) (hT : kT x) (a b : Int32) (ha : tk x a) (hb : tk x b) (h : ∀ r, (¬ r = 0 ↔ smk x a.toNatClampNeg b.toNatClampNeg) → F r x) : KT G q d zk_X9_sameName 0 [(0, vr 20), (1, vi a), (2, vi b)] [] x (ri F) := by
  obtain ⟨va, a1, a2, a3⟩ := kT_at hT ha
  obtain ⟨vb, b1, b2, b3⟩ := kT_at hT hb
  have no : ∀ r : Int32, r = 0 → ¬ smk x a.toNatClampNeg b.toNatClampNeg → F r x := fun r e n => h r ⟨fun z => absurd e z, fun z => absurd z n⟩
  have ua := t_cl (x.1 26 a.toNatClampNeg)
  have pa := t_cl (x.1 24 a.toNatClampNeg)
  have pb := t_cl (x.1 24 b.toNatClampNeg)
  have loop : ∀ (n : Nat) (i : Int32), 0 ≤ i.toInt → x.1 27 a.toNatClampNeg = x.1 27 b.toNatClampNeg → x.1 26 a.toNatClampNeg = x.1 26 b.toNatClampNeg → (x.1 26 a.toNatClampNeg).toInt - i.toInt ≤ n → (∀ t, t < i.toNatClampNeg → x.1 21 ((x.1 24 a.toNatClampNeg).toNatClampNeg + t) = x.1 21 ((x.1 24 b.toNatClampNeg).toNatClampNeg + t)) → KT G q d zk_X9_sameName 34 [(0, vr 20), (1, vi a), (2, vi b), (3, vi i)] [] x (ri F) := by
    intro n
    induction n with
    | zero =>
      intro i i0 hv hs hn ht
      have ui := t_cl i
      refine kg_X9_sameName_34 hq _ _ _ ⟨va, fun _ => ri_i (h _ ⟨fun _ => ⟨hv, hs, fun t hl => ht t (by omega)⟩, fun _ => by decide⟩), fun c => ?_⟩
      exfalso; rw [t_le] at c; omega
    | succ n ih =>
      intro i i0 hv hs hn ht
      have ui := t_cl i
      refine kg_X9_sameName_34 hq _ _ _ ⟨va, fun c => ri_i (h _ ⟨fun _ => ⟨hv, hs, fun t hl => ht t (by rw [t_le] at c; omega)⟩, fun _ => by decide⟩), fun c => ?_⟩
      rw [t_le] at c
      have e1 : (i + 1).toInt = i.toInt + 1 := t_add (by show _ ≤ _ + (1 : Int); omega) (by show _ + (1 : Int) ≤ _; omega)
      have e1c : (i + 1).toNatClampNeg = i.toNatClampNeg + 1 := by rw [t_cl]; omega
      have hs2 : (x.1 26 a.toNatClampNeg).toInt = (x.1 26 b.toNatClampNeg).toInt := by rw [hs]
      have e2 := t_add (a := x.1 24 a.toNatClampNeg) (b := i) (by omega) (by omega)
      have e3 := t_add (a := x.1 24 b.toNatClampNeg) (b := i) (by omega) (by omega)
      have e2c : (x.1 24 a.toNatClampNeg + i).toNatClampNeg = (x.1 24 a.toNatClampNeg).toNatClampNeg + i.toNatClampNeg := by rw [t_cl]; omega
      have e3c : (x.1 24 b.toNatClampNeg + i).toNatClampNeg = (x.1 24 b.toNatClampNeg).toNatClampNeg + i.toNatClampNeg := by rw [t_cl]; omega
      rw [e2c, e3c]
      refine ⟨va, by rw [vp_in_iff]; omega, vb, by rw [vp_in_iff]; omega, fun c2 => ih _ (by omega) hv hs (by omega) (fun t hl => ?_), fun c2 => ri_i (no _ rfl (fun z => c2 (z.2.2 i.toNatClampNeg (by omega))))⟩
      by_cases ct : t = i.toNatClampNeg
      · rw [ct]; exact c2
      · exact ht t (by omega)
  exact kg_X9_sameName_0 hq _ _ ⟨va, vb, fun c => ri_i (no _ rfl (fun z => c z.1)), fun cv => ⟨va, vb, fun c => loop ((x.1 26 a.toNatClampNeg).toInt).toNat _ (by decide) cv c (by show _ - (0 : Int) ≤ _; omega) (fun t hl => absurd hl (Nat.not_lt_zero _)), fun c => ri_i (no _ rfl (fun z => c z.2.1))⟩⟩
end KSN
end
section
/-! the locals that are known, on the class's side -/
section KSO
variable {G : kG} {q : kP} {d : Nat} {x : gd} {F : Int32 → gd → Prop} {K V : Nat → Int32} {sN : Nat → Nat → Bool} {e : Nat}
/-- the locals that are known, told last first -/
def KV' (K : Nat → Int32) (e : Nat) (x : gd) (E : gV) : Prop := (x.1 100 9).toInt = E.1.length ∧ ∀ p k, E.1[p]? = some k → (x.1 109 (E.1.length - 1 - p)).toNatClampNeg = k.1 ∧ K k.1 = 1 ∧ k.1 ≤ e
theorem KV_fm {y : gd} {E : gV} (h : KV' K e x E) (f9 : y.1 100 9 = x.1 100 9) (f : ∀ k, y.1 109 k = x.1 109 k) : KV' K e y E := by
  unfold KV' at h ⊢
  rw [f9]
  exact ⟨h.1, fun p k hp => by rw [f]; exact h.2 p k hp⟩
theorem kfi_at : ∀ {l : gK} {p : Nat} {k : Nat × Nat} {t : Nat}, (∀ p' k', p' < p → l[p']? = some k' → ¬ sN k'.1 t = true) → l[p]? = some k → sN k.1 t = true → kfi sN l t = some (l.length - 1 - p) := by
  intro l
  induction l with
  | nil => intro p k t _ h; exact absurd h (by simp)
  | cons a l ih =>
    intro p k t no hk hs
    cases p with
    | zero =>
      have e1 : a = k := Option.some.inj hk
      show (if sN a.1 t = true then some l.length else kfi sN l t) = _
      rw [e1, if_pos hs]
      rfl
    | succ p =>
      have na := no 0 a (by omega) rfl
      show (if sN a.1 t = true then some l.length else kfi sN l t) = _
      have r := ih (p := p) (k := k) (t := t) (fun p' k' hp' hk' => no (p' + 1) k' (Nat.succ_lt_succ hp') hk') hk hs
      rw [if_neg na, r, List.length_cons]
      congr 1
      omega
theorem kfi_none : ∀ {l : gK} {t : Nat}, (∀ (p : Nat) (k : Nat × Nat), l[p]? = some k → ¬ sN k.1 t = true) → kfi sN l t = none := by
  intro l
  induction l with
  | nil => intro t _; rfl
  | cons a l ih =>
    intro t no
    show (if sN a.1 t = true then some l.length else kfi sN l t) = _
    rw [if_neg (no 0 a rfl), ih (fun p k hk => no (p + 1) k hk)]
theorem take_ex {l : gK} {m : Nat} {P : Nat × Nat → Prop} : (∃ k ∈ l.take m, P k) ↔ ∃ p k, p < m ∧ l[p]? = some k ∧ P k := by
  constructor
  · rintro ⟨k, hk, hp⟩
    obtain ⟨i, hi, e⟩ := List.getElem_of_mem hk
    rw [List.length_take] at hi
    refine ⟨i, k, by omega, ?_, hp⟩
    rw [List.getElem_take] at e
    rw [List.getElem?_eq_getElem (by omega), e]
  · rintro ⟨i, k, hi, hk, hp⟩
    refine ⟨k, List.mem_of_getElem? (i := i) ?_, hp⟩
    rw [List.getElem?_take, if_pos hi]
    exact hk
end KSO
end
section
/-! the search of a local -/
section KSO
variable {G : kG} {q : kP} {d : Nat} {x : gd} {F : Int32 → gd → Prop} {K V : Nat → Int32} {sN : Nat → Nat → Bool} {e : Nat}
theorem kk_dn {i : Int32} (h0 : 0 ≤ i.toInt) (h8 : i.toInt ≤ 8) : (i + (-1)).toInt = i.toInt + (-1) := by rw [t_add (by rw [tm1]; omega) (by rw [tm1]; omega), tm1]
theorem kf_knownFrom {E : gV} (hq : kV q) (hT : kT x) (hK : KN x) (hA : KA K V sN e x) (hE : KV' K e x E) (f t : Int32) (hf : 0 ≤ f.toInt) (ht : tk x t) (hte : t.toNatClampNeg ≤ e) (ht1 : K t.toNatClampNeg = 1) (h : ∀ r : Int32, ((r = -1 ∧ ∀ (p : Nat) (k : Nat × Nat), p < E.1.length - f.toNatClampNeg → E.1[p]? = some k → ¬ sN k.1 t.toNatClampNeg = true) ∨ ∃ n : Nat, r.toInt = n ∧ f.toInt ≤ n ∧ n < E.1.length ∧ kfi sN E.1 t.toNatClampNeg = some n ∧ ∃ (p : Nat) (k : Nat × Nat), p < E.1.length - f.toNatClampNeg ∧ E.1[p]? = some k ∧ sN k.1 t.toNatClampNeg = true) → F r x) : KT G q (d + 1) zk_X7_knownFrom 0 [(0, vr 100), (1, vi f), (2, vi t)] [] x (ri F) := by
  obtain ⟨⟨k0, k8⟩, hk⟩ := hK
  obtain ⟨e9, he⟩ := hE
  have uf := t_cl f
  have loop : ∀ (n p : Nat) (i : Int32), i.toInt + 1 + p = E.1.length → p + n = E.1.length → (∀ p' k', p' < p → E.1[p']? = some k' → ¬ sN k'.1 t.toNatClampNeg = true) → KT G q (d + 1) zk_X7_knownFrom 7 [(0, vr 100), (1, vi f), (2, vi t), (3, vi i)] [] x (ri F) := by
    intro n
    induction n with
    | zero =>
      intro p i hi hp no
      refine kg_X7_knownFrom_7 hq _ _ _ ⟨fun _ => ri_i (h _ (Or.inl ⟨rfl, fun p' k' a b => no p' k' (by omega) b⟩)), fun c => ?_⟩
      exfalso; rw [t_lt] at c; omega
    | succ n ih =>
      intro p i hi hp no
      refine kg_X7_knownFrom_7 hq _ _ _ ⟨fun c => ri_i (h _ (Or.inl ⟨rfl, fun p' k' a b => no p' k' ?_ b⟩)), fun c => ?_⟩
      · rw [t_lt] at c; omega
      rw [t_lt] at c
      have ui := t_cl i
      have f0 : 0 ≤ i.toInt := by omega
      have f8 : i.toInt ≤ 8 := by omega
      have pl : p < E.1.length := by omega
      obtain ⟨k, ek⟩ : ∃ k, E.1[p]? = some k := ⟨_, List.getElem?_eq_getElem pl⟩
      have ei : E.1.length - 1 - p = i.toNatClampNeg := by omega
      have v1 : vp_in i 8 := by rw [vp_in_iff]; omega
      have v2 : ((i.toNatClampNeg : Nat) : Int) < (x.1 100 9).toInt := by omega
      have v3 : i.toInt + (-1) + 1 + ((p + 1 : Nat) : Int) = E.1.length := by omega
      have v4 : i.toInt = ((i.toNatClampNeg : Nat) : Int) ∧ f.toInt ≤ ((i.toNatClampNeg : Nat) : Int) ∧ i.toNatClampNeg < E.1.length ∧ p < E.1.length - f.toNatClampNeg := by omega
      have v5 : p + 1 + n = E.1.length := by omega
      obtain ⟨q1, q2, q3⟩ := he p k ek
      rw [ei] at q1
      refine ⟨v1, kf_sameName hq hT _ _ (hk _ v2) ht (fun r hr => ?_)⟩
      rw [q1, hA.2.2.1 _ _ q3 hte q2 ht1] at hr
      refine ⟨fun c0 => ih (p + 1) _ (by rw [kk_dn f0 f8]; exact v3) v5 (fun p' k' a b => ?_), fun c0 => ri_i (h _ (Or.inr ⟨i.toNatClampNeg, v4.1, v4.2.1, v4.2.2.1, ?_, p, k, v4.2.2.2, ek, hr.mp c0⟩))⟩
      · by_cases cp : p' = p
        · rw [cp, ek] at b
          rw [← Option.some.inj b]
          exact fun z => hr.mpr z c0
        · exact no p' k' (Nat.lt_of_le_of_ne (Nat.le_of_lt_succ a) cp) b
      · rw [kfi_at no ek (hr.mp c0), ei]
  have e1 : (x.1 100 9 - 1).toInt = (x.1 100 9).toInt - 1 := t_sub (by show _ ≤ _ - (1 : Int); omega) (by show _ - (1 : Int) ≤ _; omega)
  exact kg_X7_knownFrom_0 hq _ _ (loop E.1.length 0 _ (by omega) (by omega) (fun p' k' a => absurd a (Nat.not_lt_zero _)))
end KSO
end
