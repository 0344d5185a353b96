/-! cutting the whole text -/
theorem TSq_cg {b : Nat → Int32} {n e : Nat} {K K' V V' : Nat → Int32} {P P' Z Z' : Nat → Nat} (h : TSq b n e K P Z V) (g : ∀ j, j ≤ e → K' j = K j ∧ P' j = P j ∧ Z' j = Z j ∧ V' j = V j) : TSq b n e K' P' Z' V' := by
  obtain ⟨h0, h1, h2, h3, h4, h5⟩ := h
  refine ⟨h0, by rw [(g 0 (by omega)).2.1]; exact h1, fun j hj => ?_, fun j hj => ?_, fun j hj => ?_, by rw [(g e (by omega)).1]; exact h5⟩
  · rw [(g (j + 1) (by omega)).2.1, (g j (by omega)).2.1, (g j (by omega)).2.2.1]; exact h2 j hj
  · obtain ⟨a1, a2, a3, a4⟩ := g j hj
    rw [a1, a2, a3, a4]; exact h3 j hj
  · rw [(g j (by omega)).1]; exact h4 j hj
theorem TC_701 {b : Nat → Int32} {n p : Nat} {K V : Nat → Int32} {P Z : Nat → Nat} (h : TC b n 701 p K P Z V) : TSq b n 700 K P Z V := by
  obtain ⟨h1, h2, h3, h4⟩ := h
  exact ⟨by omega, (h2 (by omega)).1, fun j hj => h3 j (by omega), fun j hj => (h4 j (by omega)).1, fun j hj => (h4 j (by omega)).2, Or.inr (Or.inr rfl)⟩
theorem whv_0 {b : Nat → Int32} {p : Nat} : ∀ m, m ≤ 9 → (∀ i, i < m → isD (b (p + i))) → vW (Int32.ofNat m) (whv b p m) := by
  intro m
  induction m with
  | zero => intro _ _; exact vW_0
  | succ m ih =>
    intro hm hd
    have e1 : (Int32.ofNat m).toInt = m := Int32.toInt_ofNat_of_lt (by omega)
    have e2 : (Int32.ofNat (m + 1)).toInt = ((m + 1 : Nat) : Int) := Int32.toInt_ofNat_of_lt (by omega)
    have k1 : (1 : Int32).toInt = 1 := rfl
    have k9 : (9 : Int32).toInt = 9 := rfl
    have e3 : (Int32.ofNat m + 1).toInt = (Int32.ofNat m).toInt + 1 := by rw [t_add (by omega) (by omega), k1]
    have e4 : Int32.ofNat (m + 1) = Int32.ofNat m + 1 := by rw [t_eq, e2, e3, e1]; omega
    rw [e4]
    exact vW_up (by omega) (by rw [t_le, k9]; omega) e3 (hd m (by omega)) (ih (by omega) (fun i hi => hd i (by omega)))
theorem sgk_2 {c d : Int32} : ¬ sgk c d = 2 := by
  unfold sgk
  repeat' (first | apply ite_n | decide)
theorem TOK_v {b : Nat → Int32} {n p m : Nat} {k v : Int32} (h : TOK b n p k m v) (hk : k = 2) : 0 ≤ v.toInt := by
  rcases h with ⟨-, h⟩ | ⟨-, -, -, ⟨w, hw, -, h⟩ | ⟨-, ⟨-, h⟩ | ⟨-, h⟩⟩⟩ | ⟨-, -, ⟨-, -, h9, hd, hv⟩ | ⟨h, -⟩⟩ | ⟨-, -, h, -⟩
  · rw [hk] at h; exact absurd h (by decide)
  · rw [hk] at h
    have e : (Int32.ofNat (10 + w)).toInt = ((10 + w : Nat) : Int) := Int32.toInt_ofNat_of_lt (by omega)
    rw [← h] at e
    have : (2 : Int32).toInt = 2 := rfl
    omega
  · rw [hk] at h; exact absurd h (by decide)
  · rw [hk] at h; exact absurd h (by decide)
  · rw [hv]; exact (whv_0 m h9 hd).1
  · rw [hk] at h; exact absurd h (by decide)
  · rw [hk] at h; exact absurd h.symm sgk_2
abbrev kP' (x : gd) : Nat → Nat := fun j => (x.1 24 j).toNatClampNeg
abbrev kZ' (x : gd) : Nat → Nat := fun j => (x.1 26 j).toNatClampNeg
abbrev kK' (x : gd) : Nat → Int32 := fun j => kc (x.1 23 j)
theorem kc_1 {s : Int32} (h : s = 1) : kc s = 3 := by rw [h]; decide
theorem kc_3 {s : Int32} (h : s = 3) : kc s = 2 := by rw [h]; decide
theorem TOK_01 {b : Nat → Int32} {n p m : Nat} {k v : Int32} (h : TOK b n p k m v) (hp : p < n) : ¬ k = 0 := by
  rcases h with ⟨h, -⟩ | ⟨-, -, -, ⟨w, hw, -, h⟩ | ⟨-, ⟨-, h⟩ | ⟨-, h⟩⟩⟩ | ⟨-, -, ⟨h, -⟩ | ⟨h, -⟩⟩ | ⟨-, -, h, -⟩
  · omega
  · have e : (Int32.ofNat (10 + w)).toInt = ((10 + w : Nat) : Int) := Int32.toInt_ofNat_of_lt (by omega)
    rw [← h] at e
    intro q
    rw [q] at e
    have : (0 : Int32).toInt = 0 := rfl
    omega
  · rw [h]; decide
  · rw [h]; decide
  · rw [h]; decide
  · rw [h]; decide
  · rw [h]
    unfold sgk
    repeat' (first | apply ite_n | decide)
/-- what the class cut: e tokens that go on, and the last -/
def KCUT (b : Nat → Int32) (N : Nat) (x : gd) (e : Nat) : Prop := TSq b N e (kK' x) (kP' x) (kZ' x) (x.1 27) ∧ ((x.1 23 e = 0 ∧ (x.1 20 7).toInt = e) ∨ (¬ x.1 23 e = 0 ∧ (x.1 20 7).toInt = e + 1)) ∧ (∀ j, j ≤ e → x.1 23 j = 2 → x.1 27 j = hsh b (kP' x j) (kZ' x j)) ∧ kT x
section KCA
variable {G : kG} {q : kP} {d : Nat} {x : gd} {F : Int32 → gd → Prop} {Fv : gd → Prop}
theorem kf_cut (hq : kV q) (hl : kL x) (h : ∀ x' e, fm skC x x' → KCUT (kby x) (kln x) x' e → Fv x') : KT G q (d + 10) zk_X9_cut 0 [(0, vr 20)] [] x (rv Fv) := by
  obtain ⟨b, eb⟩ : ∃ b, b = kby x := ⟨_, rfl⟩
  obtain ⟨N, eN⟩ : ∃ N, N = kln x := ⟨_, rfl⟩
  rw [← eb, ← eN] at h
  have uN : (N : Int) = (x.1 20 1).toInt := by
    rw [eN]
    show (((x.1 20 1).toNatClampNeg : Nat) : Int) = _
    rw [t_cl]; have := hl.1; omega
  have g1 := hl.2
  have fin : ∀ (n : Nat) (y : gd), fm skC x y → (y.1 20 7).toInt = n → n ≤ 701 → kTw y n → (∀ j, j < n → y.1 23 j = 2 → y.1 27 j = hsh b (kP' y j) (kZ' y j)) → ((0 < n ∧ TSq b N (n - 1) (kK' y) (kP' y) (kZ' y) (y.1 27)) ∨ (n ≤ 700 ∧ ∃ p, lx b N p = N ∧ TC b N n p (kK' y) (kP' y) (kZ' y) (y.1 27))) → KT G q (d + 10) zk_X9_cut 122 [(0, vr 20)] [] y (rv Fv) := by
    intro n y hf en hn hw hh hT
    have em : (y.1 20 7).toNatClampNeg = n := by rw [t_cl, en]; rfl
    have vin : vp_in (y.1 20 7) 702 := by rw [vp_in_iff]; omega
    refine kg_X9_cut_122 hq ⟨vin, fun x2 e2 => ?_⟩
    rw [em] at e2
    have m2 : x2.1 20 7 = y.1 20 7 := by rw [e2]; (simp only [si_get, sfl_get, Nat.reduceEqDiff, eq_self, and_false, false_and, and_true, true_and, if_true, if_false, reduceIte, reduceCtorEq])
    refine ⟨by rw [m2]; exact vin, fun x4 e4 => ?_⟩
    rw [m2, em] at e4
    have m4 : x4.1 20 7 = y.1 20 7 := by rw [e4, ← m2]; (simp only [si_get, sfl_get, Nat.reduceEqDiff, eq_self, and_false, false_and, and_true, true_and, if_true, if_false, reduceIte, reduceCtorEq])
    refine ⟨by rw [m4]; exact vin, fun x6 e6 => rv_i ?_⟩
    have hf6 : fm skC x x6 := by
      rw [e6, e4, e2]
      exact fm_si (fm_si (fm_si hf (Or.inl (by omega))) (Or.inl (by omega))) (Or.inl (by omega))
    rw [m4, em] at e6
    have m6 : x6.1 20 7 = y.1 20 7 := by rw [e6, ← m4]; (simp only [si_get, sfl_get, Nat.reduceEqDiff, eq_self, and_false, false_and, and_true, true_and, if_true, if_false, reduceIte, reduceCtorEq])
    have g : ∀ c j, 23 ≤ c → c ≤ 27 → j ≠ n → x6.1 c j = y.1 c j := by
      intro c j c1 c2 hj
      rw [e6, si_get, if_neg (fun q => hj q.2), e4, si_get, if_neg (fun q => hj q.2), e2, si_get, if_neg (fun q => hj q.2)]
    have s23 : x6.1 23 n = 0 := by rw [e6, e4, e2]; (simp only [si_get, sfl_get, Nat.reduceEqDiff, eq_self, and_false, false_and, and_true, true_and, if_true, if_false, reduceIte, reduceCtorEq])
    have s24 : x6.1 24 n = x.1 20 1 := by rw [e6, e4, e2]; (simp only [si_get, sfl_get, Nat.reduceEqDiff, eq_self, and_false, false_and, and_true, true_and, if_true, if_false, reduceIte, reduceCtorEq]); exact hf _ _ (by unfold skC; omega)
    have s26 : ∀ j, x6.1 26 j = y.1 26 j := fun j => by rw [e6, e4, e2]; (simp only [si_get, sfl_get, Nat.reduceEqDiff, eq_self, and_false, false_and, and_true, true_and, if_true, if_false, reduceIte, reduceCtorEq])
    have s27 : ∀ j, x6.1 27 j = y.1 27 j := fun j => by rw [e6, e4, e2]; (simp only [si_get, sfl_get, Nat.reduceEqDiff, eq_self, and_false, false_and, and_true, true_and, if_true, if_false, reduceIte, reduceCtorEq])
    have hT6 : kT x6 := by
      refine ⟨?_, n, by rw [m6]; exact en, hn, fun j hj => ?_, s23⟩
      · unfold kL
        have : x6.1 20 1 = x.1 20 1 := hf6 _ _ (by unfold skC; omega)
        rw [this]; exact hl
      · rw [g 24 j (by omega) (by omega) (by omega), g 26 j (by omega) (by omega) (by omega), g 23 j (by omega) (by omega) (by omega), g 27 j (by omega) (by omega) (by omega)]
        exact hw j hj
    have hh6 : ∀ j, j < n → x6.1 23 j = 2 → x6.1 27 j = hsh b (kP' x6 j) (kZ' x6 j) := by
      intro j hj
      unfold kP' kZ'
      rw [g 24 j (by omega) (by omega) (by omega), g 26 j (by omega) (by omega) (by omega), g 23 j (by omega) (by omega) (by omega), g 27 j (by omega) (by omega) (by omega)]
      exact hh j hj
    rcases hT with ⟨n0, hT⟩ | ⟨n7, p, hp, hT⟩
    · refine h x6 (n - 1) hf6 ⟨TSq_cg hT (fun j hj => ?_), Or.inr ⟨?_, by rw [m6, en]; omega⟩, fun j hj => hh6 j (by omega), hT6⟩
      · unfold kK' kP' kZ'
        rw [g 24 j (by omega) (by omega) (by omega), g 26 j (by omega) (by omega) (by omega), g 23 j (by omega) (by omega) (by omega), g 27 j (by omega) (by omega) (by omega)]
        exact ⟨rfl, rfl, rfl, rfl⟩
      · rw [g 23 _ (by omega) (by omega) (by omega)]
        exact (hw (n - 1) (by omega)).2.1
    · have u1 : (x.1 20 1).toNatClampNeg = N := eN.symm
      have up := TC_up (K' := kK' x6) (P' := kP' x6) (Z' := kZ' x6) (V' := x6.1 27) (k := 0) (q := N) (m := kZ' x6 n) (v := x6.1 27 n) hT (fun j => ?_) (fun j => ?_) (fun j => ?_) (fun j => ?_) hp.symm (Or.inl ⟨Nat.le_refl _, rfl⟩)
      · obtain ⟨u2, u3, u4, u5, -, -, u6⟩ := up
        refine h x6 n hf6 ⟨⟨n7, u3, u4, fun j hj => ?_, fun j hj => (u2 j hj).2, Or.inl u6⟩, Or.inl ⟨s23, by rw [m6, en]⟩, fun j hj => ?_, hT6⟩
        · by_cases cj : j = n
          · rw [cj]; exact u5
          · exact (u2 j (by omega)).1
        · by_cases cj : j = n
          · rw [cj, s23]; exact fun z => absurd z (by decide)
          · exact hh6 j (by omega)
      · by_cases cj : j = n
        · rw [if_pos cj, cj]
          show kc (x6.1 23 n) = 0
          rw [s23]; decide
        · rw [if_neg cj]
          show kc (x6.1 23 j) = kc (y.1 23 j)
          rw [g 23 j (by omega) (by omega) cj]
      · by_cases cj : j = n
        · rw [if_pos cj, cj]
          show (x6.1 24 n).toNatClampNeg = N
          rw [s24]; exact u1
        · rw [if_neg cj]
          show (x6.1 24 j).toNatClampNeg = (y.1 24 j).toNatClampNeg
          rw [g 24 j (by omega) (by omega) cj]
      · by_cases cj : j = n
        · rw [if_pos cj, cj]
        · rw [if_neg cj]
          show (x6.1 26 j).toNatClampNeg = (y.1 26 j).toNatClampNeg
          rw [s26]
      · by_cases cj : j = n
        · rw [if_pos cj, cj]
        · rw [if_neg cj, s27]
  have loop : ∀ (m n : Nat) (l1 l2 : Int32) (y : gd), n + m = 701 → l2.toInt = n → fm skC x y → (y.1 20 7).toInt = n → kTw y n → 0 ≤ (y.1 20 8).toInt → (y.1 20 8).toInt ≤ (x.1 20 1).toInt → (∀ j, j < n → y.1 23 j = 2 → y.1 27 j = hsh b (kP' y j) (kZ' y j)) → (¬ l1 = 0 → TC b N n (y.1 20 8).toNatClampNeg (kK' y) (kP' y) (kZ' y) (y.1 27)) → (l1 = 0 → 0 < n ∧ TSq b N (n - 1) (kK' y) (kP' y) (kZ' y) (y.1 27)) → KT G q (d + 10) zk_X9_cut 19 [(0, vr 20), (1, vi l1), (2, vi l2)] [] y (rv Fv) := by
    intro m
    induction m with
    | zero =>
      intro n l1 l2 y hn el hf en hw a0 a1 hh t1 t0
      refine kg_X9_cut_19 hq _ _ ⟨fun _ => fin n y hf en (by omega) hw hh ?_, fun c => ?_⟩
      · by_cases c0 : l1 = 0
        · exact Or.inl (t0 c0)
        · have n701 : n = 701 := by omega
          have := t1 c0
          rw [n701] at this ⊢
          exact Or.inl ⟨by omega, TC_701 this⟩
      · exfalso; clear h fin hf hw hh t1 t0; ((try simp only [t_lt, t_le, t_eq, t_cl, tm1, vp_in_iff, Int32.toInt_add, Int32.toInt_sub, Int32.toInt_mul, Int32.reduceToInt, Nat.reducePow] at *) <;> (try simp (disch := omega) only [bm] at *) <;> omega)
    | succ m ih =>
      intro n l1 l2 y hn el hf en hw a0 a1 hh t1 t0
      have ely : y.1 20 1 = x.1 20 1 := hf _ _ (by unfold skC; omega)
      have hly : kL y := by unfold kL; rw [ely]; exact hl
      have eby : kby y = b := by rw [eb]; funext p; unfold kby; rw [hf 21 p (by unfold skC; omega)]
      have eln : kln y = N := by rw [eN]; unfold kln; rw [ely]
      refine kg_X9_cut_19 hq _ _ ⟨fun c => ?_, fun c => ⟨fun c0 => fin n y hf en (by omega) hw hh (Or.inl (t0 c0)), fun c0 => ?_⟩⟩
      · exfalso; clear h fin hf hw hh t1 t0 ih; ((try simp only [t_lt, t_le, t_eq, t_cl, tm1, vp_in_iff, Int32.toInt_add, Int32.toInt_sub, Int32.toInt_mul, Int32.reduceToInt, Nat.reducePow] at *) <;> (try simp (disch := omega) only [bm] at *) <;> omega)
      have tc := t1 c0
      have e1 : (l2 + 1).toInt = ((n + 1 : Nat) : Int) := by
        have k1 : (1 : Int32).toInt = 1 := rfl
        rw [t_add (by omega) (by omega), k1, el]; rfl
      refine kf_skip hq hly a0 (by rw [ely]; exact a1) (fun x3 f3 b1 b2 b3 => ?_)
      rw [eby, eln] at b3
      have m3 : x3.1 20 7 = y.1 20 7 := f3 _ _ (by omega)
      have l3 : x3.1 20 1 = x.1 20 1 := by rw [f3 _ _ (by omega), ely]
      have hf3 : fm skC x x3 := fm_tr hf (fm_w f3 (fun c k q => Or.inr ⟨q.1, by omega⟩))
      have em : (x3.1 20 7).toNatClampNeg = n := by rw [m3, t_cl, en]; rfl
      have w3 : kTw x3 n := fun j hj => by rw [f3 24 j (by omega), f3 26 j (by omega), f3 23 j (by omega), f3 27 j (by omega)]; exact hw j hj
      have q23 : kK' x3 = kK' y := by funext j; show kc (x3.1 23 j) = kc (y.1 23 j); rw [f3 23 j (by omega)]
      have q24 : kP' x3 = kP' y := by funext j; show (x3.1 24 j).toNatClampNeg = (y.1 24 j).toNatClampNeg; rw [f3 24 j (by omega)]
      have q26 : kZ' x3 = kZ' y := by funext j; show (x3.1 26 j).toNatClampNeg = (y.1 26 j).toNatClampNeg; rw [f3 26 j (by omega)]
      have q27 : x3.1 27 = y.1 27 := by funext j; rw [f3 27 j (by omega)]
      have u3 := t_cl (x3.1 20 8)
      rw [ely] at b2
      refine ⟨fun c3 => ?_, fun c3 => fin n x3 hf3 (by rw [m3]; exact en) (by omega) w3 (fun j hj => ?_) (Or.inr ⟨by omega, (y.1 20 8).toNatClampNeg, ?_, ?_⟩)⟩
      rotate_left
      · rw [q24, q26, q27, f3 23 j (by omega)]; exact hh j hj
      · rw [← b3]
        rw [l3, t_lt] at c3
        omega
      · rw [q23, q24, q26, q27]; exact tc
      have vin : vp_in (x3.1 20 7) 702 := by rw [m3, vp_in_iff]; omega
      refine ⟨vin, fun x6 e6 => ?_⟩
      have m6 : x6.1 20 7 = x3.1 20 7 := by rw [e6]; (simp only [si_get, sfl_get, Nat.reduceEqDiff, eq_self, and_false, false_and, and_true, true_and, if_true, if_false, reduceIte, reduceCtorEq])
      refine ⟨by rw [m6]; exact vin, fun x8 e8 => ?_⟩
      have m8 : x8.1 20 7 = x3.1 20 7 := by rw [e8, ← m6]; (simp only [si_get, sfl_get, Nat.reduceEqDiff, eq_self, and_false, false_and, and_true, true_and, if_true, if_false, reduceIte, reduceCtorEq])
      have a8 : x8.1 20 8 = x3.1 20 8 := by rw [e8, e6]; (simp only [si_get, sfl_get, Nat.reduceEqDiff, eq_self, and_false, false_and, and_true, true_and, if_true, if_false, reduceIte, reduceCtorEq])
      have l8 : x8.1 20 1 = x.1 20 1 := by rw [e8, e6, ← l3]; (simp only [si_get, sfl_get, Nat.reduceEqDiff, eq_self, and_false, false_and, and_true, true_and, if_true, if_false, reduceIte, reduceCtorEq])
      rw [em] at e6
      rw [m6, em] at e8
      have hl8 : kL x8 := by unfold kL; rw [l8]; exact hl
      have lt3 : (x3.1 20 8).toInt < (x.1 20 1).toInt := by rw [l3, t_lt] at c3; exact c3
      have f6 : fm skC x x8 := by rw [e8, e6]; exact fm_si (fm_si hf3 (Or.inl (by omega))) (Or.inl (by omega))
      have eb8 : b = kby x8 := by rw [eb]; funext p; unfold kby; rw [f6 21 p (by unfold skC; omega)]
      have eN8 : N = kln x8 := by rw [eN]; unfold kln; rw [l8]
      refine kf_cutOne hq b N (x3.1 20 8).toNatClampNeg hl8 (by rw [m8]; exact vin) eb8 eN8 (by rw [a8]; omega) (by omega) (fun r x9 k f9 tk9 r0 r2 s0 t0' t1' => ?_)
      rw [m8, em] at tk9 f9 s0 r2
      refine ⟨by rw [m8]; exact vin, fun x12 e12 => ?_⟩
      rw [m8, em] at e12
      have m12 : x12.1 20 7 = x3.1 20 7 := by rw [e12, si_cell (by decide), f9 _ _ (by unfold skO; omega), m8]
      have next : ∀ l z, z = si x12 20 7 (x12.1 20 7 + 1) → (¬ l = 0 ↔ ¬ r = 1) → KT G q (d + 10) zk_X9_cut 19 [(0, vr 20), (1, vi l), (2, vi (l2 + 1))] [] z (rv Fv) := by
        intro l z ez hlr
        have g : ∀ c j, 23 ≤ c → c ≤ 27 → j ≠ n → z.1 c j = y.1 c j := by
          intro c j c1 c2 hj
          rw [ez, si_get, if_neg (by omega), e12, si_get, if_neg (fun q => hj q.2), f9 _ _ (by unfold skO; omega), e8, si_get, if_neg (fun q => hj q.2), e6, si_get, if_neg (fun q => hj q.2), f3 _ _ (by omega)]
        have z24 : z.1 24 n = x3.1 20 8 := by rw [ez, si_get, if_neg (by omega), e12, si_get, if_neg (by omega), f9 _ _ (by unfold skO; omega), e8, e6]; (simp only [si_get, sfl_get, Nat.reduceEqDiff, eq_self, and_false, false_and, and_true, true_and, if_true, if_false, reduceIte, reduceCtorEq])
        have z26 : z.1 26 n = x9.1 26 n := by rw [ez, e12]; (simp only [si_get, sfl_get, Nat.reduceEqDiff, eq_self, and_false, false_and, and_true, true_and, if_true, if_false, reduceIte, reduceCtorEq])
        have z27 : z.1 27 n = x9.1 27 n := by rw [ez, e12]; (simp only [si_get, sfl_get, Nat.reduceEqDiff, eq_self, and_false, false_and, and_true, true_and, if_true, if_false, reduceIte, reduceCtorEq])
        have z23 : z.1 23 n = r := by rw [ez, e12]; (simp only [si_get, sfl_get, Nat.reduceEqDiff, eq_self, and_false, false_and, and_true, true_and, if_true, if_false, reduceIte, reduceCtorEq])
        have z8 : z.1 20 8 = x9.1 20 8 := by rw [ez, e12]; (simp only [si_get, sfl_get, Nat.reduceEqDiff, eq_self, and_false, false_and, and_true, true_and, if_true, if_false, reduceIte, reduceCtorEq])
        have cz : (z.1 20 8).toNatClampNeg = (x3.1 20 8).toNatClampNeg + k := by rw [z8, t_cl, t0']; rfl
        have c26 : (z.1 26 n).toNatClampNeg = k := by rw [z26, t_cl, s0]; rfl
        have up := TC_up (K' := kK' z) (P' := kP' z) (Z' := kZ' z) (V' := z.1 27) (k := kc r) (q := (x3.1 20 8).toNatClampNeg) (m := k) (v := x9.1 27 n) tc (fun j => by
          by_cases cj : j = n
          · rw [if_pos cj, cj]; show kc (z.1 23 n) = _; rw [z23]
          · rw [if_neg cj]; show kc (z.1 23 j) = kc (y.1 23 j); rw [g 23 j (by omega) (by omega) cj]) (fun j => by
          by_cases cj : j = n
          · rw [if_pos cj, cj]; show (z.1 24 n).toNatClampNeg = _; rw [z24]
          · rw [if_neg cj]; show (z.1 24 j).toNatClampNeg = (y.1 24 j).toNatClampNeg; rw [g 24 j (by omega) (by omega) cj]) (fun j => by
          by_cases cj : j = n
          · rw [if_pos cj, cj]; exact c26
          · rw [if_neg cj]; show (z.1 26 j).toNatClampNeg = (y.1 26 j).toNatClampNeg; rw [g 26 j (by omega) (by omega) cj]) (fun j => by
          by_cases cj : j = n
          · rw [if_pos cj, cj, z27]
          · rw [if_neg cj, g 27 j (by omega) (by omega) cj]) b3 tk9
        obtain ⟨u2, uP, u4, u5, v1, v2, v3⟩ := up
        have k0 : ¬ kc r = 0 := TOK_01 tk9 (by omega)
        refine ih (n + 1) l (l2 + 1) z (by omega) e1 ?_ ?_ ?_ ?_ ?_ ?_ ?_ ?_
        · have f10 : fm skC x x9 := fm_tr f6 (fm_w f9 (fun c k q => by unfold skO at q; unfold skC; omega))
          rw [ez, e12]
          exact fm_si (fm_si f10 (Or.inl (by omega))) (Or.inr ⟨rfl, by omega⟩)
        · have : z.1 20 7 = x12.1 20 7 + 1 := by rw [ez]; (simp only [si_get, sfl_get, Nat.reduceEqDiff, eq_self, and_false, false_and, and_true, true_and, if_true, if_false, reduceIte, reduceCtorEq])
          have g2 : (y.1 20 7 + 1).toInt = ((n + 1 : Nat) : Int) := by
            rw [t_add (by show _ ≤ _ + (1 : Int); omega) (by show _ + (1 : Int) ≤ _; omega), en]; rfl
          rw [this, m12, m3, g2]
        · intro j hj
          by_cases hjn : j = n
          · subst hjn
            rw [z24, z26, z23, z27]
            exact ⟨⟨by omega, by omega, by omega⟩, r0, fun r3 => TOK_v tk9 (kc_3 r3)⟩
          · rw [g 24 j (by omega) (by omega) hjn, g 26 j (by omega) (by omega) hjn, g 23 j (by omega) (by omega) hjn, g 27 j (by omega) (by omega) hjn]
            exact hw j (by omega)
        · rw [z8]; omega
        · rw [z8]; omega
        · intro j hj
          by_cases hjn : j = n
          · rw [hjn, z23, v1, v2, z27]; exact r2
          · show z.1 23 j = 2 → z.1 27 j = hsh b (z.1 24 j).toNatClampNeg (z.1 26 j).toNatClampNeg
            rw [g 24 j (by omega) (by omega) hjn, g 26 j (by omega) (by omega) hjn, g 23 j (by omega) (by omega) hjn, g 27 j (by omega) (by omega) hjn]
            exact hh j (by omega)
        · intro l0
          have r1 := hlr.mp l0
          refine ⟨fun q => absurd q (by omega), fun _ => ⟨uP, by rw [cz, show n + 1 - 1 = n by omega, v1, v2]⟩, fun j hj => u4 j (by omega), fun j hj => ?_⟩
          by_cases hjn : j = n
          · rw [hjn]
            refine ⟨u5, by rw [v3]; exact k0, ?_⟩
            rw [v3]
            exact fun z => r1 (kc_i1 z)
          · exact u2 j (by omega)
        · intro l0
          have r1 : r = 1 := by
            by_cases c : r = 1
            · exact c
            · exact absurd l0 (hlr.mpr c)
          refine ⟨by omega, ?_⟩
          rw [show n + 1 - 1 = n by omega]
          refine ⟨by omega, uP, u4, fun j hj => ?_, fun j hj => (u2 j hj).2, Or.inr (Or.inl ?_)⟩
          · by_cases cj : j = n
            · rw [cj]; exact u5
            · exact (u2 j (by omega)).1
          · rw [v3]; exact kc_1 r1
      have s23 : x12.1 23 n = r := by rw [e12]; (simp only [si_get, sfl_get, Nat.reduceEqDiff, eq_self, and_false, false_and, and_true, true_and, if_true, if_false, reduceIte, reduceCtorEq])
      refine ⟨by rw [m12]; exact vin, fun c9 z ez => next _ z ez ?_, fun c9 z ez => next _ z ez ?_⟩
      all_goals
        rw [m12, em, s23] at c9
      · exact ⟨fun z => absurd rfl z, fun z => absurd c9 z⟩
      · exact ⟨fun _ => c9, fun _ => by decide⟩
  refine kg_X9_cut_0 hq (fun x1 e1 x2 e2 x3 e3 => ?_)
  have z8 : x3.1 20 8 = 0 := by rw [e3, e2, e1]; (simp only [si_get, sfl_get, Nat.reduceEqDiff, eq_self, and_false, false_and, and_true, true_and, if_true, if_false, reduceIte, reduceCtorEq])
  refine loop 701 0 _ _ x3 rfl rfl ?_ ?_ ?_ ?_ ?_ ?_ ?_ ?_
  · rw [e3, e2, e1]; exact fm_si (fm_si (fm_si (fm_rf _ _) (Or.inr ⟨rfl, by omega⟩)) (Or.inr ⟨rfl, by omega⟩)) (Or.inr ⟨rfl, by omega⟩)
  · rw [e3]; (simp only [si_get, sfl_get, Nat.reduceEqDiff, eq_self, and_false, false_and, and_true, true_and, if_true, if_false, reduceIte, reduceCtorEq]); rfl
  · intro j hj; omega
  · rw [z8]; decide
  · rw [z8]; exact hl.1
  · intro j hj; omega
  · intro _
    rw [z8]
    exact ⟨fun _ => rfl, fun q => absurd q (by omega), fun j hj => absurd hj (by omega), fun j hj => absurd hj (by omega)⟩
  · intro q; exact absurd q (by decide)
end KCA
