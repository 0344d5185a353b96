/-! the class: what changes, tokens -/
theorem tm1 : (-1 : Int32).toInt = -1 := rfl
theorem bm {z : Int} (h1 : -2147483648 ≤ z) (h2 : z ≤ 2147483647) : Int.bmod z 4294967296 = z := Int.bmod_eq_of_le (by omega) (by omega)
theorem sfl_get {x : gd} {c c' j n : Nat} {v : Int32} : (sfl x c v n).1 c' j = if c' = c ∧ j < n then v else x.1 c' j := by
  show (if c' = c then (fun j => if j < n then v else x.1 c j) else x.1 c') j = _
  by_cases h : c' = c
  · subst h
    rw [if_pos rfl]
    show (if j < n then v else x.1 c' j) = _
    by_cases h2 : j < n
    · rw [if_pos h2, if_pos ⟨rfl, h2⟩]
    · rw [if_neg h2, if_neg (fun q => h2 q.2)]
  · rw [if_neg h, if_neg (fun q => h q.1)]
/-- x' is x but where S says -/
def fm (S : Nat → Nat → Prop) (x x' : gd) : Prop := ∀ c k, ¬ S c k → x'.1 c k = x.1 c k
theorem fm_rf (S : Nat → Nat → Prop) (x : gd) : fm S x x := fun _ _ _ => rfl
theorem fm_tr {S : Nat → Nat → Prop} {x y z : gd} (a : fm S x y) (b : fm S y z) : fm S x z := fun c k h => (b c k h).trans (a c k h)
theorem fm_w {S S' : Nat → Nat → Prop} {x y : gd} (a : fm S x y) (h : ∀ c k, S c k → S' c k) : fm S' x y := fun c k n => a c k (fun q => n (h c k q))
theorem fm_si {S : Nat → Nat → Prop} {x y : gd} {c k : Nat} {v : Int32} (a : fm S x y) (h : S c k) : fm S x (si y c k v) := fun c' k' n => by
  rw [si_get, if_neg (fun q => n (by rw [q.1, q.2]; exact h))]; exact a c' k' n
theorem fm_fl {S : Nat → Nat → Prop} {x y : gd} {c n : Nat} {v : Int32} (a : fm S x y) (h : ∀ k, k < n → S c k) : fm S x (sfl y c v n) := fun c' k' m => by
  rw [sfl_get, if_neg (fun q => m (by rw [q.1]; exact h k' q.2))]; exact a c' k' m
/-- the text's length -/
def kL (x : gd) : Prop := 0 ≤ (x.1 20 1).toInt ∧ (x.1 20 1).toInt ≤ 3000
section KTOK
variable {G : kG} {q : kP} {d : Nat} {x : gd} {F : Int32 → gd → Prop} {Fv : gd → Prop}
theorem kp_addByte (hq : kV q) (b : Int32) (hl : kL x) (h : ∀ x', fm (fun c k => c = 21 ∨ (c = 20 ∧ k = 1)) x x' → kL x' → ((x.1 20 1).toInt < 3000 → (x'.1 20 1).toInt = (x.1 20 1).toInt + 1) → Fv x') : KT G q d zk_X9_addByte 0 [(0, vr 20), (1, vi b)] [] x (rv Fv) := by
  obtain ⟨l0, l1⟩ := hl
  refine kg_X9_addByte_0 hq _ ⟨fun c => rv_i (h x (fm_rf _ _) ⟨l0, l1⟩ (fun q => ?_)), fun c => ⟨?_, fun x3 e3 x4 e4 => rv_i (h x4 ?_ ?_ ?_)⟩⟩
  · exfalso; clear h; ((try simp only [t_lt, t_le, t_eq, t_cl, tm1, vp_in_iff, Int32.toInt_add, Int32.toInt_sub, Int32.toInt_mul, Int32.reduceToInt, Nat.reducePow] at *) <;> (try simp (disch := omega) only [bm] at *) <;> omega)
  · clear h; ((try simp only [t_lt, t_le, t_eq, t_cl, tm1, vp_in_iff, Int32.toInt_add, Int32.toInt_sub, Int32.toInt_mul, Int32.reduceToInt, Nat.reducePow] at *) <;> (try simp (disch := omega) only [bm] at *) <;> omega)
  · rw [e4, e3]
    exact fm_si (fm_si (fm_rf _ _) (Or.inl rfl)) (Or.inr ⟨rfl, rfl⟩)
  · have e : x4.1 20 1 = x.1 20 1 + 1 := by rw [e4, e3]; (simp only [si_get, sfl_get, Nat.reduceEqDiff, eq_self, and_false, false_and, and_true, true_and, if_true, if_false, reduceIte, reduceCtorEq])
    unfold kL
    rw [e]
    clear h e e3 e4
    constructor <;> ((try simp only [t_lt, t_le, t_eq, t_cl, tm1, vp_in_iff, Int32.toInt_add, Int32.toInt_sub, Int32.toInt_mul, Int32.reduceToInt, Nat.reducePow] at *) <;> (try simp (disch := omega) only [bm] at *) <;> omega)
  · intro q
    have e : x4.1 20 1 = x.1 20 1 + 1 := by rw [e4, e3]; (simp only [si_get, sfl_get, Nat.reduceEqDiff, eq_self, and_false, false_and, and_true, true_and, if_true, if_false, reduceIte, reduceCtorEq])
    rw [e]
    clear h e e3 e4
    ((try simp only [t_lt, t_le, t_eq, t_cl, tm1, vp_in_iff, Int32.toInt_add, Int32.toInt_sub, Int32.toInt_mul, Int32.reduceToInt, Nat.reducePow] at *) <;> (try simp (disch := omega) only [bm] at *) <;> omega)
theorem kp_isLetter (hq : kV q) (c : Int32) (h : ∀ r, gbool r → F r x) : KT G q d zk_X9_isLetter 0 [(0, vi c)] [] x (ri F) := by
  have g : KT G q d zk_X9_isLetter 12 [(0, vi c)] [] x (ri F) := by
    refine kg_X9_isLetter_12 hq _ ?_
    (repeat' (first | apply And.intro | with_reducible intro _)) <;> first | exact ri_i (h _ gbool_0) | exact ri_i (h _ gbool_1)
  refine kg_X9_isLetter_0 hq _ ?_
  (repeat' (first | apply And.intro | with_reducible intro _)) <;> first | exact g | exact ri_i (h _ gbool_1)
theorem kp_isDigit (hq : kV q) (c : Int32) (h : ∀ r, gbool r → (¬ r = 0 → 48 ≤ c.toInt ∧ c.toInt ≤ 57) → F r x) : KT G q d zk_X9_isDigit 0 [(0, vi c)] [] x (ri F) := by
  refine kg_X9_isDigit_0 hq _ ⟨fun c1 => ri_i (h _ gbool_0 (fun q => absurd rfl q)), fun c1 => ⟨fun c2 => ri_i (h _ gbool_0 (fun q => absurd rfl q)), fun c2 => ri_i (h _ gbool_1 (fun _ => ?_))⟩⟩
  clear h; constructor <;> ((try simp only [t_lt, t_le, t_eq, t_cl, tm1, vp_in_iff, Int32.toInt_add, Int32.toInt_sub, Int32.toInt_mul, Int32.reduceToInt, Nat.reducePow] at *) <;> (try simp (disch := omega) only [bm] at *) <;> omega)
theorem kp_singleSign (hq : kV q) (c : Int32) (h : ∀ r, ¬ r = 0 → ¬ r = 3 → F r x) : KT G q d zk_X9_singleSign 0 [(0, vi c)] [] x (ri F) := by
  refine kg_X9_singleSign_0 hq _ ?_
  (repeat' (first | apply And.intro | with_reducible intro _)) <;> exact ri_i (h _ (by decide) (by decide))
theorem kp_byteAt (hq : kV q) (i : Int32) (hl : kL x) (h0 : 0 ≤ i.toInt) (h : ∀ r : Int32, (¬ r = 0 → i.toInt < (x.1 20 1).toInt) → F r x) : KT G q d zk_X9_byteAt 0 [(0, vr 20), (1, vi i)] [] x (ri F) := by
  obtain ⟨l0, l1⟩ := hl
  refine kg_X9_byteAt_0 hq _ ⟨fun c => ri_i (h _ (fun q => absurd rfl q)), fun c => ⟨?_, ri_i (h _ (fun _ => ?_))⟩⟩
  · clear h; ((try simp only [t_lt, t_le, t_eq, t_cl, tm1, vp_in_iff, Int32.toInt_add, Int32.toInt_sub, Int32.toInt_mul, Int32.reduceToInt, Nat.reducePow] at *) <;> (try simp (disch := omega) only [bm] at *) <;> omega)
  · clear h; ((try simp only [t_lt, t_le, t_eq, t_cl, tm1, vp_in_iff, Int32.toInt_add, Int32.toInt_sub, Int32.toInt_mul, Int32.reduceToInt, Nat.reducePow] at *) <;> (try simp (disch := omega) only [bm] at *) <;> omega)
theorem kp_skip (hq : kV q) (hl : kL x) (h0 : 0 ≤ (x.1 20 8).toInt) (h1 : (x.1 20 8).toInt ≤ (x.1 20 1).toInt) (h : ∀ x', fm (fun c k => c = 20 ∧ (k = 8 ∨ k = 9)) x x' → (x.1 20 8).toInt ≤ (x'.1 20 8).toInt → (x'.1 20 8).toInt ≤ (x.1 20 1).toInt → Fv x') : KT G q (d + 1) zk_X9_skipBlanks 0 [(0, vr 20)] [] x (rv Fv) := by
  have loop : ∀ (n : Nat) (l1 : Int32) (y : gd), fm (fun c k => c = 20 ∧ (k = 8 ∨ k = 9)) x y → (x.1 20 8).toInt ≤ (y.1 20 8).toInt → (y.1 20 8).toInt ≤ (x.1 20 1).toInt → (x.1 20 1).toInt - (y.1 20 8).toInt ≤ n → KT G q (d + 1) zk_X9_skipBlanks 2 [(0, vr 20), (1, vi l1)] [] y (rv Fv) := by
    intro n
    induction n with
    | zero =>
      intro l1 y hf a1 a2 a3
      have el : y.1 20 1 = x.1 20 1 := hf _ _ (by omega)
      refine kg_X9_skipBlanks_2 hq _ ⟨fun c => rv_i (h y hf a1 a2), fun c => ?_⟩
      exfalso
      rw [el] at c
      clear h; ((try simp only [t_lt, t_le, t_eq, t_cl, tm1, vp_in_iff, Int32.toInt_add, Int32.toInt_sub, Int32.toInt_mul, Int32.reduceToInt, Nat.reducePow] at *) <;> (try simp (disch := omega) only [bm] at *) <;> omega)
    | succ n ih =>
      intro l1 y hf a1 a2 a3
      have el : y.1 20 1 = x.1 20 1 := hf _ _ (by omega)
      have hly : kL y := by unfold kL; rw [el]; exact hl
      refine kg_X9_skipBlanks_2 hq _ ⟨fun c => rv_i (h y hf a1 a2), fun c => ?_⟩
      rw [el] at c
      have hlt : (y.1 20 8).toInt < (x.1 20 1).toInt := by clear h ih hly; ((try simp only [t_lt, t_le, t_eq, t_cl, tm1, vp_in_iff, Int32.toInt_add, Int32.toInt_sub, Int32.toInt_mul, Int32.reduceToInt, Nat.reducePow] at *) <;> (try simp (disch := omega) only [bm] at *) <;> omega)
      have g1 := hl.2
      have e1 : (y.1 20 8 + 1).toInt = (y.1 20 8).toInt + 1 := by clear h ih hly; ((try simp only [t_lt, t_le, t_eq, t_cl, tm1, vp_in_iff, Int32.toInt_add, Int32.toInt_sub, Int32.toInt_mul, Int32.reduceToInt, Nat.reducePow] at *) <;> (try simp (disch := omega) only [bm] at *) <;> omega)
      have next : ∀ l2 z, fm (fun c k => c = 20 ∧ (k = 8 ∨ k = 9)) x z → z.1 20 8 = y.1 20 8 + 1 → KT G q (d + 1) zk_X9_skipBlanks 2 [(0, vr 20), (1, vi l2)] [] z (rv Fv) := by
        intro l2 z fz ez
        refine ih l2 z fz ?_ ?_ ?_ <;> rw [ez, e1] <;> omega
      have tail : ∀ r : Int32, KT G q (d + 1) zk_X9_skipBlanks 69 [(0, vr 20), (1, vi l1), (2, vi r)] [] y (rv Fv) := by
        intro r
        have one : ∀ z, z = si y 20 8 (y.1 20 8 + 1) → KT G q (d + 1) zk_X9_skipBlanks 2 [(0, vr 20), (1, vi l1)] [] z (rv Fv) := by
          intro z ez
          refine next l1 z ?_ ?_
          · rw [ez]; exact fm_si hf ⟨rfl, Or.inl rfl⟩
          · rw [ez]; (simp only [si_get, sfl_get, Nat.reduceEqDiff, eq_self, and_false, false_and, and_true, true_and, if_true, if_false, reduceIte, reduceCtorEq])
        exact kg_X9_skipBlanks_69 hq _ _ ⟨fun _ z ez => one z ez, fun _ => ⟨fun _ z ez => one z ez, fun _ => ⟨fun _ z ez => one z ez, fun _ => ⟨fun _ z ez => one z ez, fun _ => rv_i (h y hf a1 a2)⟩⟩⟩⟩
      refine kp_byteAt hq _ hly (by omega) (fun r _ => ⟨fun _ => ⟨fun _ => tail r, fun _ => kp_byteAt hq _ hly (by omega) (fun r7 _ => ⟨fun _ => tail r, fun _ z ez => next _ z ?_ ?_⟩)⟩, fun _ z ez w ew => next _ w ?_ ?_⟩)
      · rw [ez]; exact fm_si hf ⟨rfl, Or.inl rfl⟩
      · rw [ez]; (simp only [si_get, sfl_get, Nat.reduceEqDiff, eq_self, and_false, false_and, and_true, true_and, if_true, if_false, reduceIte, reduceCtorEq])
      · rw [ew, ez]; exact fm_si (fm_si hf ⟨rfl, Or.inr rfl⟩) ⟨rfl, Or.inl rfl⟩
      · rw [ew, ez]; (simp only [si_get, sfl_get, Nat.reduceEqDiff, eq_self, and_false, false_and, and_true, true_and, if_true, if_false, reduceIte, reduceCtorEq])
  exact kg_X9_skipBlanks_0 hq (loop ((x.1 20 1).toInt - (x.1 20 8).toInt).toNat _ x (fm_rf _ _) (Int.le_refl _) h1 (by omega))
theorem kp_passLD (hq : kV q) (hl : kL x) (hm : vp_in (x.1 20 7) 702) (h0 : 0 ≤ (x.1 20 8).toInt) (h1 : (x.1 20 8).toInt ≤ (x.1 20 1).toInt) (h : ∀ x', fm (fun c k => (c = 20 ∧ k = 8) ∨ (c = 26 ∧ k = (x.1 20 7).toNatClampNeg)) x x' → (x.1 20 8).toInt ≤ (x'.1 20 8).toInt → (x'.1 20 8).toInt ≤ (x.1 20 1).toInt → (x'.1 26 (x.1 20 7).toNatClampNeg).toInt = (x'.1 20 8).toInt - (x.1 20 8).toInt → Fv x') : KT G q (d + 1) zk_X9_passLettersAndDigits 0 [(0, vr 20)] [] x (rv Fv) := by
  have g1 := hl.2
  have last : ∀ (y z : gd), fm (fun c k => c = 20 ∧ k = 8) x y → (x.1 20 8).toInt ≤ (y.1 20 8).toInt → (y.1 20 8).toInt ≤ (x.1 20 1).toInt → z = si y 26 (y.1 20 7).toNatClampNeg (y.1 20 8 - x.1 20 8) → rv Fv none z := by
    intro y z hf a1 a2 ez
    have em : y.1 20 7 = x.1 20 7 := hf _ _ (by omega)
    rw [em] at ez
    refine rv_i (h z ?_ ?_ ?_ ?_)
    · rw [ez]; exact fm_si (fm_w hf (fun c k q => Or.inl q)) (Or.inr ⟨rfl, rfl⟩)
    · have : z.1 20 8 = y.1 20 8 := by rw [ez]; (simp only [si_get, sfl_get, Nat.reduceEqDiff, eq_self, and_false, false_and, and_true, true_and, if_true, if_false, reduceIte, reduceCtorEq])
      rw [this]; exact a1
    · have : z.1 20 8 = y.1 20 8 := by rw [ez]; (simp only [si_get, sfl_get, Nat.reduceEqDiff, eq_self, and_false, false_and, and_true, true_and, if_true, if_false, reduceIte, reduceCtorEq])
      rw [this]; exact a2
    · have e8 : z.1 20 8 = y.1 20 8 := by rw [ez]; (simp only [si_get, sfl_get, Nat.reduceEqDiff, eq_self, and_false, false_and, and_true, true_and, if_true, if_false, reduceIte, reduceCtorEq])
      have e6 : z.1 26 (x.1 20 7).toNatClampNeg = y.1 20 8 - x.1 20 8 := by rw [ez]; (simp only [si_get, sfl_get, Nat.reduceEqDiff, eq_self, and_false, false_and, and_true, true_and, if_true, if_false, reduceIte, reduceCtorEq])
      rw [e8, e6]
      clear h ez e8 e6 hm
      ((try simp only [t_lt, t_le, t_eq, t_cl, tm1, vp_in_iff, Int32.toInt_add, Int32.toInt_sub, Int32.toInt_mul, Int32.reduceToInt, Nat.reducePow] at *) <;> (try simp (disch := omega) only [bm] at *) <;> omega)
  have loop : ∀ (n : Nat) (y : gd), fm (fun c k => c = 20 ∧ k = 8) x y → (x.1 20 8).toInt ≤ (y.1 20 8).toInt → (y.1 20 8).toInt ≤ (x.1 20 1).toInt → (x.1 20 1).toInt - (y.1 20 8).toInt ≤ n → KT G q (d + 1) zk_X9_passLettersAndDigits 5 [(0, vr 20), (1, vi (x.1 20 8))] [] y (rv Fv) := by
    intro n
    induction n with
    | zero =>
      intro y hf a1 a2 a3
      have el : y.1 20 1 = x.1 20 1 := hf _ _ (by omega)
      have em : y.1 20 7 = x.1 20 7 := hf _ _ (by omega)
      refine kg_X9_passLettersAndDigits_5 hq _ ⟨fun c => ⟨by rw [em]; exact hm, fun z ez => last y z hf a1 a2 ez⟩, fun c => ?_⟩
      exfalso
      rw [el] at c
      clear h last hm; ((try simp only [t_lt, t_le, t_eq, t_cl, tm1, vp_in_iff, Int32.toInt_add, Int32.toInt_sub, Int32.toInt_mul, Int32.reduceToInt, Nat.reducePow] at *) <;> (try simp (disch := omega) only [bm] at *) <;> omega)
    | succ n ih =>
      intro y hf a1 a2 a3
      have el : y.1 20 1 = x.1 20 1 := hf _ _ (by omega)
      have em : y.1 20 7 = x.1 20 7 := hf _ _ (by omega)
      have hly : kL y := by unfold kL; rw [el]; exact hl
      refine kg_X9_passLettersAndDigits_5 hq _ ⟨fun c => ⟨by rw [em]; exact hm, fun z ez => last y z hf a1 a2 ez⟩, fun c => ?_⟩
      rw [el] at c
      have hlt : (y.1 20 8).toInt < (x.1 20 1).toInt := by clear h ih hly last hm; ((try simp only [t_lt, t_le, t_eq, t_cl, tm1, vp_in_iff, Int32.toInt_add, Int32.toInt_sub, Int32.toInt_mul, Int32.reduceToInt, Nat.reducePow] at *) <;> (try simp (disch := omega) only [bm] at *) <;> omega)
      have e1 : (y.1 20 8 + 1).toInt = (y.1 20 8).toInt + 1 := by clear h ih hly last hm; ((try simp only [t_lt, t_le, t_eq, t_cl, tm1, vp_in_iff, Int32.toInt_add, Int32.toInt_sub, Int32.toInt_mul, Int32.reduceToInt, Nat.reducePow] at *) <;> (try simp (disch := omega) only [bm] at *) <;> omega)
      have next : ∀ z, z = si y 20 8 (y.1 20 8 + 1) → KT G q (d + 1) zk_X9_passLettersAndDigits 5 [(0, vr 20), (1, vi (x.1 20 8))] [] z (rv Fv) := by
        intro z ez
        have e8 : z.1 20 8 = y.1 20 8 + 1 := by rw [ez]; (simp only [si_get, sfl_get, Nat.reduceEqDiff, eq_self, and_false, false_and, and_true, true_and, if_true, if_false, reduceIte, reduceCtorEq])
        refine ih z (by rw [ez]; exact fm_si hf ⟨rfl, rfl⟩) ?_ ?_ ?_ <;> rw [e8, e1] <;> omega
      exact kp_byteAt hq _ hly (by omega) (fun r _ => kp_isLetter hq _ (fun r7 _ => ⟨fun _ z ez => next z ez, fun _ => kp_isDigit hq _ (fun r11 _ _ => ⟨fun _ z ez => next z ez, fun _ => ⟨by rw [em]; exact hm, fun z ez => last y z hf a1 a2 ez⟩⟩)⟩))
  exact kg_X9_passLettersAndDigits_0 hq (loop ((x.1 20 1).toInt - (x.1 20 8).toInt).toNat x (fm_rf _ _) (Int.le_refl _) h1 (by omega))
theorem kp_isWord (hq : kV q) (w f s : Int32) (hl : kL x) (hw : 0 ≤ w.toInt) (hw2 : w.toInt < 32) (hf : 0 ≤ f.toInt) (hf2 : f.toInt ≤ 3000) (h : ∀ r, gbool r → F r x) : KT G q (d + 7) zk_X9_isWord 0 [(0, vr 20), (1, vi w), (2, vi f), (3, vi s)] [] x (ri F) := by
  have loop : ∀ (n : Nat) (i : Int32), 0 ≤ i.toInt → 7 - i.toInt ≤ n → KT G q (d + 7) zk_X9_isWord 11 [(0, vr 20), (1, vi w), (2, vi f), (3, vi s), (4, vi i)] [] x (ri F) := by
    intro n
    induction n with
    | zero =>
      intro i i0 hn
      refine kg_X9_isWord_11 hq _ _ _ _ ⟨fun _ => ri_i (h _ gbool_1), fun c => ?_⟩
      exfalso; clear h; ((try simp only [t_lt, t_le, t_eq, t_cl, tm1, vp_in_iff, Int32.toInt_add, Int32.toInt_sub, Int32.toInt_mul, Int32.reduceToInt, Nat.reducePow] at *) <;> (try simp (disch := omega) only [bm] at *) <;> omega)
    | succ n ih =>
      intro i i0 hn
      refine kg_X9_isWord_11 hq _ _ _ _ ⟨fun _ => ri_i (h _ gbool_1), fun c => ?_⟩
      have i1 : i.toInt < 7 := by clear h ih; ((try simp only [t_lt, t_le, t_eq, t_cl, tm1, vp_in_iff, Int32.toInt_add, Int32.toInt_sub, Int32.toInt_mul, Int32.reduceToInt, Nat.reducePow] at *) <;> (try simp (disch := omega) only [bm] at *) <;> omega)
      have e1 : (i + 1).toInt = i.toInt + 1 := by clear h ih; ((try simp only [t_lt, t_le, t_eq, t_cl, tm1, vp_in_iff, Int32.toInt_add, Int32.toInt_sub, Int32.toInt_mul, Int32.reduceToInt, Nat.reducePow] at *) <;> (try simp (disch := omega) only [bm] at *) <;> omega)
      have e2 : 0 ≤ (f + i).toInt := by clear h ih; ((try simp only [t_lt, t_le, t_eq, t_cl, tm1, vp_in_iff, Int32.toInt_add, Int32.toInt_sub, Int32.toInt_mul, Int32.reduceToInt, Nat.reducePow] at *) <;> (try simp (disch := omega) only [bm] at *) <;> omega)
      have mid : ∀ b : Int32, KT G q (d + 7) zk_X9_isWord 37 [(0, vr 20), (1, vi w), (2, vi f), (3, vi s), (4, vi i)] [vi b] x (ri F) := by
        intro b
        refine kg_X9_isWord_37 hq _ _ _ _ _ ⟨?_, fun _ => ih _ (by omega) (by omega), fun _ => ri_i (h _ gbool_0)⟩
        clear h ih; ((try simp only [t_lt, t_le, t_eq, t_cl, tm1, vp_in_iff, Int32.toInt_add, Int32.toInt_sub, Int32.toInt_mul, Int32.reduceToInt, Nat.reducePow] at *) <;> (try simp (disch := omega) only [bm] at *) <;> omega)
      exact ⟨fun _ => mid _, fun _ => kp_byteAt hq _ hl e2 (fun r _ => mid r)⟩
  exact kg_X9_isWord_0 hq _ _ _ ⟨fun _ => loop 7 _ (by decide) (by decide), fun _ => ri_i (h _ gbool_0)⟩
theorem kp_nameOrWord (hq : kV q) (f : Int32) (hl : kL x) (hm : vp_in (x.1 20 7) 702) (hf : 0 ≤ f.toInt) (hf2 : f.toInt ≤ 3000) (h : ∀ r x', ¬ r = 0 → ¬ r = 3 → fm (fun c k => c = 27 ∧ k = (x.1 20 7).toNatClampNeg) x x' → F r x') : KT G q (d + 8) zk_X9_nameOrWord 0 [(0, vr 20), (1, vi f)] [] x (ri F) := by
  have l57 : ∀ (n : Nat) (v i : Int32), 0 ≤ i.toInt → (x.1 26 (x.1 20 7).toNatClampNeg).toInt ≤ 12 → (x.1 26 (x.1 20 7).toNatClampNeg).toInt - i.toInt ≤ n → KT G q (d + 8) zk_X9_nameOrWord 57 [(0, vr 20), (1, vi f), (2, vi v), (3, vi i)] [] x (ri F) := by
    have fin : ∀ (v : Int32) (z : gd), z = si x 27 (x.1 20 7).toNatClampNeg v → ri F (some (vi 2)) z := fun v z ez => ri_i (h _ z (by decide) (by decide) (by rw [ez]; exact fm_si (fm_rf _ _) ⟨rfl, rfl⟩))
    intro n
    induction n with
    | zero =>
      intro v i i0 hs hn
      refine kg_X9_nameOrWord_57 hq _ _ _ ⟨hm, fun _ => ⟨hm, fun z ez => fin v z ez⟩, fun c => ?_⟩
      exfalso; clear h fin hm; ((try simp only [t_lt, t_le, t_eq, t_cl, tm1, vp_in_iff, Int32.toInt_add, Int32.toInt_sub, Int32.toInt_mul, Int32.reduceToInt, Nat.reducePow] at *) <;> (try simp (disch := omega) only [bm] at *) <;> omega)
    | succ n ih =>
      intro v i i0 hs hn
      refine kg_X9_nameOrWord_57 hq _ _ _ ⟨hm, fun _ => ⟨hm, fun z ez => fin v z ez⟩, fun c => ?_⟩
      have i1 : i.toInt < 12 := by clear h ih fin hm; ((try simp only [t_lt, t_le, t_eq, t_cl, tm1, vp_in_iff, Int32.toInt_add, Int32.toInt_sub, Int32.toInt_mul, Int32.reduceToInt, Nat.reducePow] at *) <;> (try simp (disch := omega) only [bm] at *) <;> omega)
      have e1 : (i + 1).toInt = i.toInt + 1 := by clear h ih fin hm; ((try simp only [t_lt, t_le, t_eq, t_cl, tm1, vp_in_iff, Int32.toInt_add, Int32.toInt_sub, Int32.toInt_mul, Int32.reduceToInt, Nat.reducePow] at *) <;> (try simp (disch := omega) only [bm] at *) <;> omega)
      have e2 : 0 ≤ (f + i).toInt := by clear h ih fin hm; ((try simp only [t_lt, t_le, t_eq, t_cl, tm1, vp_in_iff, Int32.toInt_add, Int32.toInt_sub, Int32.toInt_mul, Int32.reduceToInt, Nat.reducePow] at *) <;> (try simp (disch := omega) only [bm] at *) <;> omega)
      exact kp_byteAt hq _ hl e2 (fun r _ => ih _ _ (by omega) hs (by omega))
  have l18 : ∀ (n : Nat) (i : Int32), 0 ≤ i.toInt → (x.1 26 (x.1 20 7).toNatClampNeg).toInt ≤ 12 → 32 - i.toInt ≤ n → KT G q (d + 8) zk_X9_nameOrWord 18 [(0, vr 20), (1, vi f), (2, vi i)] [] x (ri F) := by
    intro n
    induction n with
    | zero =>
      intro i i0 hs hn
      refine kg_X9_nameOrWord_18 hq _ _ ⟨fun _ => l57 12 _ _ (by decide) hs (by show _ - (0 : Int) ≤ _; omega), fun c => ?_⟩
      exfalso; clear h l57 hm; ((try simp only [t_lt, t_le, t_eq, t_cl, tm1, vp_in_iff, Int32.toInt_add, Int32.toInt_sub, Int32.toInt_mul, Int32.reduceToInt, Nat.reducePow] at *) <;> (try simp (disch := omega) only [bm] at *) <;> omega)
    | succ n ih =>
      intro i i0 hs hn
      refine kg_X9_nameOrWord_18 hq _ _ ⟨fun _ => l57 12 _ _ (by decide) hs (by show _ - (0 : Int) ≤ _; omega), fun c => ⟨hm, ?_⟩⟩
      have i1 : i.toInt < 32 := by clear h ih l57 hm; ((try simp only [t_lt, t_le, t_eq, t_cl, tm1, vp_in_iff, Int32.toInt_add, Int32.toInt_sub, Int32.toInt_mul, Int32.reduceToInt, Nat.reducePow] at *) <;> (try simp (disch := omega) only [bm] at *) <;> omega)
      have e1 : (i + 1).toInt = i.toInt + 1 := by clear h ih l57 hm; ((try simp only [t_lt, t_le, t_eq, t_cl, tm1, vp_in_iff, Int32.toInt_add, Int32.toInt_sub, Int32.toInt_mul, Int32.reduceToInt, Nat.reducePow] at *) <;> (try simp (disch := omega) only [bm] at *) <;> omega)
      refine kp_isWord hq _ _ _ hl i0 i1 hf hf2 (fun r _ => ⟨fun _ => ih _ (by omega) hs (by omega), fun _ => ri_i (h _ x ?_ ?_ (fm_rf _ _))⟩)
      · intro c2; clear h ih l57 hm; ((try simp only [t_lt, t_le, t_eq, t_cl, tm1, vp_in_iff, Int32.toInt_add, Int32.toInt_sub, Int32.toInt_mul, Int32.reduceToInt, Nat.reducePow] at *) <;> (try simp (disch := omega) only [bm] at *) <;> omega)
      · intro c2; clear h ih l57 hm; ((try simp only [t_lt, t_le, t_eq, t_cl, tm1, vp_in_iff, Int32.toInt_add, Int32.toInt_sub, Int32.toInt_mul, Int32.reduceToInt, Nat.reducePow] at *) <;> (try simp (disch := omega) only [bm] at *) <;> omega)
  refine kg_X9_nameOrWord_0 hq _ ⟨hm, fun c => l18 32 _ (by decide) ?_ (by decide), fun _ => ri_i (h _ x (by decide) (by decide) (fm_rf _ _))⟩
  clear h l57 l18 hm; ((try simp only [t_lt, t_le, t_eq, t_cl, tm1, vp_in_iff, Int32.toInt_add, Int32.toInt_sub, Int32.toInt_mul, Int32.reduceToInt, Nat.reducePow] at *) <;> (try simp (disch := omega) only [bm] at *) <;> omega)
theorem kp_wholeOrBad (hq : kV q) (f : Int32) (hl : kL x) (hm : vp_in (x.1 20 7) 702) (hf : 0 ≤ f.toInt) (hf2 : f.toInt ≤ 3000) (h : ∀ r x', ¬ r = 0 → (r = 3 → 0 ≤ (x'.1 27 (x.1 20 7).toNatClampNeg).toInt) → fm (fun c k => c = 27 ∧ k = (x.1 20 7).toNatClampNeg) x x' → F r x') : KT G q (d + 1) zk_X9_wholeOrBad 0 [(0, vr 20), (1, vi f)] [] x (ri F) := by
  have fin : ∀ (v : Int32) (z : gd), 0 ≤ v.toInt → z = si x 27 (x.1 20 7).toNatClampNeg v → ri F (some (vi 3)) z := fun v z hv ez => ri_i (h _ z (by decide) (fun _ => by
    have : z.1 27 (x.1 20 7).toNatClampNeg = v := by rw [ez]; (simp only [si_get, sfl_get, Nat.reduceEqDiff, eq_self, and_false, false_and, and_true, true_and, if_true, if_false, reduceIte, reduceCtorEq])
    rw [this]; exact hv) (by rw [ez]; exact fm_si (fm_rf _ _) ⟨rfl, rfl⟩))
  have loop : ∀ (n j : Nat) (v i : Int32), i.toInt = j → j + n = 9 → 0 ≤ v.toInt → v.toInt < ((10 ^ j : Nat) : Int) → (x.1 26 (x.1 20 7).toNatClampNeg).toInt ≤ 9 → KT G q (d + 1) zk_X9_wholeOrBad 20 [(0, vr 20), (1, vi f), (2, vi v), (3, vi i)] [] x (ri F) := by
    intro n
    induction n with
    | zero =>
      intro j v i ei hj v0 v1 hs
      refine kg_X9_wholeOrBad_20 hq _ _ _ ⟨hm, fun _ => ⟨hm, fun z ez => fin v z v0 ez⟩, fun c => ?_⟩
      exfalso; clear h fin hm v1; ((try simp only [t_lt, t_le, t_eq, t_cl, tm1, vp_in_iff, Int32.toInt_add, Int32.toInt_sub, Int32.toInt_mul, Int32.reduceToInt, Nat.reducePow] at *) <;> (try simp (disch := omega) only [bm] at *) <;> omega)
    | succ n ih =>
      intro j v i ei hj v0 v1 hs
      refine kg_X9_wholeOrBad_20 hq _ _ _ ⟨hm, fun _ => ⟨hm, fun z ez => fin v z v0 ez⟩, fun c => ?_⟩
      have e1 : (i + 1).toInt = ((j + 1 : Nat) : Int) := by clear h ih fin hm v1; ((try simp only [t_lt, t_le, t_eq, t_cl, tm1, vp_in_iff, Int32.toInt_add, Int32.toInt_sub, Int32.toInt_mul, Int32.reduceToInt, Nat.reducePow] at *) <;> (try simp (disch := omega) only [bm] at *) <;> omega)
      have e2 : 0 ≤ (f + i).toInt := by clear h ih fin hm v1; ((try simp only [t_lt, t_le, t_eq, t_cl, tm1, vp_in_iff, Int32.toInt_add, Int32.toInt_sub, Int32.toInt_mul, Int32.reduceToInt, Nat.reducePow] at *) <;> (try simp (disch := omega) only [bm] at *) <;> omega)
      have p1 : 10 ^ j ≤ 10 ^ 8 := Nat.pow_le_pow_right (by decide) (by omega)
      have p2 : 10 ^ (j + 1) = 10 ^ j * 10 := Nat.pow_succ 10 j
      have p3 : (10 ^ 8 : Nat) = 100000000 := rfl
      generalize 10 ^ j = t at *
      refine kp_byteAt hq _ hl e2 (fun b _ => kp_isDigit hq _ (fun r8 _ hr => ⟨fun c8 => ?_, fun _ => ri_i (h _ x (by decide) (fun q => absurd q (by decide)) (fm_rf _ _))⟩))
      obtain ⟨b0, b1⟩ := hr c8
      have ev : (v * 10 + (b - 48)).toInt = v.toInt * 10 + (b.toInt - 48) := by
        clear h ih fin hm c8 c hr p2
        ((try simp only [t_lt, t_le, t_eq, t_cl, tm1, vp_in_iff, Int32.toInt_add, Int32.toInt_sub, Int32.toInt_mul, Int32.reduceToInt, Nat.reducePow] at *) <;> (try simp (disch := omega) only [bm] at *) <;> omega)
      refine ih (j + 1) _ _ e1 (by omega) (by rw [ev]; omega) ?_ hs
      rw [ev, p2]
      push_cast
      omega
  refine kg_X9_wholeOrBad_0 hq _ ⟨hm, fun c => loop 9 0 _ _ rfl rfl (by decide) (by decide) ?_, fun _ => ri_i (h _ x (by decide) (fun q => absurd q (by decide)) (fm_rf _ _))⟩
  clear h fin loop hm; ((try simp only [t_lt, t_le, t_eq, t_cl, tm1, vp_in_iff, Int32.toInt_add, Int32.toInt_sub, Int32.toInt_mul, Int32.reduceToInt, Nat.reducePow] at *) <;> (try simp (disch := omega) only [bm] at *) <;> omega)
/-- the new token's size and, where it is a whole, its value -/
def skO (m c k : Nat) : Prop := (c = 20 ∧ k = 8) ∨ ((c = 26 ∨ c = 27) ∧ k = m)
theorem kp_sign (hq : kV q) (b n : Int32) (hl : kL x) (hm : vp_in (x.1 20 7) 702) (h0 : 0 ≤ (x.1 20 8).toInt) (h1 : (x.1 20 8).toInt < (x.1 20 1).toInt) (hn : n = 61 → (x.1 20 8).toInt + 1 < (x.1 20 1).toInt)
    (h : ∀ r x', ¬ r = 0 → ¬ r = 3 → fm (skO (x.1 20 7).toNatClampNeg) x x' → 0 ≤ (x'.1 26 (x.1 20 7).toNatClampNeg).toInt → (x.1 20 8).toInt + (x'.1 26 (x.1 20 7).toNatClampNeg).toInt ≤ (x.1 20 1).toInt → (x'.1 20 8).toInt = (x.1 20 8).toInt + (x'.1 26 (x.1 20 7).toNatClampNeg).toInt → F r x') : KT G q (d + 1) zk_X9_sign 0 [(0, vr 20), (1, vi b), (2, vi n)] [] x (ri F) := by
  have g1 := hl.2
  have p53 : ∀ (l3 s : Int32), (s = 1 ∨ (s = 2 ∧ (x.1 20 8).toInt + 1 < (x.1 20 1).toInt)) → KT G q (d + 1) zk_X9_sign 53 [(0, vr 20), (1, vi b), (3, vi l3)] [vi s, vi (x.1 20 7), vr 26] x (ri F) := by
    intro l3 s hs
    refine kg_X9_sign_53 hq _ _ _ _ ⟨hm, fun x2 e2 => ?_⟩
    have m2 : x2.1 20 7 = x.1 20 7 := by rw [e2]; (simp only [si_get, sfl_get, Nat.reduceEqDiff, eq_self, and_false, false_and, and_true, true_and, if_true, if_false, reduceIte, reduceCtorEq])
    refine ⟨by rw [m2]; exact hm, fun x4 e4 => ?_⟩
    have fin : ∀ r : Int32, ¬ r = 0 → ¬ r = 3 → F r x4 := by
      intro r r0 r3
      have s6 : x4.1 26 (x.1 20 7).toNatClampNeg = s := by rw [e4, e2]; (simp only [si_get, sfl_get, Nat.reduceEqDiff, eq_self, and_false, false_and, and_true, true_and, if_true, if_false, reduceIte, reduceCtorEq])
      have s8 : x4.1 20 8 = x.1 20 8 + s := by rw [e4, m2, e2]; (simp only [si_get, sfl_get, Nat.reduceEqDiff, eq_self, and_false, false_and, and_true, true_and, if_true, if_false, reduceIte, reduceCtorEq])
      have hs0 : 0 ≤ s.toInt ∧ (x.1 20 8).toInt + s.toInt ≤ (x.1 20 1).toInt := by
        rcases hs with rfl | ⟨rfl, q2⟩
        · exact ⟨by decide, by show _ + (1 : Int) ≤ _; omega⟩
        · exact ⟨by decide, by show _ + (2 : Int) ≤ _; omega⟩
      refine h r x4 r0 r3 ?_ ?_ ?_ ?_
      · rw [e4, e2]; exact fm_si (fm_si (fm_rf _ _) (Or.inr ⟨Or.inl rfl, rfl⟩)) (Or.inl ⟨rfl, rfl⟩)
      · rw [s6]; exact hs0.1
      · rw [s6]; exact hs0.2
      · rw [s6, s8, t_add (by omega) (by omega)]
    refine ⟨fun _ => ⟨fun _ => ri_i (fin _ (by decide) (by decide)), fun _ => ri_i (fin _ (by decide) (by decide))⟩, fun _ => ⟨fun _ => ri_i (fin _ (by decide) (by decide)), fun _ => ri_i (fin _ (by decide) (by decide))⟩, fun _ => ⟨fun _ => ri_i (fin _ (by decide) (by decide)), fun _ => ri_i (fin _ (by decide) (by decide))⟩, fun _ => ⟨fun _ => ri_i (fin _ (by decide) (by decide)), fun _ => ri_i (fin _ (by decide) (by decide))⟩, fun _ => kp_singleSign hq _ (fun r r0 r3 => ri_i (fin r r0 r3))⟩
  have p35 : ∀ s : Int32, (s = 0 ∨ (x.1 20 8).toInt + 1 < (x.1 20 1).toInt) → KT G q (d + 1) zk_X9_sign 35 [(0, vr 20), (1, vi b)] [vi s] x (ri F) := by
    intro s hs
    refine kg_X9_sign_35 hq _ _ ⟨fun _ => p53 _ _ (Or.inl rfl), fun c => p53 _ _ (Or.inr ⟨rfl, ?_⟩)⟩
    rcases hs with e | e
    · exact absurd e c
    · exact e
  exact kg_X9_sign_0 hq _ _ ⟨fun _ => p35 _ (Or.inl rfl), fun c => ⟨fun _ => p35 _ (Or.inr (hn c)), fun _ => ⟨fun _ => p35 _ (Or.inr (hn c)), fun _ => ⟨fun _ => p35 _ (Or.inr (hn c)), fun _ => ⟨fun _ => p35 _ (Or.inl rfl), fun _ => p35 _ (Or.inr (hn c))⟩⟩⟩⟩⟩
theorem kp_cutOne (hq : kV q) (hl : kL x) (hm : vp_in (x.1 20 7) 702) (h0 : 0 ≤ (x.1 20 8).toInt) (h1 : (x.1 20 8).toInt < (x.1 20 1).toInt)
    (h : ∀ r x', ¬ r = 0 → (r = 3 → 0 ≤ (x'.1 27 (x.1 20 7).toNatClampNeg).toInt) → fm (skO (x.1 20 7).toNatClampNeg) x x' → 0 ≤ (x'.1 26 (x.1 20 7).toNatClampNeg).toInt → (x.1 20 8).toInt + (x'.1 26 (x.1 20 7).toNatClampNeg).toInt ≤ 3000 → (x.1 20 8).toInt ≤ (x'.1 20 8).toInt → (x'.1 20 8).toInt ≤ (x.1 20 1).toInt → F r x') : KT G q (d + 9) zk_X9_cutOne 0 [(0, vr 20)] [] x (ri F) := by
  have g1 := hl.2
  have e1 : (x.1 20 8 + 1).toInt = (x.1 20 8).toInt + 1 := by clear h hm; ((try simp only [t_lt, t_le, t_eq, t_cl, tm1, vp_in_iff, Int32.toInt_add, Int32.toInt_sub, Int32.toInt_mul, Int32.reduceToInt, Nat.reducePow] at *) <;> (try simp (disch := omega) only [bm] at *) <;> omega)
  have ld : ∀ {P : gd → Prop}, (∀ y, fm (fun c k => (c = 20 ∧ k = 8) ∨ (c = 26 ∧ k = (x.1 20 7).toNatClampNeg)) x y → (x.1 20 8).toInt ≤ (y.1 20 8).toInt → (y.1 20 8).toInt ≤ (x.1 20 1).toInt → (y.1 26 (x.1 20 7).toNatClampNeg).toInt = (y.1 20 8).toInt - (x.1 20 8).toInt → kL y → y.1 20 7 = x.1 20 7 → P y) → KT G q (d + 8) zk_X9_passLettersAndDigits 0 [(0, vr 20)] [] x (rv P) := by
    intro P hP
    refine kp_passLD hq hl hm h0 (by omega) (fun y hf a1 a2 a3 => hP y hf a1 a2 a3 ?_ (hf _ _ (by omega)))
    unfold kL
    rw [hf 20 1 (by omega)]; exact hl
  refine kg_X9_cutOne_0 hq (kp_byteAt hq _ hl h0 (fun b _ => kp_isLetter hq _ (fun r4 _ => ⟨fun _ => kp_isDigit hq _ (fun r7 _ _ => ⟨fun _ => kp_byteAt hq _ hl (by omega) (fun n hn => kp_sign hq _ _ hl hm h0 h1 ?_ (fun r x' r0 r3 hf s0 s1 s2 => ri_i (h r x' r0 (fun q => absurd q r3) hf s0 (by omega) (by omega) (by omega)))), fun _ => ld (fun y hf a1 a2 a3 hly em => ?_)⟩), fun _ => ld (fun y hf a1 a2 a3 hly em => ?_)⟩)))
  · intro c
    have := hn (by rw [c]; decide)
    rw [e1] at this
    exact this
  · refine kp_wholeOrBad hq _ hly (by rw [em]; exact hm) h0 (by omega) (fun r z r0 r3 hz => ri_i ?_)
    rw [em] at r3 hz
    have z6 : z.1 26 (x.1 20 7).toNatClampNeg = y.1 26 (x.1 20 7).toNatClampNeg := hz _ _ (by omega)
    have z8 : z.1 20 8 = y.1 20 8 := hz _ _ (by omega)
    refine h r z r0 r3 (fm_tr (fm_w hf (fun c k q => ?_)) (fm_w hz (fun c k q => ?_))) ?_ ?_ ?_ ?_
    · unfold skO; omega
    · unfold skO; omega
    · rw [z6]; omega
    · rw [z6]; omega
    · rw [z8]; exact a1
    · rw [z8]; exact a2
  · refine kp_nameOrWord hq _ hly (by rw [em]; exact hm) h0 (by omega) (fun r z r0 r3 hz => ri_i ?_)
    rw [em] at hz
    have z6 : z.1 26 (x.1 20 7).toNatClampNeg = y.1 26 (x.1 20 7).toNatClampNeg := hz _ _ (by omega)
    have z8 : z.1 20 8 = y.1 20 8 := hz _ _ (by omega)
    refine h r z r0 (fun q => absurd q r3) (fm_tr (fm_w hf (fun c k q => ?_)) (fm_w hz (fun c k q => ?_))) ?_ ?_ ?_ ?_
    · unfold skO; omega
    · unfold skO; omega
    · rw [z6]; omega
    · rw [z6]; omega
    · rw [z8]; exact a1
    · rw [z8]; exact a2
end KTOK
