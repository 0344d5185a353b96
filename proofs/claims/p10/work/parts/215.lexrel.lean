/-! the tokens of a text: b its bytes, n how many. A token: where, its kind (by the model's numbers), size, value -/
abbrev isLD (c : Int32) : Prop := isL c ∨ isD c
/-- m bytes from p on are such, and the next one, if there is one, is not -/
def RUNq (q : Int32 → Prop) (b : Nat → Int32) (n p m : Nat) : Prop := p + m ≤ n ∧ (∀ i, i < m → q (b (p + i))) ∧ ¬ (p + m < n ∧ q (b (p + m)))
theorem RUNq_u {q : Int32 → Prop} {b : Nat → Int32} {n p m m' : Nat} (h : RUNq q b n p m) (g : RUNq q b n p m') : m = m' := by
  by_cases c : m < m'
  · exact absurd ⟨by have := g.1; omega, g.2.1 m c⟩ h.2.2
  · by_cases d : m' < m
    · exact absurd ⟨by have := h.1; omega, h.2.1 m' d⟩ g.2.2
    · omega
/-- the words: letters, how many -/
def wtab : List (List Nat) := [[97, 100, 100], [97, 108, 119, 97, 121, 115], [97, 110, 100], [97, 115, 115, 101, 114, 116], [98, 97, 99, 107], [99, 97, 108, 108], [99, 97, 115], [99, 101, 108, 108], [101, 108, 115, 101], [101, 110, 100], [102, 101, 110, 99, 101], [102, 105, 110, 97, 108, 108, 121], [103, 105, 118, 101], [105, 100, 108, 101], [105, 102], [106, 111, 105, 110], [108, 101, 116], [108, 111, 99, 107], [109, 111, 100], [110, 111, 116], [111, 114], [112, 97, 117, 115, 101], [115, 101, 108, 102], [115, 116, 97, 114, 116], [115, 117, 114, 101], [115, 119, 97, 112], [116, 97, 107, 101], [116, 104, 114, 101, 97, 100], [119, 97, 105, 116], [119, 97, 107, 101], [119, 97, 107, 101, 97, 108, 108], [119, 104, 105, 108, 101]]
def wln (w : Nat) : Nat := (wtab.getD w []).length
def wch (w i : Nat) : Int32 := Int32.ofNat ((wtab.getD w []).getD i 32)
def WD (b : Nat → Int32) (p m w : Nat) : Prop := wln w = m ∧ ∀ i, i < m → b (p + i) = wch w i
theorem w_dist : ∀ w, w < 32 → ∀ w', w' < 32 → wtab.getD w [] = wtab.getD w' [] → w = w' := by decide +kernel
theorem w_small : ∀ w, w < 32 → ∀ i, i < 8 → (wtab.getD w []).getD i 32 < 128 := by decide +kernel
theorem w_seven : ∀ w, w < 32 → wln w ≤ 7 := by decide +kernel
theorem w_blank : ∀ w, w < 32 → ∀ i, i < 8 → ((wtab.getD w []).getD i 32 = 32 ↔ wln w ≤ i) := by decide +kernel
theorem wch_inj {w w' i : Nat} (h : w < 32) (h' : w' < 32) (hi : i < 8) (e : wch w i = wch w' i) : (wtab.getD w []).getD i 32 = (wtab.getD w' []).getD i 32 := by
  have a := w_small w h i hi
  have b := w_small w' h' i hi
  unfold wch at e
  have e1 : (Int32.ofNat ((wtab.getD w []).getD i 32)).toInt = ((wtab.getD w []).getD i 32 : Nat) := Int32.toInt_ofNat_of_lt (by omega)
  have e2 : (Int32.ofNat ((wtab.getD w' []).getD i 32)).toInt = ((wtab.getD w' []).getD i 32 : Nat) := Int32.toInt_ofNat_of_lt (by omega)
  rw [e, e2] at e1
  omega
theorem gD_is {α : Type} {l : List α} {i : Nat} {d : α} (h : i < l.length) : l.getD i d = l[i] := by
  rw [List.getD_eq_getElem?_getD, List.getElem?_eq_getElem h]
  rfl
theorem WD_u {b : Nat → Int32} {p m w w' : Nat} (hw : w < 32) (hw' : w' < 32) (h : WD b p m w) (g : WD b p m w') : w = w' := by
  refine w_dist w hw w' hw' ?_
  have l1 : (wtab.getD w []).length = m := h.1
  have l2 : (wtab.getD w' []).length = m := g.1
  have m7 := w_seven w hw
  rw [h.1] at m7
  apply List.ext_getElem (by rw [l1, l2])
  intro i h1 h2
  have e := wch_inj (i := i) hw hw' (by omega) ((h.2 i (by omega)).symm.trans (g.2 i (by omega)))
  rw [gD_is h1, gD_is h2] at e
  exact e
/-- the kind of a sign c with d behind it -/
def sgk (c d : Int32) : Int32 := if d = 61 ∧ (c = 61 ∨ c = 33 ∨ c = 60 ∨ c = 62) then (if c = 61 then 51 else if c = 33 then 52 else if c = 60 then 54 else 56) else if c = 61 then 50 else if c = 60 then 53 else if c = 62 then 55 else if c = 43 then 57 else if c = 45 then 58 else if c = 42 then 59 else if c = 47 then 60 else if c = 40 then 61 else if c = 41 then 62 else if c = 123 then 63 else if c = 125 then 64 else if c = 91 then 65 else if c = 93 then 66 else if c = 59 then 67 else if c = 44 then 68 else 3
theorem ite_n {p : Prop} [Decidable p] {a b v : Int32} (ha : ¬ a = v) (hb : ¬ b = v) : ¬ (if p then a else b) = v := by
  by_cases h : p
  · rw [if_pos h]; exact ha
  · rw [if_neg h]; exact hb
theorem sgk_n2 (c d : Int32) : ¬ sgk c d = 2 := by
  unfold sgk
  repeat' (first | apply ite_n | decide)
def sg2 (c d : Int32) : Prop := d = 61 ∧ (c = 61 ∨ c = 33 ∨ c = 60 ∨ c = 62)
/-- what a whole says -/
def whv (b : Nat → Int32) (p : Nat) : Nat → Int32
  | 0 => 0
  | m + 1 => 10 * whv b p m + b (p + m) - 48
def cby1 (b : Nat → Int32) (n p : Nat) : Int32 := if p < n then b p else -1
def TOK (b : Nat → Int32) (n p : Nat) (k : Int32) (m : Nat) (v : Int32) : Prop :=
  (n ≤ p ∧ k = 0) ∨
  (p < n ∧ isL (b p) ∧ RUNq isLD b n p m ∧ ((∃ w, w < 32 ∧ WD b p m w ∧ k = Int32.ofNat (10 + w)) ∨ ((∀ w, w < 32 → ¬ WD b p m w) ∧ ((m ≤ 12 ∧ k = 1) ∨ (12 < m ∧ k = 3))))) ∨
  (p < n ∧ isD (b p) ∧ ((k = 2 ∧ RUNq isLD b n p m ∧ m ≤ 9 ∧ (∀ i, i < m → isD (b (p + i))) ∧ v = whv b p m) ∨ (k = 3 ∧ ∃ q, RUNq isLD b n p q ∧ (9 < q ∨ ∃ i, i < q ∧ ¬ isD (b (p + i)))))) ∨
  (p < n ∧ ¬ isLD (b p) ∧ k = sgk (b p) (cby1 b n (p + 1)) ∧ ((sg2 (b p) (cby1 b n (p + 1)) ∧ m = 2) ∨ (¬ sg2 (b p) (cby1 b n (p + 1)) ∧ m = 1)))
theorem nLD {c : Int32} (h : isL c) (g : isD c) : False := by
  obtain ⟨g1, g2⟩ := g
  rw [t_le] at g1 g2
  have k48 : (48 : Int32).toInt = 48 := rfl
  have k57 : (57 : Int32).toInt = 57 := rfl
  have k97 : (97 : Int32).toInt = 97 := rfl
  have k65 : (65 : Int32).toInt = 65 := rfl
  rcases h with ⟨a, _⟩ | ⟨a, _⟩ <;> (rw [t_le] at a; omega)
theorem ofN_inj {a b : Nat} (ha : a < 100) (hb : b < 100) (h : Int32.ofNat a = Int32.ofNat b) : a = b := by
  have e1 : (Int32.ofNat a).toInt = (a : Nat) := Int32.toInt_ofNat_of_lt (by omega)
  have e2 : (Int32.ofNat b).toInt = (b : Nat) := Int32.toInt_ofNat_of_lt (by omega)
  rw [h, e2] at e1
  omega
theorem TOK_u {b : Nat → Int32} {n p m m' : Nat} {k k' v v' : Int32} (h : TOK b n p k m v) (g : TOK b n p k' m' v') : k = k' ∧ (¬ k = 3 → ¬ k = 0 → m = m') ∧ (k = 2 → v = v') := by
  rcases h with ⟨h1, h2⟩ | ⟨h0, h1, h2, h3⟩ | ⟨h0, h1, h2⟩ | ⟨h0, h1, h2, h3⟩
  · rcases g with ⟨g1, g2⟩ | ⟨g0, _⟩ | ⟨g0, _⟩ | ⟨g0, _⟩
    · exact ⟨by rw [h2, g2], fun _ q => absurd h2 q, fun q => by rw [h2] at q; exact absurd q (by decide)⟩
    · omega
    · omega
    · omega
  · rcases g with ⟨g1, _⟩ | ⟨g0, g1, g2, g3⟩ | ⟨g0, g1, _⟩ | ⟨g0, g1, _⟩
    · omega
    · have em := RUNq_u h2 g2
      subst em
      rcases h3 with ⟨w, hw, hd, hk⟩ | ⟨hd, hk⟩
      · have n2 : ¬ k = 2 := fun q => by
          rw [hk] at q
          have := ofN_inj (b := 2) (by omega) (by omega) q
          omega
        rcases g3 with ⟨w', hw', gd, gk⟩ | ⟨gd, gk⟩
        · have ew := WD_u hw hw' hd gd
          exact ⟨by rw [hk, gk, ew], fun _ _ => rfl, fun q => absurd q n2⟩
        · exact absurd hd (gd w hw)
      · rcases g3 with ⟨w', hw', gd, gk⟩ | ⟨gd, gk⟩
        · exact absurd gd (hd w' hw')
        · rcases hk with ⟨a1, a2⟩ | ⟨a1, a2⟩ <;> rcases gk with ⟨b1, b2⟩ | ⟨b1, b2⟩
          · exact ⟨by rw [a2, b2], fun _ _ => rfl, fun q => by rw [a2] at q; exact absurd q (by decide)⟩
          · omega
          · omega
          · exact ⟨by rw [a2, b2], fun _ _ => rfl, fun q => by rw [a2] at q; exact absurd q (by decide)⟩
    · exact (nLD h1 g1).elim
    · exact absurd (Or.inl h1) g1
  · rcases g with ⟨g1, _⟩ | ⟨g0, g1, _⟩ | ⟨g0, g1, g2⟩ | ⟨g0, g1, _⟩
    · omega
    · exact (nLD g1 h1).elim
    · rcases h2 with ⟨a1, a2, a3, a4, a5⟩ | ⟨a1, q, a2, a3⟩ <;> rcases g2 with ⟨b1, b2, b3, b4, b5⟩ | ⟨b1, q', b2, b3⟩
      · have em := RUNq_u a2 b2
        subst em
        exact ⟨by rw [a1, b1], fun _ _ => rfl, fun _ => by rw [a5, b5]⟩
      · have em := RUNq_u a2 b2
        subst em
        rcases b3 with b3 | ⟨i, c1, c2⟩
        · omega
        · exact absurd (a4 i c1) c2
      · have em := RUNq_u a2 b2
        subst em
        rcases a3 with a3 | ⟨i, c1, c2⟩
        · omega
        · exact absurd (b4 i c1) c2
      · exact ⟨by rw [a1, b1], fun q _ => absurd a1 q, fun q => by rw [a1] at q; exact absurd q (by decide)⟩
    · exact absurd (Or.inr h1) g1
  · rcases g with ⟨g1, _⟩ | ⟨g0, g1, _⟩ | ⟨g0, g1, _⟩ | ⟨g0, g1, g2, g3⟩
    · omega
    · exact absurd (Or.inl g1) h1
    · exact absurd (Or.inr g1) h1
    · refine ⟨by rw [h2, g2], fun _ _ => ?_, fun q => ?_⟩
      · rcases h3 with ⟨a1, a2⟩ | ⟨a1, a2⟩ <;> rcases g3 with ⟨b1, b2⟩ | ⟨b1, b2⟩
        · omega
        · exact absurd a1 b1
        · exact absurd b1 a1
        · omega
      · rw [h2] at q
        exact absurd q (sgk_n2 _ _)
/-- where the next token begins, from p on -/
def lx (b : Nat → Int32) (n p : Nat) : Nat := lxs b n (n + 1) false p
/-- the tokens up to e: the end, a broken one, or the 701st -/
def TSq (b : Nat → Int32) (n e : Nat) (K : Nat → Int32) (P Z : Nat → Nat) (V : Nat → Int32) : Prop :=
  e ≤ 700 ∧ P 0 = lx b n 0 ∧ (∀ j, j < e → P (j + 1) = lx b n (P j + Z j)) ∧ (∀ j, j ≤ e → TOK b n (P j) (K j) (Z j) (V j)) ∧ (∀ j, j < e → ¬ K j = 0 ∧ ¬ K j = 3) ∧ (K e = 0 ∨ K e = 3 ∨ e = 700)
theorem TSq_u {b : Nat → Int32} {n e e' : Nat} {K K' : Nat → Int32} {P P' Z Z' : Nat → Nat} {V V' : Nat → Int32} (h : TSq b n e K P Z V) (g : TSq b n e' K' P' Z' V') : e = e' ∧ ∀ j, j ≤ e → P j = P' j ∧ K j = K' j ∧ (¬ K j = 3 → ¬ K j = 0 → Z j = Z' j) ∧ (K j = 2 → V j = V' j) := by
  obtain ⟨h0, h1, h2, h3, h4, h5⟩ := h
  obtain ⟨g0, g1, g2, g3, g4, g5⟩ := g
  have key : ∀ j, j ≤ e → j ≤ e' → P j = P' j ∧ K j = K' j ∧ (¬ K j = 3 → ¬ K j = 0 → Z j = Z' j) ∧ (K j = 2 → V j = V' j) := by
    intro j
    induction j with
    | zero =>
      intro a c
      have eP : P 0 = P' 0 := h1.trans g1.symm
      have t := g3 0 c
      rw [← eP] at t
      exact ⟨eP, TOK_u (h3 0 a) t⟩
    | succ j ih =>
      intro a c
      obtain ⟨i1, i2, i3, i4⟩ := ih (by omega) (by omega)
      have eP : P (j + 1) = P' (j + 1) := by rw [h2 j (by omega), g2 j (by omega), i1, i3 (h4 j (by omega)).2 (h4 j (by omega)).1]
      have t := g3 (j + 1) c
      rw [← eP] at t
      exact ⟨eP, TOK_u (h3 _ a) t⟩
  have ee : e = e' := by
    by_cases c : e < e'
    · have k := (key e (Nat.le_refl _) (by omega)).2.1
      have q := g4 e c
      rw [← k] at q
      rcases h5 with h5 | h5 | h5
      · exact absurd h5 q.1
      · exact absurd h5 q.2
      · omega
    · by_cases d : e' < e
      · have k := (key e' (by omega) (Nat.le_refl _)).2.1
        have q := h4 e' d
        rw [k] at q
        rcases g5 with g5 | g5 | g5
        · exact absurd g5 q.1
        · exact absurd g5 q.2
        · omega
      · omega
  exact ⟨ee, fun j hj => key j hj (by omega)⟩
/-! skipping blanks, one byte at a time -/
section LXS
variable {b : Nat → Int32} {n : Nat}
theorem lxs_fuel : ∀ (f g : Nat) (r : Bool) (p : Nat), n + 1 ≤ f + p → n + 1 ≤ g + p → p ≤ n → lxs b n f r p = lxs b n g r p := by
  intro f
  induction f with
  | zero => intro g r p h1 h2 h3; omega
  | succ f ih =>
    intro g r p h1 h2 h3
    obtain ⟨g, rfl⟩ : ∃ k, g = k + 1 := ⟨g - 1, by omega⟩
    rw [lxs, lxs]
    by_cases c : n ≤ p
    · rw [if_pos c, if_pos c]
    · rw [if_neg c, if_neg c, ih g false (p + 1) (by omega) (by omega) (by omega), ih g true (p + 1) (by omega) (by omega) (by omega), ih g r (p + 1) (by omega) (by omega) (by omega)]
/-- from p on, in a remark or not -/
def lxr (b : Nat → Int32) (n : Nat) (r : Bool) (p : Nat) : Nat := lxs b n (n + 1) r p
theorem lxr_end {r : Bool} {p : Nat} (h : n ≤ p) : lxr b n r p = p := by
  unfold lxr
  rw [lxs, if_pos h]
theorem lxr_step {r : Bool} {p : Nat} (h : p < n) : lxr b n r p = if b p = 10 then lxr b n false (p + 1) else if b p = 47 ∧ (if p + 1 < n then b (p + 1) else 0) = 47 then lxr b n true (p + 1) else if r = false ∧ ¬ b p = 32 ∧ ¬ b p = 9 ∧ ¬ b p = 13 then p else lxr b n r (p + 1) := by
  unfold lxr
  rw [lxs, if_neg (by omega), lxs_fuel n (n + 1) false (p + 1) (by omega) (by omega) (by omega), lxs_fuel n (n + 1) true (p + 1) (by omega) (by omega) (by omega), lxs_fuel n (n + 1) r (p + 1) (by omega) (by omega) (by omega)]
theorem lxr_le {r : Bool} : ∀ (k p : Nat), n - p ≤ k → p ≤ n → p ≤ lxr b n r p ∧ lxr b n r p ≤ n := by
  intro k
  induction k generalizing r with
  | zero =>
    intro p h1 h2
    rw [lxr_end (by omega)]
    omega
  | succ k ih =>
    intro p h1 h2
    by_cases c : n ≤ p
    · rw [lxr_end c]; omega
    · rw [lxr_step (by omega)]
      have a1 := ih (r := false) (p + 1) (by omega) (by omega)
      have a2 := ih (r := true) (p + 1) (by omega) (by omega)
      have a3 := ih (r := r) (p + 1) (by omega) (by omega)
      by_cases c1 : b p = 10
      · rw [if_pos c1]; omega
      · rw [if_neg c1]
        by_cases c2 : b p = 47 ∧ (if p + 1 < n then b (p + 1) else 0) = 47
        · rw [if_pos c2]; omega
        · rw [if_neg c2]
          by_cases c3 : r = false ∧ ¬ b p = 32 ∧ ¬ b p = 9 ∧ ¬ b p = 13
          · rw [if_pos c3]; omega
          · rw [if_neg c3]; omega
end LXS
