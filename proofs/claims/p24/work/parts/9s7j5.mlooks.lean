/-! the model: what looking at a state adds to what is told of all -/
/-- a thread's take of lock b behind lock a -/
def tkP (C : gCo) (w nl : Nat) (M : gMa) (t a b : Nat) : Prop := canM C w M t ∧ soM C (M.2.2 t) = 5 ∧ ¬ a = obM C (M.2.2 t).2.2.1 ∧ (hdN M t nl >>> (Int32.ofNat a &&& 31)) &&& 1 = 1 ∧ b = obM C (M.2.2 t).2.2.1
def tkE (C : gCo) (w nl : Nat) (M : gMa) (k a b : Nat) : Prop := ∃ t, t < k ∧ tkP C w nl M t a b
def LE1 (C : gCo) (w : Nat) (M : gMa) (L : List (List Int32)) (z y : gd) (W : Nat) : Prop := (chM C w M = [] ∧ y.1 122 W = z.1 122 W + 1 ∧ OUm y W (inR (roM C M) L)) ∨ (¬ chM C w M = [] ∧ y.1 122 W = z.1 122 W ∧ OUm y W L)
/-- the other way's are left -/
def LW2 (z y : gd) (W : Nat) : Prop := ∀ v, v < 2 → ¬ v = W → y.1 122 v = z.1 122 v ∧ y.1 124 v = z.1 124 v ∧ y.1 125 v = z.1 125 v ∧ (∀ c, c < 24 → y.1 127 (24 * v + c) = z.1 127 (24 * v + c)) ∧ ∀ k, k < 36 → y.1 128 (36 * v + k) = z.1 128 (36 * v + k)
def LZ0 (L : List (List Int32)) (n : Int32) (z y : gd) (W : Nat) : Prop := y.1 122 W = z.1 122 W ∧ y.1 124 W = z.1 124 W ∧ y.1 125 W = z.1 125 W + n ∧ y.1 127 = z.1 127 ∧ y.1 128 = z.1 128 ∧ OUm y W L ∧ LW2 z y W
def LZ1 (C : gCo) (w : Nat) (M : gMa) (L : List (List Int32)) (n : Int32) (z y : gd) (W : Nat) : Prop := LE1 C w M L z y W ∧ y.1 124 W = z.1 124 W ∧ y.1 125 W = z.1 125 W + n ∧ y.1 127 = z.1 127 ∧ y.1 128 = z.1 128 ∧ LW2 z y W
def LZd (C : gCo) (w : Nat) (M : gMa) (L : List (List Int32)) (n : Int32) (z y : gd) (W : Nat) : Prop := LE1 C w M L z y W ∧ ((idM C w M ∧ y.1 124 W = z.1 124 W + 1) ∨ (¬ idM C w M ∧ y.1 124 W = z.1 124 W)) ∧ y.1 125 W = z.1 125 W + n ∧ LW2 z y W
/-- k threads' acts are seen, of the next one commons if c, and takes behind the first j locks -/
def LZ3 (C : gCo) (w nl : Nat) (M : gMa) (L : List (List Int32)) (n : Int32) (z y : gd) (W k k' j : Nat) : Prop := LZd C w M L n z y W ∧ (∀ c, c < 24 → y.1 127 (24 * W + c) = cmT C w nl M c k' (z.1 127 (24 * W + c))) ∧ ∀ a, a < 6 → ∀ b, b < 6 → (¬ y.1 128 (36 * W + 6 * a + b) = 0 ↔ (¬ z.1 128 (36 * W + 6 * a + b) = 0 ∨ tkE C w nl M (if a < j then k + 1 else k) a b))
def LZ2 (C : gCo) (w nl : Nat) (M : gMa) (L : List (List Int32)) (n : Int32) (z y : gd) (W k : Nat) : Prop := LZ3 C w nl M L n z y W k k 0
/-- nothing of it is touched -/
def eqL (y y' : gd) : Prop := ∀ c, c = 122 ∨ c = 123 ∨ c = 124 ∨ c = 125 ∨ c = 127 ∨ c = 128 ∨ c = 129 → y'.1 c = y.1 c
section MLS
variable {C : gCo} {w nl : Nat} {M : gMa} {L : List (List Int32)} {n : Int32} {z y y' : gd} {W k k' j : Nat}
theorem eqL_r (m : md rL rA y y') : eqL y y' := fun c hc => by
  rcases hc with e | e | e | e | e | e | e <;> rw [e] <;> exact m.2.1 _ (by decide) (by decide)
theorem eqL_6 (m : md [] [126] y y') : eqL y y' := fun c hc => by
  rcases hc with e | e | e | e | e | e | e <;> rw [e] <;> exact m.2.1 _ (by decide) (by decide)
theorem LW2_f (e : eqL y y') (h : LW2 z y W) : LW2 z y' W := fun v h1 h2 => by
  obtain ⟨a1, a2, a3, a4, a5⟩ := h v h1 h2
  exact ⟨by rw [e 122 (by omega)]; exact a1, by rw [e 124 (by omega)]; exact a2, by rw [e 125 (by omega)]; exact a3, fun c hc => by rw [e 127 (by omega)]; exact a4 c hc, fun k hk => by rw [e 128 (by omega)]; exact a5 k hk⟩
theorem LE1_f (e : eqL y y') (h : LE1 C w M L z y W) : LE1 C w M L z y' W := by
  rcases h with ⟨h1, h2, h3⟩ | ⟨h1, h2, h3⟩
  · exact Or.inl ⟨h1, by rw [e 122 (by omega)]; exact h2, OUm_f (e 123 (by omega)) (e 129 (by omega)) h3⟩
  · exact Or.inr ⟨h1, by rw [e 122 (by omega)]; exact h2, OUm_f (e 123 (by omega)) (e 129 (by omega)) h3⟩
theorem LZ0_f (e : eqL y y') (h : LZ0 L n z y W) : LZ0 L n z y' W := by
  obtain ⟨h1, h2, h3, h4, h5, h6, h7⟩ := h
  exact ⟨by rw [e 122 (by omega)]; exact h1, by rw [e 124 (by omega)]; exact h2, by rw [e 125 (by omega)]; exact h3, by rw [e 127 (by omega)]; exact h4, by rw [e 128 (by omega)]; exact h5, OUm_f (e 123 (by omega)) (e 129 (by omega)) h6, LW2_f e h7⟩
theorem LZ1_f (e : eqL y y') (h : LZ1 C w M L n z y W) : LZ1 C w M L n z y' W := by
  obtain ⟨h1, h2, h3, h4, h5, h6⟩ := h
  exact ⟨LE1_f e h1, by rw [e 124 (by omega)]; exact h2, by rw [e 125 (by omega)]; exact h3, by rw [e 127 (by omega)]; exact h4, by rw [e 128 (by omega)]; exact h5, LW2_f e h6⟩
theorem LZ3_f (e : eqL y y') (h : LZ3 C w nl M L n z y W k k' j) : LZ3 C w nl M L n z y' W k k' j := by
  obtain ⟨⟨h1, h2, h3, h4⟩, h5, h6⟩ := h
  exact ⟨⟨LE1_f e h1, by rw [e 124 (by omega)]; exact h2, by rw [e 125 (by omega)]; exact h3, LW2_f e h4⟩, fun c hc => by rw [e 127 (by omega)]; exact h5 c hc, fun a ha b hb => by rw [e 128 (by omega)]; exact h6 a ha b hb⟩
/-- a state with choices -/
theorem LZ0_1 (hc : ¬ chM C w M = []) (h : LZ0 L n z y W) : LZ1 C w M L n z y W := ⟨Or.inr ⟨hc, h.1, h.2.2.2.2.2.1⟩, h.2.1, h.2.2.1, h.2.2.2.1, h.2.2.2.2.1, h.2.2.2.2.2.2⟩
theorem tkE_up {a b : Nat} : tkE C w nl M (k + 1) a b ↔ tkE C w nl M k a b ∨ tkP C w nl M k a b := by
  constructor
  · rintro ⟨t, h1, h2⟩
    by_cases e : t = k
    · rw [e] at h2; exact Or.inr h2
    · exact Or.inl ⟨t, by omega, h2⟩
  · rintro (⟨t, h1, h2⟩ | h)
    · exact ⟨t, by omega, h2⟩
    · exact ⟨k, by omega, h⟩
/-- locks beyond those that there are aren't held -/
theorem hd_hi {t a : Nat} (ha : a < 6) : ∀ n, n ≤ a → (hdN M t n >>> (Int32.ofNat a &&& 31)) &&& 1 = 0 := by
  intro n
  induction n with
  | zero => intro _; exact km_0 a (by omega)
  | succ n ih =>
    intro hn
    have ih := ih (by omega)
    rw [hdN]
    split
    · have := (bit_or (hdN M t n) (u := n) (t := a) (by omega) (by omega))
      rcases t_and1 ((hdN M t n ||| ((1 : Int32) <<< (Int32.ofNat n &&& 31))) >>> (Int32.ofNat a &&& 31)) with e | e
      · exact e
      · rcases this.mp e with q | q
        · rw [ih] at q; exact absurd q (by decide)
        · omega
    · exact ih
/-- a thread without an act adds nothing -/
theorem LZ2_n (hn : ¬ canM C w M k) (h : LZ2 C w nl M L n z y W k) : LZ2 C w nl M L n z y W (k + 1) := by
  obtain ⟨h1, h5, h6⟩ := h
  refine ⟨h1, fun c hc => ?_, fun a ha b hb => ?_⟩
  · rw [cmT]
    unfold caT
    rw [if_neg (fun q => hn q.1)]; exact h5 c hc
  · rw [h6 a ha b hb, if_neg (Nat.not_lt_zero _), if_neg (Nat.not_lt_zero _), tkE_up]
    exact ⟨fun q => q.imp id Or.inl, fun q => q.imp id (fun q => q.resolve_right (fun q => hn q.1))⟩
/-- no more takes: the thread is done -/
theorem LZ3_end (h : LZ3 C w nl M L n z y W k (k + 1) j) (hj : ∀ a b, j ≤ a → a < 6 → b < 6 → ¬ tkP C w nl M k a b) : LZ2 C w nl M L n z y W (k + 1) := by
  obtain ⟨h1, h5, h6⟩ := h
  refine ⟨h1, h5, fun a ha b hb => ?_⟩
  rw [h6 a ha b hb, if_neg (Nat.not_lt_zero _)]
  by_cases c : a < j
  · rw [if_pos c]
  · rw [if_neg c, tkE_up]
    exact ⟨fun q => q.imp id Or.inl, fun q => q.imp id (fun q => q.resolve_right (hj a b (by omega) ha hb))⟩
/-- the next lock: nothing is taken behind it -/
theorem LZ3_no (h : LZ3 C w nl M L n z y W k k' j) (hj : ∀ b, b < 6 → ¬ tkP C w nl M k j b) : LZ3 C w nl M L n z y W k k' (j + 1) := by
  obtain ⟨h1, h5, h6⟩ := h
  refine ⟨h1, h5, fun a ha b hb => ?_⟩
  rw [h6 a ha b hb]
  by_cases e : a = j
  · rw [if_neg (by omega), if_pos (by omega), tkE_up]
    exact ⟨fun q => q.imp id Or.inl, fun q => q.imp id (fun q => q.resolve_right (by rw [e]; exact hj b hb))⟩
  · by_cases c : a < j
    · rw [if_pos c, if_pos (by omega)]
    · rw [if_neg c, if_neg (by omega)]
/-- the next lock: one is taken behind it -/
theorem LZ3_yes {B : Nat} (W2 : W < 2) (hj6 : j < 6) (hB : B < 6) (ey : y' = si y 128 (36 * W + 6 * j + B) 1) (h : LZ3 C w nl M L n z y W k k' j) (hj : ∀ b, b < 6 → (tkP C w nl M k j b ↔ b = B)) : LZ3 C w nl M L n z y' W k k' (j + 1) := by
  obtain ⟨⟨h1, h2, h3, h4⟩, h5, h6⟩ := h
  have e : ∀ c, ¬ c = 128 → y'.1 c = y.1 c := fun c hc => by rw [ey, si_cell hc]
  refine ⟨⟨?_, by rw [e 124 (by omega)]; exact h2, by rw [e 125 (by omega)]; exact h3, fun v v1 v2 => ?_⟩, fun c hc => by rw [e 127 (by omega)]; exact h5 c hc, fun a ha b hb => ?_⟩
  · rcases h1 with ⟨q1, q2, q3⟩ | ⟨q1, q2, q3⟩
    · exact Or.inl ⟨q1, by rw [e 122 (by omega)]; exact q2, OUm_f (e 123 (by omega)) (e 129 (by omega)) q3⟩
    · exact Or.inr ⟨q1, by rw [e 122 (by omega)]; exact q2, OUm_f (e 123 (by omega)) (e 129 (by omega)) q3⟩
  · obtain ⟨a1, a2, a3, a4, a5⟩ := h4 v v1 v2
    exact ⟨by rw [e 122 (by omega)]; exact a1, by rw [e 124 (by omega)]; exact a2, by rw [e 125 (by omega)]; exact a3, fun c hc => by rw [e 127 (by omega)]; exact a4 c hc, fun k hk => by rw [ey, si_get, if_neg (by omega)]; exact a5 k hk⟩
  · rw [ey, si_get]
    by_cases c9 : a = j ∧ b = B
    · rw [if_pos ⟨rfl, by omega⟩]
      refine ⟨fun _ => Or.inr ?_, fun _ => by decide⟩
      rw [if_pos (by omega), tkE_up, c9.1]
      exact Or.inr ((hj b hb).mpr c9.2)
    · rw [if_neg (by omega), h6 a ha b hb]
      by_cases e9 : a = j
      · rw [if_neg (by omega), if_pos (by omega), tkE_up]
        exact ⟨fun q => q.imp id Or.inl, fun q => q.imp id (fun q => q.resolve_right (fun q => c9 ⟨e9, (hj b hb).mp (by rw [← e9]; exact q)⟩))⟩
      · by_cases c : a < j
        · rw [if_pos c, if_pos (by omega)]
        · rw [if_neg c, if_neg (by omega)]
/-- a thread's access, or none -/
theorem LZ2_c (h : LZ2 C w nl M L n z y W k) (W2 : W < 2) (e : ∀ c, ¬ c = 127 → y'.1 c = y.1 c) (e7 : ∀ j, (∀ c, c < 24 → ¬ j = 24 * W + c) → y'.1 127 j = y.1 127 j) (hc : ∀ c, c < 24 → y'.1 127 (24 * W + c) = caT C w nl M k c (y.1 127 (24 * W + c))) : LZ3 C w nl M L n z y' W k (k + 1) 0 := by
  obtain ⟨⟨h1, h2, h3, h4⟩, h5, h6⟩ := h
  refine ⟨⟨?_, by rw [e 124 (by omega)]; exact h2, by rw [e 125 (by omega)]; exact h3, fun v v1 v2 => ?_⟩, fun c hc9 => by rw [hc c hc9, h5 c hc9, cmT], fun a ha b hb => by rw [e 128 (by omega)]; exact h6 a ha b hb⟩
  · rcases h1 with ⟨q1, q2, q3⟩ | ⟨q1, q2, q3⟩
    · exact Or.inl ⟨q1, by rw [e 122 (by omega)]; exact q2, OUm_f (e 123 (by omega)) (e 129 (by omega)) q3⟩
    · exact Or.inr ⟨q1, by rw [e 122 (by omega)]; exact q2, OUm_f (e 123 (by omega)) (e 129 (by omega)) q3⟩
  · obtain ⟨a1, a2, a3, a4, a5⟩ := h4 v v1 v2
    exact ⟨by rw [e 122 (by omega)]; exact a1, by rw [e 124 (by omega)]; exact a2, by rw [e 125 (by omega)]; exact a3, fun c hc => by rw [e7 _ (fun c' hc' => by omega)]; exact a4 c hc, fun k hk => by rw [e 128 (by omega)]; exact a5 k hk⟩
/-- what the model holds of all states -/
def MLo (y : gd) (W : Nat) (l : gLo) : Prop := (y.1 122 W).toInt = (l.1 : Nat) ∧ (y.1 124 W).toInt = (l.2.1 : Nat) ∧ (y.1 125 W).toInt = (l.2.2.1 : Nat) ∧ (∀ c, c < 24 → y.1 127 (24 * W + c) = l.2.2.2.1 c) ∧ (∀ a, a < 6 → ∀ b, b < 6 → (¬ y.1 128 (36 * W + 6 * a + b) = 0 ↔ (l.2.2.2.2.1 a >>> (Int32.ofNat b &&& 31)) &&& 1 = 1)) ∧ OUm y W l.2.2.2.2.2
theorem cb_bit {a b : Nat} {v : Int32} (hb : b < 6) (ho : ∀ t, soM C (M.2.2 t) = 5 → canM C w M t → obM C (M.2.2 t).2.2.1 < 6) : ∀ k, ((cbT C w nl M a k v >>> (Int32.ofNat b &&& 31)) &&& 1 = 1 ↔ ((v >>> (Int32.ofNat b &&& 31)) &&& 1 = 1 ∨ tkE C w nl M k a b)) := by
  intro k
  induction k with
  | zero => exact ⟨Or.inl, fun q => q.elim id (fun ⟨t, q, _⟩ => absurd q (Nat.not_lt_zero _))⟩
  | succ k ih =>
    rw [cbT, tkE_up]
    unfold tkT
    by_cases c : canM C w M k ∧ soM C (M.2.2 k) = 5 ∧ ¬ a = obM C (M.2.2 k).2.2.1 ∧ (hdN M k nl >>> (Int32.ofNat a &&& 31)) &&& 1 = 1
    · rw [if_pos c, bit_or _ (by have := ho k c.2.1 c.1; omega) (by omega), ih]
      constructor
      · rintro ((q | q) | q)
        · exact Or.inl q
        · exact Or.inr (Or.inl q)
        · exact Or.inr (Or.inr ⟨c.1, c.2.1, c.2.2.1, c.2.2.2, q⟩)
      · rintro (q | q | q)
        · exact Or.inl (Or.inl q)
        · exact Or.inl (Or.inr q)
        · exact Or.inr q.2.2.2.2
    · rw [if_neg c, ih]
      exact ⟨fun q => q.imp id Or.inl, fun q => q.imp id (fun q => q.resolve_right (fun q => c ⟨q.1, q.2.1, q.2.2.1, q.2.2.2.1⟩))⟩
theorem MLo_next {l : gLo} (hk : k < 3000) (hb : BLo l k) (h84 : (chM C w M).length ≤ 84) (ho : ∀ t, soM C (M.2.2 t) = 5 → canM C w M t → obM C (M.2.2 t).2.2.1 < 6) (n84 : n.toInt = ((chM C w M).length : Nat)) (h : MLo z W l) (g : LZ2 C w nl M l.2.2.2.2.2 n z y W C.2.1.length) : MLo y W (loM C w nl M l) := by
  obtain ⟨h1, h2, h3, h4, h5, h6⟩ := h
  obtain ⟨⟨g1, g2, g3, g4⟩, g5, g6⟩ := g
  obtain ⟨b1, b2, b3, b4⟩ := hb
  have k1 : (1 : Int32).toInt = 1 := rfl
  refine ⟨?_, ?_, ?_, fun c hc => ?_, fun a ha b hb => ?_, ?_⟩
  · show _ = ((l.1 + (if chM C w M = [] then 1 else 0) : Nat) : Int)
    rcases g1 with ⟨i3, i4, -⟩ | ⟨i3, i4, -⟩
    · rw [if_pos i3, i4, t_add (by rw [k1]; omega) (by rw [k1]; omega), k1, h1]; push_cast; rfl
    · rw [if_neg i3, i4, h1]; rfl
  · show _ = ((l.2.1 + (@ite Nat (idM C w M) (Classical.propDecidable _) 1 0) : Nat) : Int)
    rcases g2 with ⟨i3, i4⟩ | ⟨i3, i4⟩
    · rw [if_pos i3, i4, t_add (by rw [k1]; omega) (by rw [k1]; omega), k1, h2]; push_cast; rfl
    · rw [if_neg i3, i4, h2]; rfl
  · show _ = ((l.2.2.1 + (chM C w M).length : Nat) : Int)
    rw [g3, t_add (by omega) (by omega), h3, n84]; push_cast; rfl
  · rw [g5 c hc, h4 c hc]; rfl
  · show _ ↔ (cbT C w nl M a C.2.1.length (l.2.2.2.2.1 a) >>> (Int32.ofNat b &&& 31)) &&& 1 = 1
    rw [g6 a ha b hb, if_neg (Nat.not_lt_zero _), cb_bit hb ho, h5 a ha b hb]
  · show OUm y W (if chM C w M = [] then inR (roM C M) l.2.2.2.2.2 else l.2.2.2.2.2)
    rcases g1 with ⟨i3, -, i5⟩ | ⟨i3, -, i5⟩
    · rw [if_pos i3]; exact i5
    · rw [if_neg i3]; exact i5
end MLS
