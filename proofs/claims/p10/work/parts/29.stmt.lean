/-! statements: vS x k s c e: the statement e, nested at most k deep, of s tokens and c lets; vB: a block; ln: a row of statements by their links -/
def ln (x : gd) : Int32 → List (Int32 × Nat × Nat) → Prop
  | e, [] => e = -1
  | e, q :: r => e = q.1 ∧ (0 ≤ e.toInt ∧ e.toInt < (x.1 0 13).toInt) ∧ ln x (x.1 20 e.toNatClampNeg) r
def sm (f : Int32 × Nat × Nat → Nat) : List (Int32 × Nat × Nat) → Nat
  | [] => 0
  | q :: r => f q + sm f r
def vB (x : gd) (m : Int) (V : Nat → Nat → Int32 → Prop) (s c : Nat) (e : Int32) : Prop := (0 ≤ e.toInt ∧ e.toInt < (x.1 0 13).toInt) ∧ vp_in (x.1 19 e.toNatClampNeg) 710 ∧ x.1 15 e.toNatClampNeg = 32 ∧ ∃ L : List (Int32 × Nat × Nat), ln x (x.1 16 e.toNatClampNeg) L ∧ (∀ q ∈ L, V q.2.1 q.2.2 q.1 ∧ q.1.toInt < e.toInt ∧ m ≤ q.1.toInt) ∧ sm (fun q => q.2.1) L + 2 ≤ s ∧ sm (fun q => q.2.2) L ≤ c
def vD (x : gd) (m : Int) (V : Nat → Nat → Int32 → Prop) (s c : Nat) (w a b d e : Int32) : Prop :=
  (w = 20 ∧ vp_in a 710 ∧ 1 ≤ c ∧ vR x (s - 1) b) ∨
  (w = 21 ∧ vp_in a 710 ∧ vR x (s - 1) b) ∨
  (w = 22 ∧ vp_in a 710 ∧ ∃ i j : Nat, i + j + 1 ≤ s ∧ vE x i i 17 b ∧ vE x j j 17 d) ∨
  (w = 23 ∧ ∃ i j q c1 c2 : Nat, i + j + q + 1 ≤ s ∧ c1 + c2 ≤ c ∧ vE x i i 17 a ∧ vB x m V j c1 b ∧ b.toInt < e.toInt ∧ (d = -1 ∨ (d.toInt < e.toInt ∧ (vB x m V q c2 d ∨ V q c2 d)))) ∨
  (w = 24 ∧ ∃ i j : Nat, i + j + 1 ≤ s ∧ vE x i i 17 a ∧ vB x m V j c b ∧ b.toInt < e.toInt) ∨
  (w = 25 ∧ vp_in a 710 ∧ vB x m V (s - 2) c b ∧ b.toInt < e.toInt) ∨
  (w = 26 ∧ vp_in b 710) ∨
  w = 27 ∨
  ((w = 28 ∨ w = 30) ∧ vE x (s - 1) (s - 1) 17 a) ∨
  (w = 29 ∧ vp_in a 710 ∧ vE x (s - 1) (s - 1) 17 b) ∨
  w = 31
def vS (x : gd) (m : Int) : Nat → Nat → Nat → Int32 → Prop
  | 0, _, _, _ => False
  | k + 1, s, c, e => (0 ≤ e.toInt ∧ e.toInt < (x.1 0 13).toInt) ∧ vp_in (x.1 19 e.toNatClampNeg) 710 ∧ 2 ≤ s ∧ vD x m (vS x m k) s c (x.1 15 e.toNatClampNeg) (x.1 16 e.toNatClampNeg) (x.1 17 e.toNatClampNeg) (x.1 18 e.toNatClampNeg) e
/-- statements stay where nodes stay, and their links from m to l -/
def NL (m l : Int) (x x' : gd) : Prop := NK x x' ∧ ∀ j : Nat, (j : Int) < (x.1 0 13).toInt → m ≤ (j : Int) → (j : Int) < l → x'.1 20 j = x.1 20 j
theorem NL_RP {x x' : gd} (m l : Int) (h : RP x x') : NL m l x x' := ⟨NK_RP h, fun j hj _ _ => h.2.2.2.2.2 20 (by decide) (by decide) j hj⟩
theorem ln_keep {m l : Int} {x x' : gd} (h : NL m l x x') : ∀ (L : List (Int32 × Nat × Nat)) (e : Int32), (∀ q ∈ L, m ≤ q.1.toInt ∧ q.1.toInt < l) → ln x e L → ln x' e L := by
  intro L
  induction L with
  | nil => intro e _ q; exact q
  | cons a r ih =>
    intro e hl q
    obtain ⟨q1, q2, q3⟩ := q
    have h1 := h.1.1
    have hj : ((e.toNatClampNeg : Nat) : Int) < (x.1 0 13).toInt := by rw [t_cl]; omega
    have ha := hl a List.mem_cons_self
    rw [← q1] at ha
    have hj2 : ((e.toNatClampNeg : Nat) : Int) < l := by rw [t_cl]; omega
    have hj3 : m ≤ ((e.toNatClampNeg : Nat) : Int) := by rw [t_cl]; omega
    refine ⟨q1, ⟨q2.1, by omega⟩, ?_⟩
    rw [h.2 _ hj hj3 hj2]
    exact ih _ (fun z hz => hl z (List.mem_cons_of_mem _ hz)) q3
theorem vB_keep {m m' l : Int} (hm : m' ≤ m) {x x' : gd} (h : NL m l x x') {V V' : Nat → Nat → Int32 → Prop} (hV : ∀ s c e, e.toInt ≤ l → V s c e → V' s c e) {s c : Nat} {e : Int32} (he : e.toInt ≤ l) (q : vB x m V s c e) : vB x' m' V' s c e := by
  obtain ⟨q1, q2, q3, L, q4, q5, q6, q7⟩ := q
  obtain ⟨a1, a2, a3, a4, a5, a6⟩ := NK_at h.1 q1
  refine ⟨a1, by rw [a6]; exact q2, by rw [a2]; exact q3, L, ?_, fun z hz => ⟨hV _ _ _ (by have := (q5 z hz).2.1; omega) (q5 z hz).1, (q5 z hz).2.1, by have := (q5 z hz).2.2; omega⟩, q6, q7⟩
  rw [a3]
  exact ln_keep h _ _ (fun z hz => by have := (q5 z hz).2; omega) q4
theorem vB_mono {x : gd} {m : Int} {V : Nat → Nat → Int32 → Prop} {s s' c c' : Nat} {e : Int32} (hs : s ≤ s') (hc : c ≤ c') (q : vB x m V s c e) : vB x m V s' c' e := by
  obtain ⟨q1, q2, q3, L, q4, q5, q6, q7⟩ := q
  exact ⟨q1, q2, q3, L, q4, q5, by omega, by omega⟩
theorem vD_keep {m m' l : Int} (hm : m' ≤ m) {x x' : gd} (h : NL m l x x') {V V' : Nat → Nat → Int32 → Prop} (hV : ∀ s c e, e.toInt ≤ l → V s c e → V' s c e) {s c : Nat} {w a b d e : Int32} (he : e.toInt ≤ l) (q4 : vD x m V s c w a b d e) : vD x' m' V' s c w a b d e := by
  have hB : ∀ {s c : Nat} {e : Int32}, e.toInt ≤ l → vB x m V s c e → vB x' m' V' s c e := fun he g => vB_keep hm h hV he g
  rcases q4 with ⟨g1, g2, g3, g4⟩ | ⟨g1, g2, g3⟩ | ⟨g1, g2, a, b, g3, g4, g5⟩ | ⟨g1, a, b, q, c1, c2, g2, g3, g4, g5, g5b, g6⟩ | ⟨g1, a, b, g2, g3, g4, g4b⟩ | ⟨g1, g2, g3, g3b⟩ | g | g | ⟨g1, g2⟩ | ⟨g1, g2, g3⟩ | g
  · exact Or.inl ⟨g1, g2, g3, vR_NK h.1 g4⟩
  · exact Or.inr (Or.inl ⟨g1, g2, vR_NK h.1 g3⟩)
  · exact Or.inr (Or.inr (Or.inl ⟨g1, g2, a, b, g3, vE_NK h.1 g4, vE_NK h.1 g5⟩))
  · refine Or.inr (Or.inr (Or.inr (Or.inl ⟨g1, a, b, q, c1, c2, g2, g3, vE_NK h.1 g4, hB (by omega) g5, g5b, ?_⟩)))
    rcases g6 with g6 | ⟨g6b, g6 | g7⟩
    · exact Or.inl g6
    · exact Or.inr ⟨g6b, Or.inl (hB (by omega) g6)⟩
    · exact Or.inr ⟨g6b, Or.inr (hV _ _ _ (by omega) g7)⟩
  · exact Or.inr (Or.inr (Or.inr (Or.inr (Or.inl ⟨g1, a, b, g2, vE_NK h.1 g3, hB (by omega) g4, g4b⟩))))
  · exact Or.inr (Or.inr (Or.inr (Or.inr (Or.inr (Or.inl ⟨g1, g2, hB (by omega) g3, g3b⟩)))))
  · exact Or.inr (Or.inr (Or.inr (Or.inr (Or.inr (Or.inr (Or.inl g))))))
  · exact Or.inr (Or.inr (Or.inr (Or.inr (Or.inr (Or.inr (Or.inr (Or.inl g)))))))
  · exact Or.inr (Or.inr (Or.inr (Or.inr (Or.inr (Or.inr (Or.inr (Or.inr (Or.inl ⟨g1, vE_NK h.1 g2⟩))))))))
  · exact Or.inr (Or.inr (Or.inr (Or.inr (Or.inr (Or.inr (Or.inr (Or.inr (Or.inr (Or.inl ⟨g1, g2, vE_NK h.1 g3⟩)))))))))
  · exact Or.inr (Or.inr (Or.inr (Or.inr (Or.inr (Or.inr (Or.inr (Or.inr (Or.inr (Or.inr g)))))))))
theorem vD_mono {m : Int} {x : gd} {V : Nat → Nat → Int32 → Prop} {s s' c : Nat} {w a b d e : Int32} (hs : s ≤ s') (q4 : vD x m V s c w a b d e) : vD x m V s' c w a b d e := by
  have hE : ∀ {i i' : Nat} {e : Int32}, i ≤ i' → vE x i i 17 e → vE x i' i' 17 e := fun h g => vE_mono _ _ _ _ _ _ _ h h (Nat.le_refl _) g
  rcases q4 with ⟨g1, g2, g3, g4⟩ | ⟨g1, g2, g3⟩ | ⟨g1, g2, a, b, g3, g4, g5⟩ | ⟨g1, a, b, q, c1, c2, g2, g3, g4, g5, g5b, g6⟩ | ⟨g1, a, b, g2, g3, g4, g4b⟩ | ⟨g1, g2, g3, g3b⟩ | g | g | ⟨g1, g2⟩ | ⟨g1, g2, g3⟩ | g
  · exact Or.inl ⟨g1, g2, g3, vR_mono (by omega) g4⟩
  · exact Or.inr (Or.inl ⟨g1, g2, vR_mono (by omega) g3⟩)
  · exact Or.inr (Or.inr (Or.inl ⟨g1, g2, a, b, by omega, g4, g5⟩))
  · exact Or.inr (Or.inr (Or.inr (Or.inl ⟨g1, a, b, q, c1, c2, by omega, g3, g4, g5, g5b, g6⟩)))
  · exact Or.inr (Or.inr (Or.inr (Or.inr (Or.inl ⟨g1, a, b, by omega, g3, g4, g4b⟩))))
  · exact Or.inr (Or.inr (Or.inr (Or.inr (Or.inr (Or.inl ⟨g1, g2, vB_mono (by omega) (Nat.le_refl _) g3, g3b⟩)))))
  · exact Or.inr (Or.inr (Or.inr (Or.inr (Or.inr (Or.inr (Or.inl g))))))
  · exact Or.inr (Or.inr (Or.inr (Or.inr (Or.inr (Or.inr (Or.inr (Or.inl g)))))))
  · exact Or.inr (Or.inr (Or.inr (Or.inr (Or.inr (Or.inr (Or.inr (Or.inr (Or.inl ⟨g1, hE (by omega) g2⟩))))))))
  · exact Or.inr (Or.inr (Or.inr (Or.inr (Or.inr (Or.inr (Or.inr (Or.inr (Or.inr (Or.inl ⟨g1, g2, hE (by omega) g3⟩)))))))))
  · exact Or.inr (Or.inr (Or.inr (Or.inr (Or.inr (Or.inr (Or.inr (Or.inr (Or.inr (Or.inr g)))))))))
theorem vS_keep {m m' l : Int} (hm : m' ≤ m) {x x' : gd} (h : NL m l x x') : ∀ (k s c : Nat) (e : Int32), e.toInt ≤ l → vS x m k s c e → vS x' m' k s c e := by
  intro k
  induction k with
  | zero => intro s c e _ q; exact q.elim
  | succ k ih =>
    intro s c e he q
    obtain ⟨q1, q2, q3, q4⟩ := q
    obtain ⟨a1, a2, a3, a4, a5, a6⟩ := NK_at h.1 q1
    refine ⟨a1, by rw [a6]; exact q2, q3, ?_⟩
    rw [a2, a3, a4, a5]
    exact vD_keep hm h ih he q4
theorem vS_mono {m : Int} {x : gd} {k s s' c : Nat} {e : Int32} (hs : s ≤ s') (q : vS x m (k + 1) s c e) : vS x m (k + 1) s' c e := ⟨q.1, q.2.1, by have := q.2.2.1; omega, vD_mono hs q.2.2.2⟩
theorem vS_RP {x x' : gd} {m m' : Int} (hm : m' ≤ m) (h : RP x x') {k s c : Nat} {e : Int32} (q : vS x m k s c e) : vS x' m' k s c e := vS_keep hm (NL_RP m e.toInt h) k s c e (Int.le_refl _) q
theorem vB_RP {x x' : gd} {m m' : Int} (hm : m' ≤ m) (h : RP x x') {k s c : Nat} {e : Int32} (q : vB x m (vS x m k) s c e) : vB x' m' (vS x' m' k) s c e := vB_keep hm (NL_RP m e.toInt h) (fun _ _ _ _ g => vS_RP hm h g) (Int.le_refl _) q
theorem NK_rfl (x : gd) : NK x x := ⟨Int.le_refl _, fun _ _ _ _ _ => rfl⟩
theorem vS_low {x : gd} {m m' : Int} (hm : m' ≤ m) {k s c : Nat} {e : Int32} (q : vS x m k s c e) : vS x m' k s c e := vS_keep hm (l := e.toInt) ⟨NK_rfl x, fun _ _ _ _ => rfl⟩ k s c e (Int.le_refl _) q
theorem ln_snoc {x : gd} : ∀ (L : List (Int32 × Nat × Nat)) (e : Int32) (q p : Int32 × Nat × Nat), ln x e (L ++ [q]) → ∀ x' : gd, (x.1 0 13).toInt ≤ (x'.1 0 13).toInt → (0 ≤ p.1.toInt ∧ p.1.toInt < (x'.1 0 13).toInt) → (∀ j : Nat, (j : Int) < q.1.toInt → x'.1 20 j = x.1 20 j) → x'.1 20 q.1.toNatClampNeg = p.1 → x'.1 20 p.1.toNatClampNeg = -1 → (∀ z ∈ L, z.1.toInt < q.1.toInt) → ln x' e (L ++ [q, p]) := by
  intro L
  induction L with
  | nil =>
    intro e q p h x' hn hp hk hq hp2 _
    obtain ⟨h1, h2, -⟩ := h
    exact ⟨h1, ⟨h2.1, by omega⟩, by rw [h1]; exact hq, by rw [h1, hq]; exact hp, by rw [h1, hq]; exact hp2⟩
  | cons a r ih =>
    intro e q p h x' hn hp hk hq hp2 hl
    obtain ⟨h1, h2, h3⟩ := h
    have ha := hl a List.mem_cons_self
    rw [← h1] at ha
    have hj : ((e.toNatClampNeg : Nat) : Int) < q.1.toInt := by rw [t_cl]; omega
    refine ⟨h1, ⟨h2.1, by omega⟩, ?_⟩
    rw [hk _ hj]
    exact ih _ q p h3 x' hn hp hk hq hp2 (fun z hz => hl z (List.mem_cons_of_mem _ hz))
theorem sm_app (f : Int32 × Nat × Nat → Nat) : ∀ (L : List (Int32 × Nat × Nat)) (p : Int32 × Nat × Nat), sm f (L ++ [p]) = sm f L + f p := by
  intro L p
  induction L with
  | nil => show f p + 0 = 0 + f p; omega
  | cons a r ih => show f a + sm f (r ++ [p]) = f a + sm f r + f p; rw [ih]; omega
/-- lets: field 21 -/
def LT (x : gd) : Prop := 0 ≤ (x.1 0 21).toInt ∧ (x.1 0 21).toInt ≤ 8
/-- what a statement at nesting 16 - k leaves -/
def QS (k : Nat) (x : gd) (r : Int32) (x' : gd) : Prop := RP x x' ∧ -(3 * ((k : Int) + 1)) ≤ cr x' ∧ 0 ≤ r.toInt ∧ ((x'.1 0 9).toInt = 0 → x'.1 0 20 = x.1 0 20 ∧ (x.1 0 8).toInt + 2 ≤ (x'.1 0 8).toInt ∧ cr x ≤ cr x' ∧ (x.1 0 21).toInt ≤ (x'.1 0 21).toInt ∧ LT x' ∧ vS x' (x.1 0 13).toInt (k + 1) ((x'.1 0 8).toInt - (x.1 0 8).toInt).toNat ((x'.1 0 21).toInt - (x.1 0 21).toInt).toNat r ∧ x'.1 20 r.toNatClampNeg = -1 ∧ (x.1 0 13).toInt ≤ r.toInt)
def SpS (k : Nat) : Prop := ∀ (G : mG) (D : Nat) (x : gd) (F : Int32 → gd → Prop), 4 * k + 20 ≤ D → PreK k 0 x → (x.1 0 9).toInt = 0 → LT x → (∀ r x', QS k x r x' → F r x') → MT G D z_readS 0 [(0, vr 0)] [] x (ri F)
/-- what a block leaves whose statements stand at nesting 16 - k: with a fault ahead one node -/
def QB (k : Nat) (x : gd) (r : Int32) (x' : gd) : Prop := RP x x' ∧ ((x.1 0 9).toInt = 0 → -(3 * ((k : Int) + 1) + 1) ≤ cr x') ∧ (0 < (x.1 0 9).toInt → cr x ≤ cr x' + 1) ∧ 0 ≤ r.toInt ∧ ((x'.1 0 9).toInt = 0 → x'.1 0 20 = x.1 0 20 ∧ (x.1 0 8).toInt + 2 ≤ (x'.1 0 8).toInt ∧ cr x + 3 ≤ cr x' ∧ (x.1 0 21).toInt ≤ (x'.1 0 21).toInt ∧ LT x' ∧ vB x' (x.1 0 13).toInt (vS x' (x.1 0 13).toInt (k + 1)) ((x'.1 0 8).toInt - (x.1 0 8).toInt).toNat ((x'.1 0 21).toInt - (x.1 0 21).toInt).toNat r)
