/-! definitions: told 28 with arrays 30 to 35, cells 23 (36, 37), locks 24, threads 25 (38, 39), always 26 (40), finals 27 (41) -/
def tD (x x' : gd) (w a b c r t : Int32) : Prop := md [28] [30, 31, 32, 33, 34, 35] x x' ∧ x'.1 0 28 = x.1 0 28 + 1 ∧ (∀ j : Nat, x'.1 30 j = if j = (x.1 0 28).toNatClampNeg then w else x.1 30 j) ∧ (∀ j : Nat, x'.1 31 j = if j = (x.1 0 28).toNatClampNeg then a else x.1 31 j) ∧ (∀ j : Nat, x'.1 32 j = if j = (x.1 0 28).toNatClampNeg then b else x.1 32 j) ∧ (∀ j : Nat, x'.1 33 j = if j = (x.1 0 28).toNatClampNeg then c else x.1 33 j) ∧ (∀ j : Nat, x'.1 34 j = if j = (x.1 0 28).toNatClampNeg then vp_nar .boolean r else x.1 34 j) ∧ (∀ j : Nat, x'.1 35 j = if j = (x.1 0 28).toNatClampNeg then t else x.1 35 j)
section SPL
variable {G : mG} {d : Nat} {x : gd} {F : Int32 → gd → Prop} {Fv : gd → Prop}
theorem sp_tell (w a b c r t : Int32) (hn : vp_in (x.1 0 28) 40) (h : ∀ x', tD x x' w a b c r t → Fv x') : MT G d z_tell 0 [(0, vr 0), (1, vi w), (2, vi a), (3, vi b), (4, vi c), (5, vi r), (6, vi t)] [] x (rv Fv) := by
  obtain ⟨n, en⟩ : ∃ n, n = x.1 0 28 := ⟨_, rfl⟩
  refine sg_tell_0 _ _ _ _ _ _ ⟨hn, ?_⟩
  intro x2 e2
  have f2 : x2.1 0 28 = n := by rw [e2, si_cell (by decide), en]
  refine ⟨by rw [f2, en]; exact hn, ?_⟩
  intro x4 e4
  have f4 : x4.1 0 28 = n := by rw [e4, si_cell (by decide), f2]
  refine ⟨by rw [f4, en]; exact hn, ?_⟩
  intro x6 e6
  have f6 : x6.1 0 28 = n := by rw [e6, si_cell (by decide), f4]
  refine ⟨by rw [f6, en]; exact hn, ?_⟩
  intro x8 e8
  have f8 : x8.1 0 28 = n := by rw [e8, si_cell (by decide), f6]
  refine ⟨by rw [f8, en]; exact hn, ?_⟩
  intro x10 e10
  have f10 : x10.1 0 28 = n := by rw [e10, si_cell (by decide), f8]
  refine ⟨by rw [f10, en]; exact hn, ?_⟩
  intro x12 e12
  have f12 : x12.1 0 28 = n := by rw [e12, si_cell (by decide), f10]
  intro x13 e13
  rw [← en] at e2
  rw [f2] at e4
  rw [f4] at e6
  rw [f6] at e8
  rw [f8] at e10
  rw [f10] at e12
  rw [f12] at e13
  have f13 : x13.1 0 28 = n + 1 := by rw [e13, si_get, if_pos ⟨rfl, rfl⟩]
  have one : ∀ (c9 : Nat) (v9 : Int32) (z z' : gd), z' = si z c9 n.toNatClampNeg v9 → ∀ j : Nat, z'.1 c9 j = if j = n.toNatClampNeg then v9 else z.1 c9 j := by
    intro c9 v9 z z' e j
    rw [e, si_get]
    by_cases q : j = n.toNatClampNeg
    · rw [if_pos ⟨rfl, q⟩, if_pos q]
    · rw [if_neg (fun z => q z.2), if_neg q]
  have m : md [28] [30, 31, 32, 33, 34, 35] x x13 := by
    rw [e13]
    refine md_tr (L := []) (A := [30, 31, 32, 33, 34, 35]) ?_ (md_f x12 28 (n + 1)) rfl rfl
    rw [e12]
    refine md_tr (L := []) (A := [30, 31, 32, 33, 34]) ?_ (md_a x10 35 n.toNatClampNeg t (by decide)) rfl rfl
    rw [e10]
    refine md_tr (L := []) (A := [30, 31, 32, 33]) ?_ (md_a x8 34 n.toNatClampNeg (vp_nar .boolean r) (by decide)) rfl rfl
    rw [e8]
    refine md_tr (L := []) (A := [30, 31, 32]) ?_ (md_a x6 33 n.toNatClampNeg c (by decide)) rfl rfl
    rw [e6]
    refine md_tr (L := []) (A := [30, 31]) ?_ (md_a x4 32 n.toNatClampNeg b (by decide)) rfl rfl
    rw [e4]
    refine md_tr (L := []) (A := [30]) ?_ (md_a x2 31 n.toNatClampNeg a (by decide)) rfl rfl
    rw [e2]
    exact md_a x 30 n.toNatClampNeg w (by decide)
  refine rv_i (h x13 ⟨m, by rw [f13, en], ?_, ?_, ?_, ?_, ?_, ?_⟩)
  all_goals
    intro j
    rw [← en]
  · rw [e13, si_cell (by decide), e12, si_cell (by decide), e10, si_cell (by decide), e8, si_cell (by decide), e6, si_cell (by decide), e4, si_cell (by decide)]
    exact one 30 w x x2 e2 j
  · rw [e13, si_cell (by decide), e12, si_cell (by decide), e10, si_cell (by decide), e8, si_cell (by decide), e6, si_cell (by decide), one 31 a x2 x4 e4 j, e2, si_cell (by decide)]
  · rw [e13, si_cell (by decide), e12, si_cell (by decide), e10, si_cell (by decide), e8, si_cell (by decide), one 32 b x4 x6 e6 j, e4, si_cell (by decide), e2, si_cell (by decide)]
  · rw [e13, si_cell (by decide), e12, si_cell (by decide), e10, si_cell (by decide), one 33 c x6 x8 e8 j, e6, si_cell (by decide), e4, si_cell (by decide), e2, si_cell (by decide)]
  · rw [e13, si_cell (by decide), e12, si_cell (by decide), one 34 (vp_nar .boolean r) x8 x10 e10 j, e8, si_cell (by decide), e6, si_cell (by decide), e4, si_cell (by decide), e2, si_cell (by decide)]
  · rw [e13, si_cell (by decide), one 35 t x10 x12 e12 j, e10, si_cell (by decide), e8, si_cell (by decide), e6, si_cell (by decide), e4, si_cell (by decide), e2, si_cell (by decide)]
end SPL

def tot (S : Nat → Nat) : Nat → Nat
  | 0 => 0
  | n + 1 => tot S n + S n
/-- the counts -/
def GB (x : gd) : Prop := 0 ≤ (x.1 0 23).toInt ∧ (x.1 0 23).toInt ≤ 24 ∧ 0 ≤ (x.1 0 24).toInt ∧ (x.1 0 24).toInt ≤ 6 ∧ 0 ≤ (x.1 0 25).toInt ∧ (x.1 0 25).toInt ≤ 6 ∧ 0 ≤ (x.1 0 26).toInt ∧ (x.1 0 26).toInt ≤ 4 ∧ 0 ≤ (x.1 0 27).toInt ∧ (x.1 0 27).toInt ≤ 4 ∧ 0 ≤ (x.1 0 28).toInt ∧ (x.1 0 28).toInt ≤ (x.1 0 23).toInt + (x.1 0 24).toInt + (x.1 0 25).toInt
/-- a name that is told -/
def tE (x : gd) (j : Nat) : Prop := vp_in (x.1 30 j) 710 ∧ ((x.1 31 j = 0 ∧ 0 ≤ (x.1 32 j).toInt ∧ 1 ≤ (x.1 33 j).toInt ∧ (x.1 32 j).toInt + (x.1 33 j).toInt ≤ (x.1 0 23).toInt) ∨ (x.1 31 j = 1 ∧ 0 ≤ (x.1 32 j).toInt ∧ (x.1 32 j).toInt < (x.1 0 24).toInt) ∨ (x.1 31 j = 2 ∧ 0 ≤ (x.1 32 j).toInt ∧ (x.1 32 j).toInt < (x.1 0 25).toInt)) ∧ (x.1 34 j = 0 ∨ vp_in (x.1 35 j) 710)
/-- the trees: threads' blocks and orders, of at most n tokens in all -/
def PT (n : Int) (x : gd) : Prop := ∃ S A B : Nat → Nat, (∀ t : Nat, (t : Int) < (x.1 0 25).toInt → vB x 0 (vS x 0 17) (S t) 8 (x.1 39 t)) ∧ (∀ t : Nat, (t : Int) < (x.1 0 26).toInt → vE x (A t) (A t) 17 (x.1 40 t)) ∧ (∀ t : Nat, (t : Int) < (x.1 0 27).toInt → vE x (B t) (B t) 17 (x.1 41 t)) ∧ ((tot S (x.1 0 25).toNatClampNeg + tot A (x.1 0 26).toNatClampNeg + tot B (x.1 0 27).toNatClampNeg : Nat) : Int) ≤ n
def NN (x x' : gd) : Prop := (x.1 0 13).toInt ≤ (x'.1 0 13).toInt ∧ ∀ c : Nat, 15 ≤ c → c ≤ 20 → ∀ j : Nat, (j : Int) < (x.1 0 13).toInt → x'.1 c j = x.1 c j
theorem NN_RP {x x' : gd} (h : RP x x') : NN x x' := ⟨h.2.2.2.2.1, h.2.2.2.2.2⟩
theorem NN_NL {x x' : gd} (m l : Int) (h : NN x x') : NL m l x x' := ⟨⟨h.1, fun c h1 h2 j hj => h.2 c h1 (by omega) j hj⟩, fun j hj _ _ => h.2 20 (by decide) (by decide) j hj⟩
theorem NN_md {L A : List Nat} {x x' : gd} (h : md L A x x') (h13 : 13 ∉ L) (hA : ∀ c : Nat, 15 ≤ c → c ≤ 20 → c ∉ A) : NN x x' := ⟨by rw [h.1 13 h13]; exact Int.le_refl _, fun c h1 h2 j _ => by rw [h.2.1 c (by omega) (hA c h1 h2)]⟩
theorem PT_keep {n n' : Int} {x x' : gd} (h : NN x x') (hn : n ≤ n') (e25 : x'.1 0 25 = x.1 0 25) (e26 : x'.1 0 26 = x.1 0 26) (e27 : x'.1 0 27 = x.1 0 27) (e39 : x'.1 39 = x.1 39) (e40 : x'.1 40 = x.1 40) (e41 : x'.1 41 = x.1 41) (q : PT n x) : PT n' x' := by
  obtain ⟨S, A, B, q1, q2, q3, q4⟩ := q
  refine ⟨S, A, B, fun t ht => ?_, fun t ht => ?_, fun t ht => ?_, by rw [e25, e26, e27]; omega⟩
  · rw [e39]; rw [e25] at ht
    exact vB_keep (Int.le_refl _) (NN_NL 0 _ h) (fun _ _ _ he g => vS_keep (Int.le_refl _) (NN_NL 0 _ h) _ _ _ _ he g) (Int.le_refl _) (q1 t ht)
  · rw [e40]; rw [e26] at ht
    exact vE_NK (NN_NL 0 0 h).1 (q2 t ht)
  · rw [e41]; rw [e27] at ht
    exact vE_NK (NN_NL 0 0 h).1 (q3 t ht)
theorem tE_keep {x x' : gd} (e : ∀ c : Nat, 30 ≤ c → c ≤ 35 → ∀ j : Nat, (j : Int) < (x.1 0 28).toInt → x'.1 c j = x.1 c j) (h3 : (x.1 0 23).toInt ≤ (x'.1 0 23).toInt) (h4 : (x.1 0 24).toInt ≤ (x'.1 0 24).toInt) (h5 : (x.1 0 25).toInt ≤ (x'.1 0 25).toInt) {j : Nat} (hj : (j : Int) < (x.1 0 28).toInt) (q : tE x j) : tE x' j := by
  unfold tE at q ⊢
  rw [e 30 (by decide) (by decide) j hj, e 31 (by decide) (by decide) j hj, e 32 (by decide) (by decide) j hj, e 33 (by decide) (by decide) j hj, e 34 (by decide) (by decide) j hj, e 35 (by decide) (by decide) j hj]
  obtain ⟨q1, q2, q3⟩ := q
  refine ⟨q1, ?_, q3⟩
  rcases q2 with ⟨a, b, c, d⟩ | ⟨a, b, c⟩ | ⟨a, b, c⟩
  · exact Or.inl ⟨a, b, c, by omega⟩
  · exact Or.inr (Or.inl ⟨a, b, by omega⟩)
  · exact Or.inr (Or.inr ⟨a, b, by omega⟩)
/-- the program as it is read so far -/
def PG (x : gd) : Prop := 0 ≤ (x.1 0 13).toInt ∧ 0 ≤ cr x ∧ GB x ∧ (∀ j : Nat, (j : Int) < (x.1 0 28).toInt → tE x j) ∧ PT (x.1 0 8).toInt x
theorem PG_ss {x x' : gd} (h : SS x x') (q : PG x) : PG x' := by
  obtain ⟨q1, q2, q3, q4, q5⟩ := q
  have r := RP_ss h
  have c := (cr_ss h).1
  have e : ∀ k : Nat, k ∉ [8, 9, 10] → x'.1 0 k = x.1 0 k := h.1.1
  have a : ∀ k : Nat, k ≠ 0 → x'.1 k = x.1 k := fun k hk => h.1.2.1 k hk (by intro z; cases z)
  refine ⟨by rw [e 13 (by decide)]; exact q1, by omega, ?_, fun j hj => ?_, PT_keep (NN_RP r) h.2.2.1 (e _ (by decide)) (e _ (by decide)) (e _ (by decide)) (a _ (by decide)) (a _ (by decide)) (a _ (by decide)) q5⟩
  · unfold GB
    rw [e 23 (by decide), e 24 (by decide), e 25 (by decide), e 26 (by decide), e 27 (by decide), e 28 (by decide)]
    exact q3
  · rw [e 28 (by decide)] at hj
    exact tE_keep (fun c h1 _ j _ => by rw [a c (by omega)]) (by rw [e 23 (by decide)]; exact Int.le_refl _) (by rw [e 24 (by decide)]; exact Int.le_refl _) (by rw [e 25 (by decide)]; exact Int.le_refl _) hj (q4 j hj)
