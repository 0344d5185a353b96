/-! statements: what they tell (after vS, vB of 29) -/
abbrev gR := List ((Int32 × Nat × Nat) × gU)
/-- a right side behind which ; stands: a name alone is its node -/
def vRs (x : gd) (r : Int32) (tg : Option Nat) (M : gU) : Prop := vRr x r tg M ∧ (x.1 15 r.toNatClampNeg = 10 → x.1 15 (x.1 16 r.toNatClampNeg).toNatClampNeg = 3 → x.1 5 (x.1 19 r.toNatClampNeg).toNatClampNeg = 1 ∧ x.1 5 ((x.1 19 r.toNatClampNeg).toNatClampNeg + 1) = 67)
def wB (x : gd) (m : Int) (V : Int32 → gU → Prop) (z : Nat) (e : Int32) (M : gU) : Prop := (0 ≤ e.toInt ∧ e.toInt < (x.1 0 13).toInt) ∧ x.1 15 e.toNatClampNeg = 32 ∧ ∃ R : gR, ln x (x.1 16 e.toNatClampNeg) (R.map Prod.fst) ∧ (∀ q ∈ R, V q.1.1 q.2 ∧ q.1.1.toInt < e.toInt ∧ m ≤ q.1.1.toInt) ∧ M = [(20, z, 0)] ++ (R.flatMap Prod.snd ++ [(21, z, 0)])
def wD (x : gd) (m : Int) (V : Int32 → gU → Prop) (i : Nat) (w a b d e : Int32) (M : gU) : Prop :=
  (w = 20 ∧ ∃ N, vRs x b none N ∧ M = [(23, a.toNatClampNeg, 0)] ++ (N ++ [(22, a.toNatClampNeg, i)])) ∨
  (w = 21 ∧ a.toNatClampNeg = i ∧ ∃ N, vRs x b (some i) N ∧ M = N ++ [(77, i, 0)]) ∨
  (w = 22 ∧ a.toNatClampNeg = i ∧ ∃ n1 n2 N1 N2, vV x false n1 b N1 ∧ vV x false n2 d N2 ∧ M = [(7, i, 0)] ++ ((N1 ++ [(54, 0, 0)]) ++ ((N2 ++ [(54, 0, 0)]) ++ [(78, i, 0)]))) ∨
  (w = 23 ∧ ∃ n1 N1 N2 N3, vV x false n1 a N1 ∧ wB x m V 3 b N2 ∧ b.toInt < e.toInt ∧ ((d = -1 ∧ N3 = []) ∨ (d.toInt < e.toInt ∧ 0 ≤ d.toInt ∧ ∃ j N4, N3 = [(62, j, 0)] ++ N4 ∧ (wB x m V 4 d N4 ∨ (¬ x.1 15 d.toNatClampNeg = 32 ∧ V d N4 ∧ ∃ N5, N4 = N5 ++ [(63, 0, 0)])))) ∧ M = (N1 ++ [(54, 0, 0)]) ++ ([(60, i, 0)] ++ (N2 ++ (N3 ++ [(63, 0, 0)])))) ∨
  (w = 24 ∧ ∃ n1 N1 N2, vV x false n1 a N1 ∧ wB x m V 1 b N2 ∧ b.toInt < e.toInt ∧ M = (N1 ++ [(54, 0, 0)]) ++ ([(61, i, 0)] ++ N2)) ∨
  (w = 25 ∧ ∃ N2, wB x m V 2 b N2 ∧ b.toInt < e.toInt ∧ M = [(65, i, a.toNatClampNeg)] ++ N2) ∨
  (w = 26 ∧ a = x.1 5 i ∧ ((¬ (a = 33 ∨ a = 25) ∧ M = [(66, i, b.toNatClampNeg)]) ∨ ((a = 33 ∨ a = 25) ∧ M = [(67, i, b.toNatClampNeg)]))) ∨
  (w = 27 ∧ (a = x.1 5 i ∧ (a = 20 ∨ a = 31)) ∧ M = [(68, i, 0)]) ∨
  ((w = 28 ∨ w = 30) ∧ ((w = 28 ∧ x.1 5 i = 13) ∨ (w = 30 ∧ x.1 5 i = 14)) ∧ ∃ n1 N1, vV x false n1 a N1 ∧ M = (N1 ++ [(54, 0, 0)]) ++ [(69, i, 0)]) ∨
  (w = 29 ∧ ∃ n1 N1, vV x false n1 b N1 ∧ M = (N1 ++ [(54, 0, 0)]) ++ [(70, i, a.toNatClampNeg)]) ∨
  (w = 31 ∧ x.1 5 i = 19 ∧ M = [(68, i, 0)])
def wSt (x : gd) (m : Int) : Nat → Int32 → gU → Prop
  | 0, _, _ => False
  | k + 1, e, M => (0 ≤ e.toInt ∧ e.toInt < (x.1 0 13).toInt) ∧ ¬ x.1 15 e.toNatClampNeg = 32 ∧ wD x m (wSt x m k) (x.1 19 e.toNatClampNeg).toNatClampNeg (x.1 15 e.toNatClampNeg) (x.1 16 e.toNatClampNeg) (x.1 17 e.toNatClampNeg) (x.1 18 e.toNatClampNeg) e M
/-- nodes and links that stay, kinds and values too -/
def NX (m l : Int) (x x' : gd) : Prop := NL m l x x' ∧ x'.1 5 = x.1 5 ∧ x'.1 7 = x.1 7
theorem NX_NF {m l : Int} {x x' : gd} (h : NX m l x x') : NF x x' := ⟨h.1.1, h.2.1, h.2.2⟩
theorem NX_RP {x x' : gd} (m l : Int) (h : RP x x') : NX m l x x' := ⟨NL_RP m l h, h.1.2.1 5 (by decide) (by decide), h.1.2.1 7 (by decide) (by decide)⟩
theorem vRs_NF {x x' : gd} (h : NF x x') {r : Int32} {tg : Option Nat} {M : gU} (q : vRs x r tg M) : vRs x' r tg M := by
  obtain ⟨q, p⟩ := q
  refine ⟨vRr_NF h q, ?_⟩
  obtain ⟨b, t, et, q⟩ := q
  obtain ⟨a1, a2, a3, a4, a5, a6⟩ := NK_at h.1 b
  rw [a2, a3, a6, h.2.1]
  intro e10 e3
  refine p e10 ?_
  rcases q with ⟨q1, q2, q3, ⟨n, M1, v⟩, q5, q6⟩ | ⟨q1, q2, n, M1, v, e⟩ | ⟨q1, -⟩ | ⟨q1, -⟩ | ⟨q1, -⟩
  · exact q5
  · obtain ⟨c1, c2, c3, c4, c5, c6⟩ := NK_at h.1 (vV_at v)
    rw [c2] at e3; exact e3
  · rw [q1] at e10; exact absurd e10 (by decide)
  · rcases q1 with ⟨q1, -⟩ | ⟨q1, -⟩ <;> rw [q1] at e10 <;> exact absurd e10 (by decide)
  · rw [q1] at e10; exact absurd e10 (by decide)
theorem wB_keep {m m' l : Int} (hm : m' ≤ m) {x x' : gd} (h : NX m l x x') {V V' : Int32 → gU → Prop} (hV : ∀ e M, e.toInt ≤ l → V e M → V' e M) {z : Nat} {e : Int32} {M : gU} (he : e.toInt ≤ l) (q : wB x m V z e M) : wB x' m' V' z e M := by
  obtain ⟨q1, q3, R, q4, q5, q6⟩ := q
  obtain ⟨a1, a2, a3, a4, a5, a6⟩ := NK_at h.1.1 q1
  refine ⟨a1, by rw [a2]; exact q3, R, ?_, fun z hz => ⟨hV _ _ (by have := (q5 z hz).2.1; omega) (q5 z hz).1, (q5 z hz).2.1, by have := (q5 z hz).2.2; omega⟩, q6⟩
  rw [a3]
  refine ln_keep h.1 _ _ (fun z hz => ?_) q4
  obtain ⟨y, hy, rfl⟩ := List.mem_map.mp hz
  have := (q5 y hy).2
  omega
theorem wD_keep {m m' l : Int} (hm : m' ≤ m) {x x' : gd} (h : NX m l x x') {V V' : Int32 → gU → Prop} (hV : ∀ e M, e.toInt ≤ l → V e M → V' e M) (hat : ∀ e M, V e M → 0 ≤ e.toInt ∧ e.toInt < (x.1 0 13).toInt) {i : Nat} {w a b d e : Int32} {M : gU} (he : e.toInt ≤ l) (q4 : wD x m V i w a b d e M) : wD x' m' V' i w a b d e M := by
  have nf := NX_NF h
  have hB : ∀ {z : Nat} {e : Int32} {M : gU}, e.toInt ≤ l → wB x m V z e M → wB x' m' V' z e M := fun he g => wB_keep hm h hV he g
  unfold wD
  rw [h.2.1]
  rcases q4 with ⟨g1, N, g2, g3⟩ | ⟨g1, g0, N, g2, g3⟩ | ⟨g1, g0, n1, n2, N1, N2, g2, g3, g4⟩ | ⟨g1, n1, N1, N2, N3, g2, g3, g4, g5, g6⟩ | ⟨g1, n1, N1, N2, g2, g3, g4, g5⟩ | ⟨g1, N2, g2, g3, g4⟩ | g | g | ⟨g1, g0, n1, N1, g2, g3⟩ | ⟨g1, n1, N1, g2, g3⟩ | g
  · exact Or.inl ⟨g1, N, vRs_NF nf g2, g3⟩
  · exact Or.inr (Or.inl ⟨g1, g0, N, vRs_NF nf g2, g3⟩)
  · exact Or.inr (Or.inr (Or.inl ⟨g1, g0, n1, n2, N1, N2, vV_NF nf g2, vV_NF nf g3, g4⟩))
  · refine Or.inr (Or.inr (Or.inr (Or.inl ⟨g1, n1, N1, N2, N3, vV_NF nf g2, hB (by omega) g3, g4, ?_, g6⟩)))
    rcases g5 with g5 | ⟨g5, g5b, j, N4, g7, g8 | ⟨g8, g9, g10⟩⟩
    · exact Or.inl g5
    · exact Or.inr ⟨g5, g5b, j, N4, g7, Or.inl (hB (by omega) g8)⟩
    · obtain ⟨a1, a2, -⟩ := NK_at h.1.1 (hat _ _ g9)
      exact Or.inr ⟨g5, g5b, j, N4, g7, Or.inr ⟨by rw [a2]; exact g8, hV _ _ (by omega) g9, g10⟩⟩
  · exact Or.inr (Or.inr (Or.inr (Or.inr (Or.inl ⟨g1, n1, N1, N2, vV_NF nf g2, hB (by omega) g3, g4, g5⟩))))
  · exact Or.inr (Or.inr (Or.inr (Or.inr (Or.inr (Or.inl ⟨g1, N2, hB (by omega) g2, g3, g4⟩)))))
  · exact Or.inr (Or.inr (Or.inr (Or.inr (Or.inr (Or.inr (Or.inl g))))))
  · exact Or.inr (Or.inr (Or.inr (Or.inr (Or.inr (Or.inr (Or.inr (Or.inl g)))))))
  · exact Or.inr (Or.inr (Or.inr (Or.inr (Or.inr (Or.inr (Or.inr (Or.inr (Or.inl ⟨g1, g0, n1, N1, vV_NF nf g2, g3⟩))))))))
  · exact Or.inr (Or.inr (Or.inr (Or.inr (Or.inr (Or.inr (Or.inr (Or.inr (Or.inr (Or.inl ⟨g1, n1, N1, vV_NF nf g2, g3⟩)))))))))
  · exact Or.inr (Or.inr (Or.inr (Or.inr (Or.inr (Or.inr (Or.inr (Or.inr (Or.inr (Or.inr g)))))))))
theorem wS_at {x : gd} {m : Int} {k : Nat} {e : Int32} {M : gU} (q : wSt x m k e M) : 0 ≤ e.toInt ∧ e.toInt < (x.1 0 13).toInt := by
  cases k with
  | zero => exact q.elim
  | succ k => exact q.1
theorem wS_keep {m m' l : Int} (hm : m' ≤ m) {x x' : gd} (h : NX m l x x') : ∀ (k : Nat) (e : Int32) (M : gU), e.toInt ≤ l → wSt x m k e M → wSt x' m' k e M := by
  intro k
  induction k with
  | zero => intro e M _ q; exact q.elim
  | succ k ih =>
    intro e M he q
    obtain ⟨q1, q2, q4⟩ := q
    obtain ⟨a1, a2, a3, a4, a5, a6⟩ := NK_at h.1.1 q1
    refine ⟨a1, by rw [a2]; exact q2, ?_⟩
    rw [a2, a3, a4, a5, a6]
    exact wD_keep hm h ih (fun _ _ g => wS_at g) he q4
theorem wS_RP {x x' : gd} {m m' : Int} (hm : m' ≤ m) (h : RP x x') {k : Nat} {e : Int32} {M : gU} (q : wSt x m k e M) : wSt x' m' k e M := wS_keep hm (NX_RP m e.toInt h) k e M (Int.le_refl _) q
theorem wB_RP {x x' : gd} {m m' : Int} (hm : m' ≤ m) (h : RP x x') {k z : Nat} {e : Int32} {M : gU} (q : wB x m (wSt x m k) z e M) : wB x' m' (wSt x' m' k) z e M := wB_keep hm (NX_RP m e.toInt h) (fun _ _ _ g => wS_RP hm h g) (Int.le_refl _) q
theorem NX_rfl (m l : Int) (x : gd) : NX m l x x := ⟨⟨NK_rfl x, fun _ _ _ _ => rfl⟩, rfl, rfl⟩
theorem wS_low {x : gd} {m m' : Int} (hm : m' ≤ m) {k : Nat} {e : Int32} {M : gU} (q : wSt x m k e M) : wSt x m' k e M := wS_keep hm (NX_rfl m e.toInt x) k e M (Int.le_refl _) q
theorem wB_low {x : gd} {m m' : Int} (hm : m' ≤ m) {k z : Nat} {e : Int32} {M : gU} (q : wB x m (wSt x m k) z e M) : wB x m' (wSt x m' k) z e M := wB_keep hm (NX_rfl m e.toInt x) (fun _ _ _ g => wS_low hm g) (Int.le_refl _) q
/-! what reading a statement does: lets so far, where it stands then, what it told -/
def lts (x : gd) : Nat := (x.1 0 21).toNatClampNeg
def FXs (x x' : gd) (g : Nat → Nat → gU → gTs) (M : gU) : Prop := ∀ L, (nwo x).bind (fun i => g (lts x) i L) = (nwo x').map (fun j => (lts x', j, L ++ M))
theorem FXs_seq {x y z : gd} {g h : Nat → Nat → gU → gTs} {M1 M2 : gU} (a : FXs x y g M1) (b : FXs y z h M2) : FXs x z (fun c i L => (g c i L).bind (fun q => h q.1 q.2.1 q.2.2)) (M1 ++ M2) := by
  intro L
  show (nwo x).bind (fun i => (g (lts x) i L).bind (fun q => h q.1 q.2.1 q.2.2)) = _
  rw [← Option.bind_assoc, a L]
  have e := b (L ++ M1)
  rw [List.append_assoc] at e
  rw [← e]
  cases nwo y with
  | none => rfl
  | some j => rfl
theorem FXs_of {x y : gd} {g : Nat → gU → gOp} {M : gU} (a : FX x y g M) (h : lts y = lts x) : FXs x y (fun c i L => (g i L).bind (fun q => some (c, q.1, q.2))) M := by
  intro L
  show (nwo x).bind (fun i => (g i L).bind (fun q => some (lts x, q.1, q.2))) = _
  rw [← Option.bind_assoc, a L, h]
  cases nwo y with
  | none => rfl
  | some j => rfl
theorem FXs_eq {x y : gd} {g h : Nat → Nat → gU → gTs} {M : gU} (a : FXs x y g M) (e : ∀ i, nwo x = some i → ∀ L, h (lts x) i L = g (lts x) i L) : FXs x y h M := by
  intro L
  rw [← a L]
  cases hx : nwo x with
  | none => rfl
  | some i => exact e i hx L
theorem FXs_to {x y z : gd} {g : Nat → Nat → gU → gTs} {M : gU} (a : FXs x y g M) (h : nwo z = nwo y) (hl : lts z = lts y) : FXs x z g M := by
  intro L
  rw [h, hl]
  exact a L
theorem FXs_0 {x x' : gd} {g : Nat → Nat → gU → gTs} {M : gU} (h' : nwo x' = none) (h : ∀ i, nwo x = some i → ∀ L, g (lts x) i L = none) : FXs x x' g M := by
  intro L
  rw [h']
  cases e : nwo x with
  | none => rfl
  | some i => exact h i e L
theorem FXs_none {x x' : gd} {g : Nat → Nat → gU → gTs} {M : gU} (h : FXs x x' g M) (e : nwo x = none) : nwo x' = none := by
  have q := h []
  rw [e] at q
  cases z : nwo x' with
  | none => rfl
  | some j => rw [z] at q; exact absurd q (by simp)
/-- readS at nesting 16 - k, readBlock with its statements there -/
def FS (k : Nat) (x : gd) (r : Int32) (x' : gd) : Prop := ∃ M, FXs x x' (pS (x.1 5) k) M ∧ ((x'.1 0 9).toInt = 0 → wSt x' (x.1 0 13).toInt (k + 1) r M)
def FB (k : Nat) (x : gd) (r : Int32) (x' : gd) : Prop := ∀ z, ∃ M, FXs x x' (pBk (pS (x.1 5) k) (x.1 5) z) M ∧ ((x'.1 0 9).toInt = 0 → wB x' (x.1 0 13).toInt (wSt x' (x.1 0 13).toInt (k + 1)) z r M)
def pbs (k : Int32) : Prop := k = 26 ∨ k = 1 ∨ k = 24 ∨ k = 41 ∨ k = 27 ∨ k = 36 ∨ k = 22 ∨ k = 38 ∨ k = 39 ∨ k = 40 ∨ k = 33 ∨ k = 25 ∨ k = 20 ∨ k = 31 ∨ k = 13 ∨ k = 15 ∨ k = 14 ∨ k = 19
def SfS (k : Nat) : Prop := ∀ (G : mG) (D : Nat) (x : gd) (F : Int32 → gd → Prop), 4 * k + 20 ≤ D → PreK k 0 x → (x.1 0 9).toInt = 0 → LT x → pbs (x.1 5 (x.1 0 8).toNatClampNeg) → (∀ r x', QS k x r x' → FS k x r x' → F r x') → MT G D z_readS 0 [(0, vr 0)] [] x (ri F)
