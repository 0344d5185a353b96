/-! the grammar's statements as rows of small readings -/
def qS (g h : Nat → gU → gOp) : Nat → gU → gOp := fun i L => (g i L).bind (fun q => h q.1 q.2)
def qT : Nat → gU → gOp := fun i L => (ps1 i).map (fun j => (j, L))
def qP (K : Nat → Int32) (w : Int32) : Nat → gU → gOp := fun i L => pt K w (i, L)
def qV (v : Nat × Nat × Nat) : Nat → gU → gOp := fun i L => pan v (i, L)
def qN (N : gU) : Nat → gU → gOp := fun i L => some (i, L ++ N)
def qC (p : Prop) [Decidable p] : Nat → gU → gOp := fun i L => if p then some (i, L) else none
theorem FX_qS {x y z : gd} {g h : Nat → gU → gOp} {M1 M2 : gU} (a : FX x y g M1) (b : FX y z h M2) : FX x z (qS g h) (M1 ++ M2) := FX_seq a b
theorem FX_qT {x y : gd} (h : nwo y = (nwo x).bind ps1) : FX x y qT [] := FX_step h
theorem FX_qP {x y : gd} {K : Nat → Int32} {w : Int32} (h : nwo y = (nwo x).bind (psw K w)) : FX x y (qP K w) [] := FX_pass h
theorem FX_qV {x y : gd} (v : Nat × Nat × Nat) (h : nwo y = nwo x) : FX x y (qV v) [v] := FX_tell v h
theorem FX_qN {x y : gd} (N : gU) (h : nwo y = nwo x) : FX x y (qN N) N := FX_to (FX_pre N) h
theorem FX_qC {x y : gd} (p : Prop) [Decidable p] (h : nwo y = (nwo x).bind (fun i => if p then some i else none)) : FX x y (qC p) [] := by
  refine FX_nil (fun L => ?_)
  rw [h]
  cases nwo x with
  | none => rfl
  | some i =>
    show (if p then some (i, L) else none) = (if p then some i else none).map _
    by_cases c : p
    · rw [if_pos c, if_pos c]; rfl
    · rw [if_neg c, if_neg c]; rfl
def up3 (c : Nat) (r : gOp) : gTs := r.bind (fun q => some (c, q.1, q.2))
theorem FXs_c {x y : gd} {g : Nat → gU → gOp} {M : gU} (n : Nat) (a : FX x y g M) (h : ∀ j, nwo y = some j → lts y = lts x + n) : FXs x y (fun c i L => up3 (c + n) (g i L)) M := by
  intro L
  show (nwo x).bind (fun i => (g i L).bind (fun q => some (lts x + n, q.1, q.2))) = _
  rw [← Option.bind_assoc, a L]
  cases hy : nwo y with
  | none => rfl
  | some j =>
    show some (lts x + n, j, L ++ M) = some (lts y, j, L ++ M)
    rw [h j hy]
section QS
variable {K : Nat → Int32} {f c i : Nat} {L : gU}
theorem pS_1 (h1 : ¬ K i = 24) (h2 : ¬ K i = 41) (h3 : ¬ K i = 27) : pS K (f + 1) c i L = (ps1 i).bind (fun _ => pS1 K f c i L) := by
  rw [pS, ps1]
  by_cases q : i < 700
  · rw [if_neg (by omega), if_neg h1, if_neg h2, if_neg h3, if_pos q]; rfl
  · rw [if_pos (by omega), if_neg q]; rfl
theorem ps1_is {j : Nat} (h : ps1 i = some j) : j = i + 1 ∧ i < 700 := by
  unfold ps1 at h
  split at h
  · next c => exact ⟨(Option.some.inj h).symm, c⟩
  · exact absurd h (by simp)
theorem pup_up3 {v : Nat × Nat × Nat} {r : gOp} : pup c v r = up3 c (r.bind (fun q => qV v q.1 q.2)) := by
  cases r with
  | none => rfl
  | some q => rfl
theorem pS_one (h : K i = 20 ∨ K i = 31 ∨ K i = 19) : pS K (f + 1) c i L = up3 c (qS qT (qS (qP K 67) (qV (68, i, 0))) i L) := by
  rw [pS_1 (by rcases h with h | h | h <;> rw [h] <;> decide) (by rcases h with h | h | h <;> rw [h] <;> decide) (by rcases h with h | h | h <;> rw [h] <;> decide)]
  unfold qS qT
  cases hp : ps1 i with
  | none => rfl
  | some j =>
    obtain ⟨rfl, hi⟩ := ps1_is hp
    show pS1 K f c i L = up3 c ((pt K 67 (i + 1, L)).bind (fun q => qV (68, i, 0) q.1 q.2))
    rw [pS1, if_neg (by rcases h with h | h | h <;> rw [h] <;> decide), if_neg (by rcases h with h | h | h <;> rw [h] <;> decide), if_pos h, pup_up3]
theorem pS_sum (h : K i = 13 ∨ K i = 14) : pS K (f + 1) c i L = up3 c (qS qT (qS (pX K false f) (qS (qP K 67) (qV (69, i, 0)))) i L) := by
  rw [pS_1 (by rcases h with h | h <;> rw [h] <;> decide) (by rcases h with h | h <;> rw [h] <;> decide) (by rcases h with h | h <;> rw [h] <;> decide)]
  unfold qS qT
  cases hp : ps1 i with
  | none => rfl
  | some j =>
    obtain ⟨rfl, hi⟩ := ps1_is hp
    show pS1 K f c i L = up3 c ((pX K false f (i + 1) L).bind (fun q => (pt K 67 (q.1, q.2)).bind (fun q => qV (69, i, 0) q.1 q.2)))
    rw [pS1, if_neg (by rcases h with h | h <;> rw [h] <;> decide), if_neg (by rcases h with h | h <;> rw [h] <;> decide), if_neg (by rcases h with h | h <;> rw [h] <;> decide), if_pos h, pup_up3, Option.bind_assoc]
theorem pS_call (h : K i = 15) : pS K (f + 1) c i L = up3 c (qS qT (qS (qP K 2) (qS (qP K 68) (qS (pX K false f) (qS (qP K 67) (qV (70, i, i + 1)))))) i L) := by
  rw [pS_1 (by rw [h]; decide) (by rw [h]; decide) (by rw [h]; decide)]
  unfold qS qT qP
  cases hp : ps1 i with
  | none => rfl
  | some j =>
    obtain ⟨rfl, hi⟩ := ps1_is hp
    show pS1 K f c i L = up3 c ((pt K 2 (i + 1, L)).bind (fun q => (pt K 68 (q.1, q.2)).bind (fun q => (pX K false f q.1 q.2).bind (fun q => (pt K 67 (q.1, q.2)).bind (fun q => qV (70, i, i + 1) q.1 q.2)))))
    rw [pS1, if_neg (by rw [h]; decide), if_neg (by rw [h]; decide), if_neg (by rw [h]; decide), if_neg (by rw [h]; decide), if_pos h]
    by_cases c1 : K (i + 1) = 2 ∧ i + 1 < 700
    · have e1 : pt K 2 (i + 1, L) = some (i + 2, L) := if_pos c1
      rw [e1]
      by_cases c2 : K (i + 2) = 68 ∧ i + 2 < 700
      · have e2 : pt K 68 (i + 2, L) = some (i + 3, L) := if_pos c2
        rw [if_pos ⟨c1, c2⟩, pup_up3, Option.bind_assoc]
        show _ = up3 c ((pt K 68 (i + 2, L)).bind _)
        rw [e2]
        rfl
      · have e2 : pt K 68 (i + 2, L) = none := if_neg c2
        rw [if_neg (fun z => c2 z.2)]
        show _ = up3 c ((pt K 68 (i + 2, L)).bind _)
        rw [e2]
        rfl
    · have e1 : pt K 2 (i + 1, L) = none := if_neg c1
      rw [if_neg (fun z => c1 z.1), e1]
      rfl
theorem pS_word {v : Nat} (h : ((K i = 36 ∨ K i = 22 ∨ K i = 38 ∨ K i = 39 ∨ K i = 40) ∧ v = 66) ∨ ((K i = 33 ∨ K i = 25) ∧ v = 67)) : pS K (f + 1) c i L = up3 c (qS qT (qS (qP K 1) (qS (qP K 67) (qV (v, i, i + 1)))) i L) := by
  have hk : K i = 36 ∨ K i = 22 ∨ K i = 38 ∨ K i = 39 ∨ K i = 40 ∨ K i = 33 ∨ K i = 25 := by
    rcases h with ⟨h, -⟩ | ⟨h, -⟩
    · rcases h with h | h | h | h | h
      · exact Or.inl h
      · exact Or.inr (Or.inl h)
      · exact Or.inr (Or.inr (Or.inl h))
      · exact Or.inr (Or.inr (Or.inr (Or.inl h)))
      · exact Or.inr (Or.inr (Or.inr (Or.inr (Or.inl h))))
    · exact Or.inr (Or.inr (Or.inr (Or.inr (Or.inr h))))
  have ne : ∀ w : Int32, (w ≠ 36 ∧ w ≠ 22 ∧ w ≠ 38 ∧ w ≠ 39 ∧ w ≠ 40 ∧ w ≠ 33 ∧ w ≠ 25) → ¬ K i = w := fun w hw e => by
    rw [e] at hk
    obtain ⟨a1, a2, a3, a4, a5, a6, a7⟩ := hw
    rcases hk with h | h | h | h | h | h | h <;> contradiction
  rw [pS_1 (ne _ (by decide)) (ne _ (by decide)) (ne _ (by decide))]
  unfold qS qT qP
  cases hp : ps1 i with
  | none => rfl
  | some j =>
    obtain ⟨rfl, hi⟩ := ps1_is hp
    show pS1 K f c i L = up3 c ((pt K 1 (i + 1, L)).bind (fun q => (pt K 67 (q.1, q.2)).bind (fun q => qV (v, i, i + 1) q.1 q.2)))
    rw [pS1, if_neg (ne _ (by decide)), if_neg (ne _ (by decide)), if_neg (fun q => by rcases q with q | q | q <;> exact ne _ (by decide) q), if_neg (fun q => by rcases q with q | q <;> exact ne _ (by decide) q), if_neg (ne _ (by decide))]
    have body : (if K (i + 1) = 1 ∧ i + 1 < 700 then pup c (v, i, i + 1) (pt K 67 (i + 2, L)) else none) = up3 c ((pt K 1 (i + 1, L)).bind (fun q => (pt K 67 (q.1, q.2)).bind (fun q => qV (v, i, i + 1) q.1 q.2))) := by
      by_cases c1 : K (i + 1) = 1 ∧ i + 1 < 700
      · have e1 : pt K 1 (i + 1, L) = some (i + 2, L) := if_pos c1
        rw [e1, if_pos c1, pup_up3]
        rfl
      · have e1 : pt K 1 (i + 1, L) = none := if_neg c1
        rw [e1, if_neg c1]
        rfl
    rcases h with ⟨h, rfl⟩ | ⟨h, rfl⟩
    · rw [if_pos h]; exact body
    · rw [if_neg (fun q => by rcases h with h | h <;> rw [h] at q <;> revert q <;> decide), if_pos h]; exact body
theorem pS_put (h : K i = 1) (h2 : K (i + 1) = 65) : pS K (f + 1) c i L = up3 c (qS (qN [(7, i, 0)]) (qS qT (qS qT (qS (pX K false f) (qS (qP K 66) (qS (qP K 50) (qS (pX K false f) (qS (qP K 67) (qV (78, i, 0))))))))) i L) := by
  rw [pS_1 (by rw [h]; decide) (by rw [h]; decide) (by rw [h]; decide)]
  show _ = up3 c (((ps1 i).map (fun j => (j, L ++ [(7, i, 0)]))).bind (fun q => qS qT _ q.1 q.2))
  cases hp : ps1 i with
  | none => rfl
  | some j =>
    obtain ⟨rfl, hi⟩ := ps1_is hp
    show pS1 K f c i L = up3 c (((ps1 (i + 1)).map (fun j => (j, L ++ [(7, i, 0)]))).bind (fun q => qS (pX K false f) _ q.1 q.2))
    rw [pS1, if_neg (by rw [h]; decide), if_pos h, if_pos h2, ps1]
    by_cases c1 : i + 1 < 700
    · rw [if_pos c1, if_pos c1, pup_up3, Option.bind_assoc, Option.bind_assoc, Option.bind_assoc, Option.bind_assoc]
      rfl
    · rw [if_neg c1, if_neg c1]; rfl
theorem pS_set (h : K i = 1) (h2 : ¬ K (i + 1) = 65) : pS K (f + 1) c i L = up3 c (qS qT (qS (qP K 50) (qS (pR K f (some i)) (qS (qP K 67) (qV (77, i, 0))))) i L) := by
  rw [pS_1 (by rw [h]; decide) (by rw [h]; decide) (by rw [h]; decide)]
  unfold qS qT qP
  cases hp : ps1 i with
  | none => rfl
  | some j =>
    obtain ⟨rfl, hi⟩ := ps1_is hp
    show pS1 K f c i L = up3 c ((pt K 50 (i + 1, L)).bind (fun q => (pR K f (some i) q.1 q.2).bind (fun q => (pt K 67 (q.1, q.2)).bind (fun q => qV (77, i, 0) q.1 q.2))))
    rw [pS1, if_neg (by rw [h]; decide), if_pos h, if_neg h2]
    by_cases c1 : K (i + 1) = 50 ∧ i + 1 < 700
    · have e1 : pt K 50 (i + 1, L) = some (i + 2, L) := if_pos c1
      rw [e1, if_pos c1, pup_up3, Option.bind_assoc]
      rfl
    · have e1 : pt K 50 (i + 1, L) = none := if_neg c1
      rw [e1, if_neg c1]
      rfl
theorem pS_let (h : K i = 26) : pS K (f + 1) c i L = up3 (c + 1) (qS qT (qS (qP K 1) (qS (qC (c < 8)) (qS (qP K 50) (qS (qN [(23, i + 1, 0)]) (qS (pR K f none) (qS (qP K 67) (qV (22, i + 1, i)))))))) i L) := by
  rw [pS_1 (by rw [h]; decide) (by rw [h]; decide) (by rw [h]; decide)]
  unfold qS qT qP qC qN
  cases hp : ps1 i with
  | none => rfl
  | some j =>
    obtain ⟨rfl, hi⟩ := ps1_is hp
    show pS1 K f c i L = up3 (c + 1) ((pt K 1 (i + 1, L)).bind (fun q => (if c < 8 then some (q.1, q.2) else none).bind (fun q => (pt K 50 (q.1, q.2)).bind (fun q => (pR K f none q.1 (q.2 ++ [(23, i + 1, 0)])).bind (fun q => (pt K 67 (q.1, q.2)).bind (fun q => qV (22, i + 1, i) q.1 q.2))))))
    rw [pS1, if_pos h]
    by_cases c1 : K (i + 1) = 1 ∧ i + 1 < 700
    · have e1 : pt K 1 (i + 1, L) = some (i + 2, L) := if_pos c1
      rw [e1, Option.bind_some]
      by_cases c2 : c < 8
      · rw [if_pos c2, Option.bind_some]
        by_cases c3 : K (i + 2) = 50 ∧ i + 2 < 700
        · have e3 : pt K 50 (i + 2, L) = some (i + 3, L) := if_pos c3
          rw [if_pos ⟨c1, c2, c3⟩, pup_up3, Option.bind_assoc]
          show _ = up3 (c + 1) ((pt K 50 (i + 2, L)).bind _)
          rw [e3]
          rfl
        · have e3 : pt K 50 (i + 2, L) = none := if_neg c3
          rw [if_neg (fun z => c3 z.2.2)]
          show _ = up3 (c + 1) ((pt K 50 (i + 2, L)).bind _)
          rw [e3]
          rfl
      · rw [if_neg c2, if_neg (fun z => c2 z.2.1)]
        rfl
    · have e1 : pt K 1 (i + 1, L) = none := if_neg c1
      rw [if_neg (fun z => c1 z.1), e1]
      rfl
end QS
