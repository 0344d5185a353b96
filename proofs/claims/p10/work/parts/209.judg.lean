/-! what is told, and when there is a fault, by the row of uses alone -/
abbrev E0v : gV := ([], [], 0)
def tw (sN : Nat → Nat → Bool) (V : Nat → Int32) (T : gTd) (j : Nat) (q : Nat × Nat × Nat × Nat) : Prop := (∃ j' q', j' < j ∧ T[j']? = some q' ∧ sN q'.1 q.1 = true) ∨ (0 < q.2.2.1 ∧ ¬ (1 ≤ V q.2.2.2 ∧ V q.2.2.2 ≤ 8))
def jT (sN : Nat → Nat → Bool) (V : Nat → Int32) (T : gTd) : Prop := ∃ j q, T[j]? = some q ∧ tw sN V T j q
def te1 (K V : Nat → Int32) (v : Nat × Nat × Nat) : Option (Nat × Nat × Nat × Nat) := if v.1 = 31 then some (v.2.1, 0, 0, 0) else if v.1 = 32 then some (v.2.1, 0, prz K V v.2.2, v.2.2) else if v.1 = 33 then some (v.2.1, 1, 0, 0) else if v.1 = 34 then some (v.2.1, 2, 0, 0) else none
def jFl (sN : Nat → Nat → Bool) (K V : Nat → Int32) (L : gU) : Prop := jT sN V (L.filterMap (te1 K V)) ∨ flt sN (L.filterMap (te1 K V)) V L E0v
theorem te1_no {K V : Nat → Int32} {v : Nat × Nat × Nat} (h : ¬ (31 ≤ v.1 ∧ v.1 ≤ 36)) : te1 K V v = none := by
  unfold te1
  rw [if_neg (by omega), if_neg (by omega), if_neg (by omega), if_neg (by omega)]
/-- what is read tells nothing -/
def nT (L L' : gU) : Prop := ∃ N, L' = L ++ N ∧ ∀ v ∈ N, ¬ (31 ≤ v.1 ∧ v.1 ≤ 36)
section NTL
variable {K : Nat → Int32} {L L' L2 : gU} {o : Bool}
theorem nT_rf : nT L L := ⟨[], by rw [List.append_nil], fun _ h => by cases h⟩
theorem nT_tr (h : nT L L') (g : nT L' L2) : nT L L2 := by
  obtain ⟨N, e, h⟩ := h
  obtain ⟨N2, e2, g⟩ := g
  exact ⟨N ++ N2, by rw [e2, e, List.append_assoc], fun v hv => (List.mem_append.mp hv).elim (h v) (g v)⟩
theorem nT_k {k a b : Nat} (h : ¬ (31 ≤ k ∧ k ≤ 36)) : nT L (L ++ [(k, a, b)]) := ⟨_, rfl, fun v hv => by rw [List.mem_singleton.mp hv]; exact h⟩
theorem nT_k2 {k a b k' a' b' : Nat} (h : ¬ (31 ≤ k ∧ k ≤ 36)) (h' : ¬ (31 ≤ k' ∧ k' ≤ 36)) : nT L (L ++ [(k, a, b), (k', a', b')]) := ⟨_, rfl, fun v hv => by
  rcases List.mem_cons.mp hv with e | e
  · rw [e]; exact h
  · rw [List.mem_singleton.mp e]; exact h'⟩
theorem nT_te {V : Nat → Int32} (h : nT L L') : L'.filterMap (te1 K V) = L.filterMap (te1 K V) := by
  obtain ⟨N, e, h⟩ := h
  rw [e, List.filterMap_append]
  have : N.filterMap (te1 K V) = [] := List.filterMap_eq_nil_iff.mpr (fun v hv => te1_no (h v hv))
  rw [this, List.append_nil]
theorem pt_nT {w : Int32} {q r : Nat × gU} (h : pt K w q = some r) : nT q.2 r.2 := by
  obtain ⟨-, -, e⟩ := pt_is h
  rw [e]; exact nT_rf
theorem pan_nT {v : Nat × Nat × Nat} {q r : Nat × gU} (hv : ¬ (31 ≤ v.1 ∧ v.1 ≤ 36)) (h : pan v q = some r) : nT q.2 r.2 := by
  unfold pan at h
  cases Option.some.inj h
  exact nT_k hv
abbrev ngo (rE : Nat → Nat → gU → gOp) : Prop := ∀ s i L q, rE s i L = some q → nT L q.2
theorem pW_nT {rE : Nat → Nat → gU → gOp} {th : Nat} (hr : ngo rE) : ∀ (f j : Nat) (L : gU) (q : Nat × gU), pW rE K th f j L = some q → nT L q.2 := by
  intro f
  induction f with
  | zero => intro j L q h; exact absurd h (by simp [pW])
  | succ f ih =>
    intro j L q h
    rw [pW] at h
    split at h
    · split at h
      · obtain ⟨z, hz, h2⟩ := Option.bind_eq_some_iff.mp h
        exact nT_tr (hr _ _ _ _ hz) (nT_tr (nT_k (by decide)) (ih _ _ _ h2))
      · exact absurd h (by simp)
    · cases Option.some.inj h; exact nT_rf
theorem pO_nT {rE : Nat → Nat → gU → gOp} (hr : ngo rE) {i : Nat} {q : Nat × gU} (h : pO rE K o i L = some q) : nT L q.2 := by
  unfold pO at h
  split at h
  · exact absurd h (by simp)
  · split at h
    · cases Option.some.inj h; exact nT_k (by decide)
    · split at h
      · cases Option.some.inj h; exact nT_k (by decide)
      · split at h
        · obtain ⟨z, hz, h2⟩ := Option.bind_eq_some_iff.mp h
          exact nT_tr (hr _ _ _ _ hz) (pt_nT h2)
        · split at h
          · split at h
            · split at h
              · split at h
                · cases Option.some.inj h; exact nT_k2 (by decide) (by decide)
                · exact absurd h (by simp)
              · cases Option.some.inj h; exact nT_k (by decide)
            · cases Option.some.inj h; exact nT_k (by decide)
          · exact absurd h (by simp)
theorem pE_nT : ∀ f : Nat, ngo (pE K o f) := by
  intro f
  induction f with
  | zero => intro s i L q h; exact absurd h (by simp [pE])
  | succ f ih =>
    intro s i L q h
    rw [pE] at h
    split at h
    · obtain ⟨z, hz, h2⟩ := Option.bind_eq_some_iff.mp h
      refine nT_tr ?_ (pW_nT ih _ _ _ _ h2)
      split at hz
      · split at hz
        · obtain ⟨y, hy, h3⟩ := Option.bind_eq_some_iff.mp hz
          cases Option.some.inj h3
          exact nT_tr (ih _ _ _ _ hy) (nT_k (by decide))
        · exact absurd hz (by simp)
      · exact pO_nT ih hz
    · exact absurd h (by simp)
theorem pX_nT {f i : Nat} {q : Nat × gU} (h : pX K o f i L = some q) : nT L q.2 := by
  obtain ⟨z, hz, h2⟩ := Option.bind_eq_some_iff.mp h
  exact nT_tr (pE_nT f _ _ _ _ hz) (pan_nT (show ¬ (31 ≤ 54 ∧ 54 ≤ 36) by decide) h2)
theorem pXq_nT {f : Nat} {r q : Nat × gU} (h : pXq K f r = some q) : nT r.2 q.2 := pX_nT h
theorem pP_nT {f i : Nat} {q : Nat × gU} (h : pP K f i L = some q) : nT L q.2 := by
  unfold pP at h
  split at h
  · split at h
    · split at h
      · obtain ⟨z, hz, h2⟩ := Option.bind_eq_some_iff.mp h
        exact nT_tr (nT_tr (nT_k (by decide)) (pX_nT hz)) (pt_nT h2)
      · exact absurd h (by simp)
    · cases Option.some.inj h; exact nT_k (by decide)
  · exact absurd h (by simp)
theorem pme_nT {t : Option Nat} : nT L (L ++ pme t) := by
  cases t with
  | none => rw [pme, List.append_nil]; exact nT_rf
  | some t => exact nT_k (by decide)
theorem pma_nT {t : Option Nat} : nT L (L ++ pma t) := by
  cases t with
  | none => rw [pma, List.append_nil]; exact nT_rf
  | some t => exact nT_k (by decide)
theorem pal_nT {t : Option Nat} {i : Nat} : nT L (L ++ [pal t i]) := by
  cases t with
  | none => exact nT_k (by decide)
  | some t => exact nT_k (by decide)
theorem pR_nT {f i : Nat} {t : Option Nat} {q : Nat × gU} (h : pR K f t i L = some q) : nT L q.2 := by
  unfold pR at h
  split at h
  · split at h
    · obtain ⟨z4, hz4, h4⟩ := Option.bind_eq_some_iff.mp h
      obtain ⟨z3, hz3, h3⟩ := Option.bind_eq_some_iff.mp hz4
      obtain ⟨z2, hz2, h2⟩ := Option.bind_eq_some_iff.mp hz3
      obtain ⟨z5, hz5, h5⟩ := Option.bind_eq_some_iff.mp h4
      have d : nT z5.2 q.2 := pan_nT (show ¬ (31 ≤ 74 ∧ 74 ≤ 36) by decide) h5
      have a : nT L z4.2 := nT_tr (nT_tr (nT_tr pme_nT (pP_nT hz2)) (pt_nT h2)) (pXq_nT h3)
      split at hz5
      · obtain ⟨z6, hz6, h6⟩ := Option.bind_eq_some_iff.mp hz5
        exact nT_tr (nT_tr (nT_tr a (pt_nT hz6)) (pXq_nT h6)) d
      · cases Option.some.inj hz5; exact nT_tr a d
    · exact absurd h (by simp)
  · split at h
    · obtain ⟨z, hz, h2⟩ := Option.bind_eq_some_iff.mp h
      exact nT_tr (nT_tr pme_nT (pP_nT hz)) (pan_nT (show ¬ (31 ≤ 75 ∧ 75 ≤ 36) by decide) h2)
    · split at h
      · split at h
        · cases Option.some.inj h; exact pal_nT
        · exact absurd h (by simp)
      · obtain ⟨z, hz, h2⟩ := Option.bind_eq_some_iff.mp h
        exact nT_tr (nT_tr pma_nT (pX_nT hz)) (pan_nT (show ¬ (31 ≤ 76 ∧ 76 ≤ 36) by decide) h2)
abbrev ngs (rS : Nat → Nat → gU → gTs) : Prop := ∀ c i L q, rS c i L = some q → nT L q.2.2
theorem pBl_nT {rS : Nat → Nat → gU → gTs} {z : Nat} (hr : ngs rS) : ∀ (n c i : Nat) (L : gU) (q : Nat × Nat × gU), pBl rS K z n c i L = some q → nT L q.2.2 := by
  intro n
  induction n with
  | zero => intro c i L q h; exact absurd h (by simp [pBl])
  | succ n ih =>
    intro c i L q h
    rw [pBl] at h
    split at h
    · split at h
      · cases Option.some.inj h; exact nT_k (by decide)
      · exact absurd h (by simp)
    · obtain ⟨y, hy, h2⟩ := Option.bind_eq_some_iff.mp h
      exact nT_tr (hr _ _ _ _ hy) (ih _ _ _ _ h2)
theorem pBk_nT {rS : Nat → Nat → gU → gTs} {z : Nat} (hr : ngs rS) {c i : Nat} {q : Nat × Nat × gU} (h : pBk rS K z c i L = some q) : nT L q.2.2 := by
  unfold pBk at h
  split at h
  · exact nT_tr (nT_k (by decide)) (pBl_nT hr _ _ _ _ _ h)
  · exact absurd h (by simp)
theorem pEl_nT {rS : Nat → Nat → gU → gTs} (hr : ngs rS) {q r : Nat × Nat × gU} (h : pEl rS K q = some r) : nT q.2.2 r.2.2 := by
  unfold pEl at h
  split at h
  · split at h
    · split at h
      · exact nT_tr (nT_k (by decide)) (hr _ _ _ _ h)
      · exact nT_tr (nT_k (by decide)) (pBk_nT hr h)
    · exact absurd h (by simp)
  · cases Option.some.inj h; exact nT_rf
theorem pup_nT {c : Nat} {v : Nat × Nat × Nat} {r : gOp} {q : Nat × Nat × gU} (hv : ¬ (31 ≤ v.1 ∧ v.1 ≤ 36)) (h : pup c v r = some q) : ∃ z, r = some z ∧ nT z.2 q.2.2 := by
  unfold pup at h
  obtain ⟨z, hz, e⟩ := Option.bind_eq_some_iff.mp h
  cases Option.some.inj e
  exact ⟨z, hz, nT_k hv⟩
theorem pS1_nT {f c i : Nat} {q : Nat × Nat × gU} (h : pS1 K f c i L = some q) : nT L q.2.2 := by
  unfold pS1 at h
  split at h
  · split at h
    · obtain ⟨z, h, g⟩ := pup_nT (show ¬ (31 ≤ 22 ∧ 22 ≤ 36) by decide) h
      obtain ⟨y, hy, h2⟩ := Option.bind_eq_some_iff.mp h
      exact nT_tr (nT_tr (nT_tr (nT_k (by decide)) (pR_nT hy)) (pt_nT h2)) g
    · exact absurd h (by simp)
  · split at h
    · split at h
      · split at h
        · obtain ⟨z, h, g⟩ := pup_nT (show ¬ (31 ≤ 78 ∧ 78 ≤ 36) by decide) h
          obtain ⟨y5, hy5, h5⟩ := Option.bind_eq_some_iff.mp h
          obtain ⟨y4, hy4, h4⟩ := Option.bind_eq_some_iff.mp hy5
          obtain ⟨y3, hy3, h3⟩ := Option.bind_eq_some_iff.mp hy4
          obtain ⟨y2, hy2, h2⟩ := Option.bind_eq_some_iff.mp hy3
          exact nT_tr (nT_tr (nT_tr (nT_tr (nT_tr (nT_tr (nT_k (by decide)) (pX_nT hy2)) (pt_nT h2)) (pt_nT h3)) (pXq_nT h4)) (pt_nT h5)) g
        · exact absurd h (by simp)
      · split at h
        · obtain ⟨z, h, g⟩ := pup_nT (show ¬ (31 ≤ 77 ∧ 77 ≤ 36) by decide) h
          obtain ⟨y2, hy2, h2⟩ := Option.bind_eq_some_iff.mp h
          exact nT_tr (nT_tr (pR_nT hy2) (pt_nT h2)) g
        · exact absurd h (by simp)
    · split at h
      · obtain ⟨z, h, g⟩ := pup_nT (show ¬ (31 ≤ 68 ∧ 68 ≤ 36) by decide) h
        have := pt_nT h
        exact nT_tr this g
      · split at h
        · obtain ⟨z, h, g⟩ := pup_nT (show ¬ (31 ≤ 69 ∧ 69 ≤ 36) by decide) h
          obtain ⟨y2, hy2, h2⟩ := Option.bind_eq_some_iff.mp h
          exact nT_tr (nT_tr (pX_nT hy2) (pt_nT h2)) g
        · split at h
          · split at h
            · obtain ⟨z, h, g⟩ := pup_nT (show ¬ (31 ≤ 70 ∧ 70 ≤ 36) by decide) h
              obtain ⟨y2, hy2, h2⟩ := Option.bind_eq_some_iff.mp h
              exact nT_tr (nT_tr (pX_nT hy2) (pt_nT h2)) g
            · exact absurd h (by simp)
          · split at h
            · split at h
              · obtain ⟨z, h, g⟩ := pup_nT (show ¬ (31 ≤ 66 ∧ 66 ≤ 36) by decide) h
                have := pt_nT h
                exact nT_tr this g
              · exact absurd h (by simp)
            · split at h
              · split at h
                · obtain ⟨z, h, g⟩ := pup_nT (show ¬ (31 ≤ 67 ∧ 67 ≤ 36) by decide) h
                  have := pt_nT h
                  exact nT_tr this g
                · exact absurd h (by simp)
              · exact absurd h (by simp)
theorem pfi_nT {q r : Nat × Nat × gU} (h : pfi q = some r) : nT q.2.2 r.2.2 := by
  unfold pfi at h
  cases Option.some.inj h
  exact nT_k (by decide)
theorem pS_nT : ∀ f : Nat, ngs (pS K f) := by
  intro f
  induction f with
  | zero => intro c i L q h; exact absurd h (by simp [pS])
  | succ f ih =>
    intro c i L q h
    rw [pS] at h
    split at h
    · exact absurd h (by simp)
    · split at h
      · obtain ⟨z, hz, h2⟩ := Option.bind_eq_some_iff.mp h
        obtain ⟨x, hx, h4⟩ := Option.bind_eq_some_iff.mp h2
        obtain ⟨y, hy, h3⟩ := Option.bind_eq_some_iff.mp hx
        exact nT_tr (nT_tr (nT_tr (nT_tr (pX_nT hz) (nT_k (by decide))) (pBk_nT ih hy)) (pEl_nT ih h3)) (pfi_nT h4)
      · split at h
        · obtain ⟨z, hz, h2⟩ := Option.bind_eq_some_iff.mp h
          exact nT_tr (nT_tr (pX_nT hz) (nT_k (by decide))) (pBk_nT ih h2)
        · split at h
          · split at h
            · exact nT_tr (nT_k (by decide)) (pBk_nT ih h)
            · exact absurd h (by simp)
          · exact pS1_nT h
end NTL
