section
/-! the cells of a row are sure all, or none -/
def n8T (L L' : gU) : Prop := ∃ N, L' = L ++ N ∧ ∀ v ∈ N, ¬ (v.1 = 31 ∨ v.1 = 32 ∨ 80 ≤ v.1)
section NT8
variable {K : Nat → Int32} {L L' L2 : gU} {o : Bool}
theorem n8T_rf : n8T L L := ⟨[], by rw [List.append_nil], fun _ h => by cases h⟩
theorem n8T_tr (h : n8T L L') (g : n8T L' L2) : n8T L L2 := by
  obtain ⟨N, e, h⟩ := h
  obtain ⟨N2, e2, g⟩ := g
  exact ⟨N ++ N2, by rw [e2, e, List.append_assoc], fun v hv => (List.mem_append.mp hv).elim (h v) (g v)⟩
theorem n8T_k {k a b : Nat} (h : ¬ (k = 31 ∨ k = 32 ∨ 80 ≤ k)) : n8T L (L ++ [(k, a, b)]) := ⟨_, rfl, fun v hv => by rw [List.mem_singleton.mp hv]; exact h⟩
theorem n8T_k2 {k a b k' a' b' : Nat} (h : ¬ (k = 31 ∨ k = 32 ∨ 80 ≤ k)) (h' : ¬ (k' = 31 ∨ k' = 32 ∨ 80 ≤ k')) : n8T L (L ++ [(k, a, b), (k', a', b')]) := ⟨_, rfl, fun v hv => by
  rcases List.mem_cons.mp hv with e | e
  · rw [e]; exact h
  · rw [List.mem_singleton.mp e]; exact h'⟩
theorem pt_n8T {w : Int32} {q r : Nat × gU} (h : pt K w q = some r) : n8T q.2 r.2 := by
  obtain ⟨-, -, e⟩ := pt_is h
  rw [e]; exact n8T_rf
theorem pan_n8T {v : Nat × Nat × Nat} {q r : Nat × gU} (hv : ¬ (v.1 = 31 ∨ v.1 = 32 ∨ 80 ≤ v.1)) (h : pan v q = some r) : n8T q.2 r.2 := by
  unfold pan at h
  cases Option.some.inj h
  exact n8T_k hv
abbrev ng8 (rE : Nat → Nat → gU → gOp) : Prop := ∀ s i L q, rE s i L = some q → n8T L q.2
theorem pW_n8T {rE : Nat → Nat → gU → gOp} {th : Nat} (hr : ng8 rE) : ∀ (f j : Nat) (L : gU) (q : Nat × gU), pW rE K th f j L = some q → n8T L q.2 := by
  intro f
  induction f with
  | zero => intro j L q h; exact absurd h (by simp [pW])
  | succ f ih =>
    intro j L q h
    rw [pW] at h
    split at h
    · split at h
      · obtain ⟨z, hz, h2⟩ := Option.bind_eq_some_iff.mp h
        exact n8T_tr (hr _ _ _ _ hz) (n8T_tr (n8T_k (by decide)) (ih _ _ _ h2))
      · exact absurd h (by simp)
    · cases Option.some.inj h; exact n8T_rf
theorem pO_n8T {rE : Nat → Nat → gU → gOp} (hr : ng8 rE) {i : Nat} {q : Nat × gU} (h : pO rE K o i L = some q) : n8T L q.2 := by
  unfold pO at h
  split at h
  · exact absurd h (by simp)
  · split at h
    · cases Option.some.inj h; exact n8T_k (by decide)
    · split at h
      · cases Option.some.inj h; exact n8T_k (by decide)
      · split at h
        · obtain ⟨z, hz, h2⟩ := Option.bind_eq_some_iff.mp h
          exact n8T_tr (hr _ _ _ _ hz) (pt_n8T h2)
        · split at h
          · split at h
            · split at h
              · split at h
                · cases Option.some.inj h; exact n8T_k2 (by decide) (by decide)
                · exact absurd h (by simp)
              · cases Option.some.inj h; exact n8T_k (by decide)
            · cases Option.some.inj h; exact n8T_k (by decide)
          · exact absurd h (by simp)
theorem pE_n8T : ∀ f : Nat, ng8 (pE K o f) := by
  intro f
  induction f with
  | zero => intro s i L q h; exact absurd h (by simp [pE])
  | succ f ih =>
    intro s i L q h
    rw [pE] at h
    split at h
    · obtain ⟨z, hz, h2⟩ := Option.bind_eq_some_iff.mp h
      refine n8T_tr ?_ (pW_n8T ih _ _ _ _ h2)
      split at hz
      · split at hz
        · obtain ⟨y, hy, h3⟩ := Option.bind_eq_some_iff.mp hz
          cases Option.some.inj h3
          exact n8T_tr (ih _ _ _ _ hy) (n8T_k (by decide))
        · exact absurd hz (by simp)
      · exact pO_n8T ih hz
    · exact absurd h (by simp)
theorem pX_n8T {f i : Nat} {q : Nat × gU} (h : pX K o f i L = some q) : n8T L q.2 := by
  obtain ⟨z, hz, h2⟩ := Option.bind_eq_some_iff.mp h
  exact n8T_tr (pE_n8T f _ _ _ _ hz) (pan_n8T (show ¬ (54 = 31 ∨ 54 = 32 ∨ 80 ≤ 54) by decide) h2)
theorem pXq_n8T {f : Nat} {r q : Nat × gU} (h : pXq K f r = some q) : n8T r.2 q.2 := pX_n8T h
theorem pP_n8T {f i : Nat} {q : Nat × gU} (h : pP K f i L = some q) : n8T L q.2 := by
  unfold pP at h
  split at h
  · split at h
    · split at h
      · obtain ⟨z, hz, h2⟩ := Option.bind_eq_some_iff.mp h
        exact n8T_tr (n8T_tr (n8T_k (by decide)) (pX_n8T hz)) (pt_n8T h2)
      · exact absurd h (by simp)
    · cases Option.some.inj h; exact n8T_k (by decide)
  · exact absurd h (by simp)
theorem pme_n8T {t : Option Nat} : n8T L (L ++ pme t) := by
  cases t with
  | none => rw [pme, List.append_nil]; exact n8T_rf
  | some t => exact n8T_k (by decide)
theorem pma_n8T {t : Option Nat} : n8T L (L ++ pma t) := by
  cases t with
  | none => rw [pma, List.append_nil]; exact n8T_rf
  | some t => exact n8T_k (by decide)
theorem pal_n8T {t : Option Nat} {i : Nat} : n8T L (L ++ [pal t i]) := by
  cases t with
  | none => exact n8T_k (by decide)
  | some t => exact n8T_k (by decide)
theorem pR_n8T {f i : Nat} {t : Option Nat} {q : Nat × gU} (h : pR K f t i L = some q) : n8T L q.2 := by
  unfold pR at h
  split at h
  · split at h
    · obtain ⟨z4, hz4, h4⟩ := Option.bind_eq_some_iff.mp h
      obtain ⟨z3, hz3, h3⟩ := Option.bind_eq_some_iff.mp hz4
      obtain ⟨z2, hz2, h2⟩ := Option.bind_eq_some_iff.mp hz3
      obtain ⟨z5, hz5, h5⟩ := Option.bind_eq_some_iff.mp h4
      have d : n8T z5.2 q.2 := pan_n8T (show ¬ (74 = 31 ∨ 74 = 32 ∨ 80 ≤ 74) by decide) h5
      have a : n8T L z4.2 := n8T_tr (n8T_tr (n8T_tr pme_n8T (pP_n8T hz2)) (pt_n8T h2)) (pXq_n8T h3)
      split at hz5
      · obtain ⟨z6, hz6, h6⟩ := Option.bind_eq_some_iff.mp hz5
        exact n8T_tr (n8T_tr (n8T_tr a (pt_n8T hz6)) (pXq_n8T h6)) d
      · cases Option.some.inj hz5; exact n8T_tr a d
    · exact absurd h (by simp)
  · split at h
    · obtain ⟨z, hz, h2⟩ := Option.bind_eq_some_iff.mp h
      exact n8T_tr (n8T_tr pme_n8T (pP_n8T hz)) (pan_n8T (show ¬ (75 = 31 ∨ 75 = 32 ∨ 80 ≤ 75) by decide) h2)
    · split at h
      · split at h
        · cases Option.some.inj h; exact pal_n8T
        · exact absurd h (by simp)
      · obtain ⟨z, hz, h2⟩ := Option.bind_eq_some_iff.mp h
        exact n8T_tr (n8T_tr pma_n8T (pX_n8T hz)) (pan_n8T (show ¬ (76 = 31 ∨ 76 = 32 ∨ 80 ≤ 76) by decide) h2)
abbrev nh8 (rS : Nat → Nat → gU → gTs) : Prop := ∀ c i L q, rS c i L = some q → n8T L q.2.2
theorem pBl_n8T {rS : Nat → Nat → gU → gTs} {z : Nat} (hr : nh8 rS) : ∀ (n c i : Nat) (L : gU) (q : Nat × Nat × gU), pBl rS K z n c i L = some q → n8T L q.2.2 := by
  intro n
  induction n with
  | zero => intro c i L q h; exact absurd h (by simp [pBl])
  | succ n ih =>
    intro c i L q h
    rw [pBl] at h
    split at h
    · split at h
      · cases Option.some.inj h; exact n8T_k (by decide)
      · exact absurd h (by simp)
    · obtain ⟨y, hy, h2⟩ := Option.bind_eq_some_iff.mp h
      exact n8T_tr (hr _ _ _ _ hy) (ih _ _ _ _ h2)
theorem pBk_n8T {rS : Nat → Nat → gU → gTs} {z : Nat} (hr : nh8 rS) {c i : Nat} {q : Nat × Nat × gU} (h : pBk rS K z c i L = some q) : n8T L q.2.2 := by
  unfold pBk at h
  split at h
  · exact n8T_tr (n8T_k (by decide)) (pBl_n8T hr _ _ _ _ _ h)
  · exact absurd h (by simp)
theorem pEl_n8T {rS : Nat → Nat → gU → gTs} (hr : nh8 rS) {q r : Nat × Nat × gU} (h : pEl rS K q = some r) : n8T q.2.2 r.2.2 := by
  unfold pEl at h
  split at h
  · split at h
    · split at h
      · exact n8T_tr (n8T_k (by decide)) (hr _ _ _ _ h)
      · exact n8T_tr (n8T_k (by decide)) (pBk_n8T hr h)
    · exact absurd h (by simp)
  · cases Option.some.inj h; exact n8T_rf
theorem pup_n8T {c : Nat} {v : Nat × Nat × Nat} {r : gOp} {q : Nat × Nat × gU} (hv : ¬ (v.1 = 31 ∨ v.1 = 32 ∨ 80 ≤ v.1)) (h : pup c v r = some q) : ∃ z, r = some z ∧ n8T z.2 q.2.2 := by
  unfold pup at h
  obtain ⟨z, hz, e⟩ := Option.bind_eq_some_iff.mp h
  cases Option.some.inj e
  exact ⟨z, hz, n8T_k hv⟩
theorem pS1_n8T {f c i : Nat} {q : Nat × Nat × gU} (h : pS1 K f c i L = some q) : n8T L q.2.2 := by
  unfold pS1 at h
  split at h
  · split at h
    · obtain ⟨z, h, g⟩ := pup_n8T (show ¬ (22 = 31 ∨ 22 = 32 ∨ 80 ≤ 22) by decide) h
      obtain ⟨y, hy, h2⟩ := Option.bind_eq_some_iff.mp h
      exact n8T_tr (n8T_tr (n8T_tr (n8T_k (by decide)) (pR_n8T hy)) (pt_n8T h2)) g
    · exact absurd h (by simp)
  · split at h
    · split at h
      · split at h
        · obtain ⟨z, h, g⟩ := pup_n8T (show ¬ (78 = 31 ∨ 78 = 32 ∨ 80 ≤ 78) by decide) h
          obtain ⟨y5, hy5, h5⟩ := Option.bind_eq_some_iff.mp h
          obtain ⟨y4, hy4, h4⟩ := Option.bind_eq_some_iff.mp hy5
          obtain ⟨y3, hy3, h3⟩ := Option.bind_eq_some_iff.mp hy4
          obtain ⟨y2, hy2, h2⟩ := Option.bind_eq_some_iff.mp hy3
          exact n8T_tr (n8T_tr (n8T_tr (n8T_tr (n8T_tr (n8T_tr (n8T_k (by decide)) (pX_n8T hy2)) (pt_n8T h2)) (pt_n8T h3)) (pXq_n8T h4)) (pt_n8T h5)) g
        · exact absurd h (by simp)
      · split at h
        · obtain ⟨z, h, g⟩ := pup_n8T (show ¬ (77 = 31 ∨ 77 = 32 ∨ 80 ≤ 77) by decide) h
          obtain ⟨y2, hy2, h2⟩ := Option.bind_eq_some_iff.mp h
          exact n8T_tr (n8T_tr (pR_n8T hy2) (pt_n8T h2)) g
        · exact absurd h (by simp)
    · split at h
      · obtain ⟨z, h, g⟩ := pup_n8T (show ¬ (68 = 31 ∨ 68 = 32 ∨ 80 ≤ 68) by decide) h
        have := pt_n8T h
        exact n8T_tr this g
      · split at h
        · obtain ⟨z, h, g⟩ := pup_n8T (show ¬ (69 = 31 ∨ 69 = 32 ∨ 80 ≤ 69) by decide) h
          obtain ⟨y2, hy2, h2⟩ := Option.bind_eq_some_iff.mp h
          exact n8T_tr (n8T_tr (pX_n8T hy2) (pt_n8T h2)) g
        · split at h
          · split at h
            · obtain ⟨z, h, g⟩ := pup_n8T (show ¬ (70 = 31 ∨ 70 = 32 ∨ 80 ≤ 70) by decide) h
              obtain ⟨y2, hy2, h2⟩ := Option.bind_eq_some_iff.mp h
              exact n8T_tr (n8T_tr (pX_n8T hy2) (pt_n8T h2)) g
            · exact absurd h (by simp)
          · split at h
            · split at h
              · obtain ⟨z, h, g⟩ := pup_n8T (show ¬ (66 = 31 ∨ 66 = 32 ∨ 80 ≤ 66) by decide) h
                have := pt_n8T h
                exact n8T_tr this g
              · exact absurd h (by simp)
            · split at h
              · split at h
                · obtain ⟨z, h, g⟩ := pup_n8T (show ¬ (67 = 31 ∨ 67 = 32 ∨ 80 ≤ 67) by decide) h
                  have := pt_n8T h
                  exact n8T_tr this g
                · exact absurd h (by simp)
              · exact absurd h (by simp)
theorem pfi_n8T {q r : Nat × Nat × gU} (h : pfi q = some r) : n8T q.2.2 r.2.2 := by
  unfold pfi at h
  cases Option.some.inj h
  exact n8T_k (by decide)
theorem pS_n8T : ∀ f : Nat, nh8 (pS K f) := by
  intro f
  induction f with
  | zero => intro c i L q h; exact absurd h (by simp [pS])
  | succ f ih =>
    intro c i L q h
    rw [pS] at h
    split at h
    · exact absurd h (by simp)
    · split at h
      · obtain ⟨z, hz, h2⟩ := Option.bind_eq_some_iff.mp h
        obtain ⟨x, hx, h4⟩ := Option.bind_eq_some_iff.mp h2
        obtain ⟨y, hy, h3⟩ := Option.bind_eq_some_iff.mp hx
        exact n8T_tr (n8T_tr (n8T_tr (n8T_tr (pX_n8T hz) (n8T_k (by decide))) (pBk_n8T ih hy)) (pEl_n8T ih h3)) (pfi_n8T h4)
      · split at h
        · obtain ⟨z, hz, h2⟩ := Option.bind_eq_some_iff.mp h
          exact n8T_tr (n8T_tr (pX_n8T hz) (n8T_k (by decide))) (pBk_n8T ih h2)
        · split at h
          · split at h
            · exact n8T_tr (n8T_k (by decide)) (pBk_n8T ih h)
            · exact absurd h (by simp)
          · exact pS1_n8T h
/-- cells as told: each name's cells are alike; they are as many as the numbers say -/
def celP (K V : Nat → Int32) (L : gU) : Prop := (cel K V L).length = nbT 0 (L.filterMap (te1 K V)) ∧ ∀ T1 q T2, L.filterMap (te1 K V) = T1 ++ q :: T2 → q.2.1 = 0 → ∃ p : Int32 × Bool, ∀ i, i < max q.2.2.1 1 → (cel K V L)[nbT 0 T1 + i]? = some p
theorem celP_0 {V : Nat → Int32} : celP K V [] := ⟨rfl, fun T1 q T2 h => by
  have h : ([] : gTd) = T1 ++ q :: T2 := h
  cases T1 <;> cases h⟩
theorem nbT_0 {T : gTd} (h : ∀ q ∈ T, ¬ q.2.1 = 0) : nbT 0 T = 0 := by
  induction T with
  | nil => rfl
  | cons q T ih => rw [nbT, if_neg (h q List.mem_cons_self), ih (fun r hr => h r (List.mem_cons_of_mem _ hr))]
/-- one more entry -/
theorem app_one {T T1 T2 : gTd} {q r : Nat × Nat × Nat × Nat} (h : T ++ [r] = T1 ++ q :: T2) : (T1 = T ∧ q = r ∧ T2 = []) ∨ ∃ T3, T = T1 ++ q :: T3 ∧ T2 = T3 ++ [r] := by
  rcases List.append_eq_append_iff.mp h with ⟨a, h1, h2⟩ | ⟨a, h1, h2⟩
  · cases a with
    | nil =>
      rw [List.nil_append] at h2
      rw [List.append_nil] at h1
      cases h2
      exact Or.inl ⟨h1, rfl, rfl⟩
    | cons b a =>
      rw [List.cons_append] at h2
      have := congrArg List.length h2
      simp at this
  · cases a with
    | nil =>
      rw [List.nil_append] at h2
      rw [List.append_nil] at h1
      cases h2
      exact Or.inl ⟨h1.symm, rfl, rfl⟩
    | cons b a =>
      rw [List.cons_append] at h2
      cases h2
      exact Or.inr ⟨a, h1, rfl⟩
/-- what tells of no cell -/
theorem celP_no {V : Nat → Int32} {N : gU} (h : celP K V L) (hN : ∀ v ∈ N, ¬ (v.1 = 31 ∨ v.1 = 32 ∨ 80 ≤ v.1)) : celP K V (L ++ N) := by
  have e : cel K V (L ++ N) = cel K V L := by unfold cel; rw [ces_app, ces_no hN]
  have n0 : ∀ q ∈ N.filterMap (te1 K V), ¬ q.2.1 = 0 := fun q hq => by
    obtain ⟨v, hv, hq⟩ := List.mem_filterMap.mp hq
    have nv := hN v hv
    unfold te1 at hq
    rw [if_neg (fun z => nv (Or.inl z)), if_neg (fun z => nv (Or.inr (Or.inl z)))] at hq
    split at hq
    · cases hq; exact (by decide : ¬ (1 : Nat) = 0)
    · split at hq
      · cases hq; exact (by decide : ¬ (2 : Nat) = 0)
      · cases hq
  unfold celP
  rw [e, List.filterMap_append]
  refine ⟨by rw [nbT_app, nbT_0 n0]; exact h.1, fun T1 q T2 hT hq => ?_⟩
  rcases List.append_eq_append_iff.mp hT with ⟨a, h1, h2⟩ | ⟨a, h1, h2⟩
  · -- it lies in what is new: no cell
    have : q ∈ N.filterMap (te1 K V) := by rw [h2]; exact List.mem_append_right _ List.mem_cons_self
    exact absurd hq (n0 q this)
  · cases a with
    | nil =>
      rw [List.nil_append] at h2
      have : q ∈ N.filterMap (te1 K V) := by rw [← h2]; exact List.mem_cons_self
      exact absurd hq (n0 q this)
    | cons b a =>
      rw [List.cons_append] at h2
      cases h2
      exact h.2 T1 q a h1 hq
/-- a cell, or a row of them -/
theorem celP_one {V : Nat → Int32} {v w : Nat × Nat × Nat} {i t : Nat} (h : celP K V L) (hv : v = (31, t, 0) ∨ v = (32, t, t + 2)) (hw : w.1 = 80 ∨ w.1 = 81 ∨ w.1 = 82) : celP K V (L ++ [v] ++ [w] ++ [(83, i, t)]) := by
  obtain ⟨c, ec⟩ : ∃ c, c = ces K V L (0, 0, []) := ⟨_, rfl⟩
  obtain ⟨n, en⟩ : ∃ n : Nat, n = (if v.1 = 31 then 1 else prz K V v.2.2) := ⟨_, rfl⟩
  have n1 : 1 ≤ n ∧ (∀ q, te1 K V v = some q → q.2.1 = 0 ∧ max q.2.2.1 1 = n) := by
    have pz : 1 ≤ prz K V v.2.2 := by
      unfold prz
      split
      · next z =>
        have k1 : (1 : Int32).toInt = 1 := rfl
        have := t_le.mp z.2.1
        rw [t_cl]
        omega
      · exact Nat.le_refl _
    rcases hv with e | e
    · subst e
      rw [en]
      refine ⟨Nat.le_refl _, fun q hq => ?_⟩
      cases hq
      exact ⟨rfl, rfl⟩
    · subst e
      rw [en]
      refine ⟨pz, fun q hq => ?_⟩
      cases hq
      refine ⟨rfl, ?_⟩
      show max (prz K V (t + 2)) 1 = prz K V (t + 2)
      exact Nat.max_eq_left pz
  obtain ⟨q0, hq0⟩ : ∃ q, te1 K V v = some q := by rcases hv with e | e <;> subst e <;> exact ⟨_, rfl⟩
  obtain ⟨k0, mx⟩ := n1.2 q0 hq0
  have s1 : ceV K V c v = (n, c.2) := by rcases hv with e | e <;> subst e <;> rw [en] <;> rfl
  obtain ⟨s, s2⟩ : ∃ s, ceV K V (n, c.2) w = (n, s, c.2.2) := by
    unfold ceV
    rw [if_neg (by omega), if_neg (by omega)]
    rcases hw with e | e | e
    · rw [if_pos e]; exact ⟨_, rfl⟩
    · rw [if_neg (by omega), if_pos e]; exact ⟨_, rfl⟩
    · rw [if_neg (by omega), if_neg (by omega), if_pos e]; exact ⟨_, rfl⟩
  obtain ⟨b, s3⟩ : ∃ b : Bool, ceV K V (n, s, c.2.2) (83, i, t) = (n, s, c.2.2 ++ List.replicate n (s, b)) := ⟨_, rfl⟩
  have ce : cel K V (L ++ [v] ++ [w] ++ [(83, i, t)]) = cel K V L ++ List.replicate n (s, b) := by
    unfold cel
    rw [ces_app, ces_app, ces_app, ← ec]
    show (ceV K V (ceV K V (ceV K V c v) w) (83, i, t)).2.2 = c.2.2 ++ _
    rw [s1, s2, s3]
  have tw : te1 K V w = none := by
    unfold te1
    rw [if_neg (by omega), if_neg (by omega), if_neg (by omega), if_neg (by omega)]
  have te : (L ++ [v] ++ [w] ++ [(83, i, t)]).filterMap (te1 K V) = L.filterMap (te1 K V) ++ [q0] := by
    rw [List.filterMap_append, List.filterMap_append, List.filterMap_append]
    have a1 : [v].filterMap (te1 K V) = [q0] := by simp [hq0]
    have a2 : [w].filterMap (te1 K V) = [] := by simp [tw]
    have a3 : [((83, i, t) : Nat × Nat × Nat)].filterMap (te1 K V) = [] := rfl
    rw [a1, a2, a3, List.append_nil, List.append_nil]
  unfold celP
  rw [ce, te]
  refine ⟨?_, fun T1 q T2 hT hq => ?_⟩
  · rw [List.length_append, List.length_replicate, nbT_app, h.1, nbT, nbT, if_pos k0, mx, Nat.add_zero]
  · rcases app_one hT with ⟨e1, e2, -⟩ | ⟨T3, e1, -⟩
    · rw [e1, e2, mx, ← h.1]
      refine ⟨(s, b), fun j hj => ?_⟩
      rw [List.getElem?_append_right (by omega), Nat.add_sub_cancel_left, List.getElem?_replicate, if_pos hj]
    · obtain ⟨p, hp⟩ := h.2 T1 q T3 e1 hq
      refine ⟨p, fun j hj => ?_⟩
      have := hp j hj
      rw [List.getElem?_append_left (gt_lt this)]
      exact this
theorem pCl_cP {V : Nat → Int32} {n i t : Nat} {q : Nat × Nat × gU} (hc : celP K V L) (h : pCl K V n i t L = some q) : celP K V q.2.2 := by
  have cv : ∀ {j : Nat} {v : Nat × Nat × Nat} {m : Nat} {q : Nat × Nat × gU}, (v = (31, t, 0) ∨ v = (32, t, t + 2)) → ((pCv K (j, L ++ [v])).bind (pt K 67)).bind (fun q => some (m, q.1, q.2 ++ [(83, i, t)])) = some q → celP K V q.2.2 := fun {j v m q} hv hz => by
    obtain ⟨z, hz, h2⟩ := Option.bind_eq_some_iff.mp hz
    obtain ⟨y, hy, h3⟩ := Option.bind_eq_some_iff.mp hz
    obtain ⟨-, -, e3⟩ := pt_is h3
    cases h2
    show celP K V (z.2 ++ [(83, i, t)])
    rw [e3]
    unfold pCv at hy
    split at hy
    · split at hy
      · split at hy
        · split at hy
          · cases Option.some.inj hy
            exact celP_one hc hv (Or.inr (Or.inl rfl))
          · exact absurd hy (by simp)
        · split at hy
          · cases Option.some.inj hy
            exact celP_one hc hv (Or.inl rfl)
          · exact absurd hy (by simp)
      · exact absurd hy (by simp)
    · cases Option.some.inj hy
      exact celP_one hc hv (Or.inr (Or.inr rfl))
  unfold pCl at h
  split at h
  · split at h
    · split at h
      · exact cv (Or.inr rfl) h
      · exact absurd h (by simp)
    · exact cv (Or.inl rfl) h
  · exact absurd h (by simp)
theorem celP_n8 {V : Nat → Int32} (hc : celP K V L) (h : n8T L L') : celP K V L' := by
  obtain ⟨N, e, hN⟩ := h
  rw [e]
  exact celP_no hc hN
theorem pD_cP {V : Nat → Int32} {n : gN} {i : Nat} {q : gN × Nat × gU} (hc : celP K V L) (h : pD K V n i L = some q) : celP K V q.2.2 := by
  have blk : ∀ {m j : Nat} {v : Nat × Nat × Nat} {r : Nat × Nat × gU}, ¬ (v.1 = 31 ∨ v.1 = 32 ∨ 80 ≤ v.1) → pBk (pS K 16) K 0 0 j (L ++ [v]) = some r → celP K V r.2.2 := fun {m j v r} hv hr => celP_n8 (celP_no hc (fun w hw => by rw [List.mem_singleton.mp hw]; exact hv)) (pBk_n8T (pS_n8T 16) hr)
  unfold pD at h
  split at h
  · split at h
    · obtain ⟨z, hz, h2⟩ := Option.bind_eq_some_iff.mp h
      cases h2
      exact pCl_cP hc hz
    · exact absurd h (by simp)
  · split at h
    · obtain ⟨z, hz, h2⟩ := Option.bind_eq_some_iff.mp h
      cases h2
      exact pCl_cP hc hz
    · split at h
      · split at h
        · cases Option.some.inj h
          exact celP_no hc (fun w hw => by rw [List.mem_singleton.mp hw]; show ¬ (33 = 31 ∨ 33 = 32 ∨ 80 ≤ 33); decide)
        · exact absurd h (by simp)
      · split at h
        · split at h
          · obtain ⟨z, hz, h2⟩ := Option.bind_eq_some_iff.mp h
            cases h2
            exact blk (m := 0) (show ¬ (34 = 31 ∨ 34 = 32 ∨ 80 ≤ 34) by decide) hz
          · exact absurd h (by simp)
        · split at h
          · split at h
            · obtain ⟨z, hz, h2⟩ := Option.bind_eq_some_iff.mp h
              cases h2
              exact blk (m := 0) (show ¬ (34 = 31 ∨ 34 = 32 ∨ 80 ≤ 34) by decide) hz
            · exact absurd h (by simp)
          · split at h
            · split at h
              · obtain ⟨z, hz, h2⟩ := Option.bind_eq_some_iff.mp h
                obtain ⟨y, hy, h3⟩ := Option.bind_eq_some_iff.mp hz
                cases h2
                exact celP_n8 (celP_n8 (celP_no hc (fun w hw => by rw [List.mem_singleton.mp hw]; show ¬ (35 = 31 ∨ 35 = 32 ∨ 80 ≤ 35); decide)) (pX_n8T hy)) (pt_n8T h3)
              · exact absurd h (by simp)
            · split at h
              · split at h
                · obtain ⟨z, hz, h2⟩ := Option.bind_eq_some_iff.mp h
                  obtain ⟨y, hy, h3⟩ := Option.bind_eq_some_iff.mp hz
                  cases h2
                  exact celP_n8 (celP_n8 (celP_no hc (fun w hw => by rw [List.mem_singleton.mp hw]; show ¬ (36 = 31 ∨ 36 = 32 ∨ 80 ≤ 36); decide)) (pX_n8T hy)) (pt_n8T h3)
                · exact absurd h (by simp)
              · exact absurd h (by simp)
theorem pAl_cP {V : Nat → Int32} : ∀ (m : Nat) (n : gN) (i : Nat) (L : gU) (q : gN × Nat × gU), celP K V L → pAl K V m n i L = some q → celP K V q.2.2 := by
  intro m
  induction m with
  | zero => intro n i L q _ h; exact absurd h (by simp [pAl])
  | succ m ih =>
    intro n i L q hc h
    rw [pAl] at h
    split at h
    · cases Option.some.inj h; exact hc
    · obtain ⟨z, hz, h2⟩ := Option.bind_eq_some_iff.mp h
      exact ih _ _ _ _ (pD_cP hc hz) h2
/-- the first of a name -/
theorem nm_first {sN : Nat → Nat → Bool} {t : Nat} : ∀ {T : gTd} {q : Nat × Nat × Nat × Nat}, mtP sN T 0 t = some q → ∃ T1 T2, T = T1 ++ q :: T2 ∧ q.2.1 = 0 ∧ nmT sN 0 t T = nbT 0 T1 := by
  intro T
  induction T with
  | nil => intro q h; cases h
  | cons r T ih =>
    intro q h
    unfold mtP at h
    rw [List.find?_cons] at h
    cases hr : (decide (r.2.1 = 0) && sN r.1 t) with
    | true =>
      rw [hr] at h
      cases h
      rw [Bool.and_eq_true, decide_eq_true_eq] at hr
      refine ⟨[], T, rfl, hr.1, ?_⟩
      rw [nmT, if_pos (by rw [Bool.and_eq_true, decide_eq_true_eq]; exact hr)]
      rfl
    | false =>
      rw [hr] at h
      obtain ⟨T1, T2, e1, e2, e3⟩ := ih (q := q) h
      refine ⟨r :: T1, T2, by rw [e1]; rfl, e2, ?_⟩
      rw [nmT, if_neg (by rw [hr]; decide), nbT, e3]
end NT8
section NX3S
variable {sN : Nat → Nat → Bool} {V K : Nat → Int32} {L : gU} {P : Nat × Nat × Nat → Prop}
theorem NX3_of (hc : celP K V L) (l24 : (cel K V L).length ≤ 24) (h : WC sN K P (cds sN K L cd0)) : NX3 (codN sN V K L) := by
  obtain ⟨E, S, r, b, l, ec, -, -, w1, w2, w3⟩ := h
  have e1 : (cds sN K L cd0).2.1 = S := by rw [ec]
  intro j st hj o4 hix i hi
  have cs : (codN sN V K L).2.2.1 = cel K V L := rfl
  unfold codN at hj
  rw [e1] at hj
  obtain ⟨T, eT⟩ : ∃ T, T = L.filterMap (te1 K V) := ⟨_, rfl⟩
  have hj : (S.map (nStp sN (L.filterMap (te1 K V)) V K))[j]? = some st := hj
  rw [← eT] at hj
  rw [List.getElem?_map] at hj
  obtain ⟨s0, g0, e⟩ := Option.map_eq_some_iff.mp hj
  subst e
  obtain ⟨-, E0, ⟨q1, q2, q3, q4, q5, q5', q6, -⟩, -⟩ := w1 j s0 g0
  have o4 : s0.1 ≤ 4 := o4
  obtain ⟨tk, h5, -⟩ := q4 (by omega)
  have fl : s0.2.2.2.2.2.1 = true := (q6 o4).mpr (fun z => hix (by show s0.2.2.2.2.2.2.1.map _ = none; rw [z]; rfl))
  have eo : mOf sN T V s0 = Int32.ofNat (nmT sN 0 tk T) := by unfold mOf; rw [h5]; exact if_pos o4
  have es : mSz sN T s0 = Int32.ofNat (rsT sN T tk) := by unfold mSz; rw [if_pos fl, if_pos o4, h5]; rfl
  have hi : (i : Int) < (mSz sN T s0).toInt := hi
  rw [es] at hi
  show suM _ ((mOf sN T V s0).toNatClampNeg + i) = suM _ (mOf sN T V s0).toNatClampNeg
  rw [eo]
  unfold rsT at hi
  cases hm : mtP sN T 0 tk with
  | none =>
    simp only [hm] at hi
    have k0 : (Int32.ofNat 0).toInt = 0 := rfl
    rw [k0] at hi
    omega
  | some q =>
    simp only [hm] at hi
    obtain ⟨T1, T2, a1, a2, a3⟩ := nm_first hm
    obtain ⟨p, hp⟩ := hc.2 T1 q T2 (by rw [← eT]; exact a1) a2
    have p0 := hp 0 (by omega)
    have l0 := gt_lt p0
    have tot : nbT 0 T1 + max q.2.2.1 1 ≤ (cel K V L).length := by
      have := gt_lt (hp (max q.2.2.1 1 - 1) (by omega))
      omega
    have iq : i < q.2.2.1 := by
      have : (Int32.ofNat q.2.2.1).toInt = (q.2.2.1 : Nat) := Int32.toInt_ofNat_of_lt (by omega)
      rw [this] at hi
      omega
    have en : (Int32.ofNat (nmT sN 0 tk T)).toNatClampNeg = nbT 0 T1 := by
      rw [a3, t_cl, Int32.toInt_ofNat_of_lt (by omega)]; rfl
    rw [en]
    have pi := hp i (by omega)
    rw [Nat.add_zero] at p0
    unfold suM
    rw [cs, pi, p0]
end NX3S
end
section
/-! the class: its clocks tell what is before what -/
def KV (x : gd) (c r : Nat) : Nat → Nat := fun u => (x.1 c (r * 6 + u)).toInt.toNat
/-- a row of clocks tells of the acts in S -/
def KC (x : gd) (c r : Nat) (J : List gDe) (S : Nat → Prop) : Prop := (∀ u, u < 6 → 0 ≤ (x.1 c (r * 6 + u)).toInt) ∧ rep J J.length (KV x c r) S
/-- what the four tables keep: starts, locks given, sure cells written, wakes -/
def qF (su : Int32 → Bool) (c o : Nat) : gDe → Prop := if c = 175 then qSt (Int32.ofNat o) else if c = 176 then qLk (Int32.ofNat o) else if c = 177 then qCe su (Int32.ofNat o) else qWk o
abbrev inF (c o : Nat) : Prop := (175 ≤ c ∧ c ≤ 178) ∧ (c = 177 → o < 24) ∧ (¬ c = 177 → o < 6)
def KT4 (su : Int32 → Bool) (x : gd) (J : List gDe) : Prop := ∀ c o, inF c o → KC x c o J (bfQ su J (qF su c o))
/-- all clocks of the journal -/
def KJc (su : Int32 → Bool) (x : gd) (J : List gDe) : Prop :=
  (∀ (b : Nat) (eb : gDe), J[b]? = some eb → KC x 173 b J (fun a => a = b ∨ bf su J b a) ∧ KV x 173 b eb.1 = ct J b eb.1 + 1) ∧
  (∀ t, t < 6 → (x.1 174 t = -1 ∧ ∀ (k : Nat) (ek : gDe), J[k]? = some ek → ¬ ek.1 = t) ∨ ∃ l : Nat, (x.1 174 t).toInt = l ∧ lsT J t l) ∧
  KT4 su x J
/-- an act's cells -/
def KAe (x : gd) (a : Nat) (e : gDe) : Prop := x.1 166 a = Int32.ofNat e.1 ∧ x.1 167 a = Int32.ofNat e.2.1 ∧ x.1 168 a = e.2.2.1 ∧ x.1 171 a = (if e.2.2.2.2.2.1 = true then 1 else 0) ∧ e.1 < 6 ∧ e.2.1 < 22 ∧ (e.2.1 ≤ 4 → e.2.2.2.2.2.1 = false → e.2.2.1.toNatClampNeg < (x.1 60 6).toInt.toNat)
/-- sure cells -/
def KSu (su : Int32 → Bool) (x : gd) : Prop := ∀ o : Nat, o < (x.1 60 6).toInt.toNat → (¬ x.1 69 o = 0 ↔ su (Int32.ofNat o) = true)
section KCK
variable {G : kG} {q : kP} {d : Nat} {x x0 y z : gd} {F : Int32 → gd → Prop} {Fv : gd → Prop} {J : List gDe} {S T : Nat → Prop} {c r : Nat} {su : Int32 → Bool} {e : gDe}
theorem KC_f (f : ∀ u, u < 6 → y.1 c (r * 6 + u) = x.1 c (r * 6 + u)) (h : KC x c r J S) : KC y c r J S :=
  ⟨fun u hu => by rw [f u hu]; exact h.1 u hu, rep_cg h.2 (fun _ _ => Iff.rfl) (fun u hu => by unfold KV; rw [f u hu])⟩
theorem KC_cg (hS : ∀ a, S a ↔ T a) (h : KC x c r J S) : KC x c r J T := ⟨h.1, rep_cg h.2 (fun a _ => hS a) (fun _ _ => rfl)⟩
theorem KC_or {c2 r2 : Nat} (h : KC x c r J S) (g : KC x c2 r2 J T) (hy : ∀ u, u < 6 → (y.1 c (r * 6 + u)).toInt = max (x.1 c (r * 6 + u)).toInt (x.1 c2 (r2 * 6 + u)).toInt) : KC y c r J (fun a => S a ∨ T a) := by
  refine ⟨fun u hu => ?_, rep_cg (rep_or h.2 g.2) (fun _ _ => Iff.rfl) (fun u hu => ?_)⟩
  · have h1 := h.1 u hu
    rw [hy u hu]; omega
  · have h1 := h.1 u hu
    have h2 := g.1 u hu
    unfold KV
    rw [hy u hu]; omega
/-- a row that grows by an act that isn't in S -/
theorem KC_sn (h : KC x c r J S) (hn : ¬ S J.length) (h6 : e.1 < 6) : KC x c r (J ++ [e]) S := ⟨h.1, by
  have : (J ++ [e]).length = J.length + 1 := by rw [List.length_append]; rfl
  rw [this]; exact rep_sn h.2 hn h6⟩
theorem kj_join3 (hq : kV q) {a0 n0 : Nat} (ka0 : kK a0 = .inr (.int, n0)) (ma0 : a0 ∈ (kf q).2.1) {a2 n2 : Nat} (ka2 : kK a2 = .inr (.int, n2)) (ma2 : a2 ∈ (kf q).2.1) (r s : Int32) {R S : Nat} (er : r.toInt = R) (es : s.toInt = S) (hR : R < 400) (hS : S < 400) (h0 : R * 6 + 6 ≤ n0) (h2 : S * 6 + 6 ≤ n2) (h : ∀ y, fm (fun c k => c = a0 ∧ R * 6 ≤ k ∧ k < R * 6 + 6) x y → (∀ u, u < 6 → (y.1 a0 (R * 6 + u)).toInt = max (x.1 a0 (R * 6 + u)).toInt (x.1 a2 (S * 6 + u)).toInt) → Fv y) : KT G q (d + 1) zk_X4_join 0 [(0, vr a0), (1, vi r), (2, vr a2), (3, vi s)] [] x (rv Fv) := by
  have k6 : (6 : Int32).toInt = 6 := rfl
  have loop : ∀ (n k : Nat) (i : Int32) (y : gd), i.toInt = k → 6 - k ≤ n → k ≤ 6 → fm (fun c j => c = a0 ∧ R * 6 ≤ j ∧ j < R * 6 + k) x y → (∀ u, u < k → (y.1 a0 (R * 6 + u)).toInt = max (x.1 a0 (R * 6 + u)).toInt (x.1 a2 (S * 6 + u)).toInt) → KT G q (d + 1) zk_X4_join 3 [(0, vr a0), (1, vi r), (2, vr a2), (3, vi s), (4, vi i)] [] y (rv Fv) := by
    intro n
    induction n with
    | zero =>
      intro k i y ei hn hk fy hy
      refine kg_X4_join_3 hq ka0 ma0 ka2 ma2 _ _ _ ⟨fun _ => rv_i (h y (fm_w fy (fun c j q => by omega)) (fun u hu => hy u (by omega))), fun c => ?_⟩
      exfalso; rw [t_le, k6] at c; omega
    | succ n ih =>
      intro k i y ei hn hk fy hy
      refine kg_X4_join_3 hq ka0 ma0 ka2 ma2 _ _ _ ⟨fun c => ?_, fun c => ?_⟩
      · rw [t_le, k6] at c
        exact rv_i (h y (fm_w fy (fun c j q => by omega)) (fun u hu => hy u (by omega)))
      rw [t_le, k6] at c
      have e1 : (i + 1).toInt = ((k + 1 : Nat) : Int) := by rw [t_add (by show _ ≤ _ + (1 : Int); omega) (by show _ + (1 : Int) ≤ _; omega), ei]; rfl
      have x1 := cl_ix er ei hR (by omega)
      have x2 := cl_ix es ei hS (by omega)
      have v1 : vp_in (r * 6 + i) n0 := by rw [vp_in_iff, x1]; omega
      have c1 : (r * 6 + i).toNatClampNeg = R * 6 + k := by rw [t_cl, x1]; omega
      have c2 : (s * 6 + i).toNatClampNeg = S * 6 + k := by rw [t_cl, x2]; omega
      refine ⟨v1, by rw [vp_in_iff, x2]; omega, fun r5 o5 l5 g5 => ⟨v1, fun z ez => ?_⟩⟩
      have y1 : y.1 a0 (R * 6 + k) = x.1 a0 (R * 6 + k) := fy _ _ (by omega)
      have y2 : y.1 a2 (S * 6 + k) = x.1 a2 (S * 6 + k) := fy _ _ (by omega)
      rw [c1, y1, c2, y2] at o5
      rw [c1, y1] at l5
      rw [c2, y2] at g5
      rw [c1] at ez
      refine ih (k + 1) _ z e1 (by omega) (by omega) ?_ (fun u hu => ?_)
      · rw [ez]; exact fm_si (fm_w fy (fun c j q => by omega)) ⟨rfl, by omega, by omega⟩
      · by_cases cu : u = k
        · rw [cu, ez, si_get, if_pos ⟨rfl, rfl⟩]; omega
        · rw [ez, si_get, if_neg (by omega)]; exact hy u (by omega)
  exact kg_X4_join_0 hq ka0 ma0 ka2 ma2 _ _ (loop 6 0 _ x rfl (by omega) (by omega) (fm_w (fm_rf _ _) (fun c j q => q)) (fun u hu => absurd hu (Nat.not_lt_zero _)))
theorem to_10 (h : e.2.1 = 10) (a : gDe) : qTo su e a ↔ qTh e.2.2.1 a := by
  unfold qTo
  exact ⟨fun z => by
    rcases z with z | z | z | z
    · exact z.2
    · have := z.1; omega
    · have := z.1; omega
    · have := z.1; omega, fun z => Or.inl ⟨h, z⟩⟩
theorem to_5 (h : e.2.1 = 5) (a : gDe) : qTo su e a ↔ qLk e.2.2.1 a := by
  unfold qTo
  exact ⟨fun z => by
    rcases z with z | z | z | z
    · have := z.1; omega
    · exact z.2
    · have := z.1; omega
    · have := z.1; omega, fun z => Or.inr (Or.inl ⟨Or.inl h, z⟩)⟩
theorem to_15 (h : e.2.1 = 15) (a : gDe) : qTo su e a ↔ qWk e.1 a ∨ qLk e.2.2.1 a := by
  unfold qTo
  exact ⟨fun z => by
    rcases z with z | z | z | z
    · have := z.1; omega
    · exact Or.inr z.2
    · exact Or.inl z.2
    · have := z.1; omega, fun z => by
    rcases z with z | z
    · exact Or.inr (Or.inr (Or.inl ⟨h, z⟩))
    · exact Or.inr (Or.inl ⟨Or.inr h, z⟩)⟩
theorem to_c (h : e.2.1 = 0 ∨ (2 ≤ e.2.1 ∧ e.2.1 ≤ 4)) (a : gDe) : qTo su e a ↔ qCe su e.2.2.1 a := by
  unfold qTo
  exact ⟨fun z => by
    rcases z with z | z | z | z
    · have := z.1; omega
    · have := z.1; omega
    · have := z.1; omega
    · exact z.2, fun z => Or.inr (Or.inr (Or.inr ⟨h, z⟩))⟩
theorem to_n (h : ¬ (e.2.1 = 10 ∨ e.2.1 = 5 ∨ e.2.1 = 15 ∨ e.2.1 = 0 ∨ (2 ≤ e.2.1 ∧ e.2.1 ≤ 4))) (a : gDe) : ¬ qTo su e a := by
  unfold qTo
  intro z
  rcases z with z | z | z | z
  · have := z.1; omega
  · have := z.1; omega
  · have := z.1; omega
  · have := z.1; omega
/-- what an act takes over: its row, joined with what was handed on -/
theorem kj_takeOver3 (hq : kV q) (hJ : JN x) (a : Int32) {A : Nat} (ea : a.toInt = A) (hA : (A : Int) < (x.1 160 3).toInt) (hA2 : A = J.length) (hf : e.2.2.2.2.2.1 = false) (ae : KAe x A e) (hs : KSu su x) (j6 : ∀ (k : Nat) (ek : gDe), J[k]? = some ek → ek.1 < 6) (hj : KJc su x J) (h0 : KC x 173 A J S) (h : ∀ y, fm (fun c k => c = 173 ∧ A * 6 ≤ k ∧ k < A * 6 + 6) x y → KC y 173 A J (fun k => S k ∨ bfQ su J (qTo su e) k) → Fv y) : KT G q (d + 2) zk_X4_takeOver 0 [(0, vr 160), (1, vi a)] [] x (rv Fv) := by
  have b := hJ.1
  have eN : a.toNatClampNeg = A := by rw [t_cl, ea]; rfl
  have va : vp_in a 400 := by rw [vp_in_iff]; omega
  obtain ⟨t6, s7, o8, f1, e6, e22, eob⟩ := ae
  rw [hf, if_neg (by decide)] at f1
  obtain ⟨j1, j2, j3⟩ := hJ.2.1 A hA
  obtain ⟨o1, o2, o3⟩ := j3 f1
  obtain ⟨hc, hl, h4⟩ := hj
  have hlk : ∀ o, o < 6 → KC x 176 o J (bfQ su J (qLk (Int32.ofNat o))) := fun o ho => h4 176 o ⟨by omega, fun z => absurd z (by decide), fun _ => ho⟩
  have hce : ∀ o, o < 24 → KC x 177 o J (bfQ su J (qCe su (Int32.ofNat o))) := fun o ho => h4 177 o ⟨by omega, fun _ => ho, fun z => absurd rfl z⟩
  have hwk : ∀ o, o < 6 → KC x 178 o J (bfQ su J (qWk o)) := fun o ho => h4 178 o ⟨by omega, fun z => absurd z (by decide), fun _ => ho⟩
  have s7i : (x.1 167 A).toInt = (e.2.1 : Nat) := by rw [s7]; exact Int32.toInt_ofNat_of_lt (by omega)
  have i7 : ∀ n : Nat, n < 1000 → (x.1 167 A = Int32.ofNat n ↔ e.2.1 = n) := fun n hn => by rw [s7]; exact of_inj (by omega) hn
  have eo : ∀ {m : Int}, (0 ≤ (x.1 168 A).toInt ∧ (x.1 168 A).toInt < m) → ∃ O : Nat, (x.1 168 A).toInt = (O : Nat) ∧ e.2.2.1 = Int32.ofNat O ∧ (x.1 168 A).toNatClampNeg = O := fun hh => by
    refine ⟨(x.1 168 A).toInt.toNat, by omega, ?_, rfl⟩
    rw [← o8]
    exact i32_of (by omega)
  have fin : ∀ y, fm (fun c k => c = 173 ∧ A * 6 ≤ k ∧ k < A * 6 + 6) x y → ∀ {T : Nat → Prop}, KC y 173 A J (fun k => S k ∨ T k) → (∀ k, T k ↔ bfQ su J (qTo su e) k) → rv Fv none y := fun y fy T hT hh => rv_i (h y fy (KC_cg (fun k => by rw [hh k]) hT))
  have none9 : (∀ k, ¬ bfQ su J (qTo su e) k) → rv Fv none x := fun hh => rv_i (h x (fm_rf _ _) (KC_cg (fun k => ⟨Or.inl, fun z => z.resolve_right (hh k)⟩) h0))
  refine kg_X4_takeOver_0 hq _ ⟨va, va, ?_⟩
  rw [eN]
  refine ⟨fun c => ?_, fun c => ⟨va, ?_⟩, fun c => ?_, fun c => ?_, fun c => ?_⟩
  · have c10 : e.2.1 = 10 := (i7 10 (by omega)).mp c
    have hh := o3 (Or.inr (by rw [c]; rfl))
    obtain ⟨O, O1, O2, O3⟩ := eo hh
    have v6 : vp_in (x.1 168 A) 6 := by rw [vp_in_iff]; omega
    have tq : ∀ (k : Nat) (ek : gDe), J[k]? = some ek → (qTo su e ek ↔ ek.1 = O) := fun k ek hk => by
      rw [to_10 c10, O2]
      exact of_inj (by have := j6 k ek hk; omega) (by omega)
    rw [O3]
    refine ⟨v6, fun cn => none9 (fun k => bfQ_no (fun m em hm z => ?_)), fun cn => ⟨v6, ?_⟩⟩
    · rcases hl O (by omega) with z1 | ⟨l, l1, l2⟩
      · exact z1.2 m em hm ((tq m em hm).mp z)
      · rw [cn, tm1] at l1; omega
    · rcases hl O (by omega) with z1 | ⟨l, l1, l2⟩
      · exact absurd z1.1 cn
      · obtain ⟨el, g1, -⟩ := id l2
        have ll := gt_lt g1
        refine kj_join3 hq kk_173 (kl_173 hq) kk_173 (kl_173 hq) _ _ ea l1 (by omega) (by omega) (by omega) (by omega) (fun y fy hy => fin y fy (KC_or h0 (hc l el g1).1 hy) (fun k => ?_))
        rw [bfQ_cg tq, bf_last l2]
  · have c15 : e.2.1 = 15 := (i7 15 (by omega)).mp c
    have hh := o2 (Or.inr (by rw [c]; rfl))
    obtain ⟨O, O1, O2, O3⟩ := eo hh
    have ti : (x.1 166 A).toInt = (e.1 : Nat) := by rw [t6]; exact Int32.toInt_ofNat_of_lt (by omega)
    refine kj_join3 hq kk_173 (kl_173 hq) kk_178 (kl_178 hq) _ _ ea ti (by omega) (by omega) (by omega) (by omega) (fun y fy hy => ?_)
    have f8 : y.1 168 A = x.1 168 A := fy _ _ (by omega)
    have h1 := KC_or h0 (hwk e.1 e6) hy
    refine kj_join3 hq kk_173 (kl_173 hq) kk_176 (kl_176 hq) _ _ ea O1 (by omega) (by omega) (by omega) (by omega) (fun z fz hz => ?_)
    have h2 := KC_or h1 (KC_f (fun u hu => fy 176 _ (by omega)) (hlk O (by omega))) hz
    refine fin z (fm_tr fy fz) (T := fun k => bfQ su J (qWk e.1) k ∨ bfQ su J (qLk (Int32.ofNat O)) k) (KC_cg (fun k => or_assoc) h2) (fun k => ?_)
    rw [bfQ_cg (fun m em _ => to_15 c15 em), bfQ_or, O2]
  · have c5 : e.2.1 = 5 := (i7 5 (by omega)).mp c
    have hh := o2 (Or.inl (by rw [c]; decide))
    obtain ⟨O, O1, O2, O3⟩ := eo hh
    refine kj_join3 hq kk_173 (kl_173 hq) kk_176 (kl_176 hq) _ _ ea O1 (by omega) (by omega) (by omega) (by omega) (fun z fz hz => fin z fz (KC_or h0 (hlk O (by omega)) hz) (fun k => ?_))
    rw [bfQ_cg (fun m em _ => to_5 c5 em), O2]
  · have cc : e.2.1 = 0 ∨ (2 ≤ e.2.1 ∧ e.2.1 ≤ 4) := by
      rcases c with c | c | c | c
      · have := (i7 0 (by omega)).mp c; omega
      · have := (i7 2 (by omega)).mp c; omega
      · have := (i7 3 (by omega)).mp c; omega
      · have := (i7 4 (by omega)).mp c; omega
    have hh := o1 (by omega)
    obtain ⟨O, O1, O2, O3⟩ := eo hh
    have onc : O < (x.1 60 6).toInt.toNat := by
      have := eob (by omega) hf
      rw [← o8, O3] at this
      exact this
    rw [O3]
    refine ⟨by rw [vp_in_iff]; omega, fun c0 => none9 (fun k => bfQ_no (fun m em hm z => ?_)), fun c0 => kj_join3 hq kk_173 (kl_173 hq) kk_177 (kl_177 hq) _ _ ea O1 (by omega) (by omega) (by omega) (by omega) (fun z fz hz => fin z fz (KC_or h0 (hce O (by omega)) hz) (fun k => ?_))⟩
    · have z9 := (to_c cc em).mp z
      rw [O2] at z9
      exact (hs O onc).mpr z9.2.2.2 c0
    · rw [bfQ_cg (fun m em _ => to_c cc em), O2]
  · refine none9 (fun k => bfQ_no (fun m em _ => to_n ?_ em))
    have d1 : ¬ e.2.1 = 10 := fun z => c 10 (by decide) ((i7 10 (by omega)).mpr z)
    have d2 : ¬ e.2.1 = 15 := fun z => c 15 (by decide) ((i7 15 (by omega)).mpr z)
    have d3 : ¬ e.2.1 = 5 := fun z => c 5 (by decide) ((i7 5 (by omega)).mpr z)
    have d4 : ¬ e.2.1 = 0 := fun z => c 0 (by decide) ((i7 0 (by omega)).mpr z)
    have d5 : ¬ e.2.1 = 2 := fun z => c 2 (by decide) ((i7 2 (by omega)).mpr z)
    have d6 : ¬ e.2.1 = 3 := fun z => c 3 (by decide) ((i7 3 (by omega)).mpr z)
    have d7 : ¬ e.2.1 = 4 := fun z => c 4 (by decide) ((i7 4 (by omega)).mpr z)
    omega
/-- a new act's clock -/
theorem kj_setClock3 (hq : kV q) (hJ : JN x) (a : Int32) {A : Nat} (ea : a.toInt = A) (hA : (A : Int) < (x.1 160 3).toInt) (hA2 : A = J.length) (ae : KAe x A e) (hs : KSu su x) (j6 : ∀ (k : Nat) (ek : gDe), J[k]? = some ek → ek.1 < 6) (hj : KJc su x J) (hst : ∀ (s : Nat) (es : gDe) (k : Nat) (ek : gDe), J[s]? = some es → qSt (Int32.ofNat e.1) es → J[k]? = some ek → ek.1 = e.1 → s < k) (h : ∀ y, JN y → fm (fun c k => (c = 173 ∧ A * 6 ≤ k ∧ k < A * 6 + 6) ∨ (c = 174 ∧ k = e.1)) x y → (y.1 174 e.1 = a ∧ KC y 173 A (J ++ [e]) (fun k => k = A ∨ bf su (J ++ [e]) A k) ∧ KV y 173 A e.1 = ct J A e.1 + 1) → Fv y) : KT G q (d + 3) zk_X4_setClock 0 [(0, vr 160), (1, vi a)] [] x (rv Fv) := by
  have b := hJ.1
  have k6 : (6 : Int32).toInt = 6 := rfl
  have k1 : (1 : Int32).toInt = 1 := rfl
  have eN : a.toNatClampNeg = A := by rw [t_cl, ea]; rfl
  have va : vp_in a 400 := by rw [vp_in_iff]; omega
  obtain ⟨t6, s7, o8, f1, e6, e22, eob⟩ := id ae
  have et : (x.1 166 A).toInt = (e.1 : Nat) := by rw [t6]; exact Int32.toInt_ofNat_of_lt (by omega)
  have vt : vp_in (x.1 166 A) 6 := by rw [vp_in_iff]; omega
  have eT : (x.1 166 A).toNatClampNeg = e.1 := by rw [t_cl, et]; rfl
  have len : (J ++ [e]).length = J.length + 1 := by rw [List.length_append]; rfl
  have nA : ¬ bf su (J ++ [e]) A A := fun z => by have := bf_lt z; omega
  have p91 : ∀ y, fm (fun c k => c = 173 ∧ A * 6 ≤ k ∧ k < A * 6 + 6) x y → KC y 173 A J (fun k => bf su (J ++ [e]) A k) → KT G q (d + 3) zk_X4_setClock 91 [(0, vr 160), (1, vi a), (2, vi (x.1 166 A))] [] y (rv Fv) := by
    intro y fy hy
    have x1 := cl_ix ea et (by omega) (by omega)
    have v1 : vp_in (a * 6 + x.1 166 A) 2400 := by rw [vp_in_iff, x1]; omega
    have c1 : (a * 6 + x.1 166 A).toNatClampNeg = A * 6 + e.1 := by rw [t_cl, x1]; omega
    refine kg_X4_setClock_91 hq _ _ ⟨v1, v1, fun x3 e3 => ⟨vt, fun z ez => ?_⟩⟩
    rw [c1] at e3
    rw [eT] at ez
    have f3 : fm (fun c k => c = 173 ∧ A * 6 ≤ k ∧ k < A * 6 + 6) x x3 := by rw [e3]; exact fm_si fy ⟨rfl, by omega, by omega⟩
    have own : KV y 173 A e.1 = ct J J.length e.1 := by
      refine rep_ct hy.2 e6 (Nat.le_refl _) (fun k ek hk hg he => ?_)
      rw [hA2]
      exact bf_new.mpr ⟨k, ek, hg, Or.inl he, Or.inl rfl⟩
    have lt4 : KV y 173 A e.1 ≤ 400 := by
      have : ∀ n, ct J n e.1 ≤ n := fun n => by
        induction n with
        | zero => exact Nat.le_refl _
        | succ n ih =>
          show ct J n e.1 + _ ≤ _
          cases hg : J[n]? with
          | none => show ct J n e.1 + 0 ≤ _; omega
          | some ek => show ct J n e.1 + (if ek.1 = e.1 then 1 else 0) ≤ _; split <;> omega
      rw [own]
      have := this J.length
      omega
    have h0 := hy.1 e.1 e6
    have kv0 : (y.1 173 (A * 6 + e.1)).toInt.toNat ≤ 400 := lt4
    have up : (y.1 173 (A * 6 + e.1) + 1).toInt = (y.1 173 (A * 6 + e.1)).toInt + 1 := by rw [t_add (by rw [k1]; omega) (by rw [k1]; omega), k1]
    have z0 : ∀ u, u < 6 → z.1 173 (A * 6 + u) = if u = e.1 then y.1 173 (A * 6 + e.1) + 1 else y.1 173 (A * 6 + u) := fun u hu => by
      rw [ez, si_cell (by decide), e3, si_get]
      by_cases cu : u = e.1
      · rw [if_pos ⟨rfl, by omega⟩, if_pos cu]
      · rw [if_neg (by omega), if_neg cu]
    have kv : ∀ u, u < 6 → upf (KV y 173 A) e.1 (KV y 173 A e.1 + 1) u = KV z 173 A u := fun u hu => by
      show _ = (z.1 173 (A * 6 + u)).toInt.toNat
      rw [z0 u hu]
      by_cases cu : u = e.1
      · rw [cu, upf_eq, if_pos rfl, up]
        show (y.1 173 (A * 6 + e.1)).toInt.toNat + 1 = _
        omega
      · rw [upf_ne cu, if_neg cu]; rfl
    refine rv_i (h z ?_ ?_ ⟨?_, ⟨fun u hu => ?_, ?_⟩, ?_⟩)
    · have g : ∀ c k, ¬ c = 173 → ¬ c = 174 → z.1 c k = x.1 c k := fun c k h1 h2 => by rw [ez, si_cell h2, f3 c k (by omega)]
      unfold JN
      rw [g 160 3 (by decide) (by decide), g 160 2 (by decide) (by decide)]
      refine ⟨hJ.1, fun a ha => JA_eq (fun c k hc => g c k (by omega) (by omega)) (hJ.2.1 a ha), fun t ht => ?_⟩
      by_cases h9 : t = e.1
      · have : z.1 174 t = a := by rw [ez, h9, si_get, if_pos ⟨rfl, rfl⟩]
        rw [this]; exact Or.inr (by omega)
      · have : z.1 174 t = x.1 174 t := by rw [ez, si_get, if_neg (fun q => h9 q.2), f3 174 t (by omega)]
        rw [this]; exact hJ.2.2 t ht
    · rw [ez]; exact fm_si (fm_w f3 (fun c k q => Or.inl q)) (Or.inr ⟨rfl, rfl⟩)
    · rw [ez, si_get, if_pos ⟨rfl, rfl⟩]
    · rw [z0 u hu]
      have := hy.1 u hu
      split
      · rw [up]; omega
      · exact this
    · rw [len]
      refine rep_cg (rep_me hy.2 (by rw [← hA2]; exact nA) e6 own) (fun k _ => by rw [hA2]) kv
    · rw [← kv e.1 e6, upf_eq, own, hA2]
  have p77 : ∀ y, fm (fun c k => c = 173 ∧ A * 6 ≤ k ∧ k < A * 6 + 6) x y → ∀ {S : Nat → Prop}, KC y 173 A J S → (∀ k, bf su (J ++ [e]) A k ↔ (S k ∨ (e.2.2.2.2.2.1 = false ∧ bfQ su J (qTo su e) k))) → KT G q (d + 3) zk_X4_setClock 77 [(0, vr 160), (1, vi a), (2, vi (x.1 166 A))] [] y (rv Fv) := by
    intro y fy S hy hS
    have hyJ : JN y := JN_ck (fm_w fy (fun c k q => by unfold sCk; omega)) hJ
    have f9 : y.1 171 A = x.1 171 A := fy _ _ (by omega)
    refine kg_X4_setClock_77 hq _ _ ⟨va, fun c => p91 y fy (KC_cg (fun k => ?_) hy), fun c => ?_⟩
    · rw [eN, f9, f1] at c
      rw [hS k]
      refine ⟨Or.inl, fun z => z.resolve_right (fun z9 => ?_)⟩
      rw [if_neg (by rw [z9.1]; decide)] at c
      exact c rfl
    · rw [eN, f9, f1] at c
      have hf : e.2.2.2.2.2.1 = false := by
        cases h9 : e.2.2.2.2.2.1 with
        | false => rfl
        | true => rw [h9, if_pos rfl] at c; exact absurd c (by decide)
      refine kj_takeOver3 (J := J) (e := e) (su := su) hq hyJ _ ea (by rw [fy 160 3 (by omega)]; exact hA) hA2 hf ?_ ?_ j6 ?_ hy (fun z fz hz => p91 z (fm_tr fy fz) (KC_cg (fun k => ?_) hz))
      · unfold KAe at ae ⊢
        rw [fy 166 A (by omega), fy 167 A (by omega), fy 168 A (by omega), f9, fy 60 6 (by omega)]; exact ae
      · intro o ho
        rw [fy 60 6 (by omega)] at ho
        rw [fy 69 o (by omega)]; exact hs o ho
      · obtain ⟨g1, g2, g3⟩ := hj
        refine ⟨fun b eb hb => ?_, fun t ht => by rw [fy 174 t (by omega)]; exact g2 t ht, fun c o ho => KC_f (fun u hu => fy _ _ (by omega)) (g3 c o ho)⟩
        have lb := gt_lt hb
        obtain ⟨q1, q2⟩ := g1 b eb hb
        have b6 := j6 b eb hb
        refine ⟨KC_f (fun u hu => fy _ _ (by omega)) q1, ?_⟩
        rw [← q2]
        unfold KV
        rw [fy 173 (b * 6 + eb.1) (by omega)]
      · rw [hS k]
        exact ⟨fun z => z.elim Or.inl (fun z => Or.inr ⟨hf, z⟩), fun z => z.elim Or.inl (fun z => Or.inr z.2)⟩
  have out : ∀ y, fm (fun c k => c = 173 ∧ A * 6 ≤ k ∧ k < A * 6 + 6) x y → (∀ u, u < 6 → y.1 173 (A * 6 + u) = 0) → vp_in (x.1 166 A) 6 ∧ ((¬ ((y.1 174 (x.1 166 A).toNatClampNeg) = (-1 : Int32)) → vp_in (x.1 166 A) 6 ∧ KT G q (d + 2) zk_X4_join 0 [(0, vr 173), (1, vi a), (2, vr 173), (3, vi (y.1 174 (x.1 166 A).toNatClampNeg))] [] y (rv (fun x5 => KT G q (d + 3) zk_X4_setClock 77 [(0, vr 160), (1, vi a), (2, vi (x.1 166 A))] [] x5 (rv Fv)))) ∧ ((y.1 174 (x.1 166 A).toNatClampNeg) = (-1 : Int32) → KT G q (d + 2) zk_X4_join 0 [(0, vr 173), (1, vi a), (2, vr 175), (3, vi (x.1 166 A))] [] y (rv (fun x6 => KT G q (d + 3) zk_X4_setClock 77 [(0, vr 160), (1, vi a), (2, vi (x.1 166 A))] [] x6 (rv Fv))))) := by
    intro y fy hy0
    have hz : KC y 173 A J (fun _ => False) := ⟨fun u hu => by rw [hy0 u hu]; decide, rep_cg rep_0 (fun _ _ => Iff.rfl) (fun u hu => by unfold KV; rw [hy0 u hu]; rfl)⟩
    rw [eT, fy 174 e.1 (by omega)]
    refine ⟨vt, fun cn => ⟨vt, ?_⟩, fun cn => ?_⟩
    · rcases hj.2.1 e.1 e6 with z1 | ⟨l, l1, l2⟩
      · exact absurd z1.1 cn
      · obtain ⟨el, g1, -⟩ := id l2
        have ll := gt_lt g1
        have hl := (hj.1 l el g1).1
        refine kj_join3 hq kk_173 (kl_173 hq) kk_173 (kl_173 hq) _ _ ea l1 (by omega) (by omega) (by omega) (by omega) (fun z fz hz3 => p77 z (fm_tr fy fz) (KC_or hz (KC_f (fun u hu => fy _ _ (by omega)) hl) hz3) (fun k => ?_))
        rw [hA2, bf_kl l2 hst]
        exact ⟨fun z => z.elim (fun z => Or.inl (Or.inr z)) Or.inr, fun z => z.elim (fun z => Or.inl (z.resolve_left (fun q => q))) Or.inr⟩
    · rcases hj.2.1 e.1 e6 with z1 | ⟨l, l1, l2⟩
      · refine kj_join3 hq kk_173 (kl_173 hq) kk_175 (kl_175 hq) _ _ ea et (by omega) (by omega) (by omega) (by omega) (fun z fz hz3 => p77 z (fm_tr fy fz) (KC_or hz (KC_f (fun u hu => fy _ _ (by omega)) (hj.2.2 175 e.1 ⟨by omega, fun z => absurd z (by decide), fun _ => e6⟩)) hz3) (fun k => ?_))
        rw [hA2, bf_k0 z1.2]
        show _ ↔ ((False ∨ bfQ su J (qSt (Int32.ofNat e.1)) k) ∨ _)
        exact ⟨fun z => z.elim (fun z => Or.inl (Or.inr z)) Or.inr, fun z => z.elim (fun z => Or.inl (z.resolve_left (fun q => q))) Or.inr⟩
      · rw [cn, tm1] at l1; omega
  have loop : ∀ (n k : Nat) (i : Int32) (y : gd), i.toInt = k → 6 - k ≤ n → k ≤ 6 → fm (fun c k => c = 173 ∧ A * 6 ≤ k ∧ k < A * 6 + 6) x y → (∀ u, u < k → y.1 173 (A * 6 + u) = 0) → KT G q (d + 3) zk_X4_setClock 9 [(0, vr 160), (1, vi a), (2, vi (x.1 166 A)), (3, vi i)] [] y (rv Fv) := by
    intro n
    induction n with
    | zero =>
      intro k i y ei hn hk fy hy
      refine kg_X4_setClock_9 hq _ _ _ ⟨fun _ => out y fy (fun u hu => hy u (by omega)), fun c => ?_⟩
      exfalso; rw [t_le, k6] at c; omega
    | succ n ih =>
      intro k i y ei hn hk fy hy
      refine kg_X4_setClock_9 hq _ _ _ ⟨fun c => ?_, fun c => ?_⟩
      · rw [t_le, k6] at c
        exact out y fy (fun u hu => hy u (by omega))
      rw [t_le, k6] at c
      have e1 : (i + 1).toInt = ((k + 1 : Nat) : Int) := by rw [t_add (by show _ ≤ _ + (1 : Int); omega) (by show _ + (1 : Int) ≤ _; omega), ei]; rfl
      have x1 := cl_ix ea ei (by omega) (by omega)
      have c1 : (a * 6 + i).toNatClampNeg = A * 6 + k := by rw [t_cl, x1]; omega
      refine ⟨by rw [vp_in_iff, x1]; omega, fun z ez => ih (k + 1) _ z e1 (by omega) (by omega) ?_ (fun u hu => ?_)⟩
      · rw [ez, c1]; exact fm_si fy ⟨rfl, by omega, by omega⟩
      · rw [ez, c1, si_get]
        by_cases cu : u = k
        · rw [if_pos ⟨rfl, by omega⟩]
        · rw [if_neg (by omega)]; exact hy u (by omega)
  refine kg_X4_setClock_0 hq _ ⟨va, ?_⟩
  rw [eN]
  exact loop 6 0 _ x rfl (by omega) (by omega) (fm_rf _ _) (fun u hu => absurd hu (Nat.not_lt_zero _))
/-- the tables, when an act is handed on -/
theorem KT4_next {A : Nat} (hA2 : A = J.length) (h6 : e.1 < 6) (hT : KT4 su x J) (row : KC x 173 A (J ++ [e]) (fun k => k = A ∨ bf su (J ++ [e]) A k)) (hy : ∀ c o, inF c o → (qF su c o e ∧ ∀ u, u < 6 → (y.1 c (o * 6 + u)).toInt = max (x.1 c (o * 6 + u)).toInt (x.1 173 (A * 6 + u)).toInt) ∨ (¬ qF su c o e ∧ ∀ u, u < 6 → y.1 c (o * 6 + u) = x.1 c (o * 6 + u))) : KT4 su y (J ++ [e]) := by
  intro c o ho
  have h1 : KC x c o (J ++ [e]) (bfQ su J (qF su c o)) := KC_sn (hT c o ho) (fun z => by have := bfQ_lt z; omega) h6
  rcases hy c o ho with ⟨q1, q2⟩ | ⟨q1, q2⟩
  · refine KC_cg (fun k => ?_) (KC_or h1 row q2)
    rw [bfQ_sn, ← hA2]
    exact ⟨fun z => z.elim Or.inl (fun z => Or.inr ⟨q1, z⟩), fun z => z.elim Or.inl (fun z => Or.inr z.2)⟩
  · refine KC_cg (fun k => ?_) (KC_f q2 h1)
    rw [bfQ_sn]
    exact ⟨Or.inl, fun z => z.resolve_right (fun z => q1 z.1)⟩
theorem qF_5 {o : Nat} : qF su 175 o = qSt (Int32.ofNat o) := rfl
theorem qF_6 {o : Nat} : qF su 176 o = qLk (Int32.ofNat o) := rfl
theorem qF_7 {o : Nat} : qF su 177 o = qCe su (Int32.ofNat o) := rfl
theorem qF_8 {o : Nat} : qF su 178 o = qWk o := rfl
/-- which table an act belongs to -/
theorem qF_so {c o : Nat} (ho : inF c o) (h : qF su c o e) : e.2.2.2.2.2.1 = false ∧ ((c = 175 ∧ e.2.1 = 9 ∧ e.2.2.1 = Int32.ofNat o) ∨ (c = 176 ∧ (e.2.1 = 6 ∨ e.2.1 = 7) ∧ e.2.2.1 = Int32.ofNat o) ∨ (c = 177 ∧ (1 ≤ e.2.1 ∧ e.2.1 ≤ 4) ∧ e.2.2.1 = Int32.ofNat o ∧ su (Int32.ofNat o) = true) ∨ (c = 178 ∧ e.2.1 = 8 ∧ e.2.2.2.2.2.2 o = true)) := by
  rcases (show c = 175 ∨ c = 176 ∨ c = 177 ∨ c = 178 by omega) with rfl | rfl | rfl | rfl
  · rw [qF_5] at h; exact ⟨h.1, Or.inl ⟨rfl, h.2.1, h.2.2⟩⟩
  · rw [qF_6] at h; exact ⟨h.1, Or.inr (Or.inl ⟨rfl, h.2.1, h.2.2⟩)⟩
  · rw [qF_7] at h; exact ⟨h.1, Or.inr (Or.inr (Or.inl ⟨rfl, h.2.1, h.2.2.1, h.2.2.2⟩))⟩
  · rw [qF_8] at h; exact ⟨h.1, Or.inr (Or.inr (Or.inr ⟨rfl, h.2.1, h.2.2⟩))⟩
/-- one row joined, the others left -/
theorem hd_one {A C0 O : Nat} (hO : inF C0 O) (hq : qF su C0 O e) (h1 : ∀ c o, inF c o → qF su c o e → c = C0 ∧ o = O) (fy : fm (fun c k => c = C0 ∧ O * 6 ≤ k ∧ k < O * 6 + 6) x y) (hy : ∀ u, u < 6 → (y.1 C0 (O * 6 + u)).toInt = max (x.1 C0 (O * 6 + u)).toInt (x.1 173 (A * 6 + u)).toInt) : ∀ c o, inF c o → (qF su c o e ∧ ∀ u, u < 6 → (y.1 c (o * 6 + u)).toInt = max (x.1 c (o * 6 + u)).toInt (x.1 173 (A * 6 + u)).toInt) ∨ (¬ qF su c o e ∧ ∀ u, u < 6 → y.1 c (o * 6 + u) = x.1 c (o * 6 + u)) := by
  intro c o ho
  by_cases cq : qF su c o e
  · obtain ⟨rfl, rfl⟩ := h1 c o ho cq
    exact Or.inl ⟨cq, hy⟩
  · refine Or.inr ⟨cq, fun u hu => fy _ _ (fun z => cq ?_)⟩
    have z1 : c = C0 := z.1
    have z2 : o = O := by have := z.2.1; have := z.2.2; omega
    rw [z1, z2]; exact hq
theorem kj_handOn3 (hq : kV q) (hJ : JN x) (a w : Int32) {A : Nat} (ea : a.toInt = A) (hA : (A : Int) < (x.1 160 3).toInt) (hf : e.2.2.2.2.2.1 = false) (ae : KAe x A e) (hs : KSu su x) (hw : KDb w e.2.2.2.2.2.2) (h : ∀ y, fm (fun c k => 175 ≤ c ∧ c ≤ 178) x y → (∀ c o, inF c o → (qF su c o e ∧ ∀ u, u < 6 → (y.1 c (o * 6 + u)).toInt = max (x.1 c (o * 6 + u)).toInt (x.1 173 (A * 6 + u)).toInt) ∨ (¬ qF su c o e ∧ ∀ u, u < 6 → y.1 c (o * 6 + u) = x.1 c (o * 6 + u))) → Fv y) : KT G q (d + 2) zk_X4_handOn 0 [(0, vr 160), (1, vi a), (2, vi w)] [] x (rv Fv) := by
  have b := hJ.1
  have k6 : (6 : Int32).toInt = 6 := rfl
  have eN : a.toNatClampNeg = A := by rw [t_cl, ea]; rfl
  have va : vp_in a 400 := by rw [vp_in_iff]; omega
  obtain ⟨t6, s7, o8, f1, e6, e22, eob⟩ := ae
  rw [hf, if_neg (by decide)] at f1
  obtain ⟨j1, j2, j3⟩ := hJ.2.1 A hA
  obtain ⟨o1, o2, o3⟩ := j3 f1
  have s7i : (x.1 167 A).toInt = (e.2.1 : Nat) := by rw [s7]; exact Int32.toInt_ofNat_of_lt (by omega)
  have i7 : ∀ n : Nat, n < 1000 → (x.1 167 A = Int32.ofNat n ↔ e.2.1 = n) := fun n hn => by rw [s7]; exact of_inj (by omega) hn
  have eo : ∀ {m : Int}, (0 ≤ (x.1 168 A).toInt ∧ (x.1 168 A).toInt < m) → ∃ O : Nat, (x.1 168 A).toInt = (O : Nat) ∧ e.2.2.1 = Int32.ofNat O ∧ (x.1 168 A).toNatClampNeg = O := fun hh => by
    refine ⟨(x.1 168 A).toInt.toNat, by omega, ?_, rfl⟩
    rw [← o8]
    exact i32_of (by omega)
  have x0 : (∀ c o, inF c o → ¬ qF su c o e) → rv Fv none x := fun hn => rv_i (h x (fm_rf _ _) (fun c o ho => Or.inr ⟨hn c o ho, fun _ _ => rfl⟩))
  have loop : ∀ (n k : Nat) (i : Int32) (y : gd), e.2.1 = 8 → i.toInt = k → 6 - k ≤ n → k ≤ 6 → fm (fun c j => c = 178 ∧ j < k * 6) x y → (∀ o, o < k → (e.2.2.2.2.2.2 o = true ∧ ∀ u, u < 6 → (y.1 178 (o * 6 + u)).toInt = max (x.1 178 (o * 6 + u)).toInt (x.1 173 (A * 6 + u)).toInt) ∨ (¬ e.2.2.2.2.2.2 o = true ∧ ∀ u, u < 6 → y.1 178 (o * 6 + u) = x.1 178 (o * 6 + u))) → KT G q (d + 2) zk_X4_handOn 99 [(0, vr 160), (1, vi a), (2, vi w), (4, vi i)] [] y (rv Fv) := by
    intro n
    have out : ∀ (k : Nat) (y : gd), e.2.1 = 8 → 6 ≤ k → k ≤ 6 → fm (fun c j => c = 178 ∧ j < k * 6) x y → (∀ o, o < k → (e.2.2.2.2.2.2 o = true ∧ ∀ u, u < 6 → (y.1 178 (o * 6 + u)).toInt = max (x.1 178 (o * 6 + u)).toInt (x.1 173 (A * 6 + u)).toInt) ∨ (¬ e.2.2.2.2.2.2 o = true ∧ ∀ u, u < 6 → y.1 178 (o * 6 + u) = x.1 178 (o * 6 + u))) → rv Fv none y := by
      intro k y e8 k1 k2 fy hy
      refine rv_i (h y (fm_w fy (fun c j q => by omega)) (fun c o ho => ?_))
      by_cases c8 : c = 178
      · subst c8
        rw [qF_8]
        rcases hy o (by omega) with ⟨q1, q2⟩ | ⟨q1, q2⟩
        · exact Or.inl ⟨⟨hf, e8, q1⟩, q2⟩
        · exact Or.inr ⟨fun z => q1 z.2.2, q2⟩
      · refine Or.inr ⟨fun z => ?_, fun u hu => fy _ _ (by omega)⟩
        rcases (qF_so ho z).2 with g | g | g | g
        · have := g.2.1; omega
        · have := g.2.1; omega
        · have := g.2.1; omega
        · exact c8 g.1
    induction n with
    | zero =>
      intro k i y e8 ei hn hk fy hy
      refine kg_X4_handOn_99 hq _ _ _ ⟨fun _ => out k y e8 (by omega) hk fy hy, fun c => ?_⟩
      exfalso; rw [t_le, k6] at c; omega
    | succ n ih =>
      intro k i y e8 ei hn hk fy hy
      refine kg_X4_handOn_99 hq _ _ _ ⟨fun c => ?_, fun c => ?_⟩
      · rw [t_le, k6] at c
        exact out k y e8 (by omega) hk fy hy
      rw [t_le, k6] at c
      have e1 : (i + 1).toInt = ((k + 1 : Nat) : Int) := by rw [t_add (by show _ ≤ _ + (1 : Int); omega) (by show _ + (1 : Int) ≤ _; omega), ei]; rfl
      have bit := hw k (by omega)
      rw [← i32_of ei] at bit
      refine ⟨fun c1 => ih (k + 1) _ y e8 e1 (by omega) (by omega) (fm_w fy (fun c j q => by omega)) (fun o ho => ?_), fun c1 => kj_join3 hq kk_178 (kl_178 hq) kk_173 (kl_173 hq) _ _ ei ea (by omega) (by omega) (by omega) (by omega) (fun z fz hz => ih (k + 1) _ z e8 e1 (by omega) (by omega) (fm_tr (fm_w fy (fun c j q => by omega)) (fm_w fz (fun c j q => by omega))) (fun o ho => ?_))⟩
      · by_cases co : o = k
        · exact Or.inr ⟨fun z => c1 (bit.mpr (by rw [← co]; exact z)), fun u hu => fy _ _ (by omega)⟩
        · exact hy o (by omega)
      · by_cases co : o = k
        · subst co
          refine Or.inl ⟨bit.mp c1, fun u hu => ?_⟩
          rw [hz u hu, fy 178 (o * 6 + u) (by omega), fy 173 (A * 6 + u) (by omega)]
        · have f9 : ∀ u, u < 6 → z.1 178 (o * 6 + u) = y.1 178 (o * 6 + u) := fun u hu => fz _ _ (by omega)
          rcases hy o (by omega) with ⟨q1, q2⟩ | ⟨q1, q2⟩
          · exact Or.inl ⟨q1, fun u hu => by rw [f9 u hu]; exact q2 u hu⟩
          · exact Or.inr ⟨q1, fun u hu => by rw [f9 u hu]; exact q2 u hu⟩
  refine kg_X4_handOn_0 hq _ _ ⟨va, va, ?_⟩
  rw [eN]
  refine ⟨fun c => ?_, fun c => ?_, fun c => loop 6 0 _ x ((i7 8 (by omega)).mp c) rfl (by omega) (by omega) (fm_rf _ _) (fun o ho => absurd ho (Nat.not_lt_zero _)), fun c => ?_, fun c => ?_⟩
  · have c9 : e.2.1 = 9 := (i7 9 (by omega)).mp c
    have hh := o3 (Or.inl (by rw [c]; rfl))
    obtain ⟨O, O1, O2, O3⟩ := eo hh
    have iO : inF 175 O := ⟨by omega, fun z => absurd z (by decide), fun _ => by omega⟩
    refine kj_join3 hq kk_175 (kl_175 hq) kk_173 (kl_173 hq) _ _ O1 ea (by omega) (by omega) (by omega) (by omega) (fun z fz hz => rv_i (h z (fm_w fz (fun c k q => by omega)) (hd_one iO (by rw [qF_5]; exact ⟨hf, c9, O2⟩) (fun c o ho hq9 => ?_) fz hz)))
    rcases (qF_so ho hq9).2 with g | g | g | g
    · refine ⟨g.1, ?_⟩
      have := g.2.2
      rw [O2] at this
      exact ((of_inj (by omega) (by omega)).mp this).symm
    · have := g.2.1; omega
    · have := g.2.1; omega
    · have := g.2.1; omega
  · have c6 : e.2.1 = 6 ∨ e.2.1 = 7 := by
      rcases c with c | c
      · exact Or.inl ((i7 6 (by omega)).mp c)
      · exact Or.inr ((i7 7 (by omega)).mp c)
    have hh := o2 (Or.inl (by omega))
    obtain ⟨O, O1, O2, O3⟩ := eo hh
    have iO : inF 176 O := ⟨by omega, fun z => absurd z (by decide), fun _ => by omega⟩
    refine kj_join3 hq kk_176 (kl_176 hq) kk_173 (kl_173 hq) _ _ O1 ea (by omega) (by omega) (by omega) (by omega) (fun z fz hz => rv_i (h z (fm_w fz (fun c k q => by omega)) (hd_one iO (by rw [qF_6]; exact ⟨hf, c6, O2⟩) (fun c o ho hq9 => ?_) fz hz)))
    rcases (qF_so ho hq9).2 with g | g | g | g
    · have := g.2.1; omega
    · refine ⟨g.1, ?_⟩
      have := g.2.2
      rw [O2] at this
      exact ((of_inj (by omega) (by omega)).mp this).symm
    · have := g.2.1; omega
    · have := g.2.1; omega
  · have cc : 1 ≤ e.2.1 ∧ e.2.1 ≤ 4 := by
      rcases c with c | c | c | c
      · have := (i7 1 (by omega)).mp c; omega
      · have := (i7 2 (by omega)).mp c; omega
      · have := (i7 3 (by omega)).mp c; omega
      · have := (i7 4 (by omega)).mp c; omega
    have hh := o1 (by omega)
    obtain ⟨O, O1, O2, O3⟩ := eo hh
    have onc : O < (x.1 60 6).toInt.toNat := by
      have := eob (by omega) hf
      rw [← o8, O3] at this
      exact this
    have iO : inF 177 O := ⟨by omega, fun _ => by omega, fun z => absurd rfl z⟩
    have only : ∀ c o, inF c o → qF su c o e → c = 177 ∧ o = O := fun c o ho hq9 => by
      rcases (qF_so ho hq9).2 with g | g | g | g
      · have := g.2.1; omega
      · have := g.2.1; omega
      · refine ⟨g.1, ?_⟩
        have := g.2.2.1
        rw [O2] at this
        exact ((of_inj (by omega) (by omega)).mp this).symm
      · have := g.2.1; omega
    rw [O3]
    refine ⟨by rw [vp_in_iff]; omega, fun c0 => x0 (fun c o ho hq9 => ?_), fun c0 => kj_join3 hq kk_177 (kl_177 hq) kk_173 (kl_173 hq) _ _ O1 ea (by omega) (by omega) (by omega) (by omega) (fun z fz hz => rv_i (h z (fm_w fz (fun c k q => by omega)) (hd_one iO (by rw [qF_7]; exact ⟨hf, cc, O2, (hs O onc).mp c0⟩) only fz hz)))⟩
    obtain ⟨rfl, rfl⟩ := only c o ho hq9
    rw [qF_7] at hq9
    exact (hs _ onc).mpr hq9.2.2.2 c0
  · refine x0 (fun c9 o ho hq9 => ?_)
    have d1 : ¬ e.2.1 = 9 := fun z => c 9 (by decide) ((i7 9 (by omega)).mpr z)
    have d2 : ¬ e.2.1 = 6 := fun z => c 6 (by decide) ((i7 6 (by omega)).mpr z)
    have d3 : ¬ e.2.1 = 7 := fun z => c 7 (by decide) ((i7 7 (by omega)).mpr z)
    have d4 : ¬ e.2.1 = 8 := fun z => c 8 (by decide) ((i7 8 (by omega)).mpr z)
    have d5 : ¬ e.2.1 = 1 := fun z => c 1 (by decide) ((i7 1 (by omega)).mpr z)
    have d6 : ¬ e.2.1 = 2 := fun z => c 2 (by decide) ((i7 2 (by omega)).mpr z)
    have d7 : ¬ e.2.1 = 3 := fun z => c 3 (by decide) ((i7 3 (by omega)).mpr z)
    have d8 : ¬ e.2.1 = 4 := fun z => c 4 (by decide) ((i7 4 (by omega)).mpr z)
    rcases (qF_so ho hq9).2 with g | g | g | g
    · exact d1 g.2.1
    · exact g.2.1.elim d2 d3
    · have := g.2.1; omega
    · exact d4 g.2.1
end KCK
end
section
/-! the class: its races -/
/-- the acts' cells, all of them -/
def KAs (x : gd) (J : List gDe) : Prop := (x.1 160 3).toInt = (J.length : Nat) ∧ ∀ (a : Nat) (e : gDe), J[a]? = some e → KAe x a e
section KRC
variable {G : kG} {q : kP} {d : Nat} {x y z : gd} {F : Int32 → gd → Prop} {Fv : gd → Prop} {J : List gDe} {su : Int32 → Bool} {ea eb : gDe}
theorem KAe_F {a : Nat} {e : gDe} (h : KAe x a e) : x.1 171 a = 0 ↔ e.2.2.2.2.2.1 = false := by
  obtain ⟨-, -, -, f1, -, -, -⟩ := h
  rw [f1]
  by_cases c : e.2.2.2.2.2.1 = true
  · rw [if_pos c, c]; exact ⟨fun z => absurd z (by decide), fun z => nomatch z⟩
  · rw [if_neg c]; exact ⟨fun _ => Bool.eq_false_iff.mpr c, fun _ => rfl⟩
theorem kj_isBefore3 (hq : kV q) (hJ : JN x) (hj : KJc su x J) (hs : KAs x J) (a b : Int32) {A B : Nat} (ha : a.toInt = A) (hb : b.toInt = B) (gA : J[A]? = some ea) (gB : J[B]? = some eb) (h0 : ¬ bf su J B A → F 0 x) (h1 : bf su J B A → F 1 x) : KT G q d zk_X4_isBefore 0 [(0, vr 160), (1, vi a), (2, vi b)] [] x (ri F) := by
  have b0 := hJ.1
  have lA := gt_lt gA
  have lB := gt_lt gB
  have l0 := hs.1
  have eN : a.toNatClampNeg = A := by rw [t_cl, ha]; rfl
  have va : vp_in a 400 := by rw [vp_in_iff]; omega
  obtain ⟨t6, -, -, -, e6, -, -⟩ := hs.2 A ea gA
  have et : (x.1 166 A).toInt = (ea.1 : Nat) := by rw [t6]; exact Int32.toInt_ofNat_of_lt (by omega)
  refine kg_X4_isBefore_0 hq _ _ ⟨va, ?_⟩
  rw [eN]
  have x1 := cl_ix ha et (by omega) (by omega)
  have x2 := cl_ix hb et (by omega) (by omega)
  have c1 : (a * 6 + x.1 166 A).toNatClampNeg = A * 6 + ea.1 := by rw [t_cl, x1]; omega
  have c2 : (b * 6 + x.1 166 A).toNatClampNeg = B * 6 + ea.1 := by rw [t_cl, x2]; omega
  refine ⟨fun c => ri_i (h0 (fun z => ?_)), fun c => ⟨by rw [vp_in_iff, x2]; omega, by rw [vp_in_iff, x1]; omega, ?_⟩⟩
  · have := bf_lt z
    rw [t_eq, ha, hb] at c
    omega
  · rw [c1, c2]
    obtain ⟨kA, vA⟩ := hj.1 A ea gA
    obtain ⟨kB, -⟩ := hj.1 B eb gB
    have pA := kA.1 ea.1 e6
    have pB := kB.1 ea.1 e6
    have r := kB.2.2 A ea lA gA e6
    have ne : ¬ A = B := fun z => c (t_eq.mpr (by rw [ha, hb, z]))
    have vA : (x.1 173 (A * 6 + ea.1)).toInt.toNat = ct J A ea.1 + 1 := vA
    have r : (A = B ∨ bf su J B A) ↔ ct J A ea.1 < (x.1 173 (B * 6 + ea.1)).toInt.toNat := r
    refine ⟨fun cc => ri_i (h0 (fun z => ?_)), fun cc => ri_i (h1 ?_)⟩
    · have := r.mp (Or.inr z)
      rw [t_lt] at cc
      omega
    · rw [t_lt] at cc
      exact (r.mpr (by omega)).resolve_left ne
theorem kj_mayRace3 (hq : kV q) (hJ : JN x) (hu : KSu su x) (hs : KAs x J) (a : Int32) {A : Nat} (ha : a.toInt = A) (gA : J[A]? = some ea) (h0 : ¬ (ea.2.1 ≤ 4 ∧ ea.2.2.2.2.2.1 = false ∧ su ea.2.2.1 = false) → F 0 x) (h1 : (ea.2.1 ≤ 4 ∧ ea.2.2.2.2.2.1 = false ∧ su ea.2.2.1 = false) → F 1 x) : KT G q d zk_X4_mayRace 0 [(0, vr 160), (1, vi a)] [] x (ri F) := by
  have b := hJ.1
  have k4 : (4 : Int32).toInt = 4 := rfl
  have lA := gt_lt gA
  have l0 := hs.1
  have eN : a.toNatClampNeg = A := by rw [t_cl, ha]; rfl
  have va : vp_in a 400 := by rw [vp_in_iff]; omega
  have ae := hs.2 A ea gA
  have fE := KAe_F ae
  obtain ⟨-, s7, o8, -, -, e22, eob⟩ := ae
  have s7i : (x.1 167 A).toInt = (ea.2.1 : Nat) := by rw [s7]; exact Int32.toInt_ofNat_of_lt (by omega)
  obtain ⟨j1, j2, j3⟩ := hJ.2.1 A (by omega)
  refine kg_X4_mayRace_0 hq _ ⟨va, ?_⟩
  rw [eN, t_lt, k4, s7i]
  refine ⟨fun c => ri_i (h0 (fun z => by have := z.1; omega)), fun c4 => ⟨va, fun cf => ri_i (h0 (fun z => cf (fE.mpr z.2.1))), fun cf => ?_⟩⟩
  have ob := (j3 cf).1 (by omega)
  obtain ⟨O, O1⟩ : ∃ O : Nat, (x.1 168 A).toInt = (O : Nat) := ⟨(x.1 168 A).toInt.toNat, by omega⟩
  have cO : (x.1 168 A).toNatClampNeg = O := by rw [t_cl, O1]; rfl
  have eO : ea.2.2.1 = Int32.ofNat O := by rw [← o8]; exact i32_of O1
  have onc : O < (x.1 60 6).toInt.toNat := by
    have := eob (by omega) (fE.mp cf)
    rw [← o8, cO] at this
    exact this
  have sO := hu O onc
  rw [cO]
  refine ⟨va, by rw [vp_in_iff]; omega, fun c => ri_i (h0 (fun z => ?_)), fun c => ri_i (h1 ⟨by omega, fE.mp cf, ?_⟩)⟩
  · have := sO.mp c
    have z2 := z.2.2
    rw [eO, this] at z2
    exact nomatch z2
  · rw [eO]
    exact Bool.eq_false_iff.mpr (fun z => sO.mpr z c)
theorem kj_sortsRace3 (hq : kV q) (a b : Int32) {A B : Nat} (ha : a.toInt = A) (hb : b.toInt = B) (h0 : ¬ (¬ (A = 0 ∧ B = 0) ∧ ¬ (2 ≤ A ∧ 2 ≤ B)) → F 0 x) (h1 : (¬ (A = 0 ∧ B = 0) ∧ ¬ (2 ≤ A ∧ 2 ≤ B)) → F 1 x) : KT G q d zk_X4_sortsRace 0 [(0, vi a), (1, vi b)] [] x (ri F) := by
  have k2 : (2 : Int32).toInt = 2 := rfl
  have k0 : (0 : Int32).toInt = 0 := rfl
  have p29 : ∀ s u : Int32, (s = 0 ↔ ¬ (A = 0 ∧ B = 0)) → (u = 0 ↔ ¬ (2 ≤ A ∧ 2 ≤ B)) → KT G q d zk_X4_sortsRace 29 [(2, vi s)] [vi u] x (ri F) := fun s u hs hu => kg_X4_sortsRace_29 hq _ _ ⟨fun c => ri_i (h0 (fun z => c (hs.mpr z.1))), fun c => ⟨fun c2 => ri_i (h0 (fun z => c2 (hu.mpr z.2))), fun c2 => ri_i (h1 ⟨hs.mp c, hu.mp c2⟩)⟩⟩
  have p13 : ∀ s : Int32, (s = 0 ↔ ¬ (A = 0 ∧ B = 0)) → KT G q d zk_X4_sortsRace 13 [(0, vi a), (1, vi b)] [vi s] x (ri F) := by
    intro s hs
    refine kg_X4_sortsRace_13 hq _ _ _ ?_
    rw [t_lt, t_lt, k2, ha, hb]
    exact ⟨fun c => p29 _ _ hs ⟨fun _ => by omega, fun _ => rfl⟩, fun c => ⟨fun c2 => p29 _ _ hs ⟨fun _ => by omega, fun _ => rfl⟩, fun c2 => p29 _ _ hs ⟨fun z => absurd z (by decide), fun z => absurd (by omega) z⟩⟩⟩
  refine kg_X4_sortsRace_0 hq _ _ ?_
  rw [t_eq, t_eq, k0, ha, hb]
  exact ⟨fun c => p13 _ ⟨fun _ => by omega, fun _ => rfl⟩, fun c => ⟨fun c2 => p13 _ ⟨fun _ => by omega, fun _ => rfl⟩, fun c2 => p13 _ ⟨fun z => absurd z (by decide), fun z => absurd (by omega) z⟩⟩⟩
theorem kj_isRace3 (hq : kV q) (hJ : JN x) (hj : KJc su x J) (hu : KSu su x) (hs : KAs x J) (a b : Int32) {A B : Nat} (ha : a.toInt = A) (hb : b.toInt = B) (gA : J[A]? = some ea) (gB : J[B]? = some eb) (hB : eb.2.1 ≤ 4 ∧ eb.2.2.2.2.2.1 = false) (h0 : ¬ rc su J B A → F 0 x) (h1 : rc su J B A → F 1 x) : KT G q (d + 1) zk_X4_isRace 0 [(0, vr 160), (1, vi a), (2, vi b)] [] x (ri F) := by
  have b0 := hJ.1
  have lA := gt_lt gA
  have lB := gt_lt gB
  have l0 := hs.1
  have va : vp_in a 400 := by rw [vp_in_iff]; omega
  have vb : vp_in b 400 := by rw [vp_in_iff]; omega
  have cA : a.toNatClampNeg = A := by rw [t_cl, ha]; rfl
  have cB : b.toNatClampNeg = B := by rw [t_cl, hb]; rfl
  obtain ⟨a6, a7, a8, -, ae6, ae22, -⟩ := hs.2 A ea gA
  obtain ⟨b6, b7, b8, -, be6, be22, -⟩ := hs.2 B eb gB
  have ia : (x.1 167 A).toInt = (ea.2.1 : Nat) := by rw [a7]; exact Int32.toInt_ofNat_of_lt (by omega)
  have ib : (x.1 167 B).toInt = (eb.2.1 : Nat) := by rw [b7]; exact Int32.toInt_ofNat_of_lt (by omega)
  have key : rc su J B A ↔ rcE su eb ea ∧ ¬ bf su J B A := ⟨fun ⟨eb', ea', g1, g2, g3⟩ => by
    rw [gB] at g1
    rw [gA] at g2
    cases g1
    cases g2
    exact g3, fun g => ⟨eb, ea, gB, gA, g⟩⟩
  rw [key] at h0 h1
  refine kg_X4_isRace_0 hq _ _ ⟨va, vb, ?_⟩
  rw [cA, cB]
  refine ⟨fun c => ri_i (h0 (fun z => c (by rw [a8, b8]; exact z.1.1))), fun co => ⟨va, vb, fun c => ri_i (h0 (fun z => z.1.2.1 (by rw [a6, b6] at c; exact (of_inj (by omega) (by omega)).mp c))), fun ct9 => ?_⟩⟩
  refine kj_mayRace3 hq hJ hu hs a ha gA (fun c => ⟨fun _ => ri_i (h0 (fun z => c z.1.2.2.1)), fun z => absurd rfl z⟩) (fun cm => ⟨fun z => absurd z (by decide), fun _ => ⟨va, vb, ?_⟩⟩)
  refine kj_sortsRace3 hq _ _ ia ib (fun c => ⟨fun _ => ri_i (h0 (fun z => c ⟨z.1.2.2.2.2.1, z.1.2.2.2.2.2⟩)), fun z => absurd rfl z⟩) (fun cs => ⟨fun z => absurd z (by decide), fun _ => ?_⟩)
  refine kj_isBefore3 hq hJ hj hs a b ha hb gA gB (fun c => ⟨fun z => absurd rfl z, fun _ => ri_i (h1 ⟨⟨?_, ?_, cm, hB, cs.1, cs.2⟩, c⟩)⟩) (fun c => ⟨fun _ => ri_i (h0 (fun z => z.2 c)), fun z => absurd z (by decide)⟩)
  · rw [a8, b8] at co; exact co
  · intro z
    exact ct9 (by rw [a6, b6, z])
theorem kj_racesOf3 (hq : kV q) (hJ : JN x) (hj : KJc su x J) (hu : KSu su x) (hs : KAs x J) (b : Int32) {B : Nat} (hb : b.toInt = B) (gB : J[B]? = some eb) (h : ∀ r : Int32, r.toInt = (rn su J B B : Nat) → F r x) : KT G q (d + 2) zk_X4_racesOf 0 [(0, vr 160), (1, vi b)] [] x (ri F) := by
  have b0 := hJ.1
  have lB := gt_lt gB
  have l0 := hs.1
  have k1 : (1 : Int32).toInt = 1 := rfl
  have loop : (eb.2.1 ≤ 4 ∧ eb.2.2.2.2.2.1 = false) → ∀ (n k : Nat) (m i : Int32), i.toInt = k → B - k ≤ n → k ≤ B → m.toInt = (rn su J B k : Nat) → KT G q (d + 2) zk_X4_racesOf 14 [(0, vr 160), (1, vi b), (2, vi m), (3, vi i)] [] x (ri F) := by
    intro hB n
    induction n with
    | zero =>
      intro k m i ei hn hk hm
      refine kg_X4_racesOf_14 hq _ _ _ ⟨fun _ => ri_i (h _ (by rw [hm, show k = B by omega])), fun c => ?_⟩
      exfalso; rw [t_le] at c; omega
    | succ n ih =>
      intro k m i ei hn hk hm
      refine kg_X4_racesOf_14 hq _ _ _ ⟨fun c => ?_, fun c => ?_⟩
      · rw [t_le] at c
        exact ri_i (h _ (by rw [hm, show k = B by omega]))
      rw [t_le] at c
      have e1 : (i + 1).toInt = ((k + 1 : Nat) : Int) := by rw [t_add (by rw [k1]; omega) (by rw [k1]; omega), k1, ei]; rfl
      have rl := rn_le (su := su) (J := J) (b := B) (a := k)
      obtain ⟨ek, gk⟩ : ∃ ek, J[k]? = some ek := ⟨_, List.getElem?_eq_getElem (by omega)⟩
      refine kj_isRace3 hq hJ hj hu hs i b ei hb gk gB hB (fun nr => ⟨fun _ => ih (k + 1) _ _ e1 (by omega) (by omega) (by rw [rn_n nr]; exact hm), fun z => absurd rfl z⟩) (fun yr => ⟨fun z => absurd z (by decide), fun _ => ih (k + 1) _ _ e1 (by omega) (by omega) ?_⟩)
      rw [rn_y yr, t_add (by rw [k1]; omega) (by rw [k1]; omega), k1, hm]; rfl
  refine kg_X4_racesOf_0 hq _ (kj_mayRace3 hq hJ hu hs b hb gB (fun c => ⟨fun z => absurd rfl z, fun _ => ri_i (h 0 ?_)⟩) (fun c => ⟨fun _ => loop ⟨c.1, c.2.1⟩ B 0 _ _ rfl (by omega) (by omega) rfl, fun z => absurd z (by decide)⟩))
  have : ∀ k, rn su J B k = 0 := fun k => by
    induction k with
    | zero => rfl
    | succ k ih =>
      rw [rn_n, ih]
      rintro ⟨eb', ea', g1, g2, g3, -⟩
      rw [gB] at g1
      cases g1
      exact c ⟨g3.2.2.2.1.1, g3.2.2.2.1.2, by rw [← g3.1]; exact g3.2.2.1.2.2⟩
  rw [this]; rfl
/-- races up to each act -/
def KJr (su : Int32 → Bool) (x : gd) (J : List gDe) : Prop := ∀ b, b < J.length → (x.1 172 b).toInt = (ru su J (b + 1) : Nat)
theorem kj_races3 (hq : kV q) (hJ : JN x) (hs : KAs x J) (hr : KJr su x J) (h : ∀ r : Int32, r.toInt = (ru su J J.length : Nat) → F r x) : KT G q d zk_X4_races 0 [(0, vr 160)] [] x (ri F) := by
  have b0 := hJ.1
  have l0 := hs.1
  have k1 : (1 : Int32).toInt = 1 := rfl
  have k0 : (0 : Int32).toInt = 0 := rfl
  refine kg_X4_races_0 hq ⟨fun c => ?_, fun c => ri_i (h 0 ?_)⟩
  · rw [t_eq, k0] at c
    have e1 : (x.1 160 3 - 1).toInt = ((J.length - 1 : Nat) : Int) := by rw [t_sub (by rw [k1]; omega) (by rw [k1]; omega), k1]; omega
    refine ⟨by rw [vp_in_iff]; omega, ri_i (h _ ?_)⟩
    have c1 : (x.1 160 3 - 1).toNatClampNeg = J.length - 1 := by rw [t_cl, e1]; rfl
    rw [c1, hr _ (by omega), show J.length - 1 + 1 = J.length by omega]
  · rw [t_eq, k0] at c
    rw [show J.length = 0 by omega]; rfl
theorem kj_laterOfRace3 (hq : kV q) (hJ : JN x) (hs : KAs x J) (hr : KJr su x J) (i : Int32) {I : Nat} (ei : i.toInt = I) (hI : I < ru su J J.length) (h : ∀ (r : Int32) (B : Nat), r.toInt = B → B < J.length → ru su J B ≤ I → I < ru su J (B + 1) → F r x) : KT G q d zk_X4_laterOfRace 0 [(0, vr 160), (1, vi i)] [] x (ri F) := by
  have b0 := hJ.1
  have l0 := hs.1
  have k1 : (1 : Int32).toInt = 1 := rfl
  have loop : ∀ (n K : Nat) (k : Int32), k.toInt = K → J.length - K ≤ n → K ≤ J.length → ru su J K ≤ I → KT G q d zk_X4_laterOfRace 2 [(0, vr 160), (1, vi i), (2, vi k)] [] x (ri F) := by
    intro n
    induction n with
    | zero =>
      intro K k ek hn hK hu
      have : K = J.length := by omega
      rw [this] at hu
      omega
    | succ n ih =>
      intro K k ek hn hK hu
      refine kg_X4_laterOfRace_2 hq _ _ ⟨fun c => ?_, fun c => ?_⟩
      · rw [t_le] at c
        have : K = J.length := by omega
        rw [this] at hu
        omega
      rw [t_le] at c
      have e1 : (k + 1).toInt = ((K + 1 : Nat) : Int) := by rw [t_add (by rw [k1]; omega) (by rw [k1]; omega), k1, ek]; rfl
      have cK : k.toNatClampNeg = K := by rw [t_cl, ek]; rfl
      have r := hr K (by omega)
      refine ⟨by rw [vp_in_iff]; omega, ?_⟩
      rw [cK, t_le, r, ei]
      exact ⟨fun c2 => ih (K + 1) _ e1 (by omega) (by omega) (by omega), fun c2 => ri_i (h k K ek (by omega) hu (by omega))⟩
  exact kg_X4_laterOfRace_0 hq _ (loop J.length 0 _ rfl (by omega) (by omega) (Nat.zero_le _))
theorem kj_earlierOfRace3 (hq : kV q) (hJ : JN x) (hj : KJc su x J) (hu : KSu su x) (hs : KAs x J) (hr : KJr su x J) (i b : Int32) {I B : Nat} (ei : i.toInt = I) (eb' : b.toInt = B) (gB : J[B]? = some eb) (h1 : ru su J B ≤ I) (h2 : I < ru su J (B + 1)) (h : ∀ (r : Int32) (A : Nat), r.toInt = A → rP su J I B A → F r x) : KT G q (d + 2) zk_X4_earlierOfRace 0 [(0, vr 160), (1, vi i), (2, vi b)] [] x (ri F) := by
  have b0 := hJ.1
  have l0 := hs.1
  have lB := gt_lt gB
  have k1 : (1 : Int32).toInt = 1 := rfl
  have k0 : (0 : Int32).toInt = 0 := rfl
  have km : (-1 : Int32).toInt = -1 := rfl
  have ul := ru_le (su := su) (J := J) (b := B + 1) (by omega)
  rw [ru_s] at h2 ul
  obtain ⟨L, eL⟩ : ∃ L, L = I - ru su J B := ⟨_, rfl⟩
  obtain ⟨A, A1, A2, A3⟩ := rn_in (su := su) (J := J) (b := B) (a := B) (n := L) (by omega)
  have hB : eb.2.1 ≤ 4 ∧ eb.2.2.2.2.2.1 = false := by
    obtain ⟨eb', ea', g1, g2, g3, -⟩ := A2
    rw [gB] at g1
    cases g1
    exact g3.2.2.2.1
  have fin : rP su J I B A := ⟨A1, lB, A2, by omega⟩
  have loop : ∀ (n k : Nat) (m i : Int32), i.toInt = k → A - k ≤ n → k ≤ A → m.toInt = (L : Int) - (rn su J B k : Nat) → KT G q (d + 2) zk_X4_earlierOfRace 22 [(0, vr 160), (2, vi b), (3, vi m), (4, vi i)] [] x (ri F) := by
    intro n
    have at' : ∀ (m i : Int32), i.toInt = A → m.toInt = (L : Int) - (rn su J B A : Nat) → KT G q (d + 2) zk_X4_earlierOfRace 22 [(0, vr 160), (2, vi b), (3, vi m), (4, vi i)] [] x (ri F) := by
      intro m i ei9 hm
      refine kg_X4_earlierOfRace_22 hq _ _ _ ⟨fun c => ?_, fun c => ?_⟩
      · exfalso; rw [t_le] at c; omega
      · obtain ⟨eA, gA⟩ : ∃ eA, J[A]? = some eA := ⟨_, List.getElem?_eq_getElem (by omega)⟩
        refine kj_isRace3 hq hJ hj hu hs i b ei9 eb' gA gB hB (fun nr => absurd A2 nr) (fun yr => ⟨fun z => absurd z (by decide), fun _ => ⟨fun c2 => absurd (t_eq.mpr (by rw [k0]; omega)) c2, fun _ => ri_i (h i A ei9 fin)⟩⟩)
    induction n with
    | zero =>
      intro k m i ei9 hn hk hm
      have : k = A := by omega
      rw [this] at ei9 hm
      exact at' m i ei9 hm
    | succ n ih =>
      intro k m i ei9 hn hk hm
      by_cases ck : k = A
      · rw [ck] at ei9 hm
        exact at' m i ei9 hm
      refine kg_X4_earlierOfRace_22 hq _ _ _ ⟨fun c => ?_, fun c => ?_⟩
      · exfalso; rw [t_le] at c; omega
      have e1 : (i + 1).toInt = ((k + 1 : Nat) : Int) := by rw [t_add (by rw [k1]; omega) (by rw [k1]; omega), k1, ei9]; rfl
      obtain ⟨ek, gk⟩ : ∃ ek, J[k]? = some ek := ⟨_, List.getElem?_eq_getElem (by omega)⟩
      have up := rn_up (su := su) (J := J) (b := B) (a := k + 1) (a' := A) (by omega)
      refine kj_isRace3 hq hJ hj hu hs i b ei9 eb' gk gB hB (fun nr => ⟨fun _ => ih (k + 1) _ _ e1 (by omega) (by omega) (by rw [rn_n nr]; exact hm), fun z => absurd rfl z⟩) (fun yr => ⟨fun z => absurd z (by decide), fun _ => ⟨fun c2 => ih (k + 1) _ _ e1 (by omega) (by omega) ?_, fun c2 => ?_⟩⟩)
      · rw [rn_y yr] at up ⊢
        rw [t_add (by rw [km]; omega) (by rw [km]; omega), km, hm]
        omega
      · exfalso
        rw [rn_y yr] at up
        rw [t_eq, k0] at c2
        omega
  refine kg_X4_earlierOfRace_0 hq _ _ ⟨fun c => ?_, fun c => ?_⟩
  · rw [t_le, k0] at c
    exfalso
    omega
  · rw [t_le, k0] at c
    have e1 : (b - 1).toInt = ((B - 1 : Nat) : Int) := by rw [t_sub (by rw [k1]; omega) (by rw [k1]; omega), k1]; omega
    have c1 : (b - 1).toNatClampNeg = B - 1 := by rw [t_cl, e1]; rfl
    have r := hr (B - 1) (by omega)
    rw [show B - 1 + 1 = B by omega] at r
    refine ⟨by rw [vp_in_iff]; omega, loop A 0 _ _ rfl (by omega) (by omega) ?_⟩
    rw [c1, t_sub (by omega) (by omega), r, ei, eL]
    show (I : Int) - (ru su J B : Nat) = _ - ((0 : Nat) : Int)
    omega
/-- what stays -/
theorem KJc_f (f : ∀ c k, 173 ≤ c → c ≤ 178 → y.1 c k = x.1 c k) (h : KJc su x J) : KJc su y J := by
  obtain ⟨h1, h2, h3⟩ := h
  refine ⟨fun b eb hb => ?_, fun t ht => ?_, fun c o ho => KC_f (fun u hu => f c _ (by omega) (by omega)) (h3 c o ho)⟩
  · obtain ⟨q1, q2⟩ := h1 b eb hb
    refine ⟨KC_f (fun u hu => f 173 _ (by omega) (by omega)) q1, ?_⟩
    rw [← q2]
    unfold KV
    rw [f 173 _ (by omega) (by omega)]
  · rw [f 174 t (by omega) (by omega)]; exact h2 t ht
theorem KJr_f (f : ∀ k, y.1 172 k = x.1 172 k) (h : KJr su x J) : KJr su y J := fun b hb => by rw [f b]; exact h b hb
theorem KSu_f (f : ∀ c k, ((c = 60 ∧ k = 6) ∨ c = 69) → y.1 c k = x.1 c k) (h : KSu su x) : KSu su y := fun o ho => by
  rw [f 60 6 (by omega)] at ho
  rw [f 69 o (by omega)]; exact h o ho
/-- the clocks behind a new act -/
theorem KJc_new {w : gd} {A : Nat} {a : Int32} {e : gDe} (hA2 : A = J.length) (e6 : e.1 < 6) (hj : KJc su y J) (fz : fm (fun c k => (c = 173 ∧ A * 6 ≤ k ∧ k < A * 6 + 6) ∨ (c = 174 ∧ k = e.1)) y z) (hz : z.1 174 e.1 = a ∧ KC z 173 A (J ++ [e]) (fun k => k = A ∨ bf su (J ++ [e]) A k) ∧ KV z 173 A e.1 = ct J A e.1 + 1) (ha : a.toInt = A) (j6 : ∀ (k : Nat) (ek : gDe), J[k]? = some ek → ek.1 < 6) (h4 : KT4 su w (J ++ [e])) (fw : ∀ c k, (c = 173 ∨ c = 174) → w.1 c k = z.1 c k) : KJc su w (J ++ [e]) := by
  obtain ⟨h1, h2, -⟩ := hj
  obtain ⟨z1, z2, z3⟩ := hz
  refine ⟨fun b eb hb => ?_, fun t ht => ?_, h4⟩
  · rcases gt_cs hb with ⟨lb, g⟩ | ⟨lb, g⟩
    · obtain ⟨q1, q2⟩ := h1 b eb g
      have f : ∀ u, u < 6 → w.1 173 (b * 6 + u) = y.1 173 (b * 6 + u) := fun u hu => by rw [fw 173 _ (Or.inl rfl)]; exact fz _ _ (by omega)
      refine ⟨KC_cg (fun k => ?_) (KC_sn (KC_f f q1) (fun z => ?_) e6), ?_⟩
      · rw [bf_app lb]
      · rcases z with z | z
        · omega
        · have := bf_lt z; omega
      · rw [ct_app (by omega), ← q2]
        unfold KV
        rw [f _ (j6 b eb g)]
    · rw [g, lb, ← hA2]
      have f : ∀ u, u < 6 → w.1 173 (A * 6 + u) = z.1 173 (A * 6 + u) := fun u hu => fw 173 _ (Or.inl rfl)
      refine ⟨KC_f f z2, ?_⟩
      rw [hA2, ct_app (Nat.le_refl _), ← hA2, ← z3]
      unfold KV
      rw [f _ e6]
  · rw [fw 174 t (Or.inr rfl)]
    by_cases ct9 : t = e.1
    · rw [ct9, z1]
      exact Or.inr ⟨A, ha, by rw [hA2]; exact lsT_sn⟩
    · rw [fz 174 t (by omega)]
      rcases h2 t ht with ⟨q1, q2⟩ | ⟨l, q1, q2⟩
      · refine Or.inl ⟨q1, fun k ek hk => ?_⟩
        rcases gt_cs hk with ⟨-, g⟩ | ⟨-, g⟩
        · exact q2 k ek g
        · rw [g]; exact fun z => ct9 z.symm
      · exact Or.inr ⟨l, q1, lsT_o q2 (fun z => ct9 z.symm)⟩
end KRC
theorem KDs_ne {x : gd} {e : gDe} {dt : List gDe} (h : KDs x 120 (e :: dt)) : ¬ x.1 140 0 = -1 := fun z => by
  have h6 : ∀ n, n < 6 → ¬ Int32.ofNat n = -1 := by decide +kernel
  exact h6 _ h.2 (h.1.1.symm.trans z)
theorem KSu_CK {x : gd} {C : gCo} (hK : CK x C) (l24 : C.2.2.1.length ≤ 24) : KSu (suC C) x := by
  intro o ho
  have nC : (x.1 60 6).toInt = C.2.2.1.length := hK.2.2.1.1
  have hl : o < C.2.2.1.length := by omega
  have hg := List.getElem?_eq_getElem hl
  have e := (hK.2.2.1.2 o _ hg).2
  have co : (Int32.ofNat o).toNatClampNeg = o := by rw [t_cl, Int32.toInt_ofNat_of_lt (by omega)]; rfl
  unfold suC suM
  rw [co, hg, e]
  show ¬ (if (C.2.2.1[o]).2 = true then (1 : Int32) else 0) = 0 ↔ (C.2.2.1[o]).2 = true
  by_cases c : (C.2.2.1[o]).2 = true
  · rw [if_pos c]; exact ⟨fun _ => c, fun _ z => absurd z (by decide)⟩
  · rw [if_neg c]; exact ⟨fun z => absurd rfl z, fun z => absurd z c⟩
end
section
/-! the class: its run, with the machine's states that it goes through -/
/-- calls that were done -/
def pCa (e : gDe) : Bool := decide (Int32.ofNat e.2.1 = 13 ∧ e.2.2.2.2.2.1 = false)
def nCa (J : List gDe) : Nat := (J.filter pCa).length
/-- the row of acts in the class's journal -/
def KJo (x : gd) (J : List gDe) : Prop := (x.1 160 3).toInt = (J.length : Nat) ∧ (x.1 160 4).toInt = (nCa J : Nat) ∧ ∀ a e, J[a]? = some e → x.1 166 a = Int32.ofNat e.1 ∧ x.1 167 a = Int32.ofNat e.2.1 ∧ x.1 168 a = e.2.2.1 ∧ x.1 169 a = e.2.2.2.1 ∧ x.1 170 a = e.2.2.2.2.1 ∧ x.1 171 a = if e.2.2.2.2.2.1 = true then 1 else 0
/-- what note() adds to it -/
def KJs (x y : gd) : List gDe → Prop
  | [] => (∀ k, k = 3 ∨ k = 4 → y.1 160 k = x.1 160 k) ∧ ∀ c k, 166 ≤ c → c ≤ 171 → y.1 c k = x.1 c k
  | e :: _ => (y.1 160 3).toInt = (x.1 160 3).toInt + 1 ∧ (y.1 160 4 = if Int32.ofNat e.2.1 = 13 ∧ e.2.2.2.2.2.1 = false then x.1 160 4 + 1 else x.1 160 4) ∧ (∀ k, y.1 166 k = if k = (x.1 160 3).toInt.toNat then Int32.ofNat e.1 else x.1 166 k) ∧ (∀ k, y.1 167 k = if k = (x.1 160 3).toInt.toNat then Int32.ofNat e.2.1 else x.1 167 k) ∧ (∀ k, y.1 168 k = if k = (x.1 160 3).toInt.toNat then e.2.2.1 else x.1 168 k) ∧ (∀ k, y.1 169 k = if k = (x.1 160 3).toInt.toNat then e.2.2.2.1 else x.1 169 k) ∧ (∀ k, y.1 170 k = if k = (x.1 160 3).toInt.toNat then e.2.2.2.2.1 else x.1 170 k) ∧ (∀ k, y.1 171 k = if k = (x.1 160 3).toInt.toNat then (if e.2.2.2.2.2.1 = true then 1 else 0) else x.1 171 k)
section KJO
variable {x y : gd} {J ds : List gDe} {e : gDe} {a : Nat}
theorem nCa_1 : nCa (J ++ [e]) = nCa J + if Int32.ofNat e.2.1 = 13 ∧ e.2.2.2.2.2.1 = false then 1 else 0 := by
  unfold nCa
  rw [List.filter_append, List.length_append]
  by_cases c : Int32.ofNat e.2.1 = 13 ∧ e.2.2.2.2.2.1 = false
  · rw [if_pos c, List.filter_cons_of_pos (p := pCa) (a := e) (l := []) (decide_eq_true c)]; rfl
  · rw [if_neg c, List.filter_cons_of_neg (p := pCa) (a := e) (l := []) (fun z => c (of_decide_eq_true z))]; rfl
theorem KJo_f (f : ∀ c k, ((c = 160 ∧ (k = 3 ∨ k = 4)) ∨ (166 ≤ c ∧ c < 180)) → y.1 c k = x.1 c k) (h : KJo x J) : KJo y J := by
  refine ⟨by rw [f 160 3 (by omega)]; exact h.1, by rw [f 160 4 (by omega)]; exact h.2.1, fun a e ha => ?_⟩
  rw [f 166 a (by omega), f 167 a (by omega), f 168 a (by omega), f 169 a (by omega), f 170 a (by omega), f 171 a (by omega)]
  exact h.2.2 a e ha
theorem KJo_next (h : KJo x J) (b : J.length ≤ 400) (g : KJs x y ds) (hd : ds = [] ∨ ∃ e, ds = [e]) : KJo y (J ++ ds) := by
  obtain ⟨h0, h4, h1⟩ := h
  have k1 : (1 : Int32).toInt = 1 := rfl
  have hc : nCa J ≤ J.length := List.length_filter_le _ _
  rcases hd with e | ⟨e, he⟩
  · rw [e] at g ⊢
    rw [List.append_nil]
    exact ⟨by rw [g.1 3 (Or.inl rfl)]; exact h0, by rw [g.1 4 (Or.inr rfl)]; exact h4, fun a e ha => by rw [g.2 166 a (by omega) (by omega), g.2 167 a (by omega) (by omega), g.2 168 a (by omega) (by omega), g.2 169 a (by omega) (by omega), g.2 170 a (by omega) (by omega), g.2 171 a (by omega) (by omega)]; exact h1 a e ha⟩
  · rw [he] at g ⊢
    obtain ⟨g0, gc, g1, g2, g3, g4, g5, g6⟩ := g
    have hn : (x.1 160 3).toInt.toNat = J.length := by rw [h0]; rfl
    rw [hn] at g1 g2 g3 g4 g5 g6
    refine ⟨by rw [g0, h0, List.length_append]; rfl, ?_, fun a d ha => ?_⟩
    · rw [gc, nCa_1]
      by_cases c : Int32.ofNat e.2.1 = 13 ∧ e.2.2.2.2.2.1 = false
      · rw [if_pos c, if_pos c, t_add (by rw [k1, h4]; omega) (by rw [k1, h4]; omega), k1, h4]; omega
      · rw [if_neg c, if_neg c, h4]; omega
    rw [g1, g2, g3, g4, g5, g6]
    by_cases c : a < J.length
    · rw [List.getElem?_append_left c] at ha
      rw [if_neg (by omega), if_neg (by omega), if_neg (by omega), if_neg (by omega), if_neg (by omega), if_neg (by omega)]
      exact h1 a d ha
    · have hl := gt_lt ha
      rw [List.length_append] at hl
      have hl : a < J.length + 1 := hl
      have ea : a = J.length := by omega
      rw [ea, List.getElem?_append_right (Nat.le_refl _), Nat.sub_self] at ha
      have ed : e = d := Option.some.inj ha
      rw [if_pos ea, if_pos ea, if_pos ea, if_pos ea, if_pos ea, if_pos ea, ed]
      exact ⟨rfl, rfl, rfl, rfl, rfl, rfl⟩
end KJO
/-- the row of acts, its clocks, its races -/
def KJA (C : gCo) (x : gd) (J : List gDe) : Prop := KJo x J ∧ KJc (suC C) x J ∧ KJr (suC C) x J
section KJAs
variable {C : gCo} {M : gMa} {x y : gd} {J : List gDe}
theorem KJA_f (f : ∀ c k, ((c = 160 ∧ (k = 3 ∨ k = 4)) ∨ (166 ≤ c ∧ c < 180)) → y.1 c k = x.1 c k) (h : KJA C x J) : KJA C y J := ⟨KJo_f f h.1, KJc_f (fun c k h1 h2 => f c k (by omega)) h.2.1, KJr_f (fun k => f 172 k (by omega)) h.2.2⟩
theorem KAs_of (hK : CK x C) (l6 : C.2.1.length ≤ 6) (hj : KJo x J) (hw : WJ C M J) : KAs x J := by
  have nC : (x.1 60 6).toInt = C.2.2.1.length := hK.2.2.1.1
  refine ⟨hj.1, fun a e ha => ?_⟩
  obtain ⟨c0, c1, c2, -, -, c5⟩ := hj.2.2 a e ha
  obtain ⟨-, w2, -, -, -, -, w7⟩ := hw
  have := w2 a e ha
  exact ⟨c0, c1, c2, c5, by omega, this.2, fun h1 h2 => by have := w7 a e ha h1 h2; omega⟩
end KJAs
/-- the run stands behind n choices of the row c, by the way w -/
def KRun (C : gCo) (w n : Nat) (c : Nat → Nat) (x : gd) : Prop := RUN x ∧ (KMm x 120 C (runM C w c n) ∧ MIv C w (runM C w c n) ∧ kchL x 120 (chM C w (runM C w c n))) ∧ ((w = 0 ∨ w = 1) ∧ x.1 120 3 = Int32.ofNat w) ∧ (x.1 160 2).toInt = (n : Nat) ∧ (∀ k, k < n → c k < (chM C w (runM C w c k)).length ∧ (x.1 162 k).toInt = (c k : Nat)) ∧ KJA C x (joM C w c n)
section KRU
variable {G : kG} {q : kP} {d : Nat} {x x0 y z : gd} {F : Int32 → gd → Prop} {Fv : gd → Prop} {P : Option gv → gd → Prop} {X : String → gd → Prop} {C : gCo} {M : gMa} {w n : Nat} {c : Nat → Nat}
/-- what the machine holds, where all that it reaches stays -/
theorem KMm_ag {o : Nat} (hO : o = 120 ∨ o = 220) (hM : MM x o) (hK : CK x C) (f6 : y.1 60 6 = x.1 60 6) (f9 : y.1 60 9 = x.1 60 9) (e13 : y.1 60 13 = x.1 60 13) (ho : ∀ k, k = 7 ∨ k = 8 ∨ k = 9 → y.1 o k = x.1 o k) (hr : ∀ k, y.1 (o + 5) k = x.1 (o + 5) k) (g : KMm x o C M) : KMm y o C M :=
  KMm_fr hO hM hK f6 f9 e13 (ho 9 (by omega)) (fun j _ => hr j) (fun t k => by unfold rg pa; rw [ho 7 (by omega), ho 8 (by omega), hr]) g
theorem kchL_ag {o : Nat} {l : List gCh} (h13 : y.1 o 13 = x.1 o 13) (h : ∀ c k, (o + 11 ≤ c ∧ c ≤ o + 13) → y.1 c k = x.1 c k) (g : kchL x o l) : kchL y o l := by
  refine ⟨by rw [h13]; exact g.1, fun i ch hi => ?_⟩
  unfold kch
  rw [h (o + 11) i (by omega), h (o + 12) i (by omega), h (o + 13) i (by omega)]
  exact g.2 i ch hi
theorem kj_clear3 (hq : kV q) (h : ∀ y, JN y → fm (fun c k => (c = 160 ∧ 2 ≤ k ∧ k ≤ 4) ∨ (174 ≤ c ∧ c ≤ 178)) x y → y.1 160 2 = 0 → y.1 160 3 = 0 → y.1 160 4 = 0 → (∀ c k, c = 174 → k < 6 → y.1 c k = -1) → (∀ c k, 175 ≤ c → c ≤ 178 → k < (if c = 177 then 144 else 36) → y.1 c k = 0) → Fv y) : KT G q (d + 1) zk_X4_clear 0 [(0, vr 160)] [] x (rv Fv) := by
  refine kg_X4_clear_0 hq (fun x1 e1 x2 e2 x3 e3 x4 e4 x5 e5 x6 e6 x7 e7 z ez => rv_i (h z ?_ ?_ ?_ ?_ ?_ (fun c k hc hk => ?_) (fun c k h1 h2 hk => ?_)))
  · have z2 : z.1 160 2 = 0 := by rw [ez, e7, e6, e5, e4, e3, e2, e1]; (simp only [si_get, sfl_get, Nat.reduceEqDiff, eq_self, and_false, false_and, and_true, true_and, if_true, if_false, reduceIte, reduceCtorEq])
    have z3 : z.1 160 3 = 0 := by rw [ez, e7, e6, e5, e4, e3, e2, e1]; (simp only [si_get, sfl_get, Nat.reduceEqDiff, eq_self, and_false, false_and, and_true, true_and, if_true, if_false, reduceIte, reduceCtorEq])
    have k0 : (0 : Int32).toInt = 0 := rfl
    unfold JN
    rw [z2, z3, k0]
    refine ⟨by omega, fun a ha => by omega, fun t ht => Or.inl ?_⟩
    rw [ez, e7, e6, e5, sfl_get, if_neg (by omega), sfl_get, if_neg (by omega), sfl_get, if_neg (by omega), sfl_get, if_neg (by omega), e4, sfl_get, if_pos ⟨rfl, ht⟩]
  · rw [ez, e7, e6, e5, e4, e3, e2, e1]
    exact fm_fl (fm_fl (fm_fl (fm_fl (fm_fl (fm_si (fm_si (fm_si (fm_rf _ _) (by omega)) (by omega)) (by omega)) (fun k _ => by omega)) (fun k _ => by omega)) (fun k _ => by omega)) (fun k _ => by omega)) (fun k _ => by omega)
  · rw [ez, e7, e6, e5, e4, e3, e2, e1]; (simp only [si_get, sfl_get, Nat.reduceEqDiff, eq_self, and_false, false_and, and_true, true_and, if_true, if_false, reduceIte, reduceCtorEq])
  · rw [ez, e7, e6, e5, e4, e3, e2, e1]; (simp only [si_get, sfl_get, Nat.reduceEqDiff, eq_self, and_false, false_and, and_true, true_and, if_true, if_false, reduceIte, reduceCtorEq])
  · rw [ez, e7, e6, e5, e4, e3, e2, e1]; (simp only [si_get, sfl_get, Nat.reduceEqDiff, eq_self, and_false, false_and, and_true, true_and, if_true, if_false, reduceIte, reduceCtorEq])
  · rw [hc, ez, e7, e6, e5, sfl_get, if_neg (by omega), sfl_get, if_neg (by omega), sfl_get, if_neg (by omega), sfl_get, if_neg (by omega), e4, sfl_get, if_pos ⟨rfl, hk⟩]
  · rw [ez, e7, e6, e5]
    rcases (show c = 175 ∨ c = 176 ∨ c = 177 ∨ c = 178 by omega) with rfl | rfl | rfl | rfl
    · have hk : k < 36 := hk
      rw [sfl_get, if_neg (by omega), sfl_get, if_neg (by omega), sfl_get, if_neg (by omega), sfl_get, if_pos ⟨rfl, by omega⟩]
    · have hk : k < 36 := hk
      rw [sfl_get, if_neg (by omega), sfl_get, if_neg (by omega), sfl_get, if_pos ⟨rfl, by omega⟩]
    · have hk : k < 144 := hk
      rw [sfl_get, if_neg (by omega), sfl_get, if_pos ⟨rfl, by omega⟩]
    · have hk : k < 36 := hk
      rw [sfl_get, if_pos ⟨rfl, by omega⟩]
theorem kj_note3 (hq : kV q) (hJ : JN x) (hC : CO x) (hD : DE x 120) {ds : List gDe} (hE : KDs x 120 ds) {J : List gDe} {su : Int32 → Bool} (hA9 : KAs x J) (hj9 : KJc su x J) (hr9 : KJr su x J) (hs9 : KSu su x) (wf : ∀ e dt, ds = e :: dt → (e.2.1 < 22 ∧ (e.2.1 ≤ 4 → e.2.2.2.2.2.1 = false → e.2.2.1.toNatClampNeg < (x.1 60 6).toInt.toNat)) ∧ ∀ (s : Nat) (es : gDe) (k : Nat) (ek : gDe), J[s]? = some es → qSt (Int32.ofNat e.1) es → J[k]? = some ek → ek.1 = e.1 → s < k) (h400 : (x.1 160 2).toInt < 400) (i : Int32) (h : ∀ y, JN y → fm (fun c k => 160 ≤ c ∧ c < 180) x y → (y.1 160 2).toInt = (x.1 160 2).toInt + 1 → (∀ k, y.1 162 k = if k = (x.1 160 2).toInt.toNat then i else x.1 162 k) → KJs x y ds → (∀ e dt, ds = e :: dt → KJc su y (J ++ [e]) ∧ KJr su y (J ++ [e])) → (ds = [] → KJc su y J ∧ KJr su y J) → Fv y) : KT G q (d + 4) zk_X4_note 0 [(0, vr 160), (1, vi i), (2, vr 140)] [] x (rv Fv) := by
  have k400 : (400 : Int32).toInt = 400 := rfl
  have k1 : (1 : Int32).toInt = 1 := rfl
  have k0 : (0 : Int32).toInt = 0 := rfl
  obtain ⟨⟨b1, b2, b3⟩, hA, hT⟩ := id hJ
  obtain ⟨⟨c1, c2, c3, -⟩, -⟩ := hC
  refine kg_X4_note_0 hq _ ⟨fun c => ?_, fun c => absurd (t_lt.mpr (by rw [k400]; exact h400)) c⟩
  rw [t_lt, k400] at c
  refine ⟨by rw [vp_in_iff]; omega, fun x3 e3 x4 e4 => ?_⟩
  have q3 : x3.1 160 2 = x.1 160 2 := by rw [e3]; (simp only [si_get, sfl_get, Nat.reduceEqDiff, eq_self, and_false, false_and, and_true, true_and, if_true, if_false, reduceIte, reduceCtorEq])
  have f4 : fm (fun c k => c = 162 ∨ (c = 160 ∧ k = 2)) x x4 := by rw [e4, e3]; exact fm_si (fm_si (fm_rf _ _) (Or.inl rfl)) (Or.inr ⟨rfl, rfl⟩)
  have d4 : (x4.1 160 2).toInt = (x.1 160 2).toInt + 1 := by
    have : x4.1 160 2 = x.1 160 2 + 1 := by rw [e4, q3]; (simp only [si_get, sfl_get, Nat.reduceEqDiff, eq_self, and_false, false_and, and_true, true_and, if_true, if_false, reduceIte, reduceCtorEq])
    rw [this, t_add (by rw [k1]; omega) (by rw [k1]; omega), k1]
  have a4 : x4.1 160 3 = x.1 160 3 := f4 _ _ (by omega)
  have c4 : ∀ k, x4.1 162 k = if k = (x.1 160 2).toInt.toNat then i else x.1 162 k := fun k => by
    rw [e4, si_cell (by decide), e3, si_get]
    by_cases ck : k = (x.1 160 2).toInt.toNat
    · rw [if_pos ⟨rfl, ck⟩, if_pos ck]
    · rw [if_neg (fun z => ck z.2), if_neg ck]
  have hJ4 : JN x4 := by
    unfold JN
    rw [d4, a4]
    refine ⟨by omega, fun a ha => JA_eq (fun c k hc => f4 c k (by omega)) (hA a ha), fun t ht => ?_⟩
    rw [f4 174 t (by omega)]; exact hT t ht
  refine ⟨fun cn => ?_, fun cm => rv_i (h x4 hJ4 (fm_w f4 (fun c k q => by omega)) d4 c4 ?_ (fun e dt he => absurd cm (fun z => KDs_ne (by rw [← he]; exact hE) (by rw [← f4 140 0 (by omega)]; exact z))) (fun _ => ⟨KJc_f (fun c k h1 h2 => f4 c k (by omega)) hj9, KJr_f (fun k => f4 172 k (by omega)) hr9⟩))⟩
  rotate_left
  · rw [f4 140 0 (by omega)] at cm
    cases ds with
    | nil => exact ⟨fun k hk => f4 160 k (by omega), fun c k h1 h2 => f4 c k (by omega)⟩
    | cons e dt =>
      have h6 : ∀ n, n < 6 → ¬ Int32.ofNat n = -1 := by decide +kernel
      exact absurd (hE.1.1.symm.trans cm) (h6 _ hE.2)
  obtain ⟨e, dt, rfl⟩ : ∃ e dt, ds = e :: dt := by
    cases ds with
    | nil => exact absurd ((f4 140 0 (by omega)).trans hE) cn
    | cons e dt => exact ⟨e, dt, rfl⟩
  have hE0 : x.1 140 0 = Int32.ofNat e.1 := hE.1.1
  have hE1 : x.1 140 1 = Int32.ofNat e.2.1 := hE.1.2.1
  have hE2 : x.1 140 2 = e.2.2.1 := hE.1.2.2.1
  have hE3 : x.1 140 3 = e.2.2.2.1 := hE.1.2.2.2.1
  have hE4 : x.1 140 4 = e.2.2.2.2.1 := hE.1.2.2.2.2.1
  have hE5 : x.1 140 5 = if e.2.2.2.2.2.1 = true then 1 else 0 := hE.1.2.2.2.2.2.1
  have n9 : (x.1 160 3).toInt.toNat = J.length := by rw [hA9.1]; rfl
  have e6' : e.1 < 6 := hE.2
  have hE6 : KDb (x.1 140 6) e.2.2.2.2.2.2 := hE.1.2.2.2.2.2.2
  obtain ⟨⟨w22, wob⟩, wst⟩ := wf e dt rfl
  have j6 : ∀ (k : Nat) (ek : gDe), J[k]? = some ek → ek.1 < 6 := fun k ek hk => (hA9.2 k ek hk).2.2.2.2.1
  intro x6 e6
  have va : vp_in (x4.1 160 3) 400 := by rw [a4, vp_in_iff]; omega
  have eN : (x4.1 160 3).toNatClampNeg = (x.1 160 3).toInt.toNat := by rw [a4]; rfl
  refine ⟨va, fun x8 e8 => ⟨va, fun x10 e10 => ⟨va, fun x12 e12 => ⟨va, fun x14 e14 => ⟨va, fun x16 e16 => ⟨va, fun x18 e18 => ?_⟩⟩⟩⟩⟩⟩
  rw [eN] at e8 e10 e12 e14 e16 e18
  have f18 : fm (fun c k => c = 162 ∨ (c = 160 ∧ (k = 2 ∨ k = 3)) ∨ (166 ≤ c ∧ c ≤ 171 ∧ k = (x.1 160 3).toInt.toNat)) x x18 := by
    rw [e18, e16, e14, e12, e10, e8, e6]
    exact fm_si (fm_si (fm_si (fm_si (fm_si (fm_si (fm_si (fm_w f4 (fun c k q => by omega)) (by omega)) (by omega)) (by omega)) (by omega)) (by omega)) (by omega)) (by omega)
  have de : ∀ k, x18.1 140 k = x.1 140 k := fun k => f18 _ _ (by omega)
  have d6 : ∀ k, x6.1 140 k = x.1 140 k := fun k => by rw [e6, si_cell (by decide), f4 _ _ (by omega)]
  have d8 : ∀ k, x8.1 140 k = x.1 140 k := fun k => by rw [e8, si_cell (by decide)]; exact d6 k
  have d10 : ∀ k, x10.1 140 k = x.1 140 k := fun k => by rw [e10, si_cell (by decide)]; exact d8 k
  have d12 : ∀ k, x12.1 140 k = x.1 140 k := fun k => by rw [e12, si_cell (by decide)]; exact d10 k
  have d14 : ∀ k, x14.1 140 k = x.1 140 k := fun k => by rw [e14, si_cell (by decide)]; exact d12 k
  have d16 : ∀ k, x16.1 140 k = x.1 140 k := fun k => by rw [e16, si_cell (by decide)]; exact d14 k
  rw [d6] at e8
  rw [d8] at e10
  rw [d10] at e12
  rw [d12] at e14
  rw [d14] at e16
  rw [d16, nar_b hD.1] at e18
  have s3 : (x18.1 160 3).toInt = (x.1 160 3).toInt + 1 := by
    have : x18.1 160 3 = x.1 160 3 + 1 := by rw [e18, e16, e14, e12, e10, e8, e6, a4]; (simp only [si_get, sfl_get, Nat.reduceEqDiff, eq_self, and_false, false_and, and_true, true_and, if_true, if_false, reduceIte, reduceCtorEq])
    rw [this, t_add (by rw [k1]; omega) (by rw [k1]; omega), k1]
  have s2 : (x18.1 160 2).toInt = (x.1 160 2).toInt + 1 := by
    have : x18.1 160 2 = x4.1 160 2 := by rw [e18, e16, e14, e12, e10, e8, e6]; (simp only [si_get, sfl_get, Nat.reduceEqDiff, eq_self, and_false, false_and, and_true, true_and, if_true, if_false, reduceIte, reduceCtorEq])
    rw [this]; exact d4
  have g6 : x18.1 166 (x.1 160 3).toInt.toNat = x.1 140 0 := by rw [e18, e16, e14, e12, e10, e8]; (simp only [si_get, sfl_get, Nat.reduceEqDiff, eq_self, and_false, false_and, and_true, true_and, if_true, if_false, reduceIte, reduceCtorEq])
  have g7 : x18.1 167 (x.1 160 3).toInt.toNat = x.1 140 1 := by rw [e18, e16, e14, e12, e10]; (simp only [si_get, sfl_get, Nat.reduceEqDiff, eq_self, and_false, false_and, and_true, true_and, if_true, if_false, reduceIte, reduceCtorEq])
  have g8 : x18.1 168 (x.1 160 3).toInt.toNat = x.1 140 2 := by rw [e18, e16, e14, e12]; (simp only [si_get, sfl_get, Nat.reduceEqDiff, eq_self, and_false, false_and, and_true, true_and, if_true, if_false, reduceIte, reduceCtorEq])
  have g9 : x18.1 169 (x.1 160 3).toInt.toNat = x.1 140 3 := by rw [e18, e16, e14]; (simp only [si_get, sfl_get, Nat.reduceEqDiff, eq_self, and_false, false_and, and_true, true_and, if_true, if_false, reduceIte, reduceCtorEq])
  have g10 : x18.1 170 (x.1 160 3).toInt.toNat = x.1 140 4 := by rw [e18, e16]; (simp only [si_get, sfl_get, Nat.reduceEqDiff, eq_self, and_false, false_and, and_true, true_and, if_true, if_false, reduceIte, reduceCtorEq])
  have g11 : x18.1 171 (x.1 160 3).toInt.toNat = x.1 140 5 := by rw [e18]; (simp only [si_get, sfl_get, Nat.reduceEqDiff, eq_self, and_false, false_and, and_true, true_and, if_true, if_false, reduceIte, reduceCtorEq])
  have hde : (0 ≤ (x.1 140 0).toInt ∧ (x.1 140 0).toInt < (x.1 60 10).toInt) ∧ 0 ≤ (x.1 140 1).toInt ∧ (x.1 140 5 = 0 → ((x.1 140 1).toInt ≤ 4 → 0 ≤ (x.1 140 2).toInt ∧ (x.1 140 2).toInt < (x.1 60 6).toInt) ∧ ((5 ≤ (x.1 140 1).toInt ∧ (x.1 140 1).toInt ≤ 8) ∨ (x.1 140 1).toInt = 15 → 0 ≤ (x.1 140 2).toInt ∧ (x.1 140 2).toInt < (x.1 60 9).toInt) ∧ ((x.1 140 1).toInt = 9 ∨ (x.1 140 1).toInt = 10 → 0 ≤ (x.1 140 2).toInt ∧ (x.1 140 2).toInt < (x.1 60 10).toInt)) := by
    rcases hD.2 with e | e
    · rw [f4 140 0 (by omega)] at cn; exact absurd e cn
    · exact e
  have hJ18 : JN x18 := by
    unfold JN
    rw [s3, s2]
    refine ⟨by omega, fun a ha => ?_, fun t ht => ?_⟩
    · by_cases h9 : a = (x.1 160 3).toInt.toNat
      · rw [h9]
        unfold JA
        rw [g6, g7, g8, g11]
        obtain ⟨p1, p2, p3⟩ := hde
        refine ⟨by omega, p2, fun c5 => ?_⟩
        obtain ⟨r1, r2, r3⟩ := p3 c5
        exact ⟨fun z => by have := r1 z; omega, fun z => by have := r2 z; omega, fun z => by have := r3 z; omega⟩
      · have := hA a (by omega)
        unfold JA at this ⊢
        rw [f18 166 a (by omega), f18 167 a (by omega), f18 168 a (by omega), f18 171 a (by omega)]; exact this
    · rw [f18 174 t (by omega)]
      rcases hT t ht with e | e
      · exact Or.inl e
      · exact Or.inr ⟨e.1, by omega⟩
  have ea : (x4.1 160 3).toInt = (((x.1 160 3).toInt.toNat : Nat) : Int) := by rw [a4]; omega
  have n18 : x18.1 160 2 = x4.1 160 2 ∧ ∀ k, x18.1 162 k = x4.1 162 k := ⟨by rw [e18, e16, e14, e12, e10, e8, e6]; (simp only [si_get, sfl_get, Nat.reduceEqDiff, eq_self, and_false, false_and, and_true, true_and, if_true, if_false, reduceIte, reduceCtorEq]), fun k => by rw [e18, si_cell (by decide), e16, si_cell (by decide), e14, si_cell (by decide), e12, si_cell (by decide), e10, si_cell (by decide), e8, si_cell (by decide), e6, si_cell (by decide)]⟩
  obtain ⟨V, eV⟩ : ∃ V : Int32, V = if Int32.ofNat e.2.1 = 13 ∧ e.2.2.2.2.2.1 = false then x.1 160 4 + 1 else x.1 160 4 := ⟨_, rfl⟩
  have kfin : ∀ z : gd, (z.1 160 3).toInt = (x.1 160 3).toInt + 1 → (z.1 160 4 = V ∧ ∀ c k, 166 ≤ c → c ≤ 171 → z.1 c k = x18.1 c k) → KJs x z (e :: dt) := by
    intro z z3 hz
    obtain ⟨z4, zc⟩ := hz
    refine ⟨z3, by rw [z4, eV], fun k => ?_, fun k => ?_, fun k => ?_, fun k => ?_, fun k => ?_, fun k => ?_⟩ <;> rw [zc _ k (by omega) (by omega)] <;> by_cases ck : k = (x.1 160 3).toInt.toNat
    · rw [if_pos ck, ck, g6, hE0]
    · rw [if_neg ck]; exact f18 166 k (by omega)
    · rw [if_pos ck, ck, g7, hE1]
    · rw [if_neg ck]; exact f18 167 k (by omega)
    · rw [if_pos ck, ck, g8, hE2]
    · rw [if_neg ck]; exact f18 168 k (by omega)
    · rw [if_pos ck, ck, g9, hE3]
    · rw [if_neg ck]; exact f18 169 k (by omega)
    · rw [if_pos ck, ck, g10, hE4]
    · rw [if_neg ck]; exact f18 170 k (by omega)
    · rw [if_pos ck, ck, g11, hE5]
    · rw [if_neg ck]; exact f18 171 k (by omega)
  have ea9 : (x4.1 160 3).toInt = (J.length : Nat) := by rw [ea, n9]
  have kae : ∀ y : gd, fm (fun c k => 160 ≤ c ∧ c < 180) x y → (∀ c k, 166 ≤ c → c ≤ 171 → y.1 c k = x18.1 c k) → KAe y J.length e := fun y fy hy => by
    unfold KAe
    rw [hy 166 _ (by omega) (by omega), hy 167 _ (by omega) (by omega), hy 168 _ (by omega) (by omega), hy 171 _ (by omega) (by omega), fy 60 6 (by omega), ← n9, g6, g7, g8, g11]
    exact ⟨hE0, hE1, hE2, hE5, e6', w22, wob⟩
  have kas : ∀ y : gd, fm (fun c k => 160 ≤ c ∧ c < 180) x y → (y.1 160 3).toInt = (x.1 160 3).toInt + 1 → (∀ c k, 166 ≤ c → c ≤ 171 → y.1 c k = x18.1 c k) → KAs y (J ++ [e]) := fun y fy y3 hy => by
    refine ⟨by rw [y3, hA9.1, List.length_append]; rfl, fun a ek ha => ?_⟩
    rcases gt_cs ha with ⟨la, g⟩ | ⟨la, g⟩
    · have := hA9.2 a ek g
      unfold KAe at this ⊢
      rw [hy 166 _ (by omega) (by omega), hy 167 _ (by omega) (by omega), hy 168 _ (by omega) (by omega), hy 171 _ (by omega) (by omega), fy 60 6 (by omega), f18 166 a (by omega), f18 167 a (by omega), f18 168 a (by omega), f18 171 a (by omega)]
      exact this
    · rw [la, g]; exact kae y fy hy
  have ksu : ∀ y : gd, fm (fun c k => 160 ≤ c ∧ c < 180) x y → KSu su y := fun y fy => KSu_f (fun c k hc => fy c k (by omega)) hs9
  have rl := ru_le (su := su) (J := J) (b := J.length) (by omega)
  have p183 : ∀ (y : gd) (s : Int32), JN y → fm (fun c k => 160 ≤ c ∧ c < 180) x y → (y.1 160 3).toInt = (x.1 160 3).toInt + 1 → (y.1 160 2 = x4.1 160 2 ∧ ∀ k, y.1 162 k = x4.1 162 k) → (y.1 160 4 = V ∧ ∀ c k, 166 ≤ c → c ≤ 171 → y.1 c k = x18.1 c k) → (KJc su y (J ++ [e]) ∧ (∀ b, b < J.length → y.1 172 b = x.1 172 b)) → s.toInt = (ru su J J.length : Nat) → KT G q (d + 4) zk_X4_note 183 [(0, vr 160), (3, vi (x4.1 160 3))] [vi s, vi (x4.1 160 3), vr 172] y (rv Fv) := by
    intro y s hy fy y3 hn hw hk hs3
    obtain ⟨hk1, hk2⟩ := hk
    have rr := rn_le (su := su) (J := J ++ [e]) (b := J.length) (a := J.length)
    refine kg_X4_note_183 hq _ _ _ (kj_racesOf3 hq hy hk1 (ksu y fy) (kas y fy y3 hw.2) _ ea9 gt_sn (fun r er => ⟨va, fun z ez => rv_i (h z (JN_ck (by rw [ez]; exact fm_si (fm_rf _ _) (Or.inl rfl)) hy) (by rw [ez]; exact fm_si fy (by omega)) (by rw [ez, si_cell (by decide), hn.1]; exact d4) (fun k => by rw [ez, si_cell (by decide), hn.2]; exact c4 k) (kfin z (by rw [ez, si_cell (by decide)]; exact y3) ⟨by rw [ez, si_cell (by decide)]; exact hw.1, fun c k h1 h2 => by rw [ez, si_cell (by omega)]; exact hw.2 c k h1 h2⟩) (fun e' dt' he => ?_) (fun he => nomatch he))⟩))
    cases he
    have ez9 : ∀ k, z.1 172 k = if k = J.length then s + r else y.1 172 k := fun k => by
      rw [ez, eN, n9, si_get]
      by_cases ck : k = J.length
      · rw [if_pos ⟨rfl, ck⟩, if_pos ck]
      · rw [if_neg (fun q => ck q.2), if_neg ck]
    refine ⟨KJc_f (fun c k h1 h2 => by rw [ez, si_cell (by omega)]) hk1, fun b hb => ?_⟩
    rw [List.length_append] at hb
    have hb : b < J.length + 1 := hb
    rw [ez9]
    by_cases cb : b = J.length
    · rw [if_pos cb, cb, ru_s, ru_app (Nat.le_refl _), t_add (by omega) (by omega), hs3, er]
      push_cast
      rfl
    · rw [if_neg cb, hk2 b (by omega), ru_app (by omega)]
      exact hr9 b (by omega)
  have p162 : ∀ y, JN y → fm (fun c k => 160 ≤ c ∧ c < 180) x y → (y.1 160 3).toInt = (x.1 160 3).toInt + 1 → (y.1 160 2 = x4.1 160 2 ∧ ∀ k, y.1 162 k = x4.1 162 k) → (y.1 160 4 = V ∧ ∀ c k, 166 ≤ c → c ≤ 171 → y.1 c k = x18.1 c k) → (KJc su y (J ++ [e]) ∧ (∀ b, b < J.length → y.1 172 b = x.1 172 b)) → KT G q (d + 4) zk_X4_note 162 [(0, vr 160), (3, vi (x4.1 160 3))] [] y (rv Fv) := by
    intro y hy fy y3 hn hw hk
    refine kg_X4_note_162 hq _ ⟨fun c9 => ⟨?_, p183 y _ hy fy y3 hn hw hk ?_⟩, fun c9 => p183 y _ hy fy y3 hn hw hk ?_⟩
    rotate_left
    · rw [t_eq, k0, ea9] at c9
      have e1 : (x4.1 160 3 - 1).toInt = ((J.length - 1 : Nat) : Int) := by rw [t_sub (by rw [k1]; omega) (by rw [k1]; omega), k1]; omega
      have c1 : (x4.1 160 3 - 1).toNatClampNeg = J.length - 1 := by rw [t_cl, e1]; rfl
      have r9 := hr9 (J.length - 1) (by omega)
      rw [show J.length - 1 + 1 = J.length by omega] at r9
      rw [c1, hk.2 _ (by omega)]
      exact r9
    · rw [t_eq, k0, ea9] at c9
      rw [show J.length = 0 by omega]; rfl
    rw [t_eq, k0, a4] at c9
    rw [a4, vp_in_iff, t_sub (by rw [k1]; omega) (by rw [k1]; omega), k1]; omega
  have p141 : ∀ y, JN y → fm (fun c k => c = 160 ∧ k = 4) x18 y → y.1 160 4 = V → KT G q (d + 4) zk_X4_note 141 [(0, vr 160), (2, vr 140), (3, vi (x4.1 160 3))] [] y (rv Fv) := by
    intro y hy fy hV
    have fxy : fm (fun c k => 160 ≤ c ∧ c < 180) x y := fm_tr (fm_w f18 (fun c k q => by omega)) (fm_w fy (fun c k q => by omega))
    have y3 : (y.1 160 3).toInt = (x.1 160 3).toInt + 1 := by rw [fy 160 3 (by omega)]; exact s3
    have hyc : ∀ c k, 166 ≤ c → c ≤ 171 → y.1 c k = x18.1 c k := fun c k h1 h2 => fy c k (by omega)
    have ae9 := kae y fxy hyc
    have hjy : KJc su y J := KJc_f (fun c k h1 h2 => by rw [fy c k (by omega)]; exact f18 c k (by omega)) hj9
    have hy172 : ∀ k, y.1 172 k = x.1 172 k := fun k => by rw [fy 172 k (by omega)]; exact f18 172 k (by omega)
    refine kg_X4_note_141 hq _ (kj_setClock3 (J := J) (e := e) (su := su) hq hy _ ea9 (by omega) rfl ae9 (ksu y fxy) j6 hjy wst (fun z hz fz hz3 => ?_))
    have hn : z.1 160 2 = x4.1 160 2 ∧ ∀ k, z.1 162 k = x4.1 162 k := ⟨by rw [fz 160 2 (by omega), fy 160 2 (by omega)]; exact n18.1, fun k => by rw [fz 162 k (by omega), fy 162 k (by omega)]; exact n18.2 k⟩
    have z3 : (z.1 160 3).toInt = (x.1 160 3).toInt + 1 := by rw [fz 160 3 (by omega)]; exact y3
    have fxz := fm_tr fxy (fm_w fz (fun c k q => by show 160 ≤ c ∧ c < 180; omega))
    have hwz : z.1 160 4 = V ∧ ∀ c k, 166 ≤ c → c ≤ 171 → z.1 c k = x18.1 c k := ⟨by rw [fz 160 4 (by omega)]; exact hV, fun c k h1 h2 => by rw [fz c k (by omega)]; exact fy c k (by omega)⟩
    have hT : KT4 su z J := fun c o ho => KC_f (fun u hu => fz _ _ (by omega)) (hjy.2.2 c o ho)
    have fd : ∀ {v : Int32}, v = x.1 140 5 → (v = 0 ↔ e.2.2.2.2.2.1 = false) := fun {v} hv => by
      rw [hv, hE5]
      by_cases c : e.2.2.2.2.2.1 = true
      · rw [if_pos c, c]; exact ⟨fun z => absurd z (by decide), fun z => by cases z⟩
      · rw [if_neg c]; exact ⟨fun _ => Bool.eq_false_iff.mpr c, fun _ => rfl⟩
    have z5 : z.1 140 5 = x.1 140 5 := by rw [fz 140 5 (by omega), fy 140 5 (by omega), de]
    have z6 : z.1 140 6 = x.1 140 6 := by rw [fz 140 6 (by omega), fy 140 6 (by omega), de]
    refine ⟨fun c5 => p162 z hz fxz z3 hn hwz ⟨KJc_new rfl e6' hjy fz hz3 ea9 j6 (KT4_next rfl e6' hT hz3.2.1 (fun c o ho => Or.inr ⟨fun q => c5 ((fd z5).mpr (qF_so ho q).1), fun _ _ => rfl⟩)) (fun _ _ _ => rfl), fun b hb => by rw [fz 172 b (by omega)]; exact hy172 b⟩, fun c5 => ?_⟩
    refine kj_handOn3 (e := e) (su := su) hq hz _ _ ea9 (by omega) ((fd z5).mp c5) (kae z fxz hwz.2) (ksu z fxz) (by rw [z6]; exact hE6) (fun w fw hw9 => p162 w (JN_ck (fm_w fw (fun c k q => by unfold sCk; omega)) hz) (fm_tr fxz (fm_w fw (fun c k q => by omega))) (by rw [fw 160 3 (by omega)]; exact z3) ⟨by rw [fw 160 2 (by omega)]; exact hn.1, fun k => by rw [fw 162 k (by omega)]; exact hn.2 k⟩ ⟨by rw [fw 160 4 (by omega)]; exact hwz.1, fun c k h1 h2 => by rw [fw c k (by omega)]; exact hwz.2 c k h1 h2⟩ ⟨KJc_new rfl e6' hjy fz hz3 ea9 j6 (KT4_next rfl e6' hT hz3.2.1 hw9) (fun c k hc => fw c k (by omega)), fun b hb => by rw [fw 172 b (by omega), fz 172 b (by omega)]; exact hy172 b⟩)
  have v18 : x18.1 160 4 = x.1 160 4 := f18 160 4 (by omega)
  have i13 : x18.1 140 1 = 13 ↔ Int32.ofNat e.2.1 = 13 := by rw [de, hE1]
  have i5 : x18.1 140 5 = 0 ↔ e.2.2.2.2.2.1 = false := by
    rw [de, hE5]
    by_cases c : e.2.2.2.2.2.1 = true
    · rw [if_pos c, c]; exact ⟨fun z => absurd z (by decide), fun z => by cases z⟩
    · rw [if_neg c]; exact ⟨fun _ => Bool.eq_false_iff.mpr c, fun _ => rfl⟩
  refine ⟨fun c1 => p141 x18 hJ18 (fm_rf _ _) (by rw [v18, eV, if_neg (fun z => c1 (i13.mpr z.1))]), fun c1 => ⟨fun c5 => p141 x18 hJ18 (fm_rf _ _) (by rw [v18, eV, if_neg (fun z => c5 (i5.mpr z.2))]), fun c5 x21 e21 => p141 x21 ?_ (by rw [e21]; exact fm_si (fm_rf _ _) ⟨rfl, rfl⟩) (by rw [e21, si_get, if_pos ⟨rfl, rfl⟩, v18, eV, if_pos ⟨i13.mp c1, i5.mp c5⟩])⟩⟩
  have f21 : fm (fun c k => c = 160 ∧ k = 4) x18 x21 := by rw [e21]; exact fm_si (fm_rf _ _) ⟨rfl, rfl⟩
  unfold JN at hJ18 ⊢
  rw [f21 160 3 (by omega), f21 160 2 (by omega)]
  refine ⟨hJ18.1, fun a ha => JA_eq (fun c k hc => f21 c k (by omega)) (hJ18.2.1 a ha), fun t ht => ?_⟩
  rw [f21 174 t (by omega)]; exact hJ18.2.2 t ht
theorem KJc_0 {su : Int32 → Bool} (h1 : ∀ t, t < 6 → x.1 174 t = -1) (h2 : ∀ c k, 175 ≤ c → c ≤ 178 → k < (if c = 177 then 144 else 36) → x.1 c k = 0) : KJc su x [] := by
  refine ⟨fun b eb hb => (jo_nil hb).elim, fun t ht => Or.inl ⟨h1 t ht, fun k ek hk => (jo_nil hk).elim⟩, fun c o ho => ?_⟩
  have z : ∀ u, u < 6 → x.1 c (o * 6 + u) = 0 := fun u hu => h2 c _ (by omega) (by omega) (by
    by_cases c7 : c = 177
    · rw [if_pos c7]; have := ho.2.1 c7; omega
    · rw [if_neg c7]; have := ho.2.2 c7; omega)
  refine ⟨fun u hu => by rw [z u hu]; decide, rep_cg rep_0 (fun a ha => absurd ha (Nat.not_lt_zero _)) (fun u hu => ?_)⟩
  show 0 = (x.1 c (o * 6 + u)).toInt.toNat
  rw [z u hu]; rfl
theorem kh_beginRun (hq : kV q) (hC : CO x) (hK : CK x C) (gc : GC C) (w01 : w = 0 ∨ w = 1) (c : Nat → Nat) (h : ∀ y, fm sRn x y → KRun C w 0 c y → (∀ k, y.1 162 k = x.1 162 k) → y.1 0 10 = 1 → Fv y) : KT G q (d + 6) zk_X11_beginRun 0 [(0, vr 0), (1, vi (Int32.ofNat w))] [] x (rv Fv) := by
  have hm : kiM q 120 := Or.inl rfl
  have hw : Int32.ofNat w = 0 ∨ Int32.ofNat w = 1 := by
    rcases w01 with e | e <;> rw [e]
    · exact Or.inl rfl
    · exact Or.inr rfl
  refine kg_X11_beginRun_0 hq _ (kh_reset hq hm hC hK gc.1 _ hw (fun x1 hM f1 h3 g1 => ?_))
  have hK1 : CK x1 C := CK_f hK (fun c k hc => f1 c k (by unfold sRe; omega))
  refine kh_listChoices hq hm hM hK1 gc.1 g1 WLk_fs h3 w01 (fun x2 f2 hL hch => kj_clear3 hq (fun x3 hJ f3 z2 z3 z4 z5 z6 x4 e4 => rv_i ?_))
  have hM2 := MM_Li (Or.inl rfl) f2 hM
  have g : ∀ c k, c < 160 → ¬ (c = 0) → x4.1 c k = x2.1 c k := fun c k a b => by rw [e4, si_get, if_neg (by omega)]; exact f3 c k (by omega)
  have hc : agC x2 x4 := fun c k hc => g c k (by omega) (by omega)
  have fA : fm sRn x x4 := by
    refine fm_tr (fm_tr (fm_tr (fm_w f1 (fun c k q => by unfold sRe at q; unfold sRn; omega)) (fm_w f2 (fun c k q => by unfold sLi at q; unfold sRn; omega))) (fm_w f3 (fun c k q => by unfold sRn; omega))) ?_
    rw [e4]; exact fm_si (fm_rf _ _) (by unfold sRn; omega)
  refine h x4 fA ⟨⟨MM_ag hc (fun k a b => g _ _ (by omega) (by omega)) (fun k hk => g _ _ (by omega) (by omega)) hM2, LSk_ag hM2 hc (fun k a b => g _ _ (by omega) (by omega)) (fun k hk => g _ _ (by omega) (by omega)) (g _ _ (by omega) (by omega)) (fun k => g _ _ (by omega) (by omega)) (fun k => g _ _ (by omega) (by omega)) hL, ?_⟩, ⟨?_, MIv_fs, ?_⟩, ⟨w01, ?_⟩, ?_, fun k hk => absurd hk (Nat.not_lt_zero _), ⟨by rw [e4, si_get, if_neg (by omega), z3]; rfl, by rw [e4, si_get, if_neg (by omega), z4]; rfl, fun a e h => (jo_nil h).elim⟩, KJc_0 (fun t ht => by rw [e4, si_get, if_neg (by omega)]; exact z5 174 t (by omega) (by omega)) (fun c k h1 h2 h3 => by rw [e4, si_get, if_neg (by omega)]; exact z6 c k h1 h2 h3), fun b hb => absurd hb (Nat.not_lt_zero _)⟩ (fun k => ?_) (by rw [e4, si_get, if_pos ⟨rfl, rfl⟩])
  · refine JN_o (fun c k a b => ?_) hJ
    rw [e4, si_get, if_neg (by omega)]
  · exact KMm_ag (Or.inl rfl) hM2 (CK_Li (Or.inl rfl) hK1 f2) (g _ _ (by omega) (by omega)) (g _ _ (by omega) (by omega)) (g _ _ (by omega) (by omega)) (fun k hk => g _ _ (by omega) (by omega)) (fun k => g _ _ (by omega) (by omega)) (KMm_Li (Or.inl rfl) hM hK1 f2 g1)
  · exact kchL_ag (g _ _ (by omega) (by omega)) (fun c k hc => g c k (by omega) (by omega)) hch
  · rw [g _ _ (by omega) (by omega), f2 _ _ (by unfold sLi; omega)]; exact h3
  · rw [e4, si_get, if_neg (by omega), z2]; rfl
  · rw [e4, si_get, if_neg (by omega), f3 _ _ (by omega), f2 _ _ (by unfold sLi; omega), f1 _ _ (by unfold sRe; omega)]
/-- a choice is done -/
theorem kh_doChoice (hq : kV q) (hK : CK x C) (gc : GC C) (hX3 : NX3 C) (hR : KRun C w n c x) (i : Int32) {I : Nat} (ei : i.toInt = (I : Nat)) (hi : I < (chM C w (runM C w c n)).length) (n400 : n < 400) (eI : c n = I) (h : ∀ y, fm sRn x y → KRun C w (n + 1) c y → (∀ k, ¬ k = n → y.1 162 k = x.1 162 k) → y.1 0 10 = x.1 0 10 → Fv y) : KT G q (d + 6) zk_X11_doChoice 0 [(0, vr 0), (1, vi i)] [] x (rv Fv) := by
  have hm : kiM q 120 := Or.inl rfl
  have k0 : (0 : Int32).toInt = 0 := rfl
  have k400 : (400 : Int32).toInt = 400 := rfl
  obtain ⟨⟨hM, hL, hJ⟩, ⟨gM, hI, hch⟩, ⟨w01, wy⟩, hn, hcs, hjo⟩ := hR
  have wj := WJ_run gc (fun k hk => (hcs k hk).1)
  obtain ⟨hN, hX, l6, hJU⟩ := id gc
  have e13 : (x.1 120 13).toInt = ((chM C w (runM C w c n)).length : Nat) := hch.1
  obtain ⟨ch, hci⟩ : ∃ ch, (chM C w (runM C w c n))[I]? = some ch := ⟨_, List.getElem?_eq_getElem hi⟩
  have cm := List.mem_of_getElem? hci
  have l84 := hL.1.2
  refine kg_X11_doChoice_0 hq i ⟨fun cc => ?_, fun c0 => ⟨fun cc => ?_, fun c1 => ⟨fun _ => ?_, fun cc => ?_⟩⟩⟩
  · exfalso; rw [t_lt, k0] at cc; omega
  · exfalso; rw [t_le] at cc; omega
  · refine kh_perform hq hm hM hK hN hX hX3 gM (WMw_WM hI.1) wy w01 i ei (by omega) (hch.2 I ch hci) (ch_in cm) (fun x4 hM4 f4 hD4 g4 hE4 => ?_)
    have hK4 := CK_M (Or.inl rfl) hK f4
    have hJ4 : JN x4 := JN_o (fun c k a b => f4 c k (by unfold sMk; omega)) hJ
    have n4 : x4.1 160 2 = x.1 160 2 := f4 _ _ (by unfold sMk; omega)
    obtain ⟨J4, eJ4⟩ : ∃ J4, J4 = joM C w c n := ⟨_, rfl⟩
    have hj4 : KJA C x4 J4 := by rw [eJ4]; exact KJA_f (fun c k hc => f4 c k (by unfold sMk; omega)) hjo
    rw [← eJ4] at wj
    have wj' := WJ_do gc wj cm
    refine kj_note3 hq hJ4 hM4.1 hD4 hE4 (KAs_of hK4 l6 hj4.1 wj) hj4.2.1 hj4.2.2 (KSu_CK hK4 hJU.2.2) (fun e dt he => ?_) (by rw [n4, hn]; omega) i (fun x5 hJ5 f5 d5 c5 j5 k5 k5' => ?_)
    · have nC : (x4.1 60 6).toInt = C.2.2.1.length := hK4.2.2.1.1
      have hd : (J4 ++ deM C w (runM C w c n) ch)[J4.length]? = some e := by rw [he, List.getElem?_append_right (Nat.le_refl _), Nat.sub_self]; rfl
      obtain ⟨-, w2, -, -, -, -, w7⟩ := wj'
      have e6 : e.1 < 6 := by have := (w2 _ e hd).1; omega
      refine ⟨⟨(w2 _ e hd).2, fun h1 h2 => by have := w7 _ e hd h1 h2; omega⟩, fun s es k ek g1 g2 g3 g4 => ?_⟩
      exact (wj.2.2.2.1 e.1 e6 s es g1 g2).1 k ek g3 g4
    rw [n4, hn] at d5
    rw [n4, hn] at c5
    have hc5 : agC x4 x5 := fun c k hc => f5 c k (by omega)
    have hM5 : MM x5 120 := MM_ag hc5 (fun k a b => f5 _ _ (by omega)) (fun k hk => f5 _ _ (by omega)) hM4
    have hK5 : CK x5 C := CK_f hK4 (fun c k hc => f5 c k (by omega))
    have g5 : KMm x5 120 C (doM C w (runM C w c n) ch) := KMm_ag (Or.inl rfl) hM4 hK4 (f5 _ _ (by omega)) (f5 _ _ (by omega)) (f5 _ _ (by omega)) (fun k hk => f5 _ _ (by omega)) (fun k => f5 _ _ (by omega)) g4
    have hI' := MIv_do hX l6 hI cm
    have rE : runM C w c (n + 1) = doM C w (runM C w c n) ch := runM_s (by rw [eI]; exact hci)
    have w5 : x5.1 120 3 = Int32.ofNat w := by rw [f5 _ _ (by omega), f4 _ _ (by unfold sMk; omega)]; exact wy
    refine kh_listChoices hq hm hM5 hK5 hN g5 hI'.2 w5 w01 (fun x6 f6 hL6 hch6 => rv_i (h x6 ?_ ⟨⟨MM_Li (Or.inl rfl) f6 hM5, hL6, JN_o (fun c k a b => f6 c k (by unfold sLi; omega)) hJ5⟩, ⟨?_, ?_, ?_⟩, ⟨w01, ?_⟩, ?_, fun k hk => ?_, ?_⟩ (fun k hk => ?_) (by rw [f6 _ _ (by unfold sLi; omega), f5 _ _ (by omega), f4 _ _ (by unfold sMk; omega)])))
    · exact fm_tr (fm_tr (fm_w f4 (fun c k q => by unfold sMk at q; unfold sRn; omega)) (fm_w f5 (fun c k q => by unfold sRn; omega))) (fm_w f6 (fun c k q => by unfold sLi at q; unfold sRn; omega))
    · rw [rE]; exact KMm_Li (Or.inl rfl) hM5 hK5 f6 g5
    · rw [rE]; exact hI'
    · rw [rE]; exact hch6
    · rw [f6 _ _ (by unfold sLi; omega)]; exact w5
    · rw [f6 _ _ (by unfold sLi; omega), d5]; push_cast; rfl
    · have e6 : x6.1 162 k = if k = n then i else x.1 162 k := by
        rw [f6 _ _ (by unfold sLi; omega), c5 k, f4 _ _ (by unfold sMk; omega)]
        rfl
      rw [e6]
      by_cases ck : k = n
      · rw [if_pos ck, ck, eI]; exact ⟨hi, ei⟩
      · rw [if_neg ck]; exact hcs k (by omega)
    · have b4 : (joM C w c n).length ≤ 400 := by have h1 := hJ.1; have h2 := hjo.1.1; omega
      have dd : deM C w (runM C w c n) ch = [] ∨ ∃ e, deM C w (runM C w c n) ch = [e] := by
        by_cases c9 : ch.2.1 = none
        · exact Or.inr ⟨_, deM_a c9⟩
        · exact Or.inl (deM_l c9)
      rw [← eJ4] at b4
      have jn := KJo_next hj4.1 b4 j5 dd
      rw [joM_s (by rw [eI]; exact hci), ← eJ4]
      refine KJA_f (fun c k hc => f6 c k (by unfold sLi; omega)) ⟨jn, ?_⟩
      rcases dd with dd | ⟨e, dd⟩
      · rw [dd, List.append_nil]; exact k5' dd
      · rw [dd]; exact k5 e [] dd
    · rw [f6 _ _ (by unfold sLi; omega), c5 k, f4 _ _ (by unfold sMk; omega)]
      show (if k = n then i else x.1 162 k) = _
      rw [if_neg hk]
  · exfalso; exact cc (t_lt.mpr (by rw [k400, hn]; omega))
end KRU
end
section
/-! the machine: what lies beyond the program stays as it was, so that states are the same where all that there is is the same -/
/-- locks that there are -/
def LkN (C : gCo) (nl : Nat) : Prop := ∀ (j : Nat) (st : gNs), C.1[j]? = some st → 5 ≤ st.1 → st.1 ≤ 8 → st.2.2.2.2.1.toNatClampNeg < nl
def tCn (C : gCo) (h : gTq) : Prop := (∀ p, ¬ ((h.1 = 1 ∨ h.1 = 3) ∧ p < (stN C h.2.2.1).2.1.length) → h.2.2.2.2.2.2.2 p = 0) ∧ (¬ h.2.2.2.1 = 0 → (stN C h.2.2.1).1 = 7) ∧ ∀ q ∈ h.2.2.2.2.2.2.1, q.1 < C.2.2.1.length
def MCn (C : gCo) (nl : Nat) (M : gMa) : Prop := (∀ c, C.2.2.1.length ≤ c → M.1 c = 0) ∧ (∀ l, nl ≤ l → M.2.1 l = (0, 0)) ∧ ∀ t, (C.2.1.length ≤ t → M.2.2 t = th0) ∧ tCn C (M.2.2 t)
section PCN
variable {C : gCo} {M : gMa} {w t s c i nl : Nat} {e f : Int32} {wk : Option Nat} {ch : gCh} {h : gTq} {lv : Nat → Int32}
theorem tCn_0 : tCn C th0 := ⟨fun _ _ => rfl, fun z => absurd rfl z, fun q hq => by cases hq⟩
theorem tCn_N (hw : h.2.2.2.1 = 0) (hl : ∀ q ∈ h.2.2.2.2.2.2.1, q.1 < C.2.2.1.length) : tCn C (thN C t h s lv) := by
  refine ⟨fun p hp => ?_, fun z => absurd hw z, hl⟩
  show kvL C _ _ _ p = 0
  unfold kvL
  exact if_neg hp
theorem MCn_fs : MCn C nl (fsM C) := by
  refine ⟨fun c hc => ?_, fun _ _ => rfl, fun t => ?_⟩
  · show (match C.2.2.1[c]? with | some q => q.1 | none => 0) = 0
    rw [List.getElem?_eq_none_iff.mpr hc]
  · by_cases q : t < C.2.1.length
    · obtain ⟨q9, hq⟩ : ∃ q9, C.2.1[t]? = some q9 := ⟨_, List.getElem?_eq_getElem q⟩
      refine ⟨fun z => absurd q (by omega), ?_⟩
      by_cases c1 : q9.2 = 1
      · rw [fs_idle hq c1]; exact tCn_0
      · rw [fs_go hq c1]; exact tCn_N rfl (fun q hq => by cases hq)
    · rw [fs_out (by omega)]; exact ⟨fun _ => rfl, tCn_0⟩
theorem stN_in (h : 1 ≤ (stN C s).1) : ∃ st, C.1[s]? = some st ∧ stN C s = st := by
  unfold stN at h ⊢
  cases hs : C.1[s]? with
  | none => rw [hs] at h; exact absurd h (by decide)
  | some st => exact ⟨st, rfl, rfl⟩
theorem MCn_up (q : MCn C nl M) (ht : t < C.2.1.length) (hh : tCn C h) : MCn C nl (upT M t h) := by
  refine ⟨q.1, q.2.1, fun t' => ?_⟩
  show (_ → upf M.2.2 t h t' = th0) ∧ tCn C (upf M.2.2 t h t')
  by_cases z : t' = t
  · rw [z, upf_eq]; exact ⟨fun z => absurd ht (by omega), hh⟩
  · rw [upf_ne z]; exact q.2.2 t'
theorem MCn_C (q : MCn C nl M) {v : Int32} (hc : c < C.2.2.1.length) : MCn C nl (upC M c v) := by
  refine ⟨fun c' hc' => ?_, q.2⟩
  show upf M.1 c v c' = 0
  rw [upf_ne (by omega)]; exact q.1 c' hc'
theorem MCn_L (q : MCn C nl M) {v : Nat × Int32} (hc : c < nl ∨ v = (0, 0)) : MCn C nl (upL M c v) := by
  refine ⟨q.1, fun l hl => ?_, q.2.2⟩
  show upf M.2.1 c v l = (0, 0)
  by_cases z : l = c
  · rw [z, upf_eq]
    rcases hc with hc | hc
    · omega
    · exact hc
  · rw [upf_ne z]; exact q.2.1 l hl
theorem MCn_ef (hN : NC C) (hX : NXc C) (hL : LkN C nl) (lb : (C.2.2.1.length : Int) < 2147483648) (q : MCn C nl M) (qw : WMw w M) (t6 : t < 6) (tl : t < C.2.1.length) (l6 : C.2.1.length ≤ 6) (h1 : (M.2.2 t).1 = 1) (L0 : (lkM C w M t).1 = 0) : MCn C nl (efM C w M t (soM C (M.2.2 t)) (lkM C w M t).2.1.toNatClampNeg (lkM C w M t).2.2.1 (lkM C w M t).2.2.2 wk).1 := by
  obtain ⟨s, es⟩ : ∃ s, s = soM C (M.2.2 t) := ⟨_, rfl⟩
  obtain ⟨c, ec⟩ : ∃ c, c = (lkM C w M t).2.1.toNatClampNeg := ⟨_, rfl⟩
  have qt := (q.2.2 t).2
  rw [← es, ← ec]
  by_cases c15 : s = 15
  · rw [c15, ef_15]
    have w0 : ¬ (M.2.2 t).2.2.2.1 = 0 := fun z => by
      have so : soM C (M.2.2 t) = (stN C (M.2.2 t).2.2.1).1 := by unfold soM; rw [if_pos z]
      obtain ⟨st, hst, e⟩ := stN_in (C := C) (s := (M.2.2 t).2.2.1) (by omega)
      exact (hN.1 _ st hst).1.2 (by rw [← e]; omega)
    have o7 := qt.2.1 w0
    obtain ⟨st, hst, e⟩ := stN_in (C := C) (s := (M.2.2 t).2.2.1) (by omega)
    have cE : c = st.2.2.2.2.1.toNatClampNeg := by rw [ec, lkM_15 w0, e]
    refine MCn_up (MCn_L q (Or.inl (by rw [cE]; rw [e] at o7; exact hL _ st hst (by omega) (by omega)))) tl ?_
    exact ⟨qt.1, fun z => absurd rfl z, qt.2.2⟩
  · obtain ⟨w0, so⟩ := so_0 (C := C) (M := M) (t := t) (by rw [← es]; exact c15)
    have cl : 1 ≤ s → s ≤ 4 → c < C.2.2.1.length := fun a b => by
      obtain ⟨st, hst, e⟩ := stN_in (C := C) (s := (M.2.2 t).2.2.1) (by omega)
      obtain ⟨p1, p2⟩ := lkM_pl w0 L0
      rw [ec, p2]
      exact lkI_in hX hst (by rw [← e]; omega) lb p1
    have lk : 5 ≤ s → s ≤ 8 → c < nl := fun a b => by
      obtain ⟨st, hst, e⟩ := stN_in (C := C) (s := (M.2.2 t).2.2.1) (by omega)
      have cE : c = st.2.2.2.2.1.toNatClampNeg := by
        rw [ec, (lkM_pl w0 L0).2, lkI_n (ix_no hX (by omega)), e]
      rw [cE]
      exact hL _ st hst (by rw [← e]; omega) (by rw [← e]; omega)
    have self : ∀ hh : gTq, hh.1 = (M.2.2 t).1 → hh.2.2.1 = (M.2.2 t).2.2.1 → hh.2.2.2.1 = (M.2.2 t).2.2.2.1 → hh.2.2.2.2.2.2.2 = (M.2.2 t).2.2.2.2.2.2.2 → (∀ q ∈ hh.2.2.2.2.2.2.1, q.1 < C.2.2.1.length) → MCn C nl (upT M t hh) := fun hh a1 a2 a3 a4 a5 => by
      refine MCn_up q tl ⟨?_, ?_, a5⟩
      · rw [a1, a2, a4]; exact qt.1
      · rw [a2, a3]; exact qt.2.1
    by_cases c0 : s = 0
    · rw [c0, ef_0]; exact q
    by_cases c1 : s = 1
    · rw [c1, ef_1]
      by_cases z : w = 0 ∨ suM C c = true
      · rw [if_pos z]; exact MCn_C q (cl (by omega) (by omega))
      · rw [if_neg z]
        refine self _ rfl rfl rfl rfl (fun r hr => ?_)
        rcases List.mem_append.mp hr with hr | hr
        · exact qt.2.2 r hr
        · rw [List.mem_singleton.mp hr]; exact cl (by omega) (by omega)
    by_cases c2 : s = 2
    · rw [c2, ef_2]; exact MCn_C q (cl (by omega) (by omega))
    by_cases c3 : s = 3
    · rw [c3, ef_3]; exact MCn_C q (cl (by omega) (by omega))
    by_cases c4 : s = 4
    · rw [c4, ef_4]; exact MCn_C q (cl (by omega) (by omega))
    by_cases c5 : s = 5
    · rw [c5, ef_5]; exact MCn_L q (Or.inl (lk (by omega) (by omega)))
    by_cases c6 : s = 6
    · rw [c6, ef_6]; exact MCn_L q (Or.inl (lk (by omega) (by omega)))
    by_cases c7 : s = 7
    · rw [c7, ef_7]
      refine MCn_up (MCn_L q (Or.inr rfl)) tl ⟨qt.1, fun _ => ?_, qt.2.2⟩
      show (stN C (M.2.2 t).2.2.1).1 = 7
      omega
    by_cases c8 : s = 8
    · rw [c8, ef_8]
      refine ⟨q.1, q.2.1, fun t' => ?_⟩
      show (_ → wkT C M t c wk t' = th0) ∧ tCn C (wkT C M t c wk t')
      have q' := q.2.2 t'
      unfold wkT
      split
      · next z =>
        refine ⟨fun z9 => absurd z.1 (by omega), q'.2.1, fun _ => ?_, q'.2.2.2⟩
        exact q'.2.2.1 (by rw [z.2.1]; decide)
      · exact q'
    by_cases c9 : s = 9
    · cases hq : C.2.1[c]? with
      | none =>
        have a : efM C w M t 9 c (lkM C w M t).2.2.1 (lkM C w M t).2.2.2 wk = (match C.2.1[c]? with | some q => upT M c (thN C c (M.2.2 c) q.1 (M.2.2 c).2.2.2.2.2.2.2) | none => M, 0) := by unfold efM; rfl
        rw [c9, a, hq]; exact q
      | some q9 =>
        rw [c9, ef_9 hq]
        have lc := gt_lt hq
        have rs := lkM_rs w0 L0
        rw [← so, ← es, c9, ← ec, rsF_9] at rs
        have z0 : (M.2.2 c).1 = 0 := Classical.byContradiction (fun n => by rw [if_neg n] at rs; exact nomatch rs)
        exact MCn_up q lc (tCn_N ((qw c (by omega)).2.2.1 (by omega)) (q.2.2 c).2.2.2)
    by_cases c13 : s = 13
    · rw [c13, ef_13]; exact self _ rfl rfl rfl rfl qt.2.2
    by_cases c14 : s = 14
    · rw [c14, ef_14]; exact self _ rfl rfl rfl rfl qt.2.2
    · have a : efM C w M t s c (lkM C w M t).2.2.1 (lkM C w M t).2.2.2 wk = (M, 0) := by
        unfold efM
        rw [if_neg c0, if_neg c1, if_neg c2, if_neg c3, if_neg c4, if_neg c5, if_neg c6, if_neg c7, if_neg c8, if_neg c9, if_neg c13, if_neg c14, if_neg c15]
      rw [a]; exact q
theorem MCn_ac (hN : NC C) (hX : NXc C) (hL : LkN C nl) (lb : (C.2.2.1.length : Int) < 2147483648) (q : MCn C nl M) (qw : WMw w M) (tl : t < C.2.1.length) (l6 : C.2.1.length ≤ 6) (h1 : (M.2.2 t).1 = 1) : MCn C nl (acM C w M t wk) := by
  have qt := (q.2.2 t).2
  by_cases L0 : (lkM C w M t).1 = 0
  · have me := MCn_ef (wk := wk) hN hX hL lb q qw (by omega) tl l6 h1 L0
    by_cases c7 : soM C (M.2.2 t) = 7
    · rw [c7] at me
      rw [acM_7 L0 c7, ef_7]
      rw [ef_7] at me
      exact me
    · have st9 : soM C (M.2.2 t) = 9 → (M.2.2 (lkM C w M t).2.1.toNatClampNeg).1 = 0 := fun e9 => by
        obtain ⟨w0, es⟩ := so_0 (C := C) (M := M) (t := t) (by omega)
        have rs := lkM_rs w0 L0
        rw [← es, e9, rsF_9] at rs
        exact Classical.byContradiction (fun n => by rw [if_neg n] at rs; exact nomatch rs)
      obtain ⟨-, b1, -, -⟩ := WMw_ef (C := C) (s := soM C (M.2.2 t)) (c := (lkM C w M t).2.1.toNatClampNeg) (e := (lkM C w M t).2.2.1) (f := (lkM C w M t).2.2.2) (wk := wk) qw (by omega) h1 (Classical.byCases Or.inl (fun n => Or.inr (so_0 n).1)) (fun e9 _ => st9 e9) (fun e9 z => by have := st9 e9; rw [z] at this; omega) c7
      rw [acM_is (E := (efM C w M t (soM C (M.2.2 t)) (lkM C w M t).2.1.toNatClampNeg (lkM C w M t).2.2.1 (lkM C w M t).2.2.2 wk).1) (v := (efM C w M t (soM C (M.2.2 t)) (lkM C w M t).2.1.toNatClampNeg (lkM C w M t).2.2.1 (lkM C w M t).2.2.2 wk).2) L0 c7 rfl]
      exact MCn_up me tl (tCn_N b1 (me.2.2 t).2.2.2)
  · have w0 : (M.2.2 t).2.2.2.1 = 0 := Classical.byContradiction (fun n0 => L0 (by rw [lkM_15 n0]))
    rw [acM_F L0]
    refine MCn_up q tl ⟨fun p hp => qt.1 p (fun z => hp ⟨Or.inr rfl, z.2⟩), qt.2.1, qt.2.2⟩
theorem MCn_la (q : MCn C nl M) (tl : t < C.2.1.length) : MCn C nl (laM M t i) := by
  unfold laM
  cases hq : (M.2.2 t).2.2.2.2.2.2.1[i]? with
  | none => exact q
  | some z9 =>
    have qt := (q.2.2 t).2
    refine MCn_up (MCn_C q (qt.2.2 z9 (List.mem_of_getElem? hq))) tl ⟨qt.1, qt.2.1, fun r hr => qt.2.2 r (List.mem_of_mem_eraseIdx hr)⟩
theorem MCn_do (hN : NC C) (hX : NXc C) (hL : LkN C nl) (lb : (C.2.2.1.length : Int) < 2147483648) (l6 : C.2.1.length ≤ 6) (q : MCn C nl M) (qi : MIv C w M) (h : ch ∈ chM C w M) : MCn C nl (doM C w M ch) := by
  obtain ⟨i1, i2, i3⟩ := ch_in h
  obtain ⟨t, lt9, wk⟩ := ch
  unfold doM
  cases lt9 with
  | none => exact MCn_ac hN hX hL lb q qi.1 i1 l6 (i2 rfl).1
  | some j => exact MCn_la q i1
/-- two states are one, where all that there is is the same -/
theorem MCn_eq {M' : gMa} (q : MCn C nl M) (q' : MCn C nl M') (hc : ∀ c, c < C.2.2.1.length → M.1 c = M'.1 c) (hl : ∀ l, l < nl → M.2.1 l = M'.2.1 l) (ht : ∀ t, t < C.2.1.length → M.2.2 t = M'.2.2 t) : M = M' := by
  refine Prod.ext (funext fun c => ?_) (Prod.ext (funext fun l => ?_) (funext fun t => ?_))
  · by_cases z : c < C.2.2.1.length
    · exact hc c z
    · rw [q.1 c (by omega), q'.1 c (by omega)]
  · by_cases z : l < nl
    · exact hl l z
    · rw [q.2.1 l (by omega), q'.2.1 l (by omega)]
  · by_cases z : t < C.2.1.length
    · exact ht t z
    · rw [(q.2.2 t).1 (by omega), (q'.2.2 t).1 (by omega)]
end PCN
end
section
/-! the machine: all that a program can do, state by state -/
/-- a trying: its states with whence and by which choice; whether it is partly -/
abbrev gTy := List (gMa × Nat × Nat) × Bool
/-- a state is added, if it is new -/
noncomputable def adS (lim s i : Nat) (T : gTy) (M : gMa) : gTy := @ite gTy (∃ q ∈ T.1, q.1 = M) (Classical.propDecidable _) T (if lim ≤ T.1.length then (T.1, true) else (T.1 ++ [(M, s, i)], T.2))
/-- the first n choices of a state are tried -/
noncomputable def onS (C : gCo) (w lim s : Nat) (M : gMa) : Nat → gTy → gTy
  | 0, T => T
  | n + 1, T => if (onS C w lim s M n T).2 = true then onS C w lim s M n T else adS lim s n (onS C w lim s M n T) (doM C w M (((chM C w M)[n]?).getD (0, none, none)))
/-- the states from s on are tried -/
noncomputable def bfS (C : gCo) (w lim : Nat) : Nat → Nat → gTy → gTy
  | 0, _, T => T
  | f + 1, s, T => match T.1[s]? with
    | none => T
    | some q => bfS C w lim f (s + 1) (onS C w lim s q.1 (chM C w q.1).length T)
noncomputable def tryM (C : gCo) (w lim : Nat) : gTy := bfS C w lim 3001 0 ([(fsM C, 0, 0)], false)
section PTR
variable {C : gCo} {w lim s i n f : Nat} {T : gTy} {M : gMa}
theorem adS_old (h : ∃ q ∈ T.1, q.1 = M) : adS lim s i T M = T := if_pos h
theorem adS_full (h : ¬ ∃ q ∈ T.1, q.1 = M) (hl : lim ≤ T.1.length) : adS lim s i T M = (T.1, true) := (if_neg h).trans (if_pos hl)
theorem adS_new (h : ¬ ∃ q ∈ T.1, q.1 = M) (hl : ¬ lim ≤ T.1.length) : adS lim s i T M = (T.1 ++ [(M, s, i)], T.2) := (if_neg h).trans (if_neg hl)
theorem onS_p (h : T.2 = true) : ∀ n, onS C w lim s M n T = T := by
  intro n
  induction n with
  | zero => rfl
  | succ n ih => rw [onS, ih, if_pos h]
theorem bfS_p (h : T.2 = true) : ∀ f s, bfS C w lim f s T = T := by
  intro f
  induction f with
  | zero => intro s; rfl
  | succ f ih =>
    intro s
    rw [bfS]
    cases hs : T.1[s]? with
    | none => rfl
    | some q =>
      simp only []
      rw [onS_p h, ih]
theorem bfS_end (h : T.1[s]? = none) : bfS C w lim f s T = T := by
  cases f with
  | zero => rfl
  | succ f => rw [bfS, h]
theorem bfS_go {q : gMa × Nat × Nat} (h : T.1[s]? = some q) : bfS C w lim (f + 1) s T = bfS C w lim f (s + 1) (onS C w lim s q.1 (chM C w q.1).length T) := by
  rw [bfS, h]
end PTR
end
section
/-! the model: begin, choices, go, draw, again, with the machine's states -/
def drV (v : Int32) : Int32 := v * 1103515245 + 12345
def drI (v : Int32) (n : Nat) : Nat := ((v >>> (16 &&& 31 : Int32)) &&& 32767).toNatClampNeg % n
/-- choices drawn: the row, and how many are done -/
noncomputable def drS (C : gCo) (w : Nat) : Nat → Int32 → (Nat → Nat) → Nat → (Nat → Nat) × Nat
  | 0, _, c, n => (c, n)
  | k + 1, v, c, n => if (chM C w (runM C w c n)).length = 0 ∨ 400 ≤ n then (c, n) else drS C w k (drV v) (upf c n (drI (drV v) (chM C w (runM C w c n)).length)) (n + 1)
theorem t_rem2 {v c : Int32} (hv : 0 ≤ v.toInt) (hc : 0 < c.toInt) : (v - v / c * c).toInt = ((v.toNatClampNeg % c.toInt.toNat : Nat) : Int) := by
  have r := t_rg v
  have e1 := t_div hv hc
  have p0 : 0 ≤ v.toInt / c.toInt * c.toInt := Int.mul_nonneg (Int.ediv_nonneg hv (by omega)) (by omega)
  have p1 : v.toInt / c.toInt * c.toInt ≤ v.toInt := Int.ediv_mul_le _ (by omega)
  have e2 : (v / c * c).toInt = v.toInt / c.toInt * c.toInt := by rw [t_mul (by rw [e1]; omega) (by rw [e1]; omega), e1]
  have e3 : (v - v / c * c).toInt = v.toInt - v.toInt / c.toInt * c.toInt := by rw [t_sub (by rw [e2]; omega) (by rw [e2]; omega), e2]
  have m := Int.emod_def v.toInt c.toInt
  rw [Int.mul_comm] at m
  have a : ((v.toNatClampNeg : Nat) : Int) = v.toInt := by rw [t_cl]; omega
  have b : ((c.toInt.toNat : Nat) : Int) = c.toInt := by omega
  rw [e3, Int.natCast_emod, a, b, m]
section MFC
variable {G : mG} {d D : Nat} {x z a : gd} {F : Int32 → gd → Prop} {Fv : gd → Prop} {C : gCo} {w : Nat}
/-- a new run, or the same one further: what changes -/
abbrev rnL : List Nat := 0 :: 67 :: 68 :: dL
abbrev rnA : List Nat := dA
theorem PM_run {z' : gd} (q : MI z) (hc : ¬ z.1 0 66 = 0) (m : mi rnL rnA z z') (hh : Hist z') : PM z z' := MI_new m rfl rfl hc hh q
/-- the row below n -/
def rwE (c c' : Nat → Nat) (n : Nat) : Prop := ∀ k, k < n → c k = c' k
theorem HistC_0 {y : gd} (m : mi [0] [] z y) (h : HistC C w z) : HistC C w y := HistC_mi m rfl rfl h
theorem HistC_b (h : HistC C w z) : (0 ≤ (z.1 0 84).toInt ∧ (z.1 0 84).toInt ≤ 84) ∧ 0 ≤ (z.1 0 94).toInt ∧ (z.1 0 94).toInt ≤ 400 := by
  obtain ⟨s, n, q1, q2, q3, q4, q5, q6, q7⟩ := h.1
  have e84 : z.1 0 84 = (s n).1 0 84 := q4 0 84 (Or.inr (Or.inl ⟨rfl, rfl⟩))
  have av := (q2 n (Nat.le_refl _)).1
  rw [e84]
  exact ⟨⟨av.2.2.2.1, av.2.2.2.2.1⟩, by omega, q7.2.2.1⟩
end MFC
end
section
/-! the class: begin, choices, go, draw, again, with the machine's states -/
theorem shr16 (a : Int32) : ((a.toUInt32 >>> ((16 : Int32).toUInt32 &&& Int32.toUInt32 31)).toInt32) &&& 32767 = (a >>> (16 &&& 31 : Int32)) &&& 32767 := by
  refine Int32.toBitVec_inj.mp ?_
  rw [Int32.toBitVec_and, Int32.toBitVec_and]
  have e1 : ((a.toUInt32 >>> ((16 : Int32).toUInt32 &&& Int32.toUInt32 31)).toInt32).toBitVec = a.toBitVec >>> 16 := rfl
  have e2 : (a >>> (16 &&& 31 : Int32)).toBitVec = a.toBitVec.sshiftRight 16 := rfl
  rw [e1, e2]
  refine BitVec.eq_of_getLsbD_eq (fun i hi => ?_)
  rw [BitVec.getLsbD_and, BitVec.getLsbD_and, BitVec.getLsbD_ushiftRight, BitVec.getLsbD_sshiftRight]
  by_cases c : i < 15
  · have h1 : 16 + i < 32 := by omega
    have h2 : ¬ 32 ≤ i := by omega
    simp [h1, h2]
  · have h : ∀ i, i < 32 → ¬ i < 15 → BitVec.getLsbD (Int32.toBitVec 32767) i = false := by decide +kernel
    rw [h i hi c, Bool.and_false, Bool.and_false]
section KF3
variable {G : kG} {q : kP} {d : Nat} {x y z : gd} {F : Int32 → gd → Prop} {Fv : gd → Prop} {P : Option gv → gd → Prop} {X : String → gd → Prop} {C : gCo} {w n : Nat} {c c' : Nat → Nat}
theorem KRun_cg (h : rwE c c' n) (r : KRun C w n c x) : KRun C w n c' x := by
  obtain ⟨r1, r2, r3, r4, r5, r6⟩ := r
  have e : runM C w c n = runM C w c' n := runM_cg h
  rw [e] at r2
  refine ⟨r1, r2, r3, r4, fun k hk => ?_, by rw [← joM_cg h]; exact r6⟩
  have ek : runM C w c k = runM C w c' k := runM_cg (fun j hj => h j (by omega))
  obtain ⟨a, b⟩ := r5 k hk
  rw [← h k hk, ← ek]
  exact ⟨a, b⟩
theorem kh_run (hq : kV q) (hH : HOI x q) (hS : x.1 0 10 = 0 → X iSE x) (h : ¬ x.1 0 10 = 0 → RUN x → Fv x) : KE G q (d + 6) zk_X11_needRun 0 [(0, vr 0)] [] x (rv Fv) X :=
  kg_X11_needRun_0 hq ⟨fun c => rv_i (h c (hH.2.2.1 c)), fun c => hS c⟩
theorem kh_ix (hq : kV q) (l n : Int32) (hO : ¬ (0 ≤ l.toInt ∧ l.toInt < n.toInt) → X iOE x) (h : 0 ≤ l.toInt → l.toInt < n.toInt → Fv x) : KE G q (d + 6) zk_X11_needIndex 0 [(0, vi l), (1, vi n)] [] x (rv Fv) X := by
  have k0 : (0 : Int32).toInt = 0 := rfl
  refine kg_X11_needIndex_0 hq l n ⟨fun c => kg_X11_needIndex_9 hq (hO ?_), fun c => ⟨fun c2 => rv_i (h ?_ ?_), fun c2 => kg_X11_needIndex_9 hq (hO ?_)⟩⟩
  · rw [t_lt, k0] at c; omega
  · rw [t_lt, k0] at c; omega
  · rw [t_lt] at c2; exact c2
  · rw [t_lt] at c2; omega
theorem kh_beginP (hq : kV q) (hH : HOI x q) (l : Int32) (hKC : ¬ x.1 0 9 = 0 → CK x C ∧ GC C) (hS : x.1 0 9 = 0 → X iSE x) (hA : ¬ x.1 0 9 = 0 → ¬ (l = 0 ∨ l = 1) → X iAE x) (hP : ∀ (w : Nat) y, ¬ x.1 0 9 = 0 → l = Int32.ofNat w → HOI y q → fm sRn x y → (∀ c, KRun C w 0 c y) → y.1 0 10 = 1 → P (some (vi (y.1 120 13))) y) : KE G q (d + 7) zk_X11_begin 0 [(0, vr 0), (1, vi l)] [] x P X := by
  refine kg_X11_begin_0 hq l (kf_comp hq hH hS (fun c9 hC => kf_way hq l (hA c9) (fun hw => ?_)))
  obtain ⟨w, w01, ew⟩ : ∃ w : Nat, (w = 0 ∨ w = 1) ∧ l = Int32.ofNat w := by
    rcases hw with e | e
    · exact ⟨0, Or.inl rfl, e⟩
    · exact ⟨1, Or.inr rfl, e⟩
  rw [ew]
  exact kh_beginRun hq hC (hKC c9).1 (hKC c9).2 w01 (fun _ => 0) (fun y f hR _ h10 => hP w y c9 ew (HOI_run f hR.1 hH) f (fun c => KRun_cg (fun k hk => absurd hk (Nat.not_lt_zero _)) hR) h10)
theorem kh_choices (hq : kV q) (hH : HOI x q) (hS : x.1 0 10 = 0 → X iSE x) (hP : ¬ x.1 0 10 = 0 → P (some (vi (x.1 120 13))) x) : KE G q (d + 7) zk_X11_choices 0 [(0, vr 0)] [] x P X :=
  kg_X11_choices_0 hq (kh_run hq hH hS (fun c _ => hP c))
theorem kh_go (hq : kV q) (hH : HOI x q) (hK : ¬ x.1 0 10 = 0 → CK x C ∧ GC C ∧ NX3 C) (hR : ¬ x.1 0 10 = 0 → KRun C w n c x) (l : Int32) (hS : ¬ (¬ x.1 0 10 = 0 ∧ n < 400) → X iSE x) (hO : ¬ x.1 0 10 = 0 → n < 400 → ¬ (0 ≤ l.toInt ∧ l.toInt < (x.1 120 13).toInt) → X iOE x) (hP : ∀ y, ¬ x.1 0 10 = 0 → n < 400 → 0 ≤ l.toInt → l.toInt < (x.1 120 13).toInt → HOI y q → fm sRn x y → KRun C w (n + 1) (upf c n l.toNatClampNeg) y → y.1 0 10 = x.1 0 10 → P (some (vi (y.1 120 13))) y) : KE G q (d + 7) zk_X11_go 0 [(0, vr 0), (1, vi l)] [] x P X := by
  have k400 : (400 : Int32).toInt = 400 := rfl
  refine kg_X11_go_0 hq l (kh_run hq hH (fun c0 => hS (fun z9 => z9.1 c0)) (fun c9 _ => ⟨fun c4 => ?_, fun c4 => hS (fun z9 => ?_)⟩))
  · have hr := hR c9
    obtain ⟨hKx, gc, hX3⟩ := hK c9
    have hn := hr.2.2.2.1
    rw [t_lt, k400, hn] at c4
    refine kh_ix hq l _ (hO c9 (by omega)) (fun l0 l1 => ?_)
    have e13 : (x.1 120 13).toInt = ((chM C w (runM C w c n)).length : Nat) := hr.2.1.2.2.1
    have hr' : KRun C w n (upf c n l.toNatClampNeg) x := KRun_cg (fun k hk => by rw [upf_ne (by omega)]) hr
    have eR : runM C w (upf c n l.toNatClampNeg) n = runM C w c n := runM_cg (fun k hk => by rw [upf_ne (by omega)])
    have cl := cl_i l0
    exact kh_doChoice hq hKx gc hX3 hr' l (I := l.toNatClampNeg) (by omega) (by rw [eR]; omega) (by omega) (by rw [upf_eq]) (fun y f hRy _ h10 => hP y c9 (by omega) l0 l1 (HOI_run f hRy.1 hH) f hRy h10)
  · have hr := hR c9
    have hn := hr.2.2.2.1
    exact c4 (t_lt.mpr (by rw [k400, hn]; omega))
theorem kh_again (hq : kV q) (hH : HOI x q) (hK : ¬ x.1 0 10 = 0 → CK x C ∧ GC C ∧ NX3 C) (hR : ¬ x.1 0 10 = 0 → KRun C w n c x) (l1 : Int32) (hS : x.1 0 10 = 0 → X iSE x) (hA : ¬ x.1 0 10 = 0 → ¬ (0 ≤ l1.toInt ∧ l1.toInt ≤ (n : Nat)) → X iAE x) (hP : ∀ y, ¬ x.1 0 10 = 0 → 0 ≤ l1.toInt → l1.toInt ≤ (n : Nat) → HOI y q → fm sRn x y → KRun C w l1.toInt.toNat c y → y.1 0 10 = 1 → P (some (vi (y.1 120 13))) y) : KE G q (d + 7) zk_X11_again 0 [(0, vr 0), (1, vi l1)] [] x P X := by
  have k1 : (1 : Int32).toInt = 1 := rfl
  have k0 : (0 : Int32).toInt = 0 := rfl
  refine kg_X11_again_0 hq l1 (kh_run hq hH hS (fun c9 _ => ⟨fun cc => kg_X11_again_19 hq (hA c9 (fun z9 => ?_)), fun c0 => ⟨fun c4 => ?_, fun cc => kg_X11_again_19 hq (hA c9 (fun z9 => ?_))⟩⟩))
  · rw [t_lt, k0] at cc; omega
  · obtain ⟨hKx, gc, hX3⟩ := hK c9
    obtain ⟨r1, r2, r3, r4, r5, -⟩ := hR c9
    rw [t_lt, k0] at c0
    rw [t_le, r4] at c4
    have n4 := r1.2.2.1.2.2
    have loop : ∀ (m k : Nat) (l2 : Int32) (y : gd), l2.toInt = k → k + m = l1.toInt.toNat → fm sRn x y → KRun C w k c y → (∀ j, j < n → y.1 162 j = x.1 162 j) → y.1 0 10 = 1 → KE G q (d + 7) zk_X11_again 42 [(0, vr 0), (1, vi l1), (2, vi l2)] [] y P X := by
      intro m
      induction m with
      | zero =>
        intro k l2 y e2 hm fy hy h162 h10
        refine kg_X11_again_42 hq l1 l2 ⟨fun _ => hP y c9 (by omega) (by omega) (HOI_run fy hy.1 hH) fy ?_ h10, fun cc => ?_⟩
        · have : k = l1.toInt.toNat := by omega
          rw [← this]; exact hy
        · exfalso; rw [t_le] at cc; omega
      | succ m ih =>
        intro k l2 y e2 hm fy hy h162 h10
        refine kg_X11_again_42 hq l1 l2 ⟨fun cc => ?_, fun cc => ⟨by rw [vp_in_iff]; omega, ?_⟩⟩
        · exfalso; rw [t_le] at cc; omega
        obtain ⟨b1, b2⟩ := r5 k (by omega)
        have e2n : l2.toNatClampNeg = k := by rw [t_cl, e2]; rfl
        have i1 : (l2 + 1).toInt = ((k + 1 : Nat) : Int) := by rw [t_add (by rw [k1]; omega) (by rw [k1]; omega), k1, e2]; push_cast; rfl
        rw [e2n, h162 k (by omega)]
        exact kh_doChoice hq (CK_f hKx (fun c k hc => fy c k (by unfold sRn; omega))) gc hX3 hy _ b2 b1 (by omega) rfl (fun z fz hz z162 z10 => ih (k + 1) _ z i1 (by omega) (fm_tr fy fz) hz (fun j hj => by
          by_cases cj : j = k
          · have e1 := (hz.2.2.2.2.1 k (by omega)).2
            rw [cj, t_eq, e1, b2]
          · rw [z162 j cj]; exact h162 j hj) (by rw [z10]; exact h10))
    rw [r3.2]
    exact kh_beginRun hq r1.1.1 hKx gc r3.1 c (fun y f hRy y162 h10 => loop l1.toInt.toNat 0 _ y rfl (by omega) f hRy (fun j _ => y162 j) h10)
  · obtain ⟨r1, r2, r3, r4, r5, -⟩ := hR c9
    rw [t_le, r4] at cc
    omega
end KF3
end
section
/-! the class: when two rows are one state; the mix of a row -/
def NBm (M : gMa) : Prop := ∀ t, (M.2.2 t).2.1 ≤ 9
section PNB
variable {C : gCo} {M : gMa} {w t s c i n own : Nat} {e f me : Int32} {wk : Option Nat} {ch : gCh} {h : gTq} {lv : Nat → Int32} {r : gTr}
theorem ow1_9 {st : gNs} (q : ow1 me s st lv = .inl r) : r.2.1 ≤ 9 := by
  unfold ow1 at q
  split at q
  · cases q
    exact (by decide : (0 : Nat) ≤ 9)
  · split at q
    · exact nomatch q
    · split at q
      · cases q
        exact (by decide : (1 : Nat) ≤ 9)
      · split at q
        · cases q
          exact (by decide : (5 : Nat) ≤ 9)
        · exact nomatch q
theorem setP_9 : ∀ {n own s : Nat} {lv : Nat → Int32}, setP C me n own s lv = some r → r.2.1 ≤ 9 := by
  intro n
  induction n with
  | zero => intro own s lv q; exact absurd q (by simp [setP])
  | succ n ih =>
    intro own s lv q
    cases hs : C.1[s]? with
    | none =>
      rw [setP] at q
      simp only [hs] at q
      exact absurd q (by simp)
    | some st =>
      by_cases c1 : st.1 < 16
      · rw [set_act hs c1] at q
        cases q
        exact (by decide : (0 : Nat) ≤ 9)
      · by_cases c2 : st.1 < 20 ∧ 300 ≤ own
        · rw [set_6 hs c1 c2] at q
          cases q
          exact (by decide : (6 : Nat) ≤ 9)
        · cases e1 : ow1 me s st lv with
          | inl r9 =>
            rw [set_l hs c1 c2 e1] at q
            cases q
            exact ow1_9 e1
          | inr z =>
            rw [set_r hs c1 c2 e1] at q
            exact ih q
theorem owR_9 : (owR C me s lv).2.1 ≤ 9 := by
  by_cases q : ∃ r, ∃ n, setP C me n 0 s lv = some r
  · obtain ⟨r, n, q⟩ := q
    rw [owR_is q]
    exact setP_9 q
  · have : owR C me s lv = (0, 0, 0, fun _ => 0) := by
      unfold owR
      rw [dif_neg q]
    rw [this]
    exact Nat.zero_le _
theorem lkM_9 : (lkM C w M t).1 ≤ 9 := by
  have rs : ∀ s c, rsF C w M t s c ≤ 9 := fun s c => by
    unfold rsF
    split
    · decide
    · split
      · decide
      · split
        · decide
        · split
          · decide
          · split <;> decide
  have li : (lkI C M t).1 ≤ 9 := by
    unfold lkI
    split
    · exact Nat.zero_le _
    · split
      · exact (by decide : (1 : Nat) ≤ 9)
      · split
        · exact (by decide : (2 : Nat) ≤ 9)
        · exact Nat.zero_le _
  unfold lkM
  split
  · exact Nat.zero_le _
  · split
    · exact li
    · split
      · exact (by decide : (1 : Nat) ≤ 9)
      · split
        · exact (by decide : (1 : Nat) ≤ 9)
        · exact rs _ _
theorem NBm_up (q : NBm M) (hh : h.2.1 ≤ 9) : NBm (upT M t h) := fun t' => by
  show (upf M.2.2 t h t').2.1 ≤ 9
  by_cases z : t' = t
  · rw [z, upf_eq]; exact hh
  · rw [upf_ne z]; exact q t'
theorem NBm_fs : NBm (fsM C) := fun t => by
  by_cases q : t < C.2.1.length
  · obtain ⟨q9, hq⟩ : ∃ q9, C.2.1[t]? = some q9 := ⟨_, List.getElem?_eq_getElem q⟩
    by_cases c1 : q9.2 = 1
    · rw [fs_idle hq c1]; exact Nat.zero_le _
    · rw [fs_go hq c1]; exact owR_9
  · rw [fs_out (by omega)]; exact Nat.zero_le _
theorem NBm_ef (q : NBm M) : NBm (efM C w M t s c e f wk).1 := by
  by_cases c0 : s = 0
  · rw [c0, ef_0]; exact q
  by_cases c1 : s = 1
  · rw [c1, ef_1]
    by_cases z : w = 0 ∨ suM C c = true
    · rw [if_pos z]; exact q
    · rw [if_neg z]; exact NBm_up q (q t)
  by_cases c2 : s = 2
  · rw [c2, ef_2]; exact q
  by_cases c3 : s = 3
  · rw [c3, ef_3]; exact q
  by_cases c4 : s = 4
  · rw [c4, ef_4]; exact q
  by_cases c5 : s = 5
  · rw [c5, ef_5]; exact q
  by_cases c6 : s = 6
  · rw [c6, ef_6]; exact q
  by_cases c7 : s = 7
  · rw [c7, ef_7]; exact NBm_up (M := upL M c (0, 0)) q (q t)
  by_cases c8 : s = 8
  · rw [c8, ef_8]
    intro t'
    show (wkT C M t c wk t').2.1 ≤ 9
    unfold wkT
    split
    · exact q t'
    · exact q t'
  by_cases c9 : s = 9
  · cases hq : C.2.1[c]? with
    | none =>
      have a : efM C w M t 9 c e f wk = (match C.2.1[c]? with | some q => upT M c (thN C c (M.2.2 c) q.1 (M.2.2 c).2.2.2.2.2.2.2) | none => M, 0) := by unfold efM; rfl
      rw [c9, a, hq]; exact q
    | some q9 => rw [c9, ef_9 hq]; exact NBm_up q owR_9
  by_cases c13 : s = 13
  · rw [c13, ef_13]; exact NBm_up q (q t)
  by_cases c14 : s = 14
  · rw [c14, ef_14]; exact NBm_up q (q t)
  by_cases c15 : s = 15
  · rw [c15, ef_15]; exact NBm_up (M := upL M c (t + 1, (M.2.2 t).2.2.2.2.1)) q (q t)
  · have a : efM C w M t s c e f wk = (M, 0) := by
      unfold efM
      rw [if_neg c0, if_neg c1, if_neg c2, if_neg c3, if_neg c4, if_neg c5, if_neg c6, if_neg c7, if_neg c8, if_neg c9, if_neg c13, if_neg c14, if_neg c15]
    rw [a]; exact q
theorem NBm_do (q : NBm M) : NBm (doM C w M ch) := by
  unfold doM
  cases ch.2.1 with
  | some j =>
    show NBm (laM M ch.1 j)
    unfold laM
    cases (M.2.2 ch.1).2.2.2.2.2.2.1[j]? with
    | none => exact q
    | some z9 => exact NBm_up (M := upC M z9.1 z9.2) q (q ch.1)
  | none =>
    show NBm (acM C w M ch.1 ch.2.2)
    by_cases L0 : (lkM C w M ch.1).1 = 0
    · by_cases c7 : soM C (M.2.2 ch.1) = 7
      · rw [acM_7 L0 c7]; exact NBm_ef q
      · rw [acM_is (E := (efM C w M ch.1 (soM C (M.2.2 ch.1)) (lkM C w M ch.1).2.1.toNatClampNeg (lkM C w M ch.1).2.2.1 (lkM C w M ch.1).2.2.2 ch.2.2).1) (v := (efM C w M ch.1 (soM C (M.2.2 ch.1)) (lkM C w M ch.1).2.1.toNatClampNeg (lkM C w M ch.1).2.2.1 (lkM C w M ch.1).2.2.2 ch.2.2).2) L0 c7 rfl]
        exact NBm_up (NBm_ef q) owR_9
    · rw [acM_F L0]
      exact NBm_up q lkM_9
end PNB
/-- the mix of a row -/
def mxS (a v : Int32) : Int32 := ((a ^^^ v) * 16777619) ^^^ ((((a ^^^ v) * 16777619 : Int32).toUInt32 >>> ((15 : Int32).toUInt32 &&& Int32.toUInt32 31)).toInt32)
def mxF (S : Int32 → Int32 → Int32) (R : Nat → Int32) : Nat → Nat → Int32 → Int32
  | 0, _, a => a
  | n + 1, f, a => mxF S R n (f + 1) (S a (R f))
def mxT (S : Int32 → Int32 → Int32) (R : Nat → Int32) (o7 o8 : Nat) (lt : Nat → Nat) : Nat → Int32 → Int32
  | 0, a => a
  | n + 1, a => mxF S R (lt n) (o7 + n * o8) (mxT S R o7 o8 lt n a)
/-- how many fields of a thread count -/
def usN (x : gd) (o t : Nat) : Nat := (x.1 o 9).toInt.toNat + 2 * (rg x o t 7).toInt.toNat
def mxO (x : gd) (o : Nat) : Int32 := mxT mxS (x.1 (o + 5)) (x.1 o 7).toInt.toNat (x.1 o 8).toInt.toNat (usN x o) (x.1 60 10).toInt.toNat (mxF mxS (x.1 (o + 5)) (x.1 o 7).toInt.toNat 0 0)
/-- rows that are the same where it counts -/
def rwS (x : gd) (o : Nat) (A : Nat → Int32) : Prop := (∀ j : Nat, (j : Int) < (x.1 o 7).toInt → x.1 (o + 5) j = A j) ∧ ∀ t k : Nat, (t : Int) < (x.1 60 10).toInt → k < usN x o t → x.1 (o + 5) (pa x o t k) = A (pa x o t k)
section KSM
variable {G : kG} {q : kP} {d : Nat} {x y z : gd} {o : Nat} {F : Int32 → gd → Prop} {Fv : gd → Prop} {C : gCo} {M M' : gMa} {R A : Nat → Int32} {S : Int32 → Int32 → Int32}
theorem mxF_cg : ∀ {n f : Nat} {a : Int32}, (∀ j, f ≤ j → j < f + n → R j = A j) → mxF S R n f a = mxF S A n f a := by
  intro n
  induction n with
  | zero => intro f a _; rfl
  | succ n ih =>
    intro f a h
    rw [mxF, mxF, h f (Nat.le_refl _) (by omega)]
    exact ih (fun j h1 h2 => h j (by omega) (by omega))
theorem kh_mixPart (hq : kV q) (ho : kiM q o) (b f m : Int32) {f' m' : Nat} (ef : f.toInt = f') (em : m.toInt = m') (h2 : f' + m' ≤ 228) (hF : F (mxF mxS (x.1 (o + 5)) m' f' b) x) : KT G q d zk_X5_mixPart 0 [(0, vr o), (1, vi b), (2, vi f), (3, vi m)] [] x (ri F) := by
  have efm : (f + m).toInt = f.toInt + m.toInt := t_add (by omega) (by omega)
  have loop : ∀ (n I : Nat) (a i : Int32), i.toInt = I → I + n = f' + m' → F (mxF mxS (x.1 (o + 5)) n I a) x → KT G q d zk_X5_mixPart 6 [(0, vr o), (2, vi f), (3, vi m), (4, vi a), (5, vi i)] [] x (ri F) := by
    intro n
    induction n with
    | zero =>
      intro I a i ei hn hf
      refine kg_X5_mixPart_6 hq ho _ _ _ _ ⟨fun _ => ri_i hf, fun c => ?_⟩
      exfalso; rw [t_le] at c; omega
    | succ n ih =>
      intro I a i ei hn hf
      refine kg_X5_mixPart_6 hq ho _ _ _ _ ⟨fun c => ?_, fun c => ?_⟩
      · exfalso; rw [t_le] at c; omega
      have e1 : (i + 1).toInt = ((I + 1 : Nat) : Int) := by rw [t_add (by show _ ≤ _ + (1 : Int); omega) (by show _ + (1 : Int) ≤ _; omega), ei]; rfl
      have eN : i.toNatClampNeg = I := by rw [t_cl, ei]; rfl
      refine ⟨by rw [vp_in_iff]; omega, ?_⟩
      rw [eN]
      rw [mxF] at hf
      have hv : mxS a (x.1 (o + 5) I) = ((a ^^^ x.1 (o + 5) I) * 16777619) ^^^ ((((a ^^^ x.1 (o + 5) I) * 16777619 : Int32).toUInt32 >>> ((15 : Int32).toUInt32 &&& Int32.toUInt32 31)).toInt32) := by unfold mxS; rfl
      rw [← hv]
      exact ih (I + 1) _ _ e1 (by omega) hf
  exact kg_X5_mixPart_0 hq ho _ _ _ (loop m' f' _ _ ef rfl hF)
theorem kh_usedOf (hq : kV q) (ho : kiM q o) (h : MM x o) (t : Int32) {T : Nat} (et : t.toInt = T) (hT : (T : Int) < (x.1 60 10).toInt) (hF : ∀ r : Int32, r.toInt = (usN x o T : Nat) → usN x o T ≤ 32 → F r x) : KT G q (d + 1) zk_X5_usedOf 0 [(0, vr o), (1, vi t)] [] x (ri F) := by
  have hT6 := MM_6 h.1 hT
  have l8 := (h.2.2 T hT).1.2.1
  obtain ⟨b1, b2, b3, -⟩ := MG_b h.1 h.2.1
  have k2 : (2 : Int32).toInt = 2 := rfl
  refine kg_X5_usedOf_0 hq ho _ (kp_get hq ho h.1 h.2.1 _ _ et (show (7 : Int32).toInt = ((7 : Nat) : Int) from rfl) hT6 (by omega) (ri_i ?_))
  have e1 : (2 * rg x o T 7).toInt = 2 * (rg x o T 7).toInt := by rw [t_mul (by rw [k2]; omega) (by rw [k2]; omega), k2]
  have e2 : (x.1 o 9 + 2 * rg x o T 7).toInt = (x.1 o 9).toInt + 2 * (rg x o T 7).toInt := by rw [t_add (by omega) (by omega), e1]
  exact hF _ (by unfold usN; omega) (by unfold usN; omega)
theorem th_ix2 (h : MM x o) {t : Int32} {T : Nat} (et : t.toInt = T) (hT : T < 6) : (x.1 o 7 + t * x.1 o 8).toInt = (((x.1 o 7).toInt.toNat + T * (x.1 o 8).toInt.toNat : Nat) : Int) ∧ (x.1 o 7).toInt.toNat + T * (x.1 o 8).toInt.toNat ≤ 196 := by
  obtain ⟨b1, b2, -⟩ := MG_b h.1 h.2.1
  obtain ⟨u0, u1⟩ := th_ix h et hT
  obtain ⟨e1, -⟩ := pa_ix et (show (0 : Int32).toInt = ((0 : Nat) : Int) from rfl) b1 (s := x.1 o 8) (by omega) hT (by omega)
  have z : x.1 o 7 + t * x.1 o 8 + 0 = x.1 o 7 + t * x.1 o 8 := Int32.add_zero _
  rw [z, t_cl, Nat.add_zero] at e1
  omega
theorem kh_mix (hq : kV q) (ho : kiM q o) (h : MM x o) (hF : F (mxO x o) x) : KT G q (d + 2) zk_X5_mix 0 [(0, vr o)] [] x (ri F) := by
  have t6 := h.1.1.2.2.1
  obtain ⟨b1, b2, -⟩ := MG_b h.1 h.2.1
  obtain ⟨a0, ea0⟩ : ∃ a0, a0 = mxF mxS (x.1 (o + 5)) (x.1 o 7).toInt.toNat 0 0 := ⟨_, rfl⟩
  unfold mxO at hF
  rw [← ea0] at hF
  have loop : ∀ (n k : Nat) (a i : Int32), i.toInt = k → k + n = (x.1 60 10).toInt.toNat → a = mxT mxS (x.1 (o + 5)) (x.1 o 7).toInt.toNat (x.1 o 8).toInt.toNat (usN x o) k a0 → KT G q (d + 2) zk_X5_mix 13 [(0, vr o), (1, vi a), (2, vi i)] [] x (ri F) := by
    intro n
    induction n with
    | zero =>
      intro k a i ei hn ea
      refine kg_X5_mix_13 hq ho _ _ ⟨fun _ => ri_i ?_, fun c => ?_⟩
      · rw [ea, show k = (x.1 60 10).toInt.toNat by omega]; exact hF
      · exfalso; rw [t_le] at c; omega
    | succ n ih =>
      intro k a i ei hn ea
      refine kg_X5_mix_13 hq ho _ _ ⟨fun c => ?_, fun c => ?_⟩
      · exfalso; rw [t_le] at c; omega
      have e1 : (i + 1).toInt = ((k + 1 : Nat) : Int) := by rw [t_add (by show _ ≤ _ + (1 : Int); omega) (by show _ + (1 : Int) ≤ _; omega), ei]; rfl
      obtain ⟨u0, u1⟩ := th_ix2 h ei (by omega)
      refine kh_usedOf hq ho h _ ei (by omega) (fun r er r32 => kh_mixPart hq ho _ _ _ u0 er (by omega) (ih (k + 1) _ _ e1 (by omega) ?_))
      rw [mxT, ← ea]
  exact kg_X5_mix_0 hq ho (kh_mixPart hq ho _ _ _ (f' := 0) (m' := (x.1 o 7).toInt.toNat) rfl (by omega) (by omega) (loop (x.1 60 10).toInt.toNat 0 _ _ rfl (by omega) (by rw [mxT, ea0])))
theorem kh_isSamePart (hq : kV q) (ho : kiM q o) {a1 : Nat} (ka : kK a1 = .inr (.int, 228)) (ma : a1 ∈ (kf q).2.1) (f m : Int32) {f' m' : Nat} (ef : f.toInt = f') (em : m.toInt = m') (h2 : f' + m' ≤ 228) (hF : ∀ r : Int32, gbool r → (¬ r = 0 ↔ ∀ j, f' ≤ j → j < f' + m' → x.1 (o + 5) j = x.1 a1 j) → F r x) : KT G q d zk_X5_isSamePart 0 [(0, vr o), (1, vr a1), (2, vi f), (3, vi m)] [] x (ri F) := by
  have efm : (f + m).toInt = f.toInt + m.toInt := t_add (by omega) (by omega)
  have loop : ∀ (n I : Nat) (i : Int32), i.toInt = I → I + n = f' + m' → f' ≤ I → (∀ j, f' ≤ j → j < I → x.1 (o + 5) j = x.1 a1 j) → KT G q d zk_X5_isSamePart 3 [(0, vr o), (1, vr a1), (2, vi f), (3, vi m), (4, vi i)] [] x (ri F) := by
    intro n
    induction n with
    | zero =>
      intro I i ei hn hfI hs
      refine kg_X5_isSamePart_3 hq ho ka ma _ _ _ ⟨fun _ => ri_i (hF _ gbool_1 ⟨fun _ j h1 h9 => hs j h1 (by omega), fun _ => by decide⟩), fun c => ?_⟩
      exfalso; rw [t_le] at c; omega
    | succ n ih =>
      intro I i ei hn hfI hs
      refine kg_X5_isSamePart_3 hq ho ka ma _ _ _ ⟨fun c => ?_, fun c => ?_⟩
      · exfalso; rw [t_le] at c; omega
      have e1 : (i + 1).toInt = ((I + 1 : Nat) : Int) := by rw [t_add (by show _ ≤ _ + (1 : Int); omega) (by show _ + (1 : Int) ≤ _; omega), ei]; rfl
      have eN : i.toNatClampNeg = I := by rw [t_cl, ei]; rfl
      have v : vp_in i 228 := by rw [vp_in_iff]; omega
      rw [eN]
      refine ⟨v, v, fun ce => ih (I + 1) _ e1 (by omega) (by omega) (fun j h1 h9 => ?_), fun ce => ri_i (hF _ gbool_0 ⟨fun z => absurd rfl z, fun z => absurd (z I hfI (by omega)) ce⟩)⟩
      by_cases cj : j = I
      · rw [cj]; exact ce
      · exact hs j h1 (by omega)
  exact kg_X5_isSamePart_0 hq ho ka ma _ _ (loop m' f' _ ef rfl (Nat.le_refl _) (fun j h1 h9 => by omega))
theorem kh_isSame (hq : kV q) (ho : kiM q o) (h : MM x o) {a1 : Nat} (ka : kK a1 = .inr (.int, 228)) (ma : a1 ∈ (kf q).2.1) (hF : ∀ r : Int32, gbool r → (¬ r = 0 ↔ rwS x o (x.1 a1)) → F r x) : KT G q (d + 2) zk_X5_isSame 0 [(0, vr o), (1, vr a1)] [] x (ri F) := by
  have t6 := h.1.1.2.2.1
  obtain ⟨b1, b2, -⟩ := MG_b h.1 h.2.1
  have loop : ∀ (n k : Nat) (a i : Int32), gbool a → i.toInt = k → k + n = (x.1 60 10).toInt.toNat → (¬ a = 0 ↔ (∀ j : Nat, (j : Int) < (x.1 o 7).toInt → x.1 (o + 5) j = x.1 a1 j) ∧ ∀ t j : Nat, t < k → j < usN x o t → x.1 (o + 5) (pa x o t j) = x.1 a1 (pa x o t j)) → KT G q (d + 2) zk_X5_isSame 13 [(0, vr o), (1, vr a1), (2, vi a), (3, vi i)] [] x (ri F) := by
    intro n
    induction n with
    | zero =>
      intro k a i ga ei hn ha
      refine kg_X5_isSame_13 hq ho ka ma _ _ ⟨fun _ => ⟨ga, ri_i (hF _ ga ?_)⟩, fun c => ?_⟩
      · rw [ha]
        exact ⟨fun z => ⟨z.1, fun t j ht hj => z.2 t j (by omega) hj⟩, fun z => ⟨z.1, fun t j ht hj => z.2 t j (by omega) hj⟩⟩
      · exfalso; rw [t_le] at c; omega
    | succ n ih =>
      intro k a i ga ei hn ha
      refine kg_X5_isSame_13 hq ho ka ma _ _ ⟨fun c => ?_, fun c => ⟨fun c0 => ⟨ga, ri_i (hF _ ga ?_)⟩, fun c0 => ?_⟩⟩
      · exfalso; rw [t_le] at c; omega
      · refine ⟨fun z => absurd c0 z, fun z => ?_⟩
        exact absurd c0 (ha.mpr ⟨z.1, fun t j ht hj => z.2 t j (by omega) hj⟩)
      have e1 : (i + 1).toInt = ((k + 1 : Nat) : Int) := by rw [t_add (by show _ ≤ _ + (1 : Int); omega) (by show _ + (1 : Int) ≤ _; omega), ei]; rfl
      obtain ⟨u0, u1⟩ := th_ix2 h ei (by omega)
      refine kh_usedOf hq ho h _ ei (by omega) (fun r er r32 => kh_isSamePart hq ho ka ma _ _ u0 er (by omega) (fun r5 g5 h5 => ih (k + 1) _ _ g5 e1 (by omega) ?_))
      obtain ⟨p1, p2⟩ := ha.mp c0
      rw [h5]
      refine ⟨fun z => ⟨p1, fun t j ht hj => ?_⟩, fun z j h1 h9 => ?_⟩
      · by_cases ct : t = k
        · rw [ct] at hj ⊢
          exact z (pa x o k j) (by unfold pa; omega) (by unfold pa; omega)
        · exact p2 t j (by omega) hj
      · have := z.2 k (j - ((x.1 o 7).toInt.toNat + k * (x.1 o 8).toInt.toNat)) (by omega) (by omega)
        unfold pa at this
        rw [show (x.1 o 7).toInt.toNat + k * (x.1 o 8).toInt.toNat + (j - ((x.1 o 7).toInt.toNat + k * (x.1 o 8).toInt.toNat)) = j by omega] at this
        exact this
  refine kg_X5_isSame_0 hq ho ka ma (kh_isSamePart hq ho ka ma _ _ (f' := 0) (m' := (x.1 o 7).toInt.toNat) rfl (by omega) (by omega) (fun r gr hr => loop (x.1 60 10).toInt.toNat 0 _ _ gr rfl (by omega) ?_))
  rw [hr]
  exact ⟨fun z => ⟨fun j hj => z j (Nat.zero_le _) (by omega), fun t j ht => absurd ht (Nat.not_lt_zero _)⟩, fun z j _ hj => z.1 j (by omega)⟩
end KSM
end
section
/-! the class: rows that are the same hold one state, and the other way round -/
/-- the same program, the same places -/
def gmE (x y : gd) (o : Nat) : Prop := (y.1 60 6 = x.1 60 6 ∧ y.1 60 9 = x.1 60 9 ∧ y.1 60 10 = x.1 60 10 ∧ y.1 60 13 = x.1 60 13) ∧ y.1 o 7 = x.1 o 7 ∧ y.1 o 8 = x.1 o 8 ∧ y.1 o 9 = x.1 o 9
section KON
variable {x y z : gd} {o : Nat} {C : gCo} {M M' : gMa} {t k : Nat} {h h' : gTq}
theorem gm_pa (e : gmE x y o) (t k : Nat) : pa y o t k = pa x o t k := by
  unfold pa; rw [e.2.1, e.2.2.1]
theorem kTq_same (hM : MM x o) (ht : (t : Int) < (x.1 60 10).toInt) (e : gmE x y o) (g : kTq x o C t h) (g' : kTq y o C t h) (hk : k < usN x o t) : rg x o t k = rg y o t k := by
  obtain ⟨b1, b2, b3, b4, b5, b6, b7⟩ := MG_b hM.1 hM.2.1
  obtain ⟨⟨q0, q0'⟩, q1, q2, ⟨q3, q5, qw⟩, q4, q6, ⟨q7, ql⟩, qv, qk⟩ := g
  obtain ⟨⟨r0, r0'⟩, r1, r2, ⟨r3, r5, rw'⟩, r4, r6, ⟨r7, rl⟩, rv', rk⟩ := g'
  rw [e.1.2.2.2] at rv'
  rw [e.2.2.2] at rl
  unfold usN at hk
  by_cases c8 : k < 8
  · have : k = 0 ∨ k = 1 ∨ k = 2 ∨ k = 3 ∨ k = 4 ∨ k = 5 ∨ k = 6 ∨ k = 7 := by omega
    rcases this with c | c | c | c | c | c | c | c <;> rw [c]
    · rw [q0, r0]
    · rw [q1, r1]
    · rw [t_eq, q2, r2]
    · rw [q3, r3]
    · rw [q4, r4]
    · rw [q5, r5]
    · rw [q6, r6]
    · rw [t_eq, q7, r7]
  · by_cases c9 : (k : Int) < (x.1 o 9).toInt
    · obtain ⟨p, ep⟩ : ∃ p, k = 8 + p := ⟨k - 8, by omega⟩
      rw [ep, qv p (by omega), rv' p (by omega)]
    · obtain ⟨i, ei⟩ : ∃ i, k = (x.1 o 9).toInt.toNat + 2 * i ∨ k = (x.1 o 9).toInt.toNat + 2 * i + 1 := ⟨(k - (x.1 o 9).toInt.toNat) / 2, by omega⟩
      have hi : i < h.2.2.2.2.2.2.1.length := by omega
      obtain ⟨p, hp⟩ : ∃ p, h.2.2.2.2.2.2.1[i]? = some p := ⟨_, List.getElem?_eq_getElem hi⟩
      obtain ⟨a1, a2⟩ := ql i p hp
      obtain ⟨a3, a4⟩ := rl i p hp
      rcases ei with ei | ei <;> rw [ei]
      · rw [t_eq, a1, a3]
      · rw [a2, a4]
theorem KMm_same (hM : MM x o) (hK : CK x C) (e : gmE x y o) (g : KMm x o C M) (g' : KMm y o C M) : rwS x o (y.1 (o + 5)) := by
  have nT : (x.1 60 10).toInt = C.2.1.length := hK.2.1.1
  obtain ⟨m1, m2, m3, -⟩ := hM.2.1
  have c1 := hM.1.1.1
  have c2 := hM.1.1.2.1
  obtain ⟨⟨gc, gl⟩, gt⟩ := g
  obtain ⟨⟨gc', gl'⟩, gt'⟩ := g'
  rw [e.1.1] at gc' gl'
  rw [e.1.2.1] at gl'
  refine ⟨fun j hj => ?_, fun t k ht hk => ?_⟩
  · by_cases cj : (j : Int) < (x.1 60 6).toInt
    · rw [gc j cj, gc' j cj]
    · obtain ⟨l, el⟩ : ∃ l, j = (x.1 60 6).toInt.toNat + 2 * l ∨ j = (x.1 60 6).toInt.toNat + 2 * l + 1 := ⟨(j - (x.1 60 6).toInt.toNat) / 2, by omega⟩
      obtain ⟨a1, -, a2⟩ := gl l (by omega)
      obtain ⟨a3, -, a4⟩ := gl' l (by omega)
      rcases el with el | el <;> rw [el]
      · rw [a1, a3]
      · rw [a2, a4]
  · have := kTq_same hM ht e (gt t (by omega)) (gt' t (by omega)) hk
    unfold rg at this
    rw [gm_pa e] at this
    exact this
theorem ofN_in9 {a b : Nat} (ha : a ≤ 9) (hb : b ≤ 9) (h : Int32.ofNat a = Int32.ofNat b) : a = b := by
  have e1 : (Int32.ofNat a).toInt = (a : Nat) := Int32.toInt_ofNat_of_lt (by omega)
  have e2 : (Int32.ofNat b).toInt = (b : Nat) := Int32.toInt_ofNat_of_lt (by omega)
  rw [t_eq, e1, e2] at h
  omega
theorem i32_c1 {a b : Int32} (h : a + 1 = b + 1) : a = b := by
  have e2 : a + 1 - 1 = b + 1 - 1 := by rw [h]
  rw [Int32.add_sub_cancel, Int32.add_sub_cancel] at e2
  exact e2
theorem kTq_one (hM : MM x o) (hM' : MM y o) (hK : CK x C) (hK' : CK y C) (hN : NC C) (ht : t < C.2.1.length) (e : gmE x y o) (g : kTq x o C t h) (g' : kTq y o C t h') (n9 : h.2.1 ≤ 9) (n9' : h'.2.1 ≤ 9) (q : tCn C h) (q' : tCn C h') (hr : ∀ k, k < usN x o t → rg x o t k = rg y o t k) : h = h' := by
  have nT : (x.1 60 10).toInt = C.2.1.length := hK.2.1.1
  obtain ⟨b1, b2, b3, b4, b5, b6, b7⟩ := MG_b hM.1 hM.2.1
  have w3 := kst_w3 hM hK hN ht g
  have w3' := kst_w3 hM' hK' hN ht g'
  obtain ⟨⟨q0, q0'⟩, q1, q2, ⟨q3, q5, qw, -⟩, q4, q6, ⟨q7, ql⟩, qv, qk⟩ := g
  obtain ⟨⟨r0, r0'⟩, r1, r2, ⟨r3, r5, rw', -⟩, r4, r6, ⟨r7, rl⟩, rv', rk⟩ := g'
  have u8 : ∀ k, k < 8 → k < usN x o t := fun k hk => by unfold usN; omega
  have h0 := hr 0 (u8 0 (by omega))
  have h1 := hr 1 (u8 1 (by omega))
  have h2 := hr 2 (u8 2 (by omega))
  have h3 := hr 3 (u8 3 (by omega))
  have h4 := hr 4 (u8 4 (by omega))
  have h5 := hr 5 (u8 5 (by omega))
  have h6 := hr 6 (u8 6 (by omega))
  have h7 := hr 7 (u8 7 (by omega))
  have e0 : h.1 = h'.1 := ofN_in9 (by omega) (by omega) (by rw [← q0, ← r0, h0])
  have e1 : h.2.1 = h'.2.1 := ofN_in9 n9 n9' (by rw [← q1, ← r1, h1])
  have e2 : h.2.2.1 = h'.2.2.1 := by rw [h2, r2] at q2; omega
  have e3 : h.2.2.2.1 = h'.2.2.2.1 := by
    have z0 : h.2.2.2.1 = 0 ↔ h'.2.2.2.1 = 0 := by rw [← w3, ← w3', h3]
    have z2 : h.2.2.2.1 = 2 ↔ h'.2.2.2.1 = 2 := by
      have : (if h.2.2.2.1 = 2 then (1 : Int32) else 0) = if h'.2.2.2.1 = 2 then 1 else 0 := by rw [← q5, ← r5, h5]
      by_cases c1 : h.2.2.2.1 = 2
      · by_cases c2 : h'.2.2.2.1 = 2
        · exact ⟨fun _ => c2, fun _ => c1⟩
        · rw [if_pos c1, if_neg c2] at this; exact absurd this (by decide)
      · by_cases c2 : h'.2.2.2.1 = 2
        · rw [if_neg c1, if_pos c2] at this; exact absurd this (by decide)
        · exact ⟨fun z => absurd z c1, fun z => absurd z c2⟩
    omega
  have e4 : h.2.2.2.2.1 = h'.2.2.2.2.1 := by rw [← q4, ← r4, h4]
  have e6 : h.2.2.2.2.2.1 = h'.2.2.2.2.2.1 := i32_c1 (by rw [← q6, ← r6, h6])
  have len : h.2.2.2.2.2.2.1.length = h'.2.2.2.2.2.2.1.length := by rw [h7, r7] at q7; omega
  rw [e.2.2.2] at rl
  have e7 : h.2.2.2.2.2.2.1 = h'.2.2.2.2.2.2.1 := by
    refine List.ext_getElem? (fun i => ?_)
    by_cases ci : i < h.2.2.2.2.2.2.1.length
    · obtain ⟨p, hp⟩ : ∃ p, h.2.2.2.2.2.2.1[i]? = some p := ⟨_, List.getElem?_eq_getElem ci⟩
      obtain ⟨p', hp'⟩ : ∃ p', h'.2.2.2.2.2.2.1[i]? = some p' := ⟨_, List.getElem?_eq_getElem (by omega)⟩
      obtain ⟨a1, a2⟩ := ql i p hp
      obtain ⟨a3, a4⟩ := rl i p' hp'
      have k1 := hr ((x.1 o 9).toInt.toNat + 2 * i) (by unfold usN; omega)
      have k2 := hr ((x.1 o 9).toInt.toNat + 2 * i + 1) (by unfold usN; omega)
      rw [hp, hp']
      rw [k1, a3] at a1
      rw [k2, a4] at a2
      exact congrArg some (Prod.ext (by omega) a2.symm)
    · rw [List.getElem?_eq_none_iff.mpr (by omega), List.getElem?_eq_none_iff.mpr (by omega)]
  have e8 : h.2.2.2.2.2.2.2 = h'.2.2.2.2.2.2.2 := by
    funext p
    rw [e.1.2.2.2] at rv'
    by_cases cp : (p : Int) < (x.1 60 13).toInt
    · have := hr (8 + p) (by unfold usN; omega)
      rw [qv p cp, rv' p cp] at this
      exact this
    · have z1 := q.1 p (fun z => by have := qk z.1; omega)
      have z2 := q'.1 p (fun z => by have := rk z.1; rw [e.1.2.2.2] at this; omega)
      rw [z1, z2]
  exact Prod.ext e0 (Prod.ext e1 (Prod.ext e2 (Prod.ext e3 (Prod.ext e4 (Prod.ext e6 (Prod.ext e7 e8))))))
theorem KMm_one {nl : Nat} (hM : MM x o) (hM' : MM y o) (hK : CK x C) (hK' : CK y C) (hN : NC C) (en : (x.1 60 9).toInt = (nl : Nat)) (e : gmE x y o) (g : KMm x o C M) (g' : KMm y o C M') (q : MCn C nl M) (q' : MCn C nl M') (n9 : NBm M) (n9' : NBm M') (hr : rwS x o (y.1 (o + 5))) : M = M' := by
  have nT : (x.1 60 10).toInt = C.2.1.length := hK.2.1.1
  have nC : (x.1 60 6).toInt = C.2.2.1.length := hK.2.2.1.1
  obtain ⟨m1, m2, m3, -⟩ := hM.2.1
  have c1 := hM.1.1.1
  obtain ⟨⟨gc, gl⟩, gt⟩ := g
  obtain ⟨⟨gc', gl'⟩, gt'⟩ := g'
  rw [e.1.1] at gc' gl'
  rw [e.1.2.1] at gl'
  refine MCn_eq q q' (fun c hc => ?_) (fun l hl => ?_) (fun t ht => ?_)
  · rw [← gc c (by omega), ← gc' c (by omega)]; exact hr.1 c (by omega)
  · obtain ⟨a1, a5, a2⟩ := gl l (by omega)
    obtain ⟨a3, a6, a4⟩ := gl' l (by omega)
    have k1 := hr.1 ((x.1 60 6).toInt.toNat + 2 * l) (by omega)
    have k2 := hr.1 ((x.1 60 6).toInt.toNat + 2 * l + 1) (by omega)
    exact Prod.ext (ofN_in9 (by omega) (by omega) (by rw [← a1, ← a3, k1])) (by rw [← a2, ← a4, k2])
  · refine kTq_one hM hM' hK hK' hN ht e (gt t ht) (gt' t ht) (n9 t) (n9' t) (q.2.2 t).2 (q'.2.2 t).2 (fun k hk => ?_)
    have := hr.2 t k (by omega) hk
    unfold rg
    rw [gm_pa e]
    exact this
/-- the same row, the same mix -/
theorem mxT_same {S : Int32 → Int32 → Int32} {a0 : Int32} (hM : MM x o) (us : ∀ t : Nat, (t : Int) < (x.1 60 10).toInt → usN y o t = usN x o t) (hr : rwS x o (y.1 (o + 5))) : ∀ n : Nat, n ≤ (x.1 60 10).toInt.toNat → mxT S (y.1 (o + 5)) (x.1 o 7).toInt.toNat (x.1 o 8).toInt.toNat (usN y o) n a0 = mxT S (x.1 (o + 5)) (x.1 o 7).toInt.toNat (x.1 o 8).toInt.toNat (usN x o) n a0 := by
  intro n
  induction n with
  | zero => intro _; rw [mxT, mxT]
  | succ n ih =>
    intro hn
    rw [mxT, mxT, ih (by omega), us n (by omega)]
    refine mxF_cg (fun j h1 h2 => ?_)
    have := hr.2 n (j - ((x.1 o 7).toInt.toNat + n * (x.1 o 8).toInt.toNat)) (by omega) (by omega)
    unfold pa at this
    rw [show (x.1 o 7).toInt.toNat + n * (x.1 o 8).toInt.toNat + (j - ((x.1 o 7).toInt.toNat + n * (x.1 o 8).toInt.toNat)) = j by omega] at this
    exact this.symm
theorem mx_sameS {S : Int32 → Int32 → Int32} (hM : MM x o) (e : gmE x y o) (hr : rwS x o (y.1 (o + 5))) : mxT S (y.1 (o + 5)) (y.1 o 7).toInt.toNat (y.1 o 8).toInt.toNat (usN y o) (y.1 60 10).toInt.toNat (mxF S (y.1 (o + 5)) (y.1 o 7).toInt.toNat 0 0) = mxT S (x.1 (o + 5)) (x.1 o 7).toInt.toNat (x.1 o 8).toInt.toNat (usN x o) (x.1 60 10).toInt.toNat (mxF S (x.1 (o + 5)) (x.1 o 7).toInt.toNat 0 0) := by
  obtain ⟨b1, b2, b3, b4, b5, b6, b7⟩ := MG_b hM.1 hM.2.1
  have us : ∀ t : Nat, (t : Int) < (x.1 60 10).toInt → usN y o t = usN x o t := fun t ht => by
    have := hr.2 t 7 ht (by unfold usN; omega)
    unfold usN rg
    rw [gm_pa e, e.2.2.2, this]
  rw [e.2.1, e.2.2.1, e.1.2.2.1]
  have a1 : mxF S (y.1 (o + 5)) (x.1 o 7).toInt.toNat 0 0 = mxF S (x.1 (o + 5)) (x.1 o 7).toInt.toNat 0 0 := mxF_cg (fun j _ hj => (hr.1 j (by omega)).symm)
  rw [a1]
  exact mxT_same hM us hr _ (Nat.le_refl _)
theorem mx_same (hM : MM x o) (e : gmE x y o) (hr : rwS x o (y.1 (o + 5))) : mxO y o = mxO x o := by
  unfold mxO
  exact mx_sameS hM e hr
end KON
end
section
/-! the class: whether a state is kept -/
/-- the memory, a kept row recalled -/
def kpM (x : gd) (s : Nat) : gd := scp x (1000 + s) 225 0 0 (x.1 220 5).toNatClampNeg
/-- a kept row holds a state, its mix stands beside it -/
def KPs (C : gCo) (nl w : Nat) (x : gd) (s : Nat) (M : gMa) : Prop := KR x s ∧ KMm (kpM x s) 220 C M ∧ MIv C w M ∧ MCn C nl M ∧ NBm M ∧ x.1 204 s = mxO (kpM x s) 220
/-- the table: each state lies behind where its mix points, no gap between -/
def TBx (x : gd) (n : Nat) : Prop := (∀ j : Nat, j < 8192 → 0 ≤ (x.1 205 j).toInt ∧ (x.1 205 j).toInt ≤ (n : Nat)) ∧ (∀ s, s < n → ∃ p, p < 8192 ∧ (x.1 205 (((x.1 204 s &&& 8191).toNatClampNeg + p) % 8192)).toInt = (s : Int) + 1 ∧ ∀ i, i < p → ¬ x.1 205 (((x.1 204 s &&& 8191).toNatClampNeg + i) % 8192) = 0) ∧ (List.range 8192).countP (fun j => decide (¬ x.1 205 j = 0)) ≤ n
theorem t_and8e {a : Int32} (h : 0 ≤ a.toInt) : (a &&& 8191).toInt = a.toInt % 8192 := by
  have e0 : (a &&& 8191).toBitVec.toNat = a.toBitVec.toNat % 8192 := by
    rw [Int32.toBitVec_and, BitVec.toNat_and]
    exact Nat.and_two_pow_sub_one_eq_mod _ 13
  have ea : a.toInt = (a.toBitVec.toNat : Int) := by
    show a.toBitVec.toInt = _
    have h : 0 ≤ a.toBitVec.toInt := h
    rw [BitVec.toInt_eq_toNat_cond] at h ⊢
    split at h
    · next c => rw [if_pos c]
    · have := a.toBitVec.isLt
      omega
  have eb : (a &&& 8191).toInt = ((a &&& 8191).toBitVec.toNat : Int) := by
    show (a &&& 8191).toBitVec.toInt = _
    exact BitVec.toInt_eq_toNat_of_lt (by rw [e0]; omega)
  rw [eb, e0, ea]
  omega
section KPT
variable {G : kG} {q : kP} {d : Nat} {x y z : gd} {F : Int32 → gd → Prop} {Fv : gd → Prop} {C : gCo} {M : gMa} {Ms : Nat → gMa} {nl w n s : Nat}
theorem kp_gm (x : gd) (s : Nat) : gmE x (kpM x s) 220 := by
  have f : ∀ c k, ¬ c = 225 → (kpM x s).1 c k = x.1 c k := fun c k hc => by unfold kpM; rw [scp_get, if_neg (fun z => hc z.1)]
  exact ⟨⟨f _ _ (by decide), f _ _ (by decide), f _ _ (by decide), f _ _ (by decide)⟩, f _ _ (by decide), f _ _ (by decide), f _ _ (by decide)⟩
theorem kp_CK (hK : CK x C) : CK (kpM x s) C := CK_f hK (fun c k hc => by unfold kpM; rw [scp_get, if_neg (fun z => by omega)])
theorem kp_row (hM : MM x 220) : rwS x 220 (x.1 (1000 + s)) ↔ rwS x 220 ((kpM x s).1 225) := by
  have b := sz_b hM.1 hM.2.1
  obtain ⟨b1, b2, b3, b4, b5, b6, b7⟩ := MG_b hM.1 hM.2.1
  have t6 := hM.1.1.2.2.1
  have g6 := hM.2.1.2.2.2.2.2
  have cp : ∀ j : Nat, (j : Int) < (x.1 220 5).toInt → (kpM x s).1 225 j = x.1 (1000 + s) j := fun j hj => by
    unfold kpM
    rw [scp_get, if_pos ⟨rfl, by omega, by rw [t_cl]; omega⟩, Nat.sub_zero, Nat.zero_add]
  have p7 : ∀ j : Nat, (j : Int) < (x.1 220 7).toInt → (j : Int) < (x.1 220 5).toInt := fun j hj => by
    have : 0 ≤ (x.1 220 8).toInt * (x.1 60 10).toInt := Int.mul_nonneg (by omega) (by omega)
    omega
  have pp : ∀ t k : Nat, (t : Int) < (x.1 60 10).toInt → k < usN x 220 t → (pa x 220 t k : Int) < (x.1 220 5).toInt := fun t k ht hk => by
    refine pa_lt hM.2.1 ht ?_ (by omega)
    have hA := (hM.2.2 t ht).1
    unfold usN at hk
    by_cases c0 : (rg x 220 t 7).toInt = 0
    · omega
    · have := (lt_in hM.1 hM.2.1 hA (i := (rg x 220 t 7).toInt.toNat - 1) (by have := hA.2.1; omega)).2
      have := hA.2.1
      omega
  unfold rwS
  refine and_congr (forall_congr' fun j => imp_congr_right fun hj => ?_) (forall_congr' fun t => forall_congr' fun k => imp_congr_right fun ht => imp_congr_right fun hk => ?_)
  · rw [cp j (p7 j hj)]
  · rw [cp _ (pp t k ht hk)]
/-- the machine's state is a kept one just where the rows are the same -/
theorem kp_one (hM : MM x 220) (hK : CK x C) (hN : NC C) (en : (x.1 60 9).toInt = (nl : Nat)) (g : KMm x 220 C M) (qc : MCn C nl M) (qn : NBm M) {M' : gMa} (k : KPs C nl w x s M') : (M = M' ↔ rwS x 220 (x.1 (1000 + s))) ∧ (M = M' → x.1 204 s = mxO x 220) := by
  obtain ⟨k1, k2, k3, k4, k5, k6⟩ := k
  have k1 : MM (kpM x s) 220 := k1
  have sm : M = M' → rwS x 220 ((kpM x s).1 225) := fun e => KMm_same hM hK (kp_gm x s) g (by rw [e]; exact k2)
  refine ⟨⟨fun e => (kp_row hM).mpr (sm e), fun r => KMm_one hM k1 hK (kp_CK hK) hN en (kp_gm x s) g k2 qc k4 qn k5 ((kp_row hM).mp r)⟩, fun e => ?_⟩
  rw [k6]
  exact mx_same hM (kp_gm x s) (sm e)
theorem kx_isKept3 (hq : kV q) (he : q.ex = true) (hM : MM x 220) (hn : q.kn ≤ 3000) (nk : n ≤ q.kn) (hK : CK x C) (hN : NC C) (en : (x.1 60 9).toInt = (nl : Nat)) (g : KMm x 220 C M) (qc : MCn C nl M) (qn : NBm M) (hs : ∀ s, s < n → KPs C nl w x s (Ms s)) (hT : TBx x n) (h : ∀ r y, gbool r → fm sKp x y → (0 ≤ (y.1 200 5).toInt ∧ (y.1 200 5).toInt < 8192) → y.1 200 6 = mxO x 220 → ((¬ r = 0 ∧ ∃ s, s < n ∧ Ms s = M) ∨ (r = 0 ∧ (∀ s, s < n → ¬ Ms s = M) ∧ x.1 205 (y.1 200 5).toNatClampNeg = 0 ∧ ∃ p, p < 8192 ∧ (y.1 200 5).toNatClampNeg = ((mxO x 220 &&& 8191).toNatClampNeg + p) % 8192 ∧ ∀ i, i < p → ¬ x.1 205 (((mxO x 220 &&& 8191).toNatClampNeg + i) % 8192) = 0)) → F r y) : KT G q (d + 3) zk_X2_isKept 0 [(0, vr 200)] [] x (ri F) := by
  have kM : (8192 : Int32).toInt = 8192 := rfl
  have k1 : (1 : Int32).toInt = 1 := rfl
  have k0 : (0 : Int32).toInt = 0 := rfl
  obtain ⟨hT1, hT2, hT3⟩ := hT
  have mm : ∀ y, fm sKp x y → MM y 220 := fun y f => MM_ag (fun c k hc => f c k (by unfold sKp; omega)) (fun k h1 h2 => f _ _ (by unfold sKp; omega)) (fun k hk => f _ _ (by unfold sKp; omega)) hM
  have rr : ∀ y, fm sKp x y → ∀ s, (rwS y 220 (y.1 (1000 + s)) ↔ rwS x 220 (x.1 (1000 + s))) := fun y f s => by
    have f7 : y.1 220 7 = x.1 220 7 := f _ _ (by unfold sKp; omega)
    have f8 : y.1 220 8 = x.1 220 8 := f _ _ (by unfold sKp; omega)
    have f9 : y.1 220 9 = x.1 220 9 := f _ _ (by unfold sKp; omega)
    have f5 : y.1 (220 + 5) = x.1 (220 + 5) := funext (fun k => f _ _ (by unfold sKp; omega))
    have fs : y.1 (1000 + s) = x.1 (1000 + s) := funext (fun k => f _ _ (by unfold sKp; omega))
    have f10 : y.1 60 10 = x.1 60 10 := f _ _ (by unfold sKp; omega)
    unfold rwS usN rg pa
    rw [f7, f8, f9, f5, fs, f10]
  obtain ⟨mx, emx⟩ : ∃ mx, mx = mxO x 220 := ⟨_, rfl⟩
  rw [← emx] at h
  obtain ⟨H, eH⟩ : ∃ H : Nat, H = (mx &&& 8191).toNatClampNeg := ⟨_, rfl⟩
  have H8 : H < 8192 := by have := t_and8 mx; rw [eH, t_cl]; omega
  rw [← eH] at h
  -- what was looked at is another state
  have loop : ∀ (m k : Nat) (i : Int32) (y : gd), i.toInt = k → k + m = 8192 → fm sKp x y → (y.1 200 5).toInt = (((H + k) % 8192 : Nat) : Int) → y.1 200 6 = mx → (∀ i, i < k → ¬ x.1 205 ((H + i) % 8192) = 0) → (∀ i s, i < k → (x.1 205 ((H + i) % 8192)).toInt = (s : Nat) + 1 → ¬ Ms s = M) → KT G q (d + 3) zk_X2_isKept 25 [(0, vr 200), (1, vi i)] [] y (ri F) := by
    intro m
    induction m with
    | zero =>
      intro k i y ei hm fy hy y6 hz hne
      exfalso
      have all : ∀ j ∈ List.range 8192, decide (¬ x.1 205 j = 0) = true := fun j hj => by
        have hj := List.mem_range.mp hj
        have := hz ((j + 8192 - H) % 8192) (by omega)
        rw [show (H + (j + 8192 - H) % 8192) % 8192 = j by omega] at this
        exact decide_eq_true this
      have := List.countP_eq_length.mpr all
      rw [List.length_range] at this
      omega
    | succ m ih =>
      intro k i y ei hm fy hy y6 hz hne
      refine kg_X2_isKept_25 hq he _ ⟨fun c => ?_, fun c => ?_⟩
      · exfalso; rw [t_le, kM] at c; omega
      have e1 : (i + 1).toInt = ((k + 1 : Nat) : Int) := by rw [t_add (by show _ ≤ _ + (1 : Int); omega) (by show _ + (1 : Int) ≤ _; omega), ei]; rfl
      have hy8 : 0 ≤ (y.1 200 5).toInt ∧ (y.1 200 5).toInt < 8192 := by omega
      have v8 : vp_in (y.1 200 5) 8192 := by rw [vp_in_iff]; omega
      obtain ⟨J, hJ⟩ : ∃ J : Nat, J = (y.1 200 5).toNatClampNeg := ⟨_, rfl⟩
      have eJ : J = (H + k) % 8192 := by rw [hJ, t_cl, hy]; rfl
      have hJ8 : J < 8192 := by omega
      rw [← hJ]
      rw [fy 205 J (by unfold sKp; omega)]
      refine ⟨v8, fun c0 => ri_i (h _ _ gbool_0 fy hy8 y6 (Or.inr ⟨rfl, fun s hs9 => ?_, by rw [← hJ]; exact c0, k, by omega, by rw [← hJ]; exact eJ, hz⟩)), fun c2 => ⟨v8, ?_⟩⟩
      · intro eM
        have kp := kp_one hM hK hN en g qc qn (hs s hs9)
        have em := kp.2 eM.symm
        obtain ⟨p, p8, p1, p2⟩ := hT2 s hs9
        rw [em, ← emx, ← eH] at p1 p2
        by_cases cp : p < k
        · exact hne p s cp p1 eM
        · by_cases cp2 : p = k
          · rw [cp2, ← eJ, c0, k0] at p1; omega
          · exact p2 k (by omega) (by rw [← eJ]; exact c0)
      have tj := hT1 J hJ8
      rw [t_eq, k0] at c2
      obtain ⟨s, hs9⟩ : ∃ s : Int32, s = x.1 205 J - 1 := ⟨_, rfl⟩
      have es : s.toInt = (x.1 205 J).toInt - 1 := by rw [hs9, t_sub (by rw [k1]; omega) (by rw [k1]; omega), k1]
      rw [← hs9]
      clear hs9
      have vs : vp_in s 3000 := by rw [vp_in_iff]; omega
      have eS : s.toNatClampNeg = s.toInt.toNat := rfl
      have hsn : s.toInt.toNat < n := by omega
      have kp := kp_one hM hK hN en g qc qn (hs s.toInt.toNat hsn)
      have go : ¬ Ms s.toInt.toNat = M → ∀ z w', fm sKp x z → z.1 200 5 = y.1 200 5 → z.1 200 6 = mx → w' = si z 200 5 ((z.1 200 5 + 1) &&& 8191) → KT G q (d + 3) zk_X2_isKept 25 [(0, vr 200), (1, vi (i + 1))] [] w' (ri F) := by
        intro nM z w' fz z5 z6 ew
        have w5 : w'.1 200 5 = (y.1 200 5 + 1) &&& 8191 := by rw [ew, si_get, if_pos ⟨rfl, rfl⟩, z5]
        have ep : (y.1 200 5 + 1).toInt = (y.1 200 5).toInt + 1 := by rw [t_add (by rw [k1]; omega) (by rw [k1]; omega), k1]
        refine ih (k + 1) _ w' e1 (by omega) (by rw [ew]; exact fm_si fz (by unfold sKp; omega)) ?_ ?_ (fun i hi => ?_) (fun i s9 hi hs9 => ?_)
        · rw [w5, t_and8e (by omega), ep, hy]
          omega
        · rw [ew, si_get, if_neg (by decide)]; exact z6
        · by_cases ck : i = k
          · rw [ck, ← eJ]
            intro z9
            rw [z9, k0] at c2
            exact c2 rfl
          · exact hz i (by omega)
        · by_cases ck : i = k
          · rw [ck, ← eJ] at hs9
            have : s9 = s.toInt.toNat := by omega
            rw [this]; exact nM
          · exact hne i s9 (by omega) hs9
      refine ⟨vs, fun cm z ez => go (fun eM => ?_) y z fy rfl y6 ez, fun cm => ⟨vs, fun u eu => ?_⟩⟩
      · have em := kp.2 eM.symm
        rw [eS, fy 204 _ (by unfold sKp; omega), y6] at cm
        exact cm (by rw [em, emx])
      · have hsk : s.toInt.toNat < q.kn := by omega
        rw [eS, ke_r hsk] at eu
        refine ⟨_, eu, ke_k (by omega), ke_m hq hsk, kh_isSame hq (Or.inr ⟨rfl, he⟩) (mm y fy) (ke_k (by omega)) (ke_m hq hsk) (fun r gr hr => ⟨fun r0 z ez => go (fun eM => ?_) y z fy rfl y6 ez, fun rn => ri_i (h _ _ gbool_1 fy hy8 y6 (Or.inl ⟨by decide, s.toInt.toNat, hsn, ?_⟩))⟩)⟩
        · exact (hr.mpr ((rr y fy _).mpr (kp.1.mp eM.symm))) r0
        · exact (kp.1.mpr ((rr y fy _).mp (hr.mp rn))).symm
  refine kg_X2_isKept_0 hq he (kh_mix hq (Or.inr ⟨rfl, he⟩) hM (fun x3 e3 x4 e4 => ?_))
  rw [← emx] at e3
  have g6 : x3.1 200 6 = mx := by rw [e3, si_get, if_pos ⟨rfl, rfl⟩]
  have g5 : x4.1 200 5 = mx &&& 8191 := by rw [e4, si_get, if_pos ⟨rfl, rfl⟩, g6]
  refine loop 8192 0 _ x4 rfl (by omega) (by rw [e4, e3]; exact fm_si (fm_si (fm_rf _ _) (by unfold sKp; omega)) (by unfold sKp; omega)) ?_ ?_ (fun i hi => absurd hi (Nat.not_lt_zero _)) (fun i s hi => absurd hi (Nat.not_lt_zero _))
  · have := t_and8 mx
    rw [g5]
    rw [t_cl] at eH
    omega
  · rw [e4, si_get, if_neg (by decide)]; exact g6
end KPT
end
section
/-! the class: a state is added -/
/-- what the memory holds of a trying: states, whence they come, whether it is partly -/
def KX3 (C : gCo) (nl w : Nat) (x : gd) (o : Nat) (T : gTy) : Prop := ((x.1 o 0).toInt = (T.1.length : Nat) ∧ x.1 o 1 = if T.2 = true then 1 else 0) ∧ (∀ s p, T.1[s]? = some p → KPs C nl w x s p.1) ∧ TBx x T.1.length ∧ ∀ s p, T.1[s]? = some p → (s = 0 → (x.1 (o + 12) 0).toInt = 0) ∧ (0 < s → p.2.1 < s ∧ (x.1 (o + 10) s).toInt = (p.2.1 : Nat) ∧ (x.1 (o + 11) s).toInt = (p.2.2 : Nat) ∧ (x.1 (o + 12) s).toInt = (x.1 (o + 12) p.2.1).toInt + 1)
theorem cnt_ins {f g : Nat → Bool} {J : Nat} (h : ∀ j, ¬ j = J → g j = f j) : ∀ m, (List.range m).countP g ≤ (List.range m).countP f + (if J < m then 1 else 0) := by
  intro m
  induction m with
  | zero => exact Nat.le_add_right _ _
  | succ m ih =>
    rw [List.range_succ, List.countP_append, List.countP_append, List.countP_singleton, List.countP_singleton]
    by_cases c : m = J
    · rw [if_neg (by omega)] at ih
      have e1 : (if J < m + 1 then 1 else 0) = 1 := if_pos (by omega)
      have : (if g m = true then 1 else 0) ≤ 1 := by split <;> omega
      omega
    · rw [h m c]
      have : (if J < m then 1 else 0) ≤ (if J < m + 1 then 1 else 0) := by
        split
        · rw [if_pos (by omega)]; exact Nat.le_refl _
        · exact Nat.zero_le _
      omega
section KEP
variable {G : kG} {q : kP} {d : Nat} {x y z : gd} {F : Int32 → gd → Prop} {Fv : gd → Prop} {Fm : gd → kP → Prop} {X : String → gd → kP → Prop} {C : gCo} {M : gMa} {T : gTy} {nl w n s o : Nat}
theorem TB_ins (hT : TBx x n) {J : Nat} (hJ : J < 8192) (h0 : x.1 205 J = 0) (y4 : ∀ s, s < n → y.1 204 s = x.1 204 s) (yJ : (y.1 205 J).toInt = (n : Int) + 1) (y5 : ∀ j, ¬ j = J → y.1 205 j = x.1 205 j) (hp : ∃ p, p < 8192 ∧ J = ((y.1 204 n &&& 8191).toNatClampNeg + p) % 8192 ∧ ∀ i, i < p → ¬ x.1 205 (((y.1 204 n &&& 8191).toNatClampNeg + i) % 8192) = 0) : TBx y (n + 1) := by
  obtain ⟨t1, t2, t3⟩ := hT
  have k0 : (0 : Int32).toInt = 0 := rfl
  have nz : ∀ j, ¬ x.1 205 j = 0 → ¬ y.1 205 j = 0 := fun j hj => by
    rw [y5 j (fun e => hj (by rw [e]; exact h0))]; exact hj
  refine ⟨fun j hj => ?_, fun s hs => ?_, ?_⟩
  · by_cases c : j = J
    · rw [c, yJ]; omega
    · rw [y5 j c]
      have := t1 j hj
      omega
  · by_cases c : s = n
    · rw [c]
      obtain ⟨p, p1, p2, p3⟩ := hp
      exact ⟨p, p1, by rw [← p2]; exact yJ, fun i hi => nz _ (p3 i hi)⟩
    · obtain ⟨p, p1, p2, p3⟩ := t2 s (by omega)
      rw [y4 s (by omega)]
      refine ⟨p, p1, ?_, fun i hi => nz _ (p3 i hi)⟩
      rw [y5 _ (fun e => ?_)]
      · exact p2
      · rw [e, h0, k0] at p2; omega
  · have := cnt_ins (f := fun j => decide (¬ x.1 205 j = 0)) (g := fun j => decide (¬ y.1 205 j = 0)) (J := J) (fun j hj => by show decide _ = decide _; rw [y5 j hj]) 8192
    have : (if J < 8192 then 1 else 0) ≤ 1 := by split <;> omega
    omega
theorem pz7 (hM : MM x 220) {j : Nat} (hj : (j : Int) < (x.1 220 7).toInt) : (j : Int) < (x.1 220 5).toInt := by
  obtain ⟨b1, b2, b3, b4, b5, b6, b7⟩ := MG_b hM.1 hM.2.1
  have t6 := hM.1.1.2.2.1
  have g6 := hM.2.1.2.2.2.2.2
  have : 0 ≤ (x.1 220 8).toInt * (x.1 60 10).toInt := Int.mul_nonneg (by omega) (by omega)
  omega
theorem pzT (hM : MM x 220) {t k : Nat} (ht : (t : Int) < (x.1 60 10).toInt) (hk : k < usN x 220 t) : (pa x 220 t k : Int) < (x.1 220 5).toInt := by
  obtain ⟨b1, b2, b3, b4, b5, b6, b7⟩ := MG_b hM.1 hM.2.1
  refine pa_lt hM.2.1 ht ?_ (by omega)
  have hA := (hM.2.2 t ht).1
  unfold usN at hk
  by_cases c0 : (rg x 220 t 7).toInt = 0
  · omega
  · have := (lt_in hM.1 hM.2.1 hA (i := (rg x 220 t 7).toInt.toNat - 1) (by have := hA.2.1; omega)).2
    have := hA.2.1
    omega
theorem rw_in (hM : MM x 220) (hr : ∀ k : Nat, (k : Int) < (x.1 220 5).toInt → y.1 (220 + 5) k = x.1 (220 + 5) k) : rwS x 220 (y.1 (220 + 5)) := ⟨fun j hj => (hr j (pz7 hM hj)).symm, fun t k ht hk => (hr _ (pzT hM ht hk)).symm⟩
theorem KMm_in (hM : MM x 220) (hK : CK x C) (e : gmE x y 220) (hr : ∀ k : Nat, (k : Int) < (x.1 220 5).toInt → y.1 (220 + 5) k = x.1 (220 + 5) k) (g : KMm x 220 C M) : KMm y 220 C M := by
  have nT : (x.1 60 10).toInt = C.2.1.length := hK.2.1.1
  obtain ⟨b1, b2, b3, b4, b5, b6, b7⟩ := MG_b hM.1 hM.2.1
  refine ⟨KMl_e hM.2.1 e.1.1 e.1.2.1 (fun j hj => hr j (pz7 hM hj)) g.1 hM.1, fun t ht => kTq_e hM.1 hM.2.1 (hM.2.2 t (by omega)).1 e.1.2.2.2 e.2.2.2 (fun k hk => ?_) (g.2 t ht)⟩
  unfold rg
  rw [gm_pa e]
  exact hr _ (pa_lt hM.2.1 (by omega) hk (by omega))
theorem gm_ag (hc : agC x y) (hm : agM 220 x y) : gmE x y 220 := ⟨⟨hc _ _ (by omega), hc _ _ (by omega), hc _ _ (by omega), hc _ _ (by omega)⟩, hm _ (by omega) (by omega), hm _ (by omega) (by omega), hm _ (by omega) (by omega)⟩
theorem kpm_get (x : gd) (s k : Nat) (hk : (k : Int) < (x.1 220 5).toInt) : (kpM x s).1 (220 + 5) k = x.1 (1000 + s) k := by
  unfold kpM
  rw [scp_get, if_pos ⟨rfl, by omega, by rw [t_cl]; omega⟩, Nat.sub_zero, Nat.zero_add]
theorem kp_ag (hc : agC x y) (hm : agM 220 x y) : agC (kpM x s) (kpM y s) ∧ agM 220 (kpM x s) (kpM y s) := by
  have f : ∀ (x : gd) c k, ¬ c = 225 → (kpM x s).1 c k = x.1 c k := fun x c k hc => by unfold kpM; rw [scp_get, if_neg (fun z => hc z.1)]
  exact ⟨fun c k h => by rw [f x c k (by omega), f y c k (by omega)]; exact hc c k h, fun k h1 h2 => by rw [f x _ _ (by omega), f y _ _ (by omega)]; exact hm k h1 h2⟩
theorem kp_ag1 (hc : agC x y) (hm : agM 220 x y) : agC x (kpM y s) ∧ agM 220 x (kpM y s) := by
  have f : ∀ (x : gd) c k, ¬ c = 225 → (kpM x s).1 c k = x.1 c k := fun x c k hc => by unfold kpM; rw [scp_get, if_neg (fun z => hc z.1)]
  exact ⟨fun c k h => by rw [f y c k (by omega)]; exact hc c k h, fun k h1 h2 => by rw [f y _ _ (by omega)]; exact hm k h1 h2⟩
/-- a kept row stays -/
theorem KPs_ag (hK : CK x C) (hc : agC x y) (hm : agM 220 x y) (hr : ∀ k, y.1 (1000 + s) k = x.1 (1000 + s) k) (e4 : y.1 204 s = x.1 204 s) (k : KPs C nl w x s M) : KPs C nl w y s M := by
  obtain ⟨k1, k2, k3, k4, k5, k6⟩ := k
  have e5 : y.1 220 5 = x.1 220 5 := hm 5 (by omega) (by omega)
  have m1 : MM (kpM x s) 220 := k1
  obtain ⟨ac, am⟩ := kp_ag (s := s) hc hm
  have f5 : (kpM x s).1 220 5 = x.1 220 5 := by unfold kpM; rw [scp_get, if_neg (by omega)]
  have row : ∀ k : Nat, (k : Int) < ((kpM x s).1 220 5).toInt → (kpM y s).1 (220 + 5) k = (kpM x s).1 (220 + 5) k := fun k hk => by
    rw [f5] at hk
    rw [kpm_get y s k (by rw [e5]; exact hk), kpm_get x s k hk]; exact hr k
  have em := mx_same m1 (gm_ag ac am) (rw_in m1 row)
  exact ⟨KR_ag hc hm (fun k _ => hr k) k1, KMm_in m1 (kp_CK hK) (gm_ag ac am) row k2, k3, k4, k5, by rw [e4, em]; exact k6⟩
/-- a new row holds the machine's state -/
theorem KPs_new (hM : MM x 220) (hK : CK x C) (g : KMm x 220 C M) (qi : MIv C w M) (qc : MCn C nl M) (qn : NBm M) (hc : agC x y) (hm : agM 220 x y) (hr : ∀ k : Nat, (k : Int) < (x.1 220 5).toInt → y.1 (1000 + s) k = x.1 225 k) (e4 : y.1 204 s = mxO x 220) (hR : KR y s) : KPs C nl w y s M := by
  have e5 : y.1 220 5 = x.1 220 5 := hm 5 (by omega) (by omega)
  obtain ⟨ac, am⟩ := kp_ag1 (s := s) hc hm
  have row : ∀ k : Nat, (k : Int) < (x.1 220 5).toInt → (kpM y s).1 (220 + 5) k = x.1 (220 + 5) k := fun k hk => by
    rw [kpm_get y s k (by rw [e5]; exact hk)]; exact hr k hk
  have em := mx_same hM (gm_ag ac am) (rw_in hM row)
  exact ⟨hR, KMm_in hM hK (gm_ag ac am) row g, qi, qc, qn, by rw [e4, em]⟩
/-- what a trying holds stays where its memory stays -/
theorem KX3_f (hK : CK x C) (hc : agC x y) (hm : agM 220 x y) (hr : ∀ s k, s < T.1.length → y.1 (1000 + s) k = x.1 (1000 + s) k) (e4 : ∀ k, y.1 204 k = x.1 204 k) (e5 : ∀ k, y.1 205 k = x.1 205 k) (e0 : y.1 o 0 = x.1 o 0) (e1 : y.1 o 1 = x.1 o 1) (e10 : ∀ k, y.1 (o + 10) k = x.1 (o + 10) k) (e11 : ∀ k, y.1 (o + 11) k = x.1 (o + 11) k) (e12 : ∀ k, y.1 (o + 12) k = x.1 (o + 12) k) (h : KX3 C nl w x o T) : KX3 C nl w y o T := by
  obtain ⟨h0, h1, h2, h3⟩ := h
  refine ⟨by rw [e0, e1]; exact h0, fun s p hp => KPs_ag hK hc hm (fun k => hr s k (gt_lt hp)) (e4 s) (h1 s p hp), ?_, fun s p hp => ?_⟩
  · unfold TBx
    rw [show y.1 205 = x.1 205 from funext e5, show y.1 204 = x.1 204 from funext e4]
    exact h2
  · rw [e10, e11, e12, e12, e12]; exact h3 s p hp
theorem kt_addState3 (hq : kV q) (ho : kiT q o) (a b : Int32) (hz : TZ x o) (ha : a = -1 ∨ (0 ≤ a.toInt ∧ a.toInt < (x.1 o 0).toInt)) (hlt : (x.1 o 0).toInt < 3000) (h : ∀ y, fm (fun c k => (c = o ∧ k = 0) ∨ (k = (x.1 o 0).toInt.toNat ∧ o + 10 ≤ c ∧ c ≤ o + 12)) x y → TZ y o → (y.1 o 0).toInt = (x.1 o 0).toInt + 1 → y.1 (o + 10) (x.1 o 0).toInt.toNat = a → y.1 (o + 11) (x.1 o 0).toInt.toNat = b → (a = -1 → y.1 (o + 12) (x.1 o 0).toInt.toNat = 0) → (¬ a = -1 → (y.1 (o + 12) (x.1 o 0).toInt.toNat).toInt = (x.1 (o + 12) a.toInt.toNat).toInt + 1) → Fv y) : KT G q d zk_X10_addState 0 [(0, vr o), (1, vi a), (2, vi b)] [] x (rv Fv) := by
  have k3 : (3000 : Int32).toInt = 3000 := rfl
  have k1 : (1 : Int32).toInt = 1 := rfl
  have k0 : (0 : Int32).toInt = 0 := rfl
  obtain ⟨⟨b0, b1⟩, hf, hs⟩ := hz
  refine kg_X10_addState_0 hq ho _ _ ⟨fun c => ?_, fun c => ?_⟩
  · rw [t_le, k3] at c; omega
  clear c
  have eS : (x.1 o 0).toNatClampNeg = (x.1 o 0).toInt.toNat := rfl
  obtain ⟨n, hn⟩ : ∃ n, n = (x.1 o 0).toInt.toNat := ⟨_, rfl⟩
  rw [← hn] at h eS
  have v0 : vp_in (x.1 o 0) 3000 := by rw [vp_in_iff]; omega
  rw [eS]
  refine ⟨v0, fun x3 e3 => ?_⟩
  have f3 : fm (fun c k => c = o + 10 ∧ k = n) x x3 := by rw [e3]; exact fm_si (fm_rf _ _) ⟨rfl, rfl⟩
  rw [f3 o 0 (by omega), eS]
  refine ⟨v0, fun x5 e5 => ?_⟩
  have f5 : fm (fun c k => (c = o + 10 ∧ k = n) ∨ (c = o + 11 ∧ k = n)) x x5 := by rw [e5]; exact fm_si (fm_w f3 (fun c k q => Or.inl q)) (Or.inr ⟨rfl, rfl⟩)
  rw [f5 o 0 (by omega), eS]
  have fin : ∀ (w : Int32) (y z : gd), y = si x5 (o + 12) n w → z = si y o 0 (y.1 o 0 + 1) → (0 ≤ w.toInt ∧ w.toInt ≤ (x.1 o 0).toInt) → (a = -1 → w = 0) → (¬ a = -1 → (0 ≤ a.toInt ∧ a.toInt < (x.1 o 0).toInt ∧ w.toInt = (x.1 (o + 12) a.toInt.toNat).toInt + 1)) → rv Fv none z := by
    intro w y z ey ez hw hw1 hw2
    have gy : y.1 o 0 = x.1 o 0 := by rw [ey, si_cell (by omega), f5 o 0 (by omega)]
    rw [gy] at ez
    have g0 : z.1 o 0 = x.1 o 0 + 1 := by rw [ez, si_get, if_pos ⟨rfl, rfl⟩]
    have e1 : (x.1 o 0 + 1).toInt = (x.1 o 0).toInt + 1 := by rw [t_add (by rw [k1]; omega) (by rw [k1]; omega), k1]
    have g7 : ∀ k, z.1 (o + 7) k = x.1 (o + 7) k := fun k => by rw [ez, si_cell (by omega), ey, si_cell (by omega), f5 _ _ (by omega)]
    have g10 : ∀ k, ¬ k = n → z.1 (o + 10) k = x.1 (o + 10) k := fun k hk => by rw [ez, si_cell (by omega), ey, si_cell (by omega), f5 _ _ (by omega)]
    have g12 : ∀ k, ¬ k = n → z.1 (o + 12) k = x.1 (o + 12) k := fun k hk => by rw [ez, si_cell (by omega), ey, si_get, if_neg (fun q => hk q.2), f5 _ _ (by omega)]
    have n10 : z.1 (o + 10) n = a := by rw [ez, si_cell (by omega), ey, si_cell (by omega), e5, si_cell (by omega), e3, si_get, if_pos ⟨rfl, rfl⟩]
    have n11 : z.1 (o + 11) n = b := by rw [ez, si_cell (by omega), ey, si_cell (by omega), e5, si_get, if_pos ⟨rfl, rfl⟩]
    have n12 : z.1 (o + 12) n = w := by rw [ez, si_cell (by omega), ey, si_get, if_pos ⟨rfl, rfl⟩]
    refine rv_i (h z ?_ ?_ (by rw [g0, e1]) n10 n11 (fun c => by rw [n12]; exact hw1 c) (fun c => by rw [n12]; exact (hw2 c).2.2))
    · rw [ez, ey]; exact fm_si (fm_si (fm_w f5 (fun c k q => by omega)) (by omega)) (by omega)
    · unfold TZ; rw [g0, e1]
      refine ⟨by omega, fun f hf2 => ?_, fun s hs2 => ?_⟩
      · rw [g7]
        rcases hf f hf2 with e | e
        · exact Or.inl e
        · exact Or.inr (by omega)
      · by_cases h9 : s = n
        · rw [h9, n12, n10]
          refine ⟨by omega, ?_⟩
          by_cases ca : a = -1
          · rw [hw1 ca]; exact Or.inl rfl
          · obtain ⟨q1, q2, q3⟩ := hw2 ca
            exact Or.inr ⟨q1, by omega, by rw [g12 _ (by omega)]; exact q3⟩
        · obtain ⟨s1, s2⟩ := hs s (by omega)
          rw [g12 s h9, g10 s h9]
          refine ⟨s1, ?_⟩
          rcases s2 with e | ⟨q1, q2, q3⟩
          · exact Or.inl e
          · exact Or.inr ⟨q1, q2, by rw [g12 _ (by omega)]; exact q3⟩
  refine ⟨fun hn1 => ?_, fun hn1 => ⟨v0, fun y ey z ez => fin _ y z ey ez (by rw [k0]; omega) (fun _ => rfl) (fun c => absurd hn1 c)⟩⟩
  have ha2 : 0 ≤ a.toInt ∧ a.toInt < (x.1 o 0).toInt := by
    rcases ha with e | e
    · exact absurd e hn1
    · exact e
  have eA : a.toNatClampNeg = a.toInt.toNat := rfl
  rw [eA, f5 (o + 12) _ (by omega)]
  obtain ⟨s1, s2⟩ := hs a.toInt.toNat (by omega)
  have e1 : (x.1 (o + 12) a.toInt.toNat + 1).toInt = (x.1 (o + 12) a.toInt.toNat).toInt + 1 := by rw [t_add (by rw [k1]; omega) (by rw [k1]; omega), k1]
  refine ⟨by rw [vp_in_iff]; omega, v0, fun y ey z ez => fin _ y z ey ez ?_ (fun c => absurd c hn1) (fun _ => ⟨ha2.1, ha2.2, e1⟩)⟩
  rw [e1]; omega
end KEP
end
