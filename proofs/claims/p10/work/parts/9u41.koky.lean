/-! events' tokens: words, signs and wholes where they count -/
def oY (K : Nat → Int32) (v : Nat × Nat × Nat) : Prop := (v.1 ∈ [50, 51, 66, 67, 68, 69, 70, 74, 83] → ¬ K v.2.1 = 0) ∧ (v.1 ∈ [52, 80, 81] → K v.2.1 = 2)
def eY (K : Nat → Int32) (L L' : gU) : Prop := ∃ N, L' = L ++ N ∧ ∀ v ∈ N, oY K v
section EYL
variable {K V : Nat → Int32} {L L' L2 : gU} {o : Bool}
theorem oY_n {k a b : Nat} (h : ¬ k ∈ [50, 51, 66, 67, 68, 69, 70, 74, 83] ∧ ¬ k ∈ [52, 80, 81]) : oY K (k, a, b) := ⟨fun c => absurd c h.1, fun c => absurd c h.2⟩
theorem oY_a {k a b : Nat} (h : ¬ k ∈ [52, 80, 81]) (h1 : ¬ K a = 0) : oY K (k, a, b) := ⟨fun _ => h1, fun c => absurd c h⟩
theorem oY_b {k a b : Nat} (h : ¬ k ∈ [50, 51, 66, 67, 68, 69, 70, 74, 83]) (h1 : K a = 2) : oY K (k, a, b) := ⟨fun c => absurd c h, fun _ => h1⟩
theorem eY_rf : eY K L L := ⟨[], by rw [List.append_nil], fun _ h => by cases h⟩
theorem eY_tr (h : eY K L L') (g : eY K L' L2) : eY K L L2 := by
  obtain ⟨N, e, h⟩ := h
  obtain ⟨N2, e2, g⟩ := g
  exact ⟨N ++ N2, by rw [e2, e, List.append_assoc], fun v hv => (List.mem_append.mp hv).elim (h v) (g v)⟩
theorem eY_v {v : Nat × Nat × Nat} (h : oY K v) : eY K L (L ++ [v]) := ⟨_, rfl, fun w hw => by rw [List.mem_singleton.mp hw]; exact h⟩
theorem pt_oY {w : Int32} {q r : Nat × gU} (h : pt K w q = some r) : eY K q.2 r.2 := by
  obtain ⟨-, -, e⟩ := pt_is h
  rw [e]; exact eY_rf
theorem pan_oY {v : Nat × Nat × Nat} {q r : Nat × gU} (hv : oY K v) (h : pan v q = some r) : eY K q.2 r.2 := by
  unfold pan at h
  cases Option.some.inj h
  exact eY_v hv
abbrev nky (K : Nat → Int32) (rE : Nat → Nat → gU → gOp) : Prop := ∀ s i L q, rE s i L = some q → eY K L q.2
theorem pW_oY {rE : Nat → Nat → gU → gOp} {th : Nat} (hr : nky K rE) : ∀ (f j : Nat) (L : gU) (q : Nat × gU), pW rE K th f j L = some q → eY K L q.2 := by
  intro f
  induction f with
  | zero => intro j L q h; exact absurd h (by simp [pW])
  | succ f ih =>
    intro j L q h
    rw [pW] at h
    split at h
    · next cc =>
      split at h
      · obtain ⟨z, hz, h2⟩ := Option.bind_eq_some_iff.mp h
        exact eY_tr (hr _ _ _ _ hz) (eY_tr (eY_v (oY_a (by decide) (fun z => by rw [z] at cc; exact absurd cc (by show ¬ th < 0; omega)))) (ih _ _ _ h2))
      · exact absurd h (by simp)
    · cases Option.some.inj h; exact eY_rf
theorem pO_oY {rE : Nat → Nat → gU → gOp} (hr : nky K rE) {i : Nat} {q : Nat × gU} (h : pO rE K o i L = some q) : eY K L q.2 := by
  unfold pO at h
  split at h
  · exact absurd h (by simp)
  · split at h
    · next cc => cases Option.some.inj h; exact eY_v (oY_b (by decide) cc)
    · split at h
      · cases Option.some.inj h; exact eY_v (oY_n (by decide))
      · split at h
        · obtain ⟨z, hz, h2⟩ := Option.bind_eq_some_iff.mp h
          exact eY_tr (hr _ _ _ _ hz) (pt_oY h2)
        · split at h
          · next k1 =>
            split at h
            · split at h
              · split at h
                · next c =>
                  cases Option.some.inj h
                  have := eY_tr (K := K) (eY_v (L := L) (v := (7, i, 0)) (oY_n (by decide))) (eY_v (v := (12, i + 2, i)) (oY_n (k := 12) (by decide)))
                  rw [List.append_assoc] at this
                  exact this
                · exact absurd h (by simp)
              · cases Option.some.inj h; exact eY_v (oY_n (by decide))
            · cases Option.some.inj h; exact eY_v (oY_n (by decide))
          · exact absurd h (by simp)
theorem pE_oY : ∀ f : Nat, nky K (pE K o f) := by
  intro f
  induction f with
  | zero => intro s i L q h; exact absurd h (by simp [pE])
  | succ f ih =>
    intro s i L q h
    rw [pE] at h
    split at h
    · obtain ⟨z, hz, h2⟩ := Option.bind_eq_some_iff.mp h
      refine eY_tr ?_ (pW_oY ih _ _ _ _ h2)
      split at hz
      · next cc =>
        split at hz
        · obtain ⟨y, hy, h3⟩ := Option.bind_eq_some_iff.mp hz
          cases Option.some.inj h3
          exact eY_tr (ih _ _ _ _ hy) (eY_v (oY_a (by decide) (by rcases cc with e | e <;> rw [e] <;> decide)))
        · exact absurd hz (by simp)
      · exact pO_oY ih hz
    · exact absurd h (by simp)
theorem pX_oY {f i : Nat} {q : Nat × gU} (h : pX K o f i L = some q) : eY K L q.2 := by
  obtain ⟨z, hz, h2⟩ := Option.bind_eq_some_iff.mp h
  exact eY_tr (pE_oY f _ _ _ _ hz) (pan_oY (oY_n (k := 54) (by decide)) h2)
theorem pXq_oY {f : Nat} {r q : Nat × gU} (h : pXq K f r = some q) : eY K r.2 q.2 := pX_oY h
theorem pP_oY {f i : Nat} {q : Nat × gU} (h : pP K f i L = some q) : eY K L q.2 := by
  unfold pP at h
  split at h
  · next k1 =>
    split at h
    · split at h
      · obtain ⟨z, hz, h2⟩ := Option.bind_eq_some_iff.mp h
        exact eY_tr (eY_tr (eY_v (oY_n (by decide))) (pX_oY hz)) (pt_oY h2)
      · exact absurd h (by simp)
    · cases Option.some.inj h; exact eY_v (oY_n (by decide))
  · exact absurd h (by simp)
theorem pme_oY {t : Option Nat} (ht : ∀ t0, t = some t0 → K t0 = 1) : eY K L (L ++ pme t) := by
  cases t with
  | none => rw [pme, List.append_nil]; exact eY_rf
  | some t => exact eY_v (oY_n (by decide))
theorem pma_oY {t : Option Nat} (ht : ∀ t0, t = some t0 → K t0 = 1) : eY K L (L ++ pma t) := by
  cases t with
  | none => rw [pma, List.append_nil]; exact eY_rf
  | some t => exact eY_v (oY_n (by decide))
theorem pal_oY {t : Option Nat} {i : Nat} (ht : ∀ t0, t = some t0 → K t0 = 1) (k1 : K i = 1) : eY K L (L ++ [pal t i]) := by
  cases t with
  | none => exact eY_v (oY_n (by decide))
  | some t => exact eY_v (oY_n (k := 27) (by decide))
theorem pR_oY {f i : Nat} {t : Option Nat} {q : Nat × gU} (ht : ∀ t0, t = some t0 → K t0 = 1) (h : pR K f t i L = some q) : eY K L q.2 := by
  unfold pR at h
  split at h
  · next cc =>
    split at h
    · obtain ⟨z4, hz4, h4⟩ := Option.bind_eq_some_iff.mp h
      obtain ⟨z3, hz3, h3⟩ := Option.bind_eq_some_iff.mp hz4
      obtain ⟨z2, hz2, h2⟩ := Option.bind_eq_some_iff.mp hz3
      obtain ⟨z5, hz5, h5⟩ := Option.bind_eq_some_iff.mp h4
      have d : eY K z5.2 q.2 := pan_oY (oY_a (by decide) (by rcases cc with e | e | e <;> rw [e] <;> decide)) h5
      have a : eY K L z4.2 := eY_tr (eY_tr (eY_tr (pme_oY ht) (pP_oY hz2)) (pt_oY h2)) (pXq_oY h3)
      split at hz5
      · obtain ⟨z6, hz6, h6⟩ := Option.bind_eq_some_iff.mp hz5
        exact eY_tr (eY_tr (eY_tr a (pt_oY hz6)) (pXq_oY h6)) d
      · cases Option.some.inj hz5; exact eY_tr a d
    · exact absurd h (by simp)
  · split at h
    · obtain ⟨z, hz, h2⟩ := Option.bind_eq_some_iff.mp h
      exact eY_tr (eY_tr (pme_oY ht) (pP_oY hz)) (pan_oY (oY_n (by decide)) h2)
    · split at h
      · next k1 =>
        split at h
        · cases Option.some.inj h; exact pal_oY ht k1.1
        · exact absurd h (by simp)
      · obtain ⟨z, hz, h2⟩ := Option.bind_eq_some_iff.mp h
        exact eY_tr (eY_tr (pma_oY ht) (pX_oY hz)) (pan_oY (oY_n (by decide)) h2)
abbrev nkw (K : Nat → Int32) (rS : Nat → Nat → gU → gTs) : Prop := ∀ c i L q, rS c i L = some q → eY K L q.2.2
theorem pBl_oY {rS : Nat → Nat → gU → gTs} {z : Nat} (hr : nkw K rS) : ∀ (n c i : Nat) (L : gU) (q : Nat × Nat × gU), pBl rS K z n c i L = some q → eY K L q.2.2 := by
  intro n
  induction n with
  | zero => intro c i L q h; exact absurd h (by simp [pBl])
  | succ n ih =>
    intro c i L q h
    rw [pBl] at h
    split at h
    · split at h
      · cases Option.some.inj h; exact eY_v (oY_n (by decide))
      · exact absurd h (by simp)
    · obtain ⟨y, hy, h2⟩ := Option.bind_eq_some_iff.mp h
      exact eY_tr (hr _ _ _ _ hy) (ih _ _ _ _ h2)
theorem pBk_oY {rS : Nat → Nat → gU → gTs} {z : Nat} (hr : nkw K rS) {c i : Nat} {q : Nat × Nat × gU} (h : pBk rS K z c i L = some q) : eY K L q.2.2 := by
  unfold pBk at h
  split at h
  · exact eY_tr (eY_v (oY_n (by decide))) (pBl_oY hr _ _ _ _ _ h)
  · exact absurd h (by simp)
theorem pEl_oY {rS : Nat → Nat → gU → gTs} (hr : nkw K rS) {q r : Nat × Nat × gU} (h : pEl rS K q = some r) : eY K q.2.2 r.2.2 := by
  unfold pEl at h
  split at h
  · split at h
    · split at h
      · exact eY_tr (eY_v (oY_n (by decide))) (hr _ _ _ _ h)
      · exact eY_tr (eY_v (oY_n (by decide))) (pBk_oY hr h)
    · exact absurd h (by simp)
  · cases Option.some.inj h; exact eY_rf
theorem pup_oY {c : Nat} {v : Nat × Nat × Nat} {r : gOp} {q : Nat × Nat × gU} (hv : oY K v) (h : pup c v r = some q) : ∃ z, r = some z ∧ eY K z.2 q.2.2 := by
  unfold pup at h
  obtain ⟨z, hz, e⟩ := Option.bind_eq_some_iff.mp h
  cases Option.some.inj e
  exact ⟨z, hz, eY_v hv⟩
theorem pS1_oY {f c i : Nat} {q : Nat × Nat × gU} (h : pS1 K f c i L = some q) : eY K L q.2.2 := by
  have nn0 : ∀ t0 : Nat, (none : Option Nat) = some t0 → K t0 = 1 := fun t0 e => by cases e
  unfold pS1 at h
  split at h
  · split at h
    · next k1 =>
      obtain ⟨z, h, g⟩ := pup_oY (oY_n (k := 22) (by decide)) h
      obtain ⟨y, hy, h2⟩ := Option.bind_eq_some_iff.mp h
      exact eY_tr (eY_tr (eY_tr (eY_v (oY_n (by decide))) (pR_oY nn0 hy)) (pt_oY h2)) g
    · exact absurd h (by simp)
  · split at h
    · next k1 =>
      split at h
      · split at h
        · obtain ⟨z, h, g⟩ := pup_oY (oY_n (k := 78) (by decide)) h
          obtain ⟨y5, hy5, h5⟩ := Option.bind_eq_some_iff.mp h
          obtain ⟨y4, hy4, h4⟩ := Option.bind_eq_some_iff.mp hy5
          obtain ⟨y3, hy3, h3⟩ := Option.bind_eq_some_iff.mp hy4
          obtain ⟨y2, hy2, h2⟩ := Option.bind_eq_some_iff.mp hy3
          exact eY_tr (eY_tr (eY_tr (eY_tr (eY_tr (eY_tr (eY_v (oY_n (by decide))) (pX_oY hy2)) (pt_oY h2)) (pt_oY h3)) (pXq_oY h4)) (pt_oY h5)) g
        · exact absurd h (by simp)
      · split at h
        · obtain ⟨z, h, g⟩ := pup_oY (oY_n (k := 77) (by decide)) h
          obtain ⟨y2, hy2, h2⟩ := Option.bind_eq_some_iff.mp h
          exact eY_tr (eY_tr (pR_oY (fun t0 e => by cases e; exact k1) hy2) (pt_oY h2)) g
        · exact absurd h (by simp)
    · split at h
      · next cc =>
        obtain ⟨z, h, g⟩ := pup_oY (oY_a (K := K) (k := 68) (by decide) (by rcases cc with e | e | e <;> rw [e] <;> decide)) h
        have := pt_oY h
        exact eY_tr this g
      · split at h
        · next cc =>
          obtain ⟨z, h, g⟩ := pup_oY (oY_a (K := K) (k := 69) (by decide) (by rcases cc with e | e <;> rw [e] <;> decide)) h
          obtain ⟨y2, hy2, h2⟩ := Option.bind_eq_some_iff.mp h
          exact eY_tr (eY_tr (pX_oY hy2) (pt_oY h2)) g
        · split at h
          · next cc =>
            split at h
            · next k2 =>
              obtain ⟨z, h, g⟩ := pup_oY (oY_a (K := K) (k := 70) (by decide) (by rw [cc]; decide)) h
              obtain ⟨y2, hy2, h2⟩ := Option.bind_eq_some_iff.mp h
              exact eY_tr (eY_tr (pX_oY hy2) (pt_oY h2)) g
            · exact absurd h (by simp)
          · split at h
            · next cc =>
              split at h
              · next k2 =>
                obtain ⟨z, h, g⟩ := pup_oY (oY_a (K := K) (k := 66) (by decide) (by rcases cc with e | e | e | e | e <;> rw [e] <;> decide)) h
                have := pt_oY h
                exact eY_tr this g
              · exact absurd h (by simp)
            · split at h
              · next cc =>
                split at h
                · next k2 =>
                  obtain ⟨z, h, g⟩ := pup_oY (oY_a (K := K) (k := 67) (by decide) (by rcases cc with e | e <;> rw [e] <;> decide)) h
                  have := pt_oY h
                  exact eY_tr this g
                · exact absurd h (by simp)
              · exact absurd h (by simp)
theorem pfi_oY {q r : Nat × Nat × gU} (h : pfi q = some r) : eY K q.2.2 r.2.2 := by
  unfold pfi at h
  cases Option.some.inj h
  exact eY_v (oY_n (by decide))
theorem pS_oY : ∀ f : Nat, nkw K (pS K f) := by
  intro f
  induction f with
  | zero => intro c i L q h; exact absurd h (by simp [pS])
  | succ f ih =>
    intro c i L q h
    rw [pS] at h
    split at h
    · exact absurd h (by simp)
    · split at h
      · obtain ⟨z, hz, h2⟩ := Option.bind_eq_some_iff.mp h
        obtain ⟨x, hx, h4⟩ := Option.bind_eq_some_iff.mp h2
        obtain ⟨y, hy, h3⟩ := Option.bind_eq_some_iff.mp hx
        exact eY_tr (eY_tr (eY_tr (eY_tr (pX_oY hz) (eY_v (oY_n (by decide)))) (pBk_oY ih hy)) (pEl_oY ih h3)) (pfi_oY h4)
      · split at h
        · obtain ⟨z, hz, h2⟩ := Option.bind_eq_some_iff.mp h
          exact eY_tr (eY_tr (pX_oY hz) (eY_v (oY_n (by decide)))) (pBk_oY ih h2)
        · split at h
          · split at h
            · next k2 => exact eY_tr (eY_v (oY_n (by decide))) (pBk_oY ih h)
            · exact absurd h (by simp)
          · exact pS1_oY h
theorem pCv_oY {q r : Nat × gU} (h : pCv K q = some r) : eY K q.2 r.2 := by
  unfold pCv at h
  split at h
  · split at h
    · split at h
      · split at h
        · next cc => cases Option.some.inj h; exact eY_v (oY_b (by decide) cc.2.1)
        · exact absurd h (by simp)
      · split at h
        · next cc => cases Option.some.inj h; exact eY_v (oY_b (by decide) cc.1)
        · exact absurd h (by simp)
    · exact absurd h (by simp)
  · cases Option.some.inj h; exact eY_v (oY_n (by decide))
theorem pCl_oY {n i t : Nat} {q : Nat × Nat × gU} (hi : ¬ K i = 0) (h : pCl K V n i t L = some q) : eY K L q.2.2 := by
  unfold pCl at h
  split at h
  · next c =>
    split at h
    · split at h
      · next c2 =>
        obtain ⟨z, hz, e⟩ := Option.bind_eq_some_iff.mp h
        obtain ⟨y, hy, h2⟩ := Option.bind_eq_some_iff.mp hz
        cases Option.some.inj e
        exact eY_tr (eY_v (oY_n (k := 32) (by decide))) (eY_tr (pCv_oY hy) (eY_tr (pt_oY h2) (eY_v (oY_a (by decide) hi))))
      · exact absurd h (by simp)
    · obtain ⟨z, hz, e⟩ := Option.bind_eq_some_iff.mp h
      obtain ⟨y, hy, h2⟩ := Option.bind_eq_some_iff.mp hz
      cases Option.some.inj e
      exact eY_tr (eY_v (oY_n (by decide))) (eY_tr (pCv_oY hy) (eY_tr (pt_oY h2) (eY_v (oY_a (by decide) hi))))
  · exact absurd h (by simp)
theorem pD_oY {n : gN} {i : Nat} {q : gN × Nat × gU} (h : pD K V n i L = some q) : eY K L q.2.2 := by
  have cell : ∀ t, ¬ K i = 0 → (pCl K V n.1 i t L).bind (fun q => some ((q.1, n.2), q.2)) = some q → eY K L q.2.2 := fun t hi h => by
    obtain ⟨z, hz, e⟩ := Option.bind_eq_some_iff.mp h
    cases Option.some.inj e
    exact pCl_oY hi hz
  have blk : ∀ (t j b : Nat) (v : gN), K t = 1 → (pBk (pS K 16) K 0 0 j (L ++ [(34, t, b)])).bind (fun q => some (v, q.2)) = some q → eY K L q.2.2 := fun t j b v k1 h => by
    obtain ⟨z, hz, e⟩ := Option.bind_eq_some_iff.mp h
    cases Option.some.inj e
    exact eY_tr (eY_v (oY_n (by decide))) (pBk_oY (pS_oY 16) hz)
  have clm : ∀ (k : Nat) (v : gN), (k = 35 ∨ k = 36) → ((pX K true 16 (i + 1) (L ++ [(k, i, 0)])).bind (pt K 67)).bind (fun q => some (v, q)) = some q → eY K L q.2.2 := fun k v hk h => by
    obtain ⟨z, hz, e⟩ := Option.bind_eq_some_iff.mp h
    obtain ⟨y, hy, h2⟩ := Option.bind_eq_some_iff.mp hz
    cases Option.some.inj e
    refine eY_tr (eY_v ?_) (eY_tr (pX_oY hy) (pt_oY h2))
    rcases hk with e | e <;> rw [e] <;> exact oY_n (by decide)
  unfold pD at h
  split at h
  · next cc =>
    split at h
    · exact cell _ (by rw [cc]; decide) h
    · exact absurd h (by simp)
  · split at h
    · next cc => exact cell _ (by rw [cc]; decide) h
    · split at h
      · split at h
        · next d =>
          cases Option.some.inj h
          exact eY_v (oY_n (by decide))
        · exact absurd h (by simp)
      · split at h
        · split at h
          · next d => exact blk _ _ _ _ d.2.2.2.1 h
          · exact absurd h (by simp)
        · split at h
          · split at h
            · next d => exact blk _ _ _ _ d.2.2.1 h
            · exact absurd h (by simp)
          · split at h
            · split at h
              · exact clm _ _ (Or.inl rfl) h
              · exact absurd h (by simp)
            · split at h
              · split at h
                · exact clm _ _ (Or.inr rfl) h
                · exact absurd h (by simp)
              · exact absurd h (by simp)
theorem pAl_oY : ∀ (m : Nat) (n : gN) (i : Nat) (L : gU) (q : gN × Nat × gU), pAl K V m n i L = some q → eY K L q.2.2 := by
  intro m
  induction m with
  | zero => intro n i L q h; exact absurd h (by simp [pAl])
  | succ m ih =>
    intro n i L q h
    rw [pAl] at h
    split at h
    · cases Option.some.inj h; exact eY_rf
    · obtain ⟨z, hz, h2⟩ := Option.bind_eq_some_iff.mp h
      exact eY_tr (pD_oY hz) (ih _ _ _ _ h2)
end EYL
