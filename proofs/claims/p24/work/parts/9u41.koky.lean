section
/-! events' tokens: words, signs and wholes where they count -/
def oY (K : Nat → Int32) (v : Nat × Nat × Nat) : Prop := (v.1 ∈ [50, 51, 66, 67, 68, 69, 70, 74, 83] → ¬ K v.2.1 = 0) ∧ (v.1 ∈ [52, 80, 81] → K v.2.1 = 2)
def eY (K : Nat → Int32) (L L' : gU) : Prop := ∃ N, L' = L ++ N ∧ ∀ v ∈ N, oY K v
section EYL
variable {K V : Nat → Int32} {L L' L2 : gU} {o : Bool}
theorem oY_n {k a b : Nat} (h : ¬ k ∈ [50, 51, 66, 67, 68, 69, 70, 74, 83] ∧ ¬ k ∈ [52, 80, 81]) : oY K (k, a, b) := ⟨fun c => absurd c h.1, fun c => absurd c h.2⟩
theorem oY_a {k a b : Nat} (h : ¬ k ∈ [52, 80, 81]) (h1 : ¬ K a = 0) : oY K (k, a, b) := ⟨fun _ => h1, fun c => absurd c h⟩
theorem oY_b {k a b : Nat} (h : ¬ k ∈ [50, 51, 66, 67, 68, 69, 70, 74, 83]) (h1 : K a = 2) : oY K (k, a, b) := ⟨fun c => absurd c h, fun _ => h1⟩
theorem eY_rf : eY K L L := ⟨[], by rw [List.append_nil], fun _ h => by cases h⟩
theorem eY_tr (h : eY K L L') (g : eY K L' L2) : eY K L L2 := by
  obtain ⟨N, e, h⟩ := h
  obtain ⟨N2, e2, g⟩ := g
  exact ⟨N ++ N2, by rw [e2, e, List.append_assoc], fun v hv => (List.mem_append.mp hv).elim (h v) (g v)⟩
theorem eY_v {v : Nat × Nat × Nat} (h : oY K v) : eY K L (L ++ [v]) := ⟨_, rfl, fun w hw => by rw [List.mem_singleton.mp hw]; exact h⟩
theorem pt_oY {w : Int32} {q r : Nat × gU} (h : pt K w q = some r) : eY K q.2 r.2 := by
  obtain ⟨-, -, e⟩ := pt_is h
  rw [e]; exact eY_rf
theorem pan_oY {v : Nat × Nat × Nat} {q r : Nat × gU} (hv : oY K v) (h : pan v q = some r) : eY K q.2 r.2 := by
  unfold pan at h
  cases Option.some.inj h
  exact eY_v hv
abbrev nky (K : Nat → Int32) (rE : Nat → Nat → gU → gOp) : Prop := ∀ s i L q, rE s i L = some q → eY K L q.2
theorem pW_oY {rE : Nat → Nat → gU → gOp} {th : Nat} (hr : nky K rE) : ∀ (f j : Nat) (L : gU) (q : Nat × gU), pW rE K th f j L = some q → eY K L q.2 := by
  intro f
  induction f with
  | zero => intro j L q h; exact absurd h (by simp [pW])
  | succ f ih =>
    intro j L q h
    rw [pW] at h
    split at h
    · next cc =>
      split at h
      · obtain ⟨z, hz, h2⟩ := Option.bind_eq_some_iff.mp h
        exact eY_tr (hr _ _ _ _ hz) (eY_tr (eY_v (oY_a (by decide) (fun z => by rw [z] at cc; exact absurd cc (by show ¬ th < 0; omega)))) (ih _ _ _ h2))
      · exact absurd h (by simp)
    · cases Option.some.inj h; exact eY_rf
theorem pO_oY {rE : Nat → Nat → gU → gOp} (hr : nky K rE) {i : Nat} {q : Nat × gU} (h : pO rE K o i L = some q) : eY K L q.2 := by
  unfold pO at h
  split at h
  · exact absurd h (by simp)
  · split at h
    · next cc => cases Option.some.inj h; exact eY_v (oY_b (by decide) cc)
    · split at h
      · cases Option.some.inj h; exact eY_v (oY_n (by decide))
      · split at h
        · obtain ⟨z, hz, h2⟩ := Option.bind_eq_some_iff.mp h
          exact eY_tr (hr _ _ _ _ hz) (pt_oY h2)
        · split at h
          · next k1 =>
            split at h
            · split at h
              · split at h
                · next c =>
                  cases Option.some.inj h
                  have := eY_tr (K := K) (eY_v (L := L) (v := (7, i, 0)) (oY_n (by decide))) (eY_v (v := (12, i + 2, i)) (oY_n (k := 12) (by decide)))
                  rw [List.append_assoc] at this
                  exact this
                · exact absurd h (by simp)
              · cases Option.some.inj h; exact eY_v (oY_n (by decide))
            · cases Option.some.inj h; exact eY_v (oY_n (by decide))
          · exact absurd h (by simp)
theorem pE_oY : ∀ f : Nat, nky K (pE K o f) := by
  intro f
  induction f with
  | zero => intro s i L q h; exact absurd h (by simp [pE])
  | succ f ih =>
    intro s i L q h
    rw [pE] at h
    split at h
    · obtain ⟨z, hz, h2⟩ := Option.bind_eq_some_iff.mp h
      refine eY_tr ?_ (pW_oY ih _ _ _ _ h2)
      split at hz
      · next cc =>
        split at hz
        · obtain ⟨y, hy, h3⟩ := Option.bind_eq_some_iff.mp hz
          cases Option.some.inj h3
          exact eY_tr (ih _ _ _ _ hy) (eY_v (oY_a (by decide) (by rcases cc with e | e <;> rw [e] <;> decide)))
        · exact absurd hz (by simp)
      · exact pO_oY ih hz
    · exact absurd h (by simp)
theorem pX_oY {f i : Nat} {q : Nat × gU} (h : pX K o f i L = some q) : eY K L q.2 := by
  obtain ⟨z, hz, h2⟩ := Option.bind_eq_some_iff.mp h
  exact eY_tr (pE_oY f _ _ _ _ hz) (pan_oY (oY_n (k := 54) (by decide)) h2)
theorem pXq_oY {f : Nat} {r q : Nat × gU} (h : pXq K f r = some q) : eY K r.2 q.2 := pX_oY h
theorem pP_oY {f i : Nat} {q : Nat × gU} (h : pP K f i L = some q) : eY K L q.2 := by
  unfold pP at h
  split at h
  · next k1 =>
    split at h
    · split at h
      · obtain ⟨z, hz, h2⟩ := Option.bind_eq_some_iff.mp h
        exact eY_tr (eY_tr (eY_v (oY_n (by decide))) (pX_oY hz)) (pt_oY h2)
      · exact absurd h (by simp)
    · cases Option.some.inj h; exact eY_v (oY_n (by decide))
  · exact absurd h (by simp)
theorem pme_oY {t : Option Nat} (ht : ∀ t0, t = some t0 → K t0 = 1) : eY K L (L ++ pme t) := by
  cases t with
  | none => rw [pme, List.append_nil]; exact eY_rf
  | some t => exact eY_v (oY_n (by decide))
theorem pma_oY {t : Option Nat} (ht : ∀ t0, t = some t0 → K t0 = 1) : eY K L (L ++ pma t) := by
  cases t with
  | none => rw [pma, List.append_nil]; exact eY_rf
  | some t => exact eY_v (oY_n (by decide))
theorem pal_oY {t : Option Nat} {i : Nat} (ht : ∀ t0, t = some t0 → K t0 = 1) (k1 : K i = 1) : eY K L (L ++ [pal t i]) := by
  cases t with
  | none => exact eY_v (oY_n (by decide))
  | some t => exact eY_v (oY_n (k := 27) (by decide))
theorem pR_oY {f i : Nat} {t : Option Nat} {q : Nat × gU} (ht : ∀ t0, t = some t0 → K t0 = 1) (h : pR K f t i L = some q) : eY K L q.2 := by
  unfold pR at h
  split at h
  · next cc =>
    split at h
    · obtain ⟨z4, hz4, h4⟩ := Option.bind_eq_some_iff.mp h
      obtain ⟨z3, hz3, h3⟩ := Option.bind_eq_some_iff.mp hz4
      obtain ⟨z2, hz2, h2⟩ := Option.bind_eq_some_iff.mp hz3
      obtain ⟨z5, hz5, h5⟩ := Option.bind_eq_some_iff.mp h4
      have d : eY K z5.2 q.2 := pan_oY (oY_a (by decide) (by rcases cc with e | e | e <;> rw [e] <;> decide)) h5
      have a : eY K L z4.2 := eY_tr (eY_tr (eY_tr (pme_oY ht) (pP_oY hz2)) (pt_oY h2)) (pXq_oY h3)
      split at hz5
      · obtain ⟨z6, hz6, h6⟩ := Option.bind_eq_some_iff.mp hz5
        exact eY_tr (eY_tr (eY_tr a (pt_oY hz6)) (pXq_oY h6)) d
      · cases Option.some.inj hz5; exact eY_tr a d
    · exact absurd h (by simp)
  · split at h
    · obtain ⟨z, hz, h2⟩ := Option.bind_eq_some_iff.mp h
      exact eY_tr (eY_tr (pme_oY ht) (pP_oY hz)) (pan_oY (oY_n (by decide)) h2)
    · split at h
      · next k1 =>
        split at h
        · cases Option.some.inj h; exact pal_oY ht k1.1
        · exact absurd h (by simp)
      · obtain ⟨z, hz, h2⟩ := Option.bind_eq_some_iff.mp h
        exact eY_tr (eY_tr (pma_oY ht) (pX_oY hz)) (pan_oY (oY_n (by decide)) h2)
abbrev nkw (K : Nat → Int32) (rS : Nat → Nat → gU → gTs) : Prop := ∀ c i L q, rS c i L = some q → eY K L q.2.2
theorem pBl_oY {rS : Nat → Nat → gU → gTs} {z : Nat} (hr : nkw K rS) : ∀ (n c i : Nat) (L : gU) (q : Nat × Nat × gU), pBl rS K z n c i L = some q → eY K L q.2.2 := by
  intro n
  induction n with
  | zero => intro c i L q h; exact absurd h (by simp [pBl])
  | succ n ih =>
    intro c i L q h
    rw [pBl] at h
    split at h
    · split at h
      · cases Option.some.inj h; exact eY_v (oY_n (by decide))
      · exact absurd h (by simp)
    · obtain ⟨y, hy, h2⟩ := Option.bind_eq_some_iff.mp h
      exact eY_tr (hr _ _ _ _ hy) (ih _ _ _ _ h2)
theorem pBk_oY {rS : Nat → Nat → gU → gTs} {z : Nat} (hr : nkw K rS) {c i : Nat} {q : Nat × Nat × gU} (h : pBk rS K z c i L = some q) : eY K L q.2.2 := by
  unfold pBk at h
  split at h
  · exact eY_tr (eY_v (oY_n (by decide))) (pBl_oY hr _ _ _ _ _ h)
  · exact absurd h (by simp)
theorem pEl_oY {rS : Nat → Nat → gU → gTs} (hr : nkw K rS) {q r : Nat × Nat × gU} (h : pEl rS K q = some r) : eY K q.2.2 r.2.2 := by
  unfold pEl at h
  split at h
  · split at h
    · split at h
      · exact eY_tr (eY_v (oY_n (by decide))) (hr _ _ _ _ h)
      · exact eY_tr (eY_v (oY_n (by decide))) (pBk_oY hr h)
    · exact absurd h (by simp)
  · cases Option.some.inj h; exact eY_rf
theorem pup_oY {c : Nat} {v : Nat × Nat × Nat} {r : gOp} {q : Nat × Nat × gU} (hv : oY K v) (h : pup c v r = some q) : ∃ z, r = some z ∧ eY K z.2 q.2.2 := by
  unfold pup at h
  obtain ⟨z, hz, e⟩ := Option.bind_eq_some_iff.mp h
  cases Option.some.inj e
  exact ⟨z, hz, eY_v hv⟩
theorem pS1_oY {f c i : Nat} {q : Nat × Nat × gU} (h : pS1 K f c i L = some q) : eY K L q.2.2 := by
  have nn0 : ∀ t0 : Nat, (none : Option Nat) = some t0 → K t0 = 1 := fun t0 e => by cases e
  unfold pS1 at h
  split at h
  · split at h
    · next k1 =>
      obtain ⟨z, h, g⟩ := pup_oY (oY_n (k := 22) (by decide)) h
      obtain ⟨y, hy, h2⟩ := Option.bind_eq_some_iff.mp h
      exact eY_tr (eY_tr (eY_tr (eY_v (oY_n (by decide))) (pR_oY nn0 hy)) (pt_oY h2)) g
    · exact absurd h (by simp)
  · split at h
    · next k1 =>
      split at h
      · split at h
        · obtain ⟨z, h, g⟩ := pup_oY (oY_n (k := 78) (by decide)) h
          obtain ⟨y5, hy5, h5⟩ := Option.bind_eq_some_iff.mp h
          obtain ⟨y4, hy4, h4⟩ := Option.bind_eq_some_iff.mp hy5
          obtain ⟨y3, hy3, h3⟩ := Option.bind_eq_some_iff.mp hy4
          obtain ⟨y2, hy2, h2⟩ := Option.bind_eq_some_iff.mp hy3
          exact eY_tr (eY_tr (eY_tr (eY_tr (eY_tr (eY_tr (eY_v (oY_n (by decide))) (pX_oY hy2)) (pt_oY h2)) (pt_oY h3)) (pXq_oY h4)) (pt_oY h5)) g
        · exact absurd h (by simp)
      · split at h
        · obtain ⟨z, h, g⟩ := pup_oY (oY_n (k := 77) (by decide)) h
          obtain ⟨y2, hy2, h2⟩ := Option.bind_eq_some_iff.mp h
          exact eY_tr (eY_tr (pR_oY (fun t0 e => by cases e; exact k1) hy2) (pt_oY h2)) g
        · exact absurd h (by simp)
    · split at h
      · next cc =>
        obtain ⟨z, h, g⟩ := pup_oY (oY_a (K := K) (k := 68) (by decide) (by rcases cc with e | e | e <;> rw [e] <;> decide)) h
        have := pt_oY h
        exact eY_tr this g
      · split at h
        · next cc =>
          obtain ⟨z, h, g⟩ := pup_oY (oY_a (K := K) (k := 69) (by decide) (by rcases cc with e | e <;> rw [e] <;> decide)) h
          obtain ⟨y2, hy2, h2⟩ := Option.bind_eq_some_iff.mp h
          exact eY_tr (eY_tr (pX_oY hy2) (pt_oY h2)) g
        · split at h
          · next cc =>
            split at h
            · next k2 =>
              obtain ⟨z, h, g⟩ := pup_oY (oY_a (K := K) (k := 70) (by decide) (by rw [cc]; decide)) h
              obtain ⟨y2, hy2, h2⟩ := Option.bind_eq_some_iff.mp h
              exact eY_tr (eY_tr (pX_oY hy2) (pt_oY h2)) g
            · exact absurd h (by simp)
          · split at h
            · next cc =>
              split at h
              · next k2 =>
                obtain ⟨z, h, g⟩ := pup_oY (oY_a (K := K) (k := 66) (by decide) (by rcases cc with e | e | e | e | e <;> rw [e] <;> decide)) h
                have := pt_oY h
                exact eY_tr this g
              · exact absurd h (by simp)
            · split at h
              · next cc =>
                split at h
                · next k2 =>
                  obtain ⟨z, h, g⟩ := pup_oY (oY_a (K := K) (k := 67) (by decide) (by rcases cc with e | e <;> rw [e] <;> decide)) h
                  have := pt_oY h
                  exact eY_tr this g
                · exact absurd h (by simp)
              · exact absurd h (by simp)
theorem pfi_oY {q r : Nat × Nat × gU} (h : pfi q = some r) : eY K q.2.2 r.2.2 := by
  unfold pfi at h
  cases Option.some.inj h
  exact eY_v (oY_n (by decide))
theorem pS_oY : ∀ f : Nat, nkw K (pS K f) := by
  intro f
  induction f with
  | zero => intro c i L q h; exact absurd h (by simp [pS])
  | succ f ih =>
    intro c i L q h
    rw [pS] at h
    split at h
    · exact absurd h (by simp)
    · split at h
      · obtain ⟨z, hz, h2⟩ := Option.bind_eq_some_iff.mp h
        obtain ⟨x, hx, h4⟩ := Option.bind_eq_some_iff.mp h2
        obtain ⟨y, hy, h3⟩ := Option.bind_eq_some_iff.mp hx
        exact eY_tr (eY_tr (eY_tr (eY_tr (pX_oY hz) (eY_v (oY_n (by decide)))) (pBk_oY ih hy)) (pEl_oY ih h3)) (pfi_oY h4)
      · split at h
        · obtain ⟨z, hz, h2⟩ := Option.bind_eq_some_iff.mp h
          exact eY_tr (eY_tr (pX_oY hz) (eY_v (oY_n (by decide)))) (pBk_oY ih h2)
        · split at h
          · split at h
            · next k2 => exact eY_tr (eY_v (oY_n (by decide))) (pBk_oY ih h)
            · exact absurd h (by simp)
          · exact pS1_oY h
theorem pCv_oY {q r : Nat × gU} (h : pCv K q = some r) : eY K q.2 r.2 := by
  unfold pCv at h
  split at h
  · split at h
    · split at h
      · split at h
        · next cc => cases Option.some.inj h; exact eY_v (oY_b (by decide) cc.2.1)
        · exact absurd h (by simp)
      · split at h
        · next cc => cases Option.some.inj h; exact eY_v (oY_b (by decide) cc.1)
        · exact absurd h (by simp)
    · exact absurd h (by simp)
  · cases Option.some.inj h; exact eY_v (oY_n (by decide))
theorem pCl_oY {n i t : Nat} {q : Nat × Nat × gU} (hi : ¬ K i = 0) (h : pCl K V n i t L = some q) : eY K L q.2.2 := by
  unfold pCl at h
  split at h
  · next c =>
    split at h
    · split at h
      · next c2 =>
        obtain ⟨z, hz, e⟩ := Option.bind_eq_some_iff.mp h
        obtain ⟨y, hy, h2⟩ := Option.bind_eq_some_iff.mp hz
        cases Option.some.inj e
        exact eY_tr (eY_v (oY_n (k := 32) (by decide))) (eY_tr (pCv_oY hy) (eY_tr (pt_oY h2) (eY_v (oY_a (by decide) hi))))
      · exact absurd h (by simp)
    · obtain ⟨z, hz, e⟩ := Option.bind_eq_some_iff.mp h
      obtain ⟨y, hy, h2⟩ := Option.bind_eq_some_iff.mp hz
      cases Option.some.inj e
      exact eY_tr (eY_v (oY_n (by decide))) (eY_tr (pCv_oY hy) (eY_tr (pt_oY h2) (eY_v (oY_a (by decide) hi))))
  · exact absurd h (by simp)
theorem pD_oY {n : gN} {i : Nat} {q : gN × Nat × gU} (h : pD K V n i L = some q) : eY K L q.2.2 := by
  have cell : ∀ t, ¬ K i = 0 → (pCl K V n.1 i t L).bind (fun q => some ((q.1, n.2), q.2)) = some q → eY K L q.2.2 := fun t hi h => by
    obtain ⟨z, hz, e⟩ := Option.bind_eq_some_iff.mp h
    cases Option.some.inj e
    exact pCl_oY hi hz
  have blk : ∀ (t j b : Nat) (v : gN), K t = 1 → (pBk (pS K 16) K 0 0 j (L ++ [(34, t, b)])).bind (fun q => some (v, q.2)) = some q → eY K L q.2.2 := fun t j b v k1 h => by
    obtain ⟨z, hz, e⟩ := Option.bind_eq_some_iff.mp h
    cases Option.some.inj e
    exact eY_tr (eY_v (oY_n (by decide))) (pBk_oY (pS_oY 16) hz)
  have clm : ∀ (k : Nat) (v : gN), (k = 35 ∨ k = 36) → ((pX K true 16 (i + 1) (L ++ [(k, i, 0)])).bind (pt K 67)).bind (fun q => some (v, q)) = some q → eY K L q.2.2 := fun k v hk h => by
    obtain ⟨z, hz, e⟩ := Option.bind_eq_some_iff.mp h
    obtain ⟨y, hy, h2⟩ := Option.bind_eq_some_iff.mp hz
    cases Option.some.inj e
    refine eY_tr (eY_v ?_) (eY_tr (pX_oY hy) (pt_oY h2))
    rcases hk with e | e <;> rw [e] <;> exact oY_n (by decide)
  unfold pD at h
  split at h
  · next cc =>
    split at h
    · exact cell _ (by rw [cc]; decide) h
    · exact absurd h (by simp)
  · split at h
    · next cc => exact cell _ (by rw [cc]; decide) h
    · split at h
      · split at h
        · next d =>
          cases Option.some.inj h
          exact eY_v (oY_n (by decide))
        · exact absurd h (by simp)
      · split at h
        · split at h
          · next d => exact blk _ _ _ _ d.2.2.2.1 h
          · exact absurd h (by simp)
        · split at h
          · split at h
            · next d => exact blk _ _ _ _ d.2.2.1 h
            · exact absurd h (by simp)
          · split at h
            · split at h
              · exact clm _ _ (Or.inl rfl) h
              · exact absurd h (by simp)
            · split at h
              · split at h
                · exact clm _ _ (Or.inr rfl) h
                · exact absurd h (by simp)
              · exact absurd h (by simp)
theorem pAl_oY : ∀ (m : Nat) (n : gN) (i : Nat) (L : gU) (q : gN × Nat × gU), pAl K V m n i L = some q → eY K L q.2.2 := by
  intro m
  induction m with
  | zero => intro n i L q h; exact absurd h (by simp [pAl])
  | succ m ih =>
    intro n i L q h
    rw [pAl] at h
    split at h
    · cases Option.some.inj h; exact eY_rf
    · obtain ⟨z, hz, h2⟩ := Option.bind_eq_some_iff.mp h
      exact eY_tr (pD_oY hz) (ih _ _ _ _ h2)
end EYL
end
section
/-! what is read depends on the tokens up to the last alone -/
def aG (K K' : Nat → Int32) (e : Nat) : Prop := (∀ j, j ≤ e → K j = K' j) ∧ ∀ j, j ≤ e → j < 700 → ¬ K j = 0 → ¬ K j = 3 → j + 1 ≤ e
def cX {α : Type} (e : Nat) (p : α → Nat) (f f' : Option α) : Prop := f = f' ∧ ∀ q, f = some q → p q ≤ e
section CNG
variable {K K' V V' : Nat → Int32} {e : Nat} {α β : Type} {p : α → Nat} {r : β → Nat}
theorem cX_b {f f' : Option α} {g g' : α → Option β} (h : cX e p f f') (k : ∀ q, p q ≤ e → cX e r (g q) (g' q)) : cX e r (f.bind g) (f'.bind g') := by
  obtain ⟨h1, h2⟩ := h
  rw [← h1]
  cases f with
  | none => exact ⟨rfl, fun q hq => by cases hq⟩
  | some q => exact k q (h2 q rfl)
theorem cX_s {q : α} (h : p q ≤ e) : cX e p (some q) (some q) := ⟨rfl, fun z hz => by cases hz; exact h⟩
theorem cX_n : cX e p (none : Option α) none := ⟨rfl, fun q hq => by cases hq⟩
theorem cX_i {c c' : Prop} [Decidable c] [Decidable c'] {f f' g g' : Option α} (hc : c ↔ c') (h1 : c → cX e p f f') (h2 : ¬ c → cX e p g g') : cX e p (if c then f else g) (if c' then f' else g') := by
  by_cases h : c
  · rw [if_pos h, if_pos (hc.mp h)]; exact h1 h
  · rw [if_neg h, if_neg (fun z => h (hc.mpr z))]; exact h2 h
abbrev o1 (q : Nat × gU) : Nat := q.1
abbrev o2 (q : Nat × Nat × gU) : Nat := q.2.1
abbrev o3 (q : gN × Nat × gU) : Nat := q.2.1
theorem aG_k (h : aG K K' e) {j : Nat} (hj : j ≤ e) (w : Int32) : K j = w ↔ K' j = w := by rw [h.1 j hj]
theorem aG_n (h : aG K K' e) {j : Nat} (hj : j ≤ e) (h7 : j < 700) {w : Int32} (k : K j = w) (hw : ¬ w = 0 ∧ ¬ w = 3) : j + 1 ≤ e := h.2 j hj h7 (by rw [k]; exact hw.1) (by rw [k]; exact hw.2)
theorem pt_c (h : aG K K' e) (w : Int32) (hw : ¬ w = 0 ∧ ¬ w = 3) {q : Nat × gU} (hq : q.1 ≤ e) : cX e o1 (pt K w q) (pt K' w q) := by
  unfold pt
  exact cX_i (and_congr (aG_k h hq w) Iff.rfl) (fun c => cX_s (aG_n h hq c.2 c.1 hw)) (fun _ => cX_n)
theorem pan_c {v : Nat × Nat × Nat} {q : Nat × gU} (hq : q.1 ≤ e) : cX e o1 (pan v q) (pan v q) := cX_s hq
abbrev cgo (e : Nat) (f f' : Nat → Nat → gU → gOp) : Prop := ∀ s i L, i ≤ e → cX e o1 (f s i L) (f' s i L)
theorem pst_n {k : Int32} {t : Nat} (h : t < pst k) : ¬ k = 0 ∧ ¬ k = 3 := ⟨fun z => by rw [z] at h; exact absurd h (by show ¬ t < 0; omega), fun z => by rw [z] at h; exact absurd h (by show ¬ t < 0; omega)⟩
theorem pW_c (h : aG K K' e) {rE rE' : Nat → Nat → gU → gOp} (hr : cgo e rE rE') {th : Nat} : ∀ (f j : Nat) (L : gU), j ≤ e → cX e o1 (pW rE K th f j L) (pW rE' K' th f j L) := by
  intro f
  induction f with
  | zero => intro j L _; exact cX_n
  | succ f ih =>
    intro j L hj
    rw [pW, pW, ← h.1 j hj]
    refine cX_i Iff.rfl (fun c => cX_i Iff.rfl (fun c7 => ?_) (fun _ => cX_n)) (fun _ => cX_s hj)
    obtain ⟨n0, n3⟩ := pst_n c
    exact cX_b (hr _ _ _ (h.2 j hj c7 n0 n3)) (fun q hq => ih _ _ hq)
theorem pO_c (h : aG K K' e) {rE rE' : Nat → Nat → gU → gOp} (hr : cgo e rE rE') {o : Bool} {i : Nat} {L : gU} (hi : i ≤ e) : cX e o1 (pO rE K o i L) (pO rE' K' o i L) := by
  unfold pO
  refine cX_i Iff.rfl (fun _ => cX_n) (fun c7 => ?_)
  have c7 : i < 700 := by omega
  refine cX_i (aG_k h hi 2) (fun k => cX_s (aG_n h hi c7 k (by decide))) (fun _ => ?_)
  refine cX_i (aG_k h hi 32) (fun k => cX_s (aG_n h hi c7 k (by decide))) (fun _ => ?_)
  refine cX_i (aG_k h hi 61) (fun k => cX_b (hr _ _ _ (aG_n h hi c7 k (by decide))) (fun q hq => pt_c h 62 (by decide) hq)) (fun _ => ?_)
  refine cX_i (aG_k h hi 1) (fun k => ?_) (fun _ => cX_n)
  have e1 := aG_n h hi c7 k (by decide)
  refine cX_i Iff.rfl (fun _ => ?_) (fun _ => cX_s e1)
  refine cX_i (aG_k h e1 65) (fun k65 => ?_) (fun _ => cX_s e1)
  have key : ∀ {P : Prop}, i + 1 < 700 → ((K (i + 2) = 2 ∧ i + 2 < 700) → P) → (K (i + 2) = 2 ∧ i + 2 < 700) → P := fun _ g k => g k
  have e2 : i + 1 < 700 → i + 2 ≤ e := fun c => aG_n h e1 c k65 (by decide)
  have e3 : i + 1 < 700 → (K (i + 2) = 2 ∧ i + 2 < 700) → i + 3 ≤ e := fun c k2 => aG_n h (e2 c) k2.2 k2.1 (by decide)
  refine cX_i ⟨fun ⟨a, b, c, d⟩ => ⟨a, ⟨(aG_k h (e2 a) 2).mp b.1, b.2⟩, (aG_k h (e3 a b) 66).mp c, d⟩, fun ⟨a, b, c, d⟩ => ?_⟩ (fun ⟨a, b, c, d⟩ => cX_s (aG_n h (e3 a b) d c (by decide))) (fun _ => cX_n)
  have b' : K (i + 2) = 2 ∧ i + 2 < 700 := ⟨(aG_k h (e2 a) 2).mpr b.1, b.2⟩
  exact ⟨a, b', (aG_k h (e3 a b') 66).mpr c, d⟩
theorem pE_c (h : aG K K' e) {o : Bool} : ∀ f : Nat, cgo e (pE K o f) (pE K' o f) := by
  intro f
  induction f with
  | zero => intro s i L _; exact cX_n
  | succ f ih =>
    intro s i L hi
    rw [pE, pE, ← h.1 i hi]
    refine cX_i Iff.rfl (fun c => cX_b (p := o1) ?_ (fun q hq => pW_c h ih _ _ _ hq)) (fun _ => cX_n)
    refine cX_i Iff.rfl (fun k => cX_i Iff.rfl (fun c7 => cX_b (ih _ _ _ ?_) (fun q hq => cX_s hq)) (fun _ => cX_n)) (fun _ => pO_c h ih hi)
    rcases k with k | k
    · exact aG_n h hi c7 k (by decide)
    · exact aG_n h hi c7 k (by decide)
theorem pX_c (h : aG K K' e) {o : Bool} {f i : Nat} {L : gU} (hi : i ≤ e) : cX e o1 (pX K o f i L) (pX K' o f i L) := cX_b (pE_c h f 0 i L hi) (fun q hq => pan_c hq)
theorem pXq_c (h : aG K K' e) {f : Nat} {q : Nat × gU} (hq : q.1 ≤ e) : cX e o1 (pXq K f q) (pXq K' f q) := pX_c h hq
theorem pP_c (h : aG K K' e) {f i : Nat} {L : gU} (hi : i ≤ e) : cX e o1 (pP K f i L) (pP K' f i L) := by
  unfold pP
  refine cX_i (and_congr (aG_k h hi 1) Iff.rfl) (fun c => ?_) (fun _ => cX_n)
  have e1 := aG_n h hi c.2 c.1 (by decide)
  refine cX_i (aG_k h e1 65) (fun k => cX_i Iff.rfl (fun c7 => cX_b (pX_c h (aG_n h e1 c7 k (by decide))) (fun q hq => pt_c h 66 (by decide) hq)) (fun _ => cX_n)) (fun _ => cX_s e1)
theorem pR_c (h : aG K K' e) {f i : Nat} {t : Option Nat} {L : gU} (hi : i ≤ e) : cX e o1 (pR K f t i L) (pR K' f t i L) := by
  by_cases h7 : 700 ≤ i
  · rw [pR_7 h7, pR_7 h7]; exact cX_n
  have c7 : i < 700 := by omega
  unfold pR
  rw [← h.1 i hi]
  refine cX_i Iff.rfl (fun k => cX_i Iff.rfl (fun _ => ?_) (fun _ => cX_n)) (fun _ => ?_)
  · have e1 : i + 1 ≤ e := by
      rcases k with k | k | k
      · exact aG_n h hi c7 k (by decide)
      · exact aG_n h hi c7 k (by decide)
      · exact aG_n h hi c7 k (by decide)
    refine cX_b (cX_b (cX_b (pP_c h e1) (fun q hq => pt_c h 68 (by decide) hq)) (fun q hq => pXq_c h hq)) (fun q hq => cX_b (p := o1) (cX_i Iff.rfl (fun _ => cX_b (pt_c h 68 (by decide) hq) (fun q hq => pXq_c h hq)) (fun _ => cX_s hq)) (fun q hq => pan_c hq))
  · by_cases k1 : K i = 1
    · have e1 := aG_n h hi c7 k1 (by decide)
      rw [← h.1 (i + 1) e1]
      refine cX_i Iff.rfl (fun _ => cX_b (pP_c h hi) (fun q hq => pan_c hq)) (fun _ => cX_i Iff.rfl (fun _ => cX_i Iff.rfl (fun _ => cX_s e1) (fun _ => cX_n)) (fun _ => cX_b (pX_c h hi) (fun q hq => pan_c hq)))
    · rw [if_neg (fun z => k1 z.1), if_neg (fun z => k1 z.1), if_neg (fun z => k1 z.1), if_neg (fun z => k1 z.1)]
      exact cX_b (pX_c h hi) (fun q hq => pan_c hq)
abbrev cgs (e : Nat) (f f' : Nat → Nat → gU → gTs) : Prop := ∀ c i L, i ≤ e → cX e o2 (f c i L) (f' c i L)
theorem pBl_c (h : aG K K' e) {rS rS' : Nat → Nat → gU → gTs} (hr : cgs e rS rS') {z : Nat} : ∀ (n c i : Nat) (L : gU), i ≤ e → cX e o2 (pBl rS K z n c i L) (pBl rS' K' z n c i L) := by
  intro n
  induction n with
  | zero => intro c i L _; exact cX_n
  | succ n ih =>
    intro c i L hi
    rw [pBl, pBl]
    exact cX_i (aG_k h hi 64) (fun k => cX_i Iff.rfl (fun c7 => cX_s (aG_n h hi c7 k (by decide))) (fun _ => cX_n)) (fun _ => cX_b (hr _ _ _ hi) (fun q hq => ih _ _ _ hq))
theorem pBk_c (h : aG K K' e) {rS rS' : Nat → Nat → gU → gTs} (hr : cgs e rS rS') {z c i : Nat} {L : gU} (hi : i ≤ e) : cX e o2 (pBk rS K z c i L) (pBk rS' K' z c i L) := by
  unfold pBk
  exact cX_i (and_congr (aG_k h hi 63) Iff.rfl) (fun k => pBl_c h hr _ _ _ _ (aG_n h hi k.2 k.1 (by decide))) (fun _ => cX_n)
theorem pEl_c (h : aG K K' e) {rS rS' : Nat → Nat → gU → gTs} (hr : cgs e rS rS') {q : Nat × Nat × gU} (hq : q.2.1 ≤ e) : cX e o2 (pEl rS K q) (pEl rS' K' q) := by
  unfold pEl
  refine cX_i (aG_k h hq 18) (fun k => cX_i Iff.rfl (fun c7 => ?_) (fun _ => cX_n)) (fun _ => cX_s hq)
  have e1 := aG_n h hq c7 k (by decide)
  exact cX_i (aG_k h e1 24) (fun _ => hr _ _ _ e1) (fun _ => pBk_c h hr e1)
theorem pup_c {c : Nat} {v : Nat × Nat × Nat} {f f' : gOp} (h : cX e o1 f f') : cX e o2 (pup c v f) (pup c v f') := cX_b h (fun q hq => cX_s hq)
theorem pS1_c (h : aG K K' e) {f c i : Nat} {L : gU} (hi : i ≤ e) (c7 : i < 700) : cX e o2 (pS1 K f c i L) (pS1 K' f c i L) := by
  unfold pS1
  refine cX_i (aG_k h hi 26) (fun k => ?_) (fun _ => cX_i (aG_k h hi 1) (fun k => ?_) (fun _ => ?_))
  · have e1 := aG_n h hi c7 k (by decide)
    have e2 : (K (i + 1) = 1 ∧ i + 1 < 700) → i + 2 ≤ e := fun z => aG_n h e1 z.2 z.1 (by decide)
    refine cX_i ⟨fun ⟨a, b, d⟩ => ⟨⟨(aG_k h e1 1).mp a.1, a.2⟩, b, (aG_k h (e2 a) 50).mp d.1, d.2⟩, fun ⟨a, b, d⟩ => ?_⟩ (fun ⟨a, b, d⟩ => pup_c (cX_b (pR_c h (aG_n h (e2 a) d.2 d.1 (by decide))) (fun q hq => pt_c h 67 (by decide) hq))) (fun _ => cX_n)
    have a' : K (i + 1) = 1 ∧ i + 1 < 700 := ⟨(aG_k h e1 1).mpr a.1, a.2⟩
    exact ⟨a', b, (aG_k h (e2 a') 50).mpr d.1, d.2⟩
  · have e1 := aG_n h hi c7 k (by decide)
    refine cX_i (aG_k h e1 65) (fun k65 => cX_i Iff.rfl (fun c8 => pup_c ?_) (fun _ => cX_n)) (fun _ => cX_i (and_congr (aG_k h e1 50) Iff.rfl) (fun k50 => pup_c (cX_b (pR_c h (aG_n h e1 k50.2 k50.1 (by decide))) (fun q hq => pt_c h 67 (by decide) hq))) (fun _ => cX_n))
    exact cX_b (cX_b (cX_b (cX_b (pX_c h (aG_n h e1 c8 k65 (by decide))) (fun q hq => pt_c h 66 (by decide) hq)) (fun q hq => pt_c h 50 (by decide) hq)) (fun q hq => pXq_c h hq)) (fun q hq => pt_c h 67 (by decide) hq)
  · have up : ∀ {w : Int32}, K i = w → (¬ w = 0 ∧ ¬ w = 3) → i + 1 ≤ e := fun k hw => aG_n h hi c7 k hw
    rw [← h.1 i hi]
    refine cX_i Iff.rfl (fun k => pup_c (pt_c h 67 (by decide) ?_)) (fun _ => cX_i Iff.rfl (fun k => pup_c (cX_b (pX_c h ?_) (fun q hq => pt_c h 67 (by decide) hq))) (fun _ => cX_i Iff.rfl (fun k => ?_) (fun _ => cX_i Iff.rfl (fun k => ?_) (fun _ => cX_i Iff.rfl (fun k => ?_) (fun _ => cX_n)))))
    · rcases k with k | k | k <;> exact up k (by decide)
    · rcases k with k | k <;> exact up k (by decide)
    · have e1 := up k (by decide)
      have e2 : (K (i + 1) = 2 ∧ i + 1 < 700) → i + 2 ≤ e := fun z => aG_n h e1 z.2 z.1 (by decide)
      refine cX_i ⟨fun ⟨a, d⟩ => ⟨⟨(aG_k h e1 2).mp a.1, a.2⟩, (aG_k h (e2 a) 68).mp d.1, d.2⟩, fun ⟨a, d⟩ => ?_⟩ (fun ⟨a, d⟩ => pup_c (cX_b (pX_c h (aG_n h (e2 a) d.2 d.1 (by decide))) (fun q hq => pt_c h 67 (by decide) hq))) (fun _ => cX_n)
      have a' : K (i + 1) = 2 ∧ i + 1 < 700 := ⟨(aG_k h e1 2).mpr a.1, a.2⟩
      exact ⟨a', (aG_k h (e2 a') 68).mpr d.1, d.2⟩
    · have e1 : i + 1 ≤ e := by rcases k with k | k | k | k | k <;> exact up k (by decide)
      exact cX_i (and_congr (aG_k h e1 1) Iff.rfl) (fun a => pup_c (pt_c h 67 (by decide) (aG_n h e1 a.2 a.1 (by decide)))) (fun _ => cX_n)
    · have e1 : i + 1 ≤ e := by rcases k with k | k <;> exact up k (by decide)
      exact cX_i (and_congr (aG_k h e1 1) Iff.rfl) (fun a => pup_c (pt_c h 67 (by decide) (aG_n h e1 a.2 a.1 (by decide)))) (fun _ => cX_n)
theorem pS_c (h : aG K K' e) : ∀ f : Nat, cgs e (pS K f) (pS K' f) := by
  intro f
  induction f with
  | zero => intro c i L _; exact cX_n
  | succ f ih =>
    intro c i L hi
    rw [pS, pS]
    refine cX_i Iff.rfl (fun _ => cX_n) (fun c7 => ?_)
    have c7 : i < 700 := by omega
    refine cX_i (aG_k h hi 24) (fun k => ?_) (fun _ => cX_i (aG_k h hi 41) (fun k => ?_) (fun _ => cX_i (aG_k h hi 27) (fun k => ?_) (fun _ => pS1_c h hi c7)))
    · exact cX_b (pX_c h (aG_n h hi c7 k (by decide))) (fun q hq => cX_b (p := o2) (cX_b (pBk_c h ih hq) (fun q hq => pEl_c h ih hq)) (fun q hq => cX_s hq))
    · exact cX_b (pX_c h (aG_n h hi c7 k (by decide))) (fun q hq => pBk_c h ih hq)
    · have e1 := aG_n h hi c7 k (by decide)
      exact cX_i (and_congr (aG_k h e1 1) Iff.rfl) (fun a => pBk_c h ih (aG_n h e1 a.2 a.1 (by decide))) (fun _ => cX_n)
theorem pCv_c (h : aG K K' e) {q : Nat × gU} (hq : q.1 ≤ e) : cX e o1 (pCv K q) (pCv K' q) := by
  unfold pCv
  refine cX_i (aG_k h hq 50) (fun k => cX_i Iff.rfl (fun c7 => ?_) (fun _ => cX_n)) (fun _ => cX_s hq)
  have e1 := aG_n h hq c7 k (by decide)
  refine cX_i (aG_k h e1 58) (fun k58 => ?_) (fun _ => cX_i (and_congr (aG_k h e1 2) Iff.rfl) (fun k2 => cX_s (aG_n h e1 k2.2 k2.1 (by decide))) (fun _ => cX_n))
  have e2 : q.1 + 1 < 700 → q.1 + 2 ≤ e := fun z => aG_n h e1 z k58 (by decide)
  exact cX_i ⟨fun ⟨a, b, d⟩ => ⟨a, (aG_k h (e2 a) 2).mp b, d⟩, fun ⟨a, b, d⟩ => ⟨a, (aG_k h (e2 a) 2).mpr b, d⟩⟩ (fun ⟨a, b, d⟩ => cX_s (aG_n h (e2 a) d b (by decide))) (fun _ => cX_n)
theorem prz_c (h : aG K K' e) (hV : ∀ j, j ≤ e → K j = 2 → V j = V' j) {w : Nat} (hw : w ≤ e) : prz K V w = prz K' V' w := by
  unfold prz
  by_cases k : K w = 2
  · rw [h.1 w hw] at k
    rw [← hV w hw (by rw [h.1 w hw]; exact k), h.1 w hw]
  · rw [if_neg (fun z => k z.1), if_neg (fun z => k (by rw [h.1 w hw]; exact z.1))]
theorem pCl_c (h : aG K K' e) (hV : ∀ j, j ≤ e → K j = 2 → V j = V' j) {n i t : Nat} {L : gU} (ht : t - 1 ≤ e) (ht1 : 1 ≤ t) : cX e o2 (pCl K V n i t L) (pCl K' V' n i t L) := by
  have et : (K (t - 1) = 17 ∧ t - 1 < 700) → t ≤ e := fun z => by
    have := aG_n h ht z.2 z.1 (by decide)
    omega
  have e1 : (K (t - 1) = 17 ∧ t - 1 < 700) → (K t = 1 ∧ t < 700) → t + 1 ≤ e := fun a b => aG_n h (et a) b.2 b.1 (by decide)
  unfold pCl
  refine cX_i ⟨fun ⟨a, b, c⟩ => ⟨⟨(aG_k h ht 17).mp a.1, a.2⟩, ⟨(aG_k h (et a) 1).mp b.1, b.2⟩, c⟩, fun ⟨a, b, c⟩ => ?_⟩ (fun ⟨a, b, c⟩ => ?_) (fun _ => cX_n)
  · have a' : K (t - 1) = 17 ∧ t - 1 < 700 := ⟨(aG_k h ht 17).mpr a.1, a.2⟩
    exact ⟨a', ⟨(aG_k h (et a') 1).mpr b.1, b.2⟩, c⟩
  have e1 := e1 a b
  refine cX_i (aG_k h e1 65) (fun k65 => ?_) (fun _ => cX_b (cX_b (pCv_c h e1) (fun q hq => pt_c h 67 (by decide) hq)) (fun q hq => cX_s hq))
  by_cases c7 : t + 1 < 700
  · have e2 := aG_n h e1 c7 k65 (by decide)
    have ep := prz_c h hV e2
    have e3 : (K (t + 2) = 2 ∧ t + 2 < 700) → t + 3 ≤ e := fun z => aG_n h e2 z.2 z.1 (by decide)
    rw [← ep]
    refine cX_i ⟨fun ⟨a, b, c, d⟩ => ⟨a, b, ⟨(aG_k h e2 2).mp c.1, c.2⟩, (aG_k h (e3 c) 66).mp d.1, d.2⟩, fun ⟨a, b, c, d⟩ => ?_⟩ (fun ⟨a, b, c, d⟩ => cX_b (cX_b (pCv_c h (aG_n h (e3 c) d.2 d.1 (by decide))) (fun q hq => pt_c h 67 (by decide) hq)) (fun q hq => cX_s hq)) (fun _ => cX_n)
    have c' : K (t + 2) = 2 ∧ t + 2 < 700 := ⟨(aG_k h e2 2).mpr c.1, c.2⟩
    exact ⟨a, b, c', (aG_k h (e3 c') 66).mpr d.1, d.2⟩
  · rw [if_neg (fun z => c7 z.1), if_neg (fun z => c7 z.1)]
    exact cX_n
theorem pD_c (h : aG K K' e) (hV : ∀ j, j ≤ e → K j = 2 → V j = V' j) {n : gN} {i : Nat} {L : gU} (hi : i ≤ e) : cX e o3 (pD K V n i L) (pD K' V' n i L) := by
  have up : ∀ {w : Int32}, K i = w → (¬ w = 0 ∧ ¬ w = 3) → i < 700 → i + 1 ≤ e := fun k hw c7 => aG_n h hi c7 k hw
  unfold pD
  refine cX_i (aG_k h hi 34) (fun k => cX_i Iff.rfl (fun c7 => ?_) (fun _ => cX_n)) (fun _ => cX_i (aG_k h hi 17) (fun k => ?_) (fun _ => cX_i (aG_k h hi 27) (fun k => ?_) (fun _ => cX_i (aG_k h hi 23) (fun k => ?_) (fun _ => cX_i (aG_k h hi 37) (fun k => ?_) (fun _ => cX_i (aG_k h hi 11) (fun k => ?_) (fun _ => cX_i (aG_k h hi 21) (fun k => ?_) (fun _ => cX_n)))))))
  · exact cX_b (pCl_c h hV (by have := up k (by decide) c7; omega) (by omega)) (fun q hq => cX_s hq)
  · exact cX_b (pCl_c h hV (by omega) (by omega)) (fun q hq => cX_s hq)
  · have e1 : i < 700 → i + 1 ≤ e := up k (by decide)
    have e2 : i < 700 → (K (i + 1) = 1 ∧ i + 1 < 700) → i + 2 ≤ e := fun a b => aG_n h (e1 a) b.2 b.1 (by decide)
    refine cX_i ⟨fun ⟨m, a, b, d⟩ => ⟨m, a, ⟨(aG_k h (e1 a) 1).mp b.1, b.2⟩, (aG_k h (e2 a b) 67).mp d.1, d.2⟩, fun ⟨m, a, b, d⟩ => ?_⟩ (fun ⟨m, a, b, d⟩ => cX_s (aG_n h (e2 a b) d.2 d.1 (by decide))) (fun _ => cX_n)
    have b' : K (i + 1) = 1 ∧ i + 1 < 700 := ⟨(aG_k h (e1 a) 1).mpr b.1, b.2⟩
    exact ⟨m, a, b', (aG_k h (e2 a b') 67).mpr d.1, d.2⟩
  · have e1 : i < 700 → i + 1 ≤ e := up k (by decide)
    have e2 : i < 700 → (K (i + 1) = 37 ∧ i + 1 < 700) → i + 2 ≤ e := fun a b => aG_n h (e1 a) b.2 b.1 (by decide)
    refine cX_i ⟨fun ⟨m, a, b, d⟩ => ⟨m, a, ⟨(aG_k h (e1 a) 37).mp b.1, b.2⟩, (aG_k h (e2 a b) 1).mp d.1, d.2⟩, fun ⟨m, a, b, d⟩ => ?_⟩ (fun ⟨m, a, b, d⟩ => cX_b (pBk_c h (pS_c h 16) (aG_n h (e2 a b) d.2 d.1 (by decide))) (fun q hq => cX_s hq)) (fun _ => cX_n)
    have b' : K (i + 1) = 37 ∧ i + 1 < 700 := ⟨(aG_k h (e1 a) 37).mpr b.1, b.2⟩
    exact ⟨m, a, b', (aG_k h (e2 a b') 1).mpr d.1, d.2⟩
  · have e1 : i < 700 → i + 1 ≤ e := up k (by decide)
    refine cX_i ⟨fun ⟨m, a, d⟩ => ⟨m, a, (aG_k h (e1 a) 1).mp d.1, d.2⟩, fun ⟨m, a, d⟩ => ⟨m, a, (aG_k h (e1 a) 1).mpr d.1, d.2⟩⟩ (fun ⟨m, a, d⟩ => cX_b (pBk_c h (pS_c h 16) (aG_n h (e1 a) d.2 d.1 (by decide))) (fun q hq => cX_s hq)) (fun _ => cX_n)
  · exact cX_i Iff.rfl (fun c => cX_b (cX_b (pX_c h (up k (by decide) c.2)) (fun q hq => pt_c h 67 (by decide) hq)) (fun q hq => cX_s hq)) (fun _ => cX_n)
  · exact cX_i Iff.rfl (fun c => cX_b (cX_b (pX_c h (up k (by decide) c.2)) (fun q hq => pt_c h 67 (by decide) hq)) (fun q hq => cX_s hq)) (fun _ => cX_n)
theorem pAl_c (h : aG K K' e) (hV : ∀ j, j ≤ e → K j = 2 → V j = V' j) : ∀ (m : Nat) (n : gN) (i : Nat) (L : gU), i ≤ e → cX e o3 (pAl K V m n i L) (pAl K' V' m n i L) := by
  intro m
  induction m with
  | zero => intro n i L _; exact cX_n
  | succ m ih =>
    intro n i L hi
    rw [pAl, pAl]
    exact cX_i (aG_k h hi 0) (fun _ => cX_s hi) (fun _ => cX_b (pD_c h hV hi) (fun q hq => ih _ _ _ hq))
end CNG
/-! and so whether there is a fault -/
theorem fM_c {α β : Type} {f g : α → Option β} : ∀ {l : List α}, (∀ a ∈ l, f a = g a) → l.filterMap f = l.filterMap g := by
  intro l
  induction l with
  | nil => intro _; rfl
  | cons a l ih =>
    intro h
    rw [List.filterMap_cons, List.filterMap_cons, h a List.mem_cons_self, ih (fun z hz => h z (List.mem_cons_of_mem _ hz))]
section CNJ
variable {K K' V V' : Nat → Int32} {sN sN' : Nat → Nat → Bool} {e : Nat}
/-- a name that both know -/
def gdN (K' : Nat → Int32) (t : Nat) : Prop := K' t = 1
theorem kfi_c (hs : ∀ a b, gdN K' a → gdN K' b → sN a b = sN' a b) {t : Nat} (ht : gdN K' t) : ∀ {l : gK}, (∀ k ∈ l, gdN K' k.1) → kfi sN l t = kfi sN' l t := by
  intro l
  induction l with
  | nil => intro _; rfl
  | cons k l ih =>
    intro hl
    show (if sN k.1 t = true then some l.length else kfi sN l t) = (if sN' k.1 t = true then some l.length else kfi sN' l t)
    rw [hs _ _ (hl k List.mem_cons_self) ht, ih (fun z hz => hl z (List.mem_cons_of_mem _ hz))]
theorem mtP_c (hs : ∀ a b, gdN K' a → gdN K' b → sN a b = sN' a b) {t w : Nat} (ht : gdN K' t) : ∀ {T : gTd}, (∀ q ∈ T, gdN K' q.1) → mtP sN T w t = mtP sN' T w t := by
  intro T
  unfold mtP
  induction T with
  | nil => intro _; rfl
  | cons q T ih =>
    intro hT
    rw [List.find?_cons, List.find?_cons, hs _ _ (hT q List.mem_cons_self) ht, ih (fun z hz => hT z (List.mem_cons_of_mem _ hz))]
theorem plc_c (hs : ∀ a b, gdN K' a → gdN K' b → sN a b = sN' a b) {T : gTd} (hT : ∀ q ∈ T, gdN K' q.1) {t : Nat} (ht : gdN K' t) : plc sN T t ↔ plc sN' T t := by unfold plc; rw [mtP_c hs ht hT]
theorem rwc_c (hs : ∀ a b, gdN K' a → gdN K' b → sN a b = sN' a b) {T : gTd} (hT : ∀ q ∈ T, gdN K' q.1) {t n : Nat} (ht : gdN K' t) : rwc sN T t n ↔ rwc sN' T t n := by unfold rwc; rw [mtP_c hs ht hT]
theorem fv_c (hs : ∀ a b, gdN K' a → gdN K' b → sN a b = sN' a b) (hV : ∀ j, K' j = 2 → V j = V' j) {T : gTd} (hT : ∀ q ∈ T, gdN K' q.1) {E : gV} (hE : ∀ k ∈ E.1, gdN K' k.1) {v : Nat × Nat × Nat} (hv : oZ K' v) : fv sN T V E v ↔ fv sN' T V' E v := by
  obtain ⟨o1, o2, o3, o4, o5⟩ := hv
  have k1 : v.1 ∈ [3, 6, 7, 22, 23, 24, 25, 26, 31, 32, 33, 34] → kfi sN E.1 v.2.1 = kfi sN' E.1 v.2.1 := fun z => kfi_c hs (o1 z) hE
  have p1 : v.1 ∈ [3, 6, 7, 22, 23, 24, 25, 26, 31, 32, 33, 34] → (plc sN T v.2.1 ↔ plc sN' T v.2.1) := fun z => plc_c hs hT (o1 z)
  unfold fv
  refine or_congr (and_congr_right (fun c => ?_)) (or_congr (and_congr_right (fun c => ?_)) (or_congr (and_congr_right (fun c => ?_)) (or_congr (and_congr_right (fun c => ?_)) (or_congr (and_congr_right (fun c => ?_)) (or_congr (and_congr_right (fun c => ?_)) (or_congr (and_congr_right (fun c => ?_)) (or_congr (and_congr_right (fun c => ?_)) (or_congr (and_congr_right (fun c => ?_)) (or_congr (and_congr_right (fun c => ?_)) (or_congr (and_congr_right (fun c => ?_)) (or_congr (and_congr_right (fun c => ?_)) (and_congr_right (fun c => ?_)))))))))))))
  · rw [k1 (by rw [c]; decide)]
  · rw [p1 (by rw [c]; decide)]
  · exact not_congr (exists_congr (fun n => rwc_c hs hT (o1 (by rw [c]; decide))))
  · obtain ⟨z1, z2⟩ := o4 c
    exact exists_congr (fun n => by rw [rwc_c hs hT z2, hV _ z1])
  · have z := o1 (by rw [c]; decide)
    exact ⟨fun ⟨k, hk, h⟩ => ⟨k, hk, by rw [← hs _ _ (hE k (List.mem_of_mem_take hk)) z]; exact h⟩, fun ⟨k, hk, h⟩ => ⟨k, hk, by rw [hs _ _ (hE k (List.mem_of_mem_take hk)) z]; exact h⟩⟩
  · rw [k1 (by rw [c]; decide), p1 (by rw [c]; decide)]
  · rw [k1 (by rw [c]; decide), p1 (by rw [c]; decide)]
  · rw [k1 (by rw [c]; decide)]
  · obtain ⟨z1, z2⟩ := o2 c
    rw [kfi_c hs z1 hE, kfi_c hs z2 hE, plc_c hs hT z2]
  · obtain ⟨z1, z2⟩ := o2 c
    rw [kfi_c hs z1 hE, plc_c hs hT z1]
  · have z := o3 (by rcases c with c | c <;> rw [c] <;> decide)
    rw [mtP_c hs z hT]
  · have z := o3 (by rw [c]; decide)
    rw [mtP_c hs z hT]
  · have z := o5 (by rw [c]; decide)
    rw [hV _ z]
theorem exV_g {E : gV} (hE : ∀ k ∈ E.1, gdN K' k.1) {v : Nat × Nat × Nat} (hv : v.1 = 22 → K' v.2.1 = 1) : ∀ k ∈ (exV E v).1, gdN K' k.1 := by
  unfold exV
  split
  · exact hE
  · split
    · intro k hk
      exact hE k (List.mem_of_mem_drop hk)
    · split
      · next c =>
        intro k hk
        rcases List.mem_cons.mp hk with z | z
        · rw [z]; exact hv c
        · exact hE k z
      · exact hE
theorem flt_c (hs : ∀ a b, gdN K' a → gdN K' b → sN a b = sN' a b) (hV : ∀ j, K' j = 2 → V j = V' j) {T : gTd} (hT : ∀ q ∈ T, gdN K' q.1) : ∀ {L : gU} {E : gV}, (∀ v ∈ L, oZ K' v) → (∀ k ∈ E.1, gdN K' k.1) → (flt sN T V L E ↔ flt sN' T V' L E) := by
  intro L
  induction L with
  | nil => intro E _ _; exact Iff.rfl
  | cons v L ih =>
    intro E hL hE
    have hv := hL v List.mem_cons_self
    exact or_congr (fv_c hs hV hT hE hv) (ih (fun w hw => hL w (List.mem_cons_of_mem _ hw)) (exV_g hE (fun c => hv.1 (by rw [c]; decide))))
theorem jT_c (hs : ∀ a b, gdN K' a → gdN K' b → sN a b = sN' a b) (hV : ∀ j, K' j = 2 → V j = V' j) {T : gTd} (hT : ∀ q ∈ T, gdN K' q.1) (hT2 : ∀ q ∈ T, 0 < q.2.2.1 → K' q.2.2.2 = 2) : jT sN V T ↔ jT sN' V' T := by
  unfold jT
  refine exists_congr (fun j => exists_congr (fun q => and_congr_right (fun hq => ?_)))
  have hm := List.mem_of_getElem? hq
  unfold tw
  refine or_congr (exists_congr (fun j' => exists_congr (fun q' => and_congr_right (fun _ => and_congr_right (fun hq' => ?_))))) (and_congr_right (fun c => ?_))
  · rw [hs _ _ (hT q' (List.mem_of_getElem? hq')) (hT q hm)]
  · rw [hV _ (hT2 q hm c)]
theorem jFl_c (h : ∀ j, K' j = 1 ∨ K' j = 2 → K j = K' j) (hs : ∀ a b, gdN K' a → gdN K' b → sN a b = sN' a b) (hV : ∀ j, K' j = 2 → V j = V' j) {L : gU} (hL : ∀ v ∈ L, oZ K' v) : jFl sN K V L ↔ jFl sN' K' V' L := by
  have eT : L.filterMap (te1 K V) = L.filterMap (te1 K' V') := by
    refine fM_c (fun v hv => ?_)
    unfold te1
    by_cases c : v.1 = 32
    · have z := (hL v hv).2.2.2.2 (by rw [c]; decide)
      have ep : prz K V v.2.2 = prz K' V' v.2.2 := by
        unfold prz
        rw [h _ (Or.inr z), hV _ z]
      rw [ep]
    · rw [if_neg c, if_neg c]
  have hT : ∀ q ∈ L.filterMap (te1 K' V'), gdN K' q.1 ∧ (0 < q.2.2.1 → K' q.2.2.2 = 2) := fun q hq => by
    obtain ⟨v, hv, ev⟩ := te_mem hq
    obtain ⟨g1, g2, g3⟩ := te_is ev
    refine ⟨?_, fun c => ?_⟩
    · show K' q.1 = 1
      rw [g2]
      exact (hL v hv).1 (by rcases g1 with g | g | g | g <;> rw [g] <;> decide)
    · obtain ⟨z1, z2⟩ := g3 c
      rw [z2]
      exact (hL v hv).2.2.2.2 (by rw [z1]; decide)
  unfold jFl
  rw [eT]
  exact or_congr (jT_c hs hV (fun q hq => (hT q hq).1) (fun q hq => (hT q hq).2)) (flt_c hs hV (fun q hq => (hT q hq).1) hL (fun k hk => by cases hk))
end CNJ
end
section
/-! the code in numbers depends on the text's tokens alone -/
section CDC
variable {K K' V V' : Nat → Int32} {sN sN' : Nat → Nat → Bool} {L N : gU} {c : gCd} {v : Nat × Nat × Nat} {E : gV} {tk i w t : Nat} {tg : Option Nat} {T : gTd} {S : List gSt}
theorem ite_c {α : Type} {p : Prop} [Decidable p] {a a' b b' : α} (h1 : p → a = a') (h2 : ¬ p → b = b') : (if p then a else b) = (if p then a' else b') := by
  by_cases h : p
  · rw [if_pos h, if_pos h, h1 h]
  · rw [if_neg h, if_neg h, h2 h]
theorem ite_q {α : Type} {P : α → Prop} {p : Prop} [Decidable p] {a b : α} (h1 : p → P a) (h2 : ¬ p → P b) : P (if p then a else b) := by
  by_cases h : p
  · rw [if_pos h]; exact h1 h
  · rw [if_neg h]; exact h2 h
theorem toL_c (hs : ∀ a b, gdN K' a → gdN K' b → sN a b = sN' a b) (ht : ∀ a, tg = some a → gdN K' a) {ks : gK} (hk : ∀ k ∈ ks, gdN K' k.1) : toL sN ks tg = toL sN' ks tg := by
  cases tg with
  | none => rfl
  | some a => exact kfi_c hs (ht a rfl) hk
theorem cSe_cg (e : toL sN c.1.1 tg = toL sN' c.1.1 tg) : cSe sN c tg tk N = cSe sN' c tg tk N := by
  unfold cSe
  rw [e]
theorem cAl_c (e : toL sN c.1.1 tg = toL sN' c.1.1 tg) (k : kfi sN c.1.1 i = kfi sN' c.1.1 i) : cAl sN c tg tk i = cAl sN' c tg tk i := by
  unfold cAl
  rw [k]
  cases kfi sN' c.1.1 i with
  | some p => exact cSe_cg e
  | none => exact congrArg (fun o => cEm c (0, tk, knw c.1, o, some i, false, none, none, none)) e
theorem cXc_c (e : toL sN c.1.1 c.2.2.2.1.2.2.2.2.1 = toL sN' c.1.1 c.2.2.2.1.2.2.2.2.1) (hK : K i = K' i) : cXc sN K c i = cXc sN' K' c i := by
  unfold cXc
  rw [e, hK]
theorem cdV_c (hs : ∀ a b, gdN K' a → gdN K' b → sN a b = sN' a b) (hK : ∀ j, ¬ K' j = 0 → K j = K' j) (hz : oZ K' v) (hy : oY K' v) (hE : ∀ k ∈ c.1.1, gdN K' k.1) (ht : ∀ a, c.2.2.2.1.2.2.2.2.1 = some a → gdN K' a) : cdV sN K c v = cdV sN' K' c v := by
  have e := toL_c hs ht hE
  unfold cdV
  refine ite_c (fun _ => rfl) (fun _ => ite_c (fun _ => rfl) (fun _ => ite_c (fun _ => rfl) (fun _ => ite_c (fun _ => rfl) (fun _ => ite_c (fun _ => rfl) (fun _ => ite_c (fun _ => rfl) (fun _ => ite_c (fun _ => rfl) (fun _ => ite_c (fun _ => rfl) (fun _ => ?_))))))))
  refine ite_c (fun h => cAl_c e (kfi_c hs (hz.1 (by rw [h]; decide)) hE)) (fun _ => ?_)
  refine ite_c (fun h => cAl_c (toL_c hs (fun a z => by cases Option.some.inj z; exact (hz.2.1 h).1) hE) (kfi_c hs (hz.2.1 h).2 hE)) (fun _ => ?_)
  refine ite_c (fun _ => cSe_cg e) (fun _ => ?_)
  refine ite_c (fun _ => by rw [e]) (fun _ => ?_)
  refine ite_c (fun h => cXc_c e (hK _ (hy.1 (by rw [h]; decide)))) (fun _ => ?_)
  refine ite_c (fun _ => rfl) (fun _ => ite_c (fun _ => rfl) (fun _ => ite_c (fun _ => rfl) (fun _ => ite_c (fun _ => rfl) (fun _ => ite_c (fun _ => rfl) (fun _ => ?_)))))
  refine ite_c (fun h => by rw [hK _ (hy.1 (by rcases h with h | h <;> rw [h] <;> decide))]) (fun _ => ?_)
  refine ite_c (fun h => by rw [hK _ (hy.1 (by rw [h]; decide))]) (fun _ => ?_)
  refine ite_c (fun h => by rw [hK _ (hy.1 (by rw [h]; decide))]) (fun _ => ?_)
  rfl
/-- names kept in the code so far -/
def gI (K' : Nat → Int32) (c : gCd) : Prop := (∀ k ∈ c.1.1, gdN K' k.1) ∧ (∀ a, c.2.2.2.1.2.2.2.2.1 = some a → gdN K' a) ∧ ∀ st ∈ c.2.1, ∀ k ∈ st.2.2.1.1, gdN K' k.1
theorem gS_add {st : gSt} (h : ∀ st ∈ S, ∀ k ∈ st.2.2.1.1, gdN K' k.1) (g : ∀ k ∈ st.2.2.1.1, gdN K' k.1) : ∀ s ∈ S ++ [st], ∀ k ∈ s.2.2.1.1, gdN K' k.1 := fun s hs => (List.mem_append.mp hs).elim (h s) (fun hs => by rw [List.mem_singleton.mp hs]; exact g)
theorem gS_to {j n : Nat} (h : ∀ st ∈ S, ∀ k ∈ st.2.2.1.1, gdN K' k.1) : ∀ s ∈ cTo S j n, ∀ k ∈ s.2.2.1.1, gdN K' k.1 := fun s hs => by
  unfold cTo at hs
  obtain ⟨i, hi, e⟩ := List.mem_mapIdx.mp hs
  rw [← e]
  have g := h _ (List.getElem_mem hi)
  refine ite_q (P := fun s : gSt => ∀ k ∈ s.2.2.1.1, gdN K' k.1) (fun _ => g) (fun _ => g)
theorem gI_em {st : gSt} (h : gI K' c) (g : ∀ k ∈ st.2.2.1.1, gdN K' k.1) : gI K' (cEm c st) := ⟨h.1, fun a z => (by cases z), gS_add h.2.2 g⟩
theorem gI_pu {st : gSt} (h : gI K' c) (g : ∀ k ∈ st.2.2.1.1, gdN K' k.1) : gI K' (cPu c st) := ⟨h.1, fun a z => (by cases z), gS_add h.2.2 g⟩
theorem gI_se (h : gI K' c) : gI K' (cSe sN c tg tk N) := by
  unfold cSe
  cases toL sN c.1.1 tg with
  | some p => exact gI_em h h.1
  | none => exact gI_em h h.1
theorem gI_al (h : gI K' c) : gI K' (cAl sN c tg tk i) := by
  unfold cAl
  cases kfi sN c.1.1 i with
  | some p => exact gI_se h
  | none => exact gI_em h h.1
theorem gI_xc (h : gI K' c) : gI K' (cXc sN K c i) := by
  unfold cXc
  exact ite_q (P := gI K') (fun _ => gI_em h h.1) (fun _ => gI_em h h.1)
theorem gI_cl {z : Nat} (h : gI K' c) : gI K' (cCl c z) := by
  unfold cCl
  refine ite_q (P := gI K') (fun _ => ⟨h.1, h.2.1, gS_add h.2.2 h.1⟩) (fun _ => ite_q (P := gI K') (fun _ => ⟨h.1, h.2.1, gS_to (gS_add h.2.2 h.1)⟩) (fun _ => ite_q (P := gI K') (fun _ => ⟨h.1, h.2.1, gS_add h.2.2 h.1⟩) (fun _ => h)))
theorem cdV_I (hz : oZ K' v) (h : gI K' c) : gI K' (cdV sN K c v) := by
  have hx : gI K' (exV c.1 v, c.2) := ⟨exV_g h.1 (fun e => hz.1 (by rw [e]; decide)), h.2⟩
  unfold cdV
  refine ite_q (P := gI K') (fun _ => h) (fun _ => ite_q (P := gI K') (fun _ => ite_q (P := gI K') (fun _ => h) (fun _ => h)) (fun _ => ite_q (P := gI K') (fun _ => ite_q (P := gI K') (fun _ => h) (fun _ => h)) (fun _ => ?_)))
  refine ite_q (P := gI K') (fun _ => hx) (fun _ => ite_q (P := gI K') (fun _ => gI_cl hx) (fun _ => ite_q (P := gI K') (fun _ => hx) (fun _ => ?_)))
  refine ite_q (P := gI K') (fun _ => ⟨h.1, fun a z => (by cases z), h.2.2⟩) (fun _ => ?_)
  refine ite_q (P := gI K') (fun e => ⟨h.1, fun a z => by cases Option.some.inj z; exact hz.1 (by rcases e with e | e <;> rw [e] <;> decide), h.2.2⟩) (fun _ => ?_)
  refine ite_q (P := gI K') (fun _ => gI_al h) (fun _ => ite_q (P := gI K') (fun _ => gI_al h) (fun _ => ite_q (P := gI K') (fun _ => gI_se h) (fun _ => ?_)))
  refine ite_q (P := gI K') (fun _ => gI_em h h.1) (fun _ => ite_q (P := gI K') (fun _ => gI_xc h) (fun _ => ite_q (P := gI K') (fun _ => gI_em h h.1) (fun _ => ?_)))
  refine ite_q (P := gI K') (fun _ => gI_pu h h.1) (fun _ => ite_q (P := gI K') (fun _ => gI_pu h h.1) (fun _ => ?_))
  refine ite_q (P := gI K') (fun _ => ⟨h.1, h.2.1, gS_to (gS_add h.2.2 h.1)⟩) (fun _ => ite_q (P := gI K') (fun _ => ⟨h.1, h.2.1, gS_to h.2.2⟩) (fun _ => ?_))
  refine ite_q (P := gI K') (fun _ => gI_em h h.1) (fun _ => ite_q (P := gI K') (fun _ => gI_em h h.1) (fun _ => ite_q (P := gI K') (fun _ => gI_em h h.1) (fun _ => ite_q (P := gI K') (fun _ => gI_em h h.1) (fun _ => ?_))))
  refine ite_q (P := gI K') (fun _ => ⟨fun k hk => (by cases hk), fun a z => (by cases z), h.2.2⟩) (fun _ => ite_q (P := gI K') (fun _ => h) (fun _ => h))
theorem cds_c (hs : ∀ a b, gdN K' a → gdN K' b → sN a b = sN' a b) (hK : ∀ j, ¬ K' j = 0 → K j = K' j) : ∀ {L : gU} {c : gCd}, (∀ v ∈ L, oZ K' v ∧ oY K' v) → gI K' c → cds sN K L c = cds sN' K' L c ∧ gI K' (cds sN' K' L c) := by
  intro L
  induction L with
  | nil => intro c _ h; exact ⟨rfl, h⟩
  | cons v L ih =>
    intro c hL h
    obtain ⟨hz, hy⟩ := hL v List.mem_cons_self
    rw [cds_cons, cds_cons, cdV_c hs hK hz hy h.1 h.2.1]
    exact ih (fun u hu => hL u (List.mem_cons_of_mem _ hu)) (cdV_I hz h)
theorem nmT_c (hs : ∀ a b, gdN K' a → gdN K' b → sN a b = sN' a b) (ht : gdN K' t) : ∀ {T : gTd}, (∀ q ∈ T, gdN K' q.1) → nmT sN w t T = nmT sN' w t T := by
  intro T
  induction T with
  | nil => intro _; rfl
  | cons q T ih =>
    intro hT
    rw [nmT, nmT, hs _ _ (hT q List.mem_cons_self) ht, ih (fun z hz => hT z (List.mem_cons_of_mem _ hz))]
theorem nQs_c (hs : ∀ a b, gdN K' a → gdN K' b → sN a b = sN' a b) (hK : ∀ j, ¬ K' j = 0 → K j = K' j) (hV : ∀ j, K' j = 2 → V j = V' j) (hT : ∀ q ∈ T, gdN K' q.1) {ks : gK} (hk : ∀ k ∈ ks, gdN K' k.1) (hN : ∀ v ∈ N, sVv K' v) : nQs sN T V K ks N = nQs sN' T V' K' ks N := by
  unfold nQs
  refine fm_cg (fun v hv => ?_)
  obtain ⟨h50, h51, h52, hn, h12⟩ := hN v hv
  unfold nQt
  refine ite_c (fun h => by rw [hV _ (h52 h)]) (fun _ => ite_c (fun _ => rfl) (fun _ => ?_))
  refine ite_c (fun h => by rw [kfi_c hs (hn (Or.inl h)) hk]) (fun _ => ?_)
  refine ite_c (fun h => by rw [nmT_c hs (hn (Or.inr (Or.inl h))) hT]) (fun _ => ?_)
  refine ite_c (fun h => by rw [nmT_c hs (h12 h).2 hT, hV _ (h12 h).1]) (fun _ => ?_)
  refine ite_c (fun h => by rw [hK _ (by rcases h50 h with e | e <;> rw [e] <;> decide)]) (fun _ => ?_)
  refine ite_c (fun h => by rw [hK _ (fun z => h51 h (by rw [z]; rfl))]) (fun _ => rfl)
theorem oQs_c (hs : ∀ a b, gdN K' a → gdN K' b → sN a b = sN' a b) (hK : ∀ j, ¬ K' j = 0 → K j = K' j) (hV : ∀ j, K' j = 2 → V j = V' j) (hT : ∀ q ∈ T, gdN K' q.1) {ks : gK} (hk : ∀ k ∈ ks, gdN K' k.1) {o : Option gU} (ho : sOo sN' K' E o) : o.map (nQs sN T V K ks) = o.map (nQs sN' T V' K' ks) := by
  cases o with
  | none => rfl
  | some N => exact congrArg some (nQs_c hs hK hV hT hk (ho N rfl).2.1)
theorem nStp_c (hs : ∀ a b, gdN K' a → gdN K' b → sN a b = sN' a b) (hK : ∀ j, ¬ K' j = 0 → K j = K' j) (hV : ∀ j, K' j = 2 → V j = V' j) (hT : ∀ q ∈ T, gdN K' q.1) {st : gSt} (hk : ∀ k ∈ st.2.2.1.1, gdN K' k.1) (h : stLk sN' K' E st) : nStp sN T V K st = nStp sN' T V' K' st := by
  obtain ⟨q1, ⟨q2, q2'⟩, q3, q4, q5, q5', q6, q7, q8, q9, so0, so1, so2⟩ := h
  have e1 : mOf sN T V st = mOf sN' T V' st := by
    unfold mOf
    by_cases c10 : st.1 ≤ 10
    · obtain ⟨t, et, kt⟩ := q4 c10
      rw [et]
      show (if st.1 ≤ 4 then Int32.ofNat (nmT sN 0 t T) else if st.1 ≤ 8 then Int32.ofNat (nmT sN 1 t T) else if st.1 ≤ 10 then Int32.ofNat (nmT sN 2 t T) else V t) = (if st.1 ≤ 4 then Int32.ofNat (nmT sN' 0 t T) else if st.1 ≤ 8 then Int32.ofNat (nmT sN' 1 t T) else if st.1 ≤ 10 then Int32.ofNat (nmT sN' 2 t T) else V' t)
      rw [nmT_c hs kt hT, nmT_c hs kt hT, nmT_c hs kt hT, if_pos c10, if_pos c10]
    · by_cases c13 : st.1 = 13
      · obtain ⟨t, et, kt⟩ := q5 c13
        rw [et]
        show (if st.1 ≤ 4 then Int32.ofNat (nmT sN 0 t T) else if st.1 ≤ 8 then Int32.ofNat (nmT sN 1 t T) else if st.1 ≤ 10 then Int32.ofNat (nmT sN 2 t T) else V t) = (if st.1 ≤ 4 then Int32.ofNat (nmT sN' 0 t T) else if st.1 ≤ 8 then Int32.ofNat (nmT sN' 1 t T) else if st.1 ≤ 10 then Int32.ofNat (nmT sN' 2 t T) else V' t)
        rw [if_neg (by omega), if_neg (by omega), if_neg (by omega), if_neg (by omega), if_neg (by omega), if_neg (by omega), hV _ kt]
      · rw [q5' (by omega) c13]
  have e2 : mSz sN T st = mSz sN' T st := by
    unfold mSz
    by_cases c4 : st.1 ≤ 4
    · obtain ⟨t, et, kt⟩ := q4 (by omega)
      rw [et]
      show (if _ then (if st.1 ≤ 4 then Int32.ofNat (rsT sN T t) else 1) else 0) = (if _ then (if st.1 ≤ 4 then Int32.ofNat (rsT sN' T t) else 1) else 0)
      unfold rsT
      rw [mtP_c hs kt hT]
    · rw [if_neg c4, if_neg c4]
  unfold nStp
  rw [e1, e2, oQs_c hs hK hV hT hk so0, oQs_c hs hK hV hT hk so1, oQs_c hs hK hV hT hk so2.1]
theorem ces_c (hK : ∀ j, ¬ K' j = 0 → K j = K' j) (hV : ∀ j, K' j = 2 → V j = V' j) : ∀ {L : gU} {d : Nat × Int32 × List (Int32 × Bool)}, (∀ v ∈ L, oZ K' v ∧ oY K' v) → ces K V L d = ces K' V' L d := by
  intro L
  induction L with
  | nil => intro d _; rfl
  | cons v L ih =>
    intro d hL
    obtain ⟨hz, hy⟩ := hL v List.mem_cons_self
    show ces K V L (ceV K V d v) = ces K' V' L (ceV K' V' d v)
    have e : ceV K V d v = ceV K' V' d v := by
      unfold ceV
      refine ite_c (fun _ => rfl) (fun _ => ?_)
      refine ite_c (fun h => ?_) (fun _ => ?_)
      · have z := hz.2.2.2.2 (by rw [h]; decide)
        have ep : prz K V v.2.2 = prz K' V' v.2.2 := by
          unfold prz
          rw [hK _ (by rw [z]; decide), hV _ z]
        rw [ep]
      · refine ite_c (fun h => by rw [hV _ (hy.2 (by rw [h]; decide))]) (fun _ => ite_c (fun h => by rw [hV _ (hy.2 (by rw [h]; decide))]) (fun _ => ite_c (fun _ => rfl) (fun _ => ite_c (fun h => by rw [hK _ (hy.1 (by rw [h]; decide))]) (fun _ => rfl))))
    rw [e]
    exact ih (fun u hu => hL u (List.mem_cons_of_mem _ hu))
theorem codN_c (hs : ∀ a b, gdN K' a → gdN K' b → sN a b = sN' a b) (hK : ∀ j, ¬ K' j = 0 → K j = K' j) (hV : ∀ j, K' j = 2 → V j = V' j) (hL : ∀ v ∈ L, oZ K' v ∧ oY K' v) (hw : WC sN' K' (fun v => v ∈ L) (cds sN' K' L cd0)) : codN sN V K L = codN sN' V' K' L := by
  obtain ⟨ec, gi⟩ := cds_c (c := cd0) hs hK hL ⟨fun k hk => (by cases hk), fun a z => (by cases z), fun st hst => by cases hst⟩
  have eT : L.filterMap (te1 K V) = L.filterMap (te1 K' V') := by
    refine fM_c (fun v hv => ?_)
    unfold te1
    by_cases c : v.1 = 32
    · have z := (hL v hv).1.2.2.2.2 (by rw [c]; decide)
      have ep : prz K V v.2.2 = prz K' V' v.2.2 := by
        unfold prz
        rw [hK _ (by rw [z]; decide), hV _ z]
      rw [ep]
    · rw [if_neg c, if_neg c]
  have hT : ∀ q ∈ L.filterMap (te1 K' V'), gdN K' q.1 := fun q hq => by
    obtain ⟨v, hv, ev⟩ := te_mem hq
    obtain ⟨g1, g2, -⟩ := te_is ev
    show K' q.1 = 1
    rw [g2]
    exact (hL v hv).1.1 (by rcases g1 with g | g | g | g <;> rw [g] <;> decide)
  obtain ⟨E, S, r, b, l, e, -, -, w1, w2, w3⟩ := hw
  have e1 : (cds sN' K' L cd0).2.1 = S := by rw [e]
  have e3 : (cds sN' K' L cd0).2.2.2.2.2 = l := by rw [e]
  have gs := gi.2.2
  rw [e1] at gs
  have cl : ∀ u, (clF u l).map (nQs sN (L.filterMap (te1 K' V')) V K []) = (clF u l).map (nQs sN' (L.filterMap (te1 K' V')) V' K' []) := fun u => List.map_congr_left (fun N hN => by
    obtain ⟨q, hq, e9⟩ := List.mem_filterMap.mp hN
    have e9 : q.2 = N := by
      split at e9
      · exact Option.some.inj e9
      · exact absurd e9 (by simp)
    obtain ⟨z1, -⟩ := w3 q hq
    rw [e9] at z1
    exact nQs_c hs hK hV hT (fun k hk => by cases hk) z1.2.1)
  have st : S.map (nStp sN (L.filterMap (te1 K' V')) V K) = S.map (nStp sN' (L.filterMap (te1 K' V')) V' K') := List.map_congr_left (fun s hs9 => by
    obtain ⟨j, hj, ej⟩ := List.getElem_of_mem hs9
    obtain ⟨-, E0, hL0, -⟩ := w1 j s (by rw [List.getElem?_eq_getElem hj, ej])
    exact nStp_c hs hK hV hT (gs s hs9) hL0)
  have ce : cel K V L = cel K' V' L := by
    unfold cel
    rw [ces_c hK hV hL]
  unfold codN
  rw [ec, eT, e1, e3, st, ce, cl, cl]
end CDC
end
