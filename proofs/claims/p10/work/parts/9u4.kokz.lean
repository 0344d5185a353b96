/-! the uses' tokens are names, or wholes; names are told in order -/
def oZ (K : Nat → Int32) (v : Nat × Nat × Nat) : Prop := (v.1 ∈ [3, 6, 7, 22, 23, 24, 25, 26, 31, 32, 33, 34] → K v.2.1 = 1) ∧ (v.1 = 27 → K v.2.1 = 1 ∧ K v.2.2 = 1) ∧ (v.1 ∈ [65, 66, 67] → K v.2.2 = 1) ∧ (v.1 = 12 → K v.2.1 = 2 ∧ K v.2.2 = 1) ∧ (v.1 ∈ [32, 70] → K v.2.2 = 2)
def eZ (K : Nat → Int32) (L L' : gU) : Prop := ∃ N, L' = L ++ N ∧ ∀ v ∈ N, oZ K v
section EZL
variable {K V : Nat → Int32} {L L' L2 : gU} {o : Bool}
theorem oZ_n {k a b : Nat} (h : ¬ k ∈ [3, 6, 7, 22, 23, 24, 25, 26, 31, 32, 33, 34] ∧ ¬ k = 27 ∧ ¬ k ∈ [65, 66, 67] ∧ ¬ k = 12 ∧ ¬ k ∈ [32, 70]) : oZ K (k, a, b) := ⟨fun c => absurd c h.1, fun c => absurd c h.2.1, fun c => absurd c h.2.2.1, fun c => absurd c h.2.2.2.1, fun c => absurd c h.2.2.2.2⟩
theorem oZ_1 {k a b : Nat} (h : ¬ k = 27 ∧ ¬ k ∈ [65, 66, 67] ∧ ¬ k = 12 ∧ ¬ k ∈ [32, 70]) (h1 : K a = 1) : oZ K (k, a, b) := ⟨fun _ => h1, fun c => absurd c h.1, fun c => absurd c h.2.1, fun c => absurd c h.2.2.1, fun c => absurd c h.2.2.2⟩
theorem oZ_2 {k a b : Nat} (h : ¬ k ∈ [3, 6, 7, 22, 23, 24, 25, 26, 31, 32, 33, 34] ∧ ¬ k = 27 ∧ ¬ k = 12 ∧ ¬ k ∈ [32, 70]) (h1 : K b = 1) : oZ K (k, a, b) := ⟨fun c => absurd c h.1, fun c => absurd c h.2.1, fun _ => h1, fun c => absurd c h.2.2.1, fun c => absurd c h.2.2.2⟩
theorem oZ_w {k a b : Nat} (h : ¬ k ∈ [3, 6, 7, 22, 23, 24, 25, 26, 31, 32, 33, 34] ∧ ¬ k = 27 ∧ ¬ k ∈ [65, 66, 67] ∧ ¬ k = 12) (h1 : K b = 2) : oZ K (k, a, b) := ⟨fun c => absurd c h.1, fun c => absurd c h.2.1, fun c => absurd c h.2.2.1, fun c => absurd c h.2.2.2, fun _ => h1⟩
theorem oZ_27 {a b : Nat} (h1 : K a = 1) (h2 : K b = 1) : oZ K (27, a, b) := ⟨fun c => absurd c (show ¬ 27 ∈ [3, 6, 7, 22, 23, 24, 25, 26, 31, 32, 33, 34] by decide), fun _ => ⟨h1, h2⟩, fun c => absurd c (show ¬ 27 ∈ [65, 66, 67] by decide), fun c => absurd c (show ¬ 27 = 12 by decide), fun c => absurd c (show ¬ 27 ∈ [32, 70] by decide)⟩
theorem oZ_12 {a b : Nat} (h1 : K a = 2) (h2 : K b = 1) : oZ K (12, a, b) := ⟨fun c => absurd c (show ¬ 12 ∈ [3, 6, 7, 22, 23, 24, 25, 26, 31, 32, 33, 34] by decide), fun c => absurd c (show ¬ 12 = 27 by decide), fun c => absurd c (show ¬ 12 ∈ [65, 66, 67] by decide), fun _ => ⟨h1, h2⟩, fun c => absurd c (show ¬ 12 ∈ [32, 70] by decide)⟩
theorem oZ_32 {a b : Nat} (h1 : K a = 1) (h2 : K b = 2) : oZ K (32, a, b) := ⟨fun _ => h1, fun c => absurd c (show ¬ 32 = 27 by decide), fun c => absurd c (show ¬ 32 ∈ [65, 66, 67] by decide), fun c => absurd c (show ¬ 32 = 12 by decide), fun _ => h2⟩
theorem eZ_rf : eZ K L L := ⟨[], by rw [List.append_nil], fun _ h => by cases h⟩
theorem eZ_tr (h : eZ K L L') (g : eZ K L' L2) : eZ K L L2 := by
  obtain ⟨N, e, h⟩ := h
  obtain ⟨N2, e2, g⟩ := g
  exact ⟨N ++ N2, by rw [e2, e, List.append_assoc], fun v hv => (List.mem_append.mp hv).elim (h v) (g v)⟩
theorem eZ_v {v : Nat × Nat × Nat} (h : oZ K v) : eZ K L (L ++ [v]) := ⟨_, rfl, fun w hw => by rw [List.mem_singleton.mp hw]; exact h⟩
theorem pt_oZ {w : Int32} {q r : Nat × gU} (h : pt K w q = some r) : eZ K q.2 r.2 := by
  obtain ⟨-, -, e⟩ := pt_is h
  rw [e]; exact eZ_rf
theorem pan_oZ {v : Nat × Nat × Nat} {q r : Nat × gU} (hv : oZ K v) (h : pan v q = some r) : eZ K q.2 r.2 := by
  unfold pan at h
  cases Option.some.inj h
  exact eZ_v hv
abbrev nkz (K : Nat → Int32) (rE : Nat → Nat → gU → gOp) : Prop := ∀ s i L q, rE s i L = some q → eZ K L q.2
theorem pW_oZ {rE : Nat → Nat → gU → gOp} {th : Nat} (hr : nkz K rE) : ∀ (f j : Nat) (L : gU) (q : Nat × gU), pW rE K th f j L = some q → eZ K L q.2 := by
  intro f
  induction f with
  | zero => intro j L q h; exact absurd h (by simp [pW])
  | succ f ih =>
    intro j L q h
    rw [pW] at h
    split at h
    · split at h
      · obtain ⟨z, hz, h2⟩ := Option.bind_eq_some_iff.mp h
        exact eZ_tr (hr _ _ _ _ hz) (eZ_tr (eZ_v (oZ_n (by decide))) (ih _ _ _ h2))
      · exact absurd h (by simp)
    · cases Option.some.inj h; exact eZ_rf
theorem pO_oZ {rE : Nat → Nat → gU → gOp} (hr : nkz K rE) {i : Nat} {q : Nat × gU} (h : pO rE K o i L = some q) : eZ K L q.2 := by
  unfold pO at h
  split at h
  · exact absurd h (by simp)
  · split at h
    · cases Option.some.inj h; exact eZ_v (oZ_n (by decide))
    · split at h
      · cases Option.some.inj h; exact eZ_v (oZ_n (by decide))
      · split at h
        · obtain ⟨z, hz, h2⟩ := Option.bind_eq_some_iff.mp h
          exact eZ_tr (hr _ _ _ _ hz) (pt_oZ h2)
        · split at h
          · next k1 =>
            split at h
            · split at h
              · split at h
                · next c =>
                  cases Option.some.inj h
                  have := eZ_tr (eZ_v (L := L) (v := (7, i, 0)) (oZ_1 (by decide) k1)) (eZ_v (v := (12, i + 2, i)) (oZ_12 c.2.1.1 k1))
                  rw [List.append_assoc] at this
                  exact this
                · exact absurd h (by simp)
              · cases Option.some.inj h; exact eZ_v (oZ_1 (by decide) k1)
            · cases Option.some.inj h; exact eZ_v (oZ_1 (by decide) k1)
          · exact absurd h (by simp)
theorem pE_oZ : ∀ f : Nat, nkz K (pE K o f) := by
  intro f
  induction f with
  | zero => intro s i L q h; exact absurd h (by simp [pE])
  | succ f ih =>
    intro s i L q h
    rw [pE] at h
    split at h
    · obtain ⟨z, hz, h2⟩ := Option.bind_eq_some_iff.mp h
      refine eZ_tr ?_ (pW_oZ ih _ _ _ _ h2)
      split at hz
      · split at hz
        · obtain ⟨y, hy, h3⟩ := Option.bind_eq_some_iff.mp hz
          cases Option.some.inj h3
          exact eZ_tr (ih _ _ _ _ hy) (eZ_v (oZ_n (by decide)))
        · exact absurd hz (by simp)
      · exact pO_oZ ih hz
    · exact absurd h (by simp)
theorem pX_oZ {f i : Nat} {q : Nat × gU} (h : pX K o f i L = some q) : eZ K L q.2 := by
  obtain ⟨z, hz, h2⟩ := Option.bind_eq_some_iff.mp h
  exact eZ_tr (pE_oZ f _ _ _ _ hz) (pan_oZ (oZ_n (k := 54) (by decide)) h2)
theorem pXq_oZ {f : Nat} {r q : Nat × gU} (h : pXq K f r = some q) : eZ K r.2 q.2 := pX_oZ h
theorem pP_oZ {f i : Nat} {q : Nat × gU} (h : pP K f i L = some q) : eZ K L q.2 := by
  unfold pP at h
  split at h
  · next k1 =>
    split at h
    · split at h
      · obtain ⟨z, hz, h2⟩ := Option.bind_eq_some_iff.mp h
        exact eZ_tr (eZ_tr (eZ_v (oZ_1 (by decide) k1.1)) (pX_oZ hz)) (pt_oZ h2)
      · exact absurd h (by simp)
    · cases Option.some.inj h; exact eZ_v (oZ_1 (by decide) k1.1)
  · exact absurd h (by simp)
theorem pme_oZ {t : Option Nat} (ht : ∀ t0, t = some t0 → K t0 = 1) : eZ K L (L ++ pme t) := by
  cases t with
  | none => rw [pme, List.append_nil]; exact eZ_rf
  | some t => exact eZ_v (oZ_1 (by decide) (ht t rfl))
theorem pma_oZ {t : Option Nat} (ht : ∀ t0, t = some t0 → K t0 = 1) : eZ K L (L ++ pma t) := by
  cases t with
  | none => rw [pma, List.append_nil]; exact eZ_rf
  | some t => exact eZ_v (oZ_1 (by decide) (ht t rfl))
theorem pal_oZ {t : Option Nat} {i : Nat} (ht : ∀ t0, t = some t0 → K t0 = 1) (k1 : K i = 1) : eZ K L (L ++ [pal t i]) := by
  cases t with
  | none => exact eZ_v (oZ_1 (by decide) k1)
  | some t => exact eZ_v (oZ_27 (ht t rfl) k1)
theorem pR_oZ {f i : Nat} {t : Option Nat} {q : Nat × gU} (ht : ∀ t0, t = some t0 → K t0 = 1) (h : pR K f t i L = some q) : eZ K L q.2 := by
  unfold pR at h
  split at h
  · split at h
    · obtain ⟨z4, hz4, h4⟩ := Option.bind_eq_some_iff.mp h
      obtain ⟨z3, hz3, h3⟩ := Option.bind_eq_some_iff.mp hz4
      obtain ⟨z2, hz2, h2⟩ := Option.bind_eq_some_iff.mp hz3
      obtain ⟨z5, hz5, h5⟩ := Option.bind_eq_some_iff.mp h4
      have d : eZ K z5.2 q.2 := pan_oZ (oZ_n (by decide)) h5
      have a : eZ K L z4.2 := eZ_tr (eZ_tr (eZ_tr (pme_oZ ht) (pP_oZ hz2)) (pt_oZ h2)) (pXq_oZ h3)
      split at hz5
      · obtain ⟨z6, hz6, h6⟩ := Option.bind_eq_some_iff.mp hz5
        exact eZ_tr (eZ_tr (eZ_tr a (pt_oZ hz6)) (pXq_oZ h6)) d
      · cases Option.some.inj hz5; exact eZ_tr a d
    · exact absurd h (by simp)
  · split at h
    · obtain ⟨z, hz, h2⟩ := Option.bind_eq_some_iff.mp h
      exact eZ_tr (eZ_tr (pme_oZ ht) (pP_oZ hz)) (pan_oZ (oZ_n (by decide)) h2)
    · split at h
      · next k1 =>
        split at h
        · cases Option.some.inj h; exact pal_oZ ht k1.1
        · exact absurd h (by simp)
      · obtain ⟨z, hz, h2⟩ := Option.bind_eq_some_iff.mp h
        exact eZ_tr (eZ_tr (pma_oZ ht) (pX_oZ hz)) (pan_oZ (oZ_n (by decide)) h2)
abbrev nkx (K : Nat → Int32) (rS : Nat → Nat → gU → gTs) : Prop := ∀ c i L q, rS c i L = some q → eZ K L q.2.2
theorem pBl_oZ {rS : Nat → Nat → gU → gTs} {z : Nat} (hr : nkx K rS) : ∀ (n c i : Nat) (L : gU) (q : Nat × Nat × gU), pBl rS K z n c i L = some q → eZ K L q.2.2 := by
  intro n
  induction n with
  | zero => intro c i L q h; exact absurd h (by simp [pBl])
  | succ n ih =>
    intro c i L q h
    rw [pBl] at h
    split at h
    · split at h
      · cases Option.some.inj h; exact eZ_v (oZ_n (by decide))
      · exact absurd h (by simp)
    · obtain ⟨y, hy, h2⟩ := Option.bind_eq_some_iff.mp h
      exact eZ_tr (hr _ _ _ _ hy) (ih _ _ _ _ h2)
theorem pBk_oZ {rS : Nat → Nat → gU → gTs} {z : Nat} (hr : nkx K rS) {c i : Nat} {q : Nat × Nat × gU} (h : pBk rS K z c i L = some q) : eZ K L q.2.2 := by
  unfold pBk at h
  split at h
  · exact eZ_tr (eZ_v (oZ_n (by decide))) (pBl_oZ hr _ _ _ _ _ h)
  · exact absurd h (by simp)
theorem pEl_oZ {rS : Nat → Nat → gU → gTs} (hr : nkx K rS) {q r : Nat × Nat × gU} (h : pEl rS K q = some r) : eZ K q.2.2 r.2.2 := by
  unfold pEl at h
  split at h
  · split at h
    · split at h
      · exact eZ_tr (eZ_v (oZ_n (by decide))) (hr _ _ _ _ h)
      · exact eZ_tr (eZ_v (oZ_n (by decide))) (pBk_oZ hr h)
    · exact absurd h (by simp)
  · cases Option.some.inj h; exact eZ_rf
theorem pup_oZ {c : Nat} {v : Nat × Nat × Nat} {r : gOp} {q : Nat × Nat × gU} (hv : oZ K v) (h : pup c v r = some q) : ∃ z, r = some z ∧ eZ K z.2 q.2.2 := by
  unfold pup at h
  obtain ⟨z, hz, e⟩ := Option.bind_eq_some_iff.mp h
  cases Option.some.inj e
  exact ⟨z, hz, eZ_v hv⟩
theorem pS1_oZ {f c i : Nat} {q : Nat × Nat × gU} (h : pS1 K f c i L = some q) : eZ K L q.2.2 := by
  have nn0 : ∀ t0 : Nat, (none : Option Nat) = some t0 → K t0 = 1 := fun t0 e => by cases e
  unfold pS1 at h
  split at h
  · split at h
    · next k1 =>
      obtain ⟨z, h, g⟩ := pup_oZ (oZ_1 (k := 22) (by decide) k1.1.1) h
      obtain ⟨y, hy, h2⟩ := Option.bind_eq_some_iff.mp h
      exact eZ_tr (eZ_tr (eZ_tr (eZ_v (oZ_1 (by decide) k1.1.1)) (pR_oZ nn0 hy)) (pt_oZ h2)) g
    · exact absurd h (by simp)
  · split at h
    · next k1 =>
      split at h
      · split at h
        · obtain ⟨z, h, g⟩ := pup_oZ (oZ_n (k := 78) (by decide)) h
          obtain ⟨y5, hy5, h5⟩ := Option.bind_eq_some_iff.mp h
          obtain ⟨y4, hy4, h4⟩ := Option.bind_eq_some_iff.mp hy5
          obtain ⟨y3, hy3, h3⟩ := Option.bind_eq_some_iff.mp hy4
          obtain ⟨y2, hy2, h2⟩ := Option.bind_eq_some_iff.mp hy3
          exact eZ_tr (eZ_tr (eZ_tr (eZ_tr (eZ_tr (eZ_tr (eZ_v (oZ_1 (by decide) k1)) (pX_oZ hy2)) (pt_oZ h2)) (pt_oZ h3)) (pXq_oZ h4)) (pt_oZ h5)) g
        · exact absurd h (by simp)
      · split at h
        · obtain ⟨z, h, g⟩ := pup_oZ (oZ_n (k := 77) (by decide)) h
          obtain ⟨y2, hy2, h2⟩ := Option.bind_eq_some_iff.mp h
          exact eZ_tr (eZ_tr (pR_oZ (fun t0 e => by cases e; exact k1) hy2) (pt_oZ h2)) g
        · exact absurd h (by simp)
    · split at h
      · obtain ⟨z, h, g⟩ := pup_oZ (oZ_n (k := 68) (by decide)) h
        have := pt_oZ h
        exact eZ_tr this g
      · split at h
        · obtain ⟨z, h, g⟩ := pup_oZ (oZ_n (k := 69) (by decide)) h
          obtain ⟨y2, hy2, h2⟩ := Option.bind_eq_some_iff.mp h
          exact eZ_tr (eZ_tr (pX_oZ hy2) (pt_oZ h2)) g
        · split at h
          · split at h
            · next k2 =>
              obtain ⟨z, h, g⟩ := pup_oZ (oZ_w (k := 70) (by decide) k2.1.1) h
              obtain ⟨y2, hy2, h2⟩ := Option.bind_eq_some_iff.mp h
              exact eZ_tr (eZ_tr (pX_oZ hy2) (pt_oZ h2)) g
            · exact absurd h (by simp)
          · split at h
            · split at h
              · next k2 =>
                obtain ⟨z, h, g⟩ := pup_oZ (oZ_2 (k := 66) (by decide) k2.1) h
                have := pt_oZ h
                exact eZ_tr this g
              · exact absurd h (by simp)
            · split at h
              · split at h
                · next k2 =>
                  obtain ⟨z, h, g⟩ := pup_oZ (oZ_2 (k := 67) (by decide) k2.1) h
                  have := pt_oZ h
                  exact eZ_tr this g
                · exact absurd h (by simp)
              · exact absurd h (by simp)
theorem pfi_oZ {q r : Nat × Nat × gU} (h : pfi q = some r) : eZ K q.2.2 r.2.2 := by
  unfold pfi at h
  cases Option.some.inj h
  exact eZ_v (oZ_n (by decide))
theorem pS_oZ : ∀ f : Nat, nkx K (pS K f) := by
  intro f
  induction f with
  | zero => intro c i L q h; exact absurd h (by simp [pS])
  | succ f ih =>
    intro c i L q h
    rw [pS] at h
    split at h
    · exact absurd h (by simp)
    · split at h
      · obtain ⟨z, hz, h2⟩ := Option.bind_eq_some_iff.mp h
        obtain ⟨x, hx, h4⟩ := Option.bind_eq_some_iff.mp h2
        obtain ⟨y, hy, h3⟩ := Option.bind_eq_some_iff.mp hx
        exact eZ_tr (eZ_tr (eZ_tr (eZ_tr (pX_oZ hz) (eZ_v (oZ_n (by decide)))) (pBk_oZ ih hy)) (pEl_oZ ih h3)) (pfi_oZ h4)
      · split at h
        · obtain ⟨z, hz, h2⟩ := Option.bind_eq_some_iff.mp h
          exact eZ_tr (eZ_tr (pX_oZ hz) (eZ_v (oZ_n (by decide)))) (pBk_oZ ih h2)
        · split at h
          · split at h
            · next k2 => exact eZ_tr (eZ_v (oZ_2 (by decide) k2.1)) (pBk_oZ ih h)
            · exact absurd h (by simp)
          · exact pS1_oZ h
theorem pCv_oZ {q r : Nat × gU} (h : pCv K q = some r) : eZ K q.2 r.2 := by
  unfold pCv at h
  split at h
  · split at h
    · split at h
      · split at h
        · cases Option.some.inj h; exact eZ_v (oZ_n (by decide))
        · exact absurd h (by simp)
      · split at h
        · cases Option.some.inj h; exact eZ_v (oZ_n (by decide))
        · exact absurd h (by simp)
    · exact absurd h (by simp)
  · cases Option.some.inj h; exact eZ_v (oZ_n (by decide))
theorem pCl_oZ {n i t : Nat} {q : Nat × Nat × gU} (h : pCl K V n i t L = some q) : eZ K L q.2.2 := by
  unfold pCl at h
  split at h
  · next c =>
    split at h
    · split at h
      · next c2 =>
        obtain ⟨z, hz, e⟩ := Option.bind_eq_some_iff.mp h
        obtain ⟨y, hy, h2⟩ := Option.bind_eq_some_iff.mp hz
        cases Option.some.inj e
        exact eZ_tr (eZ_v (oZ_32 c.2.1.1 c2.2.2.1.1)) (eZ_tr (pCv_oZ hy) (eZ_tr (pt_oZ h2) (eZ_v (oZ_n (by decide)))))
      · exact absurd h (by simp)
    · obtain ⟨z, hz, e⟩ := Option.bind_eq_some_iff.mp h
      obtain ⟨y, hy, h2⟩ := Option.bind_eq_some_iff.mp hz
      cases Option.some.inj e
      exact eZ_tr (eZ_v (oZ_1 (by decide) c.2.1.1)) (eZ_tr (pCv_oZ hy) (eZ_tr (pt_oZ h2) (eZ_v (oZ_n (by decide)))))
  · exact absurd h (by simp)
theorem pD_oZ {n : gN} {i : Nat} {q : gN × Nat × gU} (h : pD K V n i L = some q) : eZ K L q.2.2 := by
  have cell : ∀ t, (pCl K V n.1 i t L).bind (fun q => some ((q.1, n.2), q.2)) = some q → eZ K L q.2.2 := fun t h => by
    obtain ⟨z, hz, e⟩ := Option.bind_eq_some_iff.mp h
    cases Option.some.inj e
    exact pCl_oZ hz
  have blk : ∀ (t j b : Nat) (v : gN), K t = 1 → (pBk (pS K 16) K 0 0 j (L ++ [(34, t, b)])).bind (fun q => some (v, q.2)) = some q → eZ K L q.2.2 := fun t j b v k1 h => by
    obtain ⟨z, hz, e⟩ := Option.bind_eq_some_iff.mp h
    cases Option.some.inj e
    exact eZ_tr (eZ_v (oZ_1 (by decide) k1)) (pBk_oZ (pS_oZ 16) hz)
  have clm : ∀ (k : Nat) (v : gN), (k = 35 ∨ k = 36) → ((pX K true 16 (i + 1) (L ++ [(k, i, 0)])).bind (pt K 67)).bind (fun q => some (v, q)) = some q → eZ K L q.2.2 := fun k v hk h => by
    obtain ⟨z, hz, e⟩ := Option.bind_eq_some_iff.mp h
    obtain ⟨y, hy, h2⟩ := Option.bind_eq_some_iff.mp hz
    cases Option.some.inj e
    refine eZ_tr (eZ_v ?_) (eZ_tr (pX_oZ hy) (pt_oZ h2))
    rcases hk with e | e <;> rw [e] <;> exact oZ_n (by decide)
  unfold pD at h
  split at h
  · split at h
    · exact cell _ h
    · exact absurd h (by simp)
  · split at h
    · exact cell _ h
    · split at h
      · split at h
        · next d =>
          cases Option.some.inj h
          exact eZ_v (oZ_1 (by decide) d.2.2.1.1)
        · exact absurd h (by simp)
      · split at h
        · split at h
          · next d => exact blk _ _ _ _ d.2.2.2.1 h
          · exact absurd h (by simp)
        · split at h
          · split at h
            · next d => exact blk _ _ _ _ d.2.2.1 h
            · exact absurd h (by simp)
          · split at h
            · split at h
              · exact clm _ _ (Or.inl rfl) h
              · exact absurd h (by simp)
            · split at h
              · split at h
                · exact clm _ _ (Or.inr rfl) h
                · exact absurd h (by simp)
              · exact absurd h (by simp)
theorem pAl_oZ : ∀ (m : Nat) (n : gN) (i : Nat) (L : gU) (q : gN × Nat × gU), pAl K V m n i L = some q → eZ K L q.2.2 := by
  intro m
  induction m with
  | zero => intro n i L q h; exact absurd h (by simp [pAl])
  | succ m ih =>
    intro n i L q h
    rw [pAl] at h
    split at h
    · cases Option.some.inj h; exact eZ_rf
    · obtain ⟨z, hz, h2⟩ := Option.bind_eq_some_iff.mp h
      exact eZ_tr (pD_oZ hz) (ih _ _ _ _ h2)
end EZL
