section
/-! the uses' tokens are names, or wholes; names are told in order -/
def oK (K : Nat → Int32) (v : Nat × Nat × Nat) : Prop := (v.1 ∈ [3, 6, 7, 23, 24, 25, 26, 31, 32, 33, 34] → K v.2.1 = 1) ∧ (v.1 = 27 → K v.2.1 = 1 ∧ K v.2.2 = 1) ∧ (v.1 ∈ [65, 66, 67] → K v.2.2 = 1) ∧ (v.1 = 12 → K v.2.1 = 2 ∧ K v.2.2 = 1) ∧ (v.1 ∈ [32, 70] → K v.2.2 = 2)
def eT (K : Nat → Int32) (L L' : gU) : Prop := ∃ N, L' = L ++ N ∧ ∀ v ∈ N, oK K v
section ETL
variable {K V : Nat → Int32} {L L' L2 : gU} {o : Bool}
theorem oK_n {k a b : Nat} (h : ¬ k ∈ [3, 6, 7, 23, 24, 25, 26, 31, 32, 33, 34] ∧ ¬ k = 27 ∧ ¬ k ∈ [65, 66, 67] ∧ ¬ k = 12 ∧ ¬ k ∈ [32, 70]) : oK K (k, a, b) := ⟨fun c => absurd c h.1, fun c => absurd c h.2.1, fun c => absurd c h.2.2.1, fun c => absurd c h.2.2.2.1, fun c => absurd c h.2.2.2.2⟩
theorem oK_1 {k a b : Nat} (h : ¬ k = 27 ∧ ¬ k ∈ [65, 66, 67] ∧ ¬ k = 12 ∧ ¬ k ∈ [32, 70]) (h1 : K a = 1) : oK K (k, a, b) := ⟨fun _ => h1, fun c => absurd c h.1, fun c => absurd c h.2.1, fun c => absurd c h.2.2.1, fun c => absurd c h.2.2.2⟩
theorem oK_2 {k a b : Nat} (h : ¬ k ∈ [3, 6, 7, 23, 24, 25, 26, 31, 32, 33, 34] ∧ ¬ k = 27 ∧ ¬ k = 12 ∧ ¬ k ∈ [32, 70]) (h1 : K b = 1) : oK K (k, a, b) := ⟨fun c => absurd c h.1, fun c => absurd c h.2.1, fun _ => h1, fun c => absurd c h.2.2.1, fun c => absurd c h.2.2.2⟩
theorem oK_w {k a b : Nat} (h : ¬ k ∈ [3, 6, 7, 23, 24, 25, 26, 31, 32, 33, 34] ∧ ¬ k = 27 ∧ ¬ k ∈ [65, 66, 67] ∧ ¬ k = 12) (h1 : K b = 2) : oK K (k, a, b) := ⟨fun c => absurd c h.1, fun c => absurd c h.2.1, fun c => absurd c h.2.2.1, fun c => absurd c h.2.2.2, fun _ => h1⟩
theorem oK_27 {a b : Nat} (h1 : K a = 1) (h2 : K b = 1) : oK K (27, a, b) := ⟨fun c => absurd c (show ¬ 27 ∈ [3, 6, 7, 23, 24, 25, 26, 31, 32, 33, 34] by decide), fun _ => ⟨h1, h2⟩, fun c => absurd c (show ¬ 27 ∈ [65, 66, 67] by decide), fun c => absurd c (show ¬ 27 = 12 by decide), fun c => absurd c (show ¬ 27 ∈ [32, 70] by decide)⟩
theorem oK_12 {a b : Nat} (h1 : K a = 2) (h2 : K b = 1) : oK K (12, a, b) := ⟨fun c => absurd c (show ¬ 12 ∈ [3, 6, 7, 23, 24, 25, 26, 31, 32, 33, 34] by decide), fun c => absurd c (show ¬ 12 = 27 by decide), fun c => absurd c (show ¬ 12 ∈ [65, 66, 67] by decide), fun _ => ⟨h1, h2⟩, fun c => absurd c (show ¬ 12 ∈ [32, 70] by decide)⟩
theorem oK_32 {a b : Nat} (h1 : K a = 1) (h2 : K b = 2) : oK K (32, a, b) := ⟨fun _ => h1, fun c => absurd c (show ¬ 32 = 27 by decide), fun c => absurd c (show ¬ 32 ∈ [65, 66, 67] by decide), fun c => absurd c (show ¬ 32 = 12 by decide), fun _ => h2⟩
theorem eT_rf : eT K L L := ⟨[], by rw [List.append_nil], fun _ h => by cases h⟩
theorem eT_tr (h : eT K L L') (g : eT K L' L2) : eT K L L2 := by
  obtain ⟨N, e, h⟩ := h
  obtain ⟨N2, e2, g⟩ := g
  exact ⟨N ++ N2, by rw [e2, e, List.append_assoc], fun v hv => (List.mem_append.mp hv).elim (h v) (g v)⟩
theorem eT_v {v : Nat × Nat × Nat} (h : oK K v) : eT K L (L ++ [v]) := ⟨_, rfl, fun w hw => by rw [List.mem_singleton.mp hw]; exact h⟩
theorem pt_oK {w : Int32} {q r : Nat × gU} (h : pt K w q = some r) : eT K q.2 r.2 := by
  obtain ⟨-, -, e⟩ := pt_is h
  rw [e]; exact eT_rf
theorem pan_oK {v : Nat × Nat × Nat} {q r : Nat × gU} (hv : oK K v) (h : pan v q = some r) : eT K q.2 r.2 := by
  unfold pan at h
  cases Option.some.inj h
  exact eT_v hv
abbrev nko (K : Nat → Int32) (rE : Nat → Nat → gU → gOp) : Prop := ∀ s i L q, rE s i L = some q → eT K L q.2
theorem pW_oK {rE : Nat → Nat → gU → gOp} {th : Nat} (hr : nko K rE) : ∀ (f j : Nat) (L : gU) (q : Nat × gU), pW rE K th f j L = some q → eT K L q.2 := by
  intro f
  induction f with
  | zero => intro j L q h; exact absurd h (by simp [pW])
  | succ f ih =>
    intro j L q h
    rw [pW] at h
    split at h
    · split at h
      · obtain ⟨z, hz, h2⟩ := Option.bind_eq_some_iff.mp h
        exact eT_tr (hr _ _ _ _ hz) (eT_tr (eT_v (oK_n (by decide))) (ih _ _ _ h2))
      · exact absurd h (by simp)
    · cases Option.some.inj h; exact eT_rf
theorem pO_oK {rE : Nat → Nat → gU → gOp} (hr : nko K rE) {i : Nat} {q : Nat × gU} (h : pO rE K o i L = some q) : eT K L q.2 := by
  unfold pO at h
  split at h
  · exact absurd h (by simp)
  · split at h
    · cases Option.some.inj h; exact eT_v (oK_n (by decide))
    · split at h
      · cases Option.some.inj h; exact eT_v (oK_n (by decide))
      · split at h
        · obtain ⟨z, hz, h2⟩ := Option.bind_eq_some_iff.mp h
          exact eT_tr (hr _ _ _ _ hz) (pt_oK h2)
        · split at h
          · next k1 =>
            split at h
            · split at h
              · split at h
                · next c =>
                  cases Option.some.inj h
                  have := eT_tr (eT_v (L := L) (v := (7, i, 0)) (oK_1 (by decide) k1)) (eT_v (v := (12, i + 2, i)) (oK_12 c.2.1.1 k1))
                  rw [List.append_assoc] at this
                  exact this
                · exact absurd h (by simp)
              · cases Option.some.inj h; exact eT_v (oK_1 (by decide) k1)
            · cases Option.some.inj h; exact eT_v (oK_1 (by decide) k1)
          · exact absurd h (by simp)
theorem pE_oK : ∀ f : Nat, nko K (pE K o f) := by
  intro f
  induction f with
  | zero => intro s i L q h; exact absurd h (by simp [pE])
  | succ f ih =>
    intro s i L q h
    rw [pE] at h
    split at h
    · obtain ⟨z, hz, h2⟩ := Option.bind_eq_some_iff.mp h
      refine eT_tr ?_ (pW_oK ih _ _ _ _ h2)
      split at hz
      · split at hz
        · obtain ⟨y, hy, h3⟩ := Option.bind_eq_some_iff.mp hz
          cases Option.some.inj h3
          exact eT_tr (ih _ _ _ _ hy) (eT_v (oK_n (by decide)))
        · exact absurd hz (by simp)
      · exact pO_oK ih hz
    · exact absurd h (by simp)
theorem pX_oK {f i : Nat} {q : Nat × gU} (h : pX K o f i L = some q) : eT K L q.2 := by
  obtain ⟨z, hz, h2⟩ := Option.bind_eq_some_iff.mp h
  exact eT_tr (pE_oK f _ _ _ _ hz) (pan_oK (oK_n (k := 54) (by decide)) h2)
theorem pXq_oK {f : Nat} {r q : Nat × gU} (h : pXq K f r = some q) : eT K r.2 q.2 := pX_oK h
theorem pP_oK {f i : Nat} {q : Nat × gU} (h : pP K f i L = some q) : eT K L q.2 := by
  unfold pP at h
  split at h
  · next k1 =>
    split at h
    · split at h
      · obtain ⟨z, hz, h2⟩ := Option.bind_eq_some_iff.mp h
        exact eT_tr (eT_tr (eT_v (oK_1 (by decide) k1.1)) (pX_oK hz)) (pt_oK h2)
      · exact absurd h (by simp)
    · cases Option.some.inj h; exact eT_v (oK_1 (by decide) k1.1)
  · exact absurd h (by simp)
theorem pme_oK {t : Option Nat} (ht : ∀ t0, t = some t0 → K t0 = 1) : eT K L (L ++ pme t) := by
  cases t with
  | none => rw [pme, List.append_nil]; exact eT_rf
  | some t => exact eT_v (oK_1 (by decide) (ht t rfl))
theorem pma_oK {t : Option Nat} (ht : ∀ t0, t = some t0 → K t0 = 1) : eT K L (L ++ pma t) := by
  cases t with
  | none => rw [pma, List.append_nil]; exact eT_rf
  | some t => exact eT_v (oK_1 (by decide) (ht t rfl))
theorem pal_oK {t : Option Nat} {i : Nat} (ht : ∀ t0, t = some t0 → K t0 = 1) (k1 : K i = 1) : eT K L (L ++ [pal t i]) := by
  cases t with
  | none => exact eT_v (oK_1 (by decide) k1)
  | some t => exact eT_v (oK_27 (ht t rfl) k1)
theorem pR_oK {f i : Nat} {t : Option Nat} {q : Nat × gU} (ht : ∀ t0, t = some t0 → K t0 = 1) (h : pR K f t i L = some q) : eT K L q.2 := by
  unfold pR at h
  split at h
  · split at h
    · obtain ⟨z4, hz4, h4⟩ := Option.bind_eq_some_iff.mp h
      obtain ⟨z3, hz3, h3⟩ := Option.bind_eq_some_iff.mp hz4
      obtain ⟨z2, hz2, h2⟩ := Option.bind_eq_some_iff.mp hz3
      obtain ⟨z5, hz5, h5⟩ := Option.bind_eq_some_iff.mp h4
      have d : eT K z5.2 q.2 := pan_oK (oK_n (by decide)) h5
      have a : eT K L z4.2 := eT_tr (eT_tr (eT_tr (pme_oK ht) (pP_oK hz2)) (pt_oK h2)) (pXq_oK h3)
      split at hz5
      · obtain ⟨z6, hz6, h6⟩ := Option.bind_eq_some_iff.mp hz5
        exact eT_tr (eT_tr (eT_tr a (pt_oK hz6)) (pXq_oK h6)) d
      · cases Option.some.inj hz5; exact eT_tr a d
    · exact absurd h (by simp)
  · split at h
    · obtain ⟨z, hz, h2⟩ := Option.bind_eq_some_iff.mp h
      exact eT_tr (eT_tr (pme_oK ht) (pP_oK hz)) (pan_oK (oK_n (by decide)) h2)
    · split at h
      · next k1 =>
        split at h
        · cases Option.some.inj h; exact pal_oK ht k1.1
        · exact absurd h (by simp)
      · obtain ⟨z, hz, h2⟩ := Option.bind_eq_some_iff.mp h
        exact eT_tr (eT_tr (pma_oK ht) (pX_oK hz)) (pan_oK (oK_n (by decide)) h2)
abbrev nks (K : Nat → Int32) (rS : Nat → Nat → gU → gTs) : Prop := ∀ c i L q, rS c i L = some q → eT K L q.2.2
theorem pBl_oK {rS : Nat → Nat → gU → gTs} {z : Nat} (hr : nks K rS) : ∀ (n c i : Nat) (L : gU) (q : Nat × Nat × gU), pBl rS K z n c i L = some q → eT K L q.2.2 := by
  intro n
  induction n with
  | zero => intro c i L q h; exact absurd h (by simp [pBl])
  | succ n ih =>
    intro c i L q h
    rw [pBl] at h
    split at h
    · split at h
      · cases Option.some.inj h; exact eT_v (oK_n (by decide))
      · exact absurd h (by simp)
    · obtain ⟨y, hy, h2⟩ := Option.bind_eq_some_iff.mp h
      exact eT_tr (hr _ _ _ _ hy) (ih _ _ _ _ h2)
theorem pBk_oK {rS : Nat → Nat → gU → gTs} {z : Nat} (hr : nks K rS) {c i : Nat} {q : Nat × Nat × gU} (h : pBk rS K z c i L = some q) : eT K L q.2.2 := by
  unfold pBk at h
  split at h
  · exact eT_tr (eT_v (oK_n (by decide))) (pBl_oK hr _ _ _ _ _ h)
  · exact absurd h (by simp)
theorem pEl_oK {rS : Nat → Nat → gU → gTs} (hr : nks K rS) {q r : Nat × Nat × gU} (h : pEl rS K q = some r) : eT K q.2.2 r.2.2 := by
  unfold pEl at h
  split at h
  · split at h
    · split at h
      · exact eT_tr (eT_v (oK_n (by decide))) (hr _ _ _ _ h)
      · exact eT_tr (eT_v (oK_n (by decide))) (pBk_oK hr h)
    · exact absurd h (by simp)
  · cases Option.some.inj h; exact eT_rf
theorem pup_oK {c : Nat} {v : Nat × Nat × Nat} {r : gOp} {q : Nat × Nat × gU} (hv : oK K v) (h : pup c v r = some q) : ∃ z, r = some z ∧ eT K z.2 q.2.2 := by
  unfold pup at h
  obtain ⟨z, hz, e⟩ := Option.bind_eq_some_iff.mp h
  cases Option.some.inj e
  exact ⟨z, hz, eT_v hv⟩
theorem pS1_oK {f c i : Nat} {q : Nat × Nat × gU} (h : pS1 K f c i L = some q) : eT K L q.2.2 := by
  have nn0 : ∀ t0 : Nat, (none : Option Nat) = some t0 → K t0 = 1 := fun t0 e => by cases e
  unfold pS1 at h
  split at h
  · split at h
    · next k1 =>
      obtain ⟨z, h, g⟩ := pup_oK (oK_n (k := 22) (by decide)) h
      obtain ⟨y, hy, h2⟩ := Option.bind_eq_some_iff.mp h
      exact eT_tr (eT_tr (eT_tr (eT_v (oK_1 (by decide) k1.1.1)) (pR_oK nn0 hy)) (pt_oK h2)) g
    · exact absurd h (by simp)
  · split at h
    · next k1 =>
      split at h
      · split at h
        · obtain ⟨z, h, g⟩ := pup_oK (oK_n (k := 78) (by decide)) h
          obtain ⟨y5, hy5, h5⟩ := Option.bind_eq_some_iff.mp h
          obtain ⟨y4, hy4, h4⟩ := Option.bind_eq_some_iff.mp hy5
          obtain ⟨y3, hy3, h3⟩ := Option.bind_eq_some_iff.mp hy4
          obtain ⟨y2, hy2, h2⟩ := Option.bind_eq_some_iff.mp hy3
          exact eT_tr (eT_tr (eT_tr (eT_tr (eT_tr (eT_tr (eT_v (oK_1 (by decide) k1)) (pX_oK hy2)) (pt_oK h2)) (pt_oK h3)) (pXq_oK h4)) (pt_oK h5)) g
        · exact absurd h (by simp)
      · split at h
        · obtain ⟨z, h, g⟩ := pup_oK (oK_n (k := 77) (by decide)) h
          obtain ⟨y2, hy2, h2⟩ := Option.bind_eq_some_iff.mp h
          exact eT_tr (eT_tr (pR_oK (fun t0 e => by cases e; exact k1) hy2) (pt_oK h2)) g
        · exact absurd h (by simp)
    · split at h
      · obtain ⟨z, h, g⟩ := pup_oK (oK_n (k := 68) (by decide)) h
        have := pt_oK h
        exact eT_tr this g
      · split at h
        · obtain ⟨z, h, g⟩ := pup_oK (oK_n (k := 69) (by decide)) h
          obtain ⟨y2, hy2, h2⟩ := Option.bind_eq_some_iff.mp h
          exact eT_tr (eT_tr (pX_oK hy2) (pt_oK h2)) g
        · split at h
          · split at h
            · next k2 =>
              obtain ⟨z, h, g⟩ := pup_oK (oK_w (k := 70) (by decide) k2.1.1) h
              obtain ⟨y2, hy2, h2⟩ := Option.bind_eq_some_iff.mp h
              exact eT_tr (eT_tr (pX_oK hy2) (pt_oK h2)) g
            · exact absurd h (by simp)
          · split at h
            · split at h
              · next k2 =>
                obtain ⟨z, h, g⟩ := pup_oK (oK_2 (k := 66) (by decide) k2.1) h
                have := pt_oK h
                exact eT_tr this g
              · exact absurd h (by simp)
            · split at h
              · split at h
                · next k2 =>
                  obtain ⟨z, h, g⟩ := pup_oK (oK_2 (k := 67) (by decide) k2.1) h
                  have := pt_oK h
                  exact eT_tr this g
                · exact absurd h (by simp)
              · exact absurd h (by simp)
theorem pfi_oK {q r : Nat × Nat × gU} (h : pfi q = some r) : eT K q.2.2 r.2.2 := by
  unfold pfi at h
  cases Option.some.inj h
  exact eT_v (oK_n (by decide))
theorem pS_oK : ∀ f : Nat, nks K (pS K f) := by
  intro f
  induction f with
  | zero => intro c i L q h; exact absurd h (by simp [pS])
  | succ f ih =>
    intro c i L q h
    rw [pS] at h
    split at h
    · exact absurd h (by simp)
    · split at h
      · obtain ⟨z, hz, h2⟩ := Option.bind_eq_some_iff.mp h
        obtain ⟨x, hx, h4⟩ := Option.bind_eq_some_iff.mp h2
        obtain ⟨y, hy, h3⟩ := Option.bind_eq_some_iff.mp hx
        exact eT_tr (eT_tr (eT_tr (eT_tr (pX_oK hz) (eT_v (oK_n (by decide)))) (pBk_oK ih hy)) (pEl_oK ih h3)) (pfi_oK h4)
      · split at h
        · obtain ⟨z, hz, h2⟩ := Option.bind_eq_some_iff.mp h
          exact eT_tr (eT_tr (pX_oK hz) (eT_v (oK_n (by decide)))) (pBk_oK ih h2)
        · split at h
          · split at h
            · next k2 => exact eT_tr (eT_v (oK_2 (by decide) k2.1)) (pBk_oK ih h)
            · exact absurd h (by simp)
          · exact pS1_oK h
theorem pCv_oK {q r : Nat × gU} (h : pCv K q = some r) : eT K q.2 r.2 ∧ nT q.2 r.2 := by
  unfold pCv at h
  split at h
  · split at h
    · split at h
      · split at h
        · cases Option.some.inj h; exact ⟨eT_v (oK_n (by decide)), nT_k (by decide)⟩
        · exact absurd h (by simp)
      · split at h
        · cases Option.some.inj h; exact ⟨eT_v (oK_n (by decide)), nT_k (by decide)⟩
        · exact absurd h (by simp)
    · exact absurd h (by simp)
  · cases Option.some.inj h; exact ⟨eT_v (oK_n (by decide)), nT_k (by decide)⟩
/-- a definition tells at most one name -/
def dT (K V : Nat → Int32) (i j : Nat) (L L' : gU) : Prop := ∃ N, L' = L ++ N ∧ (∀ v ∈ N, oK K v) ∧ (N.filterMap (te1 K V) = [] ∨ ∃ q, N.filterMap (te1 K V) = [q] ∧ i ≤ q.1 ∧ q.1 < j)
theorem dT_1 {i j : Nat} {v : Nat × Nat × Nat} {q : Nat × Nat × Nat × Nat} (hv : oK K v) (hq : te1 K V v = some q) (hi : i ≤ q.1) (hj : q.1 < j) (h : eT K (L ++ [v]) L') (g : nT (L ++ [v]) L') : dT K V i j L L' := by
  obtain ⟨N, e, h⟩ := h
  obtain ⟨N2, e2, g⟩ := g
  have en : N = N2 := List.append_cancel_left (e.symm.trans e2)
  refine ⟨[v] ++ N, by rw [e, List.append_assoc], fun w hw => (List.mem_append.mp hw).elim (fun z => by rw [List.mem_singleton.mp z]; exact hv) (h w), Or.inr ⟨q, ?_, hi, hj⟩⟩
  have tn : N.filterMap (te1 K V) = [] := List.filterMap_eq_nil_iff.mpr (fun w hw => te1_no (g w (by rw [← en]; exact hw)))
  rw [List.filterMap_append, tn, List.append_nil, List.filterMap_cons_some hq, List.filterMap_nil]
theorem pCl_dT {n i t : Nat} {q : Nat × Nat × gU} (ht : i ≤ t) (h : pCl K V n i t L = some q) : dT K V i q.2.1 L q.2.2 := by
  have lt := pCl_lt h
  unfold pCl at h
  split at h
  · next c =>
    split at h
    · split at h
      · next c2 =>
        obtain ⟨z, hz, e⟩ := Option.bind_eq_some_iff.mp h
        obtain ⟨y, hy, h2⟩ := Option.bind_eq_some_iff.mp hz
        obtain ⟨a1, a2⟩ := pCv_oK hy
        cases Option.some.inj e
        exact dT_1 (v := (32, t, t + 2)) (q := (t, 0, prz K V (t + 2), t + 2)) (oK_32 c.2.1.1 c2.2.2.1.1) rfl ht lt.1 (eT_tr a1 (eT_tr (pt_oK h2) (eT_v (oK_n (by decide))))) (nT_tr a2 (nT_tr (pt_nT h2) (nT_k (by decide))))
      · exact absurd h (by simp)
    · obtain ⟨z, hz, e⟩ := Option.bind_eq_some_iff.mp h
      obtain ⟨y, hy, h2⟩ := Option.bind_eq_some_iff.mp hz
      obtain ⟨a1, a2⟩ := pCv_oK hy
      cases Option.some.inj e
      exact dT_1 (v := (31, t, 0)) (q := (t, 0, 0, 0)) (oK_1 (by decide) c.2.1.1) rfl ht lt.1 (eT_tr a1 (eT_tr (pt_oK h2) (eT_v (oK_n (by decide))))) (nT_tr a2 (nT_tr (pt_nT h2) (nT_k (by decide))))
  · exact absurd h (by simp)
theorem pD_dT {n : gN} {i : Nat} {q : gN × Nat × gU} (h : pD K V n i L = some q) : dT K V i q.2.1 L q.2.2 := by
  have cell : ∀ t, i ≤ t → (pCl K V n.1 i t L).bind (fun q => some ((q.1, n.2), q.2)) = some q → dT K V i q.2.1 L q.2.2 := fun t ht h => by
    obtain ⟨z, hz, e⟩ := Option.bind_eq_some_iff.mp h
    cases Option.some.inj e
    exact pCl_dT ht hz
  have blk : ∀ (t j b : Nat) (v : gN), i ≤ t → t < j → K t = 1 → (pBk (pS K 16) K 0 0 j (L ++ [(34, t, b)])).bind (fun q => some (v, q.2)) = some q → dT K V i q.2.1 L q.2.2 := fun t j b v ht hj k1 h => by
    obtain ⟨z, hz, e⟩ := Option.bind_eq_some_iff.mp h
    have a := pBk_lt (pS_lt 16) hz
    cases Option.some.inj e
    exact dT_1 (v := (34, t, b)) (q := (t, 2, 0, 0)) (oK_1 (by decide) k1) rfl ht (by show t < z.2.1; omega) (pBk_oK (pS_oK 16) hz) (pBk_nT (pS_nT 16) hz)
  have clm : ∀ (k : Nat) (v : gN), (k = 35 ∨ k = 36) → ((pX K true 16 (i + 1) (L ++ [(k, i, 0)])).bind (pt K 67)).bind (fun q => some (v, q)) = some q → dT K V i q.2.1 L q.2.2 := fun k v hk h => by
    obtain ⟨z, hz, e⟩ := Option.bind_eq_some_iff.mp h
    obtain ⟨y, hy, h2⟩ := Option.bind_eq_some_iff.mp hz
    cases Option.some.inj e
    obtain ⟨N, e1, g1⟩ := eT_tr (pX_oK hy) (pt_oK h2)
    obtain ⟨N2, e2, g2⟩ := nT_tr (pX_nT hy) (pt_nT h2)
    have en : N = N2 := List.append_cancel_left (e1.symm.trans e2)
    have t0 : te1 K V (k, i, 0) = none := by
      unfold te1
      rcases hk with e | e <;> rw [e] <;> rfl
    refine ⟨[(k, i, 0)] ++ N, by rw [← List.append_assoc]; exact e1, fun w hw => (List.mem_append.mp hw).elim (fun z => by rw [List.mem_singleton.mp z]; rcases hk with e | e <;> rw [e] <;> exact oK_n (by decide)) (g1 w), Or.inl ?_⟩
    have tn : N.filterMap (te1 K V) = [] := List.filterMap_eq_nil_iff.mpr (fun w hw => te1_no (g2 w (by rw [← en]; exact hw)))
    rw [List.filterMap_append, tn, List.append_nil, List.filterMap_cons_none t0, List.filterMap_nil]
  unfold pD at h
  split at h
  · split at h
    · exact cell _ (by omega) h
    · exact absurd h (by simp)
  · split at h
    · exact cell _ (by omega) h
    · split at h
      · split at h
        · next d =>
          cases Option.some.inj h
          exact dT_1 (v := (33, i + 1, 0)) (q := (i + 1, 1, 0, 0)) (oK_1 (by decide) d.2.2.1.1) rfl (by show i ≤ i + 1; omega) (by show i + 1 < i + 3; omega) eT_rf nT_rf
        · exact absurd h (by simp)
      · split at h
        · split at h
          · next d => exact blk _ _ _ _ (by omega) (by omega) d.2.2.2.1 h
          · exact absurd h (by simp)
        · split at h
          · split at h
            · next d => exact blk _ _ _ _ (by omega) (by omega) d.2.2.1 h
            · exact absurd h (by simp)
          · split at h
            · split at h
              · exact clm _ _ (Or.inl rfl) h
              · exact absurd h (by simp)
            · split at h
              · split at h
                · exact clm _ _ (Or.inr rfl) h
                · exact absurd h (by simp)
              · exact absurd h (by simp)
theorem pAl_dT : ∀ (m : Nat) (n : gN) (i : Nat) (L : gU) (q : gN × Nat × gU), pAl K V m n i L = some q → ∃ N, q.2.2 = L ++ N ∧ (∀ v ∈ N, oK K v) ∧ (N.filterMap (te1 K V)).Pairwise (fun a b => a.1 < b.1) ∧ (∀ a ∈ N.filterMap (te1 K V), i ≤ a.1 ∧ a.1 < q.2.1) ∧ i ≤ q.2.1 := by
  intro m
  induction m with
  | zero => intro n i L q h; exact absurd h (by simp [pAl])
  | succ m ih =>
    intro n i L q h
    rw [pAl] at h
    split at h
    · cases Option.some.inj h
      exact ⟨[], by rw [List.append_nil], fun v hv => (by cases hv), List.Pairwise.nil, fun a ha => (by cases ha), Nat.le_refl _⟩
    · obtain ⟨z, hz, h2⟩ := Option.bind_eq_some_iff.mp h
      have lt := pD_lt hz
      obtain ⟨N1, e1, o1, t1⟩ := pD_dT hz
      obtain ⟨N2, e2, o2, p2, b2, l2⟩ := ih _ _ _ _ h2
      refine ⟨N1 ++ N2, by rw [e2, e1, List.append_assoc], fun v hv => (List.mem_append.mp hv).elim (o1 v) (o2 v), ?_, ?_, by omega⟩
      · rw [List.filterMap_append]
        rcases t1 with t1 | ⟨a, t1, a1, a2⟩
        · rw [t1]; exact p2
        · rw [t1]
          refine List.pairwise_cons.mpr ⟨fun b hb => ?_, p2⟩
          have := b2 b hb
          omega
      · intro a ha
        rw [List.filterMap_append] at ha
        rcases List.mem_append.mp ha with ha | ha
        · rcases t1 with t1 | ⟨b, t1, a1, a2⟩
          · rw [t1] at ha; cases ha
          · rw [t1] at ha
            rw [List.mem_singleton.mp ha]
            omega
        · have := b2 a ha
          omega
end ETL
end
section
/-! what is told has numbers; cells have starts -/
/-- how many of a sort are told (a row has as many cells as it says); the number of the first of the name -/
def nbT (w : Nat) : gTd → Nat
  | [] => 0
  | q :: T => (if q.2.1 = w then max q.2.2.1 1 else 0) + nbT w T
def nmT (sN : Nat → Nat → Bool) (w t : Nat) : gTd → Nat
  | [] => 0
  | q :: T => if (decide (q.2.1 = w) && sN q.1 t) = true then 0 else (if q.2.1 = w then max q.2.2.1 1 else 0) + nmT sN w t T
theorem nbT_app {w : Nat} {T U : gTd} : nbT w (T ++ U) = nbT w T + nbT w U := by
  induction T with
  | nil => rw [List.nil_append, nbT, Nat.zero_add]
  | cons q T ih => rw [List.cons_append, nbT, nbT, ih, Nat.add_assoc]
/-- the size of the row that a name means -/
def rsT (sN : Nat → Nat → Bool) (T : gTd) (t : Nat) : Nat := match mtP sN T 0 t with
  | some q => q.2.2.1
  | none => 0
/-- cells: how many and which start come next; those told -/
def ceV (K V : Nat → Int32) (c : Nat × Int32 × List (Int32 × Bool)) (v : Nat × Nat × Nat) : Nat × Int32 × List (Int32 × Bool) :=
  if v.1 = 31 then (1, c.2)
  else if v.1 = 32 then (prz K V v.2.2, c.2)
  else if v.1 = 80 then (c.1, V v.2.1, c.2.2)
  else if v.1 = 81 then (c.1, -(V v.2.1), c.2.2)
  else if v.1 = 82 then (c.1, 0, c.2.2)
  else if v.1 = 83 then (c.1, c.2.1, c.2.2 ++ List.replicate c.1 (c.2.1, decide (K v.2.1 = 34)))
  else c
def ces (K V : Nat → Int32) (L : gU) (c : Nat × Int32 × List (Int32 × Bool)) : Nat × Int32 × List (Int32 × Bool) := L.foldl (ceV K V) c
def cel (K V : Nat → Int32) (L : gU) : List (Int32 × Bool) := (ces K V L (0, 0, [])).2.2
/-- threads: idle or not -/
def idE (v : Nat × Nat × Nat) : Option Nat := if v.1 = 34 then some v.2.2 else none
theorem ces_app {K V : Nat → Int32} {L M : gU} {c : Nat × Int32 × List (Int32 × Bool)} : ces K V (L ++ M) c = ces K V M (ces K V L c) := List.foldl_append
theorem ces_no {K V : Nat → Int32} {c : Nat × Int32 × List (Int32 × Bool)} : ∀ {L : gU}, (∀ v ∈ L, ¬ (v.1 = 31 ∨ v.1 = 32 ∨ 80 ≤ v.1)) → ces K V L c = c := by
  intro L
  induction L with
  | nil => intro _; rfl
  | cons v L ih =>
    intro h
    have q := h v List.mem_cons_self
    show ces K V L (ceV K V c v) = c
    have e : ceV K V c v = c := by
      unfold ceV
      rw [if_neg (fun z => q (Or.inl z)), if_neg (fun z => q (Or.inr (Or.inl z))), if_neg (fun z => q (Or.inr (Or.inr (by omega)))), if_neg (fun z => q (Or.inr (Or.inr (by omega)))), if_neg (fun z => q (Or.inr (Or.inr (by omega)))), if_neg (fun z => q (Or.inr (Or.inr (by omega))))]
    rw [e]
    exact ih (fun w hw => h w (List.mem_cons_of_mem _ hw))
end
section
section SPA
variable {G : mG} {d : Nat} {x : gd} {F : Int32 → gd → Prop} {Fv : gd → Prop}
theorem sp_in (v a b : Int32) (h : F (bi (a ≤ v ∧ v ≤ b)) x) : MT G d z_in 0 [(0, vi v), (1, vi a), (2, vi b)] [] x (ri F) := by
  refine sg_in_0 _ _ _ ⟨fun c => ri_i ?_, fun c => ⟨fun c2 => ri_i ?_, fun c2 => ri_i ?_⟩⟩
  · rwa [bi_f (by rw [t_le, t_le]; rw [t_lt] at c; omega)] at h
  · rwa [bi_f (by rw [t_le, t_le]; rw [t_lt] at c2; omega)] at h
  · rwa [bi_t (by rw [t_le, t_le]; rw [t_lt] at c c2; omega)] at h
abbrev isL (c : Int32) : Prop := (97 ≤ c ∧ c ≤ 122) ∨ (65 ≤ c ∧ c ≤ 90)
abbrev isD (c : Int32) : Prop := 48 ≤ c ∧ c ≤ 57
theorem sp_isLetter (c : Int32) (h : F (bi (isL c)) x) : MT G (d + 1) z_isLetter 0 [(0, vi c)] [] x (ri F) := by
  refine sg_isLetter_0 _ (sp_in _ _ _ ⟨fun c1 => ri_i ?_, fun c1 => sp_in _ _ _ ⟨fun c2 => ri_i ?_, fun c2 => ri_i ?_⟩⟩)
  · rwa [bi_t (Or.inl (bi_ne.mp c1))] at h
  · rwa [bi_f (fun q => q.elim (bi_eq.mp c1) (bi_eq.mp c2))] at h
  · rwa [bi_t (Or.inr (bi_ne.mp c2))] at h
theorem sp_isDigit (c : Int32) (h : F (bi (isD c)) x) : MT G (d + 1) z_isDigit 0 [(0, vi c)] [] x (ri F) :=
  sg_isDigit_0 _ (sp_in _ _ _ ⟨bi_b, ri_i h⟩)
def bAt (x : gd) (p : Int32) : Int32 := if x.1 0 2 ≤ p then -1 else x.1 2 p.toNatClampNeg &&& 255
theorem sp_byteAt (p : Int32) (h0 : 0 ≤ p.toInt) (hs : (x.1 0 2).toInt ≤ 3000) (h : F (bAt x p) x) : MT G d z_byteAt 0 [(0, vr 0), (1, vi p)] [] x (ri F) := by
  refine sg_byteAt_0 _ ⟨fun c => ri_i ?_, fun c => ⟨?_, ri_i ?_⟩⟩
  · rwa [bAt, if_pos c] at h
  · rw [t_le] at c
    rw [vp_in_iff]; omega
  · rwa [bAt, if_neg c] at h
/-- refuses: nothing was thrown before; an answer 0 says that nothing is bad, and nothing has changed -/
theorem sp_refuses (b k : Int32) (ht : x.1 0 0 = 0) (hk : 0 < k.toInt) (h0 : b = 0 → F 0 x) (h1 : ¬ b = 0 → F 1 (si x 0 0 k)) : MT G d z_refuses 0 [(0, vr 0), (1, vi b), (2, vi k)] [] x (ri F) := by
  refine sg_refuses_0 _ _ ⟨fun c => absurd ht c, fun _ => ⟨fun c => sg_refuses_16 ⟨fun _ => ri_i (h0 c), fun c2 => ?_⟩, fun c x3 e3 => sg_refuses_16 ⟨fun c2 => ?_, fun _ => ri_i ?_⟩⟩⟩
  · exfalso; rw [ht] at c2; exact c2 (by decide)
  · exfalso
    rw [e3, si_get, if_pos ⟨rfl, rfl⟩, t_le] at c2
    have : (0 : Int32).toInt = 0 := rfl
    omega
  · rw [e3]; exact h1 c
/-- tokens lie in the text -/
def TK (x : gd) : Prop := ∀ j : Nat, j < 710 → 0 ≤ (x.1 6 j).toInt ∧ 0 ≤ (x.1 8 j).toInt ∧ (x.1 6 j).toInt + (x.1 8 j).toInt ≤ 3000 ∧ 0 ≤ (x.1 7 j).toInt
theorem sp_lineOf (p : Int32) (hp : p.toInt ≤ 3000) (h : ∀ r, F r x) : MT G d z_lineOf 0 [(0, vr 0), (1, vi p)] [] x (ri F) := by
  have loop : ∀ (n : Nat) (a i : Int32), 0 ≤ i.toInt → p.toInt - i.toInt ≤ n → MT G d z_lineOf 4 [(0, vr 0), (1, vi p), (2, vi a), (3, vi i)] [] x (ri F) := by
    intro n
    induction n with
    | zero =>
      intro a i h0 hn
      refine sg_lineOf_4 _ _ _ ⟨fun _ => ri_i (h _), fun c => ?_⟩
      rw [t_le] at c; omega
    | succ n ih =>
      intro a i h0 hn
      refine sg_lineOf_4 _ _ _ ⟨fun _ => ri_i (h _), fun c => ⟨?_, ?_, ?_⟩⟩
      · rw [t_le] at c; rw [vp_in_iff]; omega
      all_goals
        intro _
        rw [t_le] at c
        have e1 : (i + 1).toInt = i.toInt + 1 := t_add (by show _ ≤ _ + (1 : Int); omega) (by show _ + (1 : Int) ≤ _; omega)
        exact ih _ _ (by omega) (by omega)
  exact sg_lineOf_0 _ (loop (p.toInt).toNat _ _ (by decide) (by show p.toInt - 0 ≤ _; omega))
end SPA
end
section
/-! the tokens of a text: b its bytes, n how many. A token: where, its kind (by the model's numbers), size, value -/
abbrev isLD (c : Int32) : Prop := isL c ∨ isD c
/-- m bytes from p on are such, and the next one, if there is one, is not -/
def RUNq (q : Int32 → Prop) (b : Nat → Int32) (n p m : Nat) : Prop := p + m ≤ n ∧ (∀ i, i < m → q (b (p + i))) ∧ ¬ (p + m < n ∧ q (b (p + m)))
theorem RUNq_u {q : Int32 → Prop} {b : Nat → Int32} {n p m m' : Nat} (h : RUNq q b n p m) (g : RUNq q b n p m') : m = m' := by
  by_cases c : m < m'
  · exact absurd ⟨by have := g.1; omega, g.2.1 m c⟩ h.2.2
  · by_cases d : m' < m
    · exact absurd ⟨by have := h.1; omega, h.2.1 m' d⟩ g.2.2
    · omega
/-- the words: letters, how many -/
def wtab : List (List Nat) := [[97, 100, 100], [97, 108, 119, 97, 121, 115], [97, 110, 100], [97, 115, 115, 101, 114, 116], [98, 97, 99, 107], [99, 97, 108, 108], [99, 97, 115], [99, 101, 108, 108], [101, 108, 115, 101], [101, 110, 100], [102, 101, 110, 99, 101], [102, 105, 110, 97, 108, 108, 121], [103, 105, 118, 101], [105, 100, 108, 101], [105, 102], [106, 111, 105, 110], [108, 101, 116], [108, 111, 99, 107], [109, 111, 100], [110, 111, 116], [111, 114], [112, 97, 117, 115, 101], [115, 101, 108, 102], [115, 116, 97, 114, 116], [115, 117, 114, 101], [115, 119, 97, 112], [116, 97, 107, 101], [116, 104, 114, 101, 97, 100], [119, 97, 105, 116], [119, 97, 107, 101], [119, 97, 107, 101, 97, 108, 108], [119, 104, 105, 108, 101]]
def wln (w : Nat) : Nat := (wtab.getD w []).length
def wch (w i : Nat) : Int32 := Int32.ofNat ((wtab.getD w []).getD i 32)
def WD (b : Nat → Int32) (p m w : Nat) : Prop := wln w = m ∧ ∀ i, i < m → b (p + i) = wch w i
theorem w_dist : ∀ w, w < 32 → ∀ w', w' < 32 → wtab.getD w [] = wtab.getD w' [] → w = w' := by decide +kernel
theorem w_small : ∀ w, w < 32 → ∀ i, i < 8 → (wtab.getD w []).getD i 32 < 128 := by decide +kernel
theorem w_seven : ∀ w, w < 32 → wln w ≤ 7 := by decide +kernel
theorem w_blank : ∀ w, w < 32 → ∀ i, i < 8 → ((wtab.getD w []).getD i 32 = 32 ↔ wln w ≤ i) := by decide +kernel
theorem wch_inj {w w' i : Nat} (h : w < 32) (h' : w' < 32) (hi : i < 8) (e : wch w i = wch w' i) : (wtab.getD w []).getD i 32 = (wtab.getD w' []).getD i 32 := by
  have a := w_small w h i hi
  have b := w_small w' h' i hi
  unfold wch at e
  have e1 : (Int32.ofNat ((wtab.getD w []).getD i 32)).toInt = ((wtab.getD w []).getD i 32 : Nat) := Int32.toInt_ofNat_of_lt (by omega)
  have e2 : (Int32.ofNat ((wtab.getD w' []).getD i 32)).toInt = ((wtab.getD w' []).getD i 32 : Nat) := Int32.toInt_ofNat_of_lt (by omega)
  rw [e, e2] at e1
  omega
theorem gD_is {α : Type} {l : List α} {i : Nat} {d : α} (h : i < l.length) : l.getD i d = l[i] := by
  rw [List.getD_eq_getElem?_getD, List.getElem?_eq_getElem h]
  rfl
theorem WD_u {b : Nat → Int32} {p m w w' : Nat} (hw : w < 32) (hw' : w' < 32) (h : WD b p m w) (g : WD b p m w') : w = w' := by
  refine w_dist w hw w' hw' ?_
  have l1 : (wtab.getD w []).length = m := h.1
  have l2 : (wtab.getD w' []).length = m := g.1
  have m7 := w_seven w hw
  rw [h.1] at m7
  apply List.ext_getElem (by rw [l1, l2])
  intro i h1 h2
  have e := wch_inj (i := i) hw hw' (by omega) ((h.2 i (by omega)).symm.trans (g.2 i (by omega)))
  rw [gD_is h1, gD_is h2] at e
  exact e
/-- the kind of a sign c with d behind it -/
def sgk (c d : Int32) : Int32 := if d = 61 ∧ (c = 61 ∨ c = 33 ∨ c = 60 ∨ c = 62) then (if c = 61 then 51 else if c = 33 then 52 else if c = 60 then 54 else 56) else if c = 61 then 50 else if c = 60 then 53 else if c = 62 then 55 else if c = 43 then 57 else if c = 45 then 58 else if c = 42 then 59 else if c = 47 then 60 else if c = 40 then 61 else if c = 41 then 62 else if c = 123 then 63 else if c = 125 then 64 else if c = 91 then 65 else if c = 93 then 66 else if c = 59 then 67 else if c = 44 then 68 else 3
theorem ite_n {p : Prop} [Decidable p] {a b v : Int32} (ha : ¬ a = v) (hb : ¬ b = v) : ¬ (if p then a else b) = v := by
  by_cases h : p
  · rw [if_pos h]; exact ha
  · rw [if_neg h]; exact hb
theorem sgk_n2 (c d : Int32) : ¬ sgk c d = 2 := by
  unfold sgk
  repeat' (first | apply ite_n | decide)
def sg2 (c d : Int32) : Prop := d = 61 ∧ (c = 61 ∨ c = 33 ∨ c = 60 ∨ c = 62)
/-- what a whole says -/
def whv (b : Nat → Int32) (p : Nat) : Nat → Int32
  | 0 => 0
  | m + 1 => 10 * whv b p m + b (p + m) - 48
def cby1 (b : Nat → Int32) (n p : Nat) : Int32 := if p < n then b p else -1
def TOK (b : Nat → Int32) (n p : Nat) (k : Int32) (m : Nat) (v : Int32) : Prop :=
  (n ≤ p ∧ k = 0) ∨
  (p < n ∧ isL (b p) ∧ RUNq isLD b n p m ∧ ((∃ w, w < 32 ∧ WD b p m w ∧ k = Int32.ofNat (10 + w)) ∨ ((∀ w, w < 32 → ¬ WD b p m w) ∧ ((m ≤ 12 ∧ k = 1) ∨ (12 < m ∧ k = 3))))) ∨
  (p < n ∧ isD (b p) ∧ ((k = 2 ∧ RUNq isLD b n p m ∧ m ≤ 9 ∧ (∀ i, i < m → isD (b (p + i))) ∧ v = whv b p m) ∨ (k = 3 ∧ ∃ q, RUNq isLD b n p q ∧ (9 < q ∨ ∃ i, i < q ∧ ¬ isD (b (p + i)))))) ∨
  (p < n ∧ ¬ isLD (b p) ∧ k = sgk (b p) (cby1 b n (p + 1)) ∧ ((sg2 (b p) (cby1 b n (p + 1)) ∧ m = 2) ∨ (¬ sg2 (b p) (cby1 b n (p + 1)) ∧ m = 1)))
theorem nLD {c : Int32} (h : isL c) (g : isD c) : False := by
  obtain ⟨g1, g2⟩ := g
  rw [t_le] at g1 g2
  have k48 : (48 : Int32).toInt = 48 := rfl
  have k57 : (57 : Int32).toInt = 57 := rfl
  have k97 : (97 : Int32).toInt = 97 := rfl
  have k65 : (65 : Int32).toInt = 65 := rfl
  rcases h with ⟨a, _⟩ | ⟨a, _⟩ <;> (rw [t_le] at a; omega)
theorem ofN_inj {a b : Nat} (ha : a < 100) (hb : b < 100) (h : Int32.ofNat a = Int32.ofNat b) : a = b := by
  have e1 : (Int32.ofNat a).toInt = (a : Nat) := Int32.toInt_ofNat_of_lt (by omega)
  have e2 : (Int32.ofNat b).toInt = (b : Nat) := Int32.toInt_ofNat_of_lt (by omega)
  rw [h, e2] at e1
  omega
theorem TOK_u {b : Nat → Int32} {n p m m' : Nat} {k k' v v' : Int32} (h : TOK b n p k m v) (g : TOK b n p k' m' v') : k = k' ∧ (¬ k = 3 → ¬ k = 0 → m = m') ∧ (k = 2 → v = v') := by
  rcases h with ⟨h1, h2⟩ | ⟨h0, h1, h2, h3⟩ | ⟨h0, h1, h2⟩ | ⟨h0, h1, h2, h3⟩
  · rcases g with ⟨g1, g2⟩ | ⟨g0, _⟩ | ⟨g0, _⟩ | ⟨g0, _⟩
    · exact ⟨by rw [h2, g2], fun _ q => absurd h2 q, fun q => by rw [h2] at q; exact absurd q (by decide)⟩
    · omega
    · omega
    · omega
  · rcases g with ⟨g1, _⟩ | ⟨g0, g1, g2, g3⟩ | ⟨g0, g1, _⟩ | ⟨g0, g1, _⟩
    · omega
    · have em := RUNq_u h2 g2
      subst em
      rcases h3 with ⟨w, hw, hd, hk⟩ | ⟨hd, hk⟩
      · have n2 : ¬ k = 2 := fun q => by
          rw [hk] at q
          have := ofN_inj (b := 2) (by omega) (by omega) q
          omega
        rcases g3 with ⟨w', hw', gd, gk⟩ | ⟨gd, gk⟩
        · have ew := WD_u hw hw' hd gd
          exact ⟨by rw [hk, gk, ew], fun _ _ => rfl, fun q => absurd q n2⟩
        · exact absurd hd (gd w hw)
      · rcases g3 with ⟨w', hw', gd, gk⟩ | ⟨gd, gk⟩
        · exact absurd gd (hd w' hw')
        · rcases hk with ⟨a1, a2⟩ | ⟨a1, a2⟩ <;> rcases gk with ⟨b1, b2⟩ | ⟨b1, b2⟩
          · exact ⟨by rw [a2, b2], fun _ _ => rfl, fun q => by rw [a2] at q; exact absurd q (by decide)⟩
          · omega
          · omega
          · exact ⟨by rw [a2, b2], fun _ _ => rfl, fun q => by rw [a2] at q; exact absurd q (by decide)⟩
    · exact (nLD h1 g1).elim
    · exact absurd (Or.inl h1) g1
  · rcases g with ⟨g1, _⟩ | ⟨g0, g1, _⟩ | ⟨g0, g1, g2⟩ | ⟨g0, g1, _⟩
    · omega
    · exact (nLD g1 h1).elim
    · rcases h2 with ⟨a1, a2, a3, a4, a5⟩ | ⟨a1, q, a2, a3⟩ <;> rcases g2 with ⟨b1, b2, b3, b4, b5⟩ | ⟨b1, q', b2, b3⟩
      · have em := RUNq_u a2 b2
        subst em
        exact ⟨by rw [a1, b1], fun _ _ => rfl, fun _ => by rw [a5, b5]⟩
      · have em := RUNq_u a2 b2
        subst em
        rcases b3 with b3 | ⟨i, c1, c2⟩
        · omega
        · exact absurd (a4 i c1) c2
      · have em := RUNq_u a2 b2
        subst em
        rcases a3 with a3 | ⟨i, c1, c2⟩
        · omega
        · exact absurd (b4 i c1) c2
      · exact ⟨by rw [a1, b1], fun q _ => absurd a1 q, fun q => by rw [a1] at q; exact absurd q (by decide)⟩
    · exact absurd (Or.inr h1) g1
  · rcases g with ⟨g1, _⟩ | ⟨g0, g1, _⟩ | ⟨g0, g1, _⟩ | ⟨g0, g1, g2, g3⟩
    · omega
    · exact absurd (Or.inl g1) h1
    · exact absurd (Or.inr g1) h1
    · refine ⟨by rw [h2, g2], fun _ _ => ?_, fun q => ?_⟩
      · rcases h3 with ⟨a1, a2⟩ | ⟨a1, a2⟩ <;> rcases g3 with ⟨b1, b2⟩ | ⟨b1, b2⟩
        · omega
        · exact absurd a1 b1
        · exact absurd b1 a1
        · omega
      · rw [h2] at q
        exact absurd q (sgk_n2 _ _)
/-- where the next token begins, from p on -/
def lx (b : Nat → Int32) (n p : Nat) : Nat := lxs b n (n + 1) false p
/-- the tokens up to e: the end, a broken one, or the 701st -/
def TSq (b : Nat → Int32) (n e : Nat) (K : Nat → Int32) (P Z : Nat → Nat) (V : Nat → Int32) : Prop :=
  e ≤ 700 ∧ P 0 = lx b n 0 ∧ (∀ j, j < e → P (j + 1) = lx b n (P j + Z j)) ∧ (∀ j, j ≤ e → TOK b n (P j) (K j) (Z j) (V j)) ∧ (∀ j, j < e → ¬ K j = 0 ∧ ¬ K j = 3) ∧ (K e = 0 ∨ K e = 3 ∨ e = 700)
theorem TSq_u {b : Nat → Int32} {n e e' : Nat} {K K' : Nat → Int32} {P P' Z Z' : Nat → Nat} {V V' : Nat → Int32} (h : TSq b n e K P Z V) (g : TSq b n e' K' P' Z' V') : e = e' ∧ ∀ j, j ≤ e → P j = P' j ∧ K j = K' j ∧ (¬ K j = 3 → ¬ K j = 0 → Z j = Z' j) ∧ (K j = 2 → V j = V' j) := by
  obtain ⟨h0, h1, h2, h3, h4, h5⟩ := h
  obtain ⟨g0, g1, g2, g3, g4, g5⟩ := g
  have key : ∀ j, j ≤ e → j ≤ e' → P j = P' j ∧ K j = K' j ∧ (¬ K j = 3 → ¬ K j = 0 → Z j = Z' j) ∧ (K j = 2 → V j = V' j) := by
    intro j
    induction j with
    | zero =>
      intro a c
      have eP : P 0 = P' 0 := h1.trans g1.symm
      have t := g3 0 c
      rw [← eP] at t
      exact ⟨eP, TOK_u (h3 0 a) t⟩
    | succ j ih =>
      intro a c
      obtain ⟨i1, i2, i3, i4⟩ := ih (by omega) (by omega)
      have eP : P (j + 1) = P' (j + 1) := by rw [h2 j (by omega), g2 j (by omega), i1, i3 (h4 j (by omega)).2 (h4 j (by omega)).1]
      have t := g3 (j + 1) c
      rw [← eP] at t
      exact ⟨eP, TOK_u (h3 _ a) t⟩
  have ee : e = e' := by
    by_cases c : e < e'
    · have k := (key e (Nat.le_refl _) (by omega)).2.1
      have q := g4 e c
      rw [← k] at q
      rcases h5 with h5 | h5 | h5
      · exact absurd h5 q.1
      · exact absurd h5 q.2
      · omega
    · by_cases d : e' < e
      · have k := (key e' (by omega) (Nat.le_refl _)).2.1
        have q := h4 e' d
        rw [k] at q
        rcases g5 with g5 | g5 | g5
        · exact absurd g5 q.1
        · exact absurd g5 q.2
        · omega
      · omega
  exact ⟨ee, fun j hj => key j hj (by omega)⟩
/-! skipping blanks, one byte at a time -/
section LXS
variable {b : Nat → Int32} {n : Nat}
theorem lxs_fuel : ∀ (f g : Nat) (r : Bool) (p : Nat), n + 1 ≤ f + p → n + 1 ≤ g + p → p ≤ n → lxs b n f r p = lxs b n g r p := by
  intro f
  induction f with
  | zero => intro g r p h1 h2 h3; omega
  | succ f ih =>
    intro g r p h1 h2 h3
    obtain ⟨g, rfl⟩ : ∃ k, g = k + 1 := ⟨g - 1, by omega⟩
    rw [lxs, lxs]
    by_cases c : n ≤ p
    · rw [if_pos c, if_pos c]
    · rw [if_neg c, if_neg c, ih g false (p + 1) (by omega) (by omega) (by omega), ih g true (p + 1) (by omega) (by omega) (by omega), ih g r (p + 1) (by omega) (by omega) (by omega)]
/-- from p on, in a remark or not -/
def lxr (b : Nat → Int32) (n : Nat) (r : Bool) (p : Nat) : Nat := lxs b n (n + 1) r p
theorem lxr_end {r : Bool} {p : Nat} (h : n ≤ p) : lxr b n r p = p := by
  unfold lxr
  rw [lxs, if_pos h]
theorem lxr_step {r : Bool} {p : Nat} (h : p < n) : lxr b n r p = if b p = 10 then lxr b n false (p + 1) else if b p = 47 ∧ (if p + 1 < n then b (p + 1) else 0) = 47 then lxr b n true (p + 1) else if r = false ∧ ¬ b p = 32 ∧ ¬ b p = 9 ∧ ¬ b p = 13 then p else lxr b n r (p + 1) := by
  unfold lxr
  rw [lxs, if_neg (by omega), lxs_fuel n (n + 1) false (p + 1) (by omega) (by omega) (by omega), lxs_fuel n (n + 1) true (p + 1) (by omega) (by omega) (by omega), lxs_fuel n (n + 1) r (p + 1) (by omega) (by omega) (by omega)]
end LXS
end
section
section SPB
variable {G : mG} {d : Nat} {x : gd} {F : Int32 → gd → Prop} {Fv : gd → Prop}
theorem isL_ne {c : Int32} (h : isL c) : ¬ c = -1 := by
  intro e
  rw [e] at h
  exact absurd h (by decide)
theorem isD_ne {c : Int32} (h : isD c) : ¬ c = -1 := by
  intro e
  rw [e] at h
  exact absurd h (by decide)
/-- what a whole of n digits stays below -/
def g10 : Nat → Int
  | 0 => 1
  | n + 1 => 10 * g10 n
theorem g10_le : ∀ n : Nat, n < 9 → g10 n ≤ 100000000 := by decide
/-- a whole read so far: n digits, at most nine of them counted -/
def vW (n v : Int32) : Prop := 0 ≤ v.toInt ∧ (n.toInt < 9 → v.toInt < g10 n.toInt.toNat)
theorem vW_0 : vW 0 0 := ⟨by decide, fun _ => by decide⟩
theorem vW_keep {n v : Int32} (h0 : 0 ≤ n.toInt) (h9 : (9 : Int32) ≤ n) (e : (n + 1).toInt = n.toInt + 1) (h : vW n v) : vW (n + 1) v := by
  have k9 : (9 : Int32).toInt = 9 := rfl
  rw [t_le, k9] at h9
  exact ⟨h.1, fun q => by omega⟩
theorem vW_up {n v b : Int32} (h0 : 0 ≤ n.toInt) (h9 : ¬ (9 : Int32) ≤ n) (e : (n + 1).toInt = n.toInt + 1) (hb : isD b) (h : vW n v) : vW (n + 1) (10 * v + b - 48) := by
  have k9 : (9 : Int32).toInt = 9 := rfl
  have k10 : (10 : Int32).toInt = 10 := rfl
  have k48 : (48 : Int32).toInt = 48 := rfl
  have k57 : (57 : Int32).toInt = 57 := rfl
  rw [t_le, k9] at h9
  obtain ⟨b1, b2⟩ := hb
  rw [t_le] at b1 b2
  rw [k48] at b1
  rw [k57] at b2
  obtain ⟨v0, v1⟩ := h
  have v2 := v1 (by omega)
  have g := g10_le n.toInt.toNat (by omega)
  have e1 : (10 * v).toInt = 10 * v.toInt := by rw [t_mul (by rw [k10]; omega) (by rw [k10]; omega), k10]
  have e2 : (10 * v + b).toInt = 10 * v.toInt + b.toInt := by rw [t_add (by rw [e1]; omega) (by rw [e1]; omega), e1]
  have e3 : (10 * v + b - 48).toInt = 10 * v.toInt + b.toInt - 48 := by rw [t_sub (by rw [e2, k48]; omega) (by rw [e2, k48]; omega), e2, k48]
  have e4 : (n + 1).toInt.toNat = n.toInt.toNat + 1 := by omega
  refine ⟨by omega, fun _ => ?_⟩
  rw [e4, e3]
  show _ < 10 * g10 n.toInt.toNat
  omega
end SPB
end
section
/-! the model's tokens are those of the text -/
def tby (x : gd) (p : Nat) : Int32 := x.1 2 p &&& 255
def tln (x : gd) : Nat := (x.1 0 2).toNatClampNeg
theorem bAt_is {x : gd} {p : Int32} (h : 0 ≤ p.toInt) (hs : 0 ≤ (x.1 0 2).toInt) : bAt x p = cby1 (tby x) (tln x) p.toNatClampNeg := by
  unfold bAt cby1 tln tby
  have u1 := t_cl p
  have u2 := t_cl (x.1 0 2)
  by_cases c : x.1 0 2 ≤ p
  · rw [if_pos c, if_neg (by rw [t_le] at c; omega)]
  · rw [if_neg c, if_pos (by rw [t_le] at c; omega)]
theorem by_nn (v : Int32) : 0 ≤ (v &&& 255).toInt ∧ (v &&& 255).toInt < 256 := by
  have e : (v &&& 255).toBitVec = v.toBitVec &&& 255#32 := rfl
  have h : (v &&& 255).toBitVec.toNat < 256 := by
    rw [e, BitVec.toNat_and]
    exact Nat.lt_of_le_of_lt Nat.and_le_right (by decide)
  have e2 : (v &&& 255).toInt = ((v &&& 255).toBitVec.toNat : Int) := by
    show (v &&& 255).toBitVec.toInt = _
    rw [BitVec.toInt_eq_toNat_of_lt (by omega)]
  omega
theorem tby_ne {x : gd} {p : Nat} : ¬ tby x p = -1 := fun e => by
  have := (by_nn (x.1 2 p)).1
  unfold tby at e
  rw [e] at this
  exact absurd this (by decide)
theorem cby1_lt {b : Nat → Int32} {n p : Nat} (h : p < n) : cby1 b n p = b p := if_pos h
theorem cby1_no {b : Nat → Int32} {n p : Nat} (h : ¬ p < n) : cby1 b n p = -1 := if_neg h
theorem RUNq_ex {q : Int32 → Prop} {b : Nat → Int32} {n : Nat} : ∀ (k p : Nat), n - p ≤ k → p ≤ n → ∃ m, RUNq q b n p m := by
  intro k
  induction k with
  | zero => intro p h1 h2; exact ⟨0, by omega, fun i hi => absurd hi (Nat.not_lt_zero _), fun z => by omega⟩
  | succ k ih =>
    intro p h1 h2
    by_cases c : p < n ∧ q (b p)
    · obtain ⟨m, g1, g2, g3⟩ := ih (p + 1) (by omega) (by omega)
      refine ⟨m + 1, by omega, fun i hi => ?_, fun z => g3 ?_⟩
      · cases i with
        | zero => exact c.2
        | succ i => have := g2 i (by omega); rw [show p + (i + 1) = p + 1 + i by omega]; exact this
      · rw [show p + 1 + m = p + (m + 1) by omega]; exact z
    · exact ⟨0, by omega, fun i hi => absurd hi (Nat.not_lt_zero _), c⟩
theorem RUNq_ge {q : Int32 → Prop} {b : Nat → Int32} {n p m k : Nat} (h : RUNq q b n p m) (hk : p + k ≤ n) (g : ∀ i, i < k → q (b (p + i))) : k ≤ m := by
  by_cases c : m < k
  · exact absurd ⟨by omega, g m c⟩ h.2.2
  · omega
section SFB
variable {G : mG} {d : Nat} {x : gd} {F : Int32 → gd → Prop} {Fv : gd → Prop}
theorem sf_signOf (c e : Int32) (h : F (sgk c e) x) : MT G d z_signOf 0 [(0, vr 0), (1, vi c), (2, vi e)] [] x (ri F) := by
  have key : ∀ v : Int32, sgk c e = v → F v x := fun v q => by rw [← q]; exact h
  have a66 : ¬ (e = 61 ∧ (c = 61 ∨ c = 33 ∨ c = 60 ∨ c = 62)) → MT G d z_signOf 66 [(0, vr 0), (1, vi c)] [] x (ri F) := by
    intro no
    refine sg_signOf_66 _ ⟨fun q => ?_, fun q => ?_, fun q => ?_, fun q => ?_, fun q => ?_, fun q => ?_, fun q => ?_, fun q => ?_, fun q => ?_, fun q => ?_, fun q => ?_, fun q => ?_, fun q => ?_, fun q => ?_, fun q => ?_, fun q => ?_⟩
    case' refine_16 =>
      refine ri_i (key _ ?_)
      unfold sgk
      rw [if_neg no, if_neg (q 61 (by decide)), if_neg (q 60 (by decide)), if_neg (q 62 (by decide)), if_neg (q 43 (by decide)), if_neg (q 45 (by decide)), if_neg (q 42 (by decide)), if_neg (q 47 (by decide)), if_neg (q 40 (by decide)), if_neg (q 41 (by decide)), if_neg (q 123 (by decide)), if_neg (q 125 (by decide)), if_neg (q 91 (by decide)), if_neg (q 93 (by decide)), if_neg (q 59 (by decide)), if_neg (q 44 (by decide))]
    all_goals
      refine ri_i (key _ ?_)
      unfold sgk
      rw [if_neg no, q]
      rfl
  have a30 : e = 61 → (c = 61 ∨ c = 33 ∨ c = 60 ∨ c = 62) → MT G d z_signOf 30 [(0, vr 0), (1, vi c)] [] x (ri F) := by
    intro he hc
    have yes : e = 61 ∧ (c = 61 ∨ c = 33 ∨ c = 60 ∨ c = 62) := ⟨he, hc⟩
    refine sg_signOf_30 _ ⟨fun c1 => ⟨fun c2 => ⟨fun c3 => ri_i (key _ ?_), fun c3 => ri_i (key _ ?_)⟩, fun c2 => ri_i (key _ ?_)⟩, fun c1 => ri_i (key _ ?_)⟩
    · unfold sgk; rw [if_pos yes, if_neg c1, if_neg c2, if_neg c3]
    · unfold sgk; rw [if_pos yes, if_neg c1, if_neg c2, if_pos c3]
    · unfold sgk; rw [if_pos yes, if_neg c1, if_pos c2]
    · unfold sgk; rw [if_pos yes, if_pos c1]
  exact sg_signOf_0 _ _ ⟨fun c0 => a66 (fun z => c0 z.1), fun c0 => ⟨fun c1 => a30 c0 (Or.inl c1), fun c1 => ⟨fun c2 => a30 c0 (Or.inr (Or.inl c2)), fun c2 => ⟨fun c3 => a30 c0 (Or.inr (Or.inr (Or.inl c3))), fun c3 => ⟨fun c4 => a66 (fun z => z.2.elim c1 (fun z => z.elim c2 (fun z => z.elim c3 c4))), fun c4 => a30 c0 (Or.inr (Or.inr (Or.inr c4)))⟩⟩⟩⟩⟩
/-- the words in the model's list: where they begin -/
def wst (w : Nat) : Nat := ((wtab.take w).map (fun l => l.length + 1)).sum
theorem wst_up : ∀ w, w < 32 → wst (w + 1) = wst w + wln w + 1 := by decide +kernel
theorem wst_32 : wst 32 = 165 := by decide +kernel
theorem wst_le : ∀ w, w < 33 → wst w ≤ 165 := by decide +kernel
theorem wst_ch : ∀ w, w < 32 → ∀ i, i < wln w → cch 1 (wst w + i) = wch w i ∧ ¬ cch 1 (wst w + i) = 32 := by decide +kernel
theorem wst_sp : ∀ w, w < 32 → cch 1 (wst w + wln w) = 32 := by decide +kernel
theorem sf_wordOf (p n : Int32) (h0 : 0 ≤ p.toInt) (h1 : 0 ≤ n.toInt) (hs0 : 0 ≤ (x.1 0 2).toInt) (hs : (x.1 0 2).toInt ≤ 3000) (h2 : p.toInt + n.toInt ≤ (x.1 0 2).toInt) (h : ∀ r, (∃ w, w < 32 ∧ WD (tby x) p.toNatClampNeg n.toNatClampNeg w ∧ r = Int32.ofNat (10 + w)) ∨ (r = 1 ∧ ∀ w, w < 32 → ¬ WD (tby x) p.toNatClampNeg n.toNatClampNeg w) → F r x) : MT G (d + 7) z_wordOf 0 [(0, vr 0), (1, vi p), (2, vi n)] [] x (ri F) := by
  have k0 : (0 : Int32).toInt = 0 := rfl
  have k1 : (1 : Int32).toInt = 1 := rfl
  have k165 : (165 : Int32).toInt = 165 := rfl
  have up := t_cl p
  have un := t_cl n
  have ul : tln x = (x.1 0 2).toInt.toNat := rfl
  have p11 : ∀ (m w : Nat) (k i : Int32), w + m = 32 → k = Int32.ofNat (10 + w) → i.toInt = wst w → (∀ v, v < w → ¬ WD (tby x) p.toNatClampNeg n.toNatClampNeg v) → MT G (d + 7) z_wordOf 11 [(0, vr 0), (1, vi p), (2, vi n), (3, vr 901), (4, vi k), (5, vi i)] [] x (ri F) := by
    intro m
    induction m with
    | zero =>
      intro w k i hw ek hi no
      have hw : w = 32 := hw
      subst hw
      rw [wst_32] at hi
      exact sg_wordOf_11 _ _ _ _ ⟨fun _ => ri_i (h _ (Or.inr ⟨rfl, no⟩)), fun c => absurd (t_le.mpr (by rw [k165]; omega)) c⟩
    | succ m ih =>
      intro w k i hw ek hi no
      have w32 : w < 32 := by omega
      have wu := wst_up w w32
      have wl := wst_le (w + 1) (by omega)
      refine sg_wordOf_11 _ _ _ _ ⟨fun c => ?_, fun c => ?_⟩
      · rw [t_le, k165] at c; omega
      have p24 : ∀ (m2 : Nat) (j : Int32), wst w ≤ j.toInt → j.toInt + m2 = wst w + wln w → MT G (d + 7) z_wordOf 24 [(0, vr 0), (1, vi p), (2, vi n), (3, vr 901), (4, vi k), (5, vi i), (6, vi j)] [] x (ri F) := by
        intro m2
        induction m2 with
        | zero =>
          intro j j0 j1
          have j1 : j.toInt = wst w + wln w := by omega
          have cj : j.toNatClampNeg = wst w + wln w := by rw [t_cl]; omega
          have jj : (j + 1).toInt = j.toInt + 1 := by rw [t_add (by omega) (by omega), k1]
          have ji : (j - i).toInt = wln w := by rw [t_sub (by omega) (by omega)]; omega
          have ek1 : k + 1 = Int32.ofNat (10 + (w + 1)) := by
            rw [ek, t_eq]
            have e1 : (Int32.ofNat (10 + w)).toInt = ((10 + w : Nat) : Int) := Int32.toInt_ofNat_of_lt (by omega)
            have e2 : (Int32.ofNat (10 + (w + 1))).toInt = ((10 + (w + 1) : Nat) : Int) := Int32.toInt_ofNat_of_lt (by omega)
            rw [t_add (by omega) (by omega), e1, e2, k1]
            omega
          have p104 : ∀ s : Int32, (¬ s = 0 → WD (tby x) p.toNatClampNeg n.toNatClampNeg w) → (s = 0 → ¬ WD (tby x) p.toNatClampNeg n.toNatClampNeg w) → MT G (d + 7) z_wordOf 104 [(0, vr 0), (1, vi p), (2, vi n), (3, vr 901), (4, vi k), (6, vi j), (7, vi s)] [] x (ri F) := fun s s1 s0 => sg_wordOf_104 _ _ _ _ _ ⟨fun c => ih (w + 1) (k + 1) (j + 1) (by omega) ek1 (by omega) (fun v hv => by
            by_cases cv : v = w
            · rw [cv]; exact s0 c
            · exact no v (by omega)), fun c => ri_i (h _ (Or.inl ⟨w, w32, s1 c, ek⟩))⟩
          have p60 : ∀ (m3 : Nat) (s q : Int32), 0 ≤ q.toInt → q.toInt ≤ n.toInt → n.toInt - q.toInt ≤ m3 → (¬ s = 0 ↔ wln w = n.toNatClampNeg ∧ ∀ t, t < q.toNatClampNeg → tby x (p.toNatClampNeg + t) = wch w t) → MT G (d + 7) z_wordOf 60 [(0, vr 0), (1, vi p), (2, vi n), (3, vr 901), (4, vi k), (5, vi i), (6, vi j), (7, vi s), (8, vi q)] [] x (ri F) := by
            have stop : ∀ (s q : Int32), q.toInt ≤ n.toInt → (n.toInt ≤ q.toInt ∨ s = 0) → (¬ s = 0 ↔ wln w = n.toNatClampNeg ∧ ∀ t, t < q.toNatClampNeg → tby x (p.toNatClampNeg + t) = wch w t) → MT G (d + 7) z_wordOf 104 [(0, vr 0), (1, vi p), (2, vi n), (3, vr 901), (4, vi k), (6, vi j), (7, vi s)] [] x (ri F) := by
              intro s q q1 hq hs'
              have uq := t_cl q
              refine p104 s (fun c => ?_) (fun c z => ?_)
              · have a := hs'.mp c
                have b := hq.resolve_right c
                exact ⟨a.1, fun t ht => a.2 t (by omega)⟩
              · exact hs'.mpr ⟨z.1, fun t ht => z.2 t (by omega)⟩ c
            intro m3
            induction m3 with
            | zero =>
              intro s q q0 q1 hm3 hs'
              exact sg_wordOf_60 _ _ _ _ _ _ _ ⟨fun c => stop s q q1 (Or.inl (t_le.mp c)) hs', fun c => absurd (t_le.mpr (by omega)) c⟩
            | succ m3 ih3 =>
              intro s q q0 q1 hm3 hs'
              refine sg_wordOf_60 _ _ _ _ _ _ _ ⟨fun c => stop s q q1 (Or.inl (t_le.mp c)) hs', fun c2 => ⟨fun c => stop s q q1 (Or.inr c) hs', fun ns => ?_⟩⟩
              rw [t_le] at c2
              have e := (hs'.mp ns).1
              have uq := t_cl q
              have qq : (q + 1).toInt = q.toInt + 1 := by rw [t_add (by omega) (by omega), k1]
              have qq2 : (q + 1).toNatClampNeg = q.toNatClampNeg + 1 := by rw [t_cl]; omega
              have pq : (p + q).toInt = p.toInt + q.toInt := t_add (by omega) (by omega)
              have pq2 : (p + q).toNatClampNeg = p.toNatClampNeg + q.toNatClampNeg := by rw [t_cl]; omega
              have iq : (i + q).toInt = i.toInt + q.toInt := t_add (by omega) (by omega)
              have iq2 : (i + q).toNatClampNeg = wst w + q.toNatClampNeg := by rw [t_cl]; omega
              have ch := (wst_ch w w32 q.toNatClampNeg (by omega)).1
              refine sp_byteAt _ (by omega) hs ?_
              rw [bAt_is (by omega) hs0, pq2, cby1_lt (by omega), iq2, ch]
              refine ⟨by rw [vp_in_iff]; omega, fun c3 => ih3 0 (q + 1) (by omega) (by omega) (by omega) ⟨fun z => absurd rfl z, fun z => ?_⟩, fun c3 => ih3 1 (q + 1) (by omega) (by omega) (by omega) ⟨fun _ => ⟨e, fun t ht => ?_⟩, fun _ => by decide⟩⟩
              · exact absurd (z.2 q.toNatClampNeg (by omega)) c3
              · by_cases ct : t = q.toNatClampNeg
                · rw [ct]; exact c3
                · exact (hs'.mp ns).2 t (by omega)
          refine sg_wordOf_24 _ _ _ _ _ ⟨by rw [vp_in_iff]; omega, fun _ => ⟨fun c3 => p60 n.toInt.toNat 0 0 (by decide) (by rw [k0]; omega) (by rw [k0]; omega) ⟨fun z => absurd rfl z, fun z => ?_⟩, fun c3 => p60 n.toInt.toNat 1 0 (by decide) (by rw [k0]; omega) (by rw [k0]; omega) ⟨fun _ => ⟨?_, fun t ht => ?_⟩, fun _ => by decide⟩⟩, fun z => absurd ?_ z⟩
          · exact absurd (t_eq.mpr (by omega)) c3
          · have e9 := t_eq.mp c3
            omega
          · have : (0 : Int32).toNatClampNeg = 0 := rfl
            omega
          · rw [cj]; exact wst_sp w w32
        | succ m2 ih2 =>
          intro j j0 j1
          have cj : j.toNatClampNeg = wst w + (j.toNatClampNeg - wst w) := by rw [t_cl]; omega
          have uj := t_cl j
          have nc := (wst_ch w w32 (j.toNatClampNeg - wst w) (by omega)).2
          rw [← cj] at nc
          have jj : (j + 1).toInt = j.toInt + 1 := by rw [t_add (by omega) (by omega), k1]
          exact sg_wordOf_24 _ _ _ _ _ ⟨by rw [vp_in_iff]; omega, fun z => absurd z nc, fun _ => ih2 (j + 1) (by omega) (by omega)⟩
      exact p24 (wln w) i (by omega) (by omega)
  exact sg_wordOf_0 _ _ (p11 32 0 10 0 rfl rfl rfl (fun v hv => absurd hv (Nat.not_lt_zero _)))
/-- one token more -/
theorem sf_put (w p n v : Int32) (ht : TK x) (hi : vp_in (x.1 0 3) 710) (h0 : 0 ≤ p.toInt) (h1 : 0 ≤ n.toInt) (h2 : p.toInt + n.toInt ≤ 3000) (h3 : 0 ≤ v.toInt) (h : ∀ x', TK x' → md [3] [5, 6, 7, 8] x x' → x'.1 0 3 = x.1 0 3 + 1 → (∀ j, x'.1 5 j = if j = (x.1 0 3).toNatClampNeg then w else x.1 5 j) → (∀ j, x'.1 6 j = if j = (x.1 0 3).toNatClampNeg then p else x.1 6 j) → (∀ j, x'.1 8 j = if j = (x.1 0 3).toNatClampNeg then n else x.1 8 j) → (∀ j, x'.1 7 j = if j = (x.1 0 3).toNatClampNeg then v else x.1 7 j) → Fv x') : MT G d z_put 0 [(0, vr 0), (1, vi w), (2, vi p), (3, vi n), (4, vi v)] [] x (rv Fv) := by
  refine sg_put_0 _ _ _ _ ⟨hi, ?_⟩
  intro x2 e2
  have f2 : x2.1 0 3 = x.1 0 3 := by rw [e2, si_cell (by decide)]
  refine ⟨by rw [f2]; exact hi, ?_⟩
  intro x4 e4
  have f4 : x4.1 0 3 = x.1 0 3 := by rw [e4, si_cell (by decide), f2]
  refine ⟨by rw [f4]; exact hi, ?_⟩
  intro x6 e6
  have f6 : x6.1 0 3 = x.1 0 3 := by rw [e6, si_cell (by decide), f4]
  refine ⟨by rw [f6]; exact hi, ?_⟩
  intro x8 e8
  have f8 : x8.1 0 3 = x.1 0 3 := by rw [e8, si_cell (by decide), f6]
  intro x9 e9
  have m2 := md_a x 5 (x.1 0 3).toNatClampNeg w (by decide)
  rw [← e2] at m2
  have m4 := md_a x2 6 (x2.1 0 3).toNatClampNeg p (by decide)
  rw [← e4] at m4
  have m6 := md_a x4 8 (x4.1 0 3).toNatClampNeg n (by decide)
  rw [← e6] at m6
  have m8 := md_a x6 7 (x6.1 0 3).toNatClampNeg v (by decide)
  rw [← e8] at m8
  have m9 := md_f x8 3 (x8.1 0 3 + 1)
  rw [← e9] at m9
  have mm : md [3] [5, 6, 7, 8] x x9 := md_tr (md_tr (md_tr (md_tr m2 m4 (L3 := []) (A3 := [5, 6]) rfl rfl) m6 (L3 := []) (A3 := [5, 6, 8]) rfl rfl) m8 (L3 := []) (A3 := [5, 6, 8, 7]) rfl rfl) m9 rfl rfl
  have g5 : ∀ j, x9.1 5 j = if j = (x.1 0 3).toNatClampNeg then w else x.1 5 j := fun j => by
    rw [e9, si_cell (by decide), e8, si_cell (by decide), e6, si_cell (by decide), e4, si_cell (by decide), e2, si_get]
    by_cases q : j = (x.1 0 3).toNatClampNeg
    · rw [if_pos ⟨rfl, q⟩, if_pos q]
    · rw [if_neg (fun z => q z.2), if_neg q]
  have g6 : ∀ j, x9.1 6 j = if j = (x.1 0 3).toNatClampNeg then p else x.1 6 j := fun j => by
    rw [e9, si_cell (by decide), e8, si_cell (by decide), e6, si_cell (by decide), e4, si_get, f2]
    by_cases q : j = (x.1 0 3).toNatClampNeg
    · rw [if_pos ⟨rfl, q⟩, if_pos q]
    · rw [if_neg (fun z => q z.2), if_neg q, e2, si_cell (by decide)]
  have g8 : ∀ j, x9.1 8 j = if j = (x.1 0 3).toNatClampNeg then n else x.1 8 j := fun j => by
    rw [e9, si_cell (by decide), e8, si_cell (by decide), e6, si_get, f4]
    by_cases q : j = (x.1 0 3).toNatClampNeg
    · rw [if_pos ⟨rfl, q⟩, if_pos q]
    · rw [if_neg (fun z => q z.2), if_neg q, e4, si_cell (by decide), e2, si_cell (by decide)]
  have g7 : ∀ j, x9.1 7 j = if j = (x.1 0 3).toNatClampNeg then v else x.1 7 j := fun j => by
    rw [e9, si_cell (by decide), e8, si_get, f6]
    by_cases q : j = (x.1 0 3).toNatClampNeg
    · rw [if_pos ⟨rfl, q⟩, if_pos q]
    · rw [if_neg (fun z => q z.2), if_neg q, e6, si_cell (by decide), e4, si_cell (by decide), e2, si_cell (by decide)]
  refine rv_i (h x9 ?_ mm ?_ g5 g6 g8 g7)
  · intro j hj
    rw [g6, g7, g8]
    by_cases q : j = (x.1 0 3).toNatClampNeg
    · rw [if_pos q, if_pos q, if_pos q]; exact ⟨h0, h1, h2, h3⟩
    · rw [if_neg q, if_neg q, if_neg q]; exact ht j hj
  · rw [e9, si_get, if_pos ⟨rfl, rfl⟩, f8]
end SFB
/-- the tokens read so far: c of them, all good; the next one from p on -/
def TC (b : Nat → Int32) (n c p : Nat) (K : Nat → Int32) (P Z : Nat → Nat) (V : Nat → Int32) : Prop := (c = 0 → p = 0) ∧ (0 < c → P 0 = lx b n 0 ∧ p = P (c - 1) + Z (c - 1)) ∧ (∀ j, j + 1 < c → P (j + 1) = lx b n (P j + Z j)) ∧ ∀ j, j < c → TOK b n (P j) (K j) (Z j) (V j) ∧ ¬ K j = 0 ∧ ¬ K j = 3
abbrev tP (x : gd) : Nat → Nat := fun j => (x.1 6 j).toNatClampNeg
abbrev tZ (x : gd) : Nat → Nat := fun j => (x.1 8 j).toNatClampNeg
theorem TC_up {b : Nat → Int32} {n c p q m : Nat} {k v : Int32} {K K' V V' : Nat → Int32} {P P' Z Z' : Nat → Nat} (h : TC b n c p K P Z V) (hK : ∀ j, K' j = if j = c then k else K j) (hP : ∀ j, P' j = if j = c then q else P j) (hZ : ∀ j, Z' j = if j = c then m else Z j) (hV : ∀ j, V' j = if j = c then v else V j) (hq : q = lx b n p) (ht : TOK b n q k m v) : (∀ j, j < c → TOK b n (P' j) (K' j) (Z' j) (V' j) ∧ ¬ K' j = 0 ∧ ¬ K' j = 3) ∧ P' 0 = lx b n 0 ∧ (∀ j, j < c → P' (j + 1) = lx b n (P' j + Z' j)) ∧ TOK b n (P' c) (K' c) (Z' c) (V' c) ∧ P' c = q ∧ Z' c = m ∧ K' c = k := by
  obtain ⟨h1, h2, h3, h4⟩ := h
  have lo : ∀ j, j < c → P' j = P j ∧ K' j = K j ∧ Z' j = Z j ∧ V' j = V j := fun j hj => by
    have ne : ¬ j = c := by omega
    rw [hK, hP, hZ, hV, if_neg ne, if_neg ne, if_neg ne, if_neg ne]
    exact ⟨rfl, rfl, rfl, rfl⟩
  have eP : P' c = q := by rw [hP, if_pos rfl]
  refine ⟨fun j hj => ?_, ?_, fun j hj => ?_, ?_, eP, by rw [hZ, if_pos rfl], by rw [hK, if_pos rfl]⟩
  · obtain ⟨a1, a2, a3, a4⟩ := lo j hj
    rw [a1, a2, a3, a4]
    exact h4 j hj
  · by_cases c0 : c = 0
    · rw [c0] at eP
      rw [eP, hq, h1 c0]
    · rw [(lo 0 (by omega)).1]
      exact (h2 (by omega)).1
  · obtain ⟨a1, a2, a3, a4⟩ := lo j hj
    by_cases cj : j + 1 = c
    · rw [cj, eP, hq, (h2 (by omega)).2, a1, a3, show c - 1 = j by omega]
    · rw [(lo (j + 1) (by omega)).1, a1, a3]
      exact h3 j (by omega)
  · rw [hP, hK, hZ, hV, if_pos rfl, if_pos rfl, if_pos rfl, if_pos rfl]
    exact ht
end
section
/-- readTokens: the tokens are those of the text -/
theorem sf_readTokens {G : mG} {d : Nat} {x : gd} {Fv : gd → Prop} (ht : TK x) (hs0 : 0 ≤ (x.1 0 2).toInt) (hs : (x.1 0 2).toInt ≤ 3000) (h : ∀ x', TK x' → md [3] [5, 6, 7, 8] x x' → (∃ e, TSq (tby x) (tln x) e (x'.1 5) (tP x') (tZ x') (x'.1 7)) → Fv x') : MT G (d + 8) z_readTokens 0 [(0, vr 0)] [] x (rv Fv) := by
  obtain ⟨b, eb⟩ : ∃ b, b = tby x := ⟨_, rfl⟩
  obtain ⟨N, eN⟩ : ∃ N, N = tln x := ⟨_, rfl⟩
  rw [← eb, ← eN] at h
  have uN : (N : Int) = (x.1 0 2).toInt := by rw [eN]; show (((x.1 0 2).toNatClampNeg : Nat) : Int) = _; rw [t_cl]; omega
  have k0 : (0 : Int32).toInt = 0 := rfl
  have k1 : (1 : Int32).toInt = 1 := rfl
  have k2 : (2 : Int32).toInt = 2 := rfl
  have k9 : (9 : Int32).toInt = 9 := rfl
  have k12 : (12 : Int32).toInt = 12 := rfl
  have k700 : (700 : Int32).toInt = 700 := rfl
  have zb : ∀ {z : gd}, md [3] [5, 6, 7, 8] x z → tby z = b ∧ tln z = N ∧ z.1 0 2 = x.1 0 2 := fun m => by
    have e2 := m.1 2 (by decide)
    have a2 := m.2.1 2 (by decide) (by decide)
    refine ⟨?_, ?_, e2⟩
    · rw [eb]; funext p; unfold tby; rw [a2]
    · rw [eN]; unfold tln; rw [e2]
  have loop : ∀ (n : Nat) (z : gd) (p : Int32) (c : Nat), TK z → md [3] [5, 6, 7, 8] x z → (z.1 0 3).toInt = c → 701 - (c : Int) ≤ n → c ≤ 701 → 0 ≤ p.toInt → p.toInt ≤ (z.1 0 2).toInt → TC b N c p.toNatClampNeg (z.1 5) (tP z) (tZ z) (z.1 7) → MT G (d + 8) z_readTokens 7 [(0, vr 0), (1, vi p)] [] z (rv Fv) := by
    intro n
    have done : ∀ (z : gd) (p : Int32) (c : Nat), TK z → md [3] [5, 6, 7, 8] x z → c = 701 → TC b N c p.toNatClampNeg (z.1 5) (tP z) (tZ z) (z.1 7) → rv Fv none z := by
      intro z p c tz mz hc tc
      obtain ⟨t1, t2, t3, t4⟩ := tc
      subst hc
      exact rv_i (h z tz mz ⟨700, Nat.le_refl _, (t2 (by omega)).1, fun j hj => t3 j (by omega), fun j hj => (t4 j (by omega)).1, fun j hj => (t4 j (by omega)).2, Or.inr (Or.inr rfl)⟩)
    induction n with
    | zero =>
      intro z p c tz mz hc hn c7 hp hps tc
      refine sg_readTokens_7 _ ⟨fun _ => done z p c tz mz (by omega) tc, fun q => ?_⟩
      rw [t_lt] at q
      omega
    | succ n ih =>
      intro z p0 c tz mz hc hn c7 hp hps tc
      obtain ⟨b1, b2, e2⟩ := zb mz
      have zs : (z.1 0 2).toInt ≤ 3000 := by rw [e2]; exact hs
      have zs0 : 0 ≤ (z.1 0 2).toInt := by rw [e2]; exact hs0
      have uz : (N : Int) = (z.1 0 2).toInt := by rw [e2]; exact uN
      have bt : ∀ q : Int32, 0 ≤ q.toInt → bAt z q = cby1 b N q.toNatClampNeg := fun q hq => by rw [bAt_is hq zs0, b1, b2]
      refine sg_readTokens_7 _ ⟨fun q => done z p0 c tz mz (by rw [t_lt] at q; omega) tc, fun q7 => ?_⟩
      rw [t_lt] at q7
      have hi : vp_in (z.1 0 3) 710 := by rw [vp_in_iff]; omega
      have cc : (z.1 0 3).toNatClampNeg = c := by rw [t_cl]; omega
      have c350 : ∀ (p n v w : Int32), 0 ≤ p.toInt → 0 ≤ n.toInt → p.toInt + n.toInt ≤ (z.1 0 2).toInt → 0 ≤ v.toInt → p.toNatClampNeg = lx b N p0.toNatClampNeg → TOK b N p.toNatClampNeg w n.toNatClampNeg v → MT G (d + 8) z_readTokens 350 [(0, vr 0), (1, vi p), (4, vi n), (5, vi v), (6, vi w)] [] z (rv Fv) := by
        intro p n v w q0 q1 q2 qv hlx htk
        refine sg_readTokens_350 _ _ _ _ (sf_put _ _ _ _ tz hi q0 q1 (by omega) qv (fun x1 t1 m1 e1 f5 f6 f8 f7 => ?_))
        rw [cc] at f5 f6 f8 f7
        have m2 : md [3] [5, 6, 7, 8] x x1 := md_tr mz m1 rfl rfl
        have tu := TC_up (K' := x1.1 5) (P' := tP x1) (Z' := tZ x1) (V' := x1.1 7) (q := p.toNatClampNeg) (m := n.toNatClampNeg) tc f5 (fun j => by show (x1.1 6 j).toNatClampNeg = if j = c then _ else (z.1 6 j).toNatClampNeg; rw [f6]; split <;> rfl) (fun j => by show (x1.1 8 j).toNatClampNeg = if j = c then _ else (z.1 8 j).toNatClampNeg; rw [f8]; split <;> rfl) f7 hlx htk
        obtain ⟨u1, u2, u3, u4, u5, u6, u7⟩ := tu
        have fin : (w = 0 ∨ w = 3) → rv Fv none x1 := fun q => rv_i (h x1 t1 m2 ⟨c, by omega, u2, u3, fun j hj => by
          by_cases cj : j = c
          · rw [cj]; exact u4
          · exact (u1 j (by omega)).1, fun j hj => (u1 j hj).2, by rw [u7]; exact q.elim Or.inl (fun q => Or.inr (Or.inl q))⟩)
        refine ⟨fun q => fin (Or.inl q), fun q => ⟨fun q3 => ?_, fun q3 => fin (Or.inr q3)⟩⟩
        have e3 : (x1.1 0 3).toInt = (z.1 0 3).toInt + 1 := by rw [e1]; exact t_add (by show _ ≤ _ + (1 : Int); omega) (by show _ + (1 : Int) ≤ _; omega)
        have e4 : x1.1 0 2 = z.1 0 2 := m1.1 2 (by decide)
        have e5 : (p + n).toInt = p.toInt + n.toInt := t_add (by omega) (by omega)
        have e6 : (p + n).toNatClampNeg = p.toNatClampNeg + n.toNatClampNeg := by rw [t_cl, t_cl, t_cl]; omega
        refine ih x1 _ (c + 1) t1 m2 (by omega) (by omega) (by omega) (by omega) (by rw [e4]; omega) ⟨fun z => by omega, fun _ => ⟨u2, by rw [e6]; show _ = tP x1 (c + 1 - 1) + tZ x1 (c + 1 - 1); rw [Nat.add_sub_cancel, u5, u6]⟩, fun j hj => u3 j (by omega), fun j hj => ?_⟩
        by_cases cj : j = c
        · rw [cj]
          exact ⟨u4, by rw [u7]; exact q, by rw [u7]; exact q3⟩
        · exact u1 j (by omega)
      -- letters and digits
      have c140 : ∀ (k : Nat) (p n : Int32), 0 ≤ p.toInt → 0 ≤ n.toInt → p.toInt + n.toInt ≤ (z.1 0 2).toInt → (z.1 0 2).toInt - (p.toInt + n.toInt) ≤ k → p.toNatClampNeg = lx b N p0.toNatClampNeg → p.toInt < (z.1 0 2).toInt → isL (b p.toNatClampNeg) → (∀ i, i < n.toNatClampNeg → isLD (b (p.toNatClampNeg + i))) → MT G (d + 8) z_readTokens 140 [(0, vr 0), (1, vi p), (4, vi n), (5, vi 0)] [] z (rv Fv) := by
        intro k
        have stop : ∀ (p n : Int32), 0 ≤ p.toInt → 0 ≤ n.toInt → p.toInt + n.toInt ≤ (z.1 0 2).toInt → p.toNatClampNeg = lx b N p0.toNatClampNeg → p.toInt < (z.1 0 2).toInt → isL (b p.toNatClampNeg) → (∀ i, i < n.toNatClampNeg → isLD (b (p.toNatClampNeg + i))) → ¬ isLD (cby1 b N (p.toNatClampNeg + n.toNatClampNeg)) → MT G (d + 7) z_wordOf 0 [(0, vr 0), (1, vi p), (2, vi n)] [] z (ri (fun r12 x11 => ((¬ (r12 = (1 : Int32)) → MT G (d + 8) z_readTokens 350 [(0, vr 0), (1, vi p), (4, vi n), (5, vi 0), (6, vi r12)] [] x11 (rv Fv)) ∧ (r12 = (1 : Int32) → ((n ≤ (12 : Int32) → MT G (d + 8) z_readTokens 350 [(0, vr 0), (1, vi p), (4, vi n), (5, vi 0), (6, vi r12)] [] x11 (rv Fv)) ∧ (¬ (n ≤ (12 : Int32)) → MT G (d + 8) z_readTokens 350 [(0, vr 0), (1, vi p), (4, vi n), (5, vi 0), (6, vi 3)] [] x11 (rv Fv))))))) := by
          intro p n q0 q1 q2 hlx hpl hl hr hno
          have up := t_cl p
          have un := t_cl n
          have run : RUNq isLD b N p.toNatClampNeg n.toNatClampNeg := ⟨by omega, hr, fun q => hno (by rw [cby1_lt q.1]; exact q.2)⟩
          refine sf_wordOf p n q0 q1 zs0 zs q2 (fun r hr2 => ?_)
          rw [b1] at hr2
          rcases hr2 with ⟨w, hw, hd, er⟩ | ⟨er, hd⟩
          · have n1 : ¬ r = 1 := fun q => by
              rw [er] at q
              have := ofN_inj (b := 1) (by omega) (by omega) q
              omega
            exact ⟨fun _ => c350 _ _ _ _ q0 q1 q2 (by decide) hlx (Or.inr (Or.inl ⟨by omega, hl, run, Or.inl ⟨w, hw, hd, er⟩⟩)), fun q => absurd q n1⟩
          · refine ⟨fun q => absurd er q, fun _ => ⟨fun q => c350 _ _ _ _ q0 q1 q2 (by decide) hlx (Or.inr (Or.inl ⟨by omega, hl, run, Or.inr ⟨hd, Or.inl ⟨?_, er⟩⟩⟩)), fun q => c350 _ _ _ _ q0 q1 q2 (by decide) hlx (Or.inr (Or.inl ⟨by omega, hl, run, Or.inr ⟨hd, Or.inr ⟨?_, rfl⟩⟩⟩))⟩⟩
            · rw [t_le, k12] at q; omega
            · rw [t_le, k12] at q; omega
        induction k with
        | zero =>
          intro p n q0 q1 q2 q3 hlx hpl hl hr
          have up := t_cl p
          have un := t_cl n
          have e5 : (p + n).toInt = p.toInt + n.toInt := t_add (by omega) (by omega)
          have e6 : (p + n).toNatClampNeg = p.toNatClampNeg + n.toNatClampNeg := by rw [t_cl]; omega
          have no : cby1 b N (p.toNatClampNeg + n.toNatClampNeg) = -1 := cby1_no (by omega)
          have hno : ¬ isLD (cby1 b N (p.toNatClampNeg + n.toNatClampNeg)) := by rw [no]; decide
          have bp := bt (p + n) (by omega)
          rw [e6] at bp
          refine sg_readTokens_140 _ _ _ (sp_byteAt _ (by omega) zs (sp_isLetter _ ⟨fun c1 => ?_, fun c1 => sp_byteAt _ (by omega) zs (sp_isDigit _ ⟨fun c2 => stop p n q0 q1 q2 hlx hpl hl hr hno, fun c2 => ?_⟩)⟩))
          · rw [bp] at c1
            exact absurd (Or.inl (bi_ne.mp c1)) hno
          · rw [bp] at c2
            exact absurd (Or.inr (bi_ne.mp c2)) hno
        | succ k ih2 =>
          intro p n q0 q1 q2 q3 hlx hpl hl hr
          have up := t_cl p
          have un := t_cl n
          have e5 : (p + n).toInt = p.toInt + n.toInt := t_add (by omega) (by omega)
          have e6 : (p + n).toNatClampNeg = p.toNatClampNeg + n.toNatClampNeg := by rw [t_cl]; omega
          have bp := bt (p + n) (by omega)
          rw [e6] at bp
          have go : isLD (cby1 b N (p.toNatClampNeg + n.toNatClampNeg)) → MT G (d + 8) z_readTokens 140 [(0, vr 0), (1, vi p), (4, vi (n + 1)), (5, vi 0)] [] z (rv Fv) := by
            intro q
            have q4 : p.toNatClampNeg + n.toNatClampNeg < N := by
              by_cases cq : p.toNatClampNeg + n.toNatClampNeg < N
              · exact cq
              · rw [cby1_no cq] at q; exact absurd q (by decide)
            rw [cby1_lt q4] at q
            have e7 : (n + 1).toInt = n.toInt + 1 := t_add (by show _ ≤ _ + (1 : Int); omega) (by show _ + (1 : Int) ≤ _; omega)
            have e8 : (n + 1).toNatClampNeg = n.toNatClampNeg + 1 := by rw [t_cl]; omega
            refine ih2 _ _ q0 (by omega) (by omega) (by omega) hlx hpl hl (fun i hi => ?_)
            rw [e8] at hi
            by_cases ci : i = n.toNatClampNeg
            · rw [ci]; exact q
            · exact hr i (by omega)
          refine sg_readTokens_140 _ _ _ (sp_byteAt _ (by omega) zs (sp_isLetter _ ⟨fun c1 => go ?_, fun c1 => sp_byteAt _ (by omega) zs (sp_isDigit _ ⟨fun c2 => stop p n q0 q1 q2 hlx hpl hl hr ?_, fun c2 => go ?_⟩)⟩))
          · rw [bp] at c1; exact Or.inl (bi_ne.mp c1)
          · rw [bp] at c1 c2; exact fun z => z.elim (bi_eq.mp c1) (bi_eq.mp c2)
          · rw [bp] at c2; exact Or.inr (bi_ne.mp c2)
      -- digits
      have c214 : ∀ (k : Nat) (p n v : Int32), 0 ≤ p.toInt → 0 ≤ n.toInt → p.toInt + n.toInt ≤ (z.1 0 2).toInt → (z.1 0 2).toInt - (p.toInt + n.toInt) ≤ k → vW n v → p.toNatClampNeg = lx b N p0.toNatClampNeg → p.toInt < (z.1 0 2).toInt → isD (b p.toNatClampNeg) → (∀ i, i < n.toNatClampNeg → isD (b (p.toNatClampNeg + i))) → (n.toNatClampNeg ≤ 9 → v = whv b p.toNatClampNeg n.toNatClampNeg) → MT G (d + 8) z_readTokens 214 [(0, vr 0), (1, vi p), (4, vi n), (5, vi v)] [] z (rv Fv) := by
        intro k
        have stop : ∀ (p n v : Int32), 0 ≤ p.toInt → 0 ≤ n.toInt → p.toInt + n.toInt ≤ (z.1 0 2).toInt → vW n v → p.toNatClampNeg = lx b N p0.toNatClampNeg → p.toInt < (z.1 0 2).toInt → isD (b p.toNatClampNeg) → (∀ i, i < n.toNatClampNeg → isD (b (p.toNatClampNeg + i))) → (n.toNatClampNeg ≤ 9 → v = whv b p.toNatClampNeg n.toNatClampNeg) → ¬ isD (cby1 b N (p.toNatClampNeg + n.toNatClampNeg)) → (((9 : Int32) < n → MT G (d + 8) z_readTokens 350 [(0, vr 0), (1, vi p), (4, vi n), (5, vi v), (6, vi 3)] [] z (rv Fv)) ∧ (¬ ((9 : Int32) < n) → MT G (d + 7) z_byteAt 0 [(0, vr 0), (1, vi (p + n))] [] z (ri (fun r8 x7 => MT G (d + 7) z_isLetter 0 [(0, vi r8)] [] x7 (ri (fun r10 x9 => ((r10 = (0 : Int32) → MT G (d + 8) z_readTokens 350 [(0, vr 0), (1, vi p), (4, vi n), (5, vi v), (6, vi 2)] [] x9 (rv Fv)) ∧ (¬ (r10 = (0 : Int32)) → MT G (d + 8) z_readTokens 350 [(0, vr 0), (1, vi p), (4, vi n), (5, vi v), (6, vi 3)] [] x9 (rv Fv))))))))) := by
          intro p n v q0 q1 q2 qv hlx hpl hd hr hv hno
          have up := t_cl p
          have un := t_cl n
          have e5 : (p + n).toInt = p.toInt + n.toInt := t_add (by omega) (by omega)
          have e6 : (p + n).toNatClampNeg = p.toNatClampNeg + n.toNatClampNeg := by rw [t_cl]; omega
          have bp := bt (p + n) (by omega)
          rw [e6] at bp
          obtain ⟨q, hq⟩ : ∃ q, RUNq isLD b N p.toNatClampNeg q := RUNq_ex (N - p.toNatClampNeg) _ (Nat.le_refl _) (by omega)
          have hqn : n.toNatClampNeg ≤ q := RUNq_ge hq (by omega) (fun i hi => Or.inr (hr i hi))
          refine ⟨fun c9 => c350 _ _ _ _ q0 q1 q2 qv.1 hlx (Or.inr (Or.inr (Or.inl ⟨by omega, hd, Or.inr ⟨rfl, q, hq, Or.inl ?_⟩⟩))), fun c9 => sp_byteAt _ (by omega) zs (sp_isLetter _ ⟨fun c1 => c350 _ _ _ _ q0 q1 q2 qv.1 hlx (Or.inr (Or.inr (Or.inl ⟨by omega, hd, Or.inl ⟨rfl, ⟨by omega, fun i hi => Or.inr (hr i hi), fun z => ?_⟩, ?_, hr, hv ?_⟩⟩))), fun c1 => c350 _ _ _ _ q0 q1 q2 qv.1 hlx (Or.inr (Or.inr (Or.inl ⟨by omega, hd, Or.inr ⟨rfl, q, hq, Or.inr ⟨n.toNatClampNeg, ?_, ?_⟩⟩⟩)))⟩)⟩
          · rw [t_lt, k9] at c9; omega
          · rw [bp, cby1_lt z.1] at c1
            rw [cby1_lt z.1] at hno
            exact z.2.elim (bi_eq.mp c1) hno
          · rw [t_lt, k9] at c9; omega
          · rw [t_lt, k9] at c9; omega
          · have l1 := bi_ne.mp c1
            rw [bp] at l1
            have q4 : p.toNatClampNeg + n.toNatClampNeg < N := by
              by_cases cq : p.toNatClampNeg + n.toNatClampNeg < N
              · exact cq
              · rw [cby1_no cq] at l1; exact absurd l1 (by decide)
            rw [cby1_lt q4] at l1
            have := RUNq_ge hq (k := n.toNatClampNeg + 1) (by omega) (fun i hi => by
              by_cases ci : i = n.toNatClampNeg
              · rw [ci]; exact Or.inl l1
              · exact Or.inr (hr i (by omega)))
            omega
          · have l1 := bi_ne.mp c1
            rw [bp] at l1
            have q4 : p.toNatClampNeg + n.toNatClampNeg < N := by
              by_cases cq : p.toNatClampNeg + n.toNatClampNeg < N
              · exact cq
              · rw [cby1_no cq] at l1; exact absurd l1 (by decide)
            rw [cby1_lt q4] at hno
            exact hno
        induction k with
        | zero =>
          intro p n v q0 q1 q2 q3 qv hlx hpl hd hr hv
          have up := t_cl p
          have un := t_cl n
          have e5 : (p + n).toInt = p.toInt + n.toInt := t_add (by omega) (by omega)
          have e6 : (p + n).toNatClampNeg = p.toNatClampNeg + n.toNatClampNeg := by rw [t_cl]; omega
          have no : cby1 b N (p.toNatClampNeg + n.toNatClampNeg) = -1 := cby1_no (by omega)
          have hno : ¬ isD (cby1 b N (p.toNatClampNeg + n.toNatClampNeg)) := by rw [no]; decide
          have bp := bt (p + n) (by omega)
          rw [e6] at bp
          refine sg_readTokens_214 _ _ _ (sp_byteAt _ (by omega) zs (sp_isDigit _ ⟨fun c1 => stop p n v q0 q1 q2 qv hlx hpl hd hr hv hno, fun c1 => ?_⟩))
          rw [bp] at c1
          exact absurd (bi_ne.mp c1) hno
        | succ k ih2 =>
          intro p n v q0 q1 q2 q3 qv hlx hpl hd hr hv
          have up := t_cl p
          have un := t_cl n
          have e5 : (p + n).toInt = p.toInt + n.toInt := t_add (by omega) (by omega)
          have e6 : (p + n).toNatClampNeg = p.toNatClampNeg + n.toNatClampNeg := by rw [t_cl]; omega
          have bp := bt (p + n) (by omega)
          rw [e6] at bp
          have go : isD (cby1 b N (p.toNatClampNeg + n.toNatClampNeg)) → ∀ v, ((n + 1).toInt = n.toInt + 1 → vW (n + 1) v) → (n.toNatClampNeg + 1 ≤ 9 → v = whv b p.toNatClampNeg (n.toNatClampNeg + 1)) → MT G (d + 8) z_readTokens 214 [(0, vr 0), (1, vi p), (4, vi (n + 1)), (5, vi v)] [] z (rv Fv) := by
            intro q v qv2 hv2
            have q4 : p.toNatClampNeg + n.toNatClampNeg < N := by
              by_cases cq : p.toNatClampNeg + n.toNatClampNeg < N
              · exact cq
              · rw [cby1_no cq] at q; exact absurd q (by decide)
            rw [cby1_lt q4] at q
            have e7 : (n + 1).toInt = n.toInt + 1 := t_add (by show _ ≤ _ + (1 : Int); omega) (by show _ + (1 : Int) ≤ _; omega)
            have e8 : (n + 1).toNatClampNeg = n.toNatClampNeg + 1 := by rw [t_cl]; omega
            refine ih2 _ _ _ q0 (by omega) (by omega) (by omega) (qv2 e7) hlx hpl hd (fun i hi => ?_) (by rw [e8]; exact hv2)
            rw [e8] at hi
            by_cases ci : i = n.toNatClampNeg
            · rw [ci]; exact q
            · exact hr i (by omega)
          refine sg_readTokens_214 _ _ _ (sp_byteAt _ (by omega) zs (sp_isDigit _ ⟨fun c1 => stop p n v q0 q1 q2 qv hlx hpl hd hr hv (by rw [bp] at c1; exact bi_eq.mp c1), fun c1 => ⟨fun c9 => go (by rw [bp] at c1; exact bi_ne.mp c1) _ (fun e => vW_keep q1 c9 e qv) (fun z => ?_), fun c9 => sp_byteAt _ (by omega) zs (go (by rw [bp] at c1; exact bi_ne.mp c1) _ (fun e => vW_up q1 c9 e (bi_ne.mp c1) qv) (fun z => ?_))⟩⟩))
          · rw [t_le, k9] at c9; omega
          · have q := bi_ne.mp c1
            rw [bp] at q
            have q4 : p.toNatClampNeg + n.toNatClampNeg < N := by
              by_cases cq : p.toNatClampNeg + n.toNatClampNeg < N
              · exact cq
              · rw [cby1_no cq] at q; exact absurd q (by decide)
            rw [bp, cby1_lt q4, hv (by omega)]
            rfl
      -- what begins at p
      have disp : ∀ (p m : Int32), 0 ≤ p.toInt → p.toInt ≤ (z.1 0 2).toInt → m = 0 → p.toNatClampNeg = lx b N p0.toNatClampNeg → MT G (d + 8) z_readTokens 19 [(0, vr 0), (1, vi p), (2, vi m)] [] z (rv Fv) := by
        intro p m q0 q1 hm hlx
        have up := t_cl p
        have bp := bt p q0
        refine sg_readTokens_19 _ _ ⟨fun _ => ?_, fun c1 => absurd hm c1⟩
        have lt : ¬ bAt z p = -1 → p.toNatClampNeg < N := fun q => by
          by_cases cq : p.toNatClampNeg < N
          · exact cq
          · rw [bp, cby1_no cq] at q; exact absurd rfl q
        refine sp_byteAt _ q0 zs (sp_isLetter _ ⟨fun c1 => sp_isDigit _ ⟨fun c2 => ⟨fun c3 => c350 _ _ _ _ q0 (by decide) (by rw [k0]; omega) (by decide) hlx (Or.inl ⟨?_, rfl⟩), fun c3 => ?_⟩, fun c2 => ?_⟩, fun c1 => ?_⟩)
        · by_cases cq : p.toNatClampNeg < N
          · rw [bp, cby1_lt cq, ← b1] at c3; exact absurd c3 tby_ne
          · omega
        · have q3 := lt c3
          have e6 : (p + 1).toInt = p.toInt + 1 := t_add (by rw [k1]; omega) (by rw [k1]; omega)
          have e7 : (p + 1).toNatClampNeg = p.toNatClampNeg + 1 := by rw [t_cl]; omega
          have bp1 := bt (p + 1) (by omega)
          rw [e7] at bp1
          rw [bp, cby1_lt q3] at c1 c2
          have nld : ¬ isLD (b p.toNatClampNeg) := fun q => q.elim (bi_eq.mp c1) (bi_eq.mp c2)
          rw [bp, cby1_lt q3]
          refine sp_byteAt _ (by omega) zs (sf_signOf _ _ ?_)
          rw [bp1]
          have two : sg2 (b p.toNatClampNeg) (cby1 b N (p.toNatClampNeg + 1)) → MT G (d + 8) z_readTokens 350 [(0, vr 0), (1, vi p), (4, vi 2), (5, vi 0), (6, vi (sgk (b p.toNatClampNeg) (cby1 b N (p.toNatClampNeg + 1))))] [] z (rv Fv) := by
            intro q
            have q4 : p.toNatClampNeg + 1 < N := by
              by_cases cq : p.toNatClampNeg + 1 < N
              · exact cq
              · have q1 := q.1
                rw [cby1_no cq] at q1; exact absurd q1 (by decide)
            exact c350 _ _ _ _ q0 (by decide) (by rw [k2]; omega) (by decide) hlx (Or.inr (Or.inr (Or.inr ⟨q3, nld, rfl, Or.inl ⟨q, rfl⟩⟩)))
          have iff2 : ∀ v : Int32, (v = 51 ∨ v = 52 ∨ v = 54 ∨ v = 56) → sgk (b p.toNatClampNeg) (cby1 b N (p.toNatClampNeg + 1)) = v → sg2 (b p.toNatClampNeg) (cby1 b N (p.toNatClampNeg + 1)) := by
            intro v hv e
            by_cases cs : sg2 (b p.toNatClampNeg) (cby1 b N (p.toNatClampNeg + 1))
            · exact cs
            · unfold sgk at e
              unfold sg2 at cs
              rw [if_neg cs] at e
              rcases hv with rfl | rfl | rfl | rfl
              all_goals
                refine absurd e ?_
                repeat' (first | apply ite_n | decide)
          have sg2i : sg2 (b p.toNatClampNeg) (cby1 b N (p.toNatClampNeg + 1)) → sgk (b p.toNatClampNeg) (cby1 b N (p.toNatClampNeg + 1)) = 51 ∨ sgk (b p.toNatClampNeg) (cby1 b N (p.toNatClampNeg + 1)) = 52 ∨ sgk (b p.toNatClampNeg) (cby1 b N (p.toNatClampNeg + 1)) = 54 ∨ sgk (b p.toNatClampNeg) (cby1 b N (p.toNatClampNeg + 1)) = 56 := by
            intro cs
            unfold sgk
            unfold sg2 at cs
            rw [if_pos cs]
            by_cases a1 : b p.toNatClampNeg = 61
            · rw [if_pos a1]; exact Or.inl rfl
            · rw [if_neg a1]
              by_cases a2 : b p.toNatClampNeg = 33
              · rw [if_pos a2]; exact Or.inr (Or.inl rfl)
              · rw [if_neg a2]
                by_cases a3 : b p.toNatClampNeg = 60
                · rw [if_pos a3]; exact Or.inr (Or.inr (Or.inl rfl))
                · rw [if_neg a3]; exact Or.inr (Or.inr (Or.inr rfl))
          exact ⟨fun q => two (iff2 51 (Or.inl rfl) q), fun n1 => ⟨fun q => two (iff2 52 (Or.inr (Or.inl rfl)) q), fun n2 => ⟨fun q => two (iff2 54 (Or.inr (Or.inr (Or.inl rfl))) q), fun n3 => ⟨fun n4 => c350 _ _ _ _ q0 (by decide) (by rw [k1]; omega) (by decide) hlx (Or.inr (Or.inr (Or.inr ⟨q3, nld, rfl, Or.inr ⟨fun w => (sg2i w).elim n1 (fun w => w.elim n2 (fun w => w.elim n3 n4)), rfl⟩⟩))), fun q => two (iff2 56 (Or.inr (Or.inr (Or.inr rfl))) q)⟩⟩⟩⟩
        · have dd := bi_ne.mp c2
          have q3 := lt (isD_ne dd)
          rw [bp, cby1_lt q3] at dd
          exact c214 _ _ _ _ q0 (by decide) (by rw [k0]; omega) (Int.self_le_toNat _) vW_0 hlx (by omega) dd (fun i hi => absurd hi (Nat.not_lt_zero _)) (fun _ => rfl)
        · have dd := bi_ne.mp c1
          have q3 := lt (isL_ne dd)
          rw [bp, cby1_lt q3] at dd
          exact c140 _ _ _ q0 (by decide) (by rw [k0]; omega) (Int.self_le_toNat _) hlx (by omega) dd (fun i hi => absurd hi (Nat.not_lt_zero _))
      -- blanks and remarks
      have c19 : ∀ (k : Nat) (p : Int32), 0 ≤ p.toInt → p.toInt ≤ (z.1 0 2).toInt → (z.1 0 2).toInt - p.toInt ≤ k → lx b N p0.toNatClampNeg = lxr b N false p.toNatClampNeg → MT G (d + 8) z_readTokens 19 [(0, vr 0), (1, vi p), (2, vi 1)] [] z (rv Fv) := by
        intro k
        induction k with
        | zero =>
          intro p q0 q1 q2 hlx
          have up := t_cl p
          rw [lxr_end (by omega)] at hlx
          refine sg_readTokens_19 _ _ ⟨fun c1 => absurd c1 (by decide), fun _ => ?_⟩
          have no : bAt z p = -1 := by rw [bt p q0, cby1_no (by omega)]
          refine sp_byteAt _ q0 zs ?_
          rw [no]
          have fin : MT G (d + 8) z_readTokens 58 [(0, vr 0), (1, vi p), (3, vi (-1))] [vi 0] z (rv Fv) := by
            refine sg_readTokens_58 _ _ _ ⟨fun _ => sg_readTokens_69 _ _ _ _ ⟨fun _ => ?_, fun q => absurd q (by decide)⟩, fun q => absurd rfl q⟩
            have e6 : (p + 0).toInt = p.toInt := by rw [t_add (by rw [k0]; omega) (by rw [k0]; omega), k0]; omega
            have ep : p + 0 = p := t_eq.mpr e6
            rw [ep]
            exact disp _ _ q0 q1 rfl hlx.symm
          exact ⟨fun q => absurd q (by decide), fun _ => ⟨fun q => absurd q (by decide), fun _ => ⟨fun q => absurd q (by decide), fun _ => ⟨fun _ => fin, fun q => absurd q (by decide)⟩⟩⟩⟩
        | succ k ih2 =>
          intro p q0 q1 q2 hlx
          have up := t_cl p
          have bp := bt p q0
          refine sg_readTokens_19 _ _ ⟨fun c1 => absurd c1 (by decide), fun _ => ?_⟩
          refine sp_byteAt _ q0 zs ?_
          have e6 : (p + 0).toInt = p.toInt := by rw [t_add (by rw [k0]; omega) (by rw [k0]; omega), k0]; omega
          have ep : p + 0 = p := t_eq.mpr e6
          have e7 : p.toInt < (z.1 0 2).toInt → (p + 1).toInt = p.toInt + 1 := fun q => t_add (by rw [k1]; omega) (by rw [k1]; omega)
          have e8 : p.toInt < (z.1 0 2).toInt → (p + 1).toNatClampNeg = p.toNatClampNeg + 1 := fun q => by rw [t_cl, e7 q]; omega
          have lt : ¬ bAt z p = -1 → p.toNatClampNeg < N := fun q => by
            by_cases cq : p.toNatClampNeg < N
            · exact cq
            · rw [bp, cby1_no cq] at q; exact absurd rfl q
          -- a remark
          have c91 : ∀ (n : Nat) (p : Int32), 0 ≤ p.toInt → p.toInt ≤ (z.1 0 2).toInt → (z.1 0 2).toInt - p.toInt ≤ n → (z.1 0 2).toInt - p.toInt ≤ k → lx b N p0.toNatClampNeg = lxr b N true p.toNatClampNeg → MT G (d + 8) z_readTokens 91 [(0, vr 0), (1, vi p), (2, vi 1)] [] z (rv Fv) := by
            intro n
            induction n with
            | zero =>
              intro p q0 q1 q2 q3 hl
              have up := t_cl p
              refine sg_readTokens_91 _ _ ⟨fun _ => ih2 _ q0 q1 q3 ?_, fun c1 => ?_⟩
              · rw [hl, lxr_end (by omega), lxr_end (by omega)]
              · rw [t_le] at c1; omega
            | succ n ih3 =>
              intro p q0 q1 q2 q3 hl
              have up := t_cl p
              have bp := bt p q0
              refine sg_readTokens_91 _ _ ⟨fun c1 => ih2 _ q0 q1 q3 ?_, fun c1 => sp_byteAt _ q0 zs ⟨fun c2 => ih2 _ q0 q1 q3 ?_, fun c2 => ?_⟩⟩
              · rw [t_le] at c1
                rw [hl, lxr_end (by omega), lxr_end (by omega)]
              · rw [t_le] at c1
                rw [bp, cby1_lt (by omega)] at c2
                have lt9 : p.toNatClampNeg < N := by omega
                rw [hl, lxr_step (r := true) lt9, lxr_step (r := false) lt9, if_pos c2, if_pos c2]
              · rw [t_le] at c1
                have e8 : (p + 1).toInt = p.toInt + 1 := t_add (by rw [k1]; omega) (by rw [k1]; omega)
                have e9 : (p + 1).toNatClampNeg = p.toNatClampNeg + 1 := by rw [t_cl]; omega
                refine ih3 _ (by omega) (by omega) (by omega) (by omega) ?_
                rw [bp, cby1_lt (by omega)] at c2
                have lt9 : p.toNatClampNeg < N := by omega
                rw [hl, e9, lxr_step lt9, if_neg c2]
                by_cases c3 : b p.toNatClampNeg = 47 ∧ (if p.toNatClampNeg + 1 < N then b (p.toNatClampNeg + 1) else 0) = 47
                · rw [if_pos c3]
                · rw [if_neg c3, if_neg (fun q => absurd q.1 (by decide))]
          have blank : ¬ bAt z p = -1 → (bAt z p = 32 ∨ bAt z p = 9 ∨ bAt z p = 13 ∨ bAt z p = 10) → MT G (d + 8) z_readTokens 58 [(0, vr 0), (1, vi p), (3, vi (bAt z p))] [vi 1] z (rv Fv) := by
            intro q q9
            have q3 := lt q
            have n47 : ¬ bAt z p = 47 := fun e => by rw [e] at q9; exact absurd q9 (by decide)
            refine sg_readTokens_58 _ _ _ ⟨fun z9 => absurd z9 (by decide), fun _ => sg_readTokens_69 _ _ _ _ ⟨fun _ => ih2 _ (by rw [e7 (by omega)]; omega) (by rw [e7 (by omega)]; omega) (by rw [e7 (by omega)]; omega) ?_, fun z9 => absurd z9 n47⟩⟩
            rw [bp, cby1_lt q3] at q9 n47
            rw [hlx, e8 (by omega), lxr_step q3]
            by_cases c10 : b p.toNatClampNeg = 10
            · rw [if_pos c10]
            · rw [if_neg c10, if_neg (fun w => n47 w.1), if_neg]
              intro w
              rcases q9 with q9 | q9 | q9 | q9
              · exact w.2.1 q9
              · exact w.2.2.1 q9
              · exact w.2.2.2 q9
              · exact c10 q9
          have other : ¬ bAt z p = 32 → ¬ bAt z p = 9 → ¬ bAt z p = 13 → ¬ bAt z p = 10 → MT G (d + 8) z_readTokens 58 [(0, vr 0), (1, vi p), (3, vi (bAt z p))] [vi 0] z (rv Fv) := by
            intro n32 n9 n13 n10
            have here : ¬ (bAt z p = 47 ∧ bAt z (p + 0 + 1) = 47) → p.toNatClampNeg = lx b N p0.toNatClampNeg := by
              intro no
              rw [hlx]
              by_cases q3 : p.toNatClampNeg < N
              · rw [bp, cby1_lt q3] at n32 n9 n13 n10 no
                have e9 : (p + 0 + 1).toInt = p.toInt + 1 := by rw [ep]; exact e7 (by omega)
                have b9 := bt (p + 0 + 1) (by omega)
                have e10 : (p + 0 + 1).toNatClampNeg = p.toNatClampNeg + 1 := by rw [t_cl, e9]; omega
                rw [e10] at b9
                rw [lxr_step q3, if_neg n10, if_neg, if_pos ⟨rfl, n32, n9, n13⟩]
                intro w
                refine no ⟨w.1, ?_⟩
                rw [b9]
                by_cases q4 : p.toNatClampNeg + 1 < N
                · rw [cby1_lt q4]
                  have := w.2
                  rw [if_pos q4] at this
                  exact this
                · have := w.2
                  rw [if_neg q4] at this
                  exact absurd this (by decide)
              · rw [lxr_end (by omega)]
            refine sg_readTokens_58 _ _ _ ⟨fun _ => sg_readTokens_69 _ _ _ _ ⟨fun n47 => ?_, fun c47 => ?_⟩, fun q => absurd rfl q⟩
            · rw [ep]
              exact disp _ _ q0 q1 rfl (here (fun w => n47 w.1))
            have q3 := lt (by rw [c47]; decide)
            have e9 : (p + 0 + 1).toInt = p.toInt + 1 := by rw [ep]; exact e7 (by omega)
            refine sp_byteAt _ (by omega) zs ⟨fun n47 => ?_, fun d47 => ?_⟩
            · rw [ep]
              exact disp _ _ q0 q1 rfl (here (fun w => n47 w.2))
            rw [ep] at d47 ⊢
            refine sg_readTokens_91 _ _ ⟨fun c1 => ?_, fun c1 => sp_byteAt _ q0 zs ⟨fun c2 => ?_, fun _ => ?_⟩⟩
            · rw [t_le] at c1; omega
            · rw [c47] at c2; exact absurd c2 (by decide)
            · have e10 := e7 (by omega)
              refine c91 _ _ (by omega) (by omega) (Int.self_le_toNat _) (by omega) ?_
              have b9 := bt (p + 1) (by omega)
              rw [e8 (by omega)] at b9
              have q4 : p.toNatClampNeg + 1 < N := by
                by_cases cq : p.toNatClampNeg + 1 < N
                · exact cq
                · rw [b9, cby1_no cq] at d47; exact absurd d47 (by decide)
              rw [b9, cby1_lt q4] at d47
              rw [bp, cby1_lt q3] at c47
              rw [hlx, e8 (by omega), lxr_step q3, if_neg (by rw [c47]; decide), if_pos ⟨c47, by rw [if_pos q4]; exact d47⟩]
          refine ⟨fun q => blank (by rw [q]; decide) (Or.inl q), fun n32 => ⟨fun q => blank (by rw [q]; decide) (Or.inr (Or.inl q)), fun n9 => ⟨fun q => blank (by rw [q]; decide) (Or.inr (Or.inr (Or.inl q))), fun n13 => ⟨fun n10 => other n32 n9 n13 n10, fun q => blank (by rw [q]; decide) (Or.inr (Or.inr (Or.inr q)))⟩⟩⟩⟩
      exact c19 _ p0 hp hps (Int.self_le_toNat _) rfl
  refine sg_readTokens_0 (fun x1 e1 => ?_)
  have m1 := md_f x 3 0
  rw [← e1] at m1
  have e2 : x1.1 0 2 = x.1 0 2 := m1.1 2 (by decide)
  have e3 : x1.1 0 3 = 0 := by rw [e1, si_get, if_pos ⟨rfl, rfl⟩]
  have t1 : TK x1 := by
    intro j hj
    rw [e1, si_cell (by decide), si_cell (by decide), si_cell (by decide)]
    exact ht j hj
  exact loop 701 x1 0 0 t1 (md_w m1 (by decide) (by decide)) (by rw [e3]; rfl) (by omega) (by omega) (by decide) (by rw [e2, k0]; exact hs0) ⟨fun _ => rfl, fun q => absurd q (by decide), fun j hj => absurd hj (Nat.not_lt_zero _), fun j hj => absurd hj (Nat.not_lt_zero _)⟩
end
section
/-! the reader's small steps. now: field 8, bad: 9, badPlace: 10, nodes: 13, nested: 20 -/
def TX (x : gd) : Prop := TK x ∧ (x.1 0 10).toInt ≤ 3000
theorem TK_md {L A : List Nat} {x x' : gd} (h : md L A x x') (h6 : 6 ∉ A) (h8 : 8 ∉ A) (h7 : 7 ∉ A) (q : TK x) : TK x' := by
  intro j hj
  rw [h.2.1 6 (by decide) h6, h.2.1 8 (by decide) h8, h.2.1 7 (by decide) h7]
  exact q j hj
theorem TX_md {L A : List Nat} {x x' : gd} (h : md L A x x') (h10 : 10 ∉ L) (h6 : 6 ∉ A) (h8 : 8 ∉ A) (h7 : 7 ∉ A) (q : TX x) : TX x' := ⟨TK_md h h6 h8 h7 q.1, by rw [h.1 10 h10]; exact q.2⟩
def PN (x : gd) : Prop := 0 ≤ (x.1 0 8).toInt ∧ (x.1 0 8).toInt ≤ 700 ∧ 0 ≤ (x.1 0 9).toInt ∧ TX x
theorem PN_v {x : gd} (h : PN x) : vp_in (x.1 0 8) 710 := by
  rw [vp_in_iff]; have := h.1; have := h.2.1; omega
/-- a small step: it goes on by a token, or has a fault then; with a fault before, nothing is done -/
def SS (x x' : gd) : Prop := md [8, 9, 10] [] x x' ∧ PN x' ∧ (x.1 0 8).toInt ≤ (x'.1 0 8).toInt ∧ (0 < (x.1 0 9).toInt → x' = x) ∧ ((x'.1 0 9).toInt = 0 → (x.1 0 9).toInt = 0)
theorem SS_rf {x : gd} (h : PN x) : SS x x := ⟨md_w (md_rf x) (by decide) (by decide), h, Int.le_refl _, fun _ => rfl, fun q => q⟩
theorem SS_tr {x y z : gd} (a : SS x y) (b : SS y z) : SS x z := by
  refine ⟨md_tr a.1 b.1 rfl rfl, b.2.1, Int.le_trans a.2.2.1 b.2.2.1, fun q => ?_, fun q => a.2.2.2.2 (b.2.2.2.2 q)⟩
  have e := a.2.2.2.1 q
  rw [e] at b
  exact b.2.2.2.1 q
section SPC
variable {G : mG} {d : Nat} {x : gd} {F : Int32 → gd → Prop} {Fv : gd → Prop}
theorem sp_fault (n t : Int32) (hn : 0 < n.toInt) (ht : vp_in t 710) (hp : PN x) (h : ∀ x', SS x x' → 0 < (x'.1 0 9).toInt → x'.1 0 8 = x.1 0 8 → md [9, 10] [] x x' → Fv x') : MT G d z_fault 0 [(0, vr 0), (1, vi n), (2, vi t)] [] x (rv Fv) := by
  have key : ∀ (k : Int32) (y z : gd), (x.1 0 9) = 0 → 0 < k.toInt → y = si x 0 9 k → z = si y 0 10 (y.1 6 t.toNatClampNeg) → rv Fv none z := by
    intro k y z c hk e1 e2
    have m1 := md_f x 9 k
    rw [← e1] at m1
    have m2 := md_f y 10 (y.1 6 t.toNatClampNeg)
    rw [← e2] at m2
    have m3 : md [9, 10] [] x z := md_tr m1 m2 rfl rfl
    have b9 : z.1 0 9 = k := by rw [m2.1 9 (by decide), e1, si_get, if_pos ⟨rfl, rfl⟩]
    have b8 : z.1 0 8 = x.1 0 8 := m3.1 8 (by decide)
    have c0 : (x.1 0 9).toInt = 0 := by rw [c]; rfl
    have tz : TX z := by
      refine ⟨TK_md m3 (by decide) (by decide) (by decide) hp.2.2.2.1, ?_⟩
      rw [e2, si_get, if_pos ⟨rfl, rfl⟩, m1.2.1 6 (by decide) (by decide)]
      have tv := vp_in_iff.mp ht
      have tl : t.toNatClampNeg < 710 := by
        have := t_cl t
        omega
      have := hp.2.2.2.1 t.toNatClampNeg tl
      omega
    refine rv_i (h z ⟨md_w m3 (by decide) (by decide), ⟨by rw [b8]; exact hp.1, by rw [b8]; exact hp.2.1, by rw [b9]; omega, tz⟩, by rw [b8]; exact Int.le_refl _, fun q => ?_, fun q => ?_⟩ (by rw [b9]; exact hk) b8 m3)
    · omega
    · rw [b9] at q; omega
  refine sg_fault_0 _ _ ⟨fun c => ?_, fun c => ⟨ht, fun _ x4 e4 => ⟨ht, fun x6 e6 => key n x4 x6 c hn e4 e6⟩, fun _ x7 e7 => ⟨ht, fun x9 e9 => key 1 x7 x9 c (by decide) e7 e9⟩⟩⟩
  refine rv_i (h x (SS_rf hp) ?_ rfl (md_w (md_rf x) (by decide) (by decide)))
  have k0 : (0 : Int32).toInt = 0 := rfl
  rw [t_eq, k0] at c
  have := hp.2.2.1
  omega
theorem sp_here (hp : PN x) (h : ∀ r : Int32, (0 < (x.1 0 9).toInt → r = 0) → ((x.1 0 9).toInt = 0 → r = x.1 5 (x.1 0 8).toNatClampNeg) → F r x) : MT G d z_here 0 [(0, vr 0)] [] x (ri F) := by
  have k0 : (0 : Int32).toInt = 0 := rfl
  refine sg_here_0 ⟨fun c => ⟨PN_v hp, ri_i (h _ (fun q => ?_) (fun _ => rfl))⟩, fun c => ri_i (h _ (fun _ => rfl) (fun q => ?_))⟩
  · rw [t_le, k0] at c; omega
  · rw [t_le, k0] at c; omega
end SPC
end
