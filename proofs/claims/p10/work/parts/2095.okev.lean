/-! the uses' tokens are names, or wholes; names are told in order -/
def oK (K : Nat → Int32) (v : Nat × Nat × Nat) : Prop := (v.1 ∈ [3, 6, 7, 23, 24, 25, 26, 31, 32, 33, 34] → K v.2.1 = 1) ∧ (v.1 = 27 → K v.2.1 = 1 ∧ K v.2.2 = 1) ∧ (v.1 ∈ [65, 66, 67] → K v.2.2 = 1) ∧ (v.1 = 12 → K v.2.1 = 2 ∧ K v.2.2 = 1) ∧ (v.1 ∈ [32, 70] → K v.2.2 = 2)
def eT (K : Nat → Int32) (L L' : gU) : Prop := ∃ N, L' = L ++ N ∧ ∀ v ∈ N, oK K v
section ETL
variable {K V : Nat → Int32} {L L' L2 : gU} {o : Bool}
theorem oK_n {k a b : Nat} (h : ¬ k ∈ [3, 6, 7, 23, 24, 25, 26, 31, 32, 33, 34] ∧ ¬ k = 27 ∧ ¬ k ∈ [65, 66, 67] ∧ ¬ k = 12 ∧ ¬ k ∈ [32, 70]) : oK K (k, a, b) := ⟨fun c => absurd c h.1, fun c => absurd c h.2.1, fun c => absurd c h.2.2.1, fun c => absurd c h.2.2.2.1, fun c => absurd c h.2.2.2.2⟩
theorem oK_1 {k a b : Nat} (h : ¬ k = 27 ∧ ¬ k ∈ [65, 66, 67] ∧ ¬ k = 12 ∧ ¬ k ∈ [32, 70]) (h1 : K a = 1) : oK K (k, a, b) := ⟨fun _ => h1, fun c => absurd c h.1, fun c => absurd c h.2.1, fun c => absurd c h.2.2.1, fun c => absurd c h.2.2.2⟩
theorem oK_2 {k a b : Nat} (h : ¬ k ∈ [3, 6, 7, 23, 24, 25, 26, 31, 32, 33, 34] ∧ ¬ k = 27 ∧ ¬ k = 12 ∧ ¬ k ∈ [32, 70]) (h1 : K b = 1) : oK K (k, a, b) := ⟨fun c => absurd c h.1, fun c => absurd c h.2.1, fun _ => h1, fun c => absurd c h.2.2.1, fun c => absurd c h.2.2.2⟩
theorem oK_w {k a b : Nat} (h : ¬ k ∈ [3, 6, 7, 23, 24, 25, 26, 31, 32, 33, 34] ∧ ¬ k = 27 ∧ ¬ k ∈ [65, 66, 67] ∧ ¬ k = 12) (h1 : K b = 2) : oK K (k, a, b) := ⟨fun c => absurd c h.1, fun c => absurd c h.2.1, fun c => absurd c h.2.2.1, fun c => absurd c h.2.2.2, fun _ => h1⟩
theorem oK_27 {a b : Nat} (h1 : K a = 1) (h2 : K b = 1) : oK K (27, a, b) := ⟨fun c => absurd c (show ¬ 27 ∈ [3, 6, 7, 23, 24, 25, 26, 31, 32, 33, 34] by decide), fun _ => ⟨h1, h2⟩, fun c => absurd c (show ¬ 27 ∈ [65, 66, 67] by decide), fun c => absurd c (show ¬ 27 = 12 by decide), fun c => absurd c (show ¬ 27 ∈ [32, 70] by decide)⟩
theorem oK_12 {a b : Nat} (h1 : K a = 2) (h2 : K b = 1) : oK K (12, a, b) := ⟨fun c => absurd c (show ¬ 12 ∈ [3, 6, 7, 23, 24, 25, 26, 31, 32, 33, 34] by decide), fun c => absurd c (show ¬ 12 = 27 by decide), fun c => absurd c (show ¬ 12 ∈ [65, 66, 67] by decide), fun _ => ⟨h1, h2⟩, fun c => absurd c (show ¬ 12 ∈ [32, 70] by decide)⟩
theorem oK_32 {a b : Nat} (h1 : K a = 1) (h2 : K b = 2) : oK K (32, a, b) := ⟨fun _ => h1, fun c => absurd c (show ¬ 32 = 27 by decide), fun c => absurd c (show ¬ 32 ∈ [65, 66, 67] by decide), fun c => absurd c (show ¬ 32 = 12 by decide), fun _ => h2⟩
theorem eT_rf : eT K L L := ⟨[], by rw [List.append_nil], fun _ h => by cases h⟩
theorem eT_tr (h : eT K L L') (g : eT K L' L2) : eT K L L2 := by
  obtain ⟨N, e, h⟩ := h
  obtain ⟨N2, e2, g⟩ := g
  exact ⟨N ++ N2, by rw [e2, e, List.append_assoc], fun v hv => (List.mem_append.mp hv).elim (h v) (g v)⟩
theorem eT_v {v : Nat × Nat × Nat} (h : oK K v) : eT K L (L ++ [v]) := ⟨_, rfl, fun w hw => by rw [List.mem_singleton.mp hw]; exact h⟩
theorem pt_oK {w : Int32} {q r : Nat × gU} (h : pt K w q = some r) : eT K q.2 r.2 := by
  obtain ⟨-, -, e⟩ := pt_is h
  rw [e]; exact eT_rf
theorem pan_oK {v : Nat × Nat × Nat} {q r : Nat × gU} (hv : oK K v) (h : pan v q = some r) : eT K q.2 r.2 := by
  unfold pan at h
  cases Option.some.inj h
  exact eT_v hv
abbrev nko (K : Nat → Int32) (rE : Nat → Nat → gU → gOp) : Prop := ∀ s i L q, rE s i L = some q → eT K L q.2
theorem pW_oK {rE : Nat → Nat → gU → gOp} {th : Nat} (hr : nko K rE) : ∀ (f j : Nat) (L : gU) (q : Nat × gU), pW rE K th f j L = some q → eT K L q.2 := by
  intro f
  induction f with
  | zero => intro j L q h; exact absurd h (by simp [pW])
  | succ f ih =>
    intro j L q h
    rw [pW] at h
    split at h
    · split at h
      · obtain ⟨z, hz, h2⟩ := Option.bind_eq_some_iff.mp h
        exact eT_tr (hr _ _ _ _ hz) (eT_tr (eT_v (oK_n (by decide))) (ih _ _ _ h2))
      · exact absurd h (by simp)
    · cases Option.some.inj h; exact eT_rf
theorem pO_oK {rE : Nat → Nat → gU → gOp} (hr : nko K rE) {i : Nat} {q : Nat × gU} (h : pO rE K o i L = some q) : eT K L q.2 := by
  unfold pO at h
  split at h
  · exact absurd h (by simp)
  · split at h
    · cases Option.some.inj h; exact eT_v (oK_n (by decide))
    · split at h
      · cases Option.some.inj h; exact eT_v (oK_n (by decide))
      · split at h
        · obtain ⟨z, hz, h2⟩ := Option.bind_eq_some_iff.mp h
          exact eT_tr (hr _ _ _ _ hz) (pt_oK h2)
        · split at h
          · next k1 =>
            split at h
            · split at h
              · split at h
                · next c =>
                  cases Option.some.inj h
                  have := eT_tr (eT_v (L := L) (v := (7, i, 0)) (oK_1 (by decide) k1)) (eT_v (v := (12, i + 2, i)) (oK_12 c.2.1.1 k1))
                  rw [List.append_assoc] at this
                  exact this
                · exact absurd h (by simp)
              · cases Option.some.inj h; exact eT_v (oK_1 (by decide) k1)
            · cases Option.some.inj h; exact eT_v (oK_1 (by decide) k1)
          · exact absurd h (by simp)
theorem pE_oK : ∀ f : Nat, nko K (pE K o f) := by
  intro f
  induction f with
  | zero => intro s i L q h; exact absurd h (by simp [pE])
  | succ f ih =>
    intro s i L q h
    rw [pE] at h
    split at h
    · obtain ⟨z, hz, h2⟩ := Option.bind_eq_some_iff.mp h
      refine eT_tr ?_ (pW_oK ih _ _ _ _ h2)
      split at hz
      · split at hz
        · obtain ⟨y, hy, h3⟩ := Option.bind_eq_some_iff.mp hz
          cases Option.some.inj h3
          exact eT_tr (ih _ _ _ _ hy) (eT_v (oK_n (by decide)))
        · exact absurd hz (by simp)
      · exact pO_oK ih hz
    · exact absurd h (by simp)
theorem pX_oK {f i : Nat} {q : Nat × gU} (h : pX K o f i L = some q) : eT K L q.2 := by
  obtain ⟨z, hz, h2⟩ := Option.bind_eq_some_iff.mp h
  exact eT_tr (pE_oK f _ _ _ _ hz) (pan_oK (oK_n (k := 54) (by decide)) h2)
theorem pXq_oK {f : Nat} {r q : Nat × gU} (h : pXq K f r = some q) : eT K r.2 q.2 := pX_oK h
theorem pP_oK {f i : Nat} {q : Nat × gU} (h : pP K f i L = some q) : eT K L q.2 := by
  unfold pP at h
  split at h
  · next k1 =>
    split at h
    · split at h
      · obtain ⟨z, hz, h2⟩ := Option.bind_eq_some_iff.mp h
        exact eT_tr (eT_tr (eT_v (oK_1 (by decide) k1.1)) (pX_oK hz)) (pt_oK h2)
      · exact absurd h (by simp)
    · cases Option.some.inj h; exact eT_v (oK_1 (by decide) k1.1)
  · exact absurd h (by simp)
theorem pme_oK {t : Option Nat} (ht : ∀ t0, t = some t0 → K t0 = 1) : eT K L (L ++ pme t) := by
  cases t with
  | none => rw [pme, List.append_nil]; exact eT_rf
  | some t => exact eT_v (oK_1 (by decide) (ht t rfl))
theorem pma_oK {t : Option Nat} (ht : ∀ t0, t = some t0 → K t0 = 1) : eT K L (L ++ pma t) := by
  cases t with
  | none => rw [pma, List.append_nil]; exact eT_rf
  | some t => exact eT_v (oK_1 (by decide) (ht t rfl))
theorem pal_oK {t : Option Nat} {i : Nat} (ht : ∀ t0, t = some t0 → K t0 = 1) (k1 : K i = 1) : eT K L (L ++ [pal t i]) := by
  cases t with
  | none => exact eT_v (oK_1 (by decide) k1)
  | some t => exact eT_v (oK_27 (ht t rfl) k1)
theorem pR_oK {f i : Nat} {t : Option Nat} {q : Nat × gU} (ht : ∀ t0, t = some t0 → K t0 = 1) (h : pR K f t i L = some q) : eT K L q.2 := by
  unfold pR at h
  split at h
  · split at h
    · obtain ⟨z4, hz4, h4⟩ := Option.bind_eq_some_iff.mp h
      obtain ⟨z3, hz3, h3⟩ := Option.bind_eq_some_iff.mp hz4
      obtain ⟨z2, hz2, h2⟩ := Option.bind_eq_some_iff.mp hz3
      obtain ⟨z5, hz5, h5⟩ := Option.bind_eq_some_iff.mp h4
      have d : eT K z5.2 q.2 := pan_oK (oK_n (by decide)) h5
      have a : eT K L z4.2 := eT_tr (eT_tr (eT_tr (pme_oK ht) (pP_oK hz2)) (pt_oK h2)) (pXq_oK h3)
      split at hz5
      · obtain ⟨z6, hz6, h6⟩ := Option.bind_eq_some_iff.mp hz5
        exact eT_tr (eT_tr (eT_tr a (pt_oK hz6)) (pXq_oK h6)) d
      · cases Option.some.inj hz5; exact eT_tr a d
    · exact absurd h (by simp)
  · split at h
    · obtain ⟨z, hz, h2⟩ := Option.bind_eq_some_iff.mp h
      exact eT_tr (eT_tr (pme_oK ht) (pP_oK hz)) (pan_oK (oK_n (by decide)) h2)
    · split at h
      · next k1 =>
        split at h
        · cases Option.some.inj h; exact pal_oK ht k1.1
        · exact absurd h (by simp)
      · obtain ⟨z, hz, h2⟩ := Option.bind_eq_some_iff.mp h
        exact eT_tr (eT_tr (pma_oK ht) (pX_oK hz)) (pan_oK (oK_n (by decide)) h2)
abbrev nks (K : Nat → Int32) (rS : Nat → Nat → gU → gTs) : Prop := ∀ c i L q, rS c i L = some q → eT K L q.2.2
theorem pBl_oK {rS : Nat → Nat → gU → gTs} {z : Nat} (hr : nks K rS) : ∀ (n c i : Nat) (L : gU) (q : Nat × Nat × gU), pBl rS K z n c i L = some q → eT K L q.2.2 := by
  intro n
  induction n with
  | zero => intro c i L q h; exact absurd h (by simp [pBl])
  | succ n ih =>
    intro c i L q h
    rw [pBl] at h
    split at h
    · split at h
      · cases Option.some.inj h; exact eT_v (oK_n (by decide))
      · exact absurd h (by simp)
    · obtain ⟨y, hy, h2⟩ := Option.bind_eq_some_iff.mp h
      exact eT_tr (hr _ _ _ _ hy) (ih _ _ _ _ h2)
theorem pBk_oK {rS : Nat → Nat → gU → gTs} {z : Nat} (hr : nks K rS) {c i : Nat} {q : Nat × Nat × gU} (h : pBk rS K z c i L = some q) : eT K L q.2.2 := by
  unfold pBk at h
  split at h
  · exact eT_tr (eT_v (oK_n (by decide))) (pBl_oK hr _ _ _ _ _ h)
  · exact absurd h (by simp)
theorem pEl_oK {rS : Nat → Nat → gU → gTs} (hr : nks K rS) {q r : Nat × Nat × gU} (h : pEl rS K q = some r) : eT K q.2.2 r.2.2 := by
  unfold pEl at h
  split at h
  · split at h
    · split at h
      · exact eT_tr (eT_v (oK_n (by decide))) (hr _ _ _ _ h)
      · exact eT_tr (eT_v (oK_n (by decide))) (pBk_oK hr h)
    · exact absurd h (by simp)
  · cases Option.some.inj h; exact eT_rf
theorem pup_oK {c : Nat} {v : Nat × Nat × Nat} {r : gOp} {q : Nat × Nat × gU} (hv : oK K v) (h : pup c v r = some q) : ∃ z, r = some z ∧ eT K z.2 q.2.2 := by
  unfold pup at h
  obtain ⟨z, hz, e⟩ := Option.bind_eq_some_iff.mp h
  cases Option.some.inj e
  exact ⟨z, hz, eT_v hv⟩
theorem pS1_oK {f c i : Nat} {q : Nat × Nat × gU} (h : pS1 K f c i L = some q) : eT K L q.2.2 := by
  have nn0 : ∀ t0 : Nat, (none : Option Nat) = some t0 → K t0 = 1 := fun t0 e => by cases e
  unfold pS1 at h
  split at h
  · split at h
    · next k1 =>
      obtain ⟨z, h, g⟩ := pup_oK (oK_n (k := 22) (by decide)) h
      obtain ⟨y, hy, h2⟩ := Option.bind_eq_some_iff.mp h
      exact eT_tr (eT_tr (eT_tr (eT_v (oK_1 (by decide) k1.1.1)) (pR_oK nn0 hy)) (pt_oK h2)) g
    · exact absurd h (by simp)
  · split at h
    · next k1 =>
      split at h
      · split at h
        · obtain ⟨z, h, g⟩ := pup_oK (oK_n (k := 78) (by decide)) h
          obtain ⟨y5, hy5, h5⟩ := Option.bind_eq_some_iff.mp h
          obtain ⟨y4, hy4, h4⟩ := Option.bind_eq_some_iff.mp hy5
          obtain ⟨y3, hy3, h3⟩ := Option.bind_eq_some_iff.mp hy4
          obtain ⟨y2, hy2, h2⟩ := Option.bind_eq_some_iff.mp hy3
          exact eT_tr (eT_tr (eT_tr (eT_tr (eT_tr (eT_tr (eT_v (oK_1 (by decide) k1)) (pX_oK hy2)) (pt_oK h2)) (pt_oK h3)) (pXq_oK h4)) (pt_oK h5)) g
        · exact absurd h (by simp)
      · split at h
        · obtain ⟨z, h, g⟩ := pup_oK (oK_n (k := 77) (by decide)) h
          obtain ⟨y2, hy2, h2⟩ := Option.bind_eq_some_iff.mp h
          exact eT_tr (eT_tr (pR_oK (fun t0 e => by cases e; exact k1) hy2) (pt_oK h2)) g
        · exact absurd h (by simp)
    · split at h
      · obtain ⟨z, h, g⟩ := pup_oK (oK_n (k := 68) (by decide)) h
        have := pt_oK h
        exact eT_tr this g
      · split at h
        · obtain ⟨z, h, g⟩ := pup_oK (oK_n (k := 69) (by decide)) h
          obtain ⟨y2, hy2, h2⟩ := Option.bind_eq_some_iff.mp h
          exact eT_tr (eT_tr (pX_oK hy2) (pt_oK h2)) g
        · split at h
          · split at h
            · next k2 =>
              obtain ⟨z, h, g⟩ := pup_oK (oK_w (k := 70) (by decide) k2.1.1) h
              obtain ⟨y2, hy2, h2⟩ := Option.bind_eq_some_iff.mp h
              exact eT_tr (eT_tr (pX_oK hy2) (pt_oK h2)) g
            · exact absurd h (by simp)
          · split at h
            · split at h
              · next k2 =>
                obtain ⟨z, h, g⟩ := pup_oK (oK_2 (k := 66) (by decide) k2.1) h
                have := pt_oK h
                exact eT_tr this g
              · exact absurd h (by simp)
            · split at h
              · split at h
                · next k2 =>
                  obtain ⟨z, h, g⟩ := pup_oK (oK_2 (k := 67) (by decide) k2.1) h
                  have := pt_oK h
                  exact eT_tr this g
                · exact absurd h (by simp)
              · exact absurd h (by simp)
theorem pfi_oK {q r : Nat × Nat × gU} (h : pfi q = some r) : eT K q.2.2 r.2.2 := by
  unfold pfi at h
  cases Option.some.inj h
  exact eT_v (oK_n (by decide))
theorem pS_oK : ∀ f : Nat, nks K (pS K f) := by
  intro f
  induction f with
  | zero => intro c i L q h; exact absurd h (by simp [pS])
  | succ f ih =>
    intro c i L q h
    rw [pS] at h
    split at h
    · exact absurd h (by simp)
    · split at h
      · obtain ⟨z, hz, h2⟩ := Option.bind_eq_some_iff.mp h
        obtain ⟨x, hx, h4⟩ := Option.bind_eq_some_iff.mp h2
        obtain ⟨y, hy, h3⟩ := Option.bind_eq_some_iff.mp hx
        exact eT_tr (eT_tr (eT_tr (eT_tr (pX_oK hz) (eT_v (oK_n (by decide)))) (pBk_oK ih hy)) (pEl_oK ih h3)) (pfi_oK h4)
      · split at h
        · obtain ⟨z, hz, h2⟩ := Option.bind_eq_some_iff.mp h
          exact eT_tr (eT_tr (pX_oK hz) (eT_v (oK_n (by decide)))) (pBk_oK ih h2)
        · split at h
          · split at h
            · next k2 => exact eT_tr (eT_v (oK_2 (by decide) k2.1)) (pBk_oK ih h)
            · exact absurd h (by simp)
          · exact pS1_oK h
theorem pCv_oK {q r : Nat × gU} (h : pCv K q = some r) : eT K q.2 r.2 ∧ nT q.2 r.2 := by
  unfold pCv at h
  split at h
  · split at h
    · split at h
      · split at h
        · cases Option.some.inj h; exact ⟨eT_v (oK_n (by decide)), nT_k (by decide)⟩
        · exact absurd h (by simp)
      · split at h
        · cases Option.some.inj h; exact ⟨eT_v (oK_n (by decide)), nT_k (by decide)⟩
        · exact absurd h (by simp)
    · exact absurd h (by simp)
  · cases Option.some.inj h; exact ⟨eT_v (oK_n (by decide)), nT_k (by decide)⟩
/-- a definition tells at most one name -/
def dT (K V : Nat → Int32) (i j : Nat) (L L' : gU) : Prop := ∃ N, L' = L ++ N ∧ (∀ v ∈ N, oK K v) ∧ (N.filterMap (te1 K V) = [] ∨ ∃ q, N.filterMap (te1 K V) = [q] ∧ i ≤ q.1 ∧ q.1 < j)
theorem dT_0 {i j : Nat} (h : eT K L L') (g : nT L L') : dT K V i j L L' := by
  obtain ⟨N, e, h⟩ := h
  obtain ⟨N2, e2, g⟩ := g
  have en : N = N2 := List.append_cancel_left (e.symm.trans e2)
  exact ⟨N, e, h, Or.inl (List.filterMap_eq_nil_iff.mpr (fun v hv => te1_no (g v (by rw [← en]; exact hv))))⟩
theorem dT_1 {i j : Nat} {v : Nat × Nat × Nat} {q : Nat × Nat × Nat × Nat} (hv : oK K v) (hq : te1 K V v = some q) (hi : i ≤ q.1) (hj : q.1 < j) (h : eT K (L ++ [v]) L') (g : nT (L ++ [v]) L') : dT K V i j L L' := by
  obtain ⟨N, e, h⟩ := h
  obtain ⟨N2, e2, g⟩ := g
  have en : N = N2 := List.append_cancel_left (e.symm.trans e2)
  refine ⟨[v] ++ N, by rw [e, List.append_assoc], fun w hw => (List.mem_append.mp hw).elim (fun z => by rw [List.mem_singleton.mp z]; exact hv) (h w), Or.inr ⟨q, ?_, hi, hj⟩⟩
  have tn : N.filterMap (te1 K V) = [] := List.filterMap_eq_nil_iff.mpr (fun w hw => te1_no (g w (by rw [← en]; exact hw)))
  rw [List.filterMap_append, tn, List.append_nil, List.filterMap_cons_some hq, List.filterMap_nil]
theorem pCl_dT {n i t : Nat} {q : Nat × Nat × gU} (ht : i ≤ t) (h : pCl K V n i t L = some q) : dT K V i q.2.1 L q.2.2 := by
  have lt := pCl_lt h
  unfold pCl at h
  split at h
  · next c =>
    split at h
    · split at h
      · next c2 =>
        obtain ⟨z, hz, e⟩ := Option.bind_eq_some_iff.mp h
        obtain ⟨y, hy, h2⟩ := Option.bind_eq_some_iff.mp hz
        obtain ⟨a1, a2⟩ := pCv_oK hy
        cases Option.some.inj e
        exact dT_1 (v := (32, t, t + 2)) (q := (t, 0, prz K V (t + 2), t + 2)) (oK_32 c.2.1.1 c2.2.2.1.1) rfl ht lt.1 (eT_tr a1 (eT_tr (pt_oK h2) (eT_v (oK_n (by decide))))) (nT_tr a2 (nT_tr (pt_nT h2) (nT_k (by decide))))
      · exact absurd h (by simp)
    · obtain ⟨z, hz, e⟩ := Option.bind_eq_some_iff.mp h
      obtain ⟨y, hy, h2⟩ := Option.bind_eq_some_iff.mp hz
      obtain ⟨a1, a2⟩ := pCv_oK hy
      cases Option.some.inj e
      exact dT_1 (v := (31, t, 0)) (q := (t, 0, 0, 0)) (oK_1 (by decide) c.2.1.1) rfl ht lt.1 (eT_tr a1 (eT_tr (pt_oK h2) (eT_v (oK_n (by decide))))) (nT_tr a2 (nT_tr (pt_nT h2) (nT_k (by decide))))
  · exact absurd h (by simp)
theorem pD_dT {n : gN} {i : Nat} {q : gN × Nat × gU} (h : pD K V n i L = some q) : dT K V i q.2.1 L q.2.2 := by
  have cell : ∀ t, i ≤ t → (pCl K V n.1 i t L).bind (fun q => some ((q.1, n.2), q.2)) = some q → dT K V i q.2.1 L q.2.2 := fun t ht h => by
    obtain ⟨z, hz, e⟩ := Option.bind_eq_some_iff.mp h
    cases Option.some.inj e
    exact pCl_dT ht hz
  have blk : ∀ (t j b : Nat) (v : gN), i ≤ t → t < j → K t = 1 → (pBk (pS K 16) K 0 0 j (L ++ [(34, t, b)])).bind (fun q => some (v, q.2)) = some q → dT K V i q.2.1 L q.2.2 := fun t j b v ht hj k1 h => by
    obtain ⟨z, hz, e⟩ := Option.bind_eq_some_iff.mp h
    have a := pBk_lt (pS_lt 16) hz
    cases Option.some.inj e
    exact dT_1 (v := (34, t, b)) (q := (t, 2, 0, 0)) (oK_1 (by decide) k1) rfl ht (by show t < z.2.1; omega) (pBk_oK (pS_oK 16) hz) (pBk_nT (pS_nT 16) hz)
  have clm : ∀ (k : Nat) (v : gN), (k = 35 ∨ k = 36) → ((pX K true 16 (i + 1) (L ++ [(k, i, 0)])).bind (pt K 67)).bind (fun q => some (v, q)) = some q → dT K V i q.2.1 L q.2.2 := fun k v hk h => by
    obtain ⟨z, hz, e⟩ := Option.bind_eq_some_iff.mp h
    obtain ⟨y, hy, h2⟩ := Option.bind_eq_some_iff.mp hz
    cases Option.some.inj e
    obtain ⟨N, e1, g1⟩ := eT_tr (pX_oK hy) (pt_oK h2)
    obtain ⟨N2, e2, g2⟩ := nT_tr (pX_nT hy) (pt_nT h2)
    have en : N = N2 := List.append_cancel_left (e1.symm.trans e2)
    have t0 : te1 K V (k, i, 0) = none := by
      unfold te1
      rcases hk with e | e <;> rw [e] <;> rfl
    refine ⟨[(k, i, 0)] ++ N, by rw [← List.append_assoc]; exact e1, fun w hw => (List.mem_append.mp hw).elim (fun z => by rw [List.mem_singleton.mp z]; rcases hk with e | e <;> rw [e] <;> exact oK_n (by decide)) (g1 w), Or.inl ?_⟩
    have tn : N.filterMap (te1 K V) = [] := List.filterMap_eq_nil_iff.mpr (fun w hw => te1_no (g2 w (by rw [← en]; exact hw)))
    rw [List.filterMap_append, tn, List.append_nil, List.filterMap_cons_none t0, List.filterMap_nil]
  unfold pD at h
  split at h
  · split at h
    · exact cell _ (by omega) h
    · exact absurd h (by simp)
  · split at h
    · exact cell _ (by omega) h
    · split at h
      · split at h
        · next d =>
          cases Option.some.inj h
          exact dT_1 (v := (33, i + 1, 0)) (q := (i + 1, 1, 0, 0)) (oK_1 (by decide) d.2.2.1.1) rfl (by show i ≤ i + 1; omega) (by show i + 1 < i + 3; omega) eT_rf nT_rf
        · exact absurd h (by simp)
      · split at h
        · split at h
          · next d => exact blk _ _ _ _ (by omega) (by omega) d.2.2.2.1 h
          · exact absurd h (by simp)
        · split at h
          · split at h
            · next d => exact blk _ _ _ _ (by omega) (by omega) d.2.2.1 h
            · exact absurd h (by simp)
          · split at h
            · split at h
              · exact clm _ _ (Or.inl rfl) h
              · exact absurd h (by simp)
            · split at h
              · split at h
                · exact clm _ _ (Or.inr rfl) h
                · exact absurd h (by simp)
              · exact absurd h (by simp)
theorem pAl_dT : ∀ (m : Nat) (n : gN) (i : Nat) (L : gU) (q : gN × Nat × gU), pAl K V m n i L = some q → ∃ N, q.2.2 = L ++ N ∧ (∀ v ∈ N, oK K v) ∧ (N.filterMap (te1 K V)).Pairwise (fun a b => a.1 < b.1) ∧ (∀ a ∈ N.filterMap (te1 K V), i ≤ a.1 ∧ a.1 < q.2.1) ∧ i ≤ q.2.1 := by
  intro m
  induction m with
  | zero => intro n i L q h; exact absurd h (by simp [pAl])
  | succ m ih =>
    intro n i L q h
    rw [pAl] at h
    split at h
    · cases Option.some.inj h
      exact ⟨[], by rw [List.append_nil], fun v hv => (by cases hv), List.Pairwise.nil, fun a ha => (by cases ha), Nat.le_refl _⟩
    · obtain ⟨z, hz, h2⟩ := Option.bind_eq_some_iff.mp h
      have lt := pD_lt hz
      obtain ⟨N1, e1, o1, t1⟩ := pD_dT hz
      obtain ⟨N2, e2, o2, p2, b2, l2⟩ := ih _ _ _ _ h2
      refine ⟨N1 ++ N2, by rw [e2, e1, List.append_assoc], fun v hv => (List.mem_append.mp hv).elim (o1 v) (o2 v), ?_, ?_, by omega⟩
      · rw [List.filterMap_append]
        rcases t1 with t1 | ⟨a, t1, a1, a2⟩
        · rw [t1]; exact p2
        · rw [t1]
          refine List.pairwise_cons.mpr ⟨fun b hb => ?_, p2⟩
          have := b2 b hb
          omega
      · intro a ha
        rw [List.filterMap_append] at ha
        rcases List.mem_append.mp ha with ha | ha
        · rcases t1 with t1 | ⟨b, t1, a1, a2⟩
          · rw [t1] at ha; cases ha
          · rw [t1] at ha
            rw [List.mem_singleton.mp ha]
            omega
        · have := b2 a ha
          omega
end ETL
