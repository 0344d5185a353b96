/-! what is read depends on the tokens up to the last alone -/
def aG (K K' : Nat → Int32) (e : Nat) : Prop := (∀ j, j ≤ e → K j = K' j) ∧ ∀ j, j ≤ e → j < 700 → ¬ K j = 0 → ¬ K j = 3 → j + 1 ≤ e
def cX {α : Type} (e : Nat) (p : α → Nat) (f f' : Option α) : Prop := f = f' ∧ ∀ q, f = some q → p q ≤ e
section CNG
variable {K K' V V' : Nat → Int32} {e : Nat} {α β : Type} {p : α → Nat} {r : β → Nat}
theorem cX_b {f f' : Option α} {g g' : α → Option β} (h : cX e p f f') (k : ∀ q, p q ≤ e → cX e r (g q) (g' q)) : cX e r (f.bind g) (f'.bind g') := by
  obtain ⟨h1, h2⟩ := h
  rw [← h1]
  cases f with
  | none => exact ⟨rfl, fun q hq => by cases hq⟩
  | some q => exact k q (h2 q rfl)
theorem cX_s {q : α} (h : p q ≤ e) : cX e p (some q) (some q) := ⟨rfl, fun z hz => by cases hz; exact h⟩
theorem cX_n : cX e p (none : Option α) none := ⟨rfl, fun q hq => by cases hq⟩
theorem cX_i {c c' : Prop} [Decidable c] [Decidable c'] {f f' g g' : Option α} (hc : c ↔ c') (h1 : c → cX e p f f') (h2 : ¬ c → cX e p g g') : cX e p (if c then f else g) (if c' then f' else g') := by
  by_cases h : c
  · rw [if_pos h, if_pos (hc.mp h)]; exact h1 h
  · rw [if_neg h, if_neg (fun z => h (hc.mpr z))]; exact h2 h
abbrev o1 (q : Nat × gU) : Nat := q.1
abbrev o2 (q : Nat × Nat × gU) : Nat := q.2.1
abbrev o3 (q : gN × Nat × gU) : Nat := q.2.1
theorem aG_k (h : aG K K' e) {j : Nat} (hj : j ≤ e) (w : Int32) : K j = w ↔ K' j = w := by rw [h.1 j hj]
theorem aG_n (h : aG K K' e) {j : Nat} (hj : j ≤ e) (h7 : j < 700) {w : Int32} (k : K j = w) (hw : ¬ w = 0 ∧ ¬ w = 3) : j + 1 ≤ e := h.2 j hj h7 (by rw [k]; exact hw.1) (by rw [k]; exact hw.2)
theorem pt_c (h : aG K K' e) (w : Int32) (hw : ¬ w = 0 ∧ ¬ w = 3) {q : Nat × gU} (hq : q.1 ≤ e) : cX e o1 (pt K w q) (pt K' w q) := by
  unfold pt
  exact cX_i (and_congr (aG_k h hq w) Iff.rfl) (fun c => cX_s (aG_n h hq c.2 c.1 hw)) (fun _ => cX_n)
theorem pan_c {v : Nat × Nat × Nat} {q : Nat × gU} (hq : q.1 ≤ e) : cX e o1 (pan v q) (pan v q) := cX_s hq
abbrev cgo (e : Nat) (f f' : Nat → Nat → gU → gOp) : Prop := ∀ s i L, i ≤ e → cX e o1 (f s i L) (f' s i L)
theorem pst_n {k : Int32} {t : Nat} (h : t < pst k) : ¬ k = 0 ∧ ¬ k = 3 := ⟨fun z => by rw [z] at h; exact absurd h (by show ¬ t < 0; omega), fun z => by rw [z] at h; exact absurd h (by show ¬ t < 0; omega)⟩
theorem pW_c (h : aG K K' e) {rE rE' : Nat → Nat → gU → gOp} (hr : cgo e rE rE') {th : Nat} : ∀ (f j : Nat) (L : gU), j ≤ e → cX e o1 (pW rE K th f j L) (pW rE' K' th f j L) := by
  intro f
  induction f with
  | zero => intro j L _; exact cX_n
  | succ f ih =>
    intro j L hj
    rw [pW, pW, ← h.1 j hj]
    refine cX_i Iff.rfl (fun c => cX_i Iff.rfl (fun c7 => ?_) (fun _ => cX_n)) (fun _ => cX_s hj)
    obtain ⟨n0, n3⟩ := pst_n c
    exact cX_b (hr _ _ _ (h.2 j hj c7 n0 n3)) (fun q hq => ih _ _ hq)
theorem pO_c (h : aG K K' e) {rE rE' : Nat → Nat → gU → gOp} (hr : cgo e rE rE') {o : Bool} {i : Nat} {L : gU} (hi : i ≤ e) : cX e o1 (pO rE K o i L) (pO rE' K' o i L) := by
  unfold pO
  refine cX_i Iff.rfl (fun _ => cX_n) (fun c7 => ?_)
  have c7 : i < 700 := by omega
  refine cX_i (aG_k h hi 2) (fun k => cX_s (aG_n h hi c7 k (by decide))) (fun _ => ?_)
  refine cX_i (aG_k h hi 32) (fun k => cX_s (aG_n h hi c7 k (by decide))) (fun _ => ?_)
  refine cX_i (aG_k h hi 61) (fun k => cX_b (hr _ _ _ (aG_n h hi c7 k (by decide))) (fun q hq => pt_c h 62 (by decide) hq)) (fun _ => ?_)
  refine cX_i (aG_k h hi 1) (fun k => ?_) (fun _ => cX_n)
  have e1 := aG_n h hi c7 k (by decide)
  refine cX_i Iff.rfl (fun _ => ?_) (fun _ => cX_s e1)
  refine cX_i (aG_k h e1 65) (fun k65 => ?_) (fun _ => cX_s e1)
  have key : ∀ {P : Prop}, i + 1 < 700 → ((K (i + 2) = 2 ∧ i + 2 < 700) → P) → (K (i + 2) = 2 ∧ i + 2 < 700) → P := fun _ g k => g k
  have e2 : i + 1 < 700 → i + 2 ≤ e := fun c => aG_n h e1 c k65 (by decide)
  have e3 : i + 1 < 700 → (K (i + 2) = 2 ∧ i + 2 < 700) → i + 3 ≤ e := fun c k2 => aG_n h (e2 c) k2.2 k2.1 (by decide)
  refine cX_i ⟨fun ⟨a, b, c, d⟩ => ⟨a, ⟨(aG_k h (e2 a) 2).mp b.1, b.2⟩, (aG_k h (e3 a b) 66).mp c, d⟩, fun ⟨a, b, c, d⟩ => ?_⟩ (fun ⟨a, b, c, d⟩ => cX_s (aG_n h (e3 a b) d c (by decide))) (fun _ => cX_n)
  have b' : K (i + 2) = 2 ∧ i + 2 < 700 := ⟨(aG_k h (e2 a) 2).mpr b.1, b.2⟩
  exact ⟨a, b', (aG_k h (e3 a b') 66).mpr c, d⟩
theorem pE_c (h : aG K K' e) {o : Bool} : ∀ f : Nat, cgo e (pE K o f) (pE K' o f) := by
  intro f
  induction f with
  | zero => intro s i L _; exact cX_n
  | succ f ih =>
    intro s i L hi
    rw [pE, pE, ← h.1 i hi]
    refine cX_i Iff.rfl (fun c => cX_b (p := o1) ?_ (fun q hq => pW_c h ih _ _ _ hq)) (fun _ => cX_n)
    refine cX_i Iff.rfl (fun k => cX_i Iff.rfl (fun c7 => cX_b (ih _ _ _ ?_) (fun q hq => cX_s hq)) (fun _ => cX_n)) (fun _ => pO_c h ih hi)
    rcases k with k | k
    · exact aG_n h hi c7 k (by decide)
    · exact aG_n h hi c7 k (by decide)
theorem pX_c (h : aG K K' e) {o : Bool} {f i : Nat} {L : gU} (hi : i ≤ e) : cX e o1 (pX K o f i L) (pX K' o f i L) := cX_b (pE_c h f 0 i L hi) (fun q hq => pan_c hq)
theorem pXq_c (h : aG K K' e) {f : Nat} {q : Nat × gU} (hq : q.1 ≤ e) : cX e o1 (pXq K f q) (pXq K' f q) := pX_c h hq
theorem pP_c (h : aG K K' e) {f i : Nat} {L : gU} (hi : i ≤ e) : cX e o1 (pP K f i L) (pP K' f i L) := by
  unfold pP
  refine cX_i (and_congr (aG_k h hi 1) Iff.rfl) (fun c => ?_) (fun _ => cX_n)
  have e1 := aG_n h hi c.2 c.1 (by decide)
  refine cX_i (aG_k h e1 65) (fun k => cX_i Iff.rfl (fun c7 => cX_b (pX_c h (aG_n h e1 c7 k (by decide))) (fun q hq => pt_c h 66 (by decide) hq)) (fun _ => cX_n)) (fun _ => cX_s e1)
theorem pX_7c {o : Bool} {f i : Nat} {L : gU} (h7 : 700 ≤ i) : cX e o1 (pX K o f i L) (pX K' o f i L) := by
  rw [pX_7 h7, pX_7 h7]; exact cX_n
theorem pR_c (h : aG K K' e) {f i : Nat} {t : Option Nat} {L : gU} (hi : i ≤ e) : cX e o1 (pR K f t i L) (pR K' f t i L) := by
  by_cases h7 : 700 ≤ i
  · rw [pR_7 h7, pR_7 h7]; exact cX_n
  have c7 : i < 700 := by omega
  unfold pR
  rw [← h.1 i hi]
  refine cX_i Iff.rfl (fun k => cX_i Iff.rfl (fun _ => ?_) (fun _ => cX_n)) (fun _ => ?_)
  · have e1 : i + 1 ≤ e := by
      rcases k with k | k | k
      · exact aG_n h hi c7 k (by decide)
      · exact aG_n h hi c7 k (by decide)
      · exact aG_n h hi c7 k (by decide)
    refine cX_b (cX_b (cX_b (pP_c h e1) (fun q hq => pt_c h 68 (by decide) hq)) (fun q hq => pXq_c h hq)) (fun q hq => cX_b (p := o1) (cX_i Iff.rfl (fun _ => cX_b (pt_c h 68 (by decide) hq) (fun q hq => pXq_c h hq)) (fun _ => cX_s hq)) (fun q hq => pan_c hq))
  · by_cases k1 : K i = 1
    · have e1 := aG_n h hi c7 k1 (by decide)
      rw [← h.1 (i + 1) e1]
      refine cX_i Iff.rfl (fun _ => cX_b (pP_c h hi) (fun q hq => pan_c hq)) (fun _ => cX_i Iff.rfl (fun _ => cX_i Iff.rfl (fun _ => cX_s e1) (fun _ => cX_n)) (fun _ => cX_b (pX_c h hi) (fun q hq => pan_c hq)))
    · rw [if_neg (fun z => k1 z.1), if_neg (fun z => k1 z.1), if_neg (fun z => k1 z.1), if_neg (fun z => k1 z.1)]
      exact cX_b (pX_c h hi) (fun q hq => pan_c hq)
abbrev cgs (e : Nat) (f f' : Nat → Nat → gU → gTs) : Prop := ∀ c i L, i ≤ e → cX e o2 (f c i L) (f' c i L)
theorem pBl_c (h : aG K K' e) {rS rS' : Nat → Nat → gU → gTs} (hr : cgs e rS rS') {z : Nat} : ∀ (n c i : Nat) (L : gU), i ≤ e → cX e o2 (pBl rS K z n c i L) (pBl rS' K' z n c i L) := by
  intro n
  induction n with
  | zero => intro c i L _; exact cX_n
  | succ n ih =>
    intro c i L hi
    rw [pBl, pBl]
    exact cX_i (aG_k h hi 64) (fun k => cX_i Iff.rfl (fun c7 => cX_s (aG_n h hi c7 k (by decide))) (fun _ => cX_n)) (fun _ => cX_b (hr _ _ _ hi) (fun q hq => ih _ _ _ hq))
theorem pBk_c (h : aG K K' e) {rS rS' : Nat → Nat → gU → gTs} (hr : cgs e rS rS') {z c i : Nat} {L : gU} (hi : i ≤ e) : cX e o2 (pBk rS K z c i L) (pBk rS' K' z c i L) := by
  unfold pBk
  exact cX_i (and_congr (aG_k h hi 63) Iff.rfl) (fun k => pBl_c h hr _ _ _ _ (aG_n h hi k.2 k.1 (by decide))) (fun _ => cX_n)
theorem pEl_c (h : aG K K' e) {rS rS' : Nat → Nat → gU → gTs} (hr : cgs e rS rS') {q : Nat × Nat × gU} (hq : q.2.1 ≤ e) : cX e o2 (pEl rS K q) (pEl rS' K' q) := by
  unfold pEl
  refine cX_i (aG_k h hq 18) (fun k => cX_i Iff.rfl (fun c7 => ?_) (fun _ => cX_n)) (fun _ => cX_s hq)
  have e1 := aG_n h hq c7 k (by decide)
  exact cX_i (aG_k h e1 24) (fun _ => hr _ _ _ e1) (fun _ => pBk_c h hr e1)
theorem pup_c {c : Nat} {v : Nat × Nat × Nat} {f f' : gOp} (h : cX e o1 f f') : cX e o2 (pup c v f) (pup c v f') := cX_b h (fun q hq => cX_s hq)
theorem pS1_c (h : aG K K' e) {f c i : Nat} {L : gU} (hi : i ≤ e) (c7 : i < 700) : cX e o2 (pS1 K f c i L) (pS1 K' f c i L) := by
  unfold pS1
  refine cX_i (aG_k h hi 26) (fun k => ?_) (fun _ => cX_i (aG_k h hi 1) (fun k => ?_) (fun _ => ?_))
  · have e1 := aG_n h hi c7 k (by decide)
    have e2 : (K (i + 1) = 1 ∧ i + 1 < 700) → i + 2 ≤ e := fun z => aG_n h e1 z.2 z.1 (by decide)
    refine cX_i ⟨fun ⟨a, b, d⟩ => ⟨⟨(aG_k h e1 1).mp a.1, a.2⟩, b, (aG_k h (e2 a) 50).mp d.1, d.2⟩, fun ⟨a, b, d⟩ => ?_⟩ (fun ⟨a, b, d⟩ => pup_c (cX_b (pR_c h (aG_n h (e2 a) d.2 d.1 (by decide))) (fun q hq => pt_c h 67 (by decide) hq))) (fun _ => cX_n)
    have a' : K (i + 1) = 1 ∧ i + 1 < 700 := ⟨(aG_k h e1 1).mpr a.1, a.2⟩
    exact ⟨a', b, (aG_k h (e2 a') 50).mpr d.1, d.2⟩
  · have e1 := aG_n h hi c7 k (by decide)
    refine cX_i (aG_k h e1 65) (fun k65 => cX_i Iff.rfl (fun c8 => pup_c ?_) (fun _ => cX_n)) (fun _ => cX_i (and_congr (aG_k h e1 50) Iff.rfl) (fun k50 => pup_c (cX_b (pR_c h (aG_n h e1 k50.2 k50.1 (by decide))) (fun q hq => pt_c h 67 (by decide) hq))) (fun _ => cX_n))
    exact cX_b (cX_b (cX_b (cX_b (pX_c h (aG_n h e1 c8 k65 (by decide))) (fun q hq => pt_c h 66 (by decide) hq)) (fun q hq => pt_c h 50 (by decide) hq)) (fun q hq => pXq_c h hq)) (fun q hq => pt_c h 67 (by decide) hq)
  · have up : ∀ {w : Int32}, K i = w → (¬ w = 0 ∧ ¬ w = 3) → i + 1 ≤ e := fun k hw => aG_n h hi c7 k hw
    rw [← h.1 i hi]
    refine cX_i Iff.rfl (fun k => pup_c (pt_c h 67 (by decide) ?_)) (fun _ => cX_i Iff.rfl (fun k => pup_c (cX_b (pX_c h ?_) (fun q hq => pt_c h 67 (by decide) hq))) (fun _ => cX_i Iff.rfl (fun k => ?_) (fun _ => cX_i Iff.rfl (fun k => ?_) (fun _ => cX_i Iff.rfl (fun k => ?_) (fun _ => cX_n)))))
    · rcases k with k | k | k <;> exact up k (by decide)
    · rcases k with k | k <;> exact up k (by decide)
    · have e1 := up k (by decide)
      have e2 : (K (i + 1) = 2 ∧ i + 1 < 700) → i + 2 ≤ e := fun z => aG_n h e1 z.2 z.1 (by decide)
      refine cX_i ⟨fun ⟨a, d⟩ => ⟨⟨(aG_k h e1 2).mp a.1, a.2⟩, (aG_k h (e2 a) 68).mp d.1, d.2⟩, fun ⟨a, d⟩ => ?_⟩ (fun ⟨a, d⟩ => pup_c (cX_b (pX_c h (aG_n h (e2 a) d.2 d.1 (by decide))) (fun q hq => pt_c h 67 (by decide) hq))) (fun _ => cX_n)
      have a' : K (i + 1) = 2 ∧ i + 1 < 700 := ⟨(aG_k h e1 2).mpr a.1, a.2⟩
      exact ⟨a', (aG_k h (e2 a') 68).mpr d.1, d.2⟩
    · have e1 : i + 1 ≤ e := by rcases k with k | k | k | k | k <;> exact up k (by decide)
      exact cX_i (and_congr (aG_k h e1 1) Iff.rfl) (fun a => pup_c (pt_c h 67 (by decide) (aG_n h e1 a.2 a.1 (by decide)))) (fun _ => cX_n)
    · have e1 : i + 1 ≤ e := by rcases k with k | k <;> exact up k (by decide)
      exact cX_i (and_congr (aG_k h e1 1) Iff.rfl) (fun a => pup_c (pt_c h 67 (by decide) (aG_n h e1 a.2 a.1 (by decide)))) (fun _ => cX_n)
theorem pS_c (h : aG K K' e) : ∀ f : Nat, cgs e (pS K f) (pS K' f) := by
  intro f
  induction f with
  | zero => intro c i L _; exact cX_n
  | succ f ih =>
    intro c i L hi
    rw [pS, pS]
    refine cX_i Iff.rfl (fun _ => cX_n) (fun c7 => ?_)
    have c7 : i < 700 := by omega
    refine cX_i (aG_k h hi 24) (fun k => ?_) (fun _ => cX_i (aG_k h hi 41) (fun k => ?_) (fun _ => cX_i (aG_k h hi 27) (fun k => ?_) (fun _ => pS1_c h hi c7)))
    · exact cX_b (pX_c h (aG_n h hi c7 k (by decide))) (fun q hq => cX_b (p := o2) (cX_b (pBk_c h ih hq) (fun q hq => pEl_c h ih hq)) (fun q hq => cX_s hq))
    · exact cX_b (pX_c h (aG_n h hi c7 k (by decide))) (fun q hq => pBk_c h ih hq)
    · have e1 := aG_n h hi c7 k (by decide)
      exact cX_i (and_congr (aG_k h e1 1) Iff.rfl) (fun a => pBk_c h ih (aG_n h e1 a.2 a.1 (by decide))) (fun _ => cX_n)
theorem pCv_c (h : aG K K' e) {q : Nat × gU} (hq : q.1 ≤ e) : cX e o1 (pCv K q) (pCv K' q) := by
  unfold pCv
  refine cX_i (aG_k h hq 50) (fun k => cX_i Iff.rfl (fun c7 => ?_) (fun _ => cX_n)) (fun _ => cX_s hq)
  have e1 := aG_n h hq c7 k (by decide)
  refine cX_i (aG_k h e1 58) (fun k58 => ?_) (fun _ => cX_i (and_congr (aG_k h e1 2) Iff.rfl) (fun k2 => cX_s (aG_n h e1 k2.2 k2.1 (by decide))) (fun _ => cX_n))
  have e2 : q.1 + 1 < 700 → q.1 + 2 ≤ e := fun z => aG_n h e1 z k58 (by decide)
  exact cX_i ⟨fun ⟨a, b, d⟩ => ⟨a, (aG_k h (e2 a) 2).mp b, d⟩, fun ⟨a, b, d⟩ => ⟨a, (aG_k h (e2 a) 2).mpr b, d⟩⟩ (fun ⟨a, b, d⟩ => cX_s (aG_n h (e2 a) d b (by decide))) (fun _ => cX_n)
theorem prz_c (h : aG K K' e) (hV : ∀ j, j ≤ e → K j = 2 → V j = V' j) {w : Nat} (hw : w ≤ e) : prz K V w = prz K' V' w := by
  unfold prz
  by_cases k : K w = 2
  · rw [h.1 w hw] at k
    rw [← hV w hw (by rw [h.1 w hw]; exact k), h.1 w hw]
  · rw [if_neg (fun z => k z.1), if_neg (fun z => k (by rw [h.1 w hw]; exact z.1))]
theorem pCl_c (h : aG K K' e) (hV : ∀ j, j ≤ e → K j = 2 → V j = V' j) {n i t : Nat} {L : gU} (ht : t - 1 ≤ e) (ht1 : 1 ≤ t) : cX e o2 (pCl K V n i t L) (pCl K' V' n i t L) := by
  have et : (K (t - 1) = 17 ∧ t - 1 < 700) → t ≤ e := fun z => by
    have := aG_n h ht z.2 z.1 (by decide)
    omega
  have e1 : (K (t - 1) = 17 ∧ t - 1 < 700) → (K t = 1 ∧ t < 700) → t + 1 ≤ e := fun a b => aG_n h (et a) b.2 b.1 (by decide)
  unfold pCl
  refine cX_i ⟨fun ⟨a, b, c⟩ => ⟨⟨(aG_k h ht 17).mp a.1, a.2⟩, ⟨(aG_k h (et a) 1).mp b.1, b.2⟩, c⟩, fun ⟨a, b, c⟩ => ?_⟩ (fun ⟨a, b, c⟩ => ?_) (fun _ => cX_n)
  · have a' : K (t - 1) = 17 ∧ t - 1 < 700 := ⟨(aG_k h ht 17).mpr a.1, a.2⟩
    exact ⟨a', ⟨(aG_k h (et a') 1).mpr b.1, b.2⟩, c⟩
  have e1 := e1 a b
  refine cX_i (aG_k h e1 65) (fun k65 => ?_) (fun _ => cX_b (cX_b (pCv_c h e1) (fun q hq => pt_c h 67 (by decide) hq)) (fun q hq => cX_s hq))
  by_cases c7 : t + 1 < 700
  · have e2 := aG_n h e1 c7 k65 (by decide)
    have ep := prz_c h hV e2
    have e3 : (K (t + 2) = 2 ∧ t + 2 < 700) → t + 3 ≤ e := fun z => aG_n h e2 z.2 z.1 (by decide)
    rw [← ep]
    refine cX_i ⟨fun ⟨a, b, c, d⟩ => ⟨a, b, ⟨(aG_k h e2 2).mp c.1, c.2⟩, (aG_k h (e3 c) 66).mp d.1, d.2⟩, fun ⟨a, b, c, d⟩ => ?_⟩ (fun ⟨a, b, c, d⟩ => cX_b (cX_b (pCv_c h (aG_n h (e3 c) d.2 d.1 (by decide))) (fun q hq => pt_c h 67 (by decide) hq)) (fun q hq => cX_s hq)) (fun _ => cX_n)
    have c' : K (t + 2) = 2 ∧ t + 2 < 700 := ⟨(aG_k h e2 2).mpr c.1, c.2⟩
    exact ⟨a, b, c', (aG_k h (e3 c') 66).mpr d.1, d.2⟩
  · rw [if_neg (fun z => c7 z.1), if_neg (fun z => c7 z.1)]
    exact cX_n
theorem pD_c (h : aG K K' e) (hV : ∀ j, j ≤ e → K j = 2 → V j = V' j) {n : gN} {i : Nat} {L : gU} (hi : i ≤ e) : cX e o3 (pD K V n i L) (pD K' V' n i L) := by
  have up : ∀ {w : Int32}, K i = w → (¬ w = 0 ∧ ¬ w = 3) → i < 700 → i + 1 ≤ e := fun k hw c7 => aG_n h hi c7 k hw
  unfold pD
  refine cX_i (aG_k h hi 34) (fun k => cX_i Iff.rfl (fun c7 => ?_) (fun _ => cX_n)) (fun _ => cX_i (aG_k h hi 17) (fun k => ?_) (fun _ => cX_i (aG_k h hi 27) (fun k => ?_) (fun _ => cX_i (aG_k h hi 23) (fun k => ?_) (fun _ => cX_i (aG_k h hi 37) (fun k => ?_) (fun _ => cX_i (aG_k h hi 11) (fun k => ?_) (fun _ => cX_i (aG_k h hi 21) (fun k => ?_) (fun _ => cX_n)))))))
  · exact cX_b (pCl_c h hV (by have := up k (by decide) c7; omega) (by omega)) (fun q hq => cX_s hq)
  · exact cX_b (pCl_c h hV (by omega) (by omega)) (fun q hq => cX_s hq)
  · have e1 : i < 700 → i + 1 ≤ e := up k (by decide)
    have e2 : i < 700 → (K (i + 1) = 1 ∧ i + 1 < 700) → i + 2 ≤ e := fun a b => aG_n h (e1 a) b.2 b.1 (by decide)
    refine cX_i ⟨fun ⟨m, a, b, d⟩ => ⟨m, a, ⟨(aG_k h (e1 a) 1).mp b.1, b.2⟩, (aG_k h (e2 a b) 67).mp d.1, d.2⟩, fun ⟨m, a, b, d⟩ => ?_⟩ (fun ⟨m, a, b, d⟩ => cX_s (aG_n h (e2 a b) d.2 d.1 (by decide))) (fun _ => cX_n)
    have b' : K (i + 1) = 1 ∧ i + 1 < 700 := ⟨(aG_k h (e1 a) 1).mpr b.1, b.2⟩
    exact ⟨m, a, b', (aG_k h (e2 a b') 67).mpr d.1, d.2⟩
  · have e1 : i < 700 → i + 1 ≤ e := up k (by decide)
    have e2 : i < 700 → (K (i + 1) = 37 ∧ i + 1 < 700) → i + 2 ≤ e := fun a b => aG_n h (e1 a) b.2 b.1 (by decide)
    refine cX_i ⟨fun ⟨m, a, b, d⟩ => ⟨m, a, ⟨(aG_k h (e1 a) 37).mp b.1, b.2⟩, (aG_k h (e2 a b) 1).mp d.1, d.2⟩, fun ⟨m, a, b, d⟩ => ?_⟩ (fun ⟨m, a, b, d⟩ => cX_b (pBk_c h (pS_c h 16) (aG_n h (e2 a b) d.2 d.1 (by decide))) (fun q hq => cX_s hq)) (fun _ => cX_n)
    have b' : K (i + 1) = 37 ∧ i + 1 < 700 := ⟨(aG_k h (e1 a) 37).mpr b.1, b.2⟩
    exact ⟨m, a, b', (aG_k h (e2 a b') 1).mpr d.1, d.2⟩
  · have e1 : i < 700 → i + 1 ≤ e := up k (by decide)
    refine cX_i ⟨fun ⟨m, a, d⟩ => ⟨m, a, (aG_k h (e1 a) 1).mp d.1, d.2⟩, fun ⟨m, a, d⟩ => ⟨m, a, (aG_k h (e1 a) 1).mpr d.1, d.2⟩⟩ (fun ⟨m, a, d⟩ => cX_b (pBk_c h (pS_c h 16) (aG_n h (e1 a) d.2 d.1 (by decide))) (fun q hq => cX_s hq)) (fun _ => cX_n)
  · exact cX_i Iff.rfl (fun c => cX_b (cX_b (pX_c h (up k (by decide) c.2)) (fun q hq => pt_c h 67 (by decide) hq)) (fun q hq => cX_s hq)) (fun _ => cX_n)
  · exact cX_i Iff.rfl (fun c => cX_b (cX_b (pX_c h (up k (by decide) c.2)) (fun q hq => pt_c h 67 (by decide) hq)) (fun q hq => cX_s hq)) (fun _ => cX_n)
theorem pAl_c (h : aG K K' e) (hV : ∀ j, j ≤ e → K j = 2 → V j = V' j) : ∀ (m : Nat) (n : gN) (i : Nat) (L : gU), i ≤ e → cX e o3 (pAl K V m n i L) (pAl K' V' m n i L) := by
  intro m
  induction m with
  | zero => intro n i L _; exact cX_n
  | succ m ih =>
    intro n i L hi
    rw [pAl, pAl]
    exact cX_i (aG_k h hi 0) (fun _ => cX_s hi) (fun _ => cX_b (pD_c h hV hi) (fun q hq => ih _ _ _ hq))
end CNG
/-! and so whether there is a fault -/
theorem fM_c {α β : Type} {f g : α → Option β} : ∀ {l : List α}, (∀ a ∈ l, f a = g a) → l.filterMap f = l.filterMap g := by
  intro l
  induction l with
  | nil => intro _; rfl
  | cons a l ih =>
    intro h
    rw [List.filterMap_cons, List.filterMap_cons, h a List.mem_cons_self, ih (fun z hz => h z (List.mem_cons_of_mem _ hz))]
section CNJ
variable {K K' V V' : Nat → Int32} {sN sN' : Nat → Nat → Bool} {e : Nat}
/-- a name that both know -/
def gdN (K' : Nat → Int32) (t : Nat) : Prop := K' t = 1
theorem kfi_c (hs : ∀ a b, gdN K' a → gdN K' b → sN a b = sN' a b) {t : Nat} (ht : gdN K' t) : ∀ {l : gK}, (∀ k ∈ l, gdN K' k.1) → kfi sN l t = kfi sN' l t := by
  intro l
  induction l with
  | nil => intro _; rfl
  | cons k l ih =>
    intro hl
    show (if sN k.1 t = true then some l.length else kfi sN l t) = (if sN' k.1 t = true then some l.length else kfi sN' l t)
    rw [hs _ _ (hl k List.mem_cons_self) ht, ih (fun z hz => hl z (List.mem_cons_of_mem _ hz))]
theorem mtP_c (hs : ∀ a b, gdN K' a → gdN K' b → sN a b = sN' a b) {t w : Nat} (ht : gdN K' t) : ∀ {T : gTd}, (∀ q ∈ T, gdN K' q.1) → mtP sN T w t = mtP sN' T w t := by
  intro T
  unfold mtP
  induction T with
  | nil => intro _; rfl
  | cons q T ih =>
    intro hT
    rw [List.find?_cons, List.find?_cons, hs _ _ (hT q List.mem_cons_self) ht, ih (fun z hz => hT z (List.mem_cons_of_mem _ hz))]
theorem plc_c (hs : ∀ a b, gdN K' a → gdN K' b → sN a b = sN' a b) {T : gTd} (hT : ∀ q ∈ T, gdN K' q.1) {t : Nat} (ht : gdN K' t) : plc sN T t ↔ plc sN' T t := by unfold plc; rw [mtP_c hs ht hT]
theorem rwc_c (hs : ∀ a b, gdN K' a → gdN K' b → sN a b = sN' a b) {T : gTd} (hT : ∀ q ∈ T, gdN K' q.1) {t n : Nat} (ht : gdN K' t) : rwc sN T t n ↔ rwc sN' T t n := by unfold rwc; rw [mtP_c hs ht hT]
theorem fv_c (hs : ∀ a b, gdN K' a → gdN K' b → sN a b = sN' a b) (hV : ∀ j, K' j = 2 → V j = V' j) {T : gTd} (hT : ∀ q ∈ T, gdN K' q.1) {E : gV} (hE : ∀ k ∈ E.1, gdN K' k.1) {v : Nat × Nat × Nat} (hv : oZ K' v) : fv sN T V E v ↔ fv sN' T V' E v := by
  obtain ⟨o1, o2, o3, o4, o5⟩ := hv
  have k1 : v.1 ∈ [3, 6, 7, 22, 23, 24, 25, 26, 31, 32, 33, 34] → kfi sN E.1 v.2.1 = kfi sN' E.1 v.2.1 := fun z => kfi_c hs (o1 z) hE
  have p1 : v.1 ∈ [3, 6, 7, 22, 23, 24, 25, 26, 31, 32, 33, 34] → (plc sN T v.2.1 ↔ plc sN' T v.2.1) := fun z => plc_c hs hT (o1 z)
  unfold fv
  refine or_congr (and_congr_right (fun c => ?_)) (or_congr (and_congr_right (fun c => ?_)) (or_congr (and_congr_right (fun c => ?_)) (or_congr (and_congr_right (fun c => ?_)) (or_congr (and_congr_right (fun c => ?_)) (or_congr (and_congr_right (fun c => ?_)) (or_congr (and_congr_right (fun c => ?_)) (or_congr (and_congr_right (fun c => ?_)) (or_congr (and_congr_right (fun c => ?_)) (or_congr (and_congr_right (fun c => ?_)) (or_congr (and_congr_right (fun c => ?_)) (or_congr (and_congr_right (fun c => ?_)) (and_congr_right (fun c => ?_)))))))))))))
  · rw [k1 (by rw [c]; decide)]
  · rw [p1 (by rw [c]; decide)]
  · exact not_congr (exists_congr (fun n => rwc_c hs hT (o1 (by rw [c]; decide))))
  · obtain ⟨z1, z2⟩ := o4 c
    exact exists_congr (fun n => by rw [rwc_c hs hT z2, hV _ z1])
  · have z := o1 (by rw [c]; decide)
    exact ⟨fun ⟨k, hk, h⟩ => ⟨k, hk, by rw [← hs _ _ (hE k (List.mem_of_mem_take hk)) z]; exact h⟩, fun ⟨k, hk, h⟩ => ⟨k, hk, by rw [hs _ _ (hE k (List.mem_of_mem_take hk)) z]; exact h⟩⟩
  · rw [k1 (by rw [c]; decide), p1 (by rw [c]; decide)]
  · rw [k1 (by rw [c]; decide), p1 (by rw [c]; decide)]
  · rw [k1 (by rw [c]; decide)]
  · obtain ⟨z1, z2⟩ := o2 c
    rw [kfi_c hs z1 hE, kfi_c hs z2 hE, plc_c hs hT z2]
  · obtain ⟨z1, z2⟩ := o2 c
    rw [kfi_c hs z1 hE, plc_c hs hT z1]
  · have z := o3 (by rcases c with c | c <;> rw [c] <;> decide)
    rw [mtP_c hs z hT]
  · have z := o3 (by rw [c]; decide)
    rw [mtP_c hs z hT]
  · have z := o5 (by rw [c]; decide)
    rw [hV _ z]
theorem exV_g {E : gV} (hE : ∀ k ∈ E.1, gdN K' k.1) {v : Nat × Nat × Nat} (hv : v.1 = 22 → K' v.2.1 = 1) : ∀ k ∈ (exV E v).1, gdN K' k.1 := by
  unfold exV
  split
  · exact hE
  · split
    · intro k hk
      exact hE k (List.mem_of_mem_drop hk)
    · split
      · next c =>
        intro k hk
        rcases List.mem_cons.mp hk with z | z
        · rw [z]; exact hv c
        · exact hE k z
      · exact hE
theorem flt_c (hs : ∀ a b, gdN K' a → gdN K' b → sN a b = sN' a b) (hV : ∀ j, K' j = 2 → V j = V' j) {T : gTd} (hT : ∀ q ∈ T, gdN K' q.1) : ∀ {L : gU} {E : gV}, (∀ v ∈ L, oZ K' v) → (∀ k ∈ E.1, gdN K' k.1) → (flt sN T V L E ↔ flt sN' T V' L E) := by
  intro L
  induction L with
  | nil => intro E _ _; exact Iff.rfl
  | cons v L ih =>
    intro E hL hE
    have hv := hL v List.mem_cons_self
    exact or_congr (fv_c hs hV hT hE hv) (ih (fun w hw => hL w (List.mem_cons_of_mem _ hw)) (exV_g hE (fun c => hv.1 (by rw [c]; decide))))
theorem jT_c (hs : ∀ a b, gdN K' a → gdN K' b → sN a b = sN' a b) (hV : ∀ j, K' j = 2 → V j = V' j) {T : gTd} (hT : ∀ q ∈ T, gdN K' q.1) (hT2 : ∀ q ∈ T, 0 < q.2.2.1 → K' q.2.2.2 = 2) : jT sN V T ↔ jT sN' V' T := by
  unfold jT
  refine exists_congr (fun j => exists_congr (fun q => and_congr_right (fun hq => ?_)))
  have hm := List.mem_of_getElem? hq
  unfold tw
  refine or_congr (exists_congr (fun j' => exists_congr (fun q' => and_congr_right (fun _ => and_congr_right (fun hq' => ?_))))) (and_congr_right (fun c => ?_))
  · rw [hs _ _ (hT q' (List.mem_of_getElem? hq')) (hT q hm)]
  · rw [hV _ (hT2 q hm c)]
theorem jFl_c (h : ∀ j, K' j = 1 ∨ K' j = 2 → K j = K' j) (hs : ∀ a b, gdN K' a → gdN K' b → sN a b = sN' a b) (hV : ∀ j, K' j = 2 → V j = V' j) {L : gU} (hL : ∀ v ∈ L, oZ K' v) : jFl sN K V L ↔ jFl sN' K' V' L := by
  have eT : L.filterMap (te1 K V) = L.filterMap (te1 K' V') := by
    refine fM_c (fun v hv => ?_)
    unfold te1
    by_cases c : v.1 = 32
    · have z := (hL v hv).2.2.2.2 (by rw [c]; decide)
      have ep : prz K V v.2.2 = prz K' V' v.2.2 := by
        unfold prz
        rw [h _ (Or.inr z), hV _ z]
      rw [ep]
    · rw [if_neg c, if_neg c]
  have hT : ∀ q ∈ L.filterMap (te1 K' V'), gdN K' q.1 ∧ (0 < q.2.2.1 → K' q.2.2.2 = 2) := fun q hq => by
    obtain ⟨v, hv, ev⟩ := te_mem hq
    obtain ⟨g1, g2, g3⟩ := te_is ev
    refine ⟨?_, fun c => ?_⟩
    · show K' q.1 = 1
      rw [g2]
      exact (hL v hv).1 (by rcases g1 with g | g | g | g <;> rw [g] <;> decide)
    · obtain ⟨z1, z2⟩ := g3 c
      rw [z2]
      exact (hL v hv).2.2.2.2 (by rw [z1]; decide)
  unfold jFl
  rw [eT]
  exact or_congr (jT_c hs hV (fun q hq => (hT q hq).1) (fun q hq => (hT q hq).2)) (flt_c hs hV (fun q hq => (hT q hq).1) hL (fun k hk => by cases hk))
end CNJ
