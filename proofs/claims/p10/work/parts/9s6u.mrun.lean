/-! the model: a run, with the machine's states that it goes through -/
/-- the state behind k choices of a row -/
noncomputable def runM (C : gCo) (w : Nat) (c : Nat → Nat) : Nat → gMa
  | 0 => fsM C
  | k + 1 => doM C w (runM C w c k) (((chM C w (runM C w c k))[c k]?).getD (0, none, none))
/-- the row of choices done -/
def c96 (z : gd) : Nat → Nat := fun k => (z.1 96 k).toNatClampNeg
def HistC (C : gCo) (w : Nat) (z : gd) : Prop := ∃ (a : Nat → gd) (n : Nat), (n : Int) = (z.1 0 94).toInt ∧ (∀ k : Nat, k ≤ n → AM C w (runM C w (c96 z) k) (a k)) ∧ (∀ k : Nat, k < n → 0 ≤ (z.1 96 k).toInt ∧ c96 z k < (chM C w (runM C w (c96 z) k)).length ∧ Lk (a k) (c96 z k) (a (k + 1))) ∧ eqS (Sm (a n)) (a n) z ∧ St z (z.1 0 68) (a 0) ∧ ((w = 0 ∨ w = 1) ∧ z.1 0 68 = Int32.ofNat w) ∧ HA z
section MRU
variable {G : mG} {d D : Nat} {x z a : gd} {F : Int32 → gd → Prop} {Fv : gd → Prop} {C : gCo} {w : Nat}
theorem runM_s {c : Nat → Nat} {k : Nat} {ch : gCh} (h : (chM C w (runM C w c k))[c k]? = some ch) : runM C w c (k + 1) = doM C w (runM C w c k) ch := by
  rw [runM, h]
  rfl
theorem runM_cg {c c' : Nat → Nat} : ∀ {n : Nat}, (∀ k, k < n → c k = c' k) → runM C w c n = runM C w c' n := by
  intro n
  induction n with
  | zero => intro _; rfl
  | succ n ih =>
    intro h
    rw [runM, runM, ih (fun k hk => h k (by omega)), h n (by omega)]
theorem AM_n {M : gMa} (h : AM C w M a) : (a.1 0 84).toInt = ((chM C w M).length : Nat) := h.2.2.2.2.2.1
theorem wy_i {a : gd} (w01 : w = 0 ∨ w = 1) (h : a.1 0 68 = Int32.ofNat w) : wy01 a := by
  unfold wy01
  rw [h]
  rcases w01 with e | e <;> rw [e]
  · exact Or.inl rfl
  · exact Or.inr rfl
theorem HistC_H (h : HistC C w z) : Hist z := by
  obtain ⟨a, n, q1, q2, q3, q4, q5, q6, q7⟩ := h
  refine ⟨a, n, q1, fun k hk => (q2 k hk).1, fun k hk => ?_, q4, q5, wy_i q6.1 q6.2, q7⟩
  obtain ⟨b1, b2, b3⟩ := q3 k hk
  have e := AM_n (q2 k (by omega))
  have ci := cl_i b1
  have b2 : (z.1 96 k).toNatClampNeg < (chM C w (runM C w (c96 z) k)).length := b2
  exact ⟨b1, by omega, b3⟩
/-- how many choices there are -/
theorem HistC_n (h : HistC C w z) : (z.1 0 84).toInt = ((chM C w (runM C w (c96 z) (z.1 0 94).toInt.toNat)).length : Nat) := by
  obtain ⟨a, n, q1, q2, q3, q4, -⟩ := h
  have e : z.1 0 84 = (a n).1 0 84 := q4 0 84 (Or.inr (Or.inl ⟨rfl, rfl⟩))
  rw [e, ← q1]
  exact AM_n (q2 n (Nat.le_refl _))
theorem HistC_mi {L A : List Nat} {z' : gd} (m : mi L A z z') (hL : [23, 24, 25, 26, 27, 68, 84, 94, 96].all (fun k => !L.elem k) = true) (hA : [36, 37, 38, 51, 52, 54, 55, 56, 57, 58, 59, 60, 61, 62, 64, 65, 66, 70, 71, 72, 73, 74, 75, 76, 77, 78, 79, 80, 81, 82, 86, 87, 88, 96, 98, 99, 100, 103, 106, 107].all (fun k => !A.elem k) = true) (q : HistC C w z) : HistC C w z' := by
  have L2 : ∀ M : List Nat, M.all ([23, 24, 25, 26, 27, 68, 84, 94, 96].elem ·) = true → M.all (fun k => !L.elem k) = true := fun M hM => List.all_eq_true.mpr (fun k hk => List.all_eq_true.mp hL k (List.elem_iff.mp (List.all_eq_true.mp hM k hk)))
  have A2 : ∀ M : List Nat, M.all ([36, 37, 38, 51, 52, 54, 55, 56, 57, 58, 59, 60, 61, 62, 64, 65, 66, 70, 71, 72, 73, 74, 75, 76, 77, 78, 79, 80, 81, 82, 86, 87, 88, 96, 98, 99, 100, 103, 106, 107].elem ·) = true → M.all (fun k => !A.elem k) = true := fun M hM => List.all_eq_true.mpr (fun k hk => List.all_eq_true.mp hA k (List.elem_iff.mp (List.all_eq_true.mp hM k hk)))
  have f := fun k hk => m.1 k (all_no hL k hk)
  obtain ⟨a, n, q1, q2, q3, q4, q5, q6, q7⟩ := q
  have g96 : z'.1 96 = z.1 96 := m.2 96 (by decide) (all_no hA 96 (by decide))
  have c9 : c96 z' = c96 z := by unfold c96; rw [g96]
  refine ⟨a, n, by rw [f 94 (by decide)]; exact q1, by rw [c9]; exact q2, by rw [c9, g96]; exact q3, eqS_mi q4 m (L2 _ rfl) (A2 _ rfl) (ssub_rf _), ?_, by rw [f 68 (by decide)]; exact q6, HA_mi m (L2 _ rfl) (A2 _ rfl) q7⟩
  rw [f 68 (by decide)]
  exact St_pr (prE_mi (prE_rf z) m (L2 _ rfl) (A2 _ rfl)) q5
/-- a choice more -/
theorem sc_more (gc : GC C) (hh : HistC C w z) (hd : (z.1 0 94).toInt < 400) (i : Int32) (i0 : 0 ≤ i.toInt) (i1 : i.toInt < (z.1 0 84).toInt) (hD : 6 ≤ D) (h : ∀ z', HistC C w z' → dF z z' i → Fv z') : MT G D z_doChoice 0 [(0, vr 0), (1, vi i)] [] z (rv Fv) := by
  obtain ⟨s, n, q1, q2, q3, q4, q5, q6, q7⟩ := hh
  have e84 : z.1 0 84 = (s n).1 0 84 := q4 0 84 (Or.inr (Or.inl ⟨rfl, rfl⟩))
  rw [e84] at i1
  have ci := cl_i i0
  have am := q2 n (Nat.le_refl _)
  have en := AM_n am
  have hil : i.toNatClampNeg < (chM C w (runM C w (c96 z) n)).length := by omega
  obtain ⟨ch, hch⟩ : ∃ ch, (chM C w (runM C w (c96 z) n))[i.toNatClampNeg]? = some ch := ⟨_, List.getElem?_eq_getElem hil⟩
  obtain ⟨a', av', lk⟩ := lk_exM gc q6.1 am hch
  refine sp_doChoice am.1 i i0 i1 lk q4 q7 hd hD (fun z' e' ha' df => h z' ?_ df)
  obtain ⟨m, d94, d96, d96b⟩ := df
  have cn : (z.1 0 94).toNatClampNeg = n := by have := cl_i (a := z.1 0 94) (by omega); omega
  rw [cn] at d96 d96b
  have f68 : z'.1 0 68 = z.1 0 68 := m.1 68 (by decide)
  have cE : ∀ k, k < n → c96 z' k = c96 z k := fun k hk => by unfold c96; rw [d96b k (by omega)]
  have cN : c96 z' n = i.toNatClampNeg := by unfold c96; rw [d96]
  have rE : ∀ k, k ≤ n → runM C w (c96 z') k = runM C w (c96 z) k := fun k hk => runM_cg (fun j hj => cE j (by omega))
  have rN : runM C w (c96 z') (n + 1) = doM C w (runM C w (c96 z) n) ch := by
    rw [runM_s (c := c96 z') (k := n) (ch := ch) (by rw [rE n (Nat.le_refl _), cN]; exact hch), rE n (Nat.le_refl _)]
  refine ⟨fun k => if k = n + 1 then a' else s k, n + 1, by omega, fun k hk => ?_, fun k hk => ?_, ?_, ?_, by rw [f68]; exact q6, ha'⟩
  · by_cases c : k = n + 1
    · simp only [if_pos c]; rw [c, rN]; exact av'
    · simp only [if_neg c]; rw [rE k (by omega)]; exact q2 k (by omega)
  · by_cases c : k = n
    · rw [c, d96, cN, rE n (Nat.le_refl _)]
      simp only [if_neg (show ¬ n = n + 1 by omega), if_pos]
      exact ⟨i0, hil, lk⟩
    · rw [d96b k c, cE k (by omega), rE k (by omega)]
      simp only [if_neg (show ¬ k = n + 1 by omega), if_neg (show ¬ k + 1 = n + 1 by omega)]
      exact q3 k (by omega)
  · simp only [if_pos]
    exact e'
  · simp only [if_neg (show ¬ 0 = n + 1 by omega)]
    rw [f68]
    exact St_pr (prE_mi (prE_rf z) m rfl rfl) q5
/-- a run begun -/
theorem sc_startRun (gc : GC C) (cp : CP z) (hK : MK z C) (w01 : w = 0 ∨ w = 1) (hD : 6 ≤ D) (h : ∀ z', HistC C w z' → sF (Int32.ofNat w) z z' → Fv z') : MT G D z_startRun 0 [(0, vr 0), (1, vi (Int32.ofNat w))] [] z (rv Fv) := by
  have hw : Int32.ofNat w = 0 ∨ Int32.ofNat w = 1 := by
    rcases w01 with e | e <;> rw [e]
    · exact Or.inl rfl
    · exact Or.inr rfl
  obtain ⟨a0, am, av, e68, pa, st, _⟩ := start_exM cp hK gc.1 gc.2.1 w01 _ rfl hw
  refine st G D z Fv hD (prE_rf z) (fun z' e sf => h z' ?_ sf)
  obtain ⟨m, f94, ha, f67, f68⟩ := sf
  refine ⟨fun _ => a0, 0, by rw [f94]; rfl, fun k hk => ?_, fun k hk => absurd hk (Nat.not_lt_zero _), e, ?_, ⟨w01, f68⟩, ha⟩
  · have : k = 0 := by omega
    rw [this]; exact am
  · rw [f68]
    exact St_pr (prE_mi (prE_rf z) m rfl rfl) st
end MRU
