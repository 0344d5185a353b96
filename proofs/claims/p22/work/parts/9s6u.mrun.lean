section
/-! the model: a run, with the machine's states that it goes through -/
/-- the state behind k choices of a row -/
noncomputable def runM (C : gCo) (w : Nat) (c : Nat → Nat) : Nat → gMa
  | 0 => fsM C
  | k + 1 => doM C w (runM C w c k) (((chM C w (runM C w c k))[c k]?).getD (0, none, none))
/-- the row of choices done -/
def c96 (z : gd) : Nat → Nat := fun k => (z.1 96 k).toNatClampNeg
/-- the row of acts behind k choices -/
noncomputable def joM (C : gCo) (w : Nat) (c : Nat → Nat) : Nat → List gDe
  | 0 => []
  | k + 1 => joM C w c k ++ deM C w (runM C w c k) (((chM C w (runM C w c k))[c k]?).getD (0, none, none))
/-- a choice's doing, with what is told of it -/
def LkJ (C : gCo) (w : Nat) (M : gMa) (a : gd) (i : Nat) (a' : gd) : Prop := ∃ ch, (chM C w M)[i]? = some ch ∧ LkD C w M ch.1 a i a' ∧ a.1 86 i = Int32.ofNat ch.1 ∧ (a.1 87 i = -1 ↔ ch.2.1 = none) ∧ (ch.2.1 = none → srt a ch.1 = Int32.ofNat (soM C (M.2.2 ch.1))) ∧ ch.1 < 6
theorem LkJ_L {C : gCo} {w : Nat} {M : gMa} {a a' : gd} {i : Nat} (h : LkJ C w M a i a') : Lk a i a' := by
  obtain ⟨ch, -, h2, -⟩ := h
  exact LkD_L h2
def HistCo (C : gCo) (w : Nat) (z : gd) : Prop := ∃ (a : Nat → gd) (n : Nat), (n : Int) = (z.1 0 94).toInt ∧ (∀ k : Nat, k ≤ n → AM C w (runM C w (c96 z) k) (a k)) ∧ (∀ k : Nat, k < n → 0 ≤ (z.1 96 k).toInt ∧ c96 z k < (chM C w (runM C w (c96 z) k)).length ∧ LkJ C w (runM C w (c96 z) k) (a k) (c96 z k) (a (k + 1))) ∧ eqS (Sm (a n)) (a n) z ∧ St z (z.1 0 68) (a 0) ∧ ((w = 0 ∨ w = 1) ∧ z.1 0 68 = Int32.ofNat w) ∧ HA z
/-- and the acts are told -/
def MJq (C : gCo) (w : Nat) (z : gd) : Prop := MJo z (joM C w (c96 z) (z.1 0 94).toInt.toNat)
def HistC (C : gCo) (w : Nat) (z : gd) : Prop := HistCo C w z ∧ MJq C w z
section MRU
variable {G : mG} {d D : Nat} {x z a : gd} {F : Int32 → gd → Prop} {Fv : gd → Prop} {C : gCo} {w : Nat}
theorem runM_s {c : Nat → Nat} {k : Nat} {ch : gCh} (h : (chM C w (runM C w c k))[c k]? = some ch) : runM C w c (k + 1) = doM C w (runM C w c k) ch := by
  rw [runM, h]
  rfl
theorem runM_cg {c c' : Nat → Nat} : ∀ {n : Nat}, (∀ k, k < n → c k = c' k) → runM C w c n = runM C w c' n := by
  intro n
  induction n with
  | zero => intro _; rfl
  | succ n ih =>
    intro h
    rw [runM, runM, ih (fun k hk => h k (by omega)), h n (by omega)]
theorem joM_s {c : Nat → Nat} {k : Nat} {ch : gCh} (h : (chM C w (runM C w c k))[c k]? = some ch) : joM C w c (k + 1) = joM C w c k ++ deM C w (runM C w c k) ch := by
  rw [joM, h]
  rfl
theorem joM_cg {c c' : Nat → Nat} : ∀ {n : Nat}, (∀ k, k < n → c k = c' k) → joM C w c n = joM C w c' n := by
  intro n
  induction n with
  | zero => intro _; rfl
  | succ n ih =>
    intro h
    rw [joM, joM, ih (fun k hk => h k (by omega)), runM_cg (fun k hk => h k (by omega)), h n (by omega)]
theorem AM_n {M : gMa} (h : AM C w M a) : (a.1 0 84).toInt = ((chM C w M).length : Nat) := h.2.2.2.2.2.1
theorem wy_i {a : gd} (w01 : w = 0 ∨ w = 1) (h : a.1 0 68 = Int32.ofNat w) : wy01 a := by
  unfold wy01
  rw [h]
  rcases w01 with e | e <;> rw [e]
  · exact Or.inl rfl
  · exact Or.inr rfl
theorem HistC_H (h : HistC C w z) : Hist z := by
  obtain ⟨a, n, q1, q2, q3, q4, q5, q6, q7⟩ := h.1
  refine ⟨a, n, q1, fun k hk => (q2 k hk).1, fun k hk => ?_, q4, q5, wy_i q6.1 q6.2, q7⟩
  obtain ⟨b1, b2, b3⟩ := q3 k hk
  have e := AM_n (q2 k (by omega))
  have ci := cl_i b1
  have b2 : (z.1 96 k).toNatClampNeg < (chM C w (runM C w (c96 z) k)).length := b2
  exact ⟨b1, by omega, LkJ_L b3⟩
/-- how many choices there are -/
theorem HistC_n (h : HistC C w z) : (z.1 0 84).toInt = ((chM C w (runM C w (c96 z) (z.1 0 94).toInt.toNat)).length : Nat) := by
  obtain ⟨a, n, q1, q2, q3, q4, -⟩ := h.1
  have e : z.1 0 84 = (a n).1 0 84 := q4 0 84 (Or.inr (Or.inl ⟨rfl, rfl⟩))
  rw [e, ← q1]
  exact AM_n (q2 n (Nat.le_refl _))
theorem MJq_mi {L A : List Nat} {z' : gd} (m : mi L A z z') (hL : [94, 96].all (fun k => !L.elem k) = true) (hA : [96, 98, 99, 100, 101, 102, 103].all (fun k => !A.elem k) = true) (q : MJq C w z) : MJq C w z' := by
  have c9 : c96 z' = c96 z := by unfold c96; rw [m.2 96 (by decide) (all_no hA 96 (by decide))]
  unfold MJq
  rw [c9, m.1 94 (all_no hL 94 (by decide))]
  exact MJo_mi m (all_sub hL rfl) (all_sub hA rfl) q
theorem HistC_mi {L A : List Nat} {z' : gd} (m : mi L A z z') (hL : [23, 24, 25, 26, 27, 68, 84, 94, 96].all (fun k => !L.elem k) = true) (hA : [36, 37, 38, 51, 52, 54, 55, 56, 57, 58, 59, 60, 61, 62, 64, 65, 66, 70, 71, 72, 73, 74, 75, 76, 77, 78, 79, 80, 81, 82, 86, 87, 88, 96, 98, 99, 100, 101, 102, 103, 106, 107].all (fun k => !A.elem k) = true) (q : HistC C w z) : HistC C w z' := by
  have L2 : ∀ M : List Nat, M.all ([23, 24, 25, 26, 27, 68, 84, 94, 96].elem ·) = true → M.all (fun k => !L.elem k) = true := fun M hM => List.all_eq_true.mpr (fun k hk => List.all_eq_true.mp hL k (List.elem_iff.mp (List.all_eq_true.mp hM k hk)))
  have A2 : ∀ M : List Nat, M.all ([36, 37, 38, 51, 52, 54, 55, 56, 57, 58, 59, 60, 61, 62, 64, 65, 66, 70, 71, 72, 73, 74, 75, 76, 77, 78, 79, 80, 81, 82, 86, 87, 88, 96, 98, 99, 100, 101, 102, 103, 106, 107].elem ·) = true → M.all (fun k => !A.elem k) = true := fun M hM => List.all_eq_true.mpr (fun k hk => List.all_eq_true.mp hA k (List.elem_iff.mp (List.all_eq_true.mp hM k hk)))
  have f := fun k hk => m.1 k (all_no hL k hk)
  refine ⟨?_, MJq_mi m (L2 _ rfl) (A2 _ rfl) q.2⟩
  obtain ⟨a, n, q1, q2, q3, q4, q5, q6, q7⟩ := q.1
  have g96 : z'.1 96 = z.1 96 := m.2 96 (by decide) (all_no hA 96 (by decide))
  have c9 : c96 z' = c96 z := by unfold c96; rw [g96]
  refine ⟨a, n, by rw [f 94 (by decide)]; exact q1, by rw [c9]; exact q2, by rw [c9, g96]; exact q3, eqS_mi q4 m (L2 _ rfl) (A2 _ rfl) (ssub_rf _), ?_, by rw [f 68 (by decide)]; exact q6, HA_mi m (L2 _ rfl) (A2 _ rfl) q7⟩
  rw [f 68 (by decide)]
  exact St_pr (prE_mi (prE_rf z) m (L2 _ rfl) (A2 _ rfl)) q5
theorem srt_so2 {M : gMa} {t : Nat} (hN : NC C) (am : AM C w M a) (ht : t < 6) (h1 : a.1 73 t = 1) (h2 : ¬ a.1 77 t = 1) : srt a t = Int32.ofNat (soM C (M.2.2 t)) ∧ soM C (M.2.2 t) < 22 := by
  obtain ⟨av, hK, hM, hI, wy, -⟩ := am
  obtain ⟨kv, kn, so, -⟩ := RI_step av.1 ht h1
  obtain ⟨m73, l73, m75, m74, m77, l77, -⟩ := hM.2.2 t ht
  have kK : (a.1 74 t).toNatClampNeg = (M.2.2 t).2.2.1 := by rw [t_cl, m74]; rfl
  have l52 : (a.1 0 52).toInt = C.1.length := hK.1.1
  obtain ⟨st, hst⟩ : ∃ st, C.1[(M.2.2 t).2.2.1]? = some st := ⟨_, List.getElem?_eq_getElem (by omega)⟩
  have esN := stN_is hst
  obtain ⟨k54, k55, -⟩ := hK.1.2 _ st hst
  have ns := hN.1 _ st hst
  have o16 : st.1 < 16 := by
    have b := ((av.1.2 t ht).1.2.2 h1).2
    rw [kK, k54] at b
    exact (mWh_i st.1 ns.1.1).1.mp b
  obtain ⟨w2, w1', w0'⟩ := wai_2 _ (show (M.2.2 t).2.2.2.1 < 3 by omega)
  rw [← m77] at w2 w1' w0'
  unfold srt soM
  rw [esN]
  by_cases c9 : a.1 77 t = 2
  · rw [if_pos c9, if_neg (by have := w2.mp c9; omega)]
    exact ⟨rfl, by decide⟩
  · have z0 : (M.2.2 t).2.2.2.1 = 0 := by
      have a1 : ¬ (M.2.2 t).2.2.2.1 = 2 := fun z => c9 (w2.mpr z)
      have a2 : ¬ (M.2.2 t).2.2.2.1 = 1 := fun z => h2 (w1'.mpr z)
      omega
    rw [if_neg c9, if_pos z0, kK]
    exact ⟨k55 o16, by omega⟩
/-- a choice as the memory has it -/
theorem AM_ch {M : gMa} {i : Nat} {ch : gCh} (hN : NC C) (h : AM C w M a) (hch : (chM C w M)[i]? = some ch) : a.1 86 i = Int32.ofNat ch.1 ∧ (a.1 87 i = -1 ↔ ch.2.1 = none) ∧ (ch.2.1 = none → srt a ch.1 = Int32.ofNat (soM C (M.2.2 ch.1))) ∧ ch.1 < 6 := by
  obtain ⟨⟨ri, wy, chv, c0, c84, fa⟩, hK, hM, hI, w68, hE⟩ := h
  have hi : (i : Int) < (a.1 0 84).toInt := by have := gt_lt hch; rw [hE.1]; omega
  obtain ⟨_, _, _, ⟨t0, t6⟩, co⟩ := chv i hi
  obtain ⟨e86, e87, e88⟩ := hE.2 i ch hch
  obtain ⟨i1, i2, i3⟩ := ch_in (List.mem_of_getElem? hch)
  have l25 : (a.1 0 25).toInt = C.2.1.length := hK.2.1.1
  have b25 := ri.1.1.2.2.2.2.2.1
  have c6 : ch.1 < 6 := by omega
  refine ⟨e86, ⟨fun c => ?_, fun c => by rw [c] at e87; exact e87⟩, fun cn => ?_, c6⟩
  · cases h9 : ch.2.1 with
    | none => rfl
    | some j =>
      have j8 : j < 9 := by
        have := i3 j h9
        have q := (ri.2 ch.1 c6).2.2.2.1
        have := (hM.2.2 ch.1 c6).2.2.2.2.2.2.2.2.1.1
        omega
      rw [h9] at e87
      rw [e87] at c
      have c : Int32.ofNat j = -1 := c
      have : ∀ n, n < 9 → ¬ Int32.ofNat n = -1 := by decide +kernel
      exact absurd c (this j j8)
  · obtain ⟨g1, -, -, -, g5, g6, -⟩ := hM.2.2 ch.1 c6
    obtain ⟨-, w1, -⟩ := wai_2 _ (show (M.2.2 ch.1).2.2.2.1 < 3 by omega)
    exact (srt_so2 hN ⟨⟨ri, wy, chv, c0, c84, fa⟩, hK, hM, hI, w68, hE⟩ c6 (by rw [g1, (i2 cn).1]; rfl) (fun z9 => (i2 cn).2.1 (w1.mp (by rw [← g5]; exact z9)))).1
/-- a choice more -/
theorem sc_more (gc : GC C) (hh : HistC C w z) (hd : (z.1 0 94).toInt < 400) (i : Int32) (i0 : 0 ≤ i.toInt) (i1 : i.toInt < (z.1 0 84).toInt) (hD : 6 ≤ D) (h : ∀ z', HistC C w z' → dF z z' i → Fv z') : MT G D z_doChoice 0 [(0, vr 0), (1, vi i)] [] z (rv Fv) := by
  obtain ⟨⟨s, n, q1, q2, q3, q4, q5, q6, q7⟩, hJ⟩ := hh
  have e84 : z.1 0 84 = (s n).1 0 84 := q4 0 84 (Or.inr (Or.inl ⟨rfl, rfl⟩))
  rw [e84] at i1
  have ci := cl_i i0
  have am := q2 n (Nat.le_refl _)
  have en := AM_n am
  have hil : i.toNatClampNeg < (chM C w (runM C w (c96 z) n)).length := by omega
  obtain ⟨ch, hch⟩ : ∃ ch, (chM C w (runM C w (c96 z) n))[i.toNatClampNeg]? = some ch := ⟨_, List.getElem?_eq_getElem hil⟩
  obtain ⟨a', av', lk⟩ := lk_exM gc q6.1 am hch
  have e13 := AM_ch gc.1 am hch
  refine sp_doChoiceJ am.1 i i0 i1 lk e13.1 e13.2.1 e13.2.2.1 e13.2.2.2 q4 q7 hd hD (fun z' e' ha' df jm => h z' ⟨?_, ?_⟩ df)
  rotate_left
  · obtain ⟨m, d94, d96, d96b⟩ := df
    have cn : (z.1 0 94).toNatClampNeg = n := by have := cl_i (a := z.1 0 94) (by omega); omega
    rw [cn] at d96 d96b
    have cE : ∀ k, k < n → c96 z' k = c96 z k := fun k hk => by unfold c96; rw [d96b k (by omega)]
    have cN : c96 z' n = i.toNatClampNeg := by unfold c96; rw [d96]
    have e1 : (z'.1 0 94).toInt.toNat = n + 1 := by omega
    have e0 : (z.1 0 94).toInt.toNat = n := by omega
    unfold MJq at hJ ⊢
    rw [e0] at hJ
    have rE : runM C w (c96 z') n = runM C w (c96 z) n := runM_cg cE
    have hch' : (chM C w (runM C w (c96 z') n))[c96 z' n]? = some ch := by rw [rE, cN]; exact hch
    rw [e1, joM_s hch', joM_cg cE, rE]
    refine MJo_next hJ jm ?_
    by_cases c9 : ch.2.1 = none
    · exact Or.inr ⟨_, deM_a c9⟩
    · exact Or.inl (deM_l c9)
  obtain ⟨m, d94, d96, d96b⟩ := df
  have cn : (z.1 0 94).toNatClampNeg = n := by have := cl_i (a := z.1 0 94) (by omega); omega
  rw [cn] at d96 d96b
  have f68 : z'.1 0 68 = z.1 0 68 := m.1 68 (by decide)
  have cE : ∀ k, k < n → c96 z' k = c96 z k := fun k hk => by unfold c96; rw [d96b k (by omega)]
  have cN : c96 z' n = i.toNatClampNeg := by unfold c96; rw [d96]
  have rE : ∀ k, k ≤ n → runM C w (c96 z') k = runM C w (c96 z) k := fun k hk => runM_cg (fun j hj => cE j (by omega))
  have rN : runM C w (c96 z') (n + 1) = doM C w (runM C w (c96 z) n) ch := by
    rw [runM_s (c := c96 z') (k := n) (ch := ch) (by rw [rE n (Nat.le_refl _), cN]; exact hch), rE n (Nat.le_refl _)]
  refine ⟨fun k => if k = n + 1 then a' else s k, n + 1, by omega, fun k hk => ?_, fun k hk => ?_, ?_, ?_, by rw [f68]; exact q6, ha'⟩
  · by_cases c : k = n + 1
    · simp only [if_pos c]; rw [c, rN]; exact av'
    · simp only [if_neg c]; rw [rE k (by omega)]; exact q2 k (by omega)
  · by_cases c : k = n
    · rw [c, d96, cN, rE n (Nat.le_refl _)]
      simp only [if_neg (show ¬ n = n + 1 by omega), if_pos]
      exact ⟨i0, hil, ch, hch, lk, e13⟩
    · rw [d96b k c, cE k (by omega), rE k (by omega)]
      simp only [if_neg (show ¬ k = n + 1 by omega), if_neg (show ¬ k + 1 = n + 1 by omega)]
      exact q3 k (by omega)
  · simp only [if_pos]
    exact e'
  · simp only [if_neg (show ¬ 0 = n + 1 by omega)]
    rw [f68]
    exact St_pr (prE_mi (prE_rf z) m rfl rfl) q5
/-- a run begun -/
theorem sc_startRun (gc : GC C) (cp : CP z) (hK : MK z C) (w01 : w = 0 ∨ w = 1) (hD : 6 ≤ D) (h : ∀ z', HistC C w z' → sF (Int32.ofNat w) z z' → Fv z') : MT G D z_startRun 0 [(0, vr 0), (1, vi (Int32.ofNat w))] [] z (rv Fv) := by
  have hw : Int32.ofNat w = 0 ∨ Int32.ofNat w = 1 := by
    rcases w01 with e | e <;> rw [e]
    · exact Or.inl rfl
    · exact Or.inr rfl
  obtain ⟨a0, am, av, e68, pa, st, _⟩ := start_exM cp hK gc.1 gc.2.1 w01 _ rfl hw
  refine st G D z Fv hD (prE_rf z) (fun z' e sf => h z' ⟨?_, ?_⟩ sf)
  rotate_left
  · unfold MJq
    obtain ⟨-, f94, ha, -⟩ := sf
    have k0 : (0 : Int32).toInt = 0 := rfl
    have a96 : (z'.1 0 96).toInt = 0 := by
      have h1 := ha.1
      have h2 := ha.2.1
      rw [f94, k0] at h2
      omega
    rw [f94]
    exact ⟨by rw [a96]; rfl, fun a e hae => (jo_nil hae).elim⟩
  obtain ⟨m, f94, ha, f67, f68⟩ := sf
  refine ⟨fun _ => a0, 0, by rw [f94]; rfl, fun k hk => ?_, fun k hk => absurd hk (Nat.not_lt_zero _), e, ?_, ⟨w01, f68⟩, ha⟩
  · have : k = 0 := by omega
    rw [this]; exact am
  · rw [f68]
    exact St_pr (prE_mi (prE_rf z) m rfl rfl) st
end MRU
end
section
/-! the cells of a row are sure all, or none -/
def n8T (L L' : gU) : Prop := ∃ N, L' = L ++ N ∧ ∀ v ∈ N, ¬ (v.1 = 31 ∨ v.1 = 32 ∨ 80 ≤ v.1)
section NT8
variable {K : Nat → Int32} {L L' L2 : gU} {o : Bool}
theorem n8T_rf : n8T L L := ⟨[], by rw [List.append_nil], fun _ h => by cases h⟩
theorem n8T_tr (h : n8T L L') (g : n8T L' L2) : n8T L L2 := by
  obtain ⟨N, e, h⟩ := h
  obtain ⟨N2, e2, g⟩ := g
  exact ⟨N ++ N2, by rw [e2, e, List.append_assoc], fun v hv => (List.mem_append.mp hv).elim (h v) (g v)⟩
theorem n8T_k {k a b : Nat} (h : ¬ (k = 31 ∨ k = 32 ∨ 80 ≤ k)) : n8T L (L ++ [(k, a, b)]) := ⟨_, rfl, fun v hv => by rw [List.mem_singleton.mp hv]; exact h⟩
theorem n8T_k2 {k a b k' a' b' : Nat} (h : ¬ (k = 31 ∨ k = 32 ∨ 80 ≤ k)) (h' : ¬ (k' = 31 ∨ k' = 32 ∨ 80 ≤ k')) : n8T L (L ++ [(k, a, b), (k', a', b')]) := ⟨_, rfl, fun v hv => by
  rcases List.mem_cons.mp hv with e | e
  · rw [e]; exact h
  · rw [List.mem_singleton.mp e]; exact h'⟩
theorem pt_n8T {w : Int32} {q r : Nat × gU} (h : pt K w q = some r) : n8T q.2 r.2 := by
  obtain ⟨-, -, e⟩ := pt_is h
  rw [e]; exact n8T_rf
theorem pan_n8T {v : Nat × Nat × Nat} {q r : Nat × gU} (hv : ¬ (v.1 = 31 ∨ v.1 = 32 ∨ 80 ≤ v.1)) (h : pan v q = some r) : n8T q.2 r.2 := by
  unfold pan at h
  cases Option.some.inj h
  exact n8T_k hv
abbrev ng8 (rE : Nat → Nat → gU → gOp) : Prop := ∀ s i L q, rE s i L = some q → n8T L q.2
theorem pW_n8T {rE : Nat → Nat → gU → gOp} {th : Nat} (hr : ng8 rE) : ∀ (f j : Nat) (L : gU) (q : Nat × gU), pW rE K th f j L = some q → n8T L q.2 := by
  intro f
  induction f with
  | zero => intro j L q h; exact absurd h (by simp [pW])
  | succ f ih =>
    intro j L q h
    rw [pW] at h
    split at h
    · split at h
      · obtain ⟨z, hz, h2⟩ := Option.bind_eq_some_iff.mp h
        exact n8T_tr (hr _ _ _ _ hz) (n8T_tr (n8T_k (by decide)) (ih _ _ _ h2))
      · exact absurd h (by simp)
    · cases Option.some.inj h; exact n8T_rf
theorem pO_n8T {rE : Nat → Nat → gU → gOp} (hr : ng8 rE) {i : Nat} {q : Nat × gU} (h : pO rE K o i L = some q) : n8T L q.2 := by
  unfold pO at h
  split at h
  · exact absurd h (by simp)
  · split at h
    · cases Option.some.inj h; exact n8T_k (by decide)
    · split at h
      · cases Option.some.inj h; exact n8T_k (by decide)
      · split at h
        · obtain ⟨z, hz, h2⟩ := Option.bind_eq_some_iff.mp h
          exact n8T_tr (hr _ _ _ _ hz) (pt_n8T h2)
        · split at h
          · split at h
            · split at h
              · split at h
                · cases Option.some.inj h; exact n8T_k2 (by decide) (by decide)
                · exact absurd h (by simp)
              · cases Option.some.inj h; exact n8T_k (by decide)
            · cases Option.some.inj h; exact n8T_k (by decide)
          · exact absurd h (by simp)
theorem pE_n8T : ∀ f : Nat, ng8 (pE K o f) := by
  intro f
  induction f with
  | zero => intro s i L q h; exact absurd h (by simp [pE])
  | succ f ih =>
    intro s i L q h
    rw [pE] at h
    split at h
    · obtain ⟨z, hz, h2⟩ := Option.bind_eq_some_iff.mp h
      refine n8T_tr ?_ (pW_n8T ih _ _ _ _ h2)
      split at hz
      · split at hz
        · obtain ⟨y, hy, h3⟩ := Option.bind_eq_some_iff.mp hz
          cases Option.some.inj h3
          exact n8T_tr (ih _ _ _ _ hy) (n8T_k (by decide))
        · exact absurd hz (by simp)
      · exact pO_n8T ih hz
    · exact absurd h (by simp)
theorem pX_n8T {f i : Nat} {q : Nat × gU} (h : pX K o f i L = some q) : n8T L q.2 := by
  obtain ⟨z, hz, h2⟩ := Option.bind_eq_some_iff.mp h
  exact n8T_tr (pE_n8T f _ _ _ _ hz) (pan_n8T (show ¬ (54 = 31 ∨ 54 = 32 ∨ 80 ≤ 54) by decide) h2)
theorem pXq_n8T {f : Nat} {r q : Nat × gU} (h : pXq K f r = some q) : n8T r.2 q.2 := pX_n8T h
theorem pP_n8T {f i : Nat} {q : Nat × gU} (h : pP K f i L = some q) : n8T L q.2 := by
  unfold pP at h
  split at h
  · split at h
    · split at h
      · obtain ⟨z, hz, h2⟩ := Option.bind_eq_some_iff.mp h
        exact n8T_tr (n8T_tr (n8T_k (by decide)) (pX_n8T hz)) (pt_n8T h2)
      · exact absurd h (by simp)
    · cases Option.some.inj h; exact n8T_k (by decide)
  · exact absurd h (by simp)
theorem pme_n8T {t : Option Nat} : n8T L (L ++ pme t) := by
  cases t with
  | none => rw [pme, List.append_nil]; exact n8T_rf
  | some t => exact n8T_k (by decide)
theorem pma_n8T {t : Option Nat} : n8T L (L ++ pma t) := by
  cases t with
  | none => rw [pma, List.append_nil]; exact n8T_rf
  | some t => exact n8T_k (by decide)
theorem pal_n8T {t : Option Nat} {i : Nat} : n8T L (L ++ [pal t i]) := by
  cases t with
  | none => exact n8T_k (by decide)
  | some t => exact n8T_k (by decide)
theorem pR_n8T {f i : Nat} {t : Option Nat} {q : Nat × gU} (h : pR K f t i L = some q) : n8T L q.2 := by
  unfold pR at h
  split at h
  · split at h
    · obtain ⟨z4, hz4, h4⟩ := Option.bind_eq_some_iff.mp h
      obtain ⟨z3, hz3, h3⟩ := Option.bind_eq_some_iff.mp hz4
      obtain ⟨z2, hz2, h2⟩ := Option.bind_eq_some_iff.mp hz3
      obtain ⟨z5, hz5, h5⟩ := Option.bind_eq_some_iff.mp h4
      have d : n8T z5.2 q.2 := pan_n8T (show ¬ (74 = 31 ∨ 74 = 32 ∨ 80 ≤ 74) by decide) h5
      have a : n8T L z4.2 := n8T_tr (n8T_tr (n8T_tr pme_n8T (pP_n8T hz2)) (pt_n8T h2)) (pXq_n8T h3)
      split at hz5
      · obtain ⟨z6, hz6, h6⟩ := Option.bind_eq_some_iff.mp hz5
        exact n8T_tr (n8T_tr (n8T_tr a (pt_n8T hz6)) (pXq_n8T h6)) d
      · cases Option.some.inj hz5; exact n8T_tr a d
    · exact absurd h (by simp)
  · split at h
    · obtain ⟨z, hz, h2⟩ := Option.bind_eq_some_iff.mp h
      exact n8T_tr (n8T_tr pme_n8T (pP_n8T hz)) (pan_n8T (show ¬ (75 = 31 ∨ 75 = 32 ∨ 80 ≤ 75) by decide) h2)
    · split at h
      · split at h
        · cases Option.some.inj h; exact pal_n8T
        · exact absurd h (by simp)
      · obtain ⟨z, hz, h2⟩ := Option.bind_eq_some_iff.mp h
        exact n8T_tr (n8T_tr pma_n8T (pX_n8T hz)) (pan_n8T (show ¬ (76 = 31 ∨ 76 = 32 ∨ 80 ≤ 76) by decide) h2)
abbrev nh8 (rS : Nat → Nat → gU → gTs) : Prop := ∀ c i L q, rS c i L = some q → n8T L q.2.2
theorem pBl_n8T {rS : Nat → Nat → gU → gTs} {z : Nat} (hr : nh8 rS) : ∀ (n c i : Nat) (L : gU) (q : Nat × Nat × gU), pBl rS K z n c i L = some q → n8T L q.2.2 := by
  intro n
  induction n with
  | zero => intro c i L q h; exact absurd h (by simp [pBl])
  | succ n ih =>
    intro c i L q h
    rw [pBl] at h
    split at h
    · split at h
      · cases Option.some.inj h; exact n8T_k (by decide)
      · exact absurd h (by simp)
    · obtain ⟨y, hy, h2⟩ := Option.bind_eq_some_iff.mp h
      exact n8T_tr (hr _ _ _ _ hy) (ih _ _ _ _ h2)
theorem pBk_n8T {rS : Nat → Nat → gU → gTs} {z : Nat} (hr : nh8 rS) {c i : Nat} {q : Nat × Nat × gU} (h : pBk rS K z c i L = some q) : n8T L q.2.2 := by
  unfold pBk at h
  split at h
  · exact n8T_tr (n8T_k (by decide)) (pBl_n8T hr _ _ _ _ _ h)
  · exact absurd h (by simp)
theorem pEl_n8T {rS : Nat → Nat → gU → gTs} (hr : nh8 rS) {q r : Nat × Nat × gU} (h : pEl rS K q = some r) : n8T q.2.2 r.2.2 := by
  unfold pEl at h
  split at h
  · split at h
    · split at h
      · exact n8T_tr (n8T_k (by decide)) (hr _ _ _ _ h)
      · exact n8T_tr (n8T_k (by decide)) (pBk_n8T hr h)
    · exact absurd h (by simp)
  · cases Option.some.inj h; exact n8T_rf
theorem pup_n8T {c : Nat} {v : Nat × Nat × Nat} {r : gOp} {q : Nat × Nat × gU} (hv : ¬ (v.1 = 31 ∨ v.1 = 32 ∨ 80 ≤ v.1)) (h : pup c v r = some q) : ∃ z, r = some z ∧ n8T z.2 q.2.2 := by
  unfold pup at h
  obtain ⟨z, hz, e⟩ := Option.bind_eq_some_iff.mp h
  cases Option.some.inj e
  exact ⟨z, hz, n8T_k hv⟩
theorem pS1_n8T {f c i : Nat} {q : Nat × Nat × gU} (h : pS1 K f c i L = some q) : n8T L q.2.2 := by
  unfold pS1 at h
  split at h
  · split at h
    · obtain ⟨z, h, g⟩ := pup_n8T (show ¬ (22 = 31 ∨ 22 = 32 ∨ 80 ≤ 22) by decide) h
      obtain ⟨y, hy, h2⟩ := Option.bind_eq_some_iff.mp h
      exact n8T_tr (n8T_tr (n8T_tr (n8T_k (by decide)) (pR_n8T hy)) (pt_n8T h2)) g
    · exact absurd h (by simp)
  · split at h
    · split at h
      · split at h
        · obtain ⟨z, h, g⟩ := pup_n8T (show ¬ (78 = 31 ∨ 78 = 32 ∨ 80 ≤ 78) by decide) h
          obtain ⟨y5, hy5, h5⟩ := Option.bind_eq_some_iff.mp h
          obtain ⟨y4, hy4, h4⟩ := Option.bind_eq_some_iff.mp hy5
          obtain ⟨y3, hy3, h3⟩ := Option.bind_eq_some_iff.mp hy4
          obtain ⟨y2, hy2, h2⟩ := Option.bind_eq_some_iff.mp hy3
          exact n8T_tr (n8T_tr (n8T_tr (n8T_tr (n8T_tr (n8T_tr (n8T_k (by decide)) (pX_n8T hy2)) (pt_n8T h2)) (pt_n8T h3)) (pXq_n8T h4)) (pt_n8T h5)) g
        · exact absurd h (by simp)
      · split at h
        · obtain ⟨z, h, g⟩ := pup_n8T (show ¬ (77 = 31 ∨ 77 = 32 ∨ 80 ≤ 77) by decide) h
          obtain ⟨y2, hy2, h2⟩ := Option.bind_eq_some_iff.mp h
          exact n8T_tr (n8T_tr (pR_n8T hy2) (pt_n8T h2)) g
        · exact absurd h (by simp)
    · split at h
      · obtain ⟨z, h, g⟩ := pup_n8T (show ¬ (68 = 31 ∨ 68 = 32 ∨ 80 ≤ 68) by decide) h
        have := pt_n8T h
        exact n8T_tr this g
      · split at h
        · obtain ⟨z, h, g⟩ := pup_n8T (show ¬ (69 = 31 ∨ 69 = 32 ∨ 80 ≤ 69) by decide) h
          obtain ⟨y2, hy2, h2⟩ := Option.bind_eq_some_iff.mp h
          exact n8T_tr (n8T_tr (pX_n8T hy2) (pt_n8T h2)) g
        · split at h
          · split at h
            · obtain ⟨z, h, g⟩ := pup_n8T (show ¬ (70 = 31 ∨ 70 = 32 ∨ 80 ≤ 70) by decide) h
              obtain ⟨y2, hy2, h2⟩ := Option.bind_eq_some_iff.mp h
              exact n8T_tr (n8T_tr (pX_n8T hy2) (pt_n8T h2)) g
            · exact absurd h (by simp)
          · split at h
            · split at h
              · obtain ⟨z, h, g⟩ := pup_n8T (show ¬ (66 = 31 ∨ 66 = 32 ∨ 80 ≤ 66) by decide) h
                have := pt_n8T h
                exact n8T_tr this g
              · exact absurd h (by simp)
            · split at h
              · split at h
                · obtain ⟨z, h, g⟩ := pup_n8T (show ¬ (67 = 31 ∨ 67 = 32 ∨ 80 ≤ 67) by decide) h
                  have := pt_n8T h
                  exact n8T_tr this g
                · exact absurd h (by simp)
              · exact absurd h (by simp)
theorem pfi_n8T {q r : Nat × Nat × gU} (h : pfi q = some r) : n8T q.2.2 r.2.2 := by
  unfold pfi at h
  cases Option.some.inj h
  exact n8T_k (by decide)
theorem pS_n8T : ∀ f : Nat, nh8 (pS K f) := by
  intro f
  induction f with
  | zero => intro c i L q h; exact absurd h (by simp [pS])
  | succ f ih =>
    intro c i L q h
    rw [pS] at h
    split at h
    · exact absurd h (by simp)
    · split at h
      · obtain ⟨z, hz, h2⟩ := Option.bind_eq_some_iff.mp h
        obtain ⟨x, hx, h4⟩ := Option.bind_eq_some_iff.mp h2
        obtain ⟨y, hy, h3⟩ := Option.bind_eq_some_iff.mp hx
        exact n8T_tr (n8T_tr (n8T_tr (n8T_tr (pX_n8T hz) (n8T_k (by decide))) (pBk_n8T ih hy)) (pEl_n8T ih h3)) (pfi_n8T h4)
      · split at h
        · obtain ⟨z, hz, h2⟩ := Option.bind_eq_some_iff.mp h
          exact n8T_tr (n8T_tr (pX_n8T hz) (n8T_k (by decide))) (pBk_n8T ih h2)
        · split at h
          · split at h
            · exact n8T_tr (n8T_k (by decide)) (pBk_n8T ih h)
            · exact absurd h (by simp)
          · exact pS1_n8T h
/-- cells as told: each name's cells are alike; they are as many as the numbers say -/
def celP (K V : Nat → Int32) (L : gU) : Prop := (cel K V L).length = nbT 0 (L.filterMap (te1 K V)) ∧ ∀ T1 q T2, L.filterMap (te1 K V) = T1 ++ q :: T2 → q.2.1 = 0 → ∃ p : Int32 × Bool, ∀ i, i < max q.2.2.1 1 → (cel K V L)[nbT 0 T1 + i]? = some p
theorem celP_0 {V : Nat → Int32} : celP K V [] := ⟨rfl, fun T1 q T2 h => by
  have h : ([] : gTd) = T1 ++ q :: T2 := h
  cases T1 <;> cases h⟩
theorem nbT_0 {T : gTd} (h : ∀ q ∈ T, ¬ q.2.1 = 0) : nbT 0 T = 0 := by
  induction T with
  | nil => rfl
  | cons q T ih => rw [nbT, if_neg (h q List.mem_cons_self), ih (fun r hr => h r (List.mem_cons_of_mem _ hr))]
/-- one more entry -/
theorem app_one {T T1 T2 : gTd} {q r : Nat × Nat × Nat × Nat} (h : T ++ [r] = T1 ++ q :: T2) : (T1 = T ∧ q = r ∧ T2 = []) ∨ ∃ T3, T = T1 ++ q :: T3 ∧ T2 = T3 ++ [r] := by
  rcases List.append_eq_append_iff.mp h with ⟨a, h1, h2⟩ | ⟨a, h1, h2⟩
  · cases a with
    | nil =>
      rw [List.nil_append] at h2
      rw [List.append_nil] at h1
      cases h2
      exact Or.inl ⟨h1, rfl, rfl⟩
    | cons b a =>
      rw [List.cons_append] at h2
      have := congrArg List.length h2
      simp at this
  · cases a with
    | nil =>
      rw [List.nil_append] at h2
      rw [List.append_nil] at h1
      cases h2
      exact Or.inl ⟨h1.symm, rfl, rfl⟩
    | cons b a =>
      rw [List.cons_append] at h2
      cases h2
      exact Or.inr ⟨a, h1, rfl⟩
/-- what tells of no cell -/
theorem celP_no {V : Nat → Int32} {N : gU} (h : celP K V L) (hN : ∀ v ∈ N, ¬ (v.1 = 31 ∨ v.1 = 32 ∨ 80 ≤ v.1)) : celP K V (L ++ N) := by
  have e : cel K V (L ++ N) = cel K V L := by unfold cel; rw [ces_app, ces_no hN]
  have n0 : ∀ q ∈ N.filterMap (te1 K V), ¬ q.2.1 = 0 := fun q hq => by
    obtain ⟨v, hv, hq⟩ := List.mem_filterMap.mp hq
    have nv := hN v hv
    unfold te1 at hq
    rw [if_neg (fun z => nv (Or.inl z)), if_neg (fun z => nv (Or.inr (Or.inl z)))] at hq
    split at hq
    · cases hq; exact (by decide : ¬ (1 : Nat) = 0)
    · split at hq
      · cases hq; exact (by decide : ¬ (2 : Nat) = 0)
      · cases hq
  unfold celP
  rw [e, List.filterMap_append]
  refine ⟨by rw [nbT_app, nbT_0 n0]; exact h.1, fun T1 q T2 hT hq => ?_⟩
  rcases List.append_eq_append_iff.mp hT with ⟨a, h1, h2⟩ | ⟨a, h1, h2⟩
  · -- it lies in what is new: no cell
    have : q ∈ N.filterMap (te1 K V) := by rw [h2]; exact List.mem_append_right _ List.mem_cons_self
    exact absurd hq (n0 q this)
  · cases a with
    | nil =>
      rw [List.nil_append] at h2
      have : q ∈ N.filterMap (te1 K V) := by rw [← h2]; exact List.mem_cons_self
      exact absurd hq (n0 q this)
    | cons b a =>
      rw [List.cons_append] at h2
      cases h2
      exact h.2 T1 q a h1 hq
/-- a cell, or a row of them -/
theorem celP_one {V : Nat → Int32} {v w : Nat × Nat × Nat} {i t : Nat} (h : celP K V L) (hv : v = (31, t, 0) ∨ v = (32, t, t + 2)) (hw : w.1 = 80 ∨ w.1 = 81 ∨ w.1 = 82) : celP K V (L ++ [v] ++ [w] ++ [(83, i, t)]) := by
  obtain ⟨c, ec⟩ : ∃ c, c = ces K V L (0, 0, []) := ⟨_, rfl⟩
  obtain ⟨n, en⟩ : ∃ n : Nat, n = (if v.1 = 31 then 1 else prz K V v.2.2) := ⟨_, rfl⟩
  have n1 : 1 ≤ n ∧ (∀ q, te1 K V v = some q → q.2.1 = 0 ∧ max q.2.2.1 1 = n) := by
    have pz : 1 ≤ prz K V v.2.2 := by
      unfold prz
      split
      · next z =>
        have k1 : (1 : Int32).toInt = 1 := rfl
        have := t_le.mp z.2.1
        rw [t_cl]
        omega
      · exact Nat.le_refl _
    rcases hv with e | e
    · subst e
      rw [en]
      refine ⟨Nat.le_refl _, fun q hq => ?_⟩
      cases hq
      exact ⟨rfl, rfl⟩
    · subst e
      rw [en]
      refine ⟨pz, fun q hq => ?_⟩
      cases hq
      refine ⟨rfl, ?_⟩
      show max (prz K V (t + 2)) 1 = prz K V (t + 2)
      exact Nat.max_eq_left pz
  obtain ⟨q0, hq0⟩ : ∃ q, te1 K V v = some q := by rcases hv with e | e <;> subst e <;> exact ⟨_, rfl⟩
  obtain ⟨k0, mx⟩ := n1.2 q0 hq0
  have s1 : ceV K V c v = (n, c.2) := by rcases hv with e | e <;> subst e <;> rw [en] <;> rfl
  obtain ⟨s, s2⟩ : ∃ s, ceV K V (n, c.2) w = (n, s, c.2.2) := by
    unfold ceV
    rw [if_neg (by omega), if_neg (by omega)]
    rcases hw with e | e | e
    · rw [if_pos e]; exact ⟨_, rfl⟩
    · rw [if_neg (by omega), if_pos e]; exact ⟨_, rfl⟩
    · rw [if_neg (by omega), if_neg (by omega), if_pos e]; exact ⟨_, rfl⟩
  obtain ⟨b, s3⟩ : ∃ b : Bool, ceV K V (n, s, c.2.2) (83, i, t) = (n, s, c.2.2 ++ List.replicate n (s, b)) := ⟨_, rfl⟩
  have ce : cel K V (L ++ [v] ++ [w] ++ [(83, i, t)]) = cel K V L ++ List.replicate n (s, b) := by
    unfold cel
    rw [ces_app, ces_app, ces_app, ← ec]
    show (ceV K V (ceV K V (ceV K V c v) w) (83, i, t)).2.2 = c.2.2 ++ _
    rw [s1, s2, s3]
  have tw : te1 K V w = none := by
    unfold te1
    rw [if_neg (by omega), if_neg (by omega), if_neg (by omega), if_neg (by omega)]
  have te : (L ++ [v] ++ [w] ++ [(83, i, t)]).filterMap (te1 K V) = L.filterMap (te1 K V) ++ [q0] := by
    rw [List.filterMap_append, List.filterMap_append, List.filterMap_append]
    have a1 : [v].filterMap (te1 K V) = [q0] := by simp [hq0]
    have a2 : [w].filterMap (te1 K V) = [] := by simp [tw]
    have a3 : [((83, i, t) : Nat × Nat × Nat)].filterMap (te1 K V) = [] := rfl
    rw [a1, a2, a3, List.append_nil, List.append_nil]
  unfold celP
  rw [ce, te]
  refine ⟨?_, fun T1 q T2 hT hq => ?_⟩
  · rw [List.length_append, List.length_replicate, nbT_app, h.1, nbT, nbT, if_pos k0, mx, Nat.add_zero]
  · rcases app_one hT with ⟨e1, e2, -⟩ | ⟨T3, e1, -⟩
    · rw [e1, e2, mx, ← h.1]
      refine ⟨(s, b), fun j hj => ?_⟩
      rw [List.getElem?_append_right (by omega), Nat.add_sub_cancel_left, List.getElem?_replicate, if_pos hj]
    · obtain ⟨p, hp⟩ := h.2 T1 q T3 e1 hq
      refine ⟨p, fun j hj => ?_⟩
      have := hp j hj
      rw [List.getElem?_append_left (gt_lt this)]
      exact this
theorem pCl_cP {V : Nat → Int32} {n i t : Nat} {q : Nat × Nat × gU} (hc : celP K V L) (h : pCl K V n i t L = some q) : celP K V q.2.2 := by
  have cv : ∀ {j : Nat} {v : Nat × Nat × Nat} {m : Nat} {q : Nat × Nat × gU}, (v = (31, t, 0) ∨ v = (32, t, t + 2)) → ((pCv K (j, L ++ [v])).bind (pt K 67)).bind (fun q => some (m, q.1, q.2 ++ [(83, i, t)])) = some q → celP K V q.2.2 := fun {j v m q} hv hz => by
    obtain ⟨z, hz, h2⟩ := Option.bind_eq_some_iff.mp hz
    obtain ⟨y, hy, h3⟩ := Option.bind_eq_some_iff.mp hz
    obtain ⟨-, -, e3⟩ := pt_is h3
    cases h2
    show celP K V (z.2 ++ [(83, i, t)])
    rw [e3]
    unfold pCv at hy
    split at hy
    · split at hy
      · split at hy
        · split at hy
          · cases Option.some.inj hy
            exact celP_one hc hv (Or.inr (Or.inl rfl))
          · exact absurd hy (by simp)
        · split at hy
          · cases Option.some.inj hy
            exact celP_one hc hv (Or.inl rfl)
          · exact absurd hy (by simp)
      · exact absurd hy (by simp)
    · cases Option.some.inj hy
      exact celP_one hc hv (Or.inr (Or.inr rfl))
  unfold pCl at h
  split at h
  · split at h
    · split at h
      · exact cv (Or.inr rfl) h
      · exact absurd h (by simp)
    · exact cv (Or.inl rfl) h
  · exact absurd h (by simp)
theorem celP_n8 {V : Nat → Int32} (hc : celP K V L) (h : n8T L L') : celP K V L' := by
  obtain ⟨N, e, hN⟩ := h
  rw [e]
  exact celP_no hc hN
theorem pD_cP {V : Nat → Int32} {n : gN} {i : Nat} {q : gN × Nat × gU} (hc : celP K V L) (h : pD K V n i L = some q) : celP K V q.2.2 := by
  have blk : ∀ {m j : Nat} {v : Nat × Nat × Nat} {r : Nat × Nat × gU}, ¬ (v.1 = 31 ∨ v.1 = 32 ∨ 80 ≤ v.1) → pBk (pS K 16) K 0 0 j (L ++ [v]) = some r → celP K V r.2.2 := fun {m j v r} hv hr => celP_n8 (celP_no hc (fun w hw => by rw [List.mem_singleton.mp hw]; exact hv)) (pBk_n8T (pS_n8T 16) hr)
  unfold pD at h
  split at h
  · split at h
    · obtain ⟨z, hz, h2⟩ := Option.bind_eq_some_iff.mp h
      cases h2
      exact pCl_cP hc hz
    · exact absurd h (by simp)
  · split at h
    · obtain ⟨z, hz, h2⟩ := Option.bind_eq_some_iff.mp h
      cases h2
      exact pCl_cP hc hz
    · split at h
      · split at h
        · cases Option.some.inj h
          exact celP_no hc (fun w hw => by rw [List.mem_singleton.mp hw]; show ¬ (33 = 31 ∨ 33 = 32 ∨ 80 ≤ 33); decide)
        · exact absurd h (by simp)
      · split at h
        · split at h
          · obtain ⟨z, hz, h2⟩ := Option.bind_eq_some_iff.mp h
            cases h2
            exact blk (m := 0) (show ¬ (34 = 31 ∨ 34 = 32 ∨ 80 ≤ 34) by decide) hz
          · exact absurd h (by simp)
        · split at h
          · split at h
            · obtain ⟨z, hz, h2⟩ := Option.bind_eq_some_iff.mp h
              cases h2
              exact blk (m := 0) (show ¬ (34 = 31 ∨ 34 = 32 ∨ 80 ≤ 34) by decide) hz
            · exact absurd h (by simp)
          · split at h
            · split at h
              · obtain ⟨z, hz, h2⟩ := Option.bind_eq_some_iff.mp h
                obtain ⟨y, hy, h3⟩ := Option.bind_eq_some_iff.mp hz
                cases h2
                exact celP_n8 (celP_n8 (celP_no hc (fun w hw => by rw [List.mem_singleton.mp hw]; show ¬ (35 = 31 ∨ 35 = 32 ∨ 80 ≤ 35); decide)) (pX_n8T hy)) (pt_n8T h3)
              · exact absurd h (by simp)
            · split at h
              · split at h
                · obtain ⟨z, hz, h2⟩ := Option.bind_eq_some_iff.mp h
                  obtain ⟨y, hy, h3⟩ := Option.bind_eq_some_iff.mp hz
                  cases h2
                  exact celP_n8 (celP_n8 (celP_no hc (fun w hw => by rw [List.mem_singleton.mp hw]; show ¬ (36 = 31 ∨ 36 = 32 ∨ 80 ≤ 36); decide)) (pX_n8T hy)) (pt_n8T h3)
                · exact absurd h (by simp)
              · exact absurd h (by simp)
theorem pAl_cP {V : Nat → Int32} : ∀ (m : Nat) (n : gN) (i : Nat) (L : gU) (q : gN × Nat × gU), celP K V L → pAl K V m n i L = some q → celP K V q.2.2 := by
  intro m
  induction m with
  | zero => intro n i L q _ h; exact absurd h (by simp [pAl])
  | succ m ih =>
    intro n i L q hc h
    rw [pAl] at h
    split at h
    · cases Option.some.inj h; exact hc
    · obtain ⟨z, hz, h2⟩ := Option.bind_eq_some_iff.mp h
      exact ih _ _ _ _ (pD_cP hc hz) h2
/-- the first of a name -/
theorem nm_first {sN : Nat → Nat → Bool} {t : Nat} : ∀ {T : gTd} {q : Nat × Nat × Nat × Nat}, mtP sN T 0 t = some q → ∃ T1 T2, T = T1 ++ q :: T2 ∧ q.2.1 = 0 ∧ nmT sN 0 t T = nbT 0 T1 := by
  intro T
  induction T with
  | nil => intro q h; cases h
  | cons r T ih =>
    intro q h
    unfold mtP at h
    rw [List.find?_cons] at h
    cases hr : (decide (r.2.1 = 0) && sN r.1 t) with
    | true =>
      rw [hr] at h
      cases h
      rw [Bool.and_eq_true, decide_eq_true_eq] at hr
      refine ⟨[], T, rfl, hr.1, ?_⟩
      rw [nmT, if_pos (by rw [Bool.and_eq_true, decide_eq_true_eq]; exact hr)]
      rfl
    | false =>
      rw [hr] at h
      obtain ⟨T1, T2, e1, e2, e3⟩ := ih (q := q) h
      refine ⟨r :: T1, T2, by rw [e1]; rfl, e2, ?_⟩
      rw [nmT, if_neg (by rw [hr]; decide), nbT, e3]
end NT8
section NX3S
variable {sN : Nat → Nat → Bool} {V K : Nat → Int32} {L : gU} {P : Nat × Nat × Nat → Prop}
theorem NX3_of (hc : celP K V L) (l24 : (cel K V L).length ≤ 24) (h : WC sN K P (cds sN K L cd0)) : NX3 (codN sN V K L) := by
  obtain ⟨E, S, r, b, l, ec, -, -, w1, w2, w3⟩ := h
  have e1 : (cds sN K L cd0).2.1 = S := by rw [ec]
  intro j st hj o4 hix i hi
  have cs : (codN sN V K L).2.2.1 = cel K V L := rfl
  unfold codN at hj
  rw [e1] at hj
  obtain ⟨T, eT⟩ : ∃ T, T = L.filterMap (te1 K V) := ⟨_, rfl⟩
  have hj : (S.map (nStp sN (L.filterMap (te1 K V)) V K))[j]? = some st := hj
  rw [← eT] at hj
  rw [List.getElem?_map] at hj
  obtain ⟨s0, g0, e⟩ := Option.map_eq_some_iff.mp hj
  subst e
  obtain ⟨-, E0, ⟨q1, q2, q3, q4, q5, q5', q6, -⟩, -⟩ := w1 j s0 g0
  have o4 : s0.1 ≤ 4 := o4
  obtain ⟨tk, h5, -⟩ := q4 (by omega)
  have fl : s0.2.2.2.2.2.1 = true := (q6 o4).mpr (fun z => hix (by show s0.2.2.2.2.2.2.1.map _ = none; rw [z]; rfl))
  have eo : mOf sN T V s0 = Int32.ofNat (nmT sN 0 tk T) := by unfold mOf; rw [h5]; exact if_pos o4
  have es : mSz sN T s0 = Int32.ofNat (rsT sN T tk) := by unfold mSz; rw [if_pos fl, if_pos o4, h5]; rfl
  have hi : (i : Int) < (mSz sN T s0).toInt := hi
  rw [es] at hi
  show suM _ ((mOf sN T V s0).toNatClampNeg + i) = suM _ (mOf sN T V s0).toNatClampNeg
  rw [eo]
  unfold rsT at hi
  cases hm : mtP sN T 0 tk with
  | none =>
    simp only [hm] at hi
    have k0 : (Int32.ofNat 0).toInt = 0 := rfl
    rw [k0] at hi
    omega
  | some q =>
    simp only [hm] at hi
    obtain ⟨T1, T2, a1, a2, a3⟩ := nm_first hm
    obtain ⟨p, hp⟩ := hc.2 T1 q T2 (by rw [← eT]; exact a1) a2
    have p0 := hp 0 (by omega)
    have l0 := gt_lt p0
    have tot : nbT 0 T1 + max q.2.2.1 1 ≤ (cel K V L).length := by
      have := gt_lt (hp (max q.2.2.1 1 - 1) (by omega))
      omega
    have iq : i < q.2.2.1 := by
      have : (Int32.ofNat q.2.2.1).toInt = (q.2.2.1 : Nat) := Int32.toInt_ofNat_of_lt (by omega)
      rw [this] at hi
      omega
    have en : (Int32.ofNat (nmT sN 0 tk T)).toNatClampNeg = nbT 0 T1 := by
      rw [a3, t_cl, Int32.toInt_ofNat_of_lt (by omega)]; rfl
    rw [en]
    have pi := hp i (by omega)
    rw [Nat.add_zero] at p0
    unfold suM
    rw [cs, pi, p0]
end NX3S
end
