/-! the machine: one that waits doesn't hold its lock; choices that there are -/
section PWL
variable {C : gCo} {M : gMa} {w t s c i : Nat} {e f : Int32} {wk : Option Nat} {ch : gCh}
theorem ix_no (hX : NXc C) (h : 5 ≤ (stN C s).1) : (stN C s).2.2.2.2.2.2.2.1 = none := by
  unfold stN at h ⊢
  cases hs : C.1[s]? with
  | none => rfl
  | some st =>
    rw [hs] at h
    have h : 5 ≤ st.1 := h
    show st.2.2.2.2.2.2.2.1 = none
    cases hz : st.2.2.2.2.2.2.2.1 with
    | none => rfl
    | some Q =>
      have := (hX s st hs).1 (by rw [hz]; exact (fun z => nomatch z))
      omega
theorem WLk_fs : WLk C (fsM C) := fun t _ n0 => by
  refine absurd ?_ n0
  by_cases q : t < C.2.1.length
  · obtain ⟨q9, hq⟩ : ∃ q9, C.2.1[t]? = some q9 := ⟨_, List.getElem?_eq_getElem q⟩
    by_cases c1 : q9.2 = 1
    · rw [fs_idle hq c1]; rfl
    · rw [fs_go hq c1]; rfl
  · rw [fs_out (by omega)]; rfl
theorem WLk_ef (q : WLk C M) (qw : WMw w M) (n7 : ¬ s = 7) (h9 : s = 9 → c < 6 → (M.2.2 c).1 = 0) : ∀ t', t' < 6 → ¬ t' = t → ¬ ((efM C w M t s c e f wk).1.2.2 t').2.2.2.1 = 0 → ¬ ((efM C w M t s c e f wk).1.2.1 (obM C ((efM C w M t s c e f wk).1.2.2 t').2.2.1)).1 = t' + 1 := by
  have same : ∀ E : gMa, E.2.2 = M.2.2 → E.2.1 = M.2.1 → ∀ t', t' < 6 → ¬ t' = t → ¬ (E.2.2 t').2.2.2.1 = 0 → ¬ (E.2.1 (obM C (E.2.2 t').2.2.1)).1 = t' + 1 := fun E h1 h2 t' ht' _ hw => by
    rw [h1] at hw ⊢
    rw [h2]
    exact q t' ht' hw
  have self : ∀ (E : gMa) (hh : gTq), E.2.2 = upf M.2.2 t hh → E.2.1 = M.2.1 → ∀ t', t' < 6 → ¬ t' = t → ¬ (E.2.2 t').2.2.2.1 = 0 → ¬ (E.2.1 (obM C (E.2.2 t').2.2.1)).1 = t' + 1 := fun E hh h1 h2 t' ht' ne hw => by
    rw [h1, upf_ne ne] at hw ⊢
    rw [h2]
    exact q t' ht' hw
  have lock : ∀ (E : gMa) (n : Nat × Int32), (n.1 = 0 ∨ n.1 = t + 1) → (∀ t', ¬ t' = t → E.2.2 t' = M.2.2 t') → E.2.1 = upf M.2.1 c n → ∀ t', t' < 6 → ¬ t' = t → ¬ (E.2.2 t').2.2.2.1 = 0 → ¬ (E.2.1 (obM C (E.2.2 t').2.2.1)).1 = t' + 1 := fun E n hn h1 h2 t' ht' ne hw => by
    rw [h1 t' ne] at hw ⊢
    rw [h2]
    unfold upf
    by_cases z : obM C (M.2.2 t').2.2.1 = c
    · rw [if_pos z]; omega
    · rw [if_neg z]; exact q t' ht' hw
  by_cases c0 : s = 0
  · rw [c0, ef_0]; exact same _ rfl rfl
  by_cases c1 : s = 1
  · rw [c1, ef_1]
    by_cases z : w = 0 ∨ suM C c = true
    · rw [if_pos z]; exact same _ rfl rfl
    · rw [if_neg z]; exact self _ _ rfl rfl
  by_cases c2 : s = 2
  · rw [c2, ef_2]; exact same _ rfl rfl
  by_cases c3 : s = 3
  · rw [c3, ef_3]; exact same _ rfl rfl
  by_cases c4 : s = 4
  · rw [c4, ef_4]; exact same _ rfl rfl
  by_cases c5 : s = 5
  · rw [c5, ef_5]; exact lock _ (t + 1, (M.2.1 c).2 + 1) (Or.inr rfl) (fun _ _ => rfl) rfl
  by_cases c6 : s = 6
  · rw [c6, ef_6]
    refine lock _ (if (M.2.1 c).2 - 1 = 0 then 0 else t + 1, (M.2.1 c).2 - 1) ?_ (fun _ _ => rfl) rfl
    show (if (M.2.1 c).2 - 1 = 0 then 0 else t + 1) = 0 ∨ (if (M.2.1 c).2 - 1 = 0 then 0 else t + 1) = t + 1
    split
    · exact Or.inl rfl
    · exact Or.inr rfl
  by_cases c8 : s = 8
  · rw [c8, ef_8]
    intro t' ht' ne hw
    have hw : ¬ (wkT C M t c wk t').2.2.2.1 = 0 := hw
    show ¬ (M.2.1 (obM C (wkT C M t c wk t').2.2.1)).1 = t' + 1
    unfold wkT at hw ⊢
    split at hw
    · next z =>
      rw [if_pos z]
      exact q t' ht' (by rw [z.2.1]; decide)
    · next z =>
      rw [if_neg z]
      exact q t' ht' hw
  by_cases c9 : s = 9
  · cases hq : C.2.1[c]? with
    | none =>
      have a : efM C w M t 9 c e f wk = (match C.2.1[c]? with | some q => upT M c (thN C c (M.2.2 c) q.1 (M.2.2 c).2.2.2.2.2.2.2) | none => M, 0) := by unfold efM; rfl
      rw [c9, a, hq]; exact same _ rfl rfl
    | some q9 =>
      rw [c9, ef_9 hq]
      intro t' ht' ne hw
      have hw : ¬ (upf M.2.2 c (thN C c (M.2.2 c) q9.1 (M.2.2 c).2.2.2.2.2.2.2) t').2.2.2.1 = 0 := hw
      show ¬ (M.2.1 (obM C (upf M.2.2 c (thN C c (M.2.2 c) q9.1 (M.2.2 c).2.2.2.2.2.2.2) t').2.2.1)).1 = t' + 1
      by_cases z : t' = c
      · rw [z, upf_eq] at hw
        rw [z] at ht'
        have z0 := h9 c9 ht'
        exact absurd ((qw c ht').2.2.1 (by omega)) hw
      · rw [upf_ne z] at hw ⊢; exact q t' ht' hw
  by_cases c13 : s = 13
  · rw [c13, ef_13]; exact self _ _ rfl rfl
  by_cases c14 : s = 14
  · rw [c14, ef_14]; exact self _ _ rfl rfl
  by_cases c15 : s = 15
  · rw [c15, ef_15]
    exact lock _ (t + 1, (M.2.2 t).2.2.2.2.1) (Or.inr rfl) (fun t' ne => by
      show upf M.2.2 t _ t' = _
      rw [upf_ne ne]) rfl
  · have a : efM C w M t s c e f wk = (M, 0) := by
      unfold efM
      rw [if_neg c0, if_neg c1, if_neg c2, if_neg c3, if_neg c4, if_neg c5, if_neg c6, if_neg n7, if_neg c8, if_neg c9, if_neg c13, if_neg c14, if_neg c15]
    rw [a]; exact same _ rfl rfl
theorem WLk_up {E : gMa} {hh : gTq} (a : ∀ t', t' < 6 → ¬ t' = t → ¬ (E.2.2 t').2.2.2.1 = 0 → ¬ (E.2.1 (obM C (E.2.2 t').2.2.1)).1 = t' + 1) (b : hh.2.2.2.1 = 0) : WLk C (upT E t hh) := by
  intro t' ht' hw
  by_cases z : t' = t
  · refine absurd ?_ hw
    show (upf E.2.2 t hh t').2.2.2.1 = 0
    rw [z, upf_eq]
    exact b
  · have hw : ¬ (upf E.2.2 t hh t').2.2.2.1 = 0 := hw
    show ¬ (E.2.1 (obM C (upf E.2.2 t hh t').2.2.1)).1 = t' + 1
    rw [upf_ne z] at hw ⊢
    exact a t' ht' z hw
theorem WLk_ac (hX : NXc C) (q : WLk C M) (qw : WMw w M) (t6 : t < 6) (h1 : (M.2.2 t).1 = 1) : WLk C (acM C w M t wk) := by
  by_cases L0 : (lkM C w M t).1 = 0
  · by_cases c7 : soM C (M.2.2 t) = 7
    · obtain ⟨w0, es⟩ := so_0 (C := C) (M := M) (t := t) (by omega)
      have o7 : (stN C (M.2.2 t).2.2.1).1 = 7 := by rw [← es]; exact c7
      have li := lkI_n (C := C) (M := M) (t := t) (ix_no hX (by omega))
      have cE : (lkM C w M t).2.1.toNatClampNeg = obM C (M.2.2 t).2.2.1 := by
        rw [(lkM_pl w0 L0).2, li]; rfl
      rw [acM_7 L0 c7, ef_7, cE]
      intro t' ht' hw
      have hw : ¬ (upf M.2.2 t _ t').2.2.2.1 = 0 := hw
      show ¬ (upf M.2.1 (obM C (M.2.2 t).2.2.1) (0, 0) (obM C (upf M.2.2 t _ t').2.2.1)).1 = t' + 1
      by_cases z : t' = t
      · rw [z, upf_eq, upf_eq]
        exact (fun z => nomatch z)
      · rw [upf_ne z] at hw ⊢
        by_cases z2 : obM C (M.2.2 t').2.2.1 = obM C (M.2.2 t).2.2.1
        · rw [z2, upf_eq]
          exact (fun z => nomatch z)
        · rw [upf_ne z2]; exact q t' ht' hw
    · have st9 : soM C (M.2.2 t) = 9 → (M.2.2 (lkM C w M t).2.1.toNatClampNeg).1 = 0 := fun e9 => by
        obtain ⟨w0, es⟩ := so_0 (C := C) (M := M) (t := t) (by omega)
        have rs := lkM_rs w0 L0
        rw [← es, e9, rsF_9] at rs
        exact Classical.byContradiction (fun n => by rw [if_neg n] at rs; exact nomatch rs)
      obtain ⟨-, b1, -, -⟩ := WMw_ef (C := C) (s := soM C (M.2.2 t)) (c := (lkM C w M t).2.1.toNatClampNeg) (e := (lkM C w M t).2.2.1) (f := (lkM C w M t).2.2.2) (wk := wk) qw t6 h1 (Classical.byCases Or.inl (fun n => Or.inr (so_0 n).1)) (fun e9 _ => st9 e9) (fun e9 z => by have := st9 e9; rw [z] at this; omega) c7
      have a := WLk_ef (C := C) (t := t) (s := soM C (M.2.2 t)) (c := (lkM C w M t).2.1.toNatClampNeg) (e := (lkM C w M t).2.2.1) (f := (lkM C w M t).2.2.2) (wk := wk) q qw c7 (fun e9 _ => st9 e9)
      rw [acM_is (E := (efM C w M t (soM C (M.2.2 t)) (lkM C w M t).2.1.toNatClampNeg (lkM C w M t).2.2.1 (lkM C w M t).2.2.2 wk).1) (v := (efM C w M t (soM C (M.2.2 t)) (lkM C w M t).2.1.toNatClampNeg (lkM C w M t).2.2.1 (lkM C w M t).2.2.2 wk).2) L0 c7 rfl]
      exact WLk_up a b1
  · have w0 : (M.2.2 t).2.2.2.1 = 0 := Classical.byContradiction (fun n0 => L0 (by rw [lkM_15 n0]))
    rw [acM_F L0]
    intro t' ht' hw
    by_cases z : t' = t
    · refine absurd ?_ hw
      show (upf M.2.2 t _ t').2.2.2.1 = 0
      rw [z, upf_eq]
      exact w0
    · have hw : ¬ (upf M.2.2 t _ t').2.2.2.1 = 0 := hw
      show ¬ (M.2.1 (obM C (upf M.2.2 t _ t').2.2.1)).1 = t' + 1
      rw [upf_ne z] at hw ⊢
      exact q t' ht' hw
theorem WLk_la (q : WLk C M) : WLk C (laM M t i) := by
  unfold laM
  cases hq : (M.2.2 t).2.2.2.2.2.2.1[i]? with
  | none => exact q
  | some z9 =>
    intro t' ht' hw
    have hw : ¬ (upf M.2.2 t _ t').2.2.2.1 = 0 := hw
    show ¬ (M.2.1 (obM C (upf M.2.2 t _ t').2.2.1)).1 = t' + 1
    by_cases z : t' = t
    · rw [z, upf_eq] at hw ⊢
      rw [z] at ht'
      exact q t ht' hw
    · rw [upf_ne z] at hw ⊢; exact q t' ht' hw
/-- what every state of a run is like -/
def MIv (C : gCo) (w : Nat) (M : gMa) : Prop := WMw w M ∧ WLk C M
theorem MIv_fs : MIv C w (fsM C) := ⟨WMw_fs, WLk_fs⟩
theorem ch_in (h : ch ∈ chM C w M) : chIn C M ch := by
  unfold chM at h
  obtain ⟨t, ht, h⟩ := List.mem_flatMap.mp h
  have ht := List.mem_range.mp ht
  unfold ch1 at h
  rcases List.mem_append.mp h with h | h
  · by_cases c : canM C w M t
    · rw [if_pos c] at h
      by_cases c8 : soM C (M.2.2 t) = 8 ∧ (stN C (M.2.2 t).2.2.1).2.2.2.2.2.2.1 = false ∧ (M.2.1 (obM C (M.2.2 t).2.2.1)).1 = t + 1 ∧ ¬ waM C M (obM C (M.2.2 t).2.2.1) = []
      · rw [if_pos c8] at h
        obtain ⟨u, hu, e⟩ := List.mem_map.mp h
        subst e
        exact ⟨ht, fun _ => ⟨c.1, c.2.1, fun k hk => by cases hk; exact hu⟩, (fun j z => nomatch z)⟩
      · rw [if_neg c8] at h
        cases List.mem_singleton.mp h
        exact ⟨ht, fun _ => ⟨c.1, c.2.1, (fun k hk => nomatch hk)⟩, (fun j z => nomatch z)⟩
    · rw [if_neg c] at h; cases h
  · obtain ⟨u, hu, e⟩ := List.mem_map.mp h
    subst e
    refine ⟨ht, (fun z => nomatch z), fun j z => ?_⟩
    cases z
    exact (ltM_mem.mp hu).1
theorem MIv_do (hX : NXc C) (l6 : C.2.1.length ≤ 6) (q : MIv C w M) (h : ch ∈ chM C w M) : MIv C w (doM C w M ch) := by
  obtain ⟨i1, i2, i3⟩ := ch_in h
  obtain ⟨t, lt9, wk⟩ := ch
  have i1 : t < C.2.1.length := i1
  unfold doM
  cases lt9 with
  | none => exact ⟨WMw_ac q.1 (by show t < 6; omega) (i2 rfl).1, WLk_ac hX q.2 q.1 (by show t < 6; omega) (i2 rfl).1⟩
  | some j => exact ⟨WMw_la q.1 (by show t < 6; omega), WLk_la q.2⟩
end PWL
