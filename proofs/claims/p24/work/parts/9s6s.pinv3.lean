section
/-! the machine: one that waits doesn't hold its lock; choices that there are -/
section PWL
variable {C : gCo} {M : gMa} {w t s c i : Nat} {e f : Int32} {wk : Option Nat} {ch : gCh}
theorem ix_no (hX : NXc C) (h : 5 ≤ (stN C s).1) : (stN C s).2.2.2.2.2.2.2.1 = none := by
  unfold stN at h ⊢
  cases hs : C.1[s]? with
  | none => rfl
  | some st =>
    rw [hs] at h
    have h : 5 ≤ st.1 := h
    show st.2.2.2.2.2.2.2.1 = none
    cases hz : st.2.2.2.2.2.2.2.1 with
    | none => rfl
    | some Q =>
      have := (hX s st hs).1 (by rw [hz]; exact (fun z => nomatch z))
      omega
theorem WLk_fs : WLk C (fsM C) := fun t _ n0 => by
  refine absurd ?_ n0
  by_cases q : t < C.2.1.length
  · obtain ⟨q9, hq⟩ : ∃ q9, C.2.1[t]? = some q9 := ⟨_, List.getElem?_eq_getElem q⟩
    by_cases c1 : q9.2 = 1
    · rw [fs_idle hq c1]; rfl
    · rw [fs_go hq c1]; rfl
  · rw [fs_out (by omega)]; rfl
theorem WLk_ef (q : WLk C M) (qw : WMw w M) (n7 : ¬ s = 7) (h9 : s = 9 → c < 6 → (M.2.2 c).1 = 0) : ∀ t', t' < 6 → ¬ t' = t → ¬ ((efM C w M t s c e f wk).1.2.2 t').2.2.2.1 = 0 → ¬ ((efM C w M t s c e f wk).1.2.1 (obM C ((efM C w M t s c e f wk).1.2.2 t').2.2.1)).1 = t' + 1 := by
  have same : ∀ E : gMa, E.2.2 = M.2.2 → E.2.1 = M.2.1 → ∀ t', t' < 6 → ¬ t' = t → ¬ (E.2.2 t').2.2.2.1 = 0 → ¬ (E.2.1 (obM C (E.2.2 t').2.2.1)).1 = t' + 1 := fun E h1 h2 t' ht' _ hw => by
    rw [h1] at hw ⊢
    rw [h2]
    exact q t' ht' hw
  have self : ∀ (E : gMa) (hh : gTq), E.2.2 = upf M.2.2 t hh → E.2.1 = M.2.1 → ∀ t', t' < 6 → ¬ t' = t → ¬ (E.2.2 t').2.2.2.1 = 0 → ¬ (E.2.1 (obM C (E.2.2 t').2.2.1)).1 = t' + 1 := fun E hh h1 h2 t' ht' ne hw => by
    rw [h1, upf_ne ne] at hw ⊢
    rw [h2]
    exact q t' ht' hw
  have lock : ∀ (E : gMa) (n : Nat × Int32), (n.1 = 0 ∨ n.1 = t + 1) → (∀ t', ¬ t' = t → E.2.2 t' = M.2.2 t') → E.2.1 = upf M.2.1 c n → ∀ t', t' < 6 → ¬ t' = t → ¬ (E.2.2 t').2.2.2.1 = 0 → ¬ (E.2.1 (obM C (E.2.2 t').2.2.1)).1 = t' + 1 := fun E n hn h1 h2 t' ht' ne hw => by
    rw [h1 t' ne] at hw ⊢
    rw [h2]
    unfold upf
    by_cases z : obM C (M.2.2 t').2.2.1 = c
    · rw [if_pos z]; omega
    · rw [if_neg z]; exact q t' ht' hw
  by_cases c0 : s = 0
  · rw [c0, ef_0]; exact same _ rfl rfl
  by_cases c1 : s = 1
  · rw [c1, ef_1]
    by_cases z : w = 0 ∨ suM C c = true
    · rw [if_pos z]; exact same _ rfl rfl
    · rw [if_neg z]; exact self _ _ rfl rfl
  by_cases c2 : s = 2
  · rw [c2, ef_2]; exact same _ rfl rfl
  by_cases c3 : s = 3
  · rw [c3, ef_3]; exact same _ rfl rfl
  by_cases c4 : s = 4
  · rw [c4, ef_4]; exact same _ rfl rfl
  by_cases c5 : s = 5
  · rw [c5, ef_5]; exact lock _ (t + 1, (M.2.1 c).2 + 1) (Or.inr rfl) (fun _ _ => rfl) rfl
  by_cases c6 : s = 6
  · rw [c6, ef_6]
    refine lock _ (if (M.2.1 c).2 - 1 = 0 then 0 else t + 1, (M.2.1 c).2 - 1) ?_ (fun _ _ => rfl) rfl
    show (if (M.2.1 c).2 - 1 = 0 then 0 else t + 1) = 0 ∨ (if (M.2.1 c).2 - 1 = 0 then 0 else t + 1) = t + 1
    split
    · exact Or.inl rfl
    · exact Or.inr rfl
  by_cases c8 : s = 8
  · rw [c8, ef_8]
    intro t' ht' ne hw
    have hw : ¬ (wkT C M t c wk t').2.2.2.1 = 0 := hw
    show ¬ (M.2.1 (obM C (wkT C M t c wk t').2.2.1)).1 = t' + 1
    unfold wkT at hw ⊢
    split at hw
    · next z =>
      rw [if_pos z]
      exact q t' ht' (by rw [z.2.1]; decide)
    · next z =>
      rw [if_neg z]
      exact q t' ht' hw
  by_cases c9 : s = 9
  · cases hq : C.2.1[c]? with
    | none =>
      have a : efM C w M t 9 c e f wk = (match C.2.1[c]? with | some q => upT M c (thN C c (M.2.2 c) q.1 (M.2.2 c).2.2.2.2.2.2.2) | none => M, 0) := by unfold efM; rfl
      rw [c9, a, hq]; exact same _ rfl rfl
    | some q9 =>
      rw [c9, ef_9 hq]
      intro t' ht' ne hw
      have hw : ¬ (upf M.2.2 c (thN C c (M.2.2 c) q9.1 (M.2.2 c).2.2.2.2.2.2.2) t').2.2.2.1 = 0 := hw
      show ¬ (M.2.1 (obM C (upf M.2.2 c (thN C c (M.2.2 c) q9.1 (M.2.2 c).2.2.2.2.2.2.2) t').2.2.1)).1 = t' + 1
      by_cases z : t' = c
      · rw [z, upf_eq] at hw
        rw [z] at ht'
        have z0 := h9 c9 ht'
        exact absurd ((qw c ht').2.2.1 (by omega)) hw
      · rw [upf_ne z] at hw ⊢; exact q t' ht' hw
  by_cases c13 : s = 13
  · rw [c13, ef_13]; exact self _ _ rfl rfl
  by_cases c14 : s = 14
  · rw [c14, ef_14]; exact self _ _ rfl rfl
  by_cases c15 : s = 15
  · rw [c15, ef_15]
    exact lock _ (t + 1, (M.2.2 t).2.2.2.2.1) (Or.inr rfl) (fun t' ne => by
      show upf M.2.2 t _ t' = _
      rw [upf_ne ne]) rfl
  · have a : efM C w M t s c e f wk = (M, 0) := by
      unfold efM
      rw [if_neg c0, if_neg c1, if_neg c2, if_neg c3, if_neg c4, if_neg c5, if_neg c6, if_neg n7, if_neg c8, if_neg c9, if_neg c13, if_neg c14, if_neg c15]
    rw [a]; exact same _ rfl rfl
theorem WLk_up {E : gMa} {hh : gTq} (a : ∀ t', t' < 6 → ¬ t' = t → ¬ (E.2.2 t').2.2.2.1 = 0 → ¬ (E.2.1 (obM C (E.2.2 t').2.2.1)).1 = t' + 1) (b : hh.2.2.2.1 = 0) : WLk C (upT E t hh) := by
  intro t' ht' hw
  by_cases z : t' = t
  · refine absurd ?_ hw
    show (upf E.2.2 t hh t').2.2.2.1 = 0
    rw [z, upf_eq]
    exact b
  · have hw : ¬ (upf E.2.2 t hh t').2.2.2.1 = 0 := hw
    show ¬ (E.2.1 (obM C (upf E.2.2 t hh t').2.2.1)).1 = t' + 1
    rw [upf_ne z] at hw ⊢
    exact a t' ht' z hw
theorem WLk_ac (hX : NXc C) (q : WLk C M) (qw : WMw w M) (t6 : t < 6) (h1 : (M.2.2 t).1 = 1) : WLk C (acM C w M t wk) := by
  by_cases L0 : (lkM C w M t).1 = 0
  · by_cases c7 : soM C (M.2.2 t) = 7
    · obtain ⟨w0, es⟩ := so_0 (C := C) (M := M) (t := t) (by omega)
      have o7 : (stN C (M.2.2 t).2.2.1).1 = 7 := by rw [← es]; exact c7
      have li := lkI_n (C := C) (M := M) (t := t) (ix_no hX (by omega))
      have cE : (lkM C w M t).2.1.toNatClampNeg = obM C (M.2.2 t).2.2.1 := by
        rw [(lkM_pl w0 L0).2, li]; rfl
      rw [acM_7 L0 c7, ef_7, cE]
      intro t' ht' hw
      have hw : ¬ (upf M.2.2 t _ t').2.2.2.1 = 0 := hw
      show ¬ (upf M.2.1 (obM C (M.2.2 t).2.2.1) (0, 0) (obM C (upf M.2.2 t _ t').2.2.1)).1 = t' + 1
      by_cases z : t' = t
      · rw [z, upf_eq, upf_eq]
        exact (fun z => nomatch z)
      · rw [upf_ne z] at hw ⊢
        by_cases z2 : obM C (M.2.2 t').2.2.1 = obM C (M.2.2 t).2.2.1
        · rw [z2, upf_eq]
          exact (fun z => nomatch z)
        · rw [upf_ne z2]; exact q t' ht' hw
    · have st9 : soM C (M.2.2 t) = 9 → (M.2.2 (lkM C w M t).2.1.toNatClampNeg).1 = 0 := fun e9 => by
        obtain ⟨w0, es⟩ := so_0 (C := C) (M := M) (t := t) (by omega)
        have rs := lkM_rs w0 L0
        rw [← es, e9, rsF_9] at rs
        exact Classical.byContradiction (fun n => by rw [if_neg n] at rs; exact nomatch rs)
      obtain ⟨-, b1, -, -⟩ := WMw_ef (C := C) (s := soM C (M.2.2 t)) (c := (lkM C w M t).2.1.toNatClampNeg) (e := (lkM C w M t).2.2.1) (f := (lkM C w M t).2.2.2) (wk := wk) qw t6 h1 (Classical.byCases Or.inl (fun n => Or.inr (so_0 n).1)) (fun e9 _ => st9 e9) (fun e9 z => by have := st9 e9; rw [z] at this; omega) c7
      have a := WLk_ef (C := C) (t := t) (s := soM C (M.2.2 t)) (c := (lkM C w M t).2.1.toNatClampNeg) (e := (lkM C w M t).2.2.1) (f := (lkM C w M t).2.2.2) (wk := wk) q qw c7 (fun e9 _ => st9 e9)
      rw [acM_is (E := (efM C w M t (soM C (M.2.2 t)) (lkM C w M t).2.1.toNatClampNeg (lkM C w M t).2.2.1 (lkM C w M t).2.2.2 wk).1) (v := (efM C w M t (soM C (M.2.2 t)) (lkM C w M t).2.1.toNatClampNeg (lkM C w M t).2.2.1 (lkM C w M t).2.2.2 wk).2) L0 c7 rfl]
      exact WLk_up a b1
  · have w0 : (M.2.2 t).2.2.2.1 = 0 := Classical.byContradiction (fun n0 => L0 (by rw [lkM_15 n0]))
    rw [acM_F L0]
    intro t' ht' hw
    by_cases z : t' = t
    · refine absurd ?_ hw
      show (upf M.2.2 t _ t').2.2.2.1 = 0
      rw [z, upf_eq]
      exact w0
    · have hw : ¬ (upf M.2.2 t _ t').2.2.2.1 = 0 := hw
      show ¬ (M.2.1 (obM C (upf M.2.2 t _ t').2.2.1)).1 = t' + 1
      rw [upf_ne z] at hw ⊢
      exact q t' ht' hw
theorem WLk_la (q : WLk C M) : WLk C (laM M t i) := by
  unfold laM
  cases hq : (M.2.2 t).2.2.2.2.2.2.1[i]? with
  | none => exact q
  | some z9 =>
    intro t' ht' hw
    have hw : ¬ (upf M.2.2 t _ t').2.2.2.1 = 0 := hw
    show ¬ (M.2.1 (obM C (upf M.2.2 t _ t').2.2.1)).1 = t' + 1
    by_cases z : t' = t
    · rw [z, upf_eq] at hw ⊢
      rw [z] at ht'
      exact q t ht' hw
    · rw [upf_ne z] at hw ⊢; exact q t' ht' hw
/-- what every state of a run is like -/
def MIv (C : gCo) (w : Nat) (M : gMa) : Prop := WMw w M ∧ WLk C M
theorem MIv_fs : MIv C w (fsM C) := ⟨WMw_fs, WLk_fs⟩
theorem ch_in (h : ch ∈ chM C w M) : chIn C M ch := by
  unfold chM at h
  obtain ⟨t, ht, h⟩ := List.mem_flatMap.mp h
  have ht := List.mem_range.mp ht
  unfold ch1 at h
  rcases List.mem_append.mp h with h | h
  · by_cases c : canM C w M t
    · rw [if_pos c] at h
      by_cases c8 : soM C (M.2.2 t) = 8 ∧ (stN C (M.2.2 t).2.2.1).2.2.2.2.2.2.1 = false ∧ (M.2.1 (obM C (M.2.2 t).2.2.1)).1 = t + 1 ∧ ¬ waM C M (obM C (M.2.2 t).2.2.1) = []
      · rw [if_pos c8] at h
        obtain ⟨u, hu, e⟩ := List.mem_map.mp h
        subst e
        exact ⟨ht, fun _ => ⟨c.1, c.2.1, fun k hk => by cases hk; exact hu⟩, (fun j z => nomatch z)⟩
      · rw [if_neg c8] at h
        cases List.mem_singleton.mp h
        exact ⟨ht, fun _ => ⟨c.1, c.2.1, (fun k hk => nomatch hk)⟩, (fun j z => nomatch z)⟩
    · rw [if_neg c] at h; cases h
  · obtain ⟨u, hu, e⟩ := List.mem_map.mp h
    subst e
    refine ⟨ht, (fun z => nomatch z), fun j z => ?_⟩
    cases z
    exact (ltM_mem.mp hu).1
theorem MIv_do (hX : NXc C) (l6 : C.2.1.length ≤ 6) (q : MIv C w M) (h : ch ∈ chM C w M) : MIv C w (doM C w M ch) := by
  obtain ⟨i1, i2, i3⟩ := ch_in h
  obtain ⟨t, lt9, wk⟩ := ch
  have i1 : t < C.2.1.length := i1
  unfold doM
  cases lt9 with
  | none => exact ⟨WMw_ac q.1 (by show t < 6; omega) (i2 rfl).1, WLk_ac hX q.2 q.1 (by show t < 6; omega) (i2 rfl).1⟩
  | some j => exact ⟨WMw_la q.1 (by show t < 6; omega), WLk_la q.2⟩
end PWL
end
section
/-! the model: memories that stand for all like them, with the machine's state -/
/-- such a memory holds the state M, and its choices -/
def AM (C : gCo) (w : Nat) (M : gMa) (a : gd) : Prop := AV a ∧ MK a C ∧ MM1 a C M ∧ MIv C w M ∧ a.1 0 68 = Int32.ofNat w ∧ chE a (chM C w M)
/-- what is asked of a code -/
def GC (C : gCo) : Prop := NC C ∧ NXc C ∧ C.2.1.length ≤ 6
theorem fc_exM {b : gd} {S : gS} {C : gCo} {M : gMa} {w : Nat} (ri : RI b S) (wy : wy01 b) (hK : MK b C) (hN : NC C) (hX : NXc C) (hM : MM1 b C M) (wyw : b.1 0 68 = Int32.ofNat w) (w01 : w = 0 ∨ w = 1) (hlt : w = 0 → ∀ t', t' < 6 → (M.2.2 t').2.2.2.2.2.2.1 = []) : ∃ a, AV a ∧ fcA b a ∧ md [84] [86, 87, 88] b a ∧ chE a (chM C w M) := by
  obtain ⟨o, a, S', ⟨eo, fc, hcn⟩, m, q⟩ := ds_find3 (d := 0) (Fv := fun y S1 => fC b (Sl b) 84 y S1 ∧ chE y (chM C w M)) (RI_Sl ri) hK hN hX hM wyw w01 hlt (fun y S1 h h2 => ⟨h, h2⟩)
  obtain ⟨f1, f2, f3, f4, f5, f6⟩ := fc
  have e80 : a.1 80 = b.1 80 := f1.2.1 80 (by decide) (by decide)
  have sl : Sl a = Sl b := by
    funext c j
    unfold Sl
    rw [e80]
  have sm : ssub (Sm a) S' := by
    intro c j h
    rcases h with ⟨h1, h2⟩ | ⟨h1, h2⟩ | h
    · rw [h1, h2]; exact f3
    · obtain ⟨g1, g2, g3, _⟩ := f6 j h2
      rcases h1 with h1 | h1 | h1
      · rw [h1]; exact g1
      · rw [h1]; exact g2
      · rw [h1]; exact g3
    · rw [sl] at h
      exact f2 c j h
  have fa : fcA b a := by
    intro G z e
    refine MT_mono (q G z e) (fun o2 z' w => ?_)
    rw [w.1, eo]
    exact rv_i ⟨eqS_w sm w.2.1, w.2.2⟩
  refine ⟨a, ⟨?_, ?_, ?_, f4, f5, ?_⟩, fa, f1, hcn⟩
  · rw [sl]
    exact RI_md f1 rfl rfl (ssub_rf _) (RI_Sl ri)
  · unfold wy01
    rw [f1.1 68 (by decide)]
    exact wy
  · intro i hi
    obtain ⟨_, _, _, g⟩ := f6 i hi
    exact ⟨Or.inr (Or.inl ⟨Or.inl rfl, hi⟩), Or.inr (Or.inl ⟨Or.inr (Or.inl rfl), hi⟩), Or.inr (Or.inl ⟨Or.inr (Or.inr rfl), hi⟩), g⟩
  · intro G z e
    refine fa G z (fun c j h => ?_)
    rw [← sl] at h
    rw [e c j h]
    -- the core and the late writes are those of b
    rcases h with h | h
    · rcases h with ⟨h1, h2⟩ | ⟨n, h1, h2⟩
      · rw [h1]
        refine f1.1 j (fun w => ?_)
        rw [List.mem_singleton.mp w] at h2
        exact absurd h2 (by decide)
      · have hc : c ≠ 0 ∧ c ∉ [86, 87, 88] := by
          simp at h1
          refine ⟨by omega, ?_⟩
          simp
          omega
        rw [f1.2.1 c hc.1 hc.2]
    · obtain ⟨hc, _⟩ := h
      rw [f1.2.1 c (by omega) (by simp; omega)]
theorem lk_exM {C : gCo} {w i : Nat} {M : gMa} {a : gd} {ch : gCh} (gc : GC C) (w01 : w = 0 ∨ w = 1) (h : AM C w M a) (hch : (chM C w M)[i]? = some ch) : ∃ a', AM C w (doM C w M ch) a' ∧ Lk a i a' := by
  obtain ⟨hN, hX, l6⟩ := gc
  obtain ⟨⟨ri, wy, chv, c0, c84, fa⟩, hK, hM, hI, w68, hE⟩ := h
  have hi : (i : Int) < (a.1 0 84).toInt := by have := gt_lt hch; rw [hE.1]; omega
  obtain ⟨_, _, _, ⟨t0, t6⟩, co⟩ := chv i hi
  have tv : vp_in (a.1 86 i) 6 := by rw [vp_in_iff]; exact ⟨t0, t6⟩
  obtain ⟨e86, e87, e88⟩ := hE.2 i ch hch
  have cm := List.mem_of_getElem? hch
  obtain ⟨i1, i2, i3⟩ := ch_in cm
  have hI' := MIv_do hX l6 hI cm
  have ct : (a.1 86 i).toNatClampNeg = ch.1 := by
    rw [e86, t_cl, Int32.toInt_ofNat_of_lt (by omega)]; rfl
  have st : ∃ b, RI b (Sl b) ∧ wy01 b ∧ MK b C ∧ MM1 b C (doM C w M ch) ∧ b.1 0 68 = Int32.ofNat w ∧ Tr a i b := by
    by_cases c : a.1 87 i = -1
    · have g := co.resolve_right (fun z => by rw [c] at z; exact absurd z.1 (by decide))
      have cn : ch.2.1 = none := by
        cases h9 : ch.2.1 with
        | none => rfl
        | some j =>
          have j8 : j < 9 := by
            have := i3 j h9
            have q := (ri.2 ch.1 (by omega)).2.2.2.1
            have := (hM.2.2 ch.1 (by omega)).2.2.2.2.2.2.2.2.1.1
            omega
          rw [h9] at e87
          rw [e87] at c
          have c : Int32.ofNat j = -1 := c
          have : ∀ n, n < 9 → ¬ Int32.ofNat n = -1 := by decide +kernel
          exact absurd c (this j j8)
      have dE : doM C w M ch = acM C w M ch.1 ch.2.2 := by unfold doM; rw [cn]
      obtain ⟨o, b, S', ⟨eo, rb, ss, as', ap, mb⟩, m, q⟩ := ds_doAct3 (d := 0) (wk := ch.2.2) (Fv := fun y S1 => RI y S1 ∧ ssub (Sl a) S1 ∧ acS S1 ∧ acP (srt a (a.1 86 i).toNatClampNeg) y ∧ MM1 y C (acM C w M (a.1 86 i).toNatClampNeg ch.2.2)) (a.1 86 i) (a.1 88 i) tv ri g.2.1 g.2.2 hK hN hX hM (WMw_WM hI.1) w68 w01 (by
        cases h9 : ch.2.2 with
        | none => rw [h9] at e88; exact Or.inl ⟨rfl, e88⟩
        | some k =>
          rw [h9] at e88
          have k6 := (i2 cn).2.2 k h9
          unfold waM at k6
          have := List.mem_range.mp (List.mem_filter.mp k6).1
          exact Or.inr ⟨k, rfl, by omega, e88⟩) (fun y S1 h1 h2 h3 h4 h5 => ⟨h1, h2, h3, h4, h5⟩)
      rw [ct] at mb
      refine ⟨b, RI_Sl rb, by unfold wy01; rw [m.1 68 (by decide)]; exact wy, MK_md m rfl rfl hK, by rw [dE]; exact mb, by rw [m.1 68 (by decide)]; exact w68, fun _ G z e => MT_mono (q G z e) (fun o2 z' w => ?_), fun n => absurd c n⟩
      rw [w.1, eo]
      refine rv_i ⟨eqS_w (Sl_in rb) w.2.1, w.2.2, ?_⟩
      unfold acP
      rw [w.2.1 0 88 (Or.inr as'.1), w.2.1 0 89 (Or.inr as'.2.1)]
      exact ap
    · have g := co.resolve_left (fun z => c z.1)
      obtain ⟨j, hj⟩ : ∃ j, ch.2.1 = some j := by
        cases h9 : ch.2.1 with
        | none => rw [h9] at e87; exact absurd e87 c
        | some j => exact ⟨j, rfl⟩
      rw [hj] at e87
      have e87 : a.1 87 i = Int32.ofNat j := e87
      have dE : doM C w M ch = laM M ch.1 j := by unfold doM; rw [hj]
      have j8 : j < 9 := by
        have := i3 j hj
        have q := (ri.2 ch.1 (by omega)).2.2.2.1
        have := (hM.2.2 ch.1 (by omega)).2.2.2.2.2.2.2.2.1.1
        omega
      have ej : (a.1 87 i).toInt.toNat = j := by rw [e87, Int32.toInt_ofNat_of_lt (by omega)]; rfl
      obtain ⟨o, b, S', ⟨eo, rb, ss, mb, mm⟩, m, q⟩ := ds_doLate3 (d := 4) (C := C) (M := M) (Fv := fun y S1 => RI y S1 ∧ ssub (Sl a) S1 ∧ md [] [70, 80, 81, 82] a y ∧ MM1 y C (laM M (a.1 86 i).toNatClampNeg (a.1 87 i).toInt.toNat)) (a.1 86 i) (a.1 87 i) tv ri g.1 g.2 hM (fun y S1 h1 h2 h3 h4 => ⟨h1, h2, h3, h4⟩)
      rw [ct, ej] at mm
      refine ⟨b, RI_Sl rb, by unfold wy01; rw [m.1 68 (by decide)]; exact wy, MK_md m rfl rfl hK, by rw [dE]; exact mm, by rw [m.1 68 (by decide)]; exact w68, fun n => absurd n c, fun _ G z e => MT_mono (q G z e) (fun o2 z' w => ?_)⟩
      rw [w.1, eo]
      exact rv_i ⟨eqS_w (Sl_in rb) w.2.1, w.2.2⟩
  obtain ⟨b, h1, h2, hKb, hMb, wb, h3⟩ := st
  obtain ⟨a', g1, g2, g3, g4⟩ := fc_exM h1 h2 hKb hN hX hMb wb w01 (fun z t ht => (hI'.1 t ht).2.2.2 z)
  exact ⟨a', ⟨g1, MK_md g3 rfl rfl hKb, MM1_md g3 rfl hMb, hI', by rw [g3.1 68 (by decide)]; exact wb, g4⟩, b, h3, g2⟩
section DSY
variable {x : gd} {C : gCo}
theorem first_exM (cp : CP x) (hK : MK x C) (hN : NC C) : ∃ b, RI b (Sl b) ∧ MM1 b C (fsM C) ∧ MK b C ∧ b.1 0 68 = x.1 0 68 ∧ prE x b ∧ ∀ (G : mG) (D : Nat) (z : gd), 5 ≤ D → prE x z → z.1 0 68 = x.1 0 68 → MT G D z_setFirst 0 [(0, vr 0)] [] z (rv (fun z' => eqS (Sl b) b z' ∧ md rL rA z z')) := by
  have ii := ix_ini x
  have i2 : ∀ j : Nat, j < 24 → (ix x).1 70 j = (fsM C).1 j := fun j hj => by
    have e : (ix x).1 70 j = if (j : Int) < (x.1 0 23).toInt then x.1 36 j else 0 := ii.2.1 j hj
    rw [e]
    have l23 : (x.1 0 23).toInt = C.2.2.1.length := hK.2.2.1.1
    show _ = (match C.2.2.1[j]? with | some q => q.1 | none => 0)
    cases hq : C.2.2.1[j]? with
    | some q => rw [if_pos (by have := gt_lt hq; omega)]; exact (hK.2.2.1.2 j q hq).1
    | none => rw [if_neg (by have := List.getElem?_eq_none_iff.mp hq; omega)]
  obtain ⟨o, b, S', ⟨eo, rb, hfs⟩, m, q⟩ := ds_setTail3 (x := ix x) (S := fun _ _ => False) (Fv := fun y S1 => RI y S1 ∧ MM1 y C (fsM C)) (CP_md ii.1 rfl rfl cp) ii.2.2.2.1 ii.2.2.1 i2 ii.2.2.2.2 (MK_md ii.1 rfl rfl hK) hN (fun y S1 h h2 => ⟨h, h2⟩)
  refine ⟨b, RI_Sl rb, hfs, MK_md m rfl rfl (MK_md ii.1 rfl rfl hK), ?_, ?_, fun G D z hD p w => ?_⟩
  · rw [m.1 68 (by decide), ii.1.1 68 (by decide)]
  · exact prE_mi (prE_mi (prE_rf x) (mi_of ii.1) rfl rfl) (mi_of m) rfl rfl
  · obtain ⟨D, rfl⟩ : ∃ D', D = D' + 1 := ⟨D - 1, by omega⟩
    refine sp_setInit (fun y iy => MT_up (d := 4) (by omega) (MT_mono (q G y (ini_eq p w ii iy)) (fun o2 z' v => ?_)))
    rw [v.1, eo]
    exact rv_i ⟨eqS_w (Sl_in rb) v.2.1, md_tr (md_w iy.1 (L2 := rL) (A2 := rA) (by decide) (by decide)) v.2.2 rfl rfl⟩
theorem start_exM (cp : CP x) (hK : MK x C) (hN : NC C) (hX : NXc C) {wn : Nat} (w01 : wn = 0 ∨ wn = 1) (w : Int32) (ew0 : w = Int32.ofNat wn) (hw : w = 0 ∨ w = 1) : ∃ a0, AM C wn (fsM C) a0 ∧ AV a0 ∧ a0.1 0 68 = w ∧ prE x a0 ∧ St x w a0 ∧ ∃ b, md [84] [86, 87, 88] b a0 ∧ ∀ (G : mG) (D : Nat) (z : gd), 5 ≤ D → prE x z → z.1 0 68 = w → MT G D z_setFirst 0 [(0, vr 0)] [] z (rv (fun z' => eqS (Sl b) b z' ∧ md rL rA z z')) := by
  have k0 : (0 : Int32).toInt = 0 := rfl
  have k1 : (1 : Int32).toInt = 1 := rfl
  have k6 : (6 : Int32).toInt = 6 := rfl
  have mw := md_f x 68 w
  obtain ⟨xw, exw⟩ : ∃ xw, xw = si x 0 68 w := ⟨_, rfl⟩
  rw [← exw] at mw
  have ew : xw.1 0 68 = w := by rw [exw, si_get, if_pos ⟨rfl, rfl⟩]
  have pw : prE x xw := prE_mi (prE_rf x) (mi_of mw) rfl rfl
  obtain ⟨b, rb, hfs, hKb, b68, pb, hb⟩ := first_exM (CP_md mw rfl rfl cp) (MK_md mw rfl rfl hK) hN
  rw [ew] at b68
  obtain ⟨a0, av, fa, ma, hcn⟩ := fc_exM rb (by unfold wy01; rw [b68]; exact hw) hKb hN hX hfs (by rw [b68, ew0]) w01 (fun z t ht => (WMw_fs t ht).2.2.2 z)
  refine ⟨a0, ⟨av, MK_md ma rfl rfl hKb, MM1_md ma rfl hfs, MIv_fs, by rw [ma.1 68 (by decide), b68, ew0], hcn⟩, av, by rw [ma.1 68 (by decide), b68], prE_tr pw (prE_mi pb (mi_of ma) rfl rfl), ?_, b, ma, fun G D z hD p hz => hb G D z hD (prE_tr (prE_sy pw) p) (by rw [ew]; exact hz)⟩
  intro G D z Fv hD p hF
  obtain ⟨D, rfl⟩ : ∃ D', D = D' + 1 := ⟨D - 1, by omega⟩
  refine sg_startRun_0 _ (fun z1 e1 z2 e2 z3 e3 z4 e4 => ?_)
  have m1 := md_f z 68 w
  rw [← e1] at m1
  have m2 := md_f z1 67 1
  rw [← e2] at m2
  have m3 := md_f z2 94 0
  rw [← e3] at m3
  have m4 := md_f z3 96 0
  rw [← e4] at m4
  have m14 : md [68, 67, 94, 96] [] z z4 := md_tr (md_tr (L3 := [68, 67, 94]) (A3 := []) (md_tr (L3 := [68, 67]) (A3 := []) m1 m2 rfl rfl) m3 rfl rfl) m4 rfl rfl
  have f68 : z4.1 0 68 = w := by rw [m4.1 68 (by decide), m3.1 68 (by decide), m2.1 68 (by decide), e1, si_get, if_pos ⟨rfl, rfl⟩]
  have f67 : z4.1 0 67 = 1 := by rw [m4.1 67 (by decide), m3.1 67 (by decide), e2, si_get, if_pos ⟨rfl, rfl⟩]
  have f94 : z4.1 0 94 = 0 := by rw [m4.1 94 (by decide), e3, si_get, if_pos ⟨rfl, rfl⟩]
  have f96 : z4.1 0 96 = 0 := by rw [e4, si_get, if_pos ⟨rfl, rfl⟩]
  have loop : ∀ (n : Nat) (y : gd) (t : Int32), 0 ≤ t.toInt → t.toInt ≤ 6 → 6 - t.toInt ≤ n → md [] [106, 107] z4 y → (∀ j : Nat, (j : Int) < t.toInt → y.1 106 j = -1 ∧ y.1 107 j = -1) → MT G (D + 1) z_startRun 22 [(0, vr 0), (2, vi t)] [] y (rv Fv) := by
    have last : ∀ y : gd, md [] [106, 107] z4 y → (∀ j : Nat, j < 6 → y.1 106 j = -1 ∧ y.1 107 j = -1) → MT G D z_setFirst 0 [(0, vr 0)] [] y (rv (fun x2 => MT G D z_findChoices 0 [(0, vr 0)] [] x2 (rv (fun x3 => rv Fv none x3)))) := by
      intro y my hy
      have py : prE xw y := prE_tr (prE_sy pw) (prE_mi (prE_mi p (mi_of m14) rfl rfl) (mi_of my) rfl rfl)
      have wy' : y.1 0 68 = xw.1 0 68 := by rw [my.1 68 (by decide), f68, ew]
      refine MTv_mono (hb G D y (by omega) py wy') (fun u q => MT_up (by omega) (MTv_mono (fa G u q.1) (fun v qv => rv_i (hF v qv.1 ?_))))
      have g : mi [82, 84, 88, 89, 90, 91, 92, 93] rA y v := mi_of (md_rt q.2 qv.2)
      have v94 : v.1 0 94 = 0 := by rw [g.1 94 (by decide), my.1 94 (by decide), f94]
      have v96 : v.1 0 96 = 0 := by rw [g.1 96 (by decide), my.1 96 (by decide), f96]
      refine ⟨mi_tr (mi_tr (L3 := sL') (A3 := sA') (mi_of m14) (mi_of my) rfl rfl) g rfl rfl, v94, ⟨by rw [v96]; decide, by rw [v96, v94]; decide, by rw [v94]; decide, fun j hj => by rw [v96, k0] at hj; omega, fun t ht => ?_⟩, by rw [g.1 67 (by decide), my.1 67 (by decide), f67], by rw [g.1 68 (by decide), my.1 68 (by decide), f68]⟩
      rw [g.2 106 (by decide) (by decide), g.2 107 (by decide) (by decide)]
      exact ⟨Or.inl (hy t ht).1, Or.inl (hy t ht).2⟩
    intro n
    induction n with
    | zero =>
      intro y t t0 t6 hn my hy
      exact sg_startRun_22 _ ⟨fun _ => last y my (fun j hj => hy j (by omega)), fun c => absurd (t_le.mpr (by rw [k6]; omega)) c⟩
    | succ n ih =>
      intro y t t0 t6 hn my hy
      refine sg_startRun_22 _ ⟨fun c => last y my (fun j hj => hy j (by rw [t_le, k6] at c; omega)), fun c => ?_⟩
      rw [t_le, k6] at c
      have tv : vp_in t 6 := by rw [vp_in_iff]; omega
      have ct := cl_i t0
      have ti : (t + 1).toInt = t.toInt + 1 := by rw [t_add (by omega) (by omega), k1]
      refine ⟨tv, fun y5 e5 => ⟨tv, fun y7 e7 => ?_⟩⟩
      have m5 := md_a y 106 t.toNatClampNeg (-1) (by decide)
      rw [← e5] at m5
      have m7 := md_a y5 107 t.toNatClampNeg (-1) (by decide)
      rw [← e7] at m7
      refine ih y7 (t + 1) (by omega) (by omega) (by omega) (md_tr (md_tr (L3 := []) (A3 := [106, 107]) my m5 rfl rfl) m7 rfl rfl) (fun j hj => ?_)
      by_cases q : j = t.toNatClampNeg
      · rw [q]
        exact ⟨by rw [e7, si_cell (by decide), e5, si_get, if_pos ⟨rfl, rfl⟩], by rw [e7, si_get, if_pos ⟨rfl, rfl⟩]⟩
      · rw [e7, si_ne 106 j q, si_ne 107 j q, e5, si_ne 106 j q, si_ne 107 j q]
        exact hy j (by omega)
  exact loop 6 z4 0 (by decide) (by decide) (by decide) (md_w (md_rf _) (by decide) (by decide)) (fun j hj => by rw [k0] at hj; omega)
end DSY
end
section
/-! the model: a run, with the machine's states that it goes through -/
/-- the state behind k choices of a row -/
noncomputable def runM (C : gCo) (w : Nat) (c : Nat → Nat) : Nat → gMa
  | 0 => fsM C
  | k + 1 => doM C w (runM C w c k) (((chM C w (runM C w c k))[c k]?).getD (0, none, none))
/-- the row of choices done -/
def c96 (z : gd) : Nat → Nat := fun k => (z.1 96 k).toNatClampNeg
def HistC (C : gCo) (w : Nat) (z : gd) : Prop := ∃ (a : Nat → gd) (n : Nat), (n : Int) = (z.1 0 94).toInt ∧ (∀ k : Nat, k ≤ n → AM C w (runM C w (c96 z) k) (a k)) ∧ (∀ k : Nat, k < n → 0 ≤ (z.1 96 k).toInt ∧ c96 z k < (chM C w (runM C w (c96 z) k)).length ∧ Lk (a k) (c96 z k) (a (k + 1))) ∧ eqS (Sm (a n)) (a n) z ∧ St z (z.1 0 68) (a 0) ∧ ((w = 0 ∨ w = 1) ∧ z.1 0 68 = Int32.ofNat w) ∧ HA z
section MRU
variable {G : mG} {d D : Nat} {x z a : gd} {F : Int32 → gd → Prop} {Fv : gd → Prop} {C : gCo} {w : Nat}
theorem runM_s {c : Nat → Nat} {k : Nat} {ch : gCh} (h : (chM C w (runM C w c k))[c k]? = some ch) : runM C w c (k + 1) = doM C w (runM C w c k) ch := by
  rw [runM, h]
  rfl
theorem runM_cg {c c' : Nat → Nat} : ∀ {n : Nat}, (∀ k, k < n → c k = c' k) → runM C w c n = runM C w c' n := by
  intro n
  induction n with
  | zero => intro _; rfl
  | succ n ih =>
    intro h
    rw [runM, runM, ih (fun k hk => h k (by omega)), h n (by omega)]
theorem AM_n {M : gMa} (h : AM C w M a) : (a.1 0 84).toInt = ((chM C w M).length : Nat) := h.2.2.2.2.2.1
theorem wy_i {a : gd} (w01 : w = 0 ∨ w = 1) (h : a.1 0 68 = Int32.ofNat w) : wy01 a := by
  unfold wy01
  rw [h]
  rcases w01 with e | e <;> rw [e]
  · exact Or.inl rfl
  · exact Or.inr rfl
theorem HistC_H (h : HistC C w z) : Hist z := by
  obtain ⟨a, n, q1, q2, q3, q4, q5, q6, q7⟩ := h
  refine ⟨a, n, q1, fun k hk => (q2 k hk).1, fun k hk => ?_, q4, q5, wy_i q6.1 q6.2, q7⟩
  obtain ⟨b1, b2, b3⟩ := q3 k hk
  have e := AM_n (q2 k (by omega))
  have ci := cl_i b1
  have b2 : (z.1 96 k).toNatClampNeg < (chM C w (runM C w (c96 z) k)).length := b2
  exact ⟨b1, by omega, b3⟩
/-- how many choices there are -/
theorem HistC_n (h : HistC C w z) : (z.1 0 84).toInt = ((chM C w (runM C w (c96 z) (z.1 0 94).toInt.toNat)).length : Nat) := by
  obtain ⟨a, n, q1, q2, q3, q4, -⟩ := h
  have e : z.1 0 84 = (a n).1 0 84 := q4 0 84 (Or.inr (Or.inl ⟨rfl, rfl⟩))
  rw [e, ← q1]
  exact AM_n (q2 n (Nat.le_refl _))
theorem HistC_mi {L A : List Nat} {z' : gd} (m : mi L A z z') (hL : [23, 24, 25, 26, 27, 68, 84, 94, 96].all (fun k => !L.elem k) = true) (hA : [36, 37, 38, 51, 52, 54, 55, 56, 57, 58, 59, 60, 61, 62, 64, 65, 66, 70, 71, 72, 73, 74, 75, 76, 77, 78, 79, 80, 81, 82, 86, 87, 88, 96, 98, 99, 100, 103, 106, 107].all (fun k => !A.elem k) = true) (q : HistC C w z) : HistC C w z' := by
  have L2 : ∀ M : List Nat, M.all ([23, 24, 25, 26, 27, 68, 84, 94, 96].elem ·) = true → M.all (fun k => !L.elem k) = true := fun M hM => List.all_eq_true.mpr (fun k hk => List.all_eq_true.mp hL k (List.elem_iff.mp (List.all_eq_true.mp hM k hk)))
  have A2 : ∀ M : List Nat, M.all ([36, 37, 38, 51, 52, 54, 55, 56, 57, 58, 59, 60, 61, 62, 64, 65, 66, 70, 71, 72, 73, 74, 75, 76, 77, 78, 79, 80, 81, 82, 86, 87, 88, 96, 98, 99, 100, 103, 106, 107].elem ·) = true → M.all (fun k => !A.elem k) = true := fun M hM => List.all_eq_true.mpr (fun k hk => List.all_eq_true.mp hA k (List.elem_iff.mp (List.all_eq_true.mp hM k hk)))
  have f := fun k hk => m.1 k (all_no hL k hk)
  obtain ⟨a, n, q1, q2, q3, q4, q5, q6, q7⟩ := q
  have g96 : z'.1 96 = z.1 96 := m.2 96 (by decide) (all_no hA 96 (by decide))
  have c9 : c96 z' = c96 z := by unfold c96; rw [g96]
  refine ⟨a, n, by rw [f 94 (by decide)]; exact q1, by rw [c9]; exact q2, by rw [c9, g96]; exact q3, eqS_mi q4 m (L2 _ rfl) (A2 _ rfl) (ssub_rf _), ?_, by rw [f 68 (by decide)]; exact q6, HA_mi m (L2 _ rfl) (A2 _ rfl) q7⟩
  rw [f 68 (by decide)]
  exact St_pr (prE_mi (prE_rf z) m (L2 _ rfl) (A2 _ rfl)) q5
/-- a choice more -/
theorem sc_more (gc : GC C) (hh : HistC C w z) (hd : (z.1 0 94).toInt < 400) (i : Int32) (i0 : 0 ≤ i.toInt) (i1 : i.toInt < (z.1 0 84).toInt) (hD : 6 ≤ D) (h : ∀ z', HistC C w z' → dF z z' i → Fv z') : MT G D z_doChoice 0 [(0, vr 0), (1, vi i)] [] z (rv Fv) := by
  obtain ⟨s, n, q1, q2, q3, q4, q5, q6, q7⟩ := hh
  have e84 : z.1 0 84 = (s n).1 0 84 := q4 0 84 (Or.inr (Or.inl ⟨rfl, rfl⟩))
  rw [e84] at i1
  have ci := cl_i i0
  have am := q2 n (Nat.le_refl _)
  have en := AM_n am
  have hil : i.toNatClampNeg < (chM C w (runM C w (c96 z) n)).length := by omega
  obtain ⟨ch, hch⟩ : ∃ ch, (chM C w (runM C w (c96 z) n))[i.toNatClampNeg]? = some ch := ⟨_, List.getElem?_eq_getElem hil⟩
  obtain ⟨a', av', lk⟩ := lk_exM gc q6.1 am hch
  refine sp_doChoice am.1 i i0 i1 lk q4 q7 hd hD (fun z' e' ha' df => h z' ?_ df)
  obtain ⟨m, d94, d96, d96b⟩ := df
  have cn : (z.1 0 94).toNatClampNeg = n := by have := cl_i (a := z.1 0 94) (by omega); omega
  rw [cn] at d96 d96b
  have f68 : z'.1 0 68 = z.1 0 68 := m.1 68 (by decide)
  have cE : ∀ k, k < n → c96 z' k = c96 z k := fun k hk => by unfold c96; rw [d96b k (by omega)]
  have cN : c96 z' n = i.toNatClampNeg := by unfold c96; rw [d96]
  have rE : ∀ k, k ≤ n → runM C w (c96 z') k = runM C w (c96 z) k := fun k hk => runM_cg (fun j hj => cE j (by omega))
  have rN : runM C w (c96 z') (n + 1) = doM C w (runM C w (c96 z) n) ch := by
    rw [runM_s (c := c96 z') (k := n) (ch := ch) (by rw [rE n (Nat.le_refl _), cN]; exact hch), rE n (Nat.le_refl _)]
  refine ⟨fun k => if k = n + 1 then a' else s k, n + 1, by omega, fun k hk => ?_, fun k hk => ?_, ?_, ?_, by rw [f68]; exact q6, ha'⟩
  · by_cases c : k = n + 1
    · simp only [if_pos c]; rw [c, rN]; exact av'
    · simp only [if_neg c]; rw [rE k (by omega)]; exact q2 k (by omega)
  · by_cases c : k = n
    · rw [c, d96, cN, rE n (Nat.le_refl _)]
      simp only [if_neg (show ¬ n = n + 1 by omega), if_pos]
      exact ⟨i0, hil, lk⟩
    · rw [d96b k c, cE k (by omega), rE k (by omega)]
      simp only [if_neg (show ¬ k = n + 1 by omega), if_neg (show ¬ k + 1 = n + 1 by omega)]
      exact q3 k (by omega)
  · simp only [if_pos]
    exact e'
  · simp only [if_neg (show ¬ 0 = n + 1 by omega)]
    rw [f68]
    exact St_pr (prE_mi (prE_rf z) m rfl rfl) q5
/-- a run begun -/
theorem sc_startRun (gc : GC C) (cp : CP z) (hK : MK z C) (w01 : w = 0 ∨ w = 1) (hD : 6 ≤ D) (h : ∀ z', HistC C w z' → sF (Int32.ofNat w) z z' → Fv z') : MT G D z_startRun 0 [(0, vr 0), (1, vi (Int32.ofNat w))] [] z (rv Fv) := by
  have hw : Int32.ofNat w = 0 ∨ Int32.ofNat w = 1 := by
    rcases w01 with e | e <;> rw [e]
    · exact Or.inl rfl
    · exact Or.inr rfl
  obtain ⟨a0, am, av, e68, pa, st, _⟩ := start_exM cp hK gc.1 gc.2.1 w01 _ rfl hw
  refine st G D z Fv hD (prE_rf z) (fun z' e sf => h z' ?_ sf)
  obtain ⟨m, f94, ha, f67, f68⟩ := sf
  refine ⟨fun _ => a0, 0, by rw [f94]; rfl, fun k hk => ?_, fun k hk => absurd hk (Nat.not_lt_zero _), e, ?_, ⟨w01, f68⟩, ha⟩
  · have : k = 0 := by omega
    rw [this]; exact am
  · rw [f68]
    exact St_pr (prE_mi (prE_rf z) m rfl rfl) st
end MRU
end
section
/-! the cells of a row are sure all, or none -/
def n8T (L L' : gU) : Prop := ∃ N, L' = L ++ N ∧ ∀ v ∈ N, ¬ (v.1 = 31 ∨ v.1 = 32 ∨ 80 ≤ v.1)
section NT8
variable {K : Nat → Int32} {L L' L2 : gU} {o : Bool}
theorem n8T_rf : n8T L L := ⟨[], by rw [List.append_nil], fun _ h => by cases h⟩
theorem n8T_tr (h : n8T L L') (g : n8T L' L2) : n8T L L2 := by
  obtain ⟨N, e, h⟩ := h
  obtain ⟨N2, e2, g⟩ := g
  exact ⟨N ++ N2, by rw [e2, e, List.append_assoc], fun v hv => (List.mem_append.mp hv).elim (h v) (g v)⟩
theorem n8T_k {k a b : Nat} (h : ¬ (k = 31 ∨ k = 32 ∨ 80 ≤ k)) : n8T L (L ++ [(k, a, b)]) := ⟨_, rfl, fun v hv => by rw [List.mem_singleton.mp hv]; exact h⟩
theorem n8T_k2 {k a b k' a' b' : Nat} (h : ¬ (k = 31 ∨ k = 32 ∨ 80 ≤ k)) (h' : ¬ (k' = 31 ∨ k' = 32 ∨ 80 ≤ k')) : n8T L (L ++ [(k, a, b), (k', a', b')]) := ⟨_, rfl, fun v hv => by
  rcases List.mem_cons.mp hv with e | e
  · rw [e]; exact h
  · rw [List.mem_singleton.mp e]; exact h'⟩
theorem pt_n8T {w : Int32} {q r : Nat × gU} (h : pt K w q = some r) : n8T q.2 r.2 := by
  obtain ⟨-, -, e⟩ := pt_is h
  rw [e]; exact n8T_rf
theorem pan_n8T {v : Nat × Nat × Nat} {q r : Nat × gU} (hv : ¬ (v.1 = 31 ∨ v.1 = 32 ∨ 80 ≤ v.1)) (h : pan v q = some r) : n8T q.2 r.2 := by
  unfold pan at h
  cases Option.some.inj h
  exact n8T_k hv
abbrev ng8 (rE : Nat → Nat → gU → gOp) : Prop := ∀ s i L q, rE s i L = some q → n8T L q.2
theorem pW_n8T {rE : Nat → Nat → gU → gOp} {th : Nat} (hr : ng8 rE) : ∀ (f j : Nat) (L : gU) (q : Nat × gU), pW rE K th f j L = some q → n8T L q.2 := by
  intro f
  induction f with
  | zero => intro j L q h; exact absurd h (by simp [pW])
  | succ f ih =>
    intro j L q h
    rw [pW] at h
    split at h
    · split at h
      · obtain ⟨z, hz, h2⟩ := Option.bind_eq_some_iff.mp h
        exact n8T_tr (hr _ _ _ _ hz) (n8T_tr (n8T_k (by decide)) (ih _ _ _ h2))
      · exact absurd h (by simp)
    · cases Option.some.inj h; exact n8T_rf
theorem pO_n8T {rE : Nat → Nat → gU → gOp} (hr : ng8 rE) {i : Nat} {q : Nat × gU} (h : pO rE K o i L = some q) : n8T L q.2 := by
  unfold pO at h
  split at h
  · exact absurd h (by simp)
  · split at h
    · cases Option.some.inj h; exact n8T_k (by decide)
    · split at h
      · cases Option.some.inj h; exact n8T_k (by decide)
      · split at h
        · obtain ⟨z, hz, h2⟩ := Option.bind_eq_some_iff.mp h
          exact n8T_tr (hr _ _ _ _ hz) (pt_n8T h2)
        · split at h
          · split at h
            · split at h
              · split at h
                · cases Option.some.inj h; exact n8T_k2 (by decide) (by decide)
                · exact absurd h (by simp)
              · cases Option.some.inj h; exact n8T_k (by decide)
            · cases Option.some.inj h; exact n8T_k (by decide)
          · exact absurd h (by simp)
theorem pE_n8T : ∀ f : Nat, ng8 (pE K o f) := by
  intro f
  induction f with
  | zero => intro s i L q h; exact absurd h (by simp [pE])
  | succ f ih =>
    intro s i L q h
    rw [pE] at h
    split at h
    · obtain ⟨z, hz, h2⟩ := Option.bind_eq_some_iff.mp h
      refine n8T_tr ?_ (pW_n8T ih _ _ _ _ h2)
      split at hz
      · split at hz
        · obtain ⟨y, hy, h3⟩ := Option.bind_eq_some_iff.mp hz
          cases Option.some.inj h3
          exact n8T_tr (ih _ _ _ _ hy) (n8T_k (by decide))
        · exact absurd hz (by simp)
      · exact pO_n8T ih hz
    · exact absurd h (by simp)
theorem pX_n8T {f i : Nat} {q : Nat × gU} (h : pX K o f i L = some q) : n8T L q.2 := by
  obtain ⟨z, hz, h2⟩ := Option.bind_eq_some_iff.mp h
  exact n8T_tr (pE_n8T f _ _ _ _ hz) (pan_n8T (show ¬ (54 = 31 ∨ 54 = 32 ∨ 80 ≤ 54) by decide) h2)
theorem pXq_n8T {f : Nat} {r q : Nat × gU} (h : pXq K f r = some q) : n8T r.2 q.2 := pX_n8T h
theorem pP_n8T {f i : Nat} {q : Nat × gU} (h : pP K f i L = some q) : n8T L q.2 := by
  unfold pP at h
  split at h
  · split at h
    · split at h
      · obtain ⟨z, hz, h2⟩ := Option.bind_eq_some_iff.mp h
        exact n8T_tr (n8T_tr (n8T_k (by decide)) (pX_n8T hz)) (pt_n8T h2)
      · exact absurd h (by simp)
    · cases Option.some.inj h; exact n8T_k (by decide)
  · exact absurd h (by simp)
theorem pme_n8T {t : Option Nat} : n8T L (L ++ pme t) := by
  cases t with
  | none => rw [pme, List.append_nil]; exact n8T_rf
  | some t => exact n8T_k (by decide)
theorem pma_n8T {t : Option Nat} : n8T L (L ++ pma t) := by
  cases t with
  | none => rw [pma, List.append_nil]; exact n8T_rf
  | some t => exact n8T_k (by decide)
theorem pal_n8T {t : Option Nat} {i : Nat} : n8T L (L ++ [pal t i]) := by
  cases t with
  | none => exact n8T_k (by decide)
  | some t => exact n8T_k (by decide)
theorem pR_n8T {f i : Nat} {t : Option Nat} {q : Nat × gU} (h : pR K f t i L = some q) : n8T L q.2 := by
  unfold pR at h
  split at h
  · split at h
    · obtain ⟨z4, hz4, h4⟩ := Option.bind_eq_some_iff.mp h
      obtain ⟨z3, hz3, h3⟩ := Option.bind_eq_some_iff.mp hz4
      obtain ⟨z2, hz2, h2⟩ := Option.bind_eq_some_iff.mp hz3
      obtain ⟨z5, hz5, h5⟩ := Option.bind_eq_some_iff.mp h4
      have d : n8T z5.2 q.2 := pan_n8T (show ¬ (74 = 31 ∨ 74 = 32 ∨ 80 ≤ 74) by decide) h5
      have a : n8T L z4.2 := n8T_tr (n8T_tr (n8T_tr pme_n8T (pP_n8T hz2)) (pt_n8T h2)) (pXq_n8T h3)
      split at hz5
      · obtain ⟨z6, hz6, h6⟩ := Option.bind_eq_some_iff.mp hz5
        exact n8T_tr (n8T_tr (n8T_tr a (pt_n8T hz6)) (pXq_n8T h6)) d
      · cases Option.some.inj hz5; exact n8T_tr a d
    · exact absurd h (by simp)
  · split at h
    · obtain ⟨z, hz, h2⟩ := Option.bind_eq_some_iff.mp h
      exact n8T_tr (n8T_tr pme_n8T (pP_n8T hz)) (pan_n8T (show ¬ (75 = 31 ∨ 75 = 32 ∨ 80 ≤ 75) by decide) h2)
    · split at h
      · split at h
        · cases Option.some.inj h; exact pal_n8T
        · exact absurd h (by simp)
      · obtain ⟨z, hz, h2⟩ := Option.bind_eq_some_iff.mp h
        exact n8T_tr (n8T_tr pma_n8T (pX_n8T hz)) (pan_n8T (show ¬ (76 = 31 ∨ 76 = 32 ∨ 80 ≤ 76) by decide) h2)
abbrev nh8 (rS : Nat → Nat → gU → gTs) : Prop := ∀ c i L q, rS c i L = some q → n8T L q.2.2
theorem pBl_n8T {rS : Nat → Nat → gU → gTs} {z : Nat} (hr : nh8 rS) : ∀ (n c i : Nat) (L : gU) (q : Nat × Nat × gU), pBl rS K z n c i L = some q → n8T L q.2.2 := by
  intro n
  induction n with
  | zero => intro c i L q h; exact absurd h (by simp [pBl])
  | succ n ih =>
    intro c i L q h
    rw [pBl] at h
    split at h
    · split at h
      · cases Option.some.inj h; exact n8T_k (by decide)
      · exact absurd h (by simp)
    · obtain ⟨y, hy, h2⟩ := Option.bind_eq_some_iff.mp h
      exact n8T_tr (hr _ _ _ _ hy) (ih _ _ _ _ h2)
theorem pBk_n8T {rS : Nat → Nat → gU → gTs} {z : Nat} (hr : nh8 rS) {c i : Nat} {q : Nat × Nat × gU} (h : pBk rS K z c i L = some q) : n8T L q.2.2 := by
  unfold pBk at h
  split at h
  · exact n8T_tr (n8T_k (by decide)) (pBl_n8T hr _ _ _ _ _ h)
  · exact absurd h (by simp)
theorem pEl_n8T {rS : Nat → Nat → gU → gTs} (hr : nh8 rS) {q r : Nat × Nat × gU} (h : pEl rS K q = some r) : n8T q.2.2 r.2.2 := by
  unfold pEl at h
  split at h
  · split at h
    · split at h
      · exact n8T_tr (n8T_k (by decide)) (hr _ _ _ _ h)
      · exact n8T_tr (n8T_k (by decide)) (pBk_n8T hr h)
    · exact absurd h (by simp)
  · cases Option.some.inj h; exact n8T_rf
theorem pup_n8T {c : Nat} {v : Nat × Nat × Nat} {r : gOp} {q : Nat × Nat × gU} (hv : ¬ (v.1 = 31 ∨ v.1 = 32 ∨ 80 ≤ v.1)) (h : pup c v r = some q) : ∃ z, r = some z ∧ n8T z.2 q.2.2 := by
  unfold pup at h
  obtain ⟨z, hz, e⟩ := Option.bind_eq_some_iff.mp h
  cases Option.some.inj e
  exact ⟨z, hz, n8T_k hv⟩
theorem pS1_n8T {f c i : Nat} {q : Nat × Nat × gU} (h : pS1 K f c i L = some q) : n8T L q.2.2 := by
  unfold pS1 at h
  split at h
  · split at h
    · obtain ⟨z, h, g⟩ := pup_n8T (show ¬ (22 = 31 ∨ 22 = 32 ∨ 80 ≤ 22) by decide) h
      obtain ⟨y, hy, h2⟩ := Option.bind_eq_some_iff.mp h
      exact n8T_tr (n8T_tr (n8T_tr (n8T_k (by decide)) (pR_n8T hy)) (pt_n8T h2)) g
    · exact absurd h (by simp)
  · split at h
    · split at h
      · split at h
        · obtain ⟨z, h, g⟩ := pup_n8T (show ¬ (78 = 31 ∨ 78 = 32 ∨ 80 ≤ 78) by decide) h
          obtain ⟨y5, hy5, h5⟩ := Option.bind_eq_some_iff.mp h
          obtain ⟨y4, hy4, h4⟩ := Option.bind_eq_some_iff.mp hy5
          obtain ⟨y3, hy3, h3⟩ := Option.bind_eq_some_iff.mp hy4
          obtain ⟨y2, hy2, h2⟩ := Option.bind_eq_some_iff.mp hy3
          exact n8T_tr (n8T_tr (n8T_tr (n8T_tr (n8T_tr (n8T_tr (n8T_k (by decide)) (pX_n8T hy2)) (pt_n8T h2)) (pt_n8T h3)) (pXq_n8T h4)) (pt_n8T h5)) g
        · exact absurd h (by simp)
      · split at h
        · obtain ⟨z, h, g⟩ := pup_n8T (show ¬ (77 = 31 ∨ 77 = 32 ∨ 80 ≤ 77) by decide) h
          obtain ⟨y2, hy2, h2⟩ := Option.bind_eq_some_iff.mp h
          exact n8T_tr (n8T_tr (pR_n8T hy2) (pt_n8T h2)) g
        · exact absurd h (by simp)
    · split at h
      · obtain ⟨z, h, g⟩ := pup_n8T (show ¬ (68 = 31 ∨ 68 = 32 ∨ 80 ≤ 68) by decide) h
        have := pt_n8T h
        exact n8T_tr this g
      · split at h
        · obtain ⟨z, h, g⟩ := pup_n8T (show ¬ (69 = 31 ∨ 69 = 32 ∨ 80 ≤ 69) by decide) h
          obtain ⟨y2, hy2, h2⟩ := Option.bind_eq_some_iff.mp h
          exact n8T_tr (n8T_tr (pX_n8T hy2) (pt_n8T h2)) g
        · split at h
          · split at h
            · obtain ⟨z, h, g⟩ := pup_n8T (show ¬ (70 = 31 ∨ 70 = 32 ∨ 80 ≤ 70) by decide) h
              obtain ⟨y2, hy2, h2⟩ := Option.bind_eq_some_iff.mp h
              exact n8T_tr (n8T_tr (pX_n8T hy2) (pt_n8T h2)) g
            · exact absurd h (by simp)
          · split at h
            · split at h
              · obtain ⟨z, h, g⟩ := pup_n8T (show ¬ (66 = 31 ∨ 66 = 32 ∨ 80 ≤ 66) by decide) h
                have := pt_n8T h
                exact n8T_tr this g
              · exact absurd h (by simp)
            · split at h
              · split at h
                · obtain ⟨z, h, g⟩ := pup_n8T (show ¬ (67 = 31 ∨ 67 = 32 ∨ 80 ≤ 67) by decide) h
                  have := pt_n8T h
                  exact n8T_tr this g
                · exact absurd h (by simp)
              · exact absurd h (by simp)
theorem pfi_n8T {q r : Nat × Nat × gU} (h : pfi q = some r) : n8T q.2.2 r.2.2 := by
  unfold pfi at h
  cases Option.some.inj h
  exact n8T_k (by decide)
theorem pS_n8T : ∀ f : Nat, nh8 (pS K f) := by
  intro f
  induction f with
  | zero => intro c i L q h; exact absurd h (by simp [pS])
  | succ f ih =>
    intro c i L q h
    rw [pS] at h
    split at h
    · exact absurd h (by simp)
    · split at h
      · obtain ⟨z, hz, h2⟩ := Option.bind_eq_some_iff.mp h
        obtain ⟨x, hx, h4⟩ := Option.bind_eq_some_iff.mp h2
        obtain ⟨y, hy, h3⟩ := Option.bind_eq_some_iff.mp hx
        exact n8T_tr (n8T_tr (n8T_tr (n8T_tr (pX_n8T hz) (n8T_k (by decide))) (pBk_n8T ih hy)) (pEl_n8T ih h3)) (pfi_n8T h4)
      · split at h
        · obtain ⟨z, hz, h2⟩ := Option.bind_eq_some_iff.mp h
          exact n8T_tr (n8T_tr (pX_n8T hz) (n8T_k (by decide))) (pBk_n8T ih h2)
        · split at h
          · split at h
            · exact n8T_tr (n8T_k (by decide)) (pBk_n8T ih h)
            · exact absurd h (by simp)
          · exact pS1_n8T h
/-- cells as told: each name's cells are alike; they are as many as the numbers say -/
def celP (K V : Nat → Int32) (L : gU) : Prop := (cel K V L).length = nbT 0 (L.filterMap (te1 K V)) ∧ ∀ T1 q T2, L.filterMap (te1 K V) = T1 ++ q :: T2 → q.2.1 = 0 → ∃ p : Int32 × Bool, ∀ i, i < max q.2.2.1 1 → (cel K V L)[nbT 0 T1 + i]? = some p
theorem celP_0 {V : Nat → Int32} : celP K V [] := ⟨rfl, fun T1 q T2 h => by
  have h : ([] : gTd) = T1 ++ q :: T2 := h
  cases T1 <;> cases h⟩
theorem nbT_0 {T : gTd} (h : ∀ q ∈ T, ¬ q.2.1 = 0) : nbT 0 T = 0 := by
  induction T with
  | nil => rfl
  | cons q T ih => rw [nbT, if_neg (h q List.mem_cons_self), ih (fun r hr => h r (List.mem_cons_of_mem _ hr))]
/-- one more entry -/
theorem app_one {T T1 T2 : gTd} {q r : Nat × Nat × Nat × Nat} (h : T ++ [r] = T1 ++ q :: T2) : (T1 = T ∧ q = r ∧ T2 = []) ∨ ∃ T3, T = T1 ++ q :: T3 ∧ T2 = T3 ++ [r] := by
  rcases List.append_eq_append_iff.mp h with ⟨a, h1, h2⟩ | ⟨a, h1, h2⟩
  · cases a with
    | nil =>
      rw [List.nil_append] at h2
      rw [List.append_nil] at h1
      cases h2
      exact Or.inl ⟨h1, rfl, rfl⟩
    | cons b a =>
      rw [List.cons_append] at h2
      have := congrArg List.length h2
      simp at this
  · cases a with
    | nil =>
      rw [List.nil_append] at h2
      rw [List.append_nil] at h1
      cases h2
      exact Or.inl ⟨h1.symm, rfl, rfl⟩
    | cons b a =>
      rw [List.cons_append] at h2
      cases h2
      exact Or.inr ⟨a, h1, rfl⟩
/-- what tells of no cell -/
theorem celP_no {V : Nat → Int32} {N : gU} (h : celP K V L) (hN : ∀ v ∈ N, ¬ (v.1 = 31 ∨ v.1 = 32 ∨ 80 ≤ v.1)) : celP K V (L ++ N) := by
  have e : cel K V (L ++ N) = cel K V L := by unfold cel; rw [ces_app, ces_no hN]
  have n0 : ∀ q ∈ N.filterMap (te1 K V), ¬ q.2.1 = 0 := fun q hq => by
    obtain ⟨v, hv, hq⟩ := List.mem_filterMap.mp hq
    have nv := hN v hv
    unfold te1 at hq
    rw [if_neg (fun z => nv (Or.inl z)), if_neg (fun z => nv (Or.inr (Or.inl z)))] at hq
    split at hq
    · cases hq; exact (by decide : ¬ (1 : Nat) = 0)
    · split at hq
      · cases hq; exact (by decide : ¬ (2 : Nat) = 0)
      · cases hq
  unfold celP
  rw [e, List.filterMap_append]
  refine ⟨by rw [nbT_app, nbT_0 n0]; exact h.1, fun T1 q T2 hT hq => ?_⟩
  rcases List.append_eq_append_iff.mp hT with ⟨a, h1, h2⟩ | ⟨a, h1, h2⟩
  · -- it lies in what is new: no cell
    have : q ∈ N.filterMap (te1 K V) := by rw [h2]; exact List.mem_append_right _ List.mem_cons_self
    exact absurd hq (n0 q this)
  · cases a with
    | nil =>
      rw [List.nil_append] at h2
      have : q ∈ N.filterMap (te1 K V) := by rw [← h2]; exact List.mem_cons_self
      exact absurd hq (n0 q this)
    | cons b a =>
      rw [List.cons_append] at h2
      cases h2
      exact h.2 T1 q a h1 hq
/-- a cell, or a row of them -/
theorem celP_one {V : Nat → Int32} {v w : Nat × Nat × Nat} {i t : Nat} (h : celP K V L) (hv : v = (31, t, 0) ∨ v = (32, t, t + 2)) (hw : w.1 = 80 ∨ w.1 = 81 ∨ w.1 = 82) : celP K V (L ++ [v] ++ [w] ++ [(83, i, t)]) := by
  obtain ⟨c, ec⟩ : ∃ c, c = ces K V L (0, 0, []) := ⟨_, rfl⟩
  obtain ⟨n, en⟩ : ∃ n : Nat, n = (if v.1 = 31 then 1 else prz K V v.2.2) := ⟨_, rfl⟩
  have n1 : 1 ≤ n ∧ (∀ q, te1 K V v = some q → q.2.1 = 0 ∧ max q.2.2.1 1 = n) := by
    have pz : 1 ≤ prz K V v.2.2 := by
      unfold prz
      split
      · next z =>
        have k1 : (1 : Int32).toInt = 1 := rfl
        have := t_le.mp z.2.1
        rw [t_cl]
        omega
      · exact Nat.le_refl _
    rcases hv with e | e
    · subst e
      rw [en]
      refine ⟨Nat.le_refl _, fun q hq => ?_⟩
      cases hq
      exact ⟨rfl, rfl⟩
    · subst e
      rw [en]
      refine ⟨pz, fun q hq => ?_⟩
      cases hq
      refine ⟨rfl, ?_⟩
      show max (prz K V (t + 2)) 1 = prz K V (t + 2)
      exact Nat.max_eq_left pz
  obtain ⟨q0, hq0⟩ : ∃ q, te1 K V v = some q := by rcases hv with e | e <;> subst e <;> exact ⟨_, rfl⟩
  obtain ⟨k0, mx⟩ := n1.2 q0 hq0
  have s1 : ceV K V c v = (n, c.2) := by rcases hv with e | e <;> subst e <;> rw [en] <;> rfl
  obtain ⟨s, s2⟩ : ∃ s, ceV K V (n, c.2) w = (n, s, c.2.2) := by
    unfold ceV
    rw [if_neg (by omega), if_neg (by omega)]
    rcases hw with e | e | e
    · rw [if_pos e]; exact ⟨_, rfl⟩
    · rw [if_neg (by omega), if_pos e]; exact ⟨_, rfl⟩
    · rw [if_neg (by omega), if_neg (by omega), if_pos e]; exact ⟨_, rfl⟩
  obtain ⟨b, s3⟩ : ∃ b : Bool, ceV K V (n, s, c.2.2) (83, i, t) = (n, s, c.2.2 ++ List.replicate n (s, b)) := ⟨_, rfl⟩
  have ce : cel K V (L ++ [v] ++ [w] ++ [(83, i, t)]) = cel K V L ++ List.replicate n (s, b) := by
    unfold cel
    rw [ces_app, ces_app, ces_app, ← ec]
    show (ceV K V (ceV K V (ceV K V c v) w) (83, i, t)).2.2 = c.2.2 ++ _
    rw [s1, s2, s3]
  have tw : te1 K V w = none := by
    unfold te1
    rw [if_neg (by omega), if_neg (by omega), if_neg (by omega), if_neg (by omega)]
  have te : (L ++ [v] ++ [w] ++ [(83, i, t)]).filterMap (te1 K V) = L.filterMap (te1 K V) ++ [q0] := by
    rw [List.filterMap_append, List.filterMap_append, List.filterMap_append]
    have a1 : [v].filterMap (te1 K V) = [q0] := by simp [hq0]
    have a2 : [w].filterMap (te1 K V) = [] := by simp [tw]
    have a3 : [((83, i, t) : Nat × Nat × Nat)].filterMap (te1 K V) = [] := rfl
    rw [a1, a2, a3, List.append_nil, List.append_nil]
  unfold celP
  rw [ce, te]
  refine ⟨?_, fun T1 q T2 hT hq => ?_⟩
  · rw [List.length_append, List.length_replicate, nbT_app, h.1, nbT, nbT, if_pos k0, mx, Nat.add_zero]
  · rcases app_one hT with ⟨e1, e2, -⟩ | ⟨T3, e1, -⟩
    · rw [e1, e2, mx, ← h.1]
      refine ⟨(s, b), fun j hj => ?_⟩
      rw [List.getElem?_append_right (by omega), Nat.add_sub_cancel_left, List.getElem?_replicate, if_pos hj]
    · obtain ⟨p, hp⟩ := h.2 T1 q T3 e1 hq
      refine ⟨p, fun j hj => ?_⟩
      have := hp j hj
      rw [List.getElem?_append_left (gt_lt this)]
      exact this
theorem pCl_cP {V : Nat → Int32} {n i t : Nat} {q : Nat × Nat × gU} (hc : celP K V L) (h : pCl K V n i t L = some q) : celP K V q.2.2 := by
  have cv : ∀ {j : Nat} {v : Nat × Nat × Nat} {m : Nat} {q : Nat × Nat × gU}, (v = (31, t, 0) ∨ v = (32, t, t + 2)) → ((pCv K (j, L ++ [v])).bind (pt K 67)).bind (fun q => some (m, q.1, q.2 ++ [(83, i, t)])) = some q → celP K V q.2.2 := fun {j v m q} hv hz => by
    obtain ⟨z, hz, h2⟩ := Option.bind_eq_some_iff.mp hz
    obtain ⟨y, hy, h3⟩ := Option.bind_eq_some_iff.mp hz
    obtain ⟨-, -, e3⟩ := pt_is h3
    cases h2
    show celP K V (z.2 ++ [(83, i, t)])
    rw [e3]
    unfold pCv at hy
    split at hy
    · split at hy
      · split at hy
        · split at hy
          · cases Option.some.inj hy
            exact celP_one hc hv (Or.inr (Or.inl rfl))
          · exact absurd hy (by simp)
        · split at hy
          · cases Option.some.inj hy
            exact celP_one hc hv (Or.inl rfl)
          · exact absurd hy (by simp)
      · exact absurd hy (by simp)
    · cases Option.some.inj hy
      exact celP_one hc hv (Or.inr (Or.inr rfl))
  unfold pCl at h
  split at h
  · split at h
    · split at h
      · exact cv (Or.inr rfl) h
      · exact absurd h (by simp)
    · exact cv (Or.inl rfl) h
  · exact absurd h (by simp)
theorem celP_n8 {V : Nat → Int32} (hc : celP K V L) (h : n8T L L') : celP K V L' := by
  obtain ⟨N, e, hN⟩ := h
  rw [e]
  exact celP_no hc hN
theorem pD_cP {V : Nat → Int32} {n : gN} {i : Nat} {q : gN × Nat × gU} (hc : celP K V L) (h : pD K V n i L = some q) : celP K V q.2.2 := by
  have blk : ∀ {m j : Nat} {v : Nat × Nat × Nat} {r : Nat × Nat × gU}, ¬ (v.1 = 31 ∨ v.1 = 32 ∨ 80 ≤ v.1) → pBk (pS K 16) K 0 0 j (L ++ [v]) = some r → celP K V r.2.2 := fun {m j v r} hv hr => celP_n8 (celP_no hc (fun w hw => by rw [List.mem_singleton.mp hw]; exact hv)) (pBk_n8T (pS_n8T 16) hr)
  unfold pD at h
  split at h
  · split at h
    · obtain ⟨z, hz, h2⟩ := Option.bind_eq_some_iff.mp h
      cases h2
      exact pCl_cP hc hz
    · exact absurd h (by simp)
  · split at h
    · obtain ⟨z, hz, h2⟩ := Option.bind_eq_some_iff.mp h
      cases h2
      exact pCl_cP hc hz
    · split at h
      · split at h
        · cases Option.some.inj h
          exact celP_no hc (fun w hw => by rw [List.mem_singleton.mp hw]; show ¬ (33 = 31 ∨ 33 = 32 ∨ 80 ≤ 33); decide)
        · exact absurd h (by simp)
      · split at h
        · split at h
          · obtain ⟨z, hz, h2⟩ := Option.bind_eq_some_iff.mp h
            cases h2
            exact blk (m := 0) (show ¬ (34 = 31 ∨ 34 = 32 ∨ 80 ≤ 34) by decide) hz
          · exact absurd h (by simp)
        · split at h
          · split at h
            · obtain ⟨z, hz, h2⟩ := Option.bind_eq_some_iff.mp h
              cases h2
              exact blk (m := 0) (show ¬ (34 = 31 ∨ 34 = 32 ∨ 80 ≤ 34) by decide) hz
            · exact absurd h (by simp)
          · split at h
            · split at h
              · obtain ⟨z, hz, h2⟩ := Option.bind_eq_some_iff.mp h
                obtain ⟨y, hy, h3⟩ := Option.bind_eq_some_iff.mp hz
                cases h2
                exact celP_n8 (celP_n8 (celP_no hc (fun w hw => by rw [List.mem_singleton.mp hw]; show ¬ (35 = 31 ∨ 35 = 32 ∨ 80 ≤ 35); decide)) (pX_n8T hy)) (pt_n8T h3)
              · exact absurd h (by simp)
            · split at h
              · split at h
                · obtain ⟨z, hz, h2⟩ := Option.bind_eq_some_iff.mp h
                  obtain ⟨y, hy, h3⟩ := Option.bind_eq_some_iff.mp hz
                  cases h2
                  exact celP_n8 (celP_n8 (celP_no hc (fun w hw => by rw [List.mem_singleton.mp hw]; show ¬ (36 = 31 ∨ 36 = 32 ∨ 80 ≤ 36); decide)) (pX_n8T hy)) (pt_n8T h3)
                · exact absurd h (by simp)
              · exact absurd h (by simp)
theorem pAl_cP {V : Nat → Int32} : ∀ (m : Nat) (n : gN) (i : Nat) (L : gU) (q : gN × Nat × gU), celP K V L → pAl K V m n i L = some q → celP K V q.2.2 := by
  intro m
  induction m with
  | zero => intro n i L q _ h; exact absurd h (by simp [pAl])
  | succ m ih =>
    intro n i L q hc h
    rw [pAl] at h
    split at h
    · cases Option.some.inj h; exact hc
    · obtain ⟨z, hz, h2⟩ := Option.bind_eq_some_iff.mp h
      exact ih _ _ _ _ (pD_cP hc hz) h2
/-- the first of a name -/
theorem nm_first {sN : Nat → Nat → Bool} {t : Nat} : ∀ {T : gTd} {q : Nat × Nat × Nat × Nat}, mtP sN T 0 t = some q → ∃ T1 T2, T = T1 ++ q :: T2 ∧ q.2.1 = 0 ∧ nmT sN 0 t T = nbT 0 T1 := by
  intro T
  induction T with
  | nil => intro q h; cases h
  | cons r T ih =>
    intro q h
    unfold mtP at h
    rw [List.find?_cons] at h
    cases hr : (decide (r.2.1 = 0) && sN r.1 t) with
    | true =>
      rw [hr] at h
      cases h
      rw [Bool.and_eq_true, decide_eq_true_eq] at hr
      refine ⟨[], T, rfl, hr.1, ?_⟩
      rw [nmT, if_pos (by rw [Bool.and_eq_true, decide_eq_true_eq]; exact hr)]
      rfl
    | false =>
      rw [hr] at h
      obtain ⟨T1, T2, e1, e2, e3⟩ := ih (q := q) h
      refine ⟨r :: T1, T2, by rw [e1]; rfl, e2, ?_⟩
      rw [nmT, if_neg (by rw [hr]; decide), nbT, e3]
end NT8
section NX3S
variable {sN : Nat → Nat → Bool} {V K : Nat → Int32} {L : gU} {P : Nat × Nat × Nat → Prop}
theorem NX3_of (hc : celP K V L) (l24 : (cel K V L).length ≤ 24) (h : WC sN K P (cds sN K L cd0)) : NX3 (codN sN V K L) := by
  obtain ⟨E, S, r, b, l, ec, -, -, w1, w2, w3⟩ := h
  have e1 : (cds sN K L cd0).2.1 = S := by rw [ec]
  intro j st hj o4 hix i hi
  have cs : (codN sN V K L).2.2.1 = cel K V L := rfl
  unfold codN at hj
  rw [e1] at hj
  obtain ⟨T, eT⟩ : ∃ T, T = L.filterMap (te1 K V) := ⟨_, rfl⟩
  have hj : (S.map (nStp sN (L.filterMap (te1 K V)) V K))[j]? = some st := hj
  rw [← eT] at hj
  rw [List.getElem?_map] at hj
  obtain ⟨s0, g0, e⟩ := Option.map_eq_some_iff.mp hj
  subst e
  obtain ⟨-, E0, ⟨q1, q2, q3, q4, q5, q5', q6, -⟩, -⟩ := w1 j s0 g0
  have o4 : s0.1 ≤ 4 := o4
  obtain ⟨tk, h5, -⟩ := q4 (by omega)
  have fl : s0.2.2.2.2.2.1 = true := (q6 o4).mpr (fun z => hix (by show s0.2.2.2.2.2.2.1.map _ = none; rw [z]; rfl))
  have eo : mOf sN T V s0 = Int32.ofNat (nmT sN 0 tk T) := by unfold mOf; rw [h5]; exact if_pos o4
  have es : mSz sN T s0 = Int32.ofNat (rsT sN T tk) := by unfold mSz; rw [if_pos fl, if_pos o4, h5]; rfl
  have hi : (i : Int) < (mSz sN T s0).toInt := hi
  rw [es] at hi
  show suM _ ((mOf sN T V s0).toNatClampNeg + i) = suM _ (mOf sN T V s0).toNatClampNeg
  rw [eo]
  unfold rsT at hi
  cases hm : mtP sN T 0 tk with
  | none =>
    simp only [hm] at hi
    have k0 : (Int32.ofNat 0).toInt = 0 := rfl
    rw [k0] at hi
    omega
  | some q =>
    simp only [hm] at hi
    obtain ⟨T1, T2, a1, a2, a3⟩ := nm_first hm
    obtain ⟨p, hp⟩ := hc.2 T1 q T2 (by rw [← eT]; exact a1) a2
    have p0 := hp 0 (by omega)
    have l0 := gt_lt p0
    have tot : nbT 0 T1 + max q.2.2.1 1 ≤ (cel K V L).length := by
      have := gt_lt (hp (max q.2.2.1 1 - 1) (by omega))
      omega
    have iq : i < q.2.2.1 := by
      have : (Int32.ofNat q.2.2.1).toInt = (q.2.2.1 : Nat) := Int32.toInt_ofNat_of_lt (by omega)
      rw [this] at hi
      omega
    have en : (Int32.ofNat (nmT sN 0 tk T)).toNatClampNeg = nbT 0 T1 := by
      rw [a3, t_cl, Int32.toInt_ofNat_of_lt (by omega)]; rfl
    rw [en]
    have pi := hp i (by omega)
    rw [Nat.add_zero] at p0
    unfold suM
    rw [cs, pi, p0]
end NX3S
end
