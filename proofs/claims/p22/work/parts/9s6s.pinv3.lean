section
/-! the machine: one that waits doesn't hold its lock; choices that there are -/
section PWL
variable {C : gCo} {M : gMa} {w t s c i : Nat} {e f : Int32} {wk : Option Nat} {ch : gCh}
theorem ix_no (hX : NXc C) (h : 5 ≤ (stN C s).1) : (stN C s).2.2.2.2.2.2.2.1 = none := by
  unfold stN at h ⊢
  cases hs : C.1[s]? with
  | none => rfl
  | some st =>
    rw [hs] at h
    have h : 5 ≤ st.1 := h
    show st.2.2.2.2.2.2.2.1 = none
    cases hz : st.2.2.2.2.2.2.2.1 with
    | none => rfl
    | some Q =>
      have := (hX s st hs).1 (by rw [hz]; exact (fun z => nomatch z))
      omega
theorem WLk_fs : WLk C (fsM C) := fun t _ n0 => by
  refine absurd ?_ n0
  by_cases q : t < C.2.1.length
  · obtain ⟨q9, hq⟩ : ∃ q9, C.2.1[t]? = some q9 := ⟨_, List.getElem?_eq_getElem q⟩
    by_cases c1 : q9.2 = 1
    · rw [fs_idle hq c1]; rfl
    · rw [fs_go hq c1]; rfl
  · rw [fs_out (by omega)]; rfl
theorem WLk_ef (q : WLk C M) (qw : WMw w M) (n7 : ¬ s = 7) (h9 : s = 9 → c < 6 → (M.2.2 c).1 = 0) : ∀ t', t' < 6 → ¬ t' = t → ¬ ((efM C w M t s c e f wk).1.2.2 t').2.2.2.1 = 0 → ¬ ((efM C w M t s c e f wk).1.2.1 (obM C ((efM C w M t s c e f wk).1.2.2 t').2.2.1)).1 = t' + 1 := by
  have same : ∀ E : gMa, E.2.2 = M.2.2 → E.2.1 = M.2.1 → ∀ t', t' < 6 → ¬ t' = t → ¬ (E.2.2 t').2.2.2.1 = 0 → ¬ (E.2.1 (obM C (E.2.2 t').2.2.1)).1 = t' + 1 := fun E h1 h2 t' ht' _ hw => by
    rw [h1] at hw ⊢
    rw [h2]
    exact q t' ht' hw
  have self : ∀ (E : gMa) (hh : gTq), E.2.2 = upf M.2.2 t hh → E.2.1 = M.2.1 → ∀ t', t' < 6 → ¬ t' = t → ¬ (E.2.2 t').2.2.2.1 = 0 → ¬ (E.2.1 (obM C (E.2.2 t').2.2.1)).1 = t' + 1 := fun E hh h1 h2 t' ht' ne hw => by
    rw [h1, upf_ne ne] at hw ⊢
    rw [h2]
    exact q t' ht' hw
  have lock : ∀ (E : gMa) (n : Nat × Int32), (n.1 = 0 ∨ n.1 = t + 1) → (∀ t', ¬ t' = t → E.2.2 t' = M.2.2 t') → E.2.1 = upf M.2.1 c n → ∀ t', t' < 6 → ¬ t' = t → ¬ (E.2.2 t').2.2.2.1 = 0 → ¬ (E.2.1 (obM C (E.2.2 t').2.2.1)).1 = t' + 1 := fun E n hn h1 h2 t' ht' ne hw => by
    rw [h1 t' ne] at hw ⊢
    rw [h2]
    unfold upf
    by_cases z : obM C (M.2.2 t').2.2.1 = c
    · rw [if_pos z]; omega
    · rw [if_neg z]; exact q t' ht' hw
  by_cases c0 : s = 0
  · rw [c0, ef_0]; exact same _ rfl rfl
  by_cases c1 : s = 1
  · rw [c1, ef_1]
    by_cases z : w = 0 ∨ suM C c = true
    · rw [if_pos z]; exact same _ rfl rfl
    · rw [if_neg z]; exact self _ _ rfl rfl
  by_cases c2 : s = 2
  · rw [c2, ef_2]; exact same _ rfl rfl
  by_cases c3 : s = 3
  · rw [c3, ef_3]; exact same _ rfl rfl
  by_cases c4 : s = 4
  · rw [c4, ef_4]; exact same _ rfl rfl
  by_cases c5 : s = 5
  · rw [c5, ef_5]; exact lock _ (t + 1, (M.2.1 c).2 + 1) (Or.inr rfl) (fun _ _ => rfl) rfl
  by_cases c6 : s = 6
  · rw [c6, ef_6]
    refine lock _ (if (M.2.1 c).2 - 1 = 0 then 0 else t + 1, (M.2.1 c).2 - 1) ?_ (fun _ _ => rfl) rfl
    show (if (M.2.1 c).2 - 1 = 0 then 0 else t + 1) = 0 ∨ (if (M.2.1 c).2 - 1 = 0 then 0 else t + 1) = t + 1
    split
    · exact Or.inl rfl
    · exact Or.inr rfl
  by_cases c8 : s = 8
  · rw [c8, ef_8]
    intro t' ht' ne hw
    have hw : ¬ (wkT C M t c wk t').2.2.2.1 = 0 := hw
    show ¬ (M.2.1 (obM C (wkT C M t c wk t').2.2.1)).1 = t' + 1
    unfold wkT at hw ⊢
    split at hw
    · next z =>
      rw [if_pos z]
      exact q t' ht' (by rw [z.2.1]; decide)
    · next z =>
      rw [if_neg z]
      exact q t' ht' hw
  by_cases c9 : s = 9
  · cases hq : C.2.1[c]? with
    | none =>
      have a : efM C w M t 9 c e f wk = (match C.2.1[c]? with | some q => upT M c (thN C c (M.2.2 c) q.1 (M.2.2 c).2.2.2.2.2.2.2) | none => M, 0) := by unfold efM; rfl
      rw [c9, a, hq]; exact same _ rfl rfl
    | some q9 =>
      rw [c9, ef_9 hq]
      intro t' ht' ne hw
      have hw : ¬ (upf M.2.2 c (thN C c (M.2.2 c) q9.1 (M.2.2 c).2.2.2.2.2.2.2) t').2.2.2.1 = 0 := hw
      show ¬ (M.2.1 (obM C (upf M.2.2 c (thN C c (M.2.2 c) q9.1 (M.2.2 c).2.2.2.2.2.2.2) t').2.2.1)).1 = t' + 1
      by_cases z : t' = c
      · rw [z, upf_eq] at hw
        rw [z] at ht'
        have z0 := h9 c9 ht'
        exact absurd ((qw c ht').2.2.1 (by omega)) hw
      · rw [upf_ne z] at hw ⊢; exact q t' ht' hw
  by_cases c13 : s = 13
  · rw [c13, ef_13]; exact self _ _ rfl rfl
  by_cases c14 : s = 14
  · rw [c14, ef_14]; exact self _ _ rfl rfl
  by_cases c15 : s = 15
  · rw [c15, ef_15]
    exact lock _ (t + 1, (M.2.2 t).2.2.2.2.1) (Or.inr rfl) (fun t' ne => by
      show upf M.2.2 t _ t' = _
      rw [upf_ne ne]) rfl
  · have a : efM C w M t s c e f wk = (M, 0) := by
      unfold efM
      rw [if_neg c0, if_neg c1, if_neg c2, if_neg c3, if_neg c4, if_neg c5, if_neg c6, if_neg n7, if_neg c8, if_neg c9, if_neg c13, if_neg c14, if_neg c15]
    rw [a]; exact same _ rfl rfl
theorem WLk_up {E : gMa} {hh : gTq} (a : ∀ t', t' < 6 → ¬ t' = t → ¬ (E.2.2 t').2.2.2.1 = 0 → ¬ (E.2.1 (obM C (E.2.2 t').2.2.1)).1 = t' + 1) (b : hh.2.2.2.1 = 0) : WLk C (upT E t hh) := by
  intro t' ht' hw
  by_cases z : t' = t
  · refine absurd ?_ hw
    show (upf E.2.2 t hh t').2.2.2.1 = 0
    rw [z, upf_eq]
    exact b
  · have hw : ¬ (upf E.2.2 t hh t').2.2.2.1 = 0 := hw
    show ¬ (E.2.1 (obM C (upf E.2.2 t hh t').2.2.1)).1 = t' + 1
    rw [upf_ne z] at hw ⊢
    exact a t' ht' z hw
theorem WLk_ac (hX : NXc C) (q : WLk C M) (qw : WMw w M) (t6 : t < 6) (h1 : (M.2.2 t).1 = 1) : WLk C (acM C w M t wk) := by
  by_cases L0 : (lkM C w M t).1 = 0
  · by_cases c7 : soM C (M.2.2 t) = 7
    · obtain ⟨w0, es⟩ := so_0 (C := C) (M := M) (t := t) (by omega)
      have o7 : (stN C (M.2.2 t).2.2.1).1 = 7 := by rw [← es]; exact c7
      have li := lkI_n (C := C) (M := M) (t := t) (ix_no hX (by omega))
      have cE : (lkM C w M t).2.1.toNatClampNeg = obM C (M.2.2 t).2.2.1 := by
        rw [(lkM_pl w0 L0).2, li]; rfl
      rw [acM_7 L0 c7, ef_7, cE]
      intro t' ht' hw
      have hw : ¬ (upf M.2.2 t _ t').2.2.2.1 = 0 := hw
      show ¬ (upf M.2.1 (obM C (M.2.2 t).2.2.1) (0, 0) (obM C (upf M.2.2 t _ t').2.2.1)).1 = t' + 1
      by_cases z : t' = t
      · rw [z, upf_eq, upf_eq]
        exact (fun z => nomatch z)
      · rw [upf_ne z] at hw ⊢
        by_cases z2 : obM C (M.2.2 t').2.2.1 = obM C (M.2.2 t).2.2.1
        · rw [z2, upf_eq]
          exact (fun z => nomatch z)
        · rw [upf_ne z2]; exact q t' ht' hw
    · have st9 : soM C (M.2.2 t) = 9 → (M.2.2 (lkM C w M t).2.1.toNatClampNeg).1 = 0 := fun e9 => by
        obtain ⟨w0, es⟩ := so_0 (C := C) (M := M) (t := t) (by omega)
        have rs := lkM_rs w0 L0
        rw [← es, e9, rsF_9] at rs
        exact Classical.byContradiction (fun n => by rw [if_neg n] at rs; exact nomatch rs)
      obtain ⟨-, b1, -, -⟩ := WMw_ef (C := C) (s := soM C (M.2.2 t)) (c := (lkM C w M t).2.1.toNatClampNeg) (e := (lkM C w M t).2.2.1) (f := (lkM C w M t).2.2.2) (wk := wk) qw t6 h1 (Classical.byCases Or.inl (fun n => Or.inr (so_0 n).1)) (fun e9 _ => st9 e9) (fun e9 z => by have := st9 e9; rw [z] at this; omega) c7
      have a := WLk_ef (C := C) (t := t) (s := soM C (M.2.2 t)) (c := (lkM C w M t).2.1.toNatClampNeg) (e := (lkM C w M t).2.2.1) (f := (lkM C w M t).2.2.2) (wk := wk) q qw c7 (fun e9 _ => st9 e9)
      rw [acM_is (E := (efM C w M t (soM C (M.2.2 t)) (lkM C w M t).2.1.toNatClampNeg (lkM C w M t).2.2.1 (lkM C w M t).2.2.2 wk).1) (v := (efM C w M t (soM C (M.2.2 t)) (lkM C w M t).2.1.toNatClampNeg (lkM C w M t).2.2.1 (lkM C w M t).2.2.2 wk).2) L0 c7 rfl]
      exact WLk_up a b1
  · have w0 : (M.2.2 t).2.2.2.1 = 0 := Classical.byContradiction (fun n0 => L0 (by rw [lkM_15 n0]))
    rw [acM_F L0]
    intro t' ht' hw
    by_cases z : t' = t
    · refine absurd ?_ hw
      show (upf M.2.2 t _ t').2.2.2.1 = 0
      rw [z, upf_eq]
      exact w0
    · have hw : ¬ (upf M.2.2 t _ t').2.2.2.1 = 0 := hw
      show ¬ (M.2.1 (obM C (upf M.2.2 t _ t').2.2.1)).1 = t' + 1
      rw [upf_ne z] at hw ⊢
      exact q t' ht' hw
theorem WLk_la (q : WLk C M) : WLk C (laM M t i) := by
  unfold laM
  cases hq : (M.2.2 t).2.2.2.2.2.2.1[i]? with
  | none => exact q
  | some z9 =>
    intro t' ht' hw
    have hw : ¬ (upf M.2.2 t _ t').2.2.2.1 = 0 := hw
    show ¬ (M.2.1 (obM C (upf M.2.2 t _ t').2.2.1)).1 = t' + 1
    by_cases z : t' = t
    · rw [z, upf_eq] at hw ⊢
      rw [z] at ht'
      exact q t ht' hw
    · rw [upf_ne z] at hw ⊢; exact q t' ht' hw
/-- what every state of a run is like -/
def MIv (C : gCo) (w : Nat) (M : gMa) : Prop := WMw w M ∧ WLk C M
theorem MIv_fs : MIv C w (fsM C) := ⟨WMw_fs, WLk_fs⟩
theorem ch_in (h : ch ∈ chM C w M) : chIn C M ch := by
  unfold chM at h
  obtain ⟨t, ht, h⟩ := List.mem_flatMap.mp h
  have ht := List.mem_range.mp ht
  unfold ch1 at h
  rcases List.mem_append.mp h with h | h
  · by_cases c : canM C w M t
    · rw [if_pos c] at h
      by_cases c8 : soM C (M.2.2 t) = 8 ∧ (stN C (M.2.2 t).2.2.1).2.2.2.2.2.2.1 = false ∧ (M.2.1 (obM C (M.2.2 t).2.2.1)).1 = t + 1 ∧ ¬ waM C M (obM C (M.2.2 t).2.2.1) = []
      · rw [if_pos c8] at h
        obtain ⟨u, hu, e⟩ := List.mem_map.mp h
        subst e
        exact ⟨ht, fun _ => ⟨c.1, c.2.1, fun k hk => by cases hk; exact hu⟩, (fun j z => nomatch z)⟩
      · rw [if_neg c8] at h
        cases List.mem_singleton.mp h
        exact ⟨ht, fun _ => ⟨c.1, c.2.1, (fun k hk => nomatch hk)⟩, (fun j z => nomatch z)⟩
    · rw [if_neg c] at h; cases h
  · obtain ⟨u, hu, e⟩ := List.mem_map.mp h
    subst e
    refine ⟨ht, (fun z => nomatch z), fun j z => ?_⟩
    cases z
    exact (ltM_mem.mp hu).1
theorem MIv_do (hX : NXc C) (l6 : C.2.1.length ≤ 6) (q : MIv C w M) (h : ch ∈ chM C w M) : MIv C w (doM C w M ch) := by
  obtain ⟨i1, i2, i3⟩ := ch_in h
  obtain ⟨t, lt9, wk⟩ := ch
  have i1 : t < C.2.1.length := i1
  unfold doM
  cases lt9 with
  | none => exact ⟨WMw_ac q.1 (by show t < 6; omega) (i2 rfl).1, WLk_ac hX q.2 q.1 (by show t < 6; omega) (i2 rfl).1⟩
  | some j => exact ⟨WMw_la q.1 (by show t < 6; omega), WLk_la q.2⟩
end PWL
end
section
/-! the model: memories that stand for all like them, with the machine's state -/
/-- such a memory holds the state M, and its choices -/
def AM (C : gCo) (w : Nat) (M : gMa) (a : gd) : Prop := AV a ∧ MK a C ∧ MM1 a C M ∧ MIv C w M ∧ a.1 0 68 = Int32.ofNat w ∧ chE a (chM C w M)
/-- what is asked of a code -/
def GC (C : gCo) : Prop := NC C ∧ NXc C ∧ C.2.1.length ≤ 6
theorem fc_exM {b : gd} {S : gS} {C : gCo} {M : gMa} {w : Nat} (ri : RI b S) (wy : wy01 b) (hK : MK b C) (hN : NC C) (hX : NXc C) (hM : MM1 b C M) (wyw : b.1 0 68 = Int32.ofNat w) (w01 : w = 0 ∨ w = 1) (hlt : w = 0 → ∀ t', t' < 6 → (M.2.2 t').2.2.2.2.2.2.1 = []) : ∃ a, AV a ∧ fcA b a ∧ md [84] [86, 87, 88] b a ∧ chE a (chM C w M) := by
  obtain ⟨o, a, S', ⟨eo, fc, hcn⟩, m, q⟩ := ds_find3 (d := 0) (Fv := fun y S1 => fC b (Sl b) 84 y S1 ∧ chE y (chM C w M)) (RI_Sl ri) hK hN hX hM wyw w01 hlt (fun y S1 h h2 => ⟨h, h2⟩)
  obtain ⟨f1, f2, f3, f4, f5, f6⟩ := fc
  have e80 : a.1 80 = b.1 80 := f1.2.1 80 (by decide) (by decide)
  have sl : Sl a = Sl b := by
    funext c j
    unfold Sl
    rw [e80]
  have sm : ssub (Sm a) S' := by
    intro c j h
    rcases h with ⟨h1, h2⟩ | ⟨h1, h2⟩ | h
    · rw [h1, h2]; exact f3
    · obtain ⟨g1, g2, g3, _⟩ := f6 j h2
      rcases h1 with h1 | h1 | h1
      · rw [h1]; exact g1
      · rw [h1]; exact g2
      · rw [h1]; exact g3
    · rw [sl] at h
      exact f2 c j h
  have fa : fcA b a := by
    intro G z e
    refine MT_mono (q G z e) (fun o2 z' w => ?_)
    rw [w.1, eo]
    exact rv_i ⟨eqS_w sm w.2.1, w.2.2⟩
  refine ⟨a, ⟨?_, ?_, ?_, f4, f5, ?_⟩, fa, f1, hcn⟩
  · rw [sl]
    exact RI_md f1 rfl rfl (ssub_rf _) (RI_Sl ri)
  · unfold wy01
    rw [f1.1 68 (by decide)]
    exact wy
  · intro i hi
    obtain ⟨_, _, _, g⟩ := f6 i hi
    exact ⟨Or.inr (Or.inl ⟨Or.inl rfl, hi⟩), Or.inr (Or.inl ⟨Or.inr (Or.inl rfl), hi⟩), Or.inr (Or.inl ⟨Or.inr (Or.inr rfl), hi⟩), g⟩
  · intro G z e
    refine fa G z (fun c j h => ?_)
    rw [← sl] at h
    rw [e c j h]
    -- the core and the late writes are those of b
    rcases h with h | h
    · rcases h with ⟨h1, h2⟩ | ⟨n, h1, h2⟩
      · rw [h1]
        refine f1.1 j (fun w => ?_)
        rw [List.mem_singleton.mp w] at h2
        exact absurd h2 (by decide)
      · have hc : c ≠ 0 ∧ c ∉ [86, 87, 88] := by
          simp at h1
          refine ⟨by omega, ?_⟩
          simp
          omega
        rw [f1.2.1 c hc.1 hc.2]
    · obtain ⟨hc, _⟩ := h
      rw [f1.2.1 c (by omega) (by simp; omega)]
/-- an act's doing, with what is told of it -/
def TrD (C : gCo) (w : Nat) (M : gMa) (t : Nat) (a : gd) (i : Nat) (b : gd) : Prop := a.1 87 i = -1 → ∀ (G : mG) (z : gd), eqS (Sl a) a z → MT G 4 z_doAct 0 [(0, vr 0), (1, vi (a.1 86 i)), (2, vi (a.1 88 i))] [] z (rv (fun z' => eqS (Sl b) b z' ∧ md rL rA z z' ∧ acP (srt a (a.1 86 i).toNatClampNeg) z' ∧ deQ C w M t z'))
def LkD (C : gCo) (w : Nat) (M : gMa) (t : Nat) (a : gd) (i : Nat) (a' : gd) : Prop := ∃ b, Tr a i b ∧ TrD C w M t a i b ∧ fcA b a'
theorem LkD_L {C : gCo} {w : Nat} {M : gMa} {t : Nat} {a a' : gd} {i : Nat} (h : LkD C w M t a i a') : Lk a i a' := by
  obtain ⟨b, h1, _, h3⟩ := h
  exact ⟨b, h1, h3⟩
theorem lk_exM {C : gCo} {w i : Nat} {M : gMa} {a : gd} {ch : gCh} (gc : GC C) (w01 : w = 0 ∨ w = 1) (h : AM C w M a) (hch : (chM C w M)[i]? = some ch) : ∃ a', AM C w (doM C w M ch) a' ∧ LkD C w M ch.1 a i a' := by
  obtain ⟨hN, hX, l6⟩ := gc
  obtain ⟨⟨ri, wy, chv, c0, c84, fa⟩, hK, hM, hI, w68, hE⟩ := h
  have hi : (i : Int) < (a.1 0 84).toInt := by have := gt_lt hch; rw [hE.1]; omega
  obtain ⟨_, _, _, ⟨t0, t6⟩, co⟩ := chv i hi
  have tv : vp_in (a.1 86 i) 6 := by rw [vp_in_iff]; exact ⟨t0, t6⟩
  obtain ⟨e86, e87, e88⟩ := hE.2 i ch hch
  have cm := List.mem_of_getElem? hch
  obtain ⟨i1, i2, i3⟩ := ch_in cm
  have hI' := MIv_do hX l6 hI cm
  have ct : (a.1 86 i).toNatClampNeg = ch.1 := by
    rw [e86, t_cl, Int32.toInt_ofNat_of_lt (by omega)]; rfl
  have st : ∃ b, RI b (Sl b) ∧ wy01 b ∧ MK b C ∧ MM1 b C (doM C w M ch) ∧ b.1 0 68 = Int32.ofNat w ∧ Tr a i b ∧ TrD C w M ch.1 a i b := by
    by_cases c : a.1 87 i = -1
    · have g := co.resolve_right (fun z => by rw [c] at z; exact absurd z.1 (by decide))
      have cn : ch.2.1 = none := by
        cases h9 : ch.2.1 with
        | none => rfl
        | some j =>
          have j8 : j < 9 := by
            have := i3 j h9
            have q := (ri.2 ch.1 (by omega)).2.2.2.1
            have := (hM.2.2 ch.1 (by omega)).2.2.2.2.2.2.2.2.1.1
            omega
          rw [h9] at e87
          rw [e87] at c
          have c : Int32.ofNat j = -1 := c
          have : ∀ n, n < 9 → ¬ Int32.ofNat n = -1 := by decide +kernel
          exact absurd c (this j j8)
      have dE : doM C w M ch = acM C w M ch.1 ch.2.2 := by unfold doM; rw [cn]
      obtain ⟨o, b, S', ⟨eo, rb, ss, as', ap, mb, dq⟩, m, q⟩ := ds_doAct3 (d := 0) (wk := ch.2.2) (Fv := fun y S1 => RI y S1 ∧ ssub (Sl a) S1 ∧ acS S1 ∧ acP (srt a (a.1 86 i).toNatClampNeg) y ∧ MM1 y C (acM C w M (a.1 86 i).toNatClampNeg ch.2.2) ∧ deQ C w M (a.1 86 i).toNatClampNeg y) (a.1 86 i) (a.1 88 i) tv ri g.2.1 g.2.2 hK hN hX hM (WMw_WM hI.1) w68 w01 (by
        cases h9 : ch.2.2 with
        | none => rw [h9] at e88; exact Or.inl ⟨rfl, e88⟩
        | some k =>
          rw [h9] at e88
          have k6 := (i2 cn).2.2 k h9
          unfold waM at k6
          have := List.mem_range.mp (List.mem_filter.mp k6).1
          exact Or.inr ⟨k, rfl, by omega, e88⟩) (fun y S1 h1 h2 h3 h4 h5 h6 => ⟨h1, h2, h3, h4, h6, h5⟩)
      rw [ct] at mb dq
      refine ⟨b, RI_Sl rb, by unfold wy01; rw [m.1 68 (by decide)]; exact wy, MK_md m rfl rfl hK, by rw [dE]; exact mb, by rw [m.1 68 (by decide)]; exact w68, ⟨fun _ G z e => MT_mono (q G z e) (fun o2 z' w => ?_), fun n => absurd c n⟩, fun _ G z e => MT_mono (q G z e) (fun o2 z' w => ?_)⟩
      · rw [w.1, eo]
        refine rv_i ⟨eqS_w (Sl_in rb) w.2.1, w.2.2, ?_⟩
        unfold acP
        rw [w.2.1 0 88 (Or.inr as'.1), w.2.1 0 89 (Or.inr as'.2.1)]
        exact ap
      · rw [w.1, eo]
        refine rv_i ⟨eqS_w (Sl_in rb) w.2.1, w.2.2, ?_, deQ_f (w.2.1 0 88 (Or.inr as'.1)) (w.2.1 0 89 (Or.inr as'.2.1)) (w.2.1 0 92 (Or.inr as'.2.2.1)) (w.2.1 0 93 (Or.inr as'.2.2.2)) dq⟩
        unfold acP
        rw [w.2.1 0 88 (Or.inr as'.1), w.2.1 0 89 (Or.inr as'.2.1)]
        exact ap
    · have g := co.resolve_left (fun z => c z.1)
      obtain ⟨j, hj⟩ : ∃ j, ch.2.1 = some j := by
        cases h9 : ch.2.1 with
        | none => rw [h9] at e87; exact absurd e87 c
        | some j => exact ⟨j, rfl⟩
      rw [hj] at e87
      have e87 : a.1 87 i = Int32.ofNat j := e87
      have dE : doM C w M ch = laM M ch.1 j := by unfold doM; rw [hj]
      have j8 : j < 9 := by
        have := i3 j hj
        have q := (ri.2 ch.1 (by omega)).2.2.2.1
        have := (hM.2.2 ch.1 (by omega)).2.2.2.2.2.2.2.2.1.1
        omega
      have ej : (a.1 87 i).toInt.toNat = j := by rw [e87, Int32.toInt_ofNat_of_lt (by omega)]; rfl
      obtain ⟨o, b, S', ⟨eo, rb, ss, mb, mm⟩, m, q⟩ := ds_doLate3 (d := 4) (C := C) (M := M) (Fv := fun y S1 => RI y S1 ∧ ssub (Sl a) S1 ∧ md [] [70, 80, 81, 82] a y ∧ MM1 y C (laM M (a.1 86 i).toNatClampNeg (a.1 87 i).toInt.toNat)) (a.1 86 i) (a.1 87 i) tv ri g.1 g.2 hM (fun y S1 h1 h2 h3 h4 => ⟨h1, h2, h3, h4⟩)
      rw [ct, ej] at mm
      refine ⟨b, RI_Sl rb, by unfold wy01; rw [m.1 68 (by decide)]; exact wy, MK_md m rfl rfl hK, by rw [dE]; exact mm, by rw [m.1 68 (by decide)]; exact w68, ⟨fun n => absurd n c, fun _ G z e => MT_mono (q G z e) (fun o2 z' w => ?_)⟩, fun n => absurd n c⟩
      rw [w.1, eo]
      exact rv_i ⟨eqS_w (Sl_in rb) w.2.1, w.2.2⟩
  obtain ⟨b, h1, h2, hKb, hMb, wb, h3, h3d⟩ := st
  obtain ⟨a', g1, g2, g3, g4⟩ := fc_exM h1 h2 hKb hN hX hMb wb w01 (fun z t ht => (hI'.1 t ht).2.2.2 z)
  exact ⟨a', ⟨g1, MK_md g3 rfl rfl hKb, MM1_md g3 rfl hMb, hI', by rw [g3.1 68 (by decide)]; exact wb, g4⟩, b, h3, h3d, g2⟩
section DSY
variable {x : gd} {C : gCo}
theorem first_exM (cp : CP x) (hK : MK x C) (hN : NC C) : ∃ b, RI b (Sl b) ∧ MM1 b C (fsM C) ∧ MK b C ∧ b.1 0 68 = x.1 0 68 ∧ prE x b ∧ ∀ (G : mG) (D : Nat) (z : gd), 5 ≤ D → prE x z → z.1 0 68 = x.1 0 68 → MT G D z_setFirst 0 [(0, vr 0)] [] z (rv (fun z' => eqS (Sl b) b z' ∧ md rL rA z z')) := by
  have ii := ix_ini x
  have i2 : ∀ j : Nat, j < 24 → (ix x).1 70 j = (fsM C).1 j := fun j hj => by
    have e : (ix x).1 70 j = if (j : Int) < (x.1 0 23).toInt then x.1 36 j else 0 := ii.2.1 j hj
    rw [e]
    have l23 : (x.1 0 23).toInt = C.2.2.1.length := hK.2.2.1.1
    show _ = (match C.2.2.1[j]? with | some q => q.1 | none => 0)
    cases hq : C.2.2.1[j]? with
    | some q => rw [if_pos (by have := gt_lt hq; omega)]; exact (hK.2.2.1.2 j q hq).1
    | none => rw [if_neg (by have := List.getElem?_eq_none_iff.mp hq; omega)]
  obtain ⟨o, b, S', ⟨eo, rb, hfs⟩, m, q⟩ := ds_setTail3 (x := ix x) (S := fun _ _ => False) (Fv := fun y S1 => RI y S1 ∧ MM1 y C (fsM C)) (CP_md ii.1 rfl rfl cp) ii.2.2.2.1 ii.2.2.1 i2 ii.2.2.2.2 (MK_md ii.1 rfl rfl hK) hN (fun y S1 h h2 => ⟨h, h2⟩)
  refine ⟨b, RI_Sl rb, hfs, MK_md m rfl rfl (MK_md ii.1 rfl rfl hK), ?_, ?_, fun G D z hD p w => ?_⟩
  · rw [m.1 68 (by decide), ii.1.1 68 (by decide)]
  · exact prE_mi (prE_mi (prE_rf x) (mi_of ii.1) rfl rfl) (mi_of m) rfl rfl
  · obtain ⟨D, rfl⟩ : ∃ D', D = D' + 1 := ⟨D - 1, by omega⟩
    refine sp_setInit (fun y iy => MT_up (d := 4) (by omega) (MT_mono (q G y (ini_eq p w ii iy)) (fun o2 z' v => ?_)))
    rw [v.1, eo]
    exact rv_i ⟨eqS_w (Sl_in rb) v.2.1, md_tr (md_w iy.1 (L2 := rL) (A2 := rA) (by decide) (by decide)) v.2.2 rfl rfl⟩
theorem start_exM (cp : CP x) (hK : MK x C) (hN : NC C) (hX : NXc C) {wn : Nat} (w01 : wn = 0 ∨ wn = 1) (w : Int32) (ew0 : w = Int32.ofNat wn) (hw : w = 0 ∨ w = 1) : ∃ a0, AM C wn (fsM C) a0 ∧ AV a0 ∧ a0.1 0 68 = w ∧ prE x a0 ∧ St x w a0 ∧ ∃ b, md [84] [86, 87, 88] b a0 ∧ ∀ (G : mG) (D : Nat) (z : gd), 5 ≤ D → prE x z → z.1 0 68 = w → MT G D z_setFirst 0 [(0, vr 0)] [] z (rv (fun z' => eqS (Sl b) b z' ∧ md rL rA z z')) := by
  have k0 : (0 : Int32).toInt = 0 := rfl
  have k1 : (1 : Int32).toInt = 1 := rfl
  have k6 : (6 : Int32).toInt = 6 := rfl
  have mw := md_f x 68 w
  obtain ⟨xw, exw⟩ : ∃ xw, xw = si x 0 68 w := ⟨_, rfl⟩
  rw [← exw] at mw
  have ew : xw.1 0 68 = w := by rw [exw, si_get, if_pos ⟨rfl, rfl⟩]
  have pw : prE x xw := prE_mi (prE_rf x) (mi_of mw) rfl rfl
  obtain ⟨b, rb, hfs, hKb, b68, pb, hb⟩ := first_exM (CP_md mw rfl rfl cp) (MK_md mw rfl rfl hK) hN
  rw [ew] at b68
  obtain ⟨a0, av, fa, ma, hcn⟩ := fc_exM rb (by unfold wy01; rw [b68]; exact hw) hKb hN hX hfs (by rw [b68, ew0]) w01 (fun z t ht => (WMw_fs t ht).2.2.2 z)
  refine ⟨a0, ⟨av, MK_md ma rfl rfl hKb, MM1_md ma rfl hfs, MIv_fs, by rw [ma.1 68 (by decide), b68, ew0], hcn⟩, av, by rw [ma.1 68 (by decide), b68], prE_tr pw (prE_mi pb (mi_of ma) rfl rfl), ?_, b, ma, fun G D z hD p hz => hb G D z hD (prE_tr (prE_sy pw) p) (by rw [ew]; exact hz)⟩
  intro G D z Fv hD p hF
  obtain ⟨D, rfl⟩ : ∃ D', D = D' + 1 := ⟨D - 1, by omega⟩
  refine sg_startRun_0 _ (fun z1 e1 z2 e2 z3 e3 z4 e4 => ?_)
  have m1 := md_f z 68 w
  rw [← e1] at m1
  have m2 := md_f z1 67 1
  rw [← e2] at m2
  have m3 := md_f z2 94 0
  rw [← e3] at m3
  have m4 := md_f z3 96 0
  rw [← e4] at m4
  have m14 : md [68, 67, 94, 96] [] z z4 := md_tr (md_tr (L3 := [68, 67, 94]) (A3 := []) (md_tr (L3 := [68, 67]) (A3 := []) m1 m2 rfl rfl) m3 rfl rfl) m4 rfl rfl
  have f68 : z4.1 0 68 = w := by rw [m4.1 68 (by decide), m3.1 68 (by decide), m2.1 68 (by decide), e1, si_get, if_pos ⟨rfl, rfl⟩]
  have f67 : z4.1 0 67 = 1 := by rw [m4.1 67 (by decide), m3.1 67 (by decide), e2, si_get, if_pos ⟨rfl, rfl⟩]
  have f94 : z4.1 0 94 = 0 := by rw [m4.1 94 (by decide), e3, si_get, if_pos ⟨rfl, rfl⟩]
  have f96 : z4.1 0 96 = 0 := by rw [e4, si_get, if_pos ⟨rfl, rfl⟩]
  have loop : ∀ (n : Nat) (y : gd) (t : Int32), 0 ≤ t.toInt → t.toInt ≤ 6 → 6 - t.toInt ≤ n → md [] [106, 107] z4 y → (∀ j : Nat, (j : Int) < t.toInt → y.1 106 j = -1 ∧ y.1 107 j = -1) → MT G (D + 1) z_startRun 22 [(0, vr 0), (2, vi t)] [] y (rv Fv) := by
    have last : ∀ y : gd, md [] [106, 107] z4 y → (∀ j : Nat, j < 6 → y.1 106 j = -1 ∧ y.1 107 j = -1) → MT G D z_setFirst 0 [(0, vr 0)] [] y (rv (fun x2 => MT G D z_findChoices 0 [(0, vr 0)] [] x2 (rv (fun x3 => rv Fv none x3)))) := by
      intro y my hy
      have py : prE xw y := prE_tr (prE_sy pw) (prE_mi (prE_mi p (mi_of m14) rfl rfl) (mi_of my) rfl rfl)
      have wy' : y.1 0 68 = xw.1 0 68 := by rw [my.1 68 (by decide), f68, ew]
      refine MTv_mono (hb G D y (by omega) py wy') (fun u q => MT_up (by omega) (MTv_mono (fa G u q.1) (fun v qv => rv_i (hF v qv.1 ?_))))
      have g : mi [82, 84, 88, 89, 90, 91, 92, 93] rA y v := mi_of (md_rt q.2 qv.2)
      have v94 : v.1 0 94 = 0 := by rw [g.1 94 (by decide), my.1 94 (by decide), f94]
      have v96 : v.1 0 96 = 0 := by rw [g.1 96 (by decide), my.1 96 (by decide), f96]
      refine ⟨mi_tr (mi_tr (L3 := sL') (A3 := sA') (mi_of m14) (mi_of my) rfl rfl) g rfl rfl, v94, ⟨by rw [v96]; decide, by rw [v96, v94]; decide, by rw [v94]; decide, fun j hj => by rw [v96, k0] at hj; omega, fun t ht => ?_⟩, by rw [g.1 67 (by decide), my.1 67 (by decide), f67], by rw [g.1 68 (by decide), my.1 68 (by decide), f68]⟩
      rw [g.2 106 (by decide) (by decide), g.2 107 (by decide) (by decide)]
      exact ⟨Or.inl (hy t ht).1, Or.inl (hy t ht).2⟩
    intro n
    induction n with
    | zero =>
      intro y t t0 t6 hn my hy
      exact sg_startRun_22 _ ⟨fun _ => last y my (fun j hj => hy j (by omega)), fun c => absurd (t_le.mpr (by rw [k6]; omega)) c⟩
    | succ n ih =>
      intro y t t0 t6 hn my hy
      refine sg_startRun_22 _ ⟨fun c => last y my (fun j hj => hy j (by rw [t_le, k6] at c; omega)), fun c => ?_⟩
      rw [t_le, k6] at c
      have tv : vp_in t 6 := by rw [vp_in_iff]; omega
      have ct := cl_i t0
      have ti : (t + 1).toInt = t.toInt + 1 := by rw [t_add (by omega) (by omega), k1]
      refine ⟨tv, fun y5 e5 => ⟨tv, fun y7 e7 => ?_⟩⟩
      have m5 := md_a y 106 t.toNatClampNeg (-1) (by decide)
      rw [← e5] at m5
      have m7 := md_a y5 107 t.toNatClampNeg (-1) (by decide)
      rw [← e7] at m7
      refine ih y7 (t + 1) (by omega) (by omega) (by omega) (md_tr (md_tr (L3 := []) (A3 := [106, 107]) my m5 rfl rfl) m7 rfl rfl) (fun j hj => ?_)
      by_cases q : j = t.toNatClampNeg
      · rw [q]
        exact ⟨by rw [e7, si_cell (by decide), e5, si_get, if_pos ⟨rfl, rfl⟩], by rw [e7, si_get, if_pos ⟨rfl, rfl⟩]⟩
      · rw [e7, si_ne 106 j q, si_ne 107 j q, e5, si_ne 106 j q, si_ne 107 j q]
        exact hy j (by omega)
  exact loop 6 z4 0 (by decide) (by decide) (by decide) (md_w (md_rf _) (by decide) (by decide)) (fun j hj => by rw [k0] at hj; omega)
end DSY
end
section
/-! the model: a choice done, with the row of acts -/
/-- what a choice adds to the row of acts -/
def JMs (z z' : gd) : List gDe → Prop
  | [] => z'.1 0 96 = z.1 0 96 ∧ ∀ c, 98 ≤ c → c ≤ 103 → z'.1 c = z.1 c
  | e :: _ => (z'.1 0 96).toInt = (z.1 0 96).toInt + 1 ∧ (∀ j, z'.1 98 j = if j = (z.1 0 96).toInt.toNat then Int32.ofNat e.1 else z.1 98 j) ∧ (∀ j, z'.1 99 j = if j = (z.1 0 96).toInt.toNat then Int32.ofNat e.2.1 else z.1 99 j) ∧ (∀ j, z'.1 100 j = if j = (z.1 0 96).toInt.toNat then e.2.2.1 else z.1 100 j) ∧ (∀ j, z'.1 101 j = if j = (z.1 0 96).toInt.toNat then e.2.2.2.1 else z.1 101 j) ∧ (∀ j, z'.1 102 j = if j = (z.1 0 96).toInt.toNat then e.2.2.2.2.1 else z.1 102 j) ∧ (∀ j, z'.1 103 j = if j = (z.1 0 96).toInt.toNat then (if e.2.2.2.2.2.1 = true then 1 else 0) else z.1 103 j)
/-- the row of acts in the memory -/
def MJo (z : gd) (J : List gDe) : Prop := (z.1 0 96).toInt = (J.length : Nat) ∧ ∀ a e, J[a]? = some e → z.1 98 a = Int32.ofNat e.1 ∧ z.1 99 a = Int32.ofNat e.2.1 ∧ z.1 100 a = e.2.2.1 ∧ z.1 101 a = e.2.2.2.1 ∧ z.1 102 a = e.2.2.2.2.1 ∧ z.1 103 a = if e.2.2.2.2.2.1 = true then 1 else 0
section JMS
variable {z y y' : gd} {ds J : List gDe} {C : gCo} {w : Nat} {M : gMa} {ch : gCh}
theorem JMs_0 (h : ds = []) : JMs z z ds := by rw [h]; exact ⟨rfl, fun _ _ _ => rfl⟩
theorem JMs_mi {L A : List Nat} (m : mi L A y y') (hL : [96].all (fun k => !L.elem k) = true) (hA : [98, 99, 100, 101, 102, 103].all (fun k => !A.elem k) = true) (h : JMs z y ds) : JMs z y' ds := by
  have f : y'.1 0 96 = y.1 0 96 := m.1 96 (all_no hL 96 (by decide))
  have g : ∀ c, 98 ≤ c → c ≤ 103 → y'.1 c = y.1 c := fun c h1 h2 => m.2 c (by omega) (all_no hA c (by
    rcases (show c = 98 ∨ c = 99 ∨ c = 100 ∨ c = 101 ∨ c = 102 ∨ c = 103 by omega) with e | e | e | e | e | e <;> rw [e] <;> decide))
  cases ds with
  | nil => exact ⟨f.trans h.1, fun c h1 h2 => (g c h1 h2).trans (h.2 c h1 h2)⟩
  | cons e ds =>
    obtain ⟨h0, h1, h2, h3, h4, h5, h6⟩ := h
    exact ⟨by rw [f]; exact h0, by rw [g 98 (by omega) (by omega)]; exact h1, by rw [g 99 (by omega) (by omega)]; exact h2, by rw [g 100 (by omega) (by omega)]; exact h3, by rw [g 101 (by omega) (by omega)]; exact h4, by rw [g 102 (by omega) (by omega)]; exact h5, by rw [g 103 (by omega) (by omega)]; exact h6⟩
theorem deM_l (h : ¬ ch.2.1 = none) : deM C w M ch = [] := by
  unfold deM
  cases h9 : ch.2.1 with
  | none => exact absurd h9 h
  | some j => rfl
theorem deM_a (h : ch.2.1 = none) : deM C w M ch = [deA C w M ch.1 ch.2.2] := by
  unfold deM
  rw [h]
theorem MJo_mi {L A : List Nat} (m : mi L A y y') (hL : [96].all (fun k => !L.elem k) = true) (hA : [98, 99, 100, 101, 102, 103].all (fun k => !A.elem k) = true) (h : MJo y J) : MJo y' J := by
  have f : y'.1 0 96 = y.1 0 96 := m.1 96 (all_no hL 96 (by decide))
  have g := fun k (h0 : k ≠ 0) hk => m.2 k h0 (all_no hA k hk)
  refine ⟨by rw [f]; exact h.1, ?_⟩
  rw [g 98 (by decide) (by decide), g 99 (by decide) (by decide), g 100 (by decide) (by decide), g 101 (by decide) (by decide), g 102 (by decide) (by decide), g 103 (by decide) (by decide)]
  exact h.2
theorem MJo_next (h : MJo z J) (g : JMs z y ds) (hd : ds = [] ∨ ∃ e, ds = [e]) : MJo y (J ++ ds) := by
  obtain ⟨h0, h1⟩ := h
  rcases hd with e | ⟨e, he⟩
  · rw [e] at g ⊢
    rw [List.append_nil]
    exact ⟨by rw [g.1]; exact h0, fun a e ha => by rw [g.2 98 (by omega) (by omega), g.2 99 (by omega) (by omega), g.2 100 (by omega) (by omega), g.2 101 (by omega) (by omega), g.2 102 (by omega) (by omega), g.2 103 (by omega) (by omega)]; exact h1 a e ha⟩
  · rw [he] at g ⊢
    obtain ⟨g0, g1, g2, g3, g4, g5, g6⟩ := g
    have hn : (z.1 0 96).toInt.toNat = J.length := by rw [h0]; rfl
    rw [hn] at g1 g2 g3 g4 g5 g6
    refine ⟨by rw [g0, h0, List.length_append]; rfl, fun a d ha => ?_⟩
    rw [g1, g2, g3, g4, g5, g6]
    by_cases c : a < J.length
    · rw [List.getElem?_append_left c] at ha
      rw [if_neg (by omega), if_neg (by omega), if_neg (by omega), if_neg (by omega), if_neg (by omega), if_neg (by omega)]
      exact h1 a d ha
    · have hl := gt_lt ha
      rw [List.length_append] at hl
      have hl : a < J.length + 1 := hl
      have ea : a = J.length := by omega
      rw [ea, List.getElem?_append_right (Nat.le_refl _), Nat.sub_self] at ha
      have ed : e = d := Option.some.inj ha
      rw [if_pos ea, if_pos ea, if_pos ea, if_pos ea, if_pos ea, if_pos ea, ed]
      exact ⟨rfl, rfl, rfl, rfl, rfl, rfl⟩
end JMS
section DCJ
variable {G : mG} {D : Nat} {a a' z : gd} {F : Int32 → gd → Prop} {Fv : gd → Prop}
theorem sp_doChoiceJ {C : gCo} {wn : Nat} {Mm : gMa} {ch : gCh} (av : AV a) (i : Int32) (i0 : 0 ≤ i.toInt) (i1 : i.toInt < (a.1 0 84).toInt) (lk : LkD C wn Mm ch.1 a i.toNatClampNeg a') (c86 : a.1 86 i.toNatClampNeg = Int32.ofNat ch.1) (c87 : a.1 87 i.toNatClampNeg = -1 ↔ ch.2.1 = none) (csr : ch.2.1 = none → srt a ch.1 = Int32.ofNat (soM C (Mm.2.2 ch.1))) (c6 : ch.1 < 6) (e : eqS (Sm a) a z) (ha : HA z) (hd : (z.1 0 94).toInt < 400) (hD : 6 ≤ D) (h : ∀ z', eqS (Sm a') a' z' → HA z' → dF z z' i → JMs z z' (deM C wn Mm ch) → Fv z') : MT G D z_doChoice 0 [(0, vr 0), (1, vi i)] [] z (rv Fv) := by
  obtain ⟨D, rfl⟩ : ∃ D', D = D' + 2 := ⟨D - 2, by omega⟩
  have k0 : (0 : Int32).toInt = 0 := rfl
  have k1 : (1 : Int32).toInt = 1 := rfl
  obtain ⟨ri, wy, chv, c0, c84, _⟩ := av
  obtain ⟨b, tr, trd, fb⟩ := lk
  have cT : (a.1 86 i.toNatClampNeg).toNatClampNeg = ch.1 := by rw [c86, t_cl, Int32.toInt_ofNat_of_lt (by omega)]; rfl
  have ci := cl_i i0
  have iv : vp_in i 200 := by rw [vp_in_iff]; omega
  obtain ⟨u86, u87, u88, ⟨t0, t6⟩, co⟩ := chv i.toNatClampNeg (by omega)
  have e86 : z.1 86 i.toNatClampNeg = a.1 86 i.toNatClampNeg := e _ _ (Or.inr u86)
  obtain ⟨t, et⟩ : ∃ t, t = a.1 86 i.toNatClampNeg := ⟨_, rfl⟩
  rw [← et] at e86 t0 t6 co
  have tv : vp_in t 6 := by rw [vp_in_iff]; exact ⟨t0, t6⟩
  obtain ⟨h0, h1, h2, h3, h4⟩ := ha
  obtain ⟨dn, edn⟩ : ∃ dn, dn = z.1 0 94 := ⟨_, rfl⟩
  obtain ⟨n, en⟩ : ∃ n, n = z.1 0 96 := ⟨_, rfl⟩
  rw [← edn] at h1 h2 hd
  rw [← en] at h0 h1 h3 h4
  have dv : vp_in dn 400 := by rw [vp_in_iff]; omega
  have nv : vp_in n 400 := by rw [vp_in_iff]; omega
  have cd := cl_i (a := dn) (by omega)
  have cn := cl_i (a := n) (by omega)
  refine sg_doChoice_0 _ ⟨iv, by rw [← edn]; exact dv, fun z3 e3 z4 e4 => ⟨iv, ?_⟩⟩
  rw [← edn] at e3
  have m3 := md_a z 96 dn.toNatClampNeg i (by decide)
  rw [← e3] at m3
  have f94 : z3.1 0 94 = dn := by rw [m3.1 94 (by decide), edn]
  rw [f94] at e4
  have m4 := md_f z3 94 (dn + 1)
  rw [← e4] at m4
  have m34 : md [94] [96] z z4 := md_tr m3 m4 rfl rfl
  have q94 : (z4.1 0 94).toInt = dn.toInt + 1 := by rw [e4, si_get, if_pos ⟨rfl, rfl⟩, t_add (by omega) (by omega), k1]
  have q96 : z4.1 0 96 = n := by rw [m34.1 96 (by decide), en]
  have q96a : z4.1 96 dn.toNatClampNeg = i := by rw [e4, si_cell (by decide), e3, si_get, if_pos ⟨rfl, rfl⟩]
  have q96b : ∀ j : Nat, ¬ j = dn.toNatClampNeg → z4.1 96 j = z.1 96 j := fun j hj => by rw [e4, si_cell (by decide), e3, si_ne 96 j hj]
  have es4 : eqS (Sm a) a z4 := eqS_mi e (mi_of m34) rfl rfl (ssub_rf _)
  have e87 : z4.1 87 i.toNatClampNeg = a.1 87 i.toNatClampNeg := es4 _ _ (Or.inr u87)
  have el4 : eqS (Sl a) a z4 := eqS_w (Sl_Sm a) es4
  rw [e86, e87, q96]
  -- the end: choices found
  have fin : ∀ (y : gd), eqS (Sl b) b y → mi dL dA z y → (y.1 0 94).toInt = dn.toInt + 1 → y.1 96 dn.toNatClampNeg = i → (∀ j : Nat, ¬ j = dn.toNatClampNeg → y.1 96 j = z.1 96 j) → HA y → JMs z y (deM C wn Mm ch) → MT G (D + 1) z_findChoices 0 [(0, vr 0)] [] y (rv (fun x1 => rv Fv none x1)) := by
    intro y ey my y94 y96 y96b hy yj
    refine MT_up (by omega) (MTv_mono (fb G y ey) (fun y2 q => rv_i (h y2 q.1 ?_ ⟨mi_tr my (mi_of q.2) rfl rfl, ?_, ?_, ?_⟩ (JMs_mi (mi_of q.2) rfl rfl yj))))
    · obtain ⟨a1, a2, a3, a4, a5⟩ := hy
      have g := mi_of q.2
      refine ⟨by rw [g.1 96 (by decide)]; exact a1, by rw [g.1 96 (by decide), g.1 94 (by decide)]; exact a2, by rw [g.1 94 (by decide)]; exact a3, fun j hj => aA_mi g rfl (a4 j (by rw [g.1 96 (by decide)] at hj; exact hj)), ?_⟩
      rw [g.1 96 (by decide)]
      exact aB_mi g rfl (Int.le_refl _) a5
    · rw [q.2.1 94 (by decide), y94, edn]
    · rw [q.2.2.1 96 (by decide) (by decide), ← edn]; exact y96
    · intro j hj
      rw [← edn] at hj
      rw [q.2.2.1 96 (by decide) (by decide)]; exact y96b j hj
  refine ⟨fun c => ⟨tv, nv, fun z9 e9 => ?_⟩, fun c => ⟨iv, ?_⟩⟩
  rotate_left
  · -- a late write
    have hl := tr.2 c G z4 el4
    rw [← et] at hl
    refine MT_up (by omega) (MTv_mono hl (fun y q => fin y q.1 (mi_tr (mi_of m34) (mi_of q.2) rfl rfl) ?_ ?_ ?_ ?_ ?_))
    · rw [q.2.1 94 (by decide)]; exact q94
    · rw [q.2.2.1 96 (by decide) (by decide)]; exact q96a
    · intro j hj; rw [q.2.2.1 96 (by decide) (by decide)]; exact q96b j hj
    · have g : mi [82, 84, 88, 89, 90, 91, 92, 93, 94] [70, 71, 72, 73, 74, 75, 76, 77, 78, 79, 80, 81, 82, 84, 86, 87, 88, 96] z y := mi_tr (mi_of m34) (mi_of q.2) rfl rfl
      have y94 : (y.1 0 94).toInt = dn.toInt + 1 := by rw [q.2.1 94 (by decide)]; exact q94
      have y96 : y.1 0 96 = n := by rw [g.1 96 (by decide), en]
      refine ⟨by rw [y96]; exact h0, by rw [y96, y94]; omega, by rw [y94]; omega, fun j hj => aA_mi g rfl (h3 j (by rw [y96] at hj; exact hj)), by rw [y96]; exact aB_mi g rfl (Int.le_refl _) h4⟩
    · have g : mi [82, 84, 88, 89, 90, 91, 92, 93, 94] [70, 71, 72, 73, 74, 75, 76, 77, 78, 79, 80, 81, 82, 84, 86, 87, 88, 96] z y := mi_tr (mi_of m34) (mi_of q.2) rfl rfl
      have ne : ¬ ch.2.1 = none := fun z9 => c (c87.mpr z9)
      exact JMs_mi g rfl rfl (JMs_0 (deM_l ne))
  -- an act
  have g := co.resolve_right (fun w => by rw [c] at w; exact absurd w.1 (by decide))
  obtain ⟨kv, kn, so, avv⟩ := RI_step ri (vt tv) g.2.1
  obtain ⟨s1, s2, s3⟩ := srt_of ri (vt tv) g.2.1
  obtain ⟨k, ek⟩ : ∃ k, k = a.1 74 t.toNatClampNeg := ⟨_, rfl⟩
  rw [← ek] at kv kn so avv s1 s2 s3
  obtain ⟨s, es⟩ : ∃ s, s = srt a t.toNatClampNeg := ⟨_, rfl⟩
  rw [← es] at s1 s2 s3
  have m9 := md_a z4 98 n.toNatClampNeg t (by decide)
  rw [← e9] at m9
  have es9 : eqS (Sm a) a z9 := eqS_mi es4 (mi_of m9) rfl rfl (ssub_rf _)
  have el9 : eqS (Sl a) a z9 := eqS_w (Sl_Sm a) es9
  have k9 : z9.1 74 t.toNatClampNeg = k := by rw [cA el9 (n := 6) (by decide) (vt tv), ek]
  have k4 : z4.1 74 t.toNatClampNeg = k := by rw [cA el4 (n := 6) (by decide) (vt tv), ek]
  have st9 : srt z9 t.toNatClampNeg = s := by rw [srt_eq el9 ri (vt tv), es]
  refine sp_sortOf t tv (by rw [k9]; exact kv) ?_
  rw [st9, k4]
  refine ⟨nv, fun z13 e13 => ⟨iv, nv, fun z16 e16 => ⟨nv, ?_⟩⟩⟩
  have m13 := md_a z9 99 n.toNatClampNeg s (by decide)
  rw [← e13] at m13
  have m16 := md_a z13 104 n.toNatClampNeg (z13.1 88 i.toNatClampNeg) (by decide)
  rw [← e16] at m16
  have m416 : md [] [98, 99, 104] z4 z16 := md_tr (md_tr (L3 := []) (A3 := [98, 99]) m9 m13 rfl rfl) m16 rfl rfl
  have es16 : eqS (Sm a) a z16 := eqS_mi es4 (mi_of m416) rfl rfl (ssub_rf _)
  have el16 : eqS (Sl a) a z16 := eqS_w (Sl_Sm a) es16
  have r98 : z16.1 98 n.toNatClampNeg = t := by rw [e16, si_cell (by decide), e13, si_cell (by decide), e9, si_get, if_pos ⟨rfl, rfl⟩]
  have r99 : z16.1 99 n.toNatClampNeg = s := by rw [e16, si_cell (by decide), e13, si_get, if_pos ⟨rfl, rfl⟩]
  have r98b : ∀ j : Nat, ¬ j = n.toNatClampNeg → z16.1 98 j = z.1 98 j := fun j hj => by rw [e16, si_cell (by decide), e13, si_cell (by decide), e9, si_ne 98 j hj, m34.2.1 98 (by decide) (by decide)]
  have r99b : ∀ j : Nat, ¬ j = n.toNatClampNeg → z16.1 99 j = z.1 99 j := fun j hj => by rw [e16, si_cell (by decide), e13, si_ne 99 j hj, e9, si_cell (by decide), m34.2.1 99 (by decide) (by decide)]
  have w88 : z16.1 88 i.toNatClampNeg = a.1 88 i.toNatClampNeg := es16 _ _ (Or.inr u88)
  have f25 : z16.1 0 25 = a.1 0 25 := cF el16 (by decide)
  have b25 := ri.1.1.2.2.2.2.2.1
  have o56 : z16.1 56 k.toNatClampNeg = a.1 56 k.toNatClampNeg := cA el16 (n := 1500) (by decide) (vp_lt kv)
  -- behind the act
  have p401 : ∀ (y : gd) (l6 : Int32), eqS (Sl b) b y → mi dL dA z y → (y.1 0 94).toInt = dn.toInt + 1 → y.1 96 dn.toNatClampNeg = i → (∀ j : Nat, ¬ j = dn.toNatClampNeg → y.1 96 j = z.1 96 j) → (y.1 0 96).toInt = n.toInt + 1 → (∀ j : Nat, (j : Int) ≤ n.toInt → aA y j) → aB y (n.toInt + 1) → y.1 99 n.toNatClampNeg = s → (y.1 103 n.toNatClampNeg = 0 → s = 9 → vp_in (y.1 100 n.toNatClampNeg) 6) → JMs z y (deM C wn Mm ch) → ∀ (m : Nat) (o : Int32), 0 ≤ o.toInt → (a.1 0 25).toInt - o.toInt ≤ m → MT G (D + 2) z_doChoice 325 [(0, vr 0), (3, vi n), (6, vi l6), (7, vi o)] [] y (rv Fv) := by
    have last : ∀ y : gd, eqS (Sl b) b y → mi dL dA z y → (y.1 0 94).toInt = dn.toInt + 1 → y.1 96 dn.toNatClampNeg = i → (∀ j : Nat, ¬ j = dn.toNatClampNeg → y.1 96 j = z.1 96 j) → (y.1 0 96).toInt = n.toInt + 1 → (∀ j : Nat, (j : Int) ≤ n.toInt → aA y j) → aB y (n.toInt + 1) → JMs z y (deM C wn Mm ch) → MT G (D + 2) z_doChoice 401 [(0, vr 0)] [] y (rv Fv) := by
      intro y ey my y94 y96 y96b yn ya yb yj
      exact sg_doChoice_401 (fin y ey my y94 y96 y96b ⟨by omega, by omega, by omega, fun j hj => ya j (by omega), by rw [yn]; exact yb⟩ yj)
    intro y l6 ey my y94 y96 y96b yn ya yb ys yf yj m
    induction m generalizing y with
    | zero =>
      intro o o0 hm
      have g25 : y.1 0 25 = z.1 0 25 := my.1 25 (by decide)
      have g25' : y.1 0 25 = a.1 0 25 := by rw [g25, cF e (by decide)]
      refine sg_doChoice_325 _ _ _ ⟨fun _ => ⟨nv, fun _ => last y ey my y94 y96 y96b yn ya yb yj, fun e9' => ⟨nv, fun _ => last y ey my y94 y96 y96b yn ya yb yj, fun nf => ⟨nv, yf nf (by rw [← ys]; exact e9'), fun y8 ey8 => ?_⟩⟩⟩, fun cc => absurd (t_le.mpr (by rw [g25']; omega)) cc⟩
      have m8 := md_a y 106 (y.1 100 n.toNatClampNeg).toNatClampNeg n (by decide)
      rw [← ey8] at m8
      have g8 := mi_of m8
      refine last y8 (eqS_mi ey g8 rfl rfl (Sl_Sm b)) (mi_tr my g8 rfl rfl) (by rw [g8.1 94 (by decide)]; exact y94) (by rw [g8.2 96 (by decide) (by decide)]; exact y96) (fun j hj => by rw [g8.2 96 (by decide) (by decide)]; exact y96b j hj) (by rw [g8.1 96 (by decide)]; exact yn) (fun j hj => aA_mi g8 rfl (ya j hj)) (fun t' ht' => ?_) (JMs_mi g8 rfl rfl yj)
      obtain ⟨q1, q2⟩ := yb t' ht'
      refine ⟨?_, by rw [g8.2 107 (by decide) (by decide)]; exact q2⟩
      rw [ey8, si_get]
      by_cases w : (106 : Nat) = 106 ∧ t' = (y.1 100 n.toNatClampNeg).toNatClampNeg
      · rw [if_pos w]; exact Or.inr ⟨h0, by omega⟩
      · rw [if_neg w]; exact q1
    | succ m ih =>
      intro o o0 hm
      have g25 : y.1 0 25 = z.1 0 25 := my.1 25 (by decide)
      have g25' : y.1 0 25 = a.1 0 25 := by rw [g25, cF e (by decide)]
      refine sg_doChoice_325 _ _ _ ⟨fun _ => ⟨nv, fun _ => last y ey my y94 y96 y96b yn ya yb yj, fun e9' => ⟨nv, fun _ => last y ey my y94 y96 y96b yn ya yb yj, fun nf => ⟨nv, yf nf (by rw [← ys]; exact e9'), fun y8 ey8 => ?_⟩⟩⟩, fun cc => ?_⟩
      · have m8 := md_a y 106 (y.1 100 n.toNatClampNeg).toNatClampNeg n (by decide)
        rw [← ey8] at m8
        have g8 := mi_of m8
        refine last y8 (eqS_mi ey g8 rfl rfl (Sl_Sm b)) (mi_tr my g8 rfl rfl) (by rw [g8.1 94 (by decide)]; exact y94) (by rw [g8.2 96 (by decide) (by decide)]; exact y96) (fun j hj => by rw [g8.2 96 (by decide) (by decide)]; exact y96b j hj) (by rw [g8.1 96 (by decide)]; exact yn) (fun j hj => aA_mi g8 rfl (ya j hj)) (fun t' ht' => ?_) (JMs_mi g8 rfl rfl yj)
        obtain ⟨q1, q2⟩ := yb t' ht'
        refine ⟨?_, by rw [g8.2 107 (by decide) (by decide)]; exact q2⟩
        rw [ey8, si_get]
        by_cases w : (106 : Nat) = 106 ∧ t' = (y.1 100 n.toNatClampNeg).toNatClampNeg
        · rw [if_pos w]; exact Or.inr ⟨h0, by omega⟩
        · rw [if_neg w]; exact q1
      · rw [t_le, g25'] at cc
        have ov : vp_in o 6 := by rw [vp_in_iff]; omega
        have oi : (o + 1).toInt = o.toInt + 1 := by rw [t_add (by omega) (by omega), k1]
        have go : ∀ (v : Int32) (y2 : gd), y2 = si y 107 o.toNatClampNeg v → (v = -1 ∨ (0 ≤ v.toInt ∧ v.toInt < n.toInt + 1)) → MT G (D + 2) z_doChoice 325 [(0, vr 0), (3, vi n), (6, vi l6), (7, vi (o + 1))] [] y2 (rv Fv) := by
          intro v y2 ey2 hv
          have m2 := md_a y 107 o.toNatClampNeg v (by decide)
          rw [← ey2] at m2
          have g2 := mi_of m2
          refine ih y2 (eqS_mi ey g2 rfl rfl (Sl_Sm b)) (mi_tr my g2 rfl rfl) (by rw [g2.1 94 (by decide)]; exact y94) (by rw [g2.2 96 (by decide) (by decide)]; exact y96) (fun j hj => by rw [g2.2 96 (by decide) (by decide)]; exact y96b j hj) (by rw [g2.1 96 (by decide)]; exact yn) (fun j hj => aA_mi g2 rfl (ya j hj)) (fun t' ht' => ?_) (by rw [g2.2 99 (by decide) (by decide)]; exact ys) (by rw [g2.2 103 (by decide) (by decide), g2.2 100 (by decide) (by decide)]; exact yf) (JMs_mi g2 rfl rfl yj) (o + 1) (by omega) (by omega)
          obtain ⟨q1, q2⟩ := yb t' ht'
          refine ⟨by rw [g2.2 106 (by decide) (by decide)]; exact q1, ?_⟩
          rw [ey2, si_get]
          by_cases w : (107 : Nat) = 107 ∧ t' = o.toNatClampNeg
          · rw [if_pos w]; exact hv
          · rw [if_neg w]; exact q2
        exact ⟨fun _ => ⟨ov, ov, fun y2 ey2 => go _ y2 ey2 (yb _ (vt ov)).2⟩, fun _ => ⟨ov, fun y2 ey2 => go _ y2 ey2 (Or.inr ⟨h0, by omega⟩)⟩⟩
  -- the act itself
  have act : ∀ l6 : Int32, MT G (D + 1) z_doAct 0 [(0, vr 0), (1, vi t), (2, vi (z16.1 88 i.toNatClampNeg))] [] z16 (rv (fun x3 => vp_in n 400 ∧ (∀ x5 : gd, x5 = si x3 100 n.toNatClampNeg (x3.1 0 88) → (((x5.1 0 89) ≤ (0 : Int32) → MT G (D + 2) z_doChoice 286 [(0, vr 0), (3, vi n), (6, vi l6)] [vi 0, vi n, vr 103] x5 (rv Fv)) ∧ (¬ ((x5.1 0 89) ≤ (0 : Int32)) → MT G (D + 2) z_doChoice 286 [(0, vr 0), (3, vi n), (6, vi l6)] [vi 1, vi n, vr 103] x5 (rv Fv)))))) := by
    intro l6
    have ht := trd c G z16 el16
    rw [← et, ← w88] at ht
    refine MT_up (by omega) (MTv_mono ht (fun y q => ⟨nv, fun y5 e5 => ?_⟩))
    obtain ⟨ey, my, ap, dq⟩ := q
    rw [← es] at ap
    have m5 := md_a y 100 n.toNatClampNeg (y.1 0 88) (by decide)
    rw [← e5] at m5
    have f89 : y5.1 0 89 = y.1 0 89 := m5.1 89 (by decide)
    have f88 : y5.1 100 n.toNatClampNeg = y.1 0 88 := by rw [e5, si_get, if_pos ⟨rfl, rfl⟩]
    have p286 : ∀ v : Int32, (v = 0 ∨ v = 1) → (v = 0 → (y.1 0 89).toInt ≤ 0) → (v = 1 → ¬ (y.1 0 89).toInt ≤ 0) → MT G (D + 2) z_doChoice 286 [(0, vr 0), (3, vi n), (6, vi l6)] [vi v, vi n, vr 103] y5 (rv Fv) := by
      intro v hv hv0 hv1
      refine sg_doChoice_286 _ _ _ _ ⟨nv, fun u2 eu2 => ⟨nv, fun u4 eu4 => ⟨nv, fun u6 eu6 u7 eu7 => ?_⟩⟩⟩
      have mu2 := md_a y5 103 n.toNatClampNeg (vp_nar .boolean v) (by decide)
      rw [← eu2] at mu2
      have mu4 := md_a u2 101 n.toNatClampNeg (u2.1 0 92) (by decide)
      rw [← eu4] at mu4
      have mu6 := md_a u4 102 n.toNatClampNeg (u4.1 0 93) (by decide)
      rw [← eu6] at mu6
      have mu7 := md_f u6 96 (u6.1 0 96 + 1)
      rw [← eu7] at mu7
      have M : md [96] [100, 103, 101, 102] y u7 := md_tr (md_tr (L3 := []) (A3 := [100, 103, 101, 102]) (md_tr (L3 := []) (A3 := [100, 103, 101]) (md_tr (L3 := []) (A3 := [100, 103]) m5 mu2 rfl rfl) mu4 rfl rfl) mu6 rfl rfl) mu7 rfl rfl
      have g7 : mi [96] [100, 103, 101, 102] y u7 := mi_of M
      have e7 : eqS (Sl b) b u7 := eqS_mi ey g7 rfl rfl (Sl_Sm b)
      have mz : mi dL dA z u7 := mi_tr (mi_tr (L3 := dL) (A3 := dA) (mi_tr (L3 := dL) (A3 := dA) (mi_of m34) (mi_of m416) rfl rfl) (mi_of my) rfl rfl) g7 rfl rfl
      have yn : y.1 0 96 = n := by rw [my.1 96 (by decide), m416.1 96 (by decide), q96]
      have u96 : (u7.1 0 96).toInt = n.toInt + 1 := by
        rw [eu7, si_get, if_pos ⟨rfl, rfl⟩, mu6.1 96 (by decide), mu4.1 96 (by decide), mu2.1 96 (by decide), m5.1 96 (by decide), yn, t_add (by omega) (by omega), k1]
      have u94 : (u7.1 0 94).toInt = dn.toInt + 1 := by rw [g7.1 94 (by decide), my.1 94 (by decide), m416.1 94 (by decide)]; exact q94
      have u96a : u7.1 96 = z4.1 96 := by rw [g7.2 96 (by decide) (by decide), my.2.1 96 (by decide) (by decide), m416.2.1 96 (by decide) (by decide)]
      have u98 : u7.1 98 = z16.1 98 := by rw [g7.2 98 (by decide) (by decide), my.2.1 98 (by decide) (by decide)]
      have u99 : u7.1 99 = z16.1 99 := by rw [g7.2 99 (by decide) (by decide), my.2.1 99 (by decide) (by decide)]
      have u100 : u7.1 100 n.toNatClampNeg = y.1 0 88 := by rw [eu7, si_cell (by decide), eu6, si_cell (by decide), eu4, si_cell (by decide), eu2, si_cell (by decide), f88]
      have u103 : u7.1 103 n.toNatClampNeg = vp_nar .boolean v := by rw [eu7, si_cell (by decide), eu6, si_cell (by decide), eu4, si_cell (by decide), eu2, si_get, if_pos ⟨rfl, rfl⟩]
      have b100 : ∀ j : Nat, ¬ j = n.toNatClampNeg → u7.1 100 j = z.1 100 j := fun j hj => by rw [eu7, si_cell (by decide), eu6, si_cell (by decide), eu4, si_cell (by decide), eu2, si_cell (by decide), e5, si_ne 100 j hj, my.2.1 100 (by decide) (by decide), m416.2.1 100 (by decide) (by decide), m34.2.1 100 (by decide) (by decide)]
      have b103 : ∀ j : Nat, ¬ j = n.toNatClampNeg → u7.1 103 j = z.1 103 j := fun j hj => by rw [eu7, si_cell (by decide), eu6, si_cell (by decide), eu4, si_cell (by decide), eu2, si_ne 103 j hj, e5, si_cell (by decide), my.2.1 103 (by decide) (by decide), m416.2.1 103 (by decide) (by decide), m34.2.1 103 (by decide) (by decide)]
      have vf : vp_nar .boolean v = 0 → (y.1 0 89).toInt ≤ 0 := by
        intro q
        rcases hv with hv | hv
        · exact hv0 hv
        · rw [hv] at q; exact absurd q (by decide)
      have aa : ∀ j : Nat, (j : Int) ≤ n.toInt → aA u7 j := by
        intro j hj
        by_cases w : j = n.toNatClampNeg
        · rw [w]
          unfold aA
          rw [u98, r98, u99, r99, u100, u103]
          exact ⟨t0, t6, fun q sa => (ap (vf q)).1 sa⟩
        · unfold aA
          rw [u98, r98b j w, u99, r99b j w, b100 j w, b103 j w]
          exact h3 j (by omega)
      have bb : aB u7 (n.toInt + 1) := by
        have mm : mi [82, 84, 88, 89, 90, 91, 92, 93, 94, 96] [70, 71, 72, 73, 74, 75, 76, 77, 78, 79, 80, 81, 82, 84, 86, 87, 88, 96, 98, 99, 104, 100, 103, 101, 102] z u7 := mi_tr (mi_tr (L3 := [82, 84, 88, 89, 90, 91, 92, 93, 94]) (A3 := [70, 71, 72, 73, 74, 75, 76, 77, 78, 79, 80, 81, 82, 84, 86, 87, 88, 96, 98, 99, 104]) (mi_tr (L3 := [94]) (A3 := [96, 98, 99, 104]) (mi_of m34) (mi_of m416) rfl rfl) (mi_of my) rfl rfl) g7 rfl rfl
        exact aB_mi mm rfl (by omega) h4
      refine sp_order n nv aa bb (fun u8 eu8 => ?_)
      have e8 : eqS (Sl b) b u8 := fun c9 j9 h9 => by rw [eu8]; exact e7 c9 j9 h9
      refine p401 u8 l6 e8 (mi_eq mz eu8) (by rw [eu8]; exact u94) (by rw [eu8, u96a]; exact q96a) (fun j hj => by rw [eu8, u96a]; exact q96b j hj) (by rw [eu8]; exact u96) (fun j hj => ?_) ?_ (by rw [eu8, u99]; exact r99) (fun q q9 => ?_) ?_ 6 0 (by decide) (by rw [k0]; omega)
      · have := aa j hj
        unfold aA at this ⊢
        rw [eu8]; exact this
      · unfold aB at bb ⊢
        rw [eu8]; exact bb
      · rw [eu8, u103] at q
        rw [eu8, u100, vp_in_iff]
        exact (ap (vf q)).2 q9
      · have nc : n.toNatClampNeg = (z.1 0 96).toInt.toNat := by rw [t_cl, en]
        have cn' : ch.2.1 = none := c87.mp c
        have sO : s = Int32.ofNat (soM C (Mm.2.2 ch.1)) := by rw [← csr cn', es, et, cT]
        have tI : t = Int32.ofNat ch.1 := by rw [et, c86]
        obtain ⟨d1, d2, d3, d4⟩ := dq
        have l9 : (lkM C wn Mm ch.1).1 ≤ 9 := lkM_le
        have i9 : (Int32.ofNat (lkM C wn Mm ch.1).1).toInt = ((lkM C wn Mm ch.1).1 : Nat) := Int32.toInt_ofNat_of_lt (by omega)
        have c92 : u2.1 0 92 = y.1 0 92 := by rw [mu2.1 92 (by decide), m5.1 92 (by decide)]
        have c93 : u4.1 0 93 = y.1 0 93 := by rw [mu4.1 93 (by decide), mu2.1 93 (by decide), m5.1 93 (by decide)]
        have bz : ∀ {c9 : Nat}, (c9 = 101 ∨ c9 = 102) → y.1 c9 = z.1 c9 := fun h9 => by
          rcases h9 with h9 | h9 <;> rw [h9, my.2.1 _ (by decide) (by decide), m416.2.1 _ (by decide) (by decide), m34.2.1 _ (by decide) (by decide)]
        have v103 : vp_nar .boolean v = if decide (¬ (lkM C wn Mm ch.1).1 = 0) = true then 1 else 0 := by
          rcases hv with hv | hv
          · have := hv0 hv
            rw [d2, i9] at this
            rw [hv, if_neg (by rw [decide_eq_true_iff]; omega)]; decide
          · have := hv1 hv
            rw [d2, i9] at this
            rw [hv, if_pos (by rw [decide_eq_true_iff]; omega)]; decide
        rw [deM_a cn']
        refine ⟨by rw [eu8, u96, en], fun j => ?_, fun j => ?_, fun j => ?_, fun j => ?_, fun j => ?_, fun j => ?_⟩ <;> rw [eu8, ← nc] <;> by_cases w : j = n.toNatClampNeg
        · rw [if_pos w, w, u98, r98, tI]; rfl
        · rw [if_neg w, u98, r98b j w]
        · rw [if_pos w, w, u99, r99, sO]; rfl
        · rw [if_neg w, u99, r99b j w]
        · rw [if_pos w, w, u100, d1]; rfl
        · rw [if_neg w, b100 j w]
        · rw [if_pos w, w, eu7, si_cell (by decide), eu6, si_cell (by decide), eu4, si_get, if_pos ⟨rfl, rfl⟩, c92, d3]; rfl
        · rw [if_neg w, eu7, si_cell (by decide), eu6, si_cell (by decide), eu4, si_ne 101 j w, eu2, si_cell (by decide), e5, si_cell (by decide), bz (Or.inl rfl)]
        · rw [if_pos w, w, eu7, si_cell (by decide), eu6, si_get, if_pos ⟨rfl, rfl⟩, c93, d4]; rfl
        · rw [if_neg w, eu7, si_cell (by decide), eu6, si_ne 102 j w, eu4, si_cell (by decide), eu2, si_cell (by decide), e5, si_cell (by decide), bz (Or.inr rfl)]
        · rw [if_pos w, w, u103, v103]; rfl
        · rw [if_neg w, b103 j w]
    refine ⟨fun c9 => p286 0 (Or.inl rfl) (fun _ => ?_) (fun q => absurd q (by decide)), fun c9 => p286 1 (Or.inr rfl) (fun q => absurd q (by decide)) (fun _ => ?_)⟩
    · rw [f89, t_le, k0] at c9
      exact c9
    · rw [f89, t_le, k0] at c9
      exact c9
  have p131 : ∀ (m : Nat) (l5 l6 o : Int32), 0 ≤ o.toInt → (a.1 0 25).toInt - o.toInt ≤ m → MT G (D + 2) z_doChoice 131 [(0, vr 0), (1, vi i), (2, vi t), (3, vi n), (4, vi k), (5, vi l5), (6, vi l6), (7, vi o)] [] z16 (rv Fv) := by
    intro m
    induction m with
    | zero =>
      intro l5 l6 o o0 hm
      exact sg_doChoice_131 _ _ _ _ _ _ _ ⟨fun _ => ⟨iv, act l6⟩, fun cc => absurd (t_le.mpr (by rw [f25]; omega)) cc⟩
    | succ m ih =>
      intro l5 l6 o o0 hm
      refine sg_doChoice_131 _ _ _ _ _ _ _ ⟨fun _ => ⟨iv, act l6⟩, fun cc => ⟨nv, ?_⟩⟩
      rw [t_le, f25] at cc
      have ov : vp_in o 6 := by rw [vp_in_iff]; omega
      have oi : (o + 1).toInt = o.toInt + 1 := by rw [t_add (by omega) (by omega), k1]
      have p221 : ∀ v : Int32, MT G (D + 2) z_doChoice 221 [(0, vr 0), (1, vi i), (2, vi t), (3, vi n), (4, vi k), (5, vi l5), (6, vi l6), (7, vi o)] [vi v] z16 (rv Fv) := fun v => sg_doChoice_221 _ _ _ _ _ _ _ _ ⟨fun _ => ih _ _ _ (by omega) (by omega), fun _ => ih _ _ _ (by omega) (by omega)⟩
      have ro := (ri.2 _ (vt ov)).1
      have o74 : z16.1 74 o.toNatClampNeg = a.1 74 o.toNatClampNeg := cA el16 (n := 6) (by decide) (vt ov)
      rw [r99]
      refine ⟨fun _ => p221 _, fun e8 => ⟨kv, ?_, fun _ => p221 _, fun _ => ⟨ov, fun _ => p221 _, fun _ => ⟨ov, ?_, kv, fun _ => p221 _, fun _ => ⟨fun _ => p221 _, fun _ => ⟨iv, fun _ => p221 _, fun _ => p221 _⟩⟩⟩⟩⟩⟩
      · have q := s2 (Or.inl (by rw [e8]; decide))
        rw [o56, vp_in_iff]; omega
      · rw [o74, vp_in_iff]; exact ⟨ro.1, ro.2.1⟩
  rw [r99]
  have go : ∀ l5 : Int32, MT G (D + 2) z_doChoice 131 [(0, vr 0), (1, vi i), (2, vi t), (3, vi n), (4, vi k), (5, vi l5), (6, vi 0), (7, vi 0)] [] z16 (rv Fv) := fun l5 => p131 6 l5 0 0 (by decide) (by rw [k0]; omega)
  exact ⟨fun _ => go 0, fun _ => ⟨kv, fun _ => go 0, fun _ => go 1⟩⟩
end DCJ
end
