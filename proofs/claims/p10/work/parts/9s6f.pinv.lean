/-! the machine: what holds of every state -/
def wTq (w : Nat) (h : gTq) : Prop := (¬ h.1 = 3 → h.2.1 = 0) ∧ (h.2.2.2.1 = 0 → h.2.2.2.2.1 = 0) ∧ (¬ h.1 = 1 → h.2.2.2.1 = 0) ∧ (w = 0 → h.2.2.2.2.2.2.1 = [])
def WMw (w : Nat) (M : gMa) : Prop := ∀ t, t < 6 → wTq w (M.2.2 t)
section PIN
variable {C : gCo} {M : gMa} {w t s c n own : Nat} {me e f : Int32} {wk : Option Nat} {lv : Nat → Int32} {h : gTq} {r : gTr}
theorem WMw_WM (q : WMw w M) : WM M := fun t ht => ⟨(q t ht).1, (q t ht).2.1, (q t ht).2.2.1⟩
theorem ow1_num {st : gNs} (q : ow1 me s st lv = .inl r) : ¬ r.1 = 3 → r.2.1 = 0 := by
  unfold ow1 at q
  split at q
  · cases q
    exact fun _ => rfl
  · split at q
    · exact nomatch q
    · split at q
      · cases q
        exact fun z => absurd rfl z
      · split at q
        · cases q
          exact fun z => absurd rfl z
        · exact nomatch q
theorem setP_num : ∀ {n own s : Nat} {lv : Nat → Int32}, setP C me n own s lv = some r → ¬ r.1 = 3 → r.2.1 = 0 := by
  intro n
  induction n with
  | zero => intro own s lv q; exact absurd q (by simp [setP])
  | succ n ih =>
    intro own s lv q
    cases hs : C.1[s]? with
    | none =>
      rw [setP] at q
      simp only [hs] at q
      exact absurd q (by simp)
    | some st =>
      by_cases c1 : st.1 < 16
      · rw [set_act hs c1] at q
        cases q
        exact fun _ => rfl
      · by_cases c2 : st.1 < 20 ∧ 300 ≤ own
        · rw [set_6 hs c1 c2] at q
          cases q
          exact fun z => absurd rfl z
        · cases e1 : ow1 me s st lv with
          | inl r9 =>
            rw [set_l hs c1 c2 e1] at q
            cases q
            exact ow1_num e1
          | inr z =>
            rw [set_r hs c1 c2 e1] at q
            exact ih q
theorem owR_num : ¬ (owR C me s lv).1 = 3 → (owR C me s lv).2.1 = 0 := by
  by_cases q : ∃ r, ∃ n, setP C me n 0 s lv = some r
  · obtain ⟨r, n, q⟩ := q
    rw [owR_is q]
    exact setP_num q
  · have : owR C me s lv = (0, 0, 0, fun _ => 0) := by
      unfold owR
      rw [dif_neg q]
    rw [this]
    exact fun _ => rfl
theorem wT_thN (h3 : h.2.2.2.1 = 0) (h4 : h.2.2.2.2.1 = 0) (h6 : w = 0 → h.2.2.2.2.2.2.1 = []) : wTq w (thN C t h s lv) := ⟨owR_num, fun _ => h4, fun _ => h3, h6⟩
theorem wT_th0 : wTq w th0 := ⟨fun _ => rfl, fun _ => rfl, fun _ => rfl, fun _ => rfl⟩
theorem WMw_fs : WMw w (fsM C) := fun t _ => by
  by_cases q : t < C.2.1.length
  · obtain ⟨q9, hq⟩ : ∃ q9, C.2.1[t]? = some q9 := ⟨_, List.getElem?_eq_getElem q⟩
    by_cases c1 : q9.2 = 1
    · rw [fs_idle hq c1]; exact wT_th0
    · rw [fs_go hq c1]; exact wT_thN rfl rfl (fun _ => rfl)
  · rw [fs_out (by omega)]; exact wT_th0
/-- what an act does to the others keeps it; the thread itself is ready to go on -/
theorem WMw_ef (q : WMw w M) (t6 : t < 6) (h1 : (M.2.2 t).1 = 1) (hso : s = 15 ∨ (M.2.2 t).2.2.2.1 = 0) (h9 : s = 9 → c < 6 → (M.2.2 c).1 = 0) (n9 : s = 9 → ¬ c = t) (n7 : ¬ s = 7) : (∀ t', t' < 6 → ¬ t' = t → wTq w ((efM C w M t s c e f wk).1.2.2 t')) ∧ ((efM C w M t s c e f wk).1.2.2 t).2.2.2.1 = 0 ∧ ((efM C w M t s c e f wk).1.2.2 t).2.2.2.2.1 = 0 ∧ (w = 0 → ((efM C w M t s c e f wk).1.2.2 t).2.2.2.2.2.2.1 = []) := by
  have same : ¬ s = 15 → ∀ E : gMa, E.2.2 = M.2.2 → (∀ t', t' < 6 → ¬ t' = t → wTq w (E.2.2 t')) ∧ (E.2.2 t).2.2.2.1 = 0 ∧ (E.2.2 t).2.2.2.2.1 = 0 ∧ (w = 0 → (E.2.2 t).2.2.2.2.2.2.1 = []) := fun n15 E hE => by
    have w0 := hso.resolve_left n15
    rw [hE]
    exact ⟨fun t' ht' _ => q t' ht', w0, (q t t6).2.1 w0, (q t t6).2.2.2⟩
  have self : ∀ (E : gMa) (hh : gTq), E.2.2 = upf M.2.2 t hh → hh.2.2.2.1 = 0 → hh.2.2.2.2.1 = 0 → (w = 0 → hh.2.2.2.2.2.2.1 = []) → (∀ t', t' < 6 → ¬ t' = t → wTq w (E.2.2 t')) ∧ (E.2.2 t).2.2.2.1 = 0 ∧ (E.2.2 t).2.2.2.2.1 = 0 ∧ (w = 0 → (E.2.2 t).2.2.2.2.2.2.1 = []) := fun E hh hE a1 a2 a3 => by
    rw [hE, upf_eq]
    exact ⟨fun t' ht' ne => by rw [upf_ne ne]; exact q t' ht', a1, a2, a3⟩
  by_cases c0 : s = 0
  · rw [c0, ef_0]; exact same (by omega) _ rfl
  by_cases c1 : s = 1
  · have w0 := hso.resolve_left (by omega)
    rw [c1, ef_1]
    by_cases z : w = 0 ∨ suM C c = true
    · rw [if_pos z]; exact same (by omega) _ rfl
    · rw [if_neg z]
      exact self _ _ rfl w0 ((q t t6).2.1 w0) (fun z9 => absurd (Or.inl z9) z)
  by_cases c2 : s = 2
  · rw [c2, ef_2]; exact same (by omega) _ rfl
  by_cases c3 : s = 3
  · rw [c3, ef_3]; exact same (by omega) _ rfl
  by_cases c4 : s = 4
  · rw [c4, ef_4]; exact same (by omega) _ rfl
  by_cases c5 : s = 5
  · rw [c5, ef_5]; exact same (by omega) _ rfl
  by_cases c6 : s = 6
  · rw [c6, ef_6]; exact same (by omega) _ rfl
  by_cases c8 : s = 8
  · have w0 := hso.resolve_left (by omega)
    rw [c8, ef_8]
    have wt : ∀ t', wkT C M t c wk t' = M.2.2 t' ∨ ((M.2.2 t').2.2.2.1 = 1 ∧ wkT C M t c wk t' = ((M.2.2 t').1, (M.2.2 t').2.1, (M.2.2 t').2.2.1, 2, (M.2.2 t').2.2.2.2)) := fun t' => by
      unfold wkT
      split
      · next z => exact Or.inr ⟨z.2.1, rfl⟩
      · exact Or.inl rfl
    refine ⟨fun t' ht' _ => ?_, ?_⟩
    · show wTq w (wkT C M t c wk t')
      rcases wt t' with z | ⟨z1, z⟩
      · rw [z]; exact q t' ht'
      · rw [z]
        obtain ⟨a1, a2, a3, a4⟩ := q t' ht'
        refine ⟨a1, fun z9 => ?_, fun z9 => ?_, a4⟩
        · exact nomatch z9
        · have := a3 z9
          omega
    · show (wkT C M t c wk t).2.2.2.1 = 0 ∧ (wkT C M t c wk t).2.2.2.2.1 = 0 ∧ (w = 0 → (wkT C M t c wk t).2.2.2.2.2.2.1 = [])
      rcases wt t with z | ⟨z1, -⟩
      · rw [z]; exact ⟨w0, (q t t6).2.1 w0, (q t t6).2.2.2⟩
      · omega
  by_cases c9 : s = 9
  · cases hq : C.2.1[c]? with
    | none =>
      have a : efM C w M t 9 c e f wk = (match C.2.1[c]? with | some q => upT M c (thN C c (M.2.2 c) q.1 (M.2.2 c).2.2.2.2.2.2.2) | none => M, 0) := by unfold efM; rfl
      rw [c9, a, hq]; exact same (by omega) _ rfl
    | some q9 =>
      have w0 := hso.resolve_left (by omega)
      rw [c9, ef_9 hq]
      refine ⟨fun t' ht' _ => ?_, ?_⟩
      · show wTq w (upf M.2.2 c _ t')
        by_cases z : t' = c
        · rw [z, upf_eq]
          rw [z] at ht'
          have z0 := h9 c9 ht'
          have w9 := (q c ht').2.2.1 (by omega)
          exact wT_thN w9 ((q c ht').2.1 w9) (q c ht').2.2.2
        · rw [upf_ne z]; exact q t' ht'
      · show (upf M.2.2 c _ t).2.2.2.1 = 0 ∧ (upf M.2.2 c _ t).2.2.2.2.1 = 0 ∧ (w = 0 → (upf M.2.2 c _ t).2.2.2.2.2.2.1 = [])
        rw [upf_ne (fun z => n9 c9 z.symm)]
        exact ⟨w0, (q t t6).2.1 w0, (q t t6).2.2.2⟩
  by_cases c13 : s = 13
  · have w0 := hso.resolve_left (by omega)
    rw [c13, ef_13]
    exact self _ _ rfl w0 ((q t t6).2.1 w0) (q t t6).2.2.2
  by_cases c14 : s = 14
  · have w0 := hso.resolve_left (by omega)
    rw [c14, ef_14]
    exact self _ _ rfl w0 ((q t t6).2.1 w0) (q t t6).2.2.2
  by_cases c15 : s = 15
  · rw [c15, ef_15]
    exact self _ _ rfl rfl rfl (q t t6).2.2.2
  · have : efM C w M t s c e f wk = (M, 0) := by
      unfold efM
      rw [if_neg c0, if_neg c1, if_neg c2, if_neg c3, if_neg c4, if_neg c5, if_neg c6, if_neg n7, if_neg c8, if_neg c9, if_neg c13, if_neg c14, if_neg c15]
    rw [this]; exact same c15 _ rfl
end PIN
