/-! the machine: what lies beyond the program stays as it was, so that states are the same where all that there is is the same -/
/-- locks that there are -/
def LkN (C : gCo) (nl : Nat) : Prop := ∀ (j : Nat) (st : gNs), C.1[j]? = some st → 5 ≤ st.1 → st.1 ≤ 8 → st.2.2.2.2.1.toNatClampNeg < nl
def tCn (C : gCo) (h : gTq) : Prop := (∀ p, ¬ ((h.1 = 1 ∨ h.1 = 3) ∧ p < (stN C h.2.2.1).2.1.length) → h.2.2.2.2.2.2.2 p = 0) ∧ (¬ h.2.2.2.1 = 0 → (stN C h.2.2.1).1 = 7) ∧ ∀ q ∈ h.2.2.2.2.2.2.1, q.1 < C.2.2.1.length
def MCn (C : gCo) (nl : Nat) (M : gMa) : Prop := (∀ c, C.2.2.1.length ≤ c → M.1 c = 0) ∧ (∀ l, nl ≤ l → M.2.1 l = (0, 0)) ∧ ∀ t, (C.2.1.length ≤ t → M.2.2 t = th0) ∧ tCn C (M.2.2 t)
section PCN
variable {C : gCo} {M : gMa} {w t s c i nl : Nat} {e f : Int32} {wk : Option Nat} {ch : gCh} {h : gTq} {lv : Nat → Int32}
theorem tCn_0 : tCn C th0 := ⟨fun _ _ => rfl, fun z => absurd rfl z, fun q hq => by cases hq⟩
theorem tCn_N (hw : h.2.2.2.1 = 0) (hl : ∀ q ∈ h.2.2.2.2.2.2.1, q.1 < C.2.2.1.length) : tCn C (thN C t h s lv) := by
  refine ⟨fun p hp => ?_, fun z => absurd hw z, hl⟩
  show kvL C _ _ _ p = 0
  unfold kvL
  exact if_neg hp
theorem MCn_fs : MCn C nl (fsM C) := by
  refine ⟨fun c hc => ?_, fun _ _ => rfl, fun t => ?_⟩
  · show (match C.2.2.1[c]? with | some q => q.1 | none => 0) = 0
    rw [List.getElem?_eq_none_iff.mpr hc]
  · by_cases q : t < C.2.1.length
    · obtain ⟨q9, hq⟩ : ∃ q9, C.2.1[t]? = some q9 := ⟨_, List.getElem?_eq_getElem q⟩
      refine ⟨fun z => absurd q (by omega), ?_⟩
      by_cases c1 : q9.2 = 1
      · rw [fs_idle hq c1]; exact tCn_0
      · rw [fs_go hq c1]; exact tCn_N rfl (fun q hq => by cases hq)
    · rw [fs_out (by omega)]; exact ⟨fun _ => rfl, tCn_0⟩
theorem stN_in (h : 1 ≤ (stN C s).1) : ∃ st, C.1[s]? = some st ∧ stN C s = st := by
  unfold stN at h ⊢
  cases hs : C.1[s]? with
  | none => rw [hs] at h; exact absurd h (by decide)
  | some st => exact ⟨st, rfl, rfl⟩
theorem MCn_up (q : MCn C nl M) (ht : t < C.2.1.length) (hh : tCn C h) : MCn C nl (upT M t h) := by
  refine ⟨q.1, q.2.1, fun t' => ?_⟩
  show (_ → upf M.2.2 t h t' = th0) ∧ tCn C (upf M.2.2 t h t')
  by_cases z : t' = t
  · rw [z, upf_eq]; exact ⟨fun z => absurd ht (by omega), hh⟩
  · rw [upf_ne z]; exact q.2.2 t'
theorem MCn_C (q : MCn C nl M) {v : Int32} (hc : c < C.2.2.1.length) : MCn C nl (upC M c v) := by
  refine ⟨fun c' hc' => ?_, q.2⟩
  show upf M.1 c v c' = 0
  rw [upf_ne (by omega)]; exact q.1 c' hc'
theorem MCn_L (q : MCn C nl M) {v : Nat × Int32} (hc : c < nl ∨ v = (0, 0)) : MCn C nl (upL M c v) := by
  refine ⟨q.1, fun l hl => ?_, q.2.2⟩
  show upf M.2.1 c v l = (0, 0)
  by_cases z : l = c
  · rw [z, upf_eq]
    rcases hc with hc | hc
    · omega
    · exact hc
  · rw [upf_ne z]; exact q.2.1 l hl
theorem MCn_ef (hN : NC C) (hX : NXc C) (hL : LkN C nl) (lb : (C.2.2.1.length : Int) < 2147483648) (q : MCn C nl M) (qw : WMw w M) (t6 : t < 6) (tl : t < C.2.1.length) (l6 : C.2.1.length ≤ 6) (h1 : (M.2.2 t).1 = 1) (L0 : (lkM C w M t).1 = 0) : MCn C nl (efM C w M t (soM C (M.2.2 t)) (lkM C w M t).2.1.toNatClampNeg (lkM C w M t).2.2.1 (lkM C w M t).2.2.2 wk).1 := by
  obtain ⟨s, es⟩ : ∃ s, s = soM C (M.2.2 t) := ⟨_, rfl⟩
  obtain ⟨c, ec⟩ : ∃ c, c = (lkM C w M t).2.1.toNatClampNeg := ⟨_, rfl⟩
  have qt := (q.2.2 t).2
  rw [← es, ← ec]
  by_cases c15 : s = 15
  · rw [c15, ef_15]
    have w0 : ¬ (M.2.2 t).2.2.2.1 = 0 := fun z => by
      have so : soM C (M.2.2 t) = (stN C (M.2.2 t).2.2.1).1 := by unfold soM; rw [if_pos z]
      obtain ⟨st, hst, e⟩ := stN_in (C := C) (s := (M.2.2 t).2.2.1) (by omega)
      exact (hN.1 _ st hst).1.2 (by rw [← e]; omega)
    have o7 := qt.2.1 w0
    obtain ⟨st, hst, e⟩ := stN_in (C := C) (s := (M.2.2 t).2.2.1) (by omega)
    have cE : c = st.2.2.2.2.1.toNatClampNeg := by rw [ec, lkM_15 w0, e]
    refine MCn_up (MCn_L q (Or.inl (by rw [cE]; rw [e] at o7; exact hL _ st hst (by omega) (by omega)))) tl ?_
    exact ⟨qt.1, fun z => absurd rfl z, qt.2.2⟩
  · obtain ⟨w0, so⟩ := so_0 (C := C) (M := M) (t := t) (by rw [← es]; exact c15)
    have cl : 1 ≤ s → s ≤ 4 → c < C.2.2.1.length := fun a b => by
      obtain ⟨st, hst, e⟩ := stN_in (C := C) (s := (M.2.2 t).2.2.1) (by omega)
      obtain ⟨p1, p2⟩ := lkM_pl w0 L0
      rw [ec, p2]
      exact lkI_in hX hst (by rw [← e]; omega) lb p1
    have lk : 5 ≤ s → s ≤ 8 → c < nl := fun a b => by
      obtain ⟨st, hst, e⟩ := stN_in (C := C) (s := (M.2.2 t).2.2.1) (by omega)
      have cE : c = st.2.2.2.2.1.toNatClampNeg := by
        rw [ec, (lkM_pl w0 L0).2, lkI_n (ix_no hX (by omega)), e]
      rw [cE]
      exact hL _ st hst (by rw [← e]; omega) (by rw [← e]; omega)
    have self : ∀ hh : gTq, hh.1 = (M.2.2 t).1 → hh.2.2.1 = (M.2.2 t).2.2.1 → hh.2.2.2.1 = (M.2.2 t).2.2.2.1 → hh.2.2.2.2.2.2.2 = (M.2.2 t).2.2.2.2.2.2.2 → (∀ q ∈ hh.2.2.2.2.2.2.1, q.1 < C.2.2.1.length) → MCn C nl (upT M t hh) := fun hh a1 a2 a3 a4 a5 => by
      refine MCn_up q tl ⟨?_, ?_, a5⟩
      · rw [a1, a2, a4]; exact qt.1
      · rw [a2, a3]; exact qt.2.1
    by_cases c0 : s = 0
    · rw [c0, ef_0]; exact q
    by_cases c1 : s = 1
    · rw [c1, ef_1]
      by_cases z : w = 0 ∨ suM C c = true
      · rw [if_pos z]; exact MCn_C q (cl (by omega) (by omega))
      · rw [if_neg z]
        refine self _ rfl rfl rfl rfl (fun r hr => ?_)
        rcases List.mem_append.mp hr with hr | hr
        · exact qt.2.2 r hr
        · rw [List.mem_singleton.mp hr]; exact cl (by omega) (by omega)
    by_cases c2 : s = 2
    · rw [c2, ef_2]; exact MCn_C q (cl (by omega) (by omega))
    by_cases c3 : s = 3
    · rw [c3, ef_3]; exact MCn_C q (cl (by omega) (by omega))
    by_cases c4 : s = 4
    · rw [c4, ef_4]; exact MCn_C q (cl (by omega) (by omega))
    by_cases c5 : s = 5
    · rw [c5, ef_5]; exact MCn_L q (Or.inl (lk (by omega) (by omega)))
    by_cases c6 : s = 6
    · rw [c6, ef_6]; exact MCn_L q (Or.inl (lk (by omega) (by omega)))
    by_cases c7 : s = 7
    · rw [c7, ef_7]
      refine MCn_up (MCn_L q (Or.inr rfl)) tl ⟨qt.1, fun _ => ?_, qt.2.2⟩
      show (stN C (M.2.2 t).2.2.1).1 = 7
      omega
    by_cases c8 : s = 8
    · rw [c8, ef_8]
      refine ⟨q.1, q.2.1, fun t' => ?_⟩
      show (_ → wkT C M t c wk t' = th0) ∧ tCn C (wkT C M t c wk t')
      have q' := q.2.2 t'
      unfold wkT
      split
      · next z =>
        refine ⟨fun z9 => absurd z.1 (by omega), q'.2.1, fun _ => ?_, q'.2.2.2⟩
        exact q'.2.2.1 (by rw [z.2.1]; decide)
      · exact q'
    by_cases c9 : s = 9
    · cases hq : C.2.1[c]? with
      | none =>
        have a : efM C w M t 9 c (lkM C w M t).2.2.1 (lkM C w M t).2.2.2 wk = (match C.2.1[c]? with | some q => upT M c (thN C c (M.2.2 c) q.1 (M.2.2 c).2.2.2.2.2.2.2) | none => M, 0) := by unfold efM; rfl
        rw [c9, a, hq]; exact q
      | some q9 =>
        rw [c9, ef_9 hq]
        have lc := gt_lt hq
        have rs := lkM_rs w0 L0
        rw [← so, ← es, c9, ← ec, rsF_9] at rs
        have z0 : (M.2.2 c).1 = 0 := Classical.byContradiction (fun n => by rw [if_neg n] at rs; exact nomatch rs)
        exact MCn_up q lc (tCn_N ((qw c (by omega)).2.2.1 (by omega)) (q.2.2 c).2.2.2)
    by_cases c13 : s = 13
    · rw [c13, ef_13]; exact self _ rfl rfl rfl rfl qt.2.2
    by_cases c14 : s = 14
    · rw [c14, ef_14]; exact self _ rfl rfl rfl rfl qt.2.2
    · have a : efM C w M t s c (lkM C w M t).2.2.1 (lkM C w M t).2.2.2 wk = (M, 0) := by
        unfold efM
        rw [if_neg c0, if_neg c1, if_neg c2, if_neg c3, if_neg c4, if_neg c5, if_neg c6, if_neg c7, if_neg c8, if_neg c9, if_neg c13, if_neg c14, if_neg c15]
      rw [a]; exact q
theorem MCn_ac (hN : NC C) (hX : NXc C) (hL : LkN C nl) (lb : (C.2.2.1.length : Int) < 2147483648) (q : MCn C nl M) (qw : WMw w M) (tl : t < C.2.1.length) (l6 : C.2.1.length ≤ 6) (h1 : (M.2.2 t).1 = 1) : MCn C nl (acM C w M t wk) := by
  have qt := (q.2.2 t).2
  by_cases L0 : (lkM C w M t).1 = 0
  · have me := MCn_ef (wk := wk) hN hX hL lb q qw (by omega) tl l6 h1 L0
    by_cases c7 : soM C (M.2.2 t) = 7
    · rw [c7] at me
      rw [acM_7 L0 c7, ef_7]
      rw [ef_7] at me
      exact me
    · have st9 : soM C (M.2.2 t) = 9 → (M.2.2 (lkM C w M t).2.1.toNatClampNeg).1 = 0 := fun e9 => by
        obtain ⟨w0, es⟩ := so_0 (C := C) (M := M) (t := t) (by omega)
        have rs := lkM_rs w0 L0
        rw [← es, e9, rsF_9] at rs
        exact Classical.byContradiction (fun n => by rw [if_neg n] at rs; exact nomatch rs)
      obtain ⟨-, b1, -, -⟩ := WMw_ef (C := C) (s := soM C (M.2.2 t)) (c := (lkM C w M t).2.1.toNatClampNeg) (e := (lkM C w M t).2.2.1) (f := (lkM C w M t).2.2.2) (wk := wk) qw (by omega) h1 (Classical.byCases Or.inl (fun n => Or.inr (so_0 n).1)) (fun e9 _ => st9 e9) (fun e9 z => by have := st9 e9; rw [z] at this; omega) c7
      rw [acM_is (E := (efM C w M t (soM C (M.2.2 t)) (lkM C w M t).2.1.toNatClampNeg (lkM C w M t).2.2.1 (lkM C w M t).2.2.2 wk).1) (v := (efM C w M t (soM C (M.2.2 t)) (lkM C w M t).2.1.toNatClampNeg (lkM C w M t).2.2.1 (lkM C w M t).2.2.2 wk).2) L0 c7 rfl]
      exact MCn_up me tl (tCn_N b1 (me.2.2 t).2.2.2)
  · have w0 : (M.2.2 t).2.2.2.1 = 0 := Classical.byContradiction (fun n0 => L0 (by rw [lkM_15 n0]))
    rw [acM_F L0]
    refine MCn_up q tl ⟨fun p hp => qt.1 p (fun z => hp ⟨Or.inr rfl, z.2⟩), qt.2.1, qt.2.2⟩
theorem MCn_la (q : MCn C nl M) (tl : t < C.2.1.length) : MCn C nl (laM M t i) := by
  unfold laM
  cases hq : (M.2.2 t).2.2.2.2.2.2.1[i]? with
  | none => exact q
  | some z9 =>
    have qt := (q.2.2 t).2
    refine MCn_up (MCn_C q (qt.2.2 z9 (List.mem_of_getElem? hq))) tl ⟨qt.1, qt.2.1, fun r hr => qt.2.2 r (List.mem_of_mem_eraseIdx hr)⟩
theorem MCn_do (hN : NC C) (hX : NXc C) (hL : LkN C nl) (lb : (C.2.2.1.length : Int) < 2147483648) (l6 : C.2.1.length ≤ 6) (q : MCn C nl M) (qi : MIv C w M) (h : ch ∈ chM C w M) : MCn C nl (doM C w M ch) := by
  obtain ⟨i1, i2, i3⟩ := ch_in h
  obtain ⟨t, lt9, wk⟩ := ch
  unfold doM
  cases lt9 with
  | none => exact MCn_ac hN hX hL lb q qi.1 i1 l6 (i2 rfl).1
  | some j => exact MCn_la q i1
/-- two states are one, where all that there is is the same -/
theorem MCn_eq {M' : gMa} (q : MCn C nl M) (q' : MCn C nl M') (hc : ∀ c, c < C.2.2.1.length → M.1 c = M'.1 c) (hl : ∀ l, l < nl → M.2.1 l = M'.2.1 l) (ht : ∀ t, t < C.2.1.length → M.2.2 t = M'.2.2 t) : M = M' := by
  refine Prod.ext (funext fun c => ?_) (Prod.ext (funext fun l => ?_) (funext fun t => ?_))
  · by_cases z : c < C.2.2.1.length
    · exact hc c z
    · rw [q.1 c (by omega), q'.1 c (by omega)]
  · by_cases z : l < nl
    · exact hl l z
    · rw [q.2.1 l (by omega), q'.2.1 l (by omega)]
  · by_cases z : t < C.2.1.length
    · exact ht t z
    · rw [(q.2.2 t).1 (by omega), (q'.2.2 t).1 (by omega)]
end PCN
