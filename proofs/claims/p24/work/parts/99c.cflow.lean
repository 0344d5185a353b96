section
/-! where the steps of a text go, and what is known there -/
def slK (ks : gK) : List Nat := ks.map Prod.snd
/-- the slots known behind a step -/
def aft (st : gSt) : List Nat := if (st.1 = 0 ∨ (2 ≤ st.1 ∧ st.1 ≤ 4) ∨ st.1 = 16) ∧ st.2.2.2.1 = some st.2.2.1.1.length then st.2.2.1.2 :: slK st.2.2.1.1 else slK st.2.2.1.1
def gEe (E : gV) : Prop := (slK E.1).Pairwise (fun a b => b < a) ∧ (∀ s ∈ slK E.1, s < E.2.2) ∧ E.2.2 ≤ 8
/-- at n goes on what knows no more than a: a step, or what comes behind them all -/
def nxO (S : List gSt) (E : gV) (n : Nat) (a : List Nat) : Prop := (∃ st, S[n]? = some st ∧ slK st.2.2.1.1 <:+ a) ∨ (n = S.length ∧ slK E.1 <:+ a)
def flO (S : List gSt) (E : gV) (j : Nat) (st : gSt) : Prop := (¬ (st.1 = 20 ∨ st.1 = 21) → nxO S E (j + 1) (aft st)) ∧ (st.1 = 17 ∨ st.1 = 20 → ∃ n, st.2.2.2.1 = some n ∧ nxO S E n (slK st.2.2.1.1))
def SGx (sN : Nat → Nat → Bool) (K : Nat → Int32) (X : Nat → Prop) (E : gV) (S : List gSt) (E' : gV) (S' : List gSt) : Prop := xtS S S' ∧ nxO S' E' S.length (slK E.1) ∧ ∀ j st, S.length ≤ j → S'[j]? = some st → (¬ X j → flO S' E' j st) ∧ ∃ E0, stLk sN K E0 st ∧ gEe E0
abbrev SG (sN : Nat → Nat → Bool) (K : Nat → Int32) (E : gV) (S : List gSt) (E' : gV) (S' : List gSt) : Prop := SGx sN K (fun _ => False) E S E' S'
section FLW
variable {K V : Nat → Int32} {sN : Nat → Nat → Bool} {T : gTd} {X X' : Nat → Prop} {E E0 E1 E2 E' : gV} {S S1 S2 S' : List gSt} {st : gSt} {a b : List Nat} {i j n m : Nat}
theorem aft_suf : slK st.2.2.1.1 <:+ aft st := by
  unfold aft
  split
  · exact List.suffix_cons _ _
  · exact List.suffix_refl _
theorem aft_no (h : ¬ (st.1 = 0 ∨ (2 ≤ st.1 ∧ st.1 ≤ 4) ∨ st.1 = 16)) : aft st = slK st.2.2.1.1 := if_neg (fun c => h c.1)
theorem aft_let {op tk : Nat} {ob : Option Nat} {fl : Bool} {ix e1 e2 : Option gU} (h : op = 0 ∨ (2 ≤ op ∧ op ≤ 4) ∨ op = 16) : aft (op, tk, knw E, some E.1.length, ob, fl, ix, e1, e2) = E.2.2 :: slK E.1 := if_pos ⟨h, rfl⟩
theorem nxO_up (h : nxO S E n a) (x : xtS S S') (e : nxO S' E' S.length (slK E.1)) : nxO S' E' n a := by
  rcases h with ⟨st, h1, h2⟩ | ⟨h1, h2⟩
  · exact Or.inl ⟨st, by rw [x.2 n (gt_lt h1)]; exact h1, h2⟩
  · subst h1
    rcases e with ⟨st, e1, e2⟩ | ⟨e1, e2⟩
    · exact Or.inl ⟨st, e1, e2.trans h2⟩
    · exact Or.inr ⟨e1, e2.trans h2⟩
theorem nxO_to (h : nxO S E m a) : nxO (cTo S i n) E m a := by
  rcases h with ⟨st, h1, h2⟩ | ⟨h1, h2⟩
  · refine Or.inl ⟨if m = i then stS st n else st, by rw [cTo_at, h1]; rfl, ?_⟩
    split <;> exact h2
  · exact Or.inr ⟨by rw [cTo_len]; exact h1, h2⟩
theorem nxO_x (h : nxO S E n a) (w : slK E'.1 <:+ slK E.1) : nxO S E' n a := by
  rcases h with h | ⟨h1, h2⟩
  · exact Or.inl h
  · exact Or.inr ⟨h1, w.trans h2⟩
theorem flO_up (h : flO S E j st) (x : xtS S S') (e : nxO S' E' S.length (slK E.1)) : flO S' E' j st := ⟨fun c => nxO_up (h.1 c) x e, fun c => by
  obtain ⟨n, h1, h2⟩ := h.2 c
  exact ⟨n, h1, nxO_up h2 x e⟩⟩
theorem flO_to (h : flO S E j st) : flO (cTo S i n) E j st := ⟨fun c => nxO_to (h.1 c), fun c => by
  obtain ⟨n, h1, h2⟩ := h.2 c
  exact ⟨n, h1, nxO_to h2⟩⟩
theorem flO_x (h : flO S E j st) (w : slK E'.1 <:+ slK E.1) : flO S E' j st := ⟨fun c => nxO_x (h.1 c) w, fun c => by
  obtain ⟨n, h1, h2⟩ := h.2 c
  exact ⟨n, h1, nxO_x h2 w⟩⟩
theorem SGx_rf : SGx sN K X E S E S := ⟨xtS_rf, Or.inr ⟨rfl, List.suffix_refl _⟩, fun j st hj hs => absurd (gt_lt hs) (by omega)⟩
theorem SGx_tr (a : SGx sN K X E S E1 S1) (b : SG sN K E1 S1 E2 S2) : SGx sN K X E S E2 S2 := by
  obtain ⟨a1, a2, a3⟩ := a
  obtain ⟨b1, b2, b3⟩ := b
  refine ⟨xtS_tr a1 b1, nxO_up a2 b1 b2, fun j st hj hs => ?_⟩
  by_cases c : j < S1.length
  · rw [b1.2 j c] at hs
    obtain ⟨p, q⟩ := a3 j st hj hs
    exact ⟨fun z => flO_up (p z) b1 b2, q⟩
  · obtain ⟨p, q⟩ := b3 j st (by omega) hs
    exact ⟨fun _ => p (fun z => z), q⟩
theorem snA : (S ++ [st])[S.length]? = some st := by
  rw [List.getElem?_append_right (Nat.le_refl _), Nat.sub_self]
  rfl
theorem SGx_add (a : SGx sN K X E S E1 S1) (hX : ∀ j, X j → X' j) (kn : slK st.2.2.1.1 <:+ slK E1.1) (hf : ¬ X' S1.length → flO (S1 ++ [st]) E2 S1.length st) (hL : ∃ E0, stLk sN K E0 st ∧ gEe E0) : SGx sN K X' E S E2 (S1 ++ [st]) := by
  obtain ⟨a1, a2, a3⟩ := a
  have ent : nxO (S1 ++ [st]) E2 S1.length (slK E1.1) := Or.inl ⟨st, snA, kn⟩
  refine ⟨xtS_tr a1 xtS_sn, nxO_up a2 xtS_sn ent, fun j st9 hj hs => ?_⟩
  by_cases c : j < S1.length
  · rw [List.getElem?_append_left c] at hs
    obtain ⟨p, q⟩ := a3 j st9 hj hs
    exact ⟨fun z => flO_up (p (fun y => z (hX j y))) xtS_sn ent, q⟩
  · have hl := gt_lt hs
    rw [List.length_append] at hl
    have hl : j < S1.length + 1 := hl
    have ej : j = S1.length := by omega
    rw [ej, snA] at hs
    cases Option.some.inj hs
    rw [ej]
    exact ⟨hf, hL⟩
/-- a step's target is set -/
theorem SGx_cl (h : SGx sN K X E S E' S') (hi : S.length ≤ i) (hs : S'[i]? = some st) (ho : st.1 = 17 ∨ st.1 = 20) (hn : nxO S' E' n (slK st.2.2.1.1)) (h1 : st.1 = 17 → nxO S' E' (i + 1) (slK st.2.2.1.1)) (hX : ∀ j, X j → j = i ∨ X' j) : SGx sN K X' E S E' (cTo S' i n) := by
  obtain ⟨a1, a2, a3⟩ := h
  refine ⟨xtS_to a1 hi, nxO_to a2, fun j st9 hj h9 => ?_⟩
  rw [cTo_at] at h9
  obtain ⟨s0, h0, e0⟩ := Option.map_eq_some_iff.mp h9
  have e : (if j = i then stS s0 n else s0) = st9 := e0
  clear e0
  obtain ⟨p, q⟩ := a3 j s0 hj h0
  by_cases c : j = i
  · rw [if_pos c] at e
    subst c
    rw [hs] at h0
    cases Option.some.inj h0
    rw [← e]
    refine ⟨fun _ => ⟨fun c2 => ?_, fun _ => ⟨n, rfl, nxO_to hn⟩⟩, ?_⟩
    · have c2 : ¬ (st.1 = 20 ∨ st.1 = 21) := c2
      have o17 : st.1 = 17 := by omega
      have ea : aft (stS st n) = slK st.2.2.1.1 := aft_no (st := stS st n) (by show ¬ (st.1 = 0 ∨ (2 ≤ st.1 ∧ st.1 ≤ 4) ∨ st.1 = 16); omega)
      rw [ea]
      exact nxO_to (h1 o17)
    · obtain ⟨E0, q1, q2⟩ := q
      exact ⟨E0, stLk_to q1 ho, q2⟩
  · rw [if_neg c] at e
    rw [← e]
    exact ⟨fun z => flO_to (p (fun y => (hX j y).elim c z)), q⟩
theorem SGx_ex (h : SGx sN K X E S E1 S1) (w : slK E2.1 <:+ slK E1.1) : SGx sN K X E S E2 S1 := ⟨h.1, nxO_x h.2.1 w, fun j st hj hs => ⟨fun z => flO_x ((h.2.2 j st hj hs).1 z) w, (h.2.2 j st hj hs).2⟩⟩
theorem SGx_en (h : SGx sN K X E S E1 S1) (w : slK E.1 = slK E0.1) : SGx sN K X E0 S E1 S1 := ⟨h.1, by rw [← w]; exact h.2.1, h.2.2⟩
theorem SG_one (hL : stLk sN K E st) (hg : gEe E) (ho : ¬ (st.1 = 17 ∨ st.1 = 20)) (w : slK E'.1 <:+ aft st) : SG sN K E S E' (S ++ [st]) :=
  SGx_add (E1 := E) SGx_rf (fun _ z => z) (by rw [hL.1]; exact List.suffix_refl _) (fun _ => ⟨fun _ => Or.inr ⟨by rw [List.length_append]; rfl, w⟩, fun c => absurd c ho⟩) ⟨E, hL, hg⟩
end FLW
/-- what a statement's events do to the code -/
def PSt (K : Nat → Int32) (b : Prop) (c c' : Nat) (N : gU) : Prop := ∀ sN T V E, ¬ flt sN T V N E → ¬ E.2.1 = [] → gEe E → E.2.2 = c → ((exs N E).2.1 = E.2.1 ∧ E.1 <:+ (exs N E).1 ∧ gEe (exs N E) ∧ (exs N E).2.2 = c' ∧ (b → (exs N E).1 = E.1)) ∧ ∀ S k w, ∃ S', cds sN K N (E, S, k, rg0, w) = (exs N E, S', k, rg0, w) ∧ SG sN K E S (exs N E) S'
def PRt (K : Nat → Int32) (t : Option Nat) (N : gU) : Prop := still N ∧ ∀ sN T V E, ¬ flt sN T V N E → ¬ E.2.1 = [] → (t = none → E.2.2 < 8) → ∀ S k w tk, ∃ st, cds sN K N (E, S, k, ([], [], 0, false, none, tk), w) = (E, S ++ [st], k, rg0, w) ∧ stLk sN K E st ∧ ¬ (st.1 = 17 ∨ st.1 = 20) ∧ (t = none → aft st = E.2.2 :: slK E.1)
section PST
variable {K V : Nat → Int32} {sN : Nat → Nat → Bool} {T : gTd} {E : gV} {L M N N0 N1 : gU} {f i c tk tp : Nat} {t : Option Nat} {ro : Bool} {ix : Option gU} {S : List gSt} {k : List Nat} {w : List (Nat × Nat) × List (Nat × gU)}
theorem nf_app (h : ¬ flt sN T V (M ++ N) E) (hs : still M) : ¬ flt sN T V M E ∧ ¬ flt sN T V N E := by
  rw [flt_app, exs_still hs] at h
  exact ⟨fun z => h (Or.inl z), fun z => h (Or.inr z)⟩
theorem st_k {k a b : Nat} (h : ¬ k = 20 ∧ ¬ k = 21 ∧ ¬ k = 22) : still [(k, a, b)] := still_one h
theorem pP_f {q : Nat × gU} (h : pP K f i L = some q) : ∃ N0 ro ix N1, q.2 = L ++ N1 ∧ pPl i N0 ro ix N1 ∧ K i = 1 ∧ ∀ N, ix = some N → sW K f N := by
  unfold pP at h
  split at h
  · next c =>
    split at h
    · split at h
      · obtain ⟨z, hz, h2⟩ := Option.bind_eq_some_iff.mp h
        obtain ⟨N, eN, hs, hw⟩ := pX_sW hz
        obtain ⟨-, -, e2⟩ := pt_is h2
        rw [e2]
        exact ⟨N, true, some N, _, by rw [eN, List.append_assoc], Or.inr ⟨rfl, rfl, hs, rfl⟩, c.1, fun M hM => by cases Option.some.inj hM; exact hw⟩
      · exact absurd h (by simp)
    · cases Option.some.inj h
      exact ⟨[], false, none, _, rfl, Or.inl ⟨rfl, rfl, rfl⟩, c.1, fun M hM => by cases hM⟩
  · exact absurd h (by simp)
theorem pPl_st (h : pPl tp N0 ro ix N1) : still N1 := by
  rcases h with ⟨-, -, e⟩ | ⟨-, -, hs, e⟩
  · rw [e]; exact st_k (by decide)
  · rw [e]; exact still_app (st_k (by decide)) (still_app (sEv_st hs) (st_k (by decide)))
theorem pPl_sO (h : pPl tp N0 ro ix N1) (hw : ∀ N, ix = some N → sW K f N) (hf : f ≤ 40) (nf : ¬ flt sN T V N1 E) : sOo sN K E ix ∧ (ro = true ↔ ¬ ix = none) := by
  rcases h with ⟨e1, e2, -⟩ | ⟨e1, e2, hs, e⟩
  · rw [e1, e2]; exact ⟨sOo_no, by simp⟩
  · rw [e] at nf
    have nf := (nf_app (nf_app nf (st_k (by decide))).2 (sEv_st hs)).1
    rw [e1, e2]
    exact ⟨sOo_so hs (hw _ e2) hf nf, by simp⟩
theorem cds_pme : ∃ tk', cds sN K (pme t) (E, S, k, ([], [], 0, false, none, tk), w) = (E, S, k, ([], [], 0, false, t, tk'), w) := by
  cases t with
  | none => exact ⟨tk, rfl⟩
  | some a => exact ⟨a, rfl⟩
theorem cds_pma : ∃ tk', cds sN K (pma t) (E, S, k, ([], [], 0, false, none, tk), w) = (E, S, k, ([], [], 0, false, t, tk'), w) := by
  cases t with
  | none => exact ⟨tk, rfl⟩
  | some a => exact ⟨a, rfl⟩
theorem pme_st : still (pme t) := by
  cases t with
  | none => exact still_nil
  | some a => exact st_k (by decide)
theorem pma_st : still (pma t) := by
  cases t with
  | none => exact still_nil
  | some a => exact st_k (by decide)
theorem pme_k (nf : ¬ flt sN T V (pme t) E) (a : Nat) (h : t = some a) : ¬ kfi sN E.1 a = none := by
  subst h
  exact fun z => nf (flt_one.mpr (fv_26.mpr z))
theorem toL_ok (ht : t = none → E.2.2 < 8) (hk : ∀ a, t = some a → ¬ kfi sN E.1 a = none) : ∃ p, toL sN E.1 t = some p ∧ pOk E p ∧ (t = none → p = E.1.length) := by
  cases t with
  | none => exact ⟨E.1.length, rfl, Or.inr ⟨rfl, ht rfl⟩, fun _ => rfl⟩
  | some a =>
    cases c : kfi sN E.1 a with
    | none => exact absurd c (hk a rfl)
    | some p => exact ⟨p, c, Or.inl (kfi_lt c), fun z => by cases z⟩
theorem cSe_s {c : gCd} {tg : Option Nat} {p : Nat} (h : toL sN c.1.1 tg = some p) : cSe sN c tg tk N = cEm c (16, tk, knw c.1, some p, none, false, none, some N, none) := by unfold cSe; rw [h]
theorem cSe_n {c : gCd} {tg : Option Nat} (h : toL sN c.1.1 tg = none) : cSe sN c tg tk N = cEm c (1, tk, knw c.1, none, tg, false, none, some N, none) := by unfold cSe; rw [h]
theorem cAl_s {c : gCd} {tg : Option Nat} {p : Nat} (h : kfi sN c.1.1 i = some p) : cAl sN c tg tk i = cSe sN c tg tk [(3, i, 0)] := by unfold cAl; rw [h]
theorem cAl_n {c : gCd} {tg : Option Nat} (h : kfi sN c.1.1 i = none) : cAl sN c tg tk i = cEm c (0, tk, knw c.1, toL sN c.1.1 tg, some i, false, none, none, none) := by unfold cAl; rw [h]
theorem cSe_ok {tg tg0 : Option Nat} {cu : gU} {su : List gU} {pl tk0 : Nat} (ht : tg = none → E.2.2 < 8) (hk : ∀ a, tg = some a → K a = 1) (s1 : sOo sN K E (some N)) : ∃ st, cSe sN (E, S, k, (cu, su, pl, ro, tg0, tk0), w) tg tk N = (E, S ++ [st], k, rg0, w) ∧ stLk sN K E st ∧ ¬ (st.1 = 17 ∨ st.1 = 20) ∧ (tg = none → aft st = E.2.2 :: slK E.1) := by
  cases c : toL sN E.1 tg with
  | some p =>
    refine ⟨_, cSe_s c, stLk_16 ?_ s1, show ¬ (16 = 17 ∨ 16 = 20) by decide, fun z => ?_⟩
    · cases tg with
      | none => cases Option.some.inj c; exact Or.inr ⟨rfl, ht rfl⟩
      | some a => exact Or.inl (kfi_lt c)
    · subst z
      cases Option.some.inj c
      exact aft_let (Or.inr (Or.inr rfl))
  | none =>
    cases tg with
    | none => cases c
    | some a => exact ⟨_, cSe_n c, stLk_x (by decide) (Or.inl rfl) (hk a rfl) (by simp) (fun _ => Option.some_ne_none _) (fun z => absurd z (by decide)) sOo_no s1 sOo_no (fun _ => rfl) (fun z => absurd z (by decide)) (fun _ => rfl), show ¬ (1 = 17 ∨ 1 = 20) by decide, fun z => by cases z⟩
theorem pR_f {q : Nat × gU} (hf : f ≤ 16) (ht : ∀ a, t = some a → K a = 1) (h : pR K f t i L = some q) : ∃ N, q.2 = L ++ N ∧ PRt K t N := by
  unfold pR at h
  split at h
  · next kk =>
    split at h
    · obtain ⟨z4, hz4, h4⟩ := Option.bind_eq_some_iff.mp h
      obtain ⟨z3, hz3, h3⟩ := Option.bind_eq_some_iff.mp hz4
      obtain ⟨z2, hz2, h2⟩ := Option.bind_eq_some_iff.mp hz3
      obtain ⟨N0, ro, ix, N1, e1, hpl, k1, hix⟩ := pP_f hz2
      obtain ⟨-, -, e2⟩ := pt_is h2
      have h3 : pX K false f z3.1 z3.2 = some z4 := h3
      obtain ⟨N2, e3, s2, w2⟩ := pX_sW h3
      obtain ⟨z5, hz5, h5⟩ := Option.bind_eq_some_iff.mp h4
      unfold pan at h5
      split at hz5
      · next k16 =>
        obtain ⟨z6, hz6, h6⟩ := Option.bind_eq_some_iff.mp hz5
        obtain ⟨-, -, e6⟩ := pt_is hz6
        have h6 : pX K false f z6.1 z6.2 = some z5 := h6
        obtain ⟨N3, e7, s3, w3⟩ := pX_sW h6
        cases Option.some.inj h5
        refine ⟨pme t ++ (N1 ++ ((N2 ++ [(54, 0, 0)]) ++ ((N3 ++ [(54, 0, 0)]) ++ [(74, i, 0)]))), ?_, ?_, ?_⟩
        · show z5.2 ++ [(74, i, 0)] = _
          rw [e7, e6]
          show (z4.2 ++ (N3 ++ [(54, 0, 0)])) ++ [(74, i, 0)] = _
          rw [e3, e2]
          show ((z2.2 ++ (N2 ++ [(54, 0, 0)])) ++ (N3 ++ [(54, 0, 0)])) ++ [(74, i, 0)] = _
          rw [e1]
          simp only [List.append_assoc]
        · exact still_app pme_st (still_app (pPl_st hpl) (still_app (still_app (sEv_st s2) (st_k (by decide))) (still_app (still_app (sEv_st s3) (st_k (by decide))) (st_k (by decide)))))
        · intro sN T V E nf hE h8 S k w tk
          obtain ⟨n1, nf⟩ := nf_app nf pme_st
          obtain ⟨n2, nf⟩ := nf_app nf (pPl_st hpl)
          obtain ⟨n3, nf⟩ := nf_app nf (still_app (sEv_st s2) (st_k (by decide)))
          obtain ⟨n3, -⟩ := nf_app n3 (sEv_st s2)
          obtain ⟨n4, -⟩ := nf_app nf (still_app (sEv_st s3) (st_k (by decide)))
          obtain ⟨n4, -⟩ := nf_app n4 (sEv_st s3)
          obtain ⟨so, hro⟩ := pPl_sO hpl hix (by omega) n2
          obtain ⟨tk', et⟩ := cds_pme (sN := sN) (K := K) (t := t) (E := E) (S := S) (k := k) (w := w) (tk := tk)
          obtain ⟨p, ep, hp, hn⟩ := toL_ok h8 (pme_k n1)
          refine ⟨_, by rw [cds_app, et, cds_r74c hpl s2 s3 hE k16], ?_, show ¬ (4 = 17 ∨ 4 = 20) by decide, fun z => ?_⟩
          · rw [ep]
            exact stLk_x (by decide) (Or.inr ⟨p, rfl, hp⟩) k1 hro (fun _ => Option.some_ne_none _) (fun _ => Option.some_ne_none _) so (sOo_so s2 w2 (by omega) n3) (sOo_so s3 w3 (by omega) n4) (fun z => absurd z (by decide)) (fun z => absurd z (by decide)) (fun z => absurd rfl z)
          · rw [ep, hn z]
            exact aft_let (Or.inr (Or.inl (by decide)))
      · next k16 =>
        cases Option.some.inj hz5
        cases Option.some.inj h5
        refine ⟨pme t ++ (N1 ++ ((N2 ++ [(54, 0, 0)]) ++ [(74, i, 0)])), ?_, ?_, ?_⟩
        · show z4.2 ++ [(74, i, 0)] = _
          rw [e3, e2]
          show (z2.2 ++ (N2 ++ [(54, 0, 0)])) ++ [(74, i, 0)] = _
          rw [e1]
          simp only [List.append_assoc]
        · exact still_app pme_st (still_app (pPl_st hpl) (still_app (still_app (sEv_st s2) (st_k (by decide))) (st_k (by decide))))
        · intro sN T V E nf hE h8 S k w tk
          obtain ⟨n1, nf⟩ := nf_app nf pme_st
          obtain ⟨n2, nf⟩ := nf_app nf (pPl_st hpl)
          obtain ⟨n3, -⟩ := nf_app nf (still_app (sEv_st s2) (st_k (by decide)))
          obtain ⟨n3, -⟩ := nf_app n3 (sEv_st s2)
          obtain ⟨so, hro⟩ := pPl_sO hpl hix (by omega) n2
          obtain ⟨tk', et⟩ := cds_pme (sN := sN) (K := K) (t := t) (E := E) (S := S) (k := k) (w := w) (tk := tk)
          obtain ⟨p, ep, hp, hn⟩ := toL_ok h8 (pme_k n1)
          have hop : opX (K i) = 2 ∨ opX (K i) = 3 := by
            rcases kk with e | e | e
            · rw [e]; exact Or.inl rfl
            · rw [e]; exact Or.inr rfl
            · exact absurd e k16
          refine ⟨_, by rw [cds_app, et, cds_r74 hpl s2 hE k16], ?_, by show ¬ (opX (K i) = 17 ∨ opX (K i) = 20); omega, fun z => ?_⟩
          · rw [ep]
            exact stLk_x (by omega) (Or.inr ⟨p, rfl, hp⟩) k1 hro (fun _ => Option.some_ne_none _) (fun z => absurd z (by omega)) so (sOo_so s2 w2 (by omega) n3) sOo_no (fun z => absurd z (by omega)) (fun z => absurd z (by omega)) (fun _ => rfl)
          · rw [ep, hn z]
            exact aft_let (by omega)
    · exact absurd h (by simp)
  · split at h
    · obtain ⟨z, hz, h2⟩ := Option.bind_eq_some_iff.mp h
      obtain ⟨N0, ro, ix, N1, e1, hpl, k1, hix⟩ := pP_f hz
      unfold pan at h2
      cases Option.some.inj h2
      refine ⟨pme t ++ (N1 ++ [(75, i, 0)]), ?_, still_app pme_st (still_app (pPl_st hpl) (st_k (by decide))), ?_⟩
      · show z.2 ++ [(75, i, 0)] = _
        rw [e1]
        simp only [List.append_assoc]
      · intro sN T V E nf hE h8 S k w tk
        obtain ⟨n1, nf⟩ := nf_app nf pme_st
        obtain ⟨n2, -⟩ := nf_app nf (pPl_st hpl)
        obtain ⟨so, hro⟩ := pPl_sO hpl hix (by omega) n2
        obtain ⟨tk', et⟩ := cds_pme (sN := sN) (K := K) (t := t) (E := E) (S := S) (k := k) (w := w) (tk := tk)
        obtain ⟨p, ep, hp, hn⟩ := toL_ok h8 (pme_k n1)
        refine ⟨_, by rw [cds_app, et, cds_r75 hpl hE], ?_, show ¬ (0 = 17 ∨ 0 = 20) by decide, fun z => ?_⟩
        · rw [ep]
          exact stLk_x (by decide) (Or.inr ⟨p, rfl, hp⟩) k1 hro (fun z => absurd rfl z) (fun z => absurd z (by decide)) so sOo_no sOo_no (fun z => absurd z (by decide)) (fun _ => rfl) (fun _ => rfl)
        · rw [ep, hn z]
          exact aft_let (Or.inl rfl)
    · split at h
      · next kk =>
        split at h
        · cases Option.some.inj h
          refine ⟨[pal t i], rfl, ?_, ?_⟩
          · cases t with
            | none => exact st_k (by decide)
            | some a => exact st_k (by decide)
          · intro sN T V E nf hE h8 S k w tk
            have nf := fun z => nf (flt_one.mpr z)
            cases t with
            | none =>
              rw [show cds sN K [pal none i] (E, S, k, ([], [], 0, false, none, tk), w) = cAl sN (E, S, k, ([], [], 0, false, none, tk), w) none tk i from rfl]
              cases ck : kfi sN E.1 i with
              | some p0 =>
                rw [cAl_s ck]
                exact cSe_ok h8 (fun a z => by cases z) (sOo_one kk.1 (by rw [ck]; exact fun z => by cases z))
              | none => exact ⟨_, cAl_n ck, stLk_x (by decide) (Or.inr ⟨_, rfl, Or.inr ⟨rfl, h8 rfl⟩⟩) kk.1 (by simp) (fun z => absurd rfl z) (fun z => absurd z (by decide)) sOo_no sOo_no sOo_no (fun z => absurd z (by decide)) (fun _ => rfl) (fun _ => rfl), show ¬ (0 = 17 ∨ 0 = 20) by decide, fun _ => aft_let (Or.inl rfl)⟩
            | some a =>
              rw [show cds sN K [pal (some a) i] (E, S, k, ([], [], 0, false, none, tk), w) = cAl sN (E, S, k, ([], [], 0, false, none, tk), w) (some a) a i from rfl]
              cases ck : kfi sN E.1 i with
              | some p0 =>
                rw [cAl_s ck]
                exact cSe_ok h8 ht (sOo_one kk.1 (by rw [ck]; exact fun z => by cases z))
              | none =>
                cases ca : kfi sN E.1 a with
                | none => exact absurd (fv_27.mpr (Or.inl ⟨ck, Or.inl ca⟩)) nf
                | some p =>
                  refine ⟨_, cAl_n ck, ?_, show ¬ (0 = 17 ∨ 0 = 20) by decide, fun z => by cases z⟩
                  exact stLk_x (by decide) (Or.inr ⟨p, ca, Or.inl (kfi_lt ca)⟩) kk.1 (by simp) (fun z => absurd rfl z) (fun z => absurd z (by decide)) sOo_no sOo_no sOo_no (fun z => absurd z (by decide)) (fun _ => rfl) (fun _ => rfl)
        · exact absurd h (by simp)
      · obtain ⟨z, hz, h2⟩ := Option.bind_eq_some_iff.mp h
        obtain ⟨N2, e3, s2, w2⟩ := pX_sW hz
        unfold pan at h2
        cases Option.some.inj h2
        refine ⟨pma t ++ ((N2 ++ [(54, 0, 0)]) ++ [(76, i, 0)]), ?_, still_app pma_st (still_app (still_app (sEv_st s2) (st_k (by decide))) (st_k (by decide))), ?_⟩
        · show z.2 ++ [(76, i, 0)] = _
          rw [e3]
          simp only [List.append_assoc]
        · intro sN T V E nf hE h8 S k w tk
          obtain ⟨-, nf⟩ := nf_app nf pma_st
          obtain ⟨n3, -⟩ := nf_app nf (still_app (sEv_st s2) (st_k (by decide)))
          obtain ⟨n3, -⟩ := nf_app n3 (sEv_st s2)
          obtain ⟨tk', et⟩ := cds_pma (sN := sN) (K := K) (t := t) (E := E) (S := S) (k := k) (w := w) (tk := tk)
          rw [cds_app, et, cds_app, cds_x s2 hE, cds_one, cd_76]
          exact cSe_ok h8 ht (sOo_so s2 w2 (by omega) n3)
end PST
end
section
/-! statements, blocks and definitions: what their events make of the code -/
section PSS
variable {K V : Nat → Int32} {sN : Nat → Nat → Bool} {T : gTd} {E : gV} {L M N : gU} {f i c c' c2 z n : Nat} {b b2 : Prop} {S : List gSt} {k : List Nat} {w : List (Nat × Nat) × List (Nat × gU)}
theorem PSt_one (hs : still N) (h : ∀ sN T V E, ¬ flt sN T V N E → ¬ E.2.1 = [] → ∀ S k w, ∃ st, cds sN K N (E, S, k, rg0, w) = (E, S ++ [st], k, rg0, w) ∧ stLk sN K E st ∧ ¬ (st.1 = 17 ∨ st.1 = 20)) : PSt K b c c N := by
  intro sN T V E nf hE hg hc
  rw [exs_still hs]
  refine ⟨⟨rfl, List.suffix_refl _, hg, hc, fun _ => rfl⟩, fun S k w => ?_⟩
  obtain ⟨st, e, hL, ho⟩ := h sN T V E nf hE S k w
  refine ⟨_, e, SG_one hL hg ho ?_⟩
  have a := aft_suf (st := st)
  rw [hL.1] at a
  exact a
theorem PSt_let (hR : PRt K none N) (h8 : c < 8) (hb : ¬ b) {t0 t1 : Nat} : PSt K b c (c + 1) ([(23, t0, 0)] ++ (N ++ [(22, t0, t1)])) := by
  intro sN T V E nf hE hg hc
  have s23 : still [(23, t0, 0)] := st_k (by decide)
  obtain ⟨-, nf⟩ := nf_app nf s23
  obtain ⟨nf, -⟩ := nf_app nf hR.1
  have ex : exs ([(23, t0, 0)] ++ (N ++ [(22, t0, t1)])) E = ((t0, E.2.2) :: E.1, E.2.1, E.2.2 + 1) := by
    rw [exs_app, exs_still s23, exs_app, exs_still hR.1]; rfl
  rw [ex]
  refine ⟨⟨rfl, List.suffix_cons _ _, ⟨List.Pairwise.cons hg.2.1 hg.1, fun s hs => ?_, by show E.2.2 + 1 ≤ 8; omega⟩, by show E.2.2 + 1 = c + 1; rw [hc], fun z => absurd z hb⟩, fun S k w => ?_⟩
  · rcases List.mem_cons.mp hs with e | hs
    · rw [e]; exact Nat.lt_succ_self _
    · exact Nat.lt_succ_of_lt (hg.2.1 s hs)
  · obtain ⟨st, e, hL, ho, ha⟩ := hR.2 sN T V E nf hE (fun _ => by omega) S k w (t0 - 1)
    refine ⟨_, by rw [cds_app, cds_one, cd_23, cds_app, e, cds_one, cd_22]; rfl, SG_one hL hg ho ?_⟩
    rw [ha rfl]
    exact List.suffix_refl _
theorem PSt_set {t a : Nat} (hR : PRt K (some t) N) : PSt K b c c (N ++ [(77, a, 0)]) := PSt_one (still_app hR.1 (st_k (by decide))) (fun sN T V E nf hE S k w => by
  obtain ⟨nf, -⟩ := nf_app nf hR.1
  obtain ⟨st, e, hL, ho, -⟩ := hR.2 sN T V E nf hE (fun z => by cases z) S k w 0
  exact ⟨st, by rw [cds_app, e, cds_one, cd_77], hL, ho⟩)
abbrev psto (K : Nat → Int32) (rS : Nat → Nat → gU → gTs) : Prop := ∀ c i L q, rS c i L = some q → ∃ N, q.2.2 = L ++ N ∧ PSt K (K i = 24) c q.1 N
theorem pS1_f {q : Nat × Nat × gU} (hf : f ≤ 16) (h : pS1 K f c i L = some q) : ∃ N, q.2.2 = L ++ N ∧ PSt K (K i = 24) c q.1 N := by
  unfold pS1 at h
  split at h
  · next k26 =>
    split at h
    · next cc =>
      obtain ⟨r, hr, h2⟩ := Option.bind_eq_some_iff.mp h
      obtain ⟨r1, hr1, h3⟩ := Option.bind_eq_some_iff.mp hr
      obtain ⟨-, -, e3⟩ := pt_is h3
      obtain ⟨N, eN, hN⟩ := pR_f hf (fun a z => by cases z) hr1
      cases Option.some.inj h2
      refine ⟨[(23, i + 1, 0)] ++ (N ++ [(22, i + 1, i)]), ?_, PSt_let hN cc.2.1 (by rw [k26]; decide)⟩
      show r.2 ++ [(22, i + 1, i)] = _
      rw [e3]
      show r1.2 ++ [(22, i + 1, i)] = _
      rw [eN]
      simp only [List.append_assoc]
    · exact absurd h (by simp)
  · split at h
    · next k1 =>
      split at h
      · split at h
        · obtain ⟨r, hr, h2⟩ := Option.bind_eq_some_iff.mp h
          obtain ⟨r1, hr1, h3⟩ := Option.bind_eq_some_iff.mp hr
          obtain ⟨r2, hr2, h4⟩ := Option.bind_eq_some_iff.mp hr1
          obtain ⟨r3, hr3, h5⟩ := Option.bind_eq_some_iff.mp hr2
          obtain ⟨r4, hr4, h6⟩ := Option.bind_eq_some_iff.mp hr3
          obtain ⟨-, -, e3⟩ := pt_is h3
          have h4 : pX K false f r2.1 r2.2 = some r1 := h4
          obtain ⟨-, -, e5⟩ := pt_is h5
          obtain ⟨-, -, e6⟩ := pt_is h6
          obtain ⟨N0, a0, s0, w0⟩ := pX_sW hr4
          obtain ⟨N2, a2, s2, w2⟩ := pX_sW h4
          cases Option.some.inj h2
          refine ⟨[(7, i, 0)] ++ ((N0 ++ [(54, 0, 0)]) ++ ((N2 ++ [(54, 0, 0)]) ++ [(78, i, 0)])), ?_, PSt_one (still_app (st_k (by decide)) (still_app (still_app (sEv_st s0) (st_k (by decide))) (still_app (still_app (sEv_st s2) (st_k (by decide))) (st_k (by decide))))) (fun sN T V E nf hE S k w => ?_)⟩
          · show r.2 ++ [(78, i, 0)] = _
            rw [e3]
            show r1.2 ++ [(78, i, 0)] = _
            rw [a2, e5]
            show (r3.2 ++ (N2 ++ [(54, 0, 0)])) ++ [(78, i, 0)] = _
            rw [e6]
            show (r4.2 ++ (N2 ++ [(54, 0, 0)])) ++ [(78, i, 0)] = _
            rw [a0]
            simp only [List.append_assoc]
          · obtain ⟨-, nf⟩ := nf_app nf (st_k (by decide))
            obtain ⟨n0, nf⟩ := nf_app nf (still_app (sEv_st s0) (st_k (by decide)))
            obtain ⟨n0, -⟩ := nf_app n0 (sEv_st s0)
            obtain ⟨n2, -⟩ := nf_app nf (still_app (sEv_st s2) (st_k (by decide)))
            obtain ⟨n2, -⟩ := nf_app n2 (sEv_st s2)
            refine ⟨_, by rw [cds_app, cds_one, cd_7 hE, cds_app, cds_x s0 hE, cds_app, cds_x s2 hE, cds_one, cd_78], ?_, show ¬ (1 = 17 ∨ 1 = 20) by decide⟩
            exact stLk_x (by decide) (Or.inl rfl) k1 (by simp) (fun _ => Option.some_ne_none _) (fun z => absurd z (by decide)) (sOo_so s0 w0 (by omega) n0) (sOo_so s2 w2 (by omega) n2) sOo_no (fun _ => rfl) (fun z => absurd z (by decide)) (fun _ => rfl)
        · exact absurd h (by simp)
      · split at h
        · obtain ⟨r, hr, h2⟩ := Option.bind_eq_some_iff.mp h
          obtain ⟨r1, hr1, h3⟩ := Option.bind_eq_some_iff.mp hr
          obtain ⟨-, -, e3⟩ := pt_is h3
          obtain ⟨N, eN, hN⟩ := pR_f hf (fun a z => by cases Option.some.inj z; exact k1) hr1
          cases Option.some.inj h2
          refine ⟨N ++ [(77, i, 0)], ?_, PSt_set hN⟩
          show r.2 ++ [(77, i, 0)] = _
          rw [e3]
          show r1.2 ++ [(77, i, 0)] = _
          rw [eN, List.append_assoc]
        · exact absurd h (by simp)
    · split at h
      · next kk =>
        obtain ⟨r, hr, h2⟩ := Option.bind_eq_some_iff.mp h
        obtain ⟨-, -, e3⟩ := pt_is hr
        cases Option.some.inj h2
        refine ⟨[(68, i, 0)], by show r.2 ++ _ = _; rw [e3], PSt_one (st_k (by decide)) (fun sN T V E nf hE S k w => ⟨_, by rw [cds_one, cd_68], stLk_p ?_ (fun _ => rfl), ?_⟩)⟩
        · unfold opP
          split
          · exact Or.inl rfl
          · split
            · exact Or.inr (Or.inl rfl)
            · exact Or.inr (Or.inr (Or.inl rfl))
        · show ¬ (opP (K i) = 17 ∨ opP (K i) = 20)
          unfold opP
          split
          · decide
          · split <;> decide
      · split at h
        · obtain ⟨r, hr, h2⟩ := Option.bind_eq_some_iff.mp h
          obtain ⟨r1, hr1, h3⟩ := Option.bind_eq_some_iff.mp hr
          obtain ⟨-, -, e3⟩ := pt_is h3
          obtain ⟨N0, a0, s0, w0⟩ := pX_sW hr1
          cases Option.some.inj h2
          refine ⟨(N0 ++ [(54, 0, 0)]) ++ [(69, i, 0)], ?_, PSt_one (still_app (still_app (sEv_st s0) (st_k (by decide))) (st_k (by decide))) (fun sN T V E nf hE S k w => ?_)⟩
          · show r.2 ++ [(69, i, 0)] = _
            rw [e3]
            show r1.2 ++ [(69, i, 0)] = _
            rw [a0, List.append_assoc]
          · obtain ⟨n0, -⟩ := nf_app nf (still_app (sEv_st s0) (st_k (by decide)))
            obtain ⟨n0, -⟩ := nf_app n0 (sEv_st s0)
            have ho : opS (K i) = 14 ∨ opS (K i) = 18 := by
              unfold opS
              split
              · exact Or.inr rfl
              · exact Or.inl rfl
            exact ⟨(opS (K i), i, knw E, none, none, false, none, some N0, none), by rw [cds_app, cds_x s0 hE, cds_one, cd_69]; rfl, stLk_s (by omega) (sOo_so s0 w0 (by omega) n0), by show ¬ (opS (K i) = 17 ∨ opS (K i) = 20); omega⟩
        · split at h
          · split at h
            · next cc =>
              obtain ⟨r, hr, h2⟩ := Option.bind_eq_some_iff.mp h
              obtain ⟨r1, hr1, h3⟩ := Option.bind_eq_some_iff.mp hr
              obtain ⟨-, -, e3⟩ := pt_is h3
              obtain ⟨N0, a0, s0, w0⟩ := pX_sW hr1
              cases Option.some.inj h2
              refine ⟨(N0 ++ [(54, 0, 0)]) ++ [(70, i, i + 1)], ?_, PSt_one (still_app (still_app (sEv_st s0) (st_k (by decide))) (st_k (by decide))) (fun sN T V E nf hE S k w => ?_)⟩
              · show r.2 ++ [(70, i, i + 1)] = _
                rw [e3]
                show r1.2 ++ [(70, i, i + 1)] = _
                rw [a0, List.append_assoc]
              · obtain ⟨n0, -⟩ := nf_app nf (still_app (sEv_st s0) (st_k (by decide)))
                obtain ⟨n0, -⟩ := nf_app n0 (sEv_st s0)
                exact ⟨(13, i, knw E, none, some (i + 1), false, none, some N0, none), by rw [cds_app, cds_x s0 hE, cds_one, cd_70]; rfl, stLk_13 cc.1.1 (sOo_so s0 w0 (by omega) n0), show ¬ (13 = 17 ∨ 13 = 20) by decide⟩
            · exact absurd h (by simp)
          · have hop : ∀ k, 5 ≤ opW k ∧ opW k ≤ 10 := fun k => by
              unfold opW
              split
              · decide
              · split
                · decide
                · split
                  · decide
                  · split
                    · decide
                    · split <;> decide
            split at h
            · split at h
              · next cc =>
                obtain ⟨r, hr, h2⟩ := Option.bind_eq_some_iff.mp h
                obtain ⟨-, -, e3⟩ := pt_is hr
                cases Option.some.inj h2
                exact ⟨[(66, i, i + 1)], by show r.2 ++ _ = _; rw [e3], PSt_one (st_k (by decide)) (fun sN T V E nf hE S k w => ⟨_, by rw [cds_one, cd_66], stLk_w (hop _) cc.1, by show ¬ (opW (K i) = 17 ∨ opW (K i) = 20); have := hop (K i); omega⟩)⟩
              · exact absurd h (by simp)
            · split at h
              · split at h
                · next cc =>
                  obtain ⟨r, hr, h2⟩ := Option.bind_eq_some_iff.mp h
                  obtain ⟨-, -, e3⟩ := pt_is hr
                  cases Option.some.inj h2
                  exact ⟨[(67, i, i + 1)], by show r.2 ++ _ = _; rw [e3], PSt_one (st_k (by decide)) (fun sN T V E nf hE S k w => ⟨_, by rw [cds_one, cd_67], stLk_w (hop _) cc.1, by show ¬ (opW (K i) = 17 ∨ opW (K i) = 20); have := hop (K i); omega⟩)⟩
                · exact absurd h (by simp)
              · exact absurd h (by simp)
theorem PSt_nil : PSt K b c c [] := fun sN T V E nf hE hg hc => ⟨⟨rfl, List.suffix_refl _, hg, hc, fun _ => rfl⟩, fun S k w => ⟨S, rfl, SGx_rf⟩⟩
theorem PSt_app (h : PSt K b c c' M) (g : PSt K b2 c' c2 N) : PSt K False c c2 (M ++ N) := by
  intro sN T V E nf hE hg hc
  rw [flt_app] at nf
  obtain ⟨⟨h1, h2, h3, h4, -⟩, h6⟩ := h sN T V E (fun z => nf (Or.inl z)) hE hg hc
  obtain ⟨⟨g1, g2, g3, g4, -⟩, g6⟩ := g sN T V (exs M E) (fun z => nf (Or.inr z)) (by rw [h1]; exact hE) h3 h4
  rw [exs_app]
  refine ⟨⟨g1.trans h1, h2.trans g2, g3, g4, fun z => z.elim⟩, fun S k w => ?_⟩
  obtain ⟨S1, e1, s1⟩ := h6 S k w
  obtain ⟨S2, e2, s2⟩ := g6 S1 k w
  exact ⟨S2, by rw [cds_app, e1, e2], SGx_tr s1 s2⟩
theorem pBl_f {rS : Nat → Nat → gU → gTs} (hr : psto K rS) : ∀ (n c i : Nat) (L : gU) (q : Nat × Nat × gU), pBl rS K z n c i L = some q → ∃ N, q.2.2 = L ++ (N ++ [(21, z, 0)]) ∧ PSt K False c q.1 N := by
  intro n
  induction n with
  | zero => intro c i L q h; exact absurd h (by simp [pBl])
  | succ n ih =>
    intro c i L q h
    rw [pBl] at h
    split at h
    · split at h
      · cases Option.some.inj h
        exact ⟨[], rfl, PSt_nil⟩
      · exact absurd h (by simp)
    · obtain ⟨y, hy, h2⟩ := Option.bind_eq_some_iff.mp h
      obtain ⟨M, eM, hM⟩ := hr _ _ _ _ hy
      obtain ⟨N, eN, hN⟩ := ih _ _ _ _ h2
      exact ⟨M ++ N, by rw [eN, eM]; simp only [List.append_assoc], PSt_app hM hN⟩
/-- a block, but for what its end adds -/
def PBt (K : Nat → Int32) (z c c' : Nat) (N : gU) : Prop := ∀ sN T V E, ¬ flt sN T V N E → gEe E → E.2.2 = c → gEe (E.1, E.2.1, c') ∧ exs N E = (E.1, E.2.1, c') ∧ ∀ S k w, ∃ S', cds sN K N (E, S, k, rg0, w) = cCl ((E.1, E.2.1, c'), S', k, rg0, w) z ∧ SG sN K E S (E.1, E.2.1, c') S'
theorem pBk_f {rS : Nat → Nat → gU → gTs} (hr : psto K rS) {q : Nat × Nat × gU} (h : pBk rS K z c i L = some q) : ∃ N, q.2.2 = L ++ N ∧ PBt K z c q.1 N := by
  unfold pBk at h
  split at h
  · obtain ⟨N, eN, hN⟩ := pBl_f hr _ _ _ _ _ h
    refine ⟨[(20, z, 0)] ++ (N ++ [(21, z, 0)]), by rw [eN, List.append_assoc], fun sN T V E nf hg hc => ?_⟩
    obtain ⟨E1, eE1⟩ : ∃ E1 : gV, E1 = (E.1, E.1.length :: E.2.1, E.2.2) := ⟨_, rfl⟩
    have x1 : exs [(20, z, 0)] E = E1 := by rw [eE1]; rfl
    rw [flt_app, x1, flt_app] at nf
    have hg1 : gEe E1 := by rw [eE1]; exact hg
    obtain ⟨⟨h1, h2, h3, h4, -⟩, h6⟩ := hN sN T V E1 (fun z => nf (Or.inr (Or.inl z))) (by rw [eE1]; exact List.cons_ne_nil _ _) hg1 (by rw [eE1]; exact hc)
    have h1 : (exs N E1).2.1 = E.1.length :: E.2.1 := by rw [h1, eE1]
    have h2 : E.1 <:+ (exs N E1).1 := by rw [eE1] at h2 ⊢; exact h2
    have x2 : exV (exs N E1) (21, z, 0) = (E.1, E.2.1, q.1) := by
      show ((exs N E1).1.drop ((exs N E1).1.length - (exs N E1).2.1.headD 0), (exs N E1).2.1.tail, (exs N E1).2.2) = _
      rw [h1, h4]
      show ((exs N E1).1.drop ((exs N E1).1.length - E.1.length), E.2.1, q.1) = _
      rw [← List.suffix_iff_eq_drop.mp h2]
    have x3 : exs ([(20, z, 0)] ++ (N ++ [(21, z, 0)])) E = (E.1, E.2.1, q.1) := by rw [exs_app, x1, exs_app, exs_one, x2]
    have sl2 : slK E.1 <:+ slK (exs N E1).1 := h2.map _
    refine ⟨⟨hg.1, fun s hs => ?_, by rw [← h4]; exact h3.2.2⟩, x3, fun S k w => ?_⟩
    · have := h3.2.1 s (sl2.subset hs)
      rw [h4] at this
      exact this
    · obtain ⟨S', e, hS⟩ := h6 S k w
      refine ⟨S', ?_, SGx_ex (E1 := exs N E1) (SGx_en (E0 := E) hS (by rw [eE1])) sl2⟩
      rw [cds_app, cds_one, cd_20]
      have x1 : exV E (20, z, 0) = E1 := x1
      rw [x1, cds_app, e, cds_one, cd_21, x2]
  · exact absurd h (by simp)
theorem cCl_no {cc : gCd} (h : z = 3 ∨ z = 4) : cCl cc z = cc := by
  unfold cCl
  rw [if_neg (by omega), if_neg (by omega), if_neg (by omega)]
/-- the test is laid -/
theorem SG_test {N0 : gU} (hg : gEe E) (so : sOo sN K E (some N0)) : SGx sN K (fun j => j = S.length) E S E (S ++ [(17, i, knw E, none, none, false, none, some N0, none)]) :=
  SGx_add (X := fun _ => False) (E1 := E) SGx_rf (fun _ z => z.elim) (List.suffix_refl _) (fun z => absurd rfl z) ⟨E, stLk_s (Or.inr (Or.inl rfl)) so, hg⟩
theorem pS_f : ∀ f : Nat, f ≤ 16 → psto K (pS K f) := by
  intro f
  induction f with
  | zero => intro _ c i L q h; exact absurd h (by simp [pS])
  | succ f ih =>
    intro hf c i L q h
    have ih := ih (by omega)
    rw [pS] at h
    split at h
    · exact absurd h (by simp)
    · split at h
      · next k24 =>
        obtain ⟨r0, hr0, h0⟩ := Option.bind_eq_some_iff.mp h
        obtain ⟨r1, hr1, h1⟩ := Option.bind_eq_some_iff.mp h0
        obtain ⟨r2, hr2, h2⟩ := Option.bind_eq_some_iff.mp hr1
        obtain ⟨N0, a0, s0, w0⟩ := pX_sW hr0
        obtain ⟨B, eB, hB⟩ := pBk_f ih hr2
        unfold pfi at h1
        cases Option.some.inj h1
        unfold pEl at h2
        have p54 : still (N0 ++ [(54, 0, 0)]) := still_app (sEv_st s0) (st_k (by decide))
        have s60 : still [(60, i, 0)] := st_k (by decide)
        split at h2
        · split at h2
          · -- else
            have els : ∃ M, r1.2.2 = (r2.2.2 ++ [(62, r2.2.1, 0)]) ++ M ∧ ∀ sN T V (E : gV), ¬ flt sN T V M E → ¬ E.2.1 = [] → gEe E → E.2.2 = r2.1 → ((exs M E).2.1 = E.2.1 ∧ (exs M E).1 = E.1 ∧ gEe (exs M E) ∧ (exs M E).2.2 = r1.1) ∧ ∀ S k w, ∃ S', cds sN K M (E, S, k, rg0, w) = (exs M E, S', k, rg0, w) ∧ SG sN K E S (exs M E) S' := by
              split at h2
              · next kk =>
                obtain ⟨M, eM, hM⟩ := ih _ _ _ _ h2
                refine ⟨M, eM, fun sN T V E nf hE hg hc => ?_⟩
                obtain ⟨⟨g1, g2, g3, g4, g5⟩, g6⟩ := hM sN T V E nf hE hg hc
                exact ⟨⟨g1, g5 kk, g3, g4⟩, g6⟩
              · obtain ⟨M, eM, hM⟩ := pBk_f ih h2
                refine ⟨M, eM, fun sN T V E nf hE hg hc => ?_⟩
                obtain ⟨g1, g2, g3⟩ := hM sN T V E nf hg hc
                rw [g2]
                refine ⟨⟨rfl, rfl, g1, rfl⟩, fun S k w => ?_⟩
                obtain ⟨S', e, hS⟩ := g3 S k w
                exact ⟨S', by rw [e, cCl_no (Or.inr rfl)], hS⟩
            obtain ⟨M, eM, hM⟩ := els
            have s62 : still [(62, r2.2.1, 0)] := st_k (by decide)
            refine ⟨(N0 ++ [(54, 0, 0)]) ++ ([(60, i, 0)] ++ (B ++ ([(62, r2.2.1, 0)] ++ (M ++ [(63, 0, 0)])))), ?_, ?_⟩
            · show r1.2.2 ++ [(63, 0, 0)] = _
              rw [eM, eB, a0]
              simp only [List.append_assoc]
            · intro sN T V E nf hE hg hc
              obtain ⟨n0, nf⟩ := nf_app nf p54
              obtain ⟨n0, -⟩ := nf_app n0 (sEv_st s0)
              obtain ⟨-, nf⟩ := nf_app nf s60
              rw [flt_app] at nf
              obtain ⟨b1, b2, b3⟩ := hB sN T V E (fun z => nf (Or.inl z)) hg hc
              rw [b2] at nf
              have nf := fun z => nf (Or.inr z)
              obtain ⟨-, nf⟩ := nf_app nf s62
              rw [flt_app] at nf
              obtain ⟨⟨m1, m2, m3, m4⟩, m5⟩ := hM sN T V (E.1, E.2.1, r2.1) (fun z => nf (Or.inl z)) hE b1 rfl
              have ex : exs ((N0 ++ [(54, 0, 0)]) ++ ([(60, i, 0)] ++ (B ++ ([(62, r2.2.1, 0)] ++ (M ++ [(63, 0, 0)]))))) E = exs M (E.1, E.2.1, r2.1) := by
                rw [exs_app, exs_still p54, exs_app, exs_still s60, exs_app, b2, exs_app, exs_still s62, exs_app, exs_still (E := exs M (E.1, E.2.1, r2.1)) (st_k (by decide))]
              rw [ex]
              refine ⟨⟨m1, by rw [m2]; exact List.suffix_refl _, m3, m4, fun _ => m2⟩, fun S k w => ?_⟩
              have g0 := SG_test (i := i) (S := S) hg (sOo_so s0 w0 (by omega) n0)
              obtain ⟨S2, e2, g2⟩ := b3 (S ++ [(17, i, knw E, none, none, false, none, some N0, none)]) (S.length :: k) w
              rw [cCl_no (Or.inl rfl)] at e2
              have g3 := SGx_tr g0 g2
              have lS1 : (S ++ [((17, i, knw E, none, none, false, none, some N0, none) : gSt)]).length = S.length + 1 := by rw [List.length_append]; rfl
              have at1 : S2[S.length]? = some (17, i, knw E, none, none, false, none, some N0, none) := by
                rw [g2.1.2 S.length (by omega)]; exact snA
              have lt2 : S.length < S2.length := gt_lt at1
              -- the jump behind the block
              have g4 : SGx sN K (fun j => j = S.length ∨ j = S2.length) E S (E.1, E.2.1, r2.1) (S2 ++ [(20, 0, knw (E.1, E.2.1, r2.1), none, none, false, none, none, none)]) := SGx_add g3 (fun j z => Or.inl z) (List.suffix_refl _) (fun z => absurd (Or.inr rfl) z) ⟨_, stLk_p (by decide) (fun z => absurd rfl z), b1⟩
              have n1 := g2.2.1
              rw [lS1] at n1
              have lJ : (S2 ++ [((20, 0, knw (E.1, E.2.1, r2.1), none, none, false, none, none, none) : gSt)]).length = S2.length + 1 := by rw [List.length_append]; rfl
              have ent : nxO (S2 ++ [(20, 0, knw (E.1, E.2.1, r2.1), none, none, false, none, none, none)]) (E.1, E.2.1, r2.1) S2.length (slK E.1) := Or.inl ⟨_, snA, List.suffix_refl _⟩
              have g5 : SGx sN K (fun j => j = S2.length) E S (E.1, E.2.1, r2.1) (cTo (S2 ++ [(20, 0, knw (E.1, E.2.1, r2.1), none, none, false, none, none, none)]) S.length (S2.length + 1)) :=
                SGx_cl g4 (Nat.le_refl _) (by rw [List.getElem?_append_left lt2]; exact at1) (Or.inl rfl) (Or.inr ⟨lJ.symm, List.suffix_refl _⟩) (fun _ => nxO_up n1 xtS_sn ent) (fun j z => z)
              obtain ⟨S4, e4, g6⟩ := m5 (cTo (S2 ++ [(20, 0, knw (E.1, E.2.1, r2.1), none, none, false, none, none, none)]) S.length (S2.length + 1)) (S2.length :: k) w
              have g7 := SGx_tr g5 g6
              have at4 : S4[S2.length]? = some (20, 0, knw (E.1, E.2.1, r2.1), none, none, false, none, none, none) := by
                rw [g6.1.2 S2.length (by rw [cTo_len, lJ]; omega), cTo_at, snA]
                show some (if S2.length = S.length then _ else _) = _
                rw [if_neg (by omega)]
              have g8 : SG sN K E S (exs M (E.1, E.2.1, r2.1)) (cTo S4 S2.length S4.length) := SGx_cl g7 (by omega) at4 (Or.inr rfl) (Or.inr ⟨rfl, by rw [m2]; exact List.suffix_refl _⟩) (fun z => absurd z (show ¬ 20 = 17 by decide)) (fun j z => Or.inl z)
              refine ⟨_, ?_, g8⟩
              rw [cds_app, cds_x s0 hE, cds_app, cds_one, cd_60]
              show cds sN K (B ++ ([(62, r2.2.1, 0)] ++ (M ++ [(63, 0, 0)]))) (E, S ++ [(17, i, knw E, none, none, false, none, some N0, none)], S.length :: k, rg0, w) = _
              rw [cds_app, e2, cds_app, cds_one, cd_62]
              show cds sN K (M ++ [(63, 0, 0)]) ((E.1, E.2.1, r2.1), cTo (S2 ++ [(20, 0, knw (E.1, E.2.1, r2.1), none, none, false, none, none, none)]) S.length (S2.length + 1), S2.length :: k, rg0, w) = _
              rw [cds_app, e4, cds_one, cd_63]
              rfl
          · exact absurd h2 (by simp)
        · cases Option.some.inj h2
          refine ⟨(N0 ++ [(54, 0, 0)]) ++ ([(60, i, 0)] ++ (B ++ [(63, 0, 0)])), ?_, ?_⟩
          · show r1.2.2 ++ [(63, 0, 0)] = _
            rw [eB, a0]
            simp only [List.append_assoc]
          · intro sN T V E nf hE hg hc
            obtain ⟨n0, nf⟩ := nf_app nf p54
            obtain ⟨n0, -⟩ := nf_app n0 (sEv_st s0)
            obtain ⟨-, nf⟩ := nf_app nf s60
            rw [flt_app] at nf
            obtain ⟨b1, b2, b3⟩ := hB sN T V E (fun z => nf (Or.inl z)) hg hc
            have ex : exs ((N0 ++ [(54, 0, 0)]) ++ ([(60, i, 0)] ++ (B ++ [(63, 0, 0)]))) E = (E.1, E.2.1, r1.1) := by
              rw [exs_app, exs_still p54, exs_app, exs_still s60, exs_app, b2, exs_still (st_k (by decide))]
            rw [ex]
            refine ⟨⟨rfl, List.suffix_refl _, b1, rfl, fun _ => rfl⟩, fun S k w => ?_⟩
            have g0 := SG_test (i := i) (S := S) hg (sOo_so s0 w0 (by omega) n0)
            obtain ⟨S2, e2, g2⟩ := b3 (S ++ [(17, i, knw E, none, none, false, none, some N0, none)]) (S.length :: k) w
            rw [cCl_no (Or.inl rfl)] at e2
            have g3 := SGx_tr g0 g2
            have lS1 : (S ++ [((17, i, knw E, none, none, false, none, some N0, none) : gSt)]).length = S.length + 1 := by rw [List.length_append]; rfl
            have at1 : S2[S.length]? = some (17, i, knw E, none, none, false, none, some N0, none) := by
              rw [g2.1.2 S.length (by omega)]; exact snA
            have n1 := g2.2.1
            rw [lS1] at n1
            have g8 : SG sN K E S (E.1, E.2.1, r1.1) (cTo S2 S.length S2.length) := SGx_cl g3 (Nat.le_refl _) at1 (Or.inl rfl) (Or.inr ⟨rfl, List.suffix_refl _⟩) (fun _ => n1) (fun j z => Or.inl z)
            refine ⟨_, ?_, g8⟩
            rw [cds_app, cds_x s0 hE, cds_app, cds_one, cd_60]
            show cds sN K (B ++ [(63, 0, 0)]) (E, S ++ [(17, i, knw E, none, none, false, none, some N0, none)], S.length :: k, rg0, w) = _
            rw [cds_app, e2, cds_one, cd_63]
            rfl
      · next n24 =>
        split at h
        · -- while
          obtain ⟨r0, hr0, h0⟩ := Option.bind_eq_some_iff.mp h
          obtain ⟨N0, a0, s0, w0⟩ := pX_sW hr0
          obtain ⟨B, eB, hB⟩ := pBk_f ih h0
          have p54 : still (N0 ++ [(54, 0, 0)]) := still_app (sEv_st s0) (st_k (by decide))
          have s61 : still [(61, i, 0)] := st_k (by decide)
          refine ⟨(N0 ++ [(54, 0, 0)]) ++ ([(61, i, 0)] ++ B), ?_, ?_⟩
          · rw [eB, a0]
            simp only [List.append_assoc]
          · intro sN T V E nf hE hg hc
            obtain ⟨n0, nf⟩ := nf_app nf p54
            obtain ⟨n0, -⟩ := nf_app n0 (sEv_st s0)
            obtain ⟨-, nf⟩ := nf_app nf s61
            obtain ⟨b1, b2, b3⟩ := hB sN T V E nf hg hc
            have ex : exs ((N0 ++ [(54, 0, 0)]) ++ ([(61, i, 0)] ++ B)) E = (E.1, E.2.1, q.1) := by
              rw [exs_app, exs_still p54, exs_app, exs_still s61, b2]
            rw [ex]
            refine ⟨⟨rfl, List.suffix_refl _, b1, rfl, fun _ => rfl⟩, fun S k w => ?_⟩
            have g0 := SG_test (i := i) (S := S) hg (sOo_so s0 w0 (by omega) n0)
            obtain ⟨S2, e2, g2⟩ := b3 (S ++ [(17, i, knw E, none, none, false, none, some N0, none)]) (S.length :: k) w
            have g3 := SGx_tr g0 g2
            have lS1 : (S ++ [((17, i, knw E, none, none, false, none, some N0, none) : gSt)]).length = S.length + 1 := by rw [List.length_append]; rfl
            have at1 : S2[S.length]? = some (17, i, knw E, none, none, false, none, some N0, none) := by
              rw [g2.1.2 S.length (by omega)]; exact snA
            have lt2 : S.length < S2.length := gt_lt at1
            have n1 := g2.2.1
            rw [lS1] at n1
            have lJ : (S2 ++ [((20, 0, knw (E.1, E.2.1, q.1), some S.length, none, false, none, none, none) : gSt)]).length = S2.length + 1 := by rw [List.length_append]; rfl
            have at2 : (S2 ++ [((20, 0, knw (E.1, E.2.1, q.1), some S.length, none, false, none, none, none) : gSt)])[S.length]? = some (17, i, knw E, none, none, false, none, some N0, none) := by
              rw [List.getElem?_append_left lt2]; exact at1
            have g4 : SGx sN K (fun j => j = S.length) E S (E.1, E.2.1, q.1) (S2 ++ [(20, 0, knw (E.1, E.2.1, q.1), some S.length, none, false, none, none, none)]) := SGx_add g3 (fun j z => z) (List.suffix_refl _) (fun _ => ⟨fun z => absurd (Or.inl rfl) z, fun _ => ⟨S.length, rfl, Or.inl ⟨_, at2, List.suffix_refl _⟩⟩⟩) ⟨_, stLk_p (by decide) (fun z => absurd rfl z), b1⟩
            have ent : nxO (S2 ++ [(20, 0, knw (E.1, E.2.1, q.1), some S.length, none, false, none, none, none)]) (E.1, E.2.1, q.1) S2.length (slK E.1) := Or.inl ⟨_, snA, List.suffix_refl _⟩
            have g8 : SG sN K E S (E.1, E.2.1, q.1) (cTo (S2 ++ [(20, 0, knw (E.1, E.2.1, q.1), some S.length, none, false, none, none, none)]) S.length (S2.length + 1)) :=
              SGx_cl g4 (Nat.le_refl _) at2 (Or.inl rfl) (Or.inr ⟨lJ.symm, List.suffix_refl _⟩) (fun _ => nxO_up n1 xtS_sn ent) (fun j z => Or.inl z)
            refine ⟨_, ?_, g8⟩
            rw [cds_app, cds_x s0 hE, cds_app, cds_one, cd_61]
            show cds sN K B (E, S ++ [(17, i, knw E, none, none, false, none, some N0, none)], S.length :: k, rg0, w) = _
            rw [e2]
            rfl
        · split at h
          · split at h
            · next kk =>
              obtain ⟨B, eB, hB⟩ := pBk_f ih h
              have s65 : still [(65, i, i + 1)] := st_k (by decide)
              refine ⟨[(65, i, i + 1)] ++ B, by rw [eB, List.append_assoc], ?_⟩
              intro sN T V E nf hE hg hc
              obtain ⟨-, nf⟩ := nf_app nf s65
              obtain ⟨b1, b2, b3⟩ := hB sN T V E nf hg hc
              rw [exs_app, exs_still s65, b2]
              refine ⟨⟨rfl, List.suffix_refl _, b1, rfl, fun _ => rfl⟩, fun S k w => ?_⟩
              have hL : stLk sN K E (5, i, knw E, none, some (i + 1), false, none, none, none) := stLk_w (by decide) kk.1
              have g0 : SG sN K E S E (S ++ [(5, i, knw E, none, some (i + 1), false, none, none, none)]) := SG_one hL hg (show ¬ (5 = 17 ∨ 5 = 20) by decide) (aft_suf (st := (5, i, knw E, none, some (i + 1), false, none, none, none)))
              obtain ⟨S2, e2, g2⟩ := b3 (S ++ [(5, i, knw E, none, some (i + 1), false, none, none, none)]) (S.length :: k) w
              have g3 := SGx_tr g0 g2
              have at1 : S2[S.length]? = some (5, i, knw E, none, some (i + 1), false, none, none, none) := by
                rw [g2.1.2 S.length (by rw [List.length_append]; exact Nat.lt_succ_self _)]; exact snA
              have lJ : (S2 ++ [((6, i, knw (E.1, E.2.1, q.1), none, some (i + 1), false, none, none, none) : gSt)]).length = S2.length + 1 := by rw [List.length_append]; rfl
              have g4 : SG sN K E S (E.1, E.2.1, q.1) (S2 ++ [(6, i, knw (E.1, E.2.1, q.1), none, some (i + 1), false, none, none, none)]) := SGx_add g3 (fun j z => z) (List.suffix_refl _) (fun _ => ⟨fun _ => Or.inr ⟨lJ.symm, aft_suf (st := (6, i, knw (E.1, E.2.1, q.1), none, some (i + 1), false, none, none, none))⟩, fun z => absurd z (show ¬ (6 = 17 ∨ 6 = 20) by decide)⟩) ⟨_, stLk_w (by decide) kk.1, b1⟩
              refine ⟨_, ?_, g4⟩
              rw [cds_app, cds_one, cd_65, e2]
              show (_, S2 ++ [(6, (gtS S2 S.length).2.1, knw (E.1, E.2.1, q.1), none, (gtS S2 S.length).2.2.2.2.1, false, none, none, none)], k, rg0, w) = _
              unfold gtS
              rw [at1]
              rfl
            · exact absurd h (by simp)
          · exact pS1_f (by omega) h
end PSS
end
