/-! where the steps of a text go, and what is known there -/
def slK (ks : gK) : List Nat := ks.map Prod.snd
/-- the slots known behind a step -/
def aft (st : gSt) : List Nat := if (st.1 = 0 ∨ (2 ≤ st.1 ∧ st.1 ≤ 4) ∨ st.1 = 16) ∧ st.2.2.2.1 = some st.2.2.1.1.length then st.2.2.1.2 :: slK st.2.2.1.1 else slK st.2.2.1.1
def gEe (E : gV) : Prop := (slK E.1).Pairwise (fun a b => b < a) ∧ (∀ s ∈ slK E.1, s < E.2.2) ∧ E.2.2 ≤ 8
/-- at n goes on what knows no more than a: a step, or what comes behind them all -/
def nxO (S : List gSt) (E : gV) (n : Nat) (a : List Nat) : Prop := (∃ st, S[n]? = some st ∧ slK st.2.2.1.1 <:+ a) ∨ (n = S.length ∧ slK E.1 <:+ a)
def flO (S : List gSt) (E : gV) (j : Nat) (st : gSt) : Prop := (¬ (st.1 = 20 ∨ st.1 = 21) → nxO S E (j + 1) (aft st)) ∧ (st.1 = 17 ∨ st.1 = 20 → ∃ n, st.2.2.2.1 = some n ∧ nxO S E n (slK st.2.2.1.1))
def SGx (sN : Nat → Nat → Bool) (K : Nat → Int32) (X : Nat → Prop) (E : gV) (S : List gSt) (E' : gV) (S' : List gSt) : Prop := xtS S S' ∧ nxO S' E' S.length (slK E.1) ∧ ∀ j st, S.length ≤ j → S'[j]? = some st → (¬ X j → flO S' E' j st) ∧ ∃ E0, stLk sN K E0 st ∧ gEe E0
abbrev SG (sN : Nat → Nat → Bool) (K : Nat → Int32) (E : gV) (S : List gSt) (E' : gV) (S' : List gSt) : Prop := SGx sN K (fun _ => False) E S E' S'
section FLW
variable {K V : Nat → Int32} {sN : Nat → Nat → Bool} {T : gTd} {X X' : Nat → Prop} {E E0 E1 E2 E' : gV} {S S1 S2 S' : List gSt} {st : gSt} {a b : List Nat} {i j n m : Nat}
theorem aft_suf : slK st.2.2.1.1 <:+ aft st := by
  unfold aft
  split
  · exact List.suffix_cons _ _
  · exact List.suffix_refl _
theorem aft_no (h : ¬ (st.1 = 0 ∨ (2 ≤ st.1 ∧ st.1 ≤ 4) ∨ st.1 = 16)) : aft st = slK st.2.2.1.1 := if_neg (fun c => h c.1)
theorem aft_let {op tk : Nat} {ob : Option Nat} {fl : Bool} {ix e1 e2 : Option gU} (h : op = 0 ∨ (2 ≤ op ∧ op ≤ 4) ∨ op = 16) : aft (op, tk, knw E, some E.1.length, ob, fl, ix, e1, e2) = E.2.2 :: slK E.1 := if_pos ⟨h, rfl⟩
theorem nxO_up (h : nxO S E n a) (x : xtS S S') (e : nxO S' E' S.length (slK E.1)) : nxO S' E' n a := by
  rcases h with ⟨st, h1, h2⟩ | ⟨h1, h2⟩
  · exact Or.inl ⟨st, by rw [x.2 n (gt_lt h1)]; exact h1, h2⟩
  · subst h1
    rcases e with ⟨st, e1, e2⟩ | ⟨e1, e2⟩
    · exact Or.inl ⟨st, e1, e2.trans h2⟩
    · exact Or.inr ⟨e1, e2.trans h2⟩
theorem nxO_to (h : nxO S E m a) : nxO (cTo S i n) E m a := by
  rcases h with ⟨st, h1, h2⟩ | ⟨h1, h2⟩
  · refine Or.inl ⟨if m = i then stS st n else st, by rw [cTo_at, h1]; rfl, ?_⟩
    split <;> exact h2
  · exact Or.inr ⟨by rw [cTo_len]; exact h1, h2⟩
theorem nxO_x (h : nxO S E n a) (w : slK E'.1 <:+ slK E.1) : nxO S E' n a := by
  rcases h with h | ⟨h1, h2⟩
  · exact Or.inl h
  · exact Or.inr ⟨h1, w.trans h2⟩
theorem flO_up (h : flO S E j st) (x : xtS S S') (e : nxO S' E' S.length (slK E.1)) : flO S' E' j st := ⟨fun c => nxO_up (h.1 c) x e, fun c => by
  obtain ⟨n, h1, h2⟩ := h.2 c
  exact ⟨n, h1, nxO_up h2 x e⟩⟩
theorem flO_to (h : flO S E j st) : flO (cTo S i n) E j st := ⟨fun c => nxO_to (h.1 c), fun c => by
  obtain ⟨n, h1, h2⟩ := h.2 c
  exact ⟨n, h1, nxO_to h2⟩⟩
theorem flO_x (h : flO S E j st) (w : slK E'.1 <:+ slK E.1) : flO S E' j st := ⟨fun c => nxO_x (h.1 c) w, fun c => by
  obtain ⟨n, h1, h2⟩ := h.2 c
  exact ⟨n, h1, nxO_x h2 w⟩⟩
theorem SGx_rf : SGx sN K X E S E S := ⟨xtS_rf, Or.inr ⟨rfl, List.suffix_refl _⟩, fun j st hj hs => absurd (gt_lt hs) (by omega)⟩
theorem SGx_tr (a : SGx sN K X E S E1 S1) (b : SG sN K E1 S1 E2 S2) : SGx sN K X E S E2 S2 := by
  obtain ⟨a1, a2, a3⟩ := a
  obtain ⟨b1, b2, b3⟩ := b
  refine ⟨xtS_tr a1 b1, nxO_up a2 b1 b2, fun j st hj hs => ?_⟩
  by_cases c : j < S1.length
  · rw [b1.2 j c] at hs
    obtain ⟨p, q⟩ := a3 j st hj hs
    exact ⟨fun z => flO_up (p z) b1 b2, q⟩
  · obtain ⟨p, q⟩ := b3 j st (by omega) hs
    exact ⟨fun _ => p (fun z => z), q⟩
theorem snA : (S ++ [st])[S.length]? = some st := by
  rw [List.getElem?_append_right (Nat.le_refl _), Nat.sub_self]
  rfl
theorem SGx_add (a : SGx sN K X E S E1 S1) (hX : ∀ j, X j → X' j) (kn : slK st.2.2.1.1 <:+ slK E1.1) (hf : ¬ X' S1.length → flO (S1 ++ [st]) E2 S1.length st) (hL : ∃ E0, stLk sN K E0 st ∧ gEe E0) : SGx sN K X' E S E2 (S1 ++ [st]) := by
  obtain ⟨a1, a2, a3⟩ := a
  have ent : nxO (S1 ++ [st]) E2 S1.length (slK E1.1) := Or.inl ⟨st, snA, kn⟩
  refine ⟨xtS_tr a1 xtS_sn, nxO_up a2 xtS_sn ent, fun j st9 hj hs => ?_⟩
  by_cases c : j < S1.length
  · rw [List.getElem?_append_left c] at hs
    obtain ⟨p, q⟩ := a3 j st9 hj hs
    exact ⟨fun z => flO_up (p (fun y => z (hX j y))) xtS_sn ent, q⟩
  · have hl := gt_lt hs
    rw [List.length_append] at hl
    have hl : j < S1.length + 1 := hl
    have ej : j = S1.length := by omega
    rw [ej, snA] at hs
    cases Option.some.inj hs
    rw [ej]
    exact ⟨hf, hL⟩
/-- a step's target is set -/
theorem SGx_cl (h : SGx sN K X E S E' S') (hi : S.length ≤ i) (hs : S'[i]? = some st) (ho : st.1 = 17 ∨ st.1 = 20) (hn : nxO S' E' n (slK st.2.2.1.1)) (h1 : st.1 = 17 → nxO S' E' (i + 1) (slK st.2.2.1.1)) (hX : ∀ j, X j → j = i ∨ X' j) : SGx sN K X' E S E' (cTo S' i n) := by
  obtain ⟨a1, a2, a3⟩ := h
  refine ⟨xtS_to a1 hi, nxO_to a2, fun j st9 hj h9 => ?_⟩
  rw [cTo_at] at h9
  obtain ⟨s0, h0, e0⟩ := Option.map_eq_some_iff.mp h9
  have e : (if j = i then stS s0 n else s0) = st9 := e0
  clear e0
  obtain ⟨p, q⟩ := a3 j s0 hj h0
  by_cases c : j = i
  · rw [if_pos c] at e
    subst c
    rw [hs] at h0
    cases Option.some.inj h0
    rw [← e]
    refine ⟨fun _ => ⟨fun c2 => ?_, fun _ => ⟨n, rfl, nxO_to hn⟩⟩, ?_⟩
    · have c2 : ¬ (st.1 = 20 ∨ st.1 = 21) := c2
      have o17 : st.1 = 17 := by omega
      have ea : aft (stS st n) = slK st.2.2.1.1 := aft_no (st := stS st n) (by show ¬ (st.1 = 0 ∨ (2 ≤ st.1 ∧ st.1 ≤ 4) ∨ st.1 = 16); omega)
      rw [ea]
      exact nxO_to (h1 o17)
    · obtain ⟨E0, q1, q2⟩ := q
      exact ⟨E0, stLk_to q1 ho, q2⟩
  · rw [if_neg c] at e
    rw [← e]
    exact ⟨fun z => flO_to (p (fun y => (hX j y).elim c z)), q⟩
theorem SGx_ex (h : SGx sN K X E S E1 S1) (w : slK E2.1 <:+ slK E1.1) : SGx sN K X E S E2 S1 := ⟨h.1, nxO_x h.2.1 w, fun j st hj hs => ⟨fun z => flO_x ((h.2.2 j st hj hs).1 z) w, (h.2.2 j st hj hs).2⟩⟩
theorem SGx_en (h : SGx sN K X E S E1 S1) (w : slK E.1 = slK E0.1) : SGx sN K X E0 S E1 S1 := ⟨h.1, by rw [← w]; exact h.2.1, h.2.2⟩
theorem SG_one (hL : stLk sN K E st) (hg : gEe E) (ho : ¬ (st.1 = 17 ∨ st.1 = 20)) (w : slK E'.1 <:+ aft st) : SG sN K E S E' (S ++ [st]) :=
  SGx_add (E1 := E) SGx_rf (fun _ z => z) (by rw [hL.1]; exact List.suffix_refl _) (fun _ => ⟨fun _ => Or.inr ⟨by rw [List.length_append]; rfl, w⟩, fun c => absurd c ho⟩) ⟨E, hL, hg⟩
end FLW
/-- what a statement's events do to the code -/
def PSt (K : Nat → Int32) (b : Prop) (c c' : Nat) (N : gU) : Prop := ∀ sN T V E, ¬ flt sN T V N E → ¬ E.2.1 = [] → gEe E → E.2.2 = c → ((exs N E).2.1 = E.2.1 ∧ E.1 <:+ (exs N E).1 ∧ gEe (exs N E) ∧ (exs N E).2.2 = c' ∧ (b → (exs N E).1 = E.1)) ∧ ∀ S k w, ∃ S', cds sN K N (E, S, k, rg0, w) = (exs N E, S', k, rg0, w) ∧ SG sN K E S (exs N E) S'
def PRt (K : Nat → Int32) (t : Option Nat) (N : gU) : Prop := still N ∧ ∀ sN T V E, ¬ flt sN T V N E → ¬ E.2.1 = [] → (t = none → E.2.2 < 8) → ∀ S k w tk, ∃ st, cds sN K N (E, S, k, ([], [], 0, false, none, tk), w) = (E, S ++ [st], k, rg0, w) ∧ stLk sN K E st ∧ ¬ (st.1 = 17 ∨ st.1 = 20) ∧ (t = none → aft st = E.2.2 :: slK E.1)
section PST
variable {K V : Nat → Int32} {sN : Nat → Nat → Bool} {T : gTd} {E : gV} {L M N N0 N1 : gU} {f i c tk tp : Nat} {t : Option Nat} {ro : Bool} {ix : Option gU} {S : List gSt} {k : List Nat} {w : List (Nat × Nat) × List (Nat × gU)}
theorem nf_app (h : ¬ flt sN T V (M ++ N) E) (hs : still M) : ¬ flt sN T V M E ∧ ¬ flt sN T V N E := by
  rw [flt_app, exs_still hs] at h
  exact ⟨fun z => h (Or.inl z), fun z => h (Or.inr z)⟩
theorem st_k {k a b : Nat} (h : ¬ k = 20 ∧ ¬ k = 21 ∧ ¬ k = 22) : still [(k, a, b)] := still_one h
theorem pP_f {q : Nat × gU} (h : pP K f i L = some q) : ∃ N0 ro ix N1, q.2 = L ++ N1 ∧ pPl i N0 ro ix N1 ∧ K i = 1 ∧ ∀ N, ix = some N → sW K f N := by
  unfold pP at h
  split at h
  · next c =>
    split at h
    · split at h
      · obtain ⟨z, hz, h2⟩ := Option.bind_eq_some_iff.mp h
        obtain ⟨N, eN, hs, hw⟩ := pX_sW hz
        obtain ⟨-, -, e2⟩ := pt_is h2
        rw [e2]
        exact ⟨N, true, some N, _, by rw [eN, List.append_assoc], Or.inr ⟨rfl, rfl, hs, rfl⟩, c.1, fun M hM => by cases Option.some.inj hM; exact hw⟩
      · exact absurd h (by simp)
    · cases Option.some.inj h
      exact ⟨[], false, none, _, rfl, Or.inl ⟨rfl, rfl, rfl⟩, c.1, fun M hM => by cases hM⟩
  · exact absurd h (by simp)
theorem pPl_st (h : pPl tp N0 ro ix N1) : still N1 := by
  rcases h with ⟨-, -, e⟩ | ⟨-, -, hs, e⟩
  · rw [e]; exact st_k (by decide)
  · rw [e]; exact still_app (st_k (by decide)) (still_app (sEv_st hs) (st_k (by decide)))
theorem pPl_sO (h : pPl tp N0 ro ix N1) (hw : ∀ N, ix = some N → sW K f N) (hf : f ≤ 40) (nf : ¬ flt sN T V N1 E) : sOo sN K E ix ∧ (ro = true ↔ ¬ ix = none) := by
  rcases h with ⟨e1, e2, -⟩ | ⟨e1, e2, hs, e⟩
  · rw [e1, e2]; exact ⟨sOo_no, by simp⟩
  · rw [e] at nf
    have nf := (nf_app (nf_app nf (st_k (by decide))).2 (sEv_st hs)).1
    rw [e1, e2]
    exact ⟨sOo_so hs (hw _ e2) hf nf, by simp⟩
theorem cds_pme : ∃ tk', cds sN K (pme t) (E, S, k, ([], [], 0, false, none, tk), w) = (E, S, k, ([], [], 0, false, t, tk'), w) := by
  cases t with
  | none => exact ⟨tk, rfl⟩
  | some a => exact ⟨a, rfl⟩
theorem cds_pma : ∃ tk', cds sN K (pma t) (E, S, k, ([], [], 0, false, none, tk), w) = (E, S, k, ([], [], 0, false, t, tk'), w) := by
  cases t with
  | none => exact ⟨tk, rfl⟩
  | some a => exact ⟨a, rfl⟩
theorem pme_st : still (pme t) := by
  cases t with
  | none => exact still_nil
  | some a => exact st_k (by decide)
theorem pma_st : still (pma t) := by
  cases t with
  | none => exact still_nil
  | some a => exact st_k (by decide)
theorem pme_k (nf : ¬ flt sN T V (pme t) E) (a : Nat) (h : t = some a) : ¬ kfi sN E.1 a = none := by
  subst h
  exact fun z => nf (flt_one.mpr (fv_26.mpr z))
theorem toL_ok (ht : t = none → E.2.2 < 8) (hk : ∀ a, t = some a → ¬ kfi sN E.1 a = none) : ∃ p, toL sN E.1 t = some p ∧ pOk E p ∧ (t = none → p = E.1.length) := by
  cases t with
  | none => exact ⟨E.1.length, rfl, Or.inr ⟨rfl, ht rfl⟩, fun _ => rfl⟩
  | some a =>
    cases c : kfi sN E.1 a with
    | none => exact absurd c (hk a rfl)
    | some p => exact ⟨p, c, Or.inl (kfi_lt c), fun z => by cases z⟩
theorem cSe_s {c : gCd} {tg : Option Nat} {p : Nat} (h : toL sN c.1.1 tg = some p) : cSe sN c tg tk N = cEm c (16, tk, knw c.1, some p, none, false, none, some N, none) := by unfold cSe; rw [h]
theorem cSe_n {c : gCd} {tg : Option Nat} (h : toL sN c.1.1 tg = none) : cSe sN c tg tk N = cEm c (1, tk, knw c.1, none, tg, false, none, some N, none) := by unfold cSe; rw [h]
theorem cAl_s {c : gCd} {tg : Option Nat} {p : Nat} (h : kfi sN c.1.1 i = some p) : cAl sN c tg tk i = cSe sN c tg tk [(3, i, 0)] := by unfold cAl; rw [h]
theorem cAl_n {c : gCd} {tg : Option Nat} (h : kfi sN c.1.1 i = none) : cAl sN c tg tk i = cEm c (0, tk, knw c.1, toL sN c.1.1 tg, some i, false, none, none, none) := by unfold cAl; rw [h]
theorem cSe_ok {tg tg0 : Option Nat} {cu : gU} {su : List gU} {pl tk0 : Nat} (ht : tg = none → E.2.2 < 8) (hk : ∀ a, tg = some a → K a = 1) (s1 : sOo sN K E (some N)) : ∃ st, cSe sN (E, S, k, (cu, su, pl, ro, tg0, tk0), w) tg tk N = (E, S ++ [st], k, rg0, w) ∧ stLk sN K E st ∧ ¬ (st.1 = 17 ∨ st.1 = 20) ∧ (tg = none → aft st = E.2.2 :: slK E.1) := by
  cases c : toL sN E.1 tg with
  | some p =>
    refine ⟨_, cSe_s c, stLk_16 ?_ s1, show ¬ (16 = 17 ∨ 16 = 20) by decide, fun z => ?_⟩
    · cases tg with
      | none => cases Option.some.inj c; exact Or.inr ⟨rfl, ht rfl⟩
      | some a => exact Or.inl (kfi_lt c)
    · subst z
      cases Option.some.inj c
      exact aft_let (Or.inr (Or.inr rfl))
  | none =>
    cases tg with
    | none => cases c
    | some a => exact ⟨_, cSe_n c, stLk_x (by decide) (Or.inl rfl) (hk a rfl) (by simp) (fun _ => Option.some_ne_none _) (fun z => absurd z (by decide)) sOo_no s1 sOo_no (fun _ => rfl) (fun z => absurd z (by decide)) (fun _ => rfl), show ¬ (1 = 17 ∨ 1 = 20) by decide, fun z => by cases z⟩
theorem pR_f {q : Nat × gU} (hf : f ≤ 16) (ht : ∀ a, t = some a → K a = 1) (h : pR K f t i L = some q) : ∃ N, q.2 = L ++ N ∧ PRt K t N := by
  unfold pR at h
  split at h
  · next kk =>
    split at h
    · obtain ⟨z4, hz4, h4⟩ := Option.bind_eq_some_iff.mp h
      obtain ⟨z3, hz3, h3⟩ := Option.bind_eq_some_iff.mp hz4
      obtain ⟨z2, hz2, h2⟩ := Option.bind_eq_some_iff.mp hz3
      obtain ⟨N0, ro, ix, N1, e1, hpl, k1, hix⟩ := pP_f hz2
      obtain ⟨-, -, e2⟩ := pt_is h2
      have h3 : pX K false f z3.1 z3.2 = some z4 := h3
      obtain ⟨N2, e3, s2, w2⟩ := pX_sW h3
      obtain ⟨z5, hz5, h5⟩ := Option.bind_eq_some_iff.mp h4
      unfold pan at h5
      split at hz5
      · next k16 =>
        obtain ⟨z6, hz6, h6⟩ := Option.bind_eq_some_iff.mp hz5
        obtain ⟨-, -, e6⟩ := pt_is hz6
        have h6 : pX K false f z6.1 z6.2 = some z5 := h6
        obtain ⟨N3, e7, s3, w3⟩ := pX_sW h6
        cases Option.some.inj h5
        refine ⟨pme t ++ (N1 ++ ((N2 ++ [(54, 0, 0)]) ++ ((N3 ++ [(54, 0, 0)]) ++ [(74, i, 0)]))), ?_, ?_, ?_⟩
        · show z5.2 ++ [(74, i, 0)] = _
          rw [e7, e6]
          show (z4.2 ++ (N3 ++ [(54, 0, 0)])) ++ [(74, i, 0)] = _
          rw [e3, e2]
          show ((z2.2 ++ (N2 ++ [(54, 0, 0)])) ++ (N3 ++ [(54, 0, 0)])) ++ [(74, i, 0)] = _
          rw [e1]
          simp only [List.append_assoc]
        · exact still_app pme_st (still_app (pPl_st hpl) (still_app (still_app (sEv_st s2) (st_k (by decide))) (still_app (still_app (sEv_st s3) (st_k (by decide))) (st_k (by decide)))))
        · intro sN T V E nf hE h8 S k w tk
          obtain ⟨n1, nf⟩ := nf_app nf pme_st
          obtain ⟨n2, nf⟩ := nf_app nf (pPl_st hpl)
          obtain ⟨n3, nf⟩ := nf_app nf (still_app (sEv_st s2) (st_k (by decide)))
          obtain ⟨n3, -⟩ := nf_app n3 (sEv_st s2)
          obtain ⟨n4, -⟩ := nf_app nf (still_app (sEv_st s3) (st_k (by decide)))
          obtain ⟨n4, -⟩ := nf_app n4 (sEv_st s3)
          obtain ⟨so, hro⟩ := pPl_sO hpl hix (by omega) n2
          obtain ⟨tk', et⟩ := cds_pme (sN := sN) (K := K) (t := t) (E := E) (S := S) (k := k) (w := w) (tk := tk)
          obtain ⟨p, ep, hp, hn⟩ := toL_ok h8 (pme_k n1)
          refine ⟨_, by rw [cds_app, et, cds_r74c hpl s2 s3 hE k16], ?_, show ¬ (4 = 17 ∨ 4 = 20) by decide, fun z => ?_⟩
          · rw [ep]
            exact stLk_x (by decide) (Or.inr ⟨p, rfl, hp⟩) k1 hro (fun _ => Option.some_ne_none _) (fun _ => Option.some_ne_none _) so (sOo_so s2 w2 (by omega) n3) (sOo_so s3 w3 (by omega) n4) (fun z => absurd z (by decide)) (fun z => absurd z (by decide)) (fun z => absurd rfl z)
          · rw [ep, hn z]
            exact aft_let (Or.inr (Or.inl (by decide)))
      · next k16 =>
        cases Option.some.inj hz5
        cases Option.some.inj h5
        refine ⟨pme t ++ (N1 ++ ((N2 ++ [(54, 0, 0)]) ++ [(74, i, 0)])), ?_, ?_, ?_⟩
        · show z4.2 ++ [(74, i, 0)] = _
          rw [e3, e2]
          show (z2.2 ++ (N2 ++ [(54, 0, 0)])) ++ [(74, i, 0)] = _
          rw [e1]
          simp only [List.append_assoc]
        · exact still_app pme_st (still_app (pPl_st hpl) (still_app (still_app (sEv_st s2) (st_k (by decide))) (st_k (by decide))))
        · intro sN T V E nf hE h8 S k w tk
          obtain ⟨n1, nf⟩ := nf_app nf pme_st
          obtain ⟨n2, nf⟩ := nf_app nf (pPl_st hpl)
          obtain ⟨n3, -⟩ := nf_app nf (still_app (sEv_st s2) (st_k (by decide)))
          obtain ⟨n3, -⟩ := nf_app n3 (sEv_st s2)
          obtain ⟨so, hro⟩ := pPl_sO hpl hix (by omega) n2
          obtain ⟨tk', et⟩ := cds_pme (sN := sN) (K := K) (t := t) (E := E) (S := S) (k := k) (w := w) (tk := tk)
          obtain ⟨p, ep, hp, hn⟩ := toL_ok h8 (pme_k n1)
          have hop : opX (K i) = 2 ∨ opX (K i) = 3 := by
            rcases kk with e | e | e
            · rw [e]; exact Or.inl rfl
            · rw [e]; exact Or.inr rfl
            · exact absurd e k16
          refine ⟨_, by rw [cds_app, et, cds_r74 hpl s2 hE k16], ?_, by show ¬ (opX (K i) = 17 ∨ opX (K i) = 20); omega, fun z => ?_⟩
          · rw [ep]
            exact stLk_x (by omega) (Or.inr ⟨p, rfl, hp⟩) k1 hro (fun _ => Option.some_ne_none _) (fun z => absurd z (by omega)) so (sOo_so s2 w2 (by omega) n3) sOo_no (fun z => absurd z (by omega)) (fun z => absurd z (by omega)) (fun _ => rfl)
          · rw [ep, hn z]
            exact aft_let (by omega)
    · exact absurd h (by simp)
  · split at h
    · obtain ⟨z, hz, h2⟩ := Option.bind_eq_some_iff.mp h
      obtain ⟨N0, ro, ix, N1, e1, hpl, k1, hix⟩ := pP_f hz
      unfold pan at h2
      cases Option.some.inj h2
      refine ⟨pme t ++ (N1 ++ [(75, i, 0)]), ?_, still_app pme_st (still_app (pPl_st hpl) (st_k (by decide))), ?_⟩
      · show z.2 ++ [(75, i, 0)] = _
        rw [e1]
        simp only [List.append_assoc]
      · intro sN T V E nf hE h8 S k w tk
        obtain ⟨n1, nf⟩ := nf_app nf pme_st
        obtain ⟨n2, -⟩ := nf_app nf (pPl_st hpl)
        obtain ⟨so, hro⟩ := pPl_sO hpl hix (by omega) n2
        obtain ⟨tk', et⟩ := cds_pme (sN := sN) (K := K) (t := t) (E := E) (S := S) (k := k) (w := w) (tk := tk)
        obtain ⟨p, ep, hp, hn⟩ := toL_ok h8 (pme_k n1)
        refine ⟨_, by rw [cds_app, et, cds_r75 hpl hE], ?_, show ¬ (0 = 17 ∨ 0 = 20) by decide, fun z => ?_⟩
        · rw [ep]
          exact stLk_x (by decide) (Or.inr ⟨p, rfl, hp⟩) k1 hro (fun z => absurd rfl z) (fun z => absurd z (by decide)) so sOo_no sOo_no (fun z => absurd z (by decide)) (fun _ => rfl) (fun _ => rfl)
        · rw [ep, hn z]
          exact aft_let (Or.inl rfl)
    · split at h
      · next kk =>
        split at h
        · cases Option.some.inj h
          refine ⟨[pal t i], rfl, ?_, ?_⟩
          · cases t with
            | none => exact st_k (by decide)
            | some a => exact st_k (by decide)
          · intro sN T V E nf hE h8 S k w tk
            have nf := fun z => nf (flt_one.mpr z)
            cases t with
            | none =>
              rw [show cds sN K [pal none i] (E, S, k, ([], [], 0, false, none, tk), w) = cAl sN (E, S, k, ([], [], 0, false, none, tk), w) none tk i from rfl]
              cases ck : kfi sN E.1 i with
              | some p0 =>
                rw [cAl_s ck]
                exact cSe_ok h8 (fun a z => by cases z) (sOo_one kk.1 (by rw [ck]; exact fun z => by cases z))
              | none => exact ⟨_, cAl_n ck, stLk_x (by decide) (Or.inr ⟨_, rfl, Or.inr ⟨rfl, h8 rfl⟩⟩) kk.1 (by simp) (fun z => absurd rfl z) (fun z => absurd z (by decide)) sOo_no sOo_no sOo_no (fun z => absurd z (by decide)) (fun _ => rfl) (fun _ => rfl), show ¬ (0 = 17 ∨ 0 = 20) by decide, fun _ => aft_let (Or.inl rfl)⟩
            | some a =>
              rw [show cds sN K [pal (some a) i] (E, S, k, ([], [], 0, false, none, tk), w) = cAl sN (E, S, k, ([], [], 0, false, none, tk), w) (some a) a i from rfl]
              cases ck : kfi sN E.1 i with
              | some p0 =>
                rw [cAl_s ck]
                exact cSe_ok h8 ht (sOo_one kk.1 (by rw [ck]; exact fun z => by cases z))
              | none =>
                cases ca : kfi sN E.1 a with
                | none => exact absurd (fv_27.mpr (Or.inl ⟨ck, Or.inl ca⟩)) nf
                | some p =>
                  refine ⟨_, cAl_n ck, ?_, show ¬ (0 = 17 ∨ 0 = 20) by decide, fun z => by cases z⟩
                  exact stLk_x (by decide) (Or.inr ⟨p, ca, Or.inl (kfi_lt ca)⟩) kk.1 (by simp) (fun z => absurd rfl z) (fun z => absurd z (by decide)) sOo_no sOo_no sOo_no (fun z => absurd z (by decide)) (fun _ => rfl) (fun _ => rfl)
        · exact absurd h (by simp)
      · obtain ⟨z, hz, h2⟩ := Option.bind_eq_some_iff.mp h
        obtain ⟨N2, e3, s2, w2⟩ := pX_sW hz
        unfold pan at h2
        cases Option.some.inj h2
        refine ⟨pma t ++ ((N2 ++ [(54, 0, 0)]) ++ [(76, i, 0)]), ?_, still_app pma_st (still_app (still_app (sEv_st s2) (st_k (by decide))) (st_k (by decide))), ?_⟩
        · show z.2 ++ [(76, i, 0)] = _
          rw [e3]
          simp only [List.append_assoc]
        · intro sN T V E nf hE h8 S k w tk
          obtain ⟨-, nf⟩ := nf_app nf pma_st
          obtain ⟨n3, -⟩ := nf_app nf (still_app (sEv_st s2) (st_k (by decide)))
          obtain ⟨n3, -⟩ := nf_app n3 (sEv_st s2)
          obtain ⟨tk', et⟩ := cds_pma (sN := sN) (K := K) (t := t) (E := E) (S := S) (k := k) (w := w) (tk := tk)
          rw [cds_app, et, cds_app, cds_x s2 hE, cds_one, cd_76]
          exact cSe_ok h8 ht (sOo_so s2 w2 (by omega) n3)
end PST
