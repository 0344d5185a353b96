/-! the code of the whole text: where its steps go, where its threads begin, what its claims are like -/
def flR (S : List gSt) (j : Nat) (st : gSt) : Prop := (¬ (st.1 = 20 ∨ st.1 = 21) → ∃ st', S[j + 1]? = some st' ∧ slK st'.2.2.1.1 <:+ aft st) ∧ (st.1 = 17 ∨ st.1 = 20 → ∃ n st', st.2.2.2.1 = some n ∧ S[n]? = some st' ∧ slK st'.2.2.1.1 <:+ slK st.2.2.1.1)
def clO (K : Nat → Int32) (N : gU) : Prop := sEv true N ∧ (∀ v ∈ N, sVv K v) ∧ okE N 0 ∧ ajE N
def WS (sN : Nat → Nat → Bool) (K : Nat → Int32) (S : List gSt) (b : List (Nat × Nat)) (l : List (Nat × gU)) (P : Nat × Nat × Nat → Prop) : Prop := (∀ j st, S[j]? = some st → flR S j st ∧ ∃ E0, stLk sN K E0 st ∧ gEe E0) ∧ (∀ q ∈ b, (∃ st, S[q.1]? = some st ∧ st.2.2.1.1 = []) ∧ q.2 ≤ 1) ∧ ∀ q ∈ l, clO K q.2 ∧ ∀ v ∈ q.2, P v
def WC (sN : Nat → Nat → Bool) (K : Nat → Int32) (P : Nat × Nat × Nat → Prop) (c : gCd) : Prop := ∃ E S r b l, c = (E, S, [], r, b, l) ∧ E.2.1 = [] ∧ r.1 = [] ∧ WS sN K S b l P
section WCL
variable {K V V' : Nat → Int32} {sN : Nat → Nat → Bool} {T : gTd} {E : gV} {L M N : gU} {c : gCd} {S S' : List gSt} {st : gSt} {b : List (Nat × Nat)} {l : List (Nat × gU)} {i j t n : Nat} {k : List Nat} {w : List (Nat × Nat) × List (Nat × gU)} {P : Nat × Nat × Nat → Prop}
theorem flR_up (h : flR S j st) (x : xtS S S') : flR S' j st := ⟨fun c => by
  obtain ⟨s, h1, h2⟩ := h.1 c
  exact ⟨s, by rw [x.2 _ (gt_lt h1)]; exact h1, h2⟩, fun c => by
  obtain ⟨n, s, h0, h1, h2⟩ := h.2 c
  exact ⟨n, s, h0, by rw [x.2 _ (gt_lt h1)]; exact h1, h2⟩⟩
theorem cd_34 {r : gRg} : cdV sN K (E, S, k, r, b, l) (34, i, j) = (E0v, S, k, rg0, b ++ [(S.length, j)], l) := rfl
theorem cd_35 {cu : gU} {su : List gU} {pl tk : Nat} {ro : Bool} {tg : Option Nat} : cdV sN K (E, S, k, (cu, su, pl, ro, tg, tk), w) (35, i, j) = (E, S, k, (cu, su, 35, ro, tg, tk), w) := rfl
theorem cd_36 {cu : gU} {su : List gU} {pl tk : Nat} {ro : Bool} {tg : Option Nat} : cdV sN K (E, S, k, (cu, su, pl, ro, tg, tk), w) (36, i, j) = (E, S, k, (cu, su, 36, ro, tg, tk), w) := rfl
theorem gEe_0 : gEe E0v := ⟨List.Pairwise.nil, fun s hs => (by cases hs), by decide⟩
/-- one thread more -/
theorem WC_th {q : Nat} (h : WC sN K P c) (hB : PBt K 0 0 q N) (nf : ¬ flt sN T V N E0v) (hj : j ≤ 1) : WC sN K P (cds sN K ([(34, i, j)] ++ N) c) ∧ eqE (exs N E0v) E0v := by
  obtain ⟨E, S, r, b, l, rfl, hE, hr, h1, h2, h3⟩ := h
  obtain ⟨b1, b2, b3⟩ := hB sN T V E0v nf gEe_0 rfl
  obtain ⟨S', e, g⟩ := b3 S [] (b ++ [(S.length, j)], l)
  have b2 : exs N E0v = ([], [], q) := b2
  have b1 : gEe ([], [], q) := b1
  have g : SG sN K E0v S ([], [], q) S' := g
  refine ⟨⟨([], [], q), S' ++ [(21, 0, knw ([], [], q), none, none, false, none, none, none)], rg0, b ++ [(S.length, j)], l, ?_, rfl, rfl, ?_, ?_, h3⟩, by rw [b2]; exact ⟨rfl, rfl⟩⟩
  · rw [cds_app, cds_one, cd_34, e]
    rfl
  · have x1 : xtS S' (S' ++ [(21, 0, knw ([], [], q), none, none, false, none, none, none)]) := xtS_sn
    have re : ∀ {n : Nat} {a : List Nat}, nxO S' ([], [], q) n a → ∃ st', (S' ++ [((21, 0, knw ([], [], q), none, none, false, none, none, none) : gSt)])[n]? = some st' ∧ slK st'.2.2.1.1 <:+ a := fun {n a} hn => by
      rcases hn with ⟨s, s1, s2⟩ | ⟨s1, s2⟩
      · exact ⟨s, by rw [x1.2 _ (gt_lt s1)]; exact s1, s2⟩
      · exact ⟨_, by rw [s1]; exact snA, s2⟩
    intro j st hs
    by_cases c0 : j < S.length
    · rw [x1.2 j (by have := g.1.1; omega), g.1.2 j c0] at hs
      obtain ⟨p, pq⟩ := h1 j st hs
      exact ⟨flR_up p (xtS_tr g.1 x1), pq⟩
    · by_cases c1 : j < S'.length
      · rw [x1.2 j c1] at hs
        obtain ⟨p, pq⟩ := g.2.2 j st (by omega) hs
        obtain ⟨p1, p2⟩ := p (fun z => z)
        refine ⟨⟨fun z => re (p1 z), fun z => ?_⟩, pq⟩
        obtain ⟨n, n1, n2⟩ := p2 z
        obtain ⟨s, s1, s2⟩ := re n2
        exact ⟨n, s, n1, s1, s2⟩
      · have hl := gt_lt hs
        rw [List.length_append] at hl
        have hl : j < S'.length + 1 := hl
        have ej : j = S'.length := by omega
        rw [ej, snA] at hs
        cases Option.some.inj hs
        exact ⟨⟨fun z => absurd (Or.inr rfl) z, fun z => absurd z (show ¬ (21 = 17 ∨ 21 = 20) by decide)⟩, _, stLk_p (by decide) (fun _ => rfl), b1⟩
  · intro p hp
    rcases List.mem_append.mp hp with hp | hp
    · obtain ⟨⟨s, s1, s2⟩, p2⟩ := h2 p hp
      exact ⟨⟨s, by rw [(xtS_tr g.1 xtS_sn).2 _ (gt_lt s1)]; exact s1, s2⟩, p2⟩
    · rw [List.mem_singleton.mp hp]
      refine ⟨?_, hj⟩
      rcases g.2.1 with ⟨s, s1, s2⟩ | ⟨s1, s2⟩
      · refine ⟨s, by rw [xtS_sn.2 _ (gt_lt s1)]; exact s1, ?_⟩
        have := List.suffix_nil.mp s2
        exact List.map_eq_nil_iff.mp this
      · exact ⟨_, by show (S' ++ [_])[S.length]? = _; rw [s1]; exact snA, rfl⟩
/-- one claim more -/
theorem WC_cl {u : Nat} (hu : u = 35 ∨ u = 36) (h : WC sN K P c) (hs : sEv true N) (hw : sW K 16 N) (hP : ∀ v ∈ N, P v) : WC sN K P (cds sN K ([(u, i, 0)] ++ (N ++ [(54, 0, 0)])) c) := by
  obtain ⟨E, S, ⟨cu, su, pl, ro, tg, tk⟩, b, l, rfl, hE, hr, h1, h2, h3⟩ := h
  have hr : cu = [] := hr
  subst hr
  have e1 : cdV sN K (E, S, [], ([], su, pl, ro, tg, tk), b, l) (u, i, 0) = (E, S, [], ([], su, u, ro, tg, tk), b, l) := by
    rcases hu with rfl | rfl
    · exact cd_35
    · exact cd_36
  have e2 : cds sN K ([(u, i, 0)] ++ (N ++ [(54, 0, 0)])) (E, S, [], ([], su, pl, ro, tg, tk), b, l) = (E, S, [], ([], su, u, ro, tg, tk), b, l ++ [(u, N)]) := by
    rw [cds_app, cds_one, e1, cds_app, cds_sum (r := ([], su, u, ro, tg, tk)) hs (fun _ => hE), cds_one]
    show cdV sN K (E, S, [], ([] ++ N, su, u, ro, tg, tk), b, l) (54, 0, 0) = _
    rw [List.nil_append]
    unfold cdV
    rw [if_neg (by decide), if_neg (by decide), if_pos rfl, if_pos hE]
  rw [e2]
  refine ⟨_, _, _, _, _, rfl, hE, rfl, h1, h2, fun q hq => ?_⟩
  rcases List.mem_append.mp hq with hq | hq
  · exact h3 q hq
  · rw [List.mem_singleton.mp hq]
    exact ⟨⟨hs, hw.1, sW_ok hw (by decide), hw.2.2⟩, hP⟩
def dul (N : gU) : Prop := ∀ v ∈ N, v.1 = 31 ∨ v.1 = 32 ∨ v.1 = 33 ∨ 80 ≤ v.1
theorem dul_app (h : dul M) (g : dul N) : dul (M ++ N) := fun v hv => (List.mem_append.mp hv).elim (h v) (g v)
theorem dul_one {a b c : Nat} (h : a = 31 ∨ a = 32 ∨ a = 33 ∨ 80 ≤ a) : dul [(a, b, c)] := fun v hv => by rw [List.mem_singleton.mp hv]; exact h
theorem pCv_f {q r : Nat × gU} (h : pCv K q = some r) : ∃ N, r.2 = q.2 ++ N ∧ dul N := by
  unfold pCv at h
  split at h
  · split at h
    · split at h
      · split at h
        · cases Option.some.inj h; exact ⟨_, rfl, dul_one (by decide)⟩
        · exact absurd h (by simp)
      · split at h
        · cases Option.some.inj h; exact ⟨_, rfl, dul_one (by decide)⟩
        · exact absurd h (by simp)
    · exact absurd h (by simp)
  · cases Option.some.inj h; exact ⟨_, rfl, dul_one (by decide)⟩
theorem pCl_f {q : Nat × Nat × gU} (h : pCl K V n i t L = some q) : ∃ N, q.2.2 = L ++ N ∧ dul N := by
  have fin : ∀ {v : Nat × Nat × Nat} {p m : Nat}, dul [v] → ((pCv K (p, L ++ [v])).bind (pt K 67)).bind (fun q => some (m, q.1, q.2 ++ [(83, i, t)])) = some q → ∃ N, q.2.2 = L ++ N ∧ dul N := fun {v p m} hv h => by
    obtain ⟨z, hz, e⟩ := Option.bind_eq_some_iff.mp h
    obtain ⟨y, hy, h2⟩ := Option.bind_eq_some_iff.mp hz
    obtain ⟨N, eN, hN⟩ := pCv_f hy
    obtain ⟨-, -, e2⟩ := pt_is h2
    cases Option.some.inj e
    refine ⟨[v] ++ (N ++ [(83, i, t)]), ?_, dul_app hv (dul_app hN (dul_one (by decide)))⟩
    show z.2 ++ [(83, i, t)] = _
    rw [e2]
    show y.2 ++ [(83, i, t)] = _
    rw [eN]
    simp only [List.append_assoc]
  unfold pCl at h
  split at h
  · split at h
    · split at h
      · exact fin (dul_one (by decide)) h
      · exact absurd h (by simp)
    · exact fin (dul_one (by decide)) h
  · exact absurd h (by simp)
theorem WC_no (h : WC sN K P c) (hN : dul N) (hE : eqE E E0v) : WC sN K P (cds sN K N c) ∧ eqE (exs N E) E0v := by
  rw [cds_no hN]
  refine ⟨h, ?_⟩
  rw [exs_still (fun v hv => by have := hN v hv; omega)]
  exact hE
theorem exs_q : ∀ {L : gU} {E E' : gV}, eqE E E' → eqE (exs L E) (exs L E') := by
  intro L
  induction L with
  | nil => intro E E' h; exact h
  | cons v L ih => intro E E' h; exact ih (exV_q h)
theorem eqE_tr {E1 E2 E3 : gV} (a : eqE E1 E2) (b : eqE E2 E3) : eqE E1 E3 := ⟨a.1.trans b.1, a.2.trans b.2⟩
theorem pD_f {n : gN} {q : gN × Nat × gU} (h : pD K V n i L = some q) : ∃ N, q.2.2 = L ++ N ∧ ∀ sN T V' E c P, (∀ v ∈ N, P v) → WC sN K P c → eqE E E0v → ¬ flt sN T V' N E → WC sN K P (cds sN K N c) ∧ eqE (exs N E) E0v := by
  have cell : ∀ t, (pCl K V n.1 i t L).bind (fun q => some ((q.1, n.2), q.2)) = some q → ∃ N, q.2.2 = L ++ N ∧ ∀ sN T V' E c P, (∀ v ∈ N, P v) → WC sN K P c → eqE E E0v → ¬ flt sN T V' N E → WC sN K P (cds sN K N c) ∧ eqE (exs N E) E0v := fun t h => by
    obtain ⟨z, hz, e⟩ := Option.bind_eq_some_iff.mp h
    obtain ⟨N, eN, hN⟩ := pCl_f hz
    cases Option.some.inj e
    exact ⟨N, eN, fun sN T V' E c P _ hc hE _ => WC_no hc hN hE⟩
  have blk : ∀ (t a j : Nat) (v : gN), j ≤ 1 → (pBk (pS K 16) K 0 0 t (L ++ [(34, a, j)])).bind (fun q => some (v, q.2)) = some q → ∃ N, q.2.2 = L ++ N ∧ ∀ sN T V' E c P, (∀ v ∈ N, P v) → WC sN K P c → eqE E E0v → ¬ flt sN T V' N E → WC sN K P (cds sN K N c) ∧ eqE (exs N E) E0v := fun t a j v hj h => by
    obtain ⟨z, hz, e⟩ := Option.bind_eq_some_iff.mp h
    obtain ⟨N, eN, hN⟩ := pBk_f (pS_f 16 (Nat.le_refl _)) hz
    cases Option.some.inj e
    refine ⟨[(34, a, j)] ++ N, by show z.2.2 = _; rw [eN, List.append_assoc], fun sN T V' E c P hP hc hE nf => ?_⟩
    have s34 : still [(34, a, j)] := st_k (by decide)
    obtain ⟨-, nf⟩ := nf_app nf s34
    obtain ⟨r1, r2⟩ := WC_th (i := a) hc hN (fun y => nf ((flt_q hE).mpr y)) hj
    refine ⟨r1, ?_⟩
    rw [exs_app, exs_still s34]
    exact eqE_tr (exs_q hE) r2
  have clm : ∀ (u : Nat) (v : gN), u = 35 ∨ u = 36 → ((pX K true 16 (i + 1) (L ++ [(u, i, 0)])).bind (pt K 67)).bind (fun q => some (v, q)) = some q → ∃ N, q.2.2 = L ++ N ∧ ∀ sN T V' E c P, (∀ v ∈ N, P v) → WC sN K P c → eqE E E0v → ¬ flt sN T V' N E → WC sN K P (cds sN K N c) ∧ eqE (exs N E) E0v := fun u v hu h => by
    obtain ⟨z, hz, e⟩ := Option.bind_eq_some_iff.mp h
    obtain ⟨y, hy, h2⟩ := Option.bind_eq_some_iff.mp hz
    obtain ⟨N, eN, hs, hw⟩ := pX_sW hy
    obtain ⟨-, -, e2⟩ := pt_is h2
    cases Option.some.inj e
    refine ⟨[(u, i, 0)] ++ (N ++ [(54, 0, 0)]), ?_, fun sN T V' E c P hP hc hE _ => ⟨WC_cl hu hc hs hw (fun v hv => hP v (List.mem_append_right _ (List.mem_append_left _ hv))), ?_⟩⟩
    · show z.2 = _
      rw [e2]
      show y.2 = _
      rw [eN, List.append_assoc]
    · rw [exs_still (still_app (st_k (by omega)) (still_app (sEv_st hs) (st_k (by decide))))]
      exact hE
  unfold pD at h
  split at h
  · split at h
    · exact cell _ h
    · exact absurd h (by simp)
  · split at h
    · exact cell _ h
    · split at h
      · split at h
        · cases Option.some.inj h
          exact ⟨[(33, i + 1, 0)], rfl, fun sN T V' E c P _ hc hE _ => WC_no hc (dul_one (by decide)) hE⟩
        · exact absurd h (by simp)
      · split at h
        · split at h
          · exact blk _ _ 1 _ (Nat.le_refl _) h
          · exact absurd h (by simp)
        · split at h
          · split at h
            · exact blk _ _ 0 _ (Nat.zero_le _) h
            · exact absurd h (by simp)
          · split at h
            · split at h
              · exact clm 35 _ (Or.inl rfl) h
              · exact absurd h (by simp)
            · split at h
              · split at h
                · exact clm 36 _ (Or.inr rfl) h
                · exact absurd h (by simp)
              · exact absurd h (by simp)
theorem pAl_f : ∀ (m : Nat) (n : gN) (i : Nat) (L : gU) (q : gN × Nat × gU), pAl K V m n i L = some q → ∃ N, q.2.2 = L ++ N ∧ ∀ sN T V' E c P, (∀ v ∈ N, P v) → WC sN K P c → eqE E E0v → ¬ flt sN T V' N E → WC sN K P (cds sN K N c) := by
  intro m
  induction m with
  | zero => intro n i L q h; exact absurd h (by simp [pAl])
  | succ m ih =>
    intro n i L q h
    rw [pAl] at h
    split at h
    · cases Option.some.inj h
      exact ⟨[], by rw [List.append_nil], fun sN T V' E c P _ hc _ _ => hc⟩
    · obtain ⟨z, hz, h2⟩ := Option.bind_eq_some_iff.mp h
      obtain ⟨M, eM, hM⟩ := pD_f hz
      obtain ⟨N, eN, hN⟩ := ih _ _ _ _ h2
      refine ⟨M ++ N, by rw [eN, eM, List.append_assoc], fun sN T V' E c P hP hc hE nf => ?_⟩
      rw [flt_app] at nf
      obtain ⟨r1, r2⟩ := hM sN T V' E c P (fun v hv => hP v (List.mem_append_left _ hv)) hc hE (fun y => nf (Or.inl y))
      rw [cds_app]
      exact hN sN T V' _ _ P (fun v hv => hP v (List.mem_append_right _ hv)) r1 r2 (fun y => nf (Or.inr y))
theorem cod_ok {n : gN} (h : pAl K V 701 (0, 0, 0, 0, 0) 0 [] = some (n, j, L)) (nf : ¬ jFl sN K V L) : WC sN K (fun v => v ∈ L) (cds sN K L cd0) := by
  obtain ⟨N, eN, hN⟩ := pAl_f _ _ _ _ _ h
  have eN : L = N := eN
  rw [← eN] at hN
  exact hN sN _ V E0v cd0 _ (fun v hv => hv) ⟨E0v, [], rg0, [], [], rfl, rfl, rfl, ⟨fun j st hs => (by cases hs), fun q hq => (by cases hq), fun q hq => (by cases hq)⟩⟩ ⟨rfl, rfl⟩ (fun y => nf (Or.inr y))
end WCL
