section
/-! the code of the whole text: where its steps go, where its threads begin, what its claims are like -/
def flR (S : List gSt) (j : Nat) (st : gSt) : Prop := (¬ (st.1 = 20 ∨ st.1 = 21) → ∃ st', S[j + 1]? = some st' ∧ slK st'.2.2.1.1 <:+ aft st) ∧ (st.1 = 17 ∨ st.1 = 20 → ∃ n st', st.2.2.2.1 = some n ∧ S[n]? = some st' ∧ slK st'.2.2.1.1 <:+ slK st.2.2.1.1)
def clO (K : Nat → Int32) (N : gU) : Prop := sEv true N ∧ (∀ v ∈ N, sVv K v) ∧ okE N 0 ∧ ajE N
def WS (sN : Nat → Nat → Bool) (K : Nat → Int32) (S : List gSt) (b : List (Nat × Nat)) (l : List (Nat × gU)) (P : Nat × Nat × Nat → Prop) : Prop := (∀ j st, S[j]? = some st → flR S j st ∧ ∃ E0, stLk sN K E0 st ∧ gEe E0) ∧ (∀ q ∈ b, (∃ st, S[q.1]? = some st ∧ st.2.2.1.1 = []) ∧ q.2 ≤ 1) ∧ ∀ q ∈ l, clO K q.2 ∧ ∀ v ∈ q.2, P v
def WC (sN : Nat → Nat → Bool) (K : Nat → Int32) (P : Nat × Nat × Nat → Prop) (c : gCd) : Prop := ∃ E S r b l, c = (E, S, [], r, b, l) ∧ E.2.1 = [] ∧ r.1 = [] ∧ WS sN K S b l P
section WCL
variable {K V V' : Nat → Int32} {sN : Nat → Nat → Bool} {T : gTd} {E : gV} {L M N : gU} {c : gCd} {S S' : List gSt} {st : gSt} {b : List (Nat × Nat)} {l : List (Nat × gU)} {i j t n : Nat} {k : List Nat} {w : List (Nat × Nat) × List (Nat × gU)} {P : Nat × Nat × Nat → Prop}
theorem flR_up (h : flR S j st) (x : xtS S S') : flR S' j st := ⟨fun c => by
  obtain ⟨s, h1, h2⟩ := h.1 c
  exact ⟨s, by rw [x.2 _ (gt_lt h1)]; exact h1, h2⟩, fun c => by
  obtain ⟨n, s, h0, h1, h2⟩ := h.2 c
  exact ⟨n, s, h0, by rw [x.2 _ (gt_lt h1)]; exact h1, h2⟩⟩
theorem cd_34 {r : gRg} : cdV sN K (E, S, k, r, b, l) (34, i, j) = (E0v, S, k, rg0, b ++ [(S.length, j)], l) := rfl
theorem cd_35 {cu : gU} {su : List gU} {pl tk : Nat} {ro : Bool} {tg : Option Nat} : cdV sN K (E, S, k, (cu, su, pl, ro, tg, tk), w) (35, i, j) = (E, S, k, (cu, su, 35, ro, tg, tk), w) := rfl
theorem cd_36 {cu : gU} {su : List gU} {pl tk : Nat} {ro : Bool} {tg : Option Nat} : cdV sN K (E, S, k, (cu, su, pl, ro, tg, tk), w) (36, i, j) = (E, S, k, (cu, su, 36, ro, tg, tk), w) := rfl
theorem gEe_0 : gEe E0v := ⟨List.Pairwise.nil, fun s hs => (by cases hs), by decide⟩
/-- one thread more -/
theorem WC_th {q : Nat} (h : WC sN K P c) (hB : PBt K 0 0 q N) (nf : ¬ flt sN T V N E0v) (hj : j ≤ 1) : WC sN K P (cds sN K ([(34, i, j)] ++ N) c) ∧ eqE (exs N E0v) E0v := by
  obtain ⟨E, S, r, b, l, rfl, hE, hr, h1, h2, h3⟩ := h
  obtain ⟨b1, b2, b3⟩ := hB sN T V E0v nf gEe_0 rfl
  obtain ⟨S', e, g⟩ := b3 S [] (b ++ [(S.length, j)], l)
  have b2 : exs N E0v = ([], [], q) := b2
  have b1 : gEe ([], [], q) := b1
  have g : SG sN K E0v S ([], [], q) S' := g
  refine ⟨⟨([], [], q), S' ++ [(21, 0, knw ([], [], q), none, none, false, none, none, none)], rg0, b ++ [(S.length, j)], l, ?_, rfl, rfl, ?_, ?_, h3⟩, by rw [b2]; exact ⟨rfl, rfl⟩⟩
  · rw [cds_app, cds_one, cd_34, e]
    rfl
  · have x1 : xtS S' (S' ++ [(21, 0, knw ([], [], q), none, none, false, none, none, none)]) := xtS_sn
    have re : ∀ {n : Nat} {a : List Nat}, nxO S' ([], [], q) n a → ∃ st', (S' ++ [((21, 0, knw ([], [], q), none, none, false, none, none, none) : gSt)])[n]? = some st' ∧ slK st'.2.2.1.1 <:+ a := fun {n a} hn => by
      rcases hn with ⟨s, s1, s2⟩ | ⟨s1, s2⟩
      · exact ⟨s, by rw [x1.2 _ (gt_lt s1)]; exact s1, s2⟩
      · exact ⟨_, by rw [s1]; exact snA, s2⟩
    intro j st hs
    by_cases c0 : j < S.length
    · rw [x1.2 j (by have := g.1.1; omega), g.1.2 j c0] at hs
      obtain ⟨p, pq⟩ := h1 j st hs
      exact ⟨flR_up p (xtS_tr g.1 x1), pq⟩
    · by_cases c1 : j < S'.length
      · rw [x1.2 j c1] at hs
        obtain ⟨p, pq⟩ := g.2.2 j st (by omega) hs
        obtain ⟨p1, p2⟩ := p (fun z => z)
        refine ⟨⟨fun z => re (p1 z), fun z => ?_⟩, pq⟩
        obtain ⟨n, n1, n2⟩ := p2 z
        obtain ⟨s, s1, s2⟩ := re n2
        exact ⟨n, s, n1, s1, s2⟩
      · have hl := gt_lt hs
        rw [List.length_append] at hl
        have hl : j < S'.length + 1 := hl
        have ej : j = S'.length := by omega
        rw [ej, snA] at hs
        cases Option.some.inj hs
        exact ⟨⟨fun z => absurd (Or.inr rfl) z, fun z => absurd z (show ¬ (21 = 17 ∨ 21 = 20) by decide)⟩, _, stLk_p (by decide) (fun _ => rfl), b1⟩
  · intro p hp
    rcases List.mem_append.mp hp with hp | hp
    · obtain ⟨⟨s, s1, s2⟩, p2⟩ := h2 p hp
      exact ⟨⟨s, by rw [(xtS_tr g.1 xtS_sn).2 _ (gt_lt s1)]; exact s1, s2⟩, p2⟩
    · rw [List.mem_singleton.mp hp]
      refine ⟨?_, hj⟩
      rcases g.2.1 with ⟨s, s1, s2⟩ | ⟨s1, s2⟩
      · refine ⟨s, by rw [xtS_sn.2 _ (gt_lt s1)]; exact s1, ?_⟩
        have := List.suffix_nil.mp s2
        exact List.map_eq_nil_iff.mp this
      · exact ⟨_, by show (S' ++ [_])[S.length]? = _; rw [s1]; exact snA, rfl⟩
/-- one claim more -/
theorem WC_cl {u : Nat} (hu : u = 35 ∨ u = 36) (h : WC sN K P c) (hs : sEv true N) (hw : sW K 16 N) (hP : ∀ v ∈ N, P v) : WC sN K P (cds sN K ([(u, i, 0)] ++ (N ++ [(54, 0, 0)])) c) := by
  obtain ⟨E, S, ⟨cu, su, pl, ro, tg, tk⟩, b, l, rfl, hE, hr, h1, h2, h3⟩ := h
  have hr : cu = [] := hr
  subst hr
  have e1 : cdV sN K (E, S, [], ([], su, pl, ro, tg, tk), b, l) (u, i, 0) = (E, S, [], ([], su, u, ro, tg, tk), b, l) := by
    rcases hu with rfl | rfl
    · exact cd_35
    · exact cd_36
  have e2 : cds sN K ([(u, i, 0)] ++ (N ++ [(54, 0, 0)])) (E, S, [], ([], su, pl, ro, tg, tk), b, l) = (E, S, [], ([], su, u, ro, tg, tk), b, l ++ [(u, N)]) := by
    rw [cds_app, cds_one, e1, cds_app, cds_sum (r := ([], su, u, ro, tg, tk)) hs (fun _ => hE), cds_one]
    show cdV sN K (E, S, [], ([] ++ N, su, u, ro, tg, tk), b, l) (54, 0, 0) = _
    rw [List.nil_append]
    unfold cdV
    rw [if_neg (by decide), if_neg (by decide), if_pos rfl, if_pos hE]
  rw [e2]
  refine ⟨_, _, _, _, _, rfl, hE, rfl, h1, h2, fun q hq => ?_⟩
  rcases List.mem_append.mp hq with hq | hq
  · exact h3 q hq
  · rw [List.mem_singleton.mp hq]
    exact ⟨⟨hs, hw.1, sW_ok hw (by decide), hw.2.2⟩, hP⟩
def dul (N : gU) : Prop := ∀ v ∈ N, v.1 = 31 ∨ v.1 = 32 ∨ v.1 = 33 ∨ 80 ≤ v.1
theorem dul_app (h : dul M) (g : dul N) : dul (M ++ N) := fun v hv => (List.mem_append.mp hv).elim (h v) (g v)
theorem dul_one {a b c : Nat} (h : a = 31 ∨ a = 32 ∨ a = 33 ∨ 80 ≤ a) : dul [(a, b, c)] := fun v hv => by rw [List.mem_singleton.mp hv]; exact h
theorem pCv_f {q r : Nat × gU} (h : pCv K q = some r) : ∃ N, r.2 = q.2 ++ N ∧ dul N := by
  unfold pCv at h
  split at h
  · split at h
    · split at h
      · split at h
        · cases Option.some.inj h; exact ⟨_, rfl, dul_one (by decide)⟩
        · exact absurd h (by simp)
      · split at h
        · cases Option.some.inj h; exact ⟨_, rfl, dul_one (by decide)⟩
        · exact absurd h (by simp)
    · exact absurd h (by simp)
  · cases Option.some.inj h; exact ⟨_, rfl, dul_one (by decide)⟩
theorem pCl_f {q : Nat × Nat × gU} (h : pCl K V n i t L = some q) : ∃ N, q.2.2 = L ++ N ∧ dul N := by
  have fin : ∀ {v : Nat × Nat × Nat} {p m : Nat}, dul [v] → ((pCv K (p, L ++ [v])).bind (pt K 67)).bind (fun q => some (m, q.1, q.2 ++ [(83, i, t)])) = some q → ∃ N, q.2.2 = L ++ N ∧ dul N := fun {v p m} hv h => by
    obtain ⟨z, hz, e⟩ := Option.bind_eq_some_iff.mp h
    obtain ⟨y, hy, h2⟩ := Option.bind_eq_some_iff.mp hz
    obtain ⟨N, eN, hN⟩ := pCv_f hy
    obtain ⟨-, -, e2⟩ := pt_is h2
    cases Option.some.inj e
    refine ⟨[v] ++ (N ++ [(83, i, t)]), ?_, dul_app hv (dul_app hN (dul_one (by decide)))⟩
    show z.2 ++ [(83, i, t)] = _
    rw [e2]
    show y.2 ++ [(83, i, t)] = _
    rw [eN]
    simp only [List.append_assoc]
  unfold pCl at h
  split at h
  · split at h
    · split at h
      · exact fin (dul_one (by decide)) h
      · exact absurd h (by simp)
    · exact fin (dul_one (by decide)) h
  · exact absurd h (by simp)
theorem WC_no (h : WC sN K P c) (hN : dul N) (hE : eqE E E0v) : WC sN K P (cds sN K N c) ∧ eqE (exs N E) E0v := by
  rw [cds_no hN]
  refine ⟨h, ?_⟩
  rw [exs_still (fun v hv => by have := hN v hv; omega)]
  exact hE
theorem exs_q : ∀ {L : gU} {E E' : gV}, eqE E E' → eqE (exs L E) (exs L E') := by
  intro L
  induction L with
  | nil => intro E E' h; exact h
  | cons v L ih => intro E E' h; exact ih (exV_q h)
theorem eqE_tr {E1 E2 E3 : gV} (a : eqE E1 E2) (b : eqE E2 E3) : eqE E1 E3 := ⟨a.1.trans b.1, a.2.trans b.2⟩
theorem pD_f {n : gN} {q : gN × Nat × gU} (h : pD K V n i L = some q) : ∃ N, q.2.2 = L ++ N ∧ ∀ sN T V' E c P, (∀ v ∈ N, P v) → WC sN K P c → eqE E E0v → ¬ flt sN T V' N E → WC sN K P (cds sN K N c) ∧ eqE (exs N E) E0v := by
  have cell : ∀ t, (pCl K V n.1 i t L).bind (fun q => some ((q.1, n.2), q.2)) = some q → ∃ N, q.2.2 = L ++ N ∧ ∀ sN T V' E c P, (∀ v ∈ N, P v) → WC sN K P c → eqE E E0v → ¬ flt sN T V' N E → WC sN K P (cds sN K N c) ∧ eqE (exs N E) E0v := fun t h => by
    obtain ⟨z, hz, e⟩ := Option.bind_eq_some_iff.mp h
    obtain ⟨N, eN, hN⟩ := pCl_f hz
    cases Option.some.inj e
    exact ⟨N, eN, fun sN T V' E c P _ hc hE _ => WC_no hc hN hE⟩
  have blk : ∀ (t a j : Nat) (v : gN), j ≤ 1 → (pBk (pS K 16) K 0 0 t (L ++ [(34, a, j)])).bind (fun q => some (v, q.2)) = some q → ∃ N, q.2.2 = L ++ N ∧ ∀ sN T V' E c P, (∀ v ∈ N, P v) → WC sN K P c → eqE E E0v → ¬ flt sN T V' N E → WC sN K P (cds sN K N c) ∧ eqE (exs N E) E0v := fun t a j v hj h => by
    obtain ⟨z, hz, e⟩ := Option.bind_eq_some_iff.mp h
    obtain ⟨N, eN, hN⟩ := pBk_f (pS_f 16 (Nat.le_refl _)) hz
    cases Option.some.inj e
    refine ⟨[(34, a, j)] ++ N, by show z.2.2 = _; rw [eN, List.append_assoc], fun sN T V' E c P hP hc hE nf => ?_⟩
    have s34 : still [(34, a, j)] := st_k (by decide)
    obtain ⟨-, nf⟩ := nf_app nf s34
    obtain ⟨r1, r2⟩ := WC_th (i := a) hc hN (fun y => nf ((flt_q hE).mpr y)) hj
    refine ⟨r1, ?_⟩
    rw [exs_app, exs_still s34]
    exact eqE_tr (exs_q hE) r2
  have clm : ∀ (u : Nat) (v : gN), u = 35 ∨ u = 36 → ((pX K true 16 (i + 1) (L ++ [(u, i, 0)])).bind (pt K 67)).bind (fun q => some (v, q)) = some q → ∃ N, q.2.2 = L ++ N ∧ ∀ sN T V' E c P, (∀ v ∈ N, P v) → WC sN K P c → eqE E E0v → ¬ flt sN T V' N E → WC sN K P (cds sN K N c) ∧ eqE (exs N E) E0v := fun u v hu h => by
    obtain ⟨z, hz, e⟩ := Option.bind_eq_some_iff.mp h
    obtain ⟨y, hy, h2⟩ := Option.bind_eq_some_iff.mp hz
    obtain ⟨N, eN, hs, hw⟩ := pX_sW hy
    obtain ⟨-, -, e2⟩ := pt_is h2
    cases Option.some.inj e
    refine ⟨[(u, i, 0)] ++ (N ++ [(54, 0, 0)]), ?_, fun sN T V' E c P hP hc hE _ => ⟨WC_cl hu hc hs hw (fun v hv => hP v (List.mem_append_right _ (List.mem_append_left _ hv))), ?_⟩⟩
    · show z.2 = _
      rw [e2]
      show y.2 = _
      rw [eN, List.append_assoc]
    · rw [exs_still (still_app (st_k (by omega)) (still_app (sEv_st hs) (st_k (by decide))))]
      exact hE
  unfold pD at h
  split at h
  · split at h
    · exact cell _ h
    · exact absurd h (by simp)
  · split at h
    · exact cell _ h
    · split at h
      · split at h
        · cases Option.some.inj h
          exact ⟨[(33, i + 1, 0)], rfl, fun sN T V' E c P _ hc hE _ => WC_no hc (dul_one (by decide)) hE⟩
        · exact absurd h (by simp)
      · split at h
        · split at h
          · exact blk _ _ 1 _ (Nat.le_refl _) h
          · exact absurd h (by simp)
        · split at h
          · split at h
            · exact blk _ _ 0 _ (Nat.zero_le _) h
            · exact absurd h (by simp)
          · split at h
            · split at h
              · exact clm 35 _ (Or.inl rfl) h
              · exact absurd h (by simp)
            · split at h
              · split at h
                · exact clm 36 _ (Or.inr rfl) h
                · exact absurd h (by simp)
              · exact absurd h (by simp)
theorem pAl_f : ∀ (m : Nat) (n : gN) (i : Nat) (L : gU) (q : gN × Nat × gU), pAl K V m n i L = some q → ∃ N, q.2.2 = L ++ N ∧ ∀ sN T V' E c P, (∀ v ∈ N, P v) → WC sN K P c → eqE E E0v → ¬ flt sN T V' N E → WC sN K P (cds sN K N c) := by
  intro m
  induction m with
  | zero => intro n i L q h; exact absurd h (by simp [pAl])
  | succ m ih =>
    intro n i L q h
    rw [pAl] at h
    split at h
    · cases Option.some.inj h
      exact ⟨[], by rw [List.append_nil], fun sN T V' E c P _ hc _ _ => hc⟩
    · obtain ⟨z, hz, h2⟩ := Option.bind_eq_some_iff.mp h
      obtain ⟨M, eM, hM⟩ := pD_f hz
      obtain ⟨N, eN, hN⟩ := ih _ _ _ _ h2
      refine ⟨M ++ N, by rw [eN, eM, List.append_assoc], fun sN T V' E c P hP hc hE nf => ?_⟩
      rw [flt_app] at nf
      obtain ⟨r1, r2⟩ := hM sN T V' E c P (fun v hv => hP v (List.mem_append_left _ hv)) hc hE (fun y => nf (Or.inl y))
      rw [cds_app]
      exact hN sN T V' _ _ P (fun v hv => hP v (List.mem_append_right _ hv)) r1 r2 (fun y => nf (Or.inr y))
theorem cod_ok {n : gN} (h : pAl K V 701 (0, 0, 0, 0, 0) 0 [] = some (n, j, L)) (nf : ¬ jFl sN K V L) : WC sN K (fun v => v ∈ L) (cds sN K L cd0) := by
  obtain ⟨N, eN, hN⟩ := pAl_f _ _ _ _ _ h
  have eN : L = N := eN
  rw [← eN] at hN
  exact hN sN _ V E0v cd0 _ (fun v hv => hv) ⟨E0v, [], rg0, [], [], rfl, rfl, rfl, ⟨fun j st hs => (by cases hs), fun q hq => (by cases hq), fun q hq => (by cases hq)⟩⟩ ⟨rfl, rfl⟩ (fun y => nf (Or.inr y))
end WCL
end
section
/-! the code in numbers, as both sides hold it: the model's side -/
abbrev gQ := Nat × Nat × Int32
/-- op, slots known, next slot, where to, object, row, flag, index, first, second sum -/
abbrev gNs := Nat × List Nat × Nat × Option Nat × Int32 × Int32 × Bool × Option (List gQ) × Option (List gQ) × Option (List gQ)
/-- steps, threads, cells, always, finally -/
abbrev gCo := List gNs × List (Nat × Nat) × List (Int32 × Bool) × List (List gQ) × List (List gQ)
def nQt (sN : Nat → Nat → Bool) (T : gTd) (V K : Nat → Int32) (ks : gK) (v : Nat × Nat × Nat) : Option gQ :=
  if v.1 = 52 then some (1, 0, V v.2.1)
  else if v.1 = 53 then some (3, 0, 0)
  else if v.1 = 3 then some (2, (kfi sN ks v.2.1).getD 0, 0)
  else if v.1 = 6 then some (4, 0, Int32.ofNat (nmT sN 0 v.2.1 T))
  else if v.1 = 12 then some (4, 0, Int32.ofNat (nmT sN 0 v.2.2 T) + V v.2.1)
  else if v.1 = 50 then some (5, 0, K v.2.1)
  else if v.1 = 51 then some (6, 0, K v.2.1)
  else none
def nQs (sN : Nat → Nat → Bool) (T : gTd) (V K : Nat → Int32) (ks : gK) (N : gU) : List gQ := N.filterMap (nQt sN T V K ks)
def nStp (sN : Nat → Nat → Bool) (T : gTd) (V K : Nat → Int32) (st : gSt) : gNs := (st.1, slK st.2.2.1.1, st.2.2.1.2, st.2.2.2.1, mOf sN T V st, mSz sN T st, st.2.2.2.2.2.1, st.2.2.2.2.2.2.1.map (nQs sN T V K st.2.2.1.1), st.2.2.2.2.2.2.2.1.map (nQs sN T V K st.2.2.1.1), st.2.2.2.2.2.2.2.2.map (nQs sN T V K st.2.2.1.1))
def codN (sN : Nat → Nat → Bool) (V K : Nat → Int32) (L : gU) : gCo := ((cds sN K L cd0).2.1.map (nStp sN (L.filterMap (te1 K V)) V K), (cds sN K L cd0).2.2.2.2.1, cel K V L, (clF 35 (cds sN K L cd0).2.2.2.2.2).map (nQs sN (L.filterMap (te1 K V)) V K []), (clF 36 (cds sN K L cd0).2.2.2.2.2).map (nQs sN (L.filterMap (te1 K V)) V K []))
/-- the slot of the local at a place -/
def slN : List Nat → Nat → Nat
  | [], _ => 0
  | s :: r, p => if p = r.length then s else slN r p
def kmN : List Nat → Int32
  | [] => 0
  | s :: r => kmN r ||| (1 <<< (Int32.ofNat s &&& 31))
def mQp (sl : List Nat) (q : gQ) : Int32 × Int32 := if q.1 = 2 then (2, Int32.ofNat (slN sl q.2.1)) else (Int32.ofNat q.1, q.2.2)
def mNs (w : gd) (sl : List Nat) (v : Int32) : Option (List gQ) → Prop
  | none => v = -1
  | some Q => SUm w v (Q.map (mQp sl))
def mNt (st : gNs) : Int32 := match st.2.2.2.1 with
  | none => -1
  | some n => if st.1 = 17 ∨ st.1 = 20 then Int32.ofNat n else Int32.ofNat (if n = st.2.1.length then st.2.2.1 else slN st.2.1 n)
def mN (w : gd) (j : Nat) (st : gNs) : Prop := w.1 54 j = mWh st.1 ∧ (st.1 < 16 → w.1 55 j = Int32.ofNat st.1) ∧ w.1 56 j = st.2.2.2.2.1 ∧ w.1 57 j = st.2.2.2.2.2.1 ∧ mNs w st.2.1 (w.1 58 j) st.2.2.2.2.2.2.2.1 ∧ mNs w st.2.1 (w.1 59 j) st.2.2.2.2.2.2.2.2.1 ∧ mNs w st.2.1 (w.1 60 j) st.2.2.2.2.2.2.2.2.2 ∧ w.1 61 j = mNt st ∧ w.1 62 j = kmN st.2.1
def MK (w : gd) (C : gCo) : Prop := ((w.1 0 52).toInt = C.1.length ∧ ∀ j st, C.1[j]? = some st → mN w j st) ∧ ((w.1 0 25).toInt = C.2.1.length ∧ ∀ (t : Nat) (q : Nat × Nat), C.2.1[t]? = some q → (w.1 64 t).toInt = q.1 ∧ w.1 38 t = Int32.ofNat q.2) ∧ ((w.1 0 23).toInt = C.2.2.1.length ∧ ∀ j q, C.2.2.1[j]? = some q → w.1 36 j = q.1 ∧ w.1 37 j = if q.2 = true then 1 else 0) ∧ (∀ k Q, C.2.2.2.1[k]? = some Q → SUm w (w.1 65 k) (Q.map (mQp []))) ∧ ∀ k Q, C.2.2.2.2[k]? = some Q → SUm w (w.1 66 k) (Q.map (mQp []))
section CNM
variable {sN : Nat → Nat → Bool} {T : gTd} {V K : Nat → Int32} {w : gd} {L N : gU} {ks : gK} {v : Nat × Nat × Nat} {st : gSt}
theorem slt_N : ∀ {ks : gK} {p : Nat}, slt ks p = slN (slK ks) p := by
  intro ks
  induction ks with
  | nil => intro p; rfl
  | cons k ks ih =>
    intro p
    show (if p = ks.length then k.2 else slt ks p) = if p = (slK ks).length then k.2 else slN (slK ks) p
    rw [ih, show (slK ks).length = ks.length from List.length_map _]
theorem kms_N : ∀ {ks : gK}, kms ks = kmN (slK ks) := by
  intro ks
  induction ks with
  | nil => rfl
  | cons k ks ih =>
    show kms ks ||| _ = kmN (slK ks) ||| _
    rw [ih]
theorem nPt_N : nPt sN T V K ks v = (nQt sN T V K ks v).map (mQp (slK ks)) := by
  unfold nPt nQt
  split
  · rfl
  · split
    · rfl
    · split
      · show some (2, Int32.ofNat (slt ks _)) = some (2, Int32.ofNat (slN (slK ks) _))
        rw [slt_N]
      · split
        · rfl
        · split
          · rfl
          · split
            · rfl
            · split
              · rfl
              · rfl
theorem nPs_N : nPs sN T V K ks N = (nQs sN T V K ks N).map (mQp (slK ks)) := by
  unfold nPs nQs
  rw [List.map_filterMap]
  congr 1
  funext v
  exact nPt_N
theorem mSu_N {r : Int32} {o : Option gU} (h : mSu sN T V K w ks r o) : mNs w (slK ks) r (o.map (nQs sN T V K ks)) := by
  cases o with
  | none => exact h
  | some N =>
    have h : SUm w r (nPs sN T V K ks N) := h
    rw [nPs_N] at h
    exact h
theorem mTo_N : mTo st = mNt (nStp sN T V K st) := by
  unfold mTo mNt
  show (match st.2.2.2.1 with | none => (-1 : Int32) | some n => if st.1 = 17 ∨ st.1 = 20 then Int32.ofNat n else Int32.ofNat (slP st.2.2.1 n)) = match st.2.2.2.1 with | none => (-1 : Int32) | some n => if st.1 = 17 ∨ st.1 = 20 then Int32.ofNat n else Int32.ofNat (if n = (slK st.2.2.1.1).length then st.2.2.1.2 else slN (slK st.2.2.1.1) n)
  cases st.2.2.2.1 with
  | none => rfl
  | some n =>
    show (if st.1 = 17 ∨ st.1 = 20 then Int32.ofNat n else Int32.ofNat (if n = st.2.2.1.1.length then st.2.2.1.2 else slt st.2.2.1.1 n)) = if st.1 = 17 ∨ st.1 = 20 then Int32.ofNat n else Int32.ofNat (if n = (slK st.2.2.1.1).length then st.2.2.1.2 else slN (slK st.2.2.1.1) n)
    rw [slt_N, show (slK st.2.2.1.1).length = st.2.2.1.1.length from List.length_map _]
theorem MCo_MK (h : MCo sN V K L w) : MK w (codN sN V K L) := by
  obtain ⟨⟨h1, h1'⟩, h2, h3, h4, h5⟩ := h
  refine ⟨⟨by rw [h1]; show _ = (((cds sN K L cd0).2.1.map _).length : Int); rw [List.length_map], fun j st hj => ?_⟩, h2, h3, fun k Q hQ => ?_, fun k Q hQ => ?_⟩
  · have hj : ((cds sN K L cd0).2.1.map (nStp sN (L.filterMap (te1 K V)) V K))[j]? = some st := hj
    rw [List.getElem?_map] at hj
    obtain ⟨s0, g0, e⟩ := Option.map_eq_some_iff.mp hj
    subst e
    obtain ⟨a1, a2, a3, a4, a5, a6, a7, a8, a9⟩ := h1' j s0 g0
    exact ⟨a1, a2, a3, a4, mSu_N a5, mSu_N a6, mSu_N a7, by rw [a8]; exact mTo_N, by rw [a9]; exact kms_N⟩
  · have hQ : ((clF 35 (cds sN K L cd0).2.2.2.2.2).map (nQs sN (L.filterMap (te1 K V)) V K []))[k]? = some Q := hQ
    rw [List.getElem?_map] at hQ
    obtain ⟨N, g0, e⟩ := Option.map_eq_some_iff.mp hQ
    subst e
    have a := h4 k N g0
    rw [nPs_N] at a
    exact a
  · have hQ : ((clF 36 (cds sN K L cd0).2.2.2.2.2).map (nQs sN (L.filterMap (te1 K V)) V K []))[k]? = some Q := hQ
    rw [List.getElem?_map] at hQ
    obtain ⟨N, g0, e⟩ := Option.map_eq_some_iff.mp hQ
    subst e
    have a := h5 k N g0
    rw [nPs_N] at a
    exact a
end CNM
end
section
/-! the class: names are put in, the code is well -/
/-- a compiled step -/
def CSa (x : gd) (i : Nat) : Prop := (sop x i ≤ 4 → 0 ≤ (x.1 85 i).toInt ∧ (x.1 85 i).toInt + 1 ≤ (x.1 60 6).toInt ∧ (x.1 85 i).toInt + (x.1 86 i).toInt ≤ (x.1 60 6).toInt) ∧ (5 ≤ sop x i → sop x i ≤ 8 → 0 ≤ (x.1 85 i).toInt ∧ (x.1 85 i).toInt < (x.1 60 9).toInt) ∧ (9 ≤ sop x i → sop x i ≤ 10 → 0 ≤ (x.1 85 i).toInt ∧ (x.1 85 i).toInt < (x.1 60 10).toInt)
def CSb (x : gd) (i : Nat) : Prop := (0 ≤ sop x i ∧ ¬ sop x i = 15) ∧ (0 ≤ (x.1 83 i).toInt ∧ (x.1 83 i).toInt ≤ 8) ∧ ((sop x i = 0 ∨ (2 ≤ sop x i ∧ sop x i ≤ 4) ∨ sop x i = 16) → 0 ≤ stg x i ∧ stg x i < (x.1 60 13).toInt) ∧ ((sop x i = 17 ∨ sop x i = 20) → 0 ≤ stg x i ∧ stg x i < ssm x ∧ (sop x i = 20 → (i : Int) < stg x i ∨ sop x (stg x i).toNat = 17)) ∧ (¬ sop x i = 21 → (i : Int) + 1 < ssm x)
def CO (x : gd) : Prop := ((0 ≤ (x.1 60 6).toInt ∧ (x.1 60 6).toInt ≤ 24) ∧ (0 ≤ (x.1 60 9).toInt ∧ (x.1 60 9).toInt ≤ 6) ∧ (0 ≤ (x.1 60 10).toInt ∧ (x.1 60 10).toInt ≤ 6) ∧ (0 ≤ (x.1 60 13).toInt ∧ (x.1 60 13).toInt ≤ 8) ∧ (0 ≤ (x.1 60 14).toInt ∧ (x.1 60 14).toInt ≤ 4) ∧ (0 ≤ (x.1 60 16).toInt ∧ (x.1 60 16).toInt ≤ 4)) ∧ ((0 ≤ (x.1 60 3).toInt ∧ (x.1 60 3).toInt ≤ 800) ∧ ∀ i : Nat, (i : Int) < (x.1 60 3).toInt → x.1 62 i = 2 → 0 ≤ (x.1 63 i).toInt ∧ (x.1 63 i).toInt < 24) ∧ (0 ≤ ssm x ∧ ssm x ≤ 350) ∧ (∀ i : Nat, (i : Int) < ssm x → CSa x i ∧ CSb x i) ∧ ∀ t : Nat, (t : Int) < (x.1 60 10).toInt → 0 ≤ (x.1 72 t).toInt ∧ (x.1 72 t).toInt < ssm x
section KLK
variable {G : kG} {q : kP} {d : Nat} {x x0 y z : gd} {F : Int32 → gd → Prop} {Fv : gd → Prop}
end KLK
end
section
/-! the class: what link does -/
/-- a step's name becomes its cell (and its row's size), lock, thread -/
def LK1 (x y : gd) (j : Nat) : Prop := (sop x j ≤ 10 → ∃ t : Nat, (x.1 85 j).toInt = (t : Nat) ∧ (t : Int) < mt x ∧ ((sop x j ≤ 4 → x.1 42 t = 6 ∨ x.1 42 t = 7) ∧ (5 ≤ sop x j → sop x j ≤ 8 → x.1 42 t = 4) ∧ (9 ≤ sop x j → x.1 42 t = 5)) ∧ (sop x j ≤ 4 → y.1 85 j = x.1 45 (x.1 43 t).toNatClampNeg ∧ y.1 86 j = x.1 46 (x.1 43 t).toNatClampNeg) ∧ (¬ sop x j ≤ 4 → y.1 85 j = x.1 43 t)) ∧ (¬ sop x j ≤ 10 → y.1 85 j = x.1 85 j)
/-- a cell in a claim becomes its number -/
def LK2 (x y : gd) (i : Nat) : Prop := (x.1 62 i = 6 → ∃ t : Nat, (x.1 63 i).toInt = (t : Nat) ∧ (t : Int) < mt x ∧ (x.1 42 t = 6 ∨ x.1 42 t = 7) ∧ (x.1 42 t = 7 → x.1 23 (t + 2) = 3 ∧ (t : Int) + 2 < mt x) ∧ y.1 62 i = 2 ∧ y.1 63 i = x.1 45 (x.1 43 t).toNatClampNeg + (if x.1 42 t = 7 then x.1 27 (t + 2) else 0)) ∧ (¬ x.1 62 i = 6 → y.1 62 i = x.1 62 i ∧ y.1 63 i = x.1 63 i)
section KLKF
variable {G : kG} {q : kP} {d : Nat} {x x0 y z : gd} {F : Int32 → gd → Prop} {Fv : gd → Prop}
theorem kf_link (hq : kV q) (hB : OT x0 x) (hJ : ∀ j : Nat, (j : Int) < mt x → JM x j) (h : ∀ y, CO y → fm (fun c k => c = 85 ∨ c = 86 ∨ c = 62 ∨ c = 63) x y → (∀ j : Nat, (j : Int) < ssm x → LK1 x y j) → (∀ i : Nat, (i : Int) < (x.1 60 3).toInt → LK2 x y i) → Fv y) : KT G q d zk_X7_link 0 [(0, vr 100)] [] x (rv Fv) := by
  obtain ⟨⟨hR, hU, hsp, hP⟩, hF, ⟨-, hN, hC, ⟨s0, hA⟩, hTS⟩, hSC, h5, -, acc⟩ := hB
  obtain ⟨hT, b1, b2, b3⟩ := hR
  have b4 : mt x ≤ 701 := by obtain ⟨-, n, en, hn, -⟩ := hT; unfold mt; omega
  have k10 : (10 : Int32).toInt = 10 := rfl
  have k4 : (4 : Int32).toInt = 4 := rfl
  have k2 : (2 : Int32).toInt = 2 := rfl
  have nbu : ¬ BU x := by
    rintro ⟨j, j1, j2⟩
    have := (hJ j (by omega)).1
    rcases j2 with e | e | e | e <;> rw [e] at this <;> revert this <;> decide
  have sm350 : ssm x ≤ 350 := by omega
  -- the steps that hold names still
  have step : ∀ i : Nat, (i : Int) < ssm x → sop x i ≤ 10 → ∃ t : Nat, (x.1 85 i).toInt = t ∧ (t : Int) < mt x ∧ (sop x i ≤ 4 → 0 ≤ (x.1 43 t).toInt ∧ (x.1 43 t).toInt < (x.1 40 6).toInt) ∧ (5 ≤ sop x i → sop x i ≤ 8 → 0 ≤ (x.1 43 t).toInt ∧ (x.1 43 t).toInt < (x.1 60 9).toInt) ∧ (9 ≤ sop x i → 0 ≤ (x.1 43 t).toInt ∧ (x.1 43 t).toInt < (x.1 60 10).toInt) ∧ ((sop x i ≤ 4 → x.1 42 t = 6 ∨ x.1 42 t = 7) ∧ (5 ≤ sop x i → sop x i ≤ 8 → x.1 42 t = 4) ∧ (9 ≤ sop x i → x.1 42 t = 5)) := by
    intro i hi ho
    obtain ⟨-, -, hs, -⟩ := hA i hi
    obtain ⟨t, t1, t2, t3, t4, t5⟩ := hs ho
    obtain ⟨j1, j2, j3, j4, -⟩ := hJ t (by omega)
    refine ⟨t, t1, by omega, fun c => j4 ?_, fun c1 c2 => ?_, fun c => ?_, fun c => ?_, t4, t5⟩
    · rcases t3 c with e | e | e | e
      · exact Or.inl e
      · exact Or.inr e
      · exfalso; rw [e] at j1; revert j1; decide
      · exfalso; rw [e] at j1; revert j1; decide
    · rw [hC.2.1]; exact j2 (t4 c1 c2)
    · rw [hC.2.2.1]; exact j3 (t5 c)
    · rcases t3 c with e | e | e | e
      · exact Or.inl e
      · exact Or.inr e
      · exfalso; rw [e] at j1; revert j1; decide
      · exfalso; rw [e] at j1; revert j1; decide
  -- sums
  have part : ∀ i : Nat, (i : Int) < (x.1 60 3).toInt → x.1 62 i = 6 → ∃ t : Nat, (x.1 63 i).toInt = t ∧ (t : Int) < mt x ∧ (0 ≤ (x.1 43 t).toInt ∧ (x.1 43 t).toInt < (x.1 40 6).toInt) ∧ (x.1 42 t = 7 → (t : Int) + 2 < mt x ∧ 0 ≤ (x.1 27 (t + 2)).toInt ∧ (x.1 27 (t + 2)).toInt < (x.1 46 (x.1 43 t).toNatClampNeg).toInt) ∧ (x.1 42 t = 6 ∨ x.1 42 t = 7) ∧ (x.1 42 t = 7 → x.1 23 (t + 2) = 3) := by
    intro i hi c
    obtain ⟨t, t1, t2, t3⟩ := (hP i hi).2 c
    obtain ⟨-, -, -, j4, -⟩ := hJ t (by omega)
    refine ⟨t, t1, by omega, j4 (t3.imp id (fun e => e.1)), fun c7 => ?_, t3.imp id (fun e => e.1), fun c7 => ?_⟩
    rotate_left 1
    · rcases t3 with e | ⟨-, e2, e3, e4⟩
      · rw [c7] at e; exact absurd e (by decide)
      · exact e4
    rcases t3 with e | ⟨-, e2, e3, e4⟩
    · rw [c7] at e; exact absurd e (by decide)
    · obtain ⟨-, -, -, -, j5⟩ := hJ (t + 2) (by push_cast; omega)
      have := j5 e3
      rw [Nat.add_sub_cancel] at this
      obtain ⟨-, n, en, hn, hw, -⟩ := hT
      exact ⟨by omega, (hw (t + 2) (by unfold mt at *; omega)).2.2 e4, this⟩
  have cell : ∀ m : Int32, 0 ≤ m.toInt → m.toInt < (x.1 40 6).toInt → vp_in m 24 ∧ 0 ≤ (x.1 45 m.toNatClampNeg).toInt ∧ (x.1 45 m.toNatClampNeg).toInt + 1 ≤ (x.1 60 6).toInt ∧ 0 ≤ (x.1 46 m.toNatClampNeg).toInt ∧ (x.1 45 m.toNatClampNeg).toInt + (x.1 46 m.toNatClampNeg).toInt ≤ (x.1 60 6).toInt := by
    intro m m0 m1
    have := hN.1.2
    obtain ⟨-, p2, p3, p4, p5, p6⟩ := hN.2.2.2.1 m.toNatClampNeg (by rw [t_cl]; omega)
    exact ⟨by rw [vp_in_iff]; omega, p2, p5, p3, p6⟩
  have c24 := hC.1
  -- the second loop
  have loop2 : ∀ (n k : Nat) (i : Int32) (y : gd), i.toInt = k → (k : Int) + n = (x.1 60 3).toInt → fm (fun c j => c = 85 ∨ c = 86 ∨ ((c = 62 ∨ c = 63) ∧ j < k)) x y → (∀ j : Nat, (j : Int) < ssm x → CSa y j) → (∀ j : Nat, j < k → y.1 62 j = 2 → 0 ≤ (y.1 63 j).toInt ∧ (y.1 63 j).toInt < 24) → (∀ j : Nat, (j : Int) < ssm x → LK1 x y j) → (∀ j : Nat, j < k → LK2 x y j) → KT G q d zk_X7_link 134 [(0, vr 100), (1, vi i)] [] y (rv Fv) := by
    have fin : ∀ (k : Nat) (y : gd), (k : Int) = (x.1 60 3).toInt → fm (fun c j => c = 85 ∨ c = 86 ∨ ((c = 62 ∨ c = 63) ∧ j < k)) x y → (∀ j : Nat, (j : Int) < ssm x → CSa y j) → (∀ j : Nat, j < k → y.1 62 j = 2 → 0 ≤ (y.1 63 j).toInt ∧ (y.1 63 j).toInt < 24) → (∀ j : Nat, (j : Int) < ssm x → LK1 x y j) → (∀ j : Nat, j < k → LK2 x y j) → Fv y := by
      intro k y ek fy hy1 hy2 hl1 hl2
      have e60 : ∀ j, y.1 60 j = x.1 60 j := fun j => fy _ _ (by omega)
      have es : ssm y = ssm x := by unfold ssm; rw [fy 80 9 (by omega)]
      have ep : ∀ j, sop y j = sop x j := fun j => by unfold sop; rw [fy 81 j (by omega)]
      have et : ∀ j, stg y j = stg x j := fun j => by unfold stg; rw [fy 84 j (by omega)]
      refine h y ⟨?_, ?_, by omega, fun i hi => ⟨hy1 i (by omega), ?_⟩, fun t ht => ?_⟩ (fm_w fy (fun c j q => by omega)) hl1 (fun i hi => hl2 i (by omega))
      · rw [e60, e60, e60, e60, e60, e60]
        refine ⟨hC.1, ?_, ?_, hC.2.2.2.2.2.1, hC.2.2.2.1, hC.2.2.2.2.1⟩
        · rw [hC.2.1]; exact hN.2.1
        · rw [hC.2.2.1]; exact hN.2.2.1
      · rw [e60]
        exact ⟨hsp, fun i hi c => hy2 i (by omega) c⟩
      · unfold CSb
        rw [ep, et, es, e60, ep, fy 83 i (by omega)]
        obtain ⟨a1, a2, -, a4⟩ := hA i (by omega)
        refine ⟨a1, a2, fun c => ?_, fun c => ?_, fun c => ?_⟩
        · rcases a4 c with g | g
          · exact g
          · exact absurd g nbu
        · rcases hSC i (by omega) (fun e => e) c with ⟨-, g, -⟩ | ⟨g1, g2, g3, g4⟩
          · exact absurd h5 g
          · exact ⟨g1, g3 h5, g4⟩
        · rcases hTS.2 h5 with g | g
          · omega
          · by_cases hl : (i : Int) + 1 < ssm x
            · exact hl
            · exfalso
              have : i = (ssm x).toNat - 1 := by omega
              apply c
              unfold sop
              rw [this, g]; rfl
      · rw [e60] at ht
        rw [fy 72 t (by omega), es]
        obtain ⟨p1, -, p3⟩ := hTS.1 t ht
        exact ⟨p1, p3 h5⟩
    intro n
    induction n with
    | zero =>
      intro k i y ei hk fy hy1 hy2 hl1 hl2
      refine kg_X7_link_134 hq _ ⟨fun _ => rv_i (fin k y (by omega) fy hy1 hy2 hl1 hl2), fun c => ?_⟩
      exfalso; rw [fy 60 3 (by omega), t_le] at c; omega
    | succ n ih =>
      intro k i y ei hk fy hy1 hy2 hl1 hl2
      have eN : i.toNatClampNeg = k := by rw [t_cl, ei]; rfl
      have e1 : (i + 1).toInt = ((k + 1 : Nat) : Int) := by rw [t_add (by show _ ≤ _ + (1 : Int); omega) (by show _ + (1 : Int) ≤ _; omega), ei]; rfl
      have vi9 : vp_in i 800 := by rw [vp_in_iff]; omega
      refine kg_X7_link_134 hq _ ⟨fun c => ?_, fun c => ⟨vi9, vi9, ?_⟩⟩
      · exfalso; rw [fy 60 3 (by omega), t_le] at c; omega
      rw [eN, fy 62 k (by omega), fy 63 k (by omega)]
      refine ⟨fun c6 => ih (k + 1) (i + 1) y e1 (by push_cast; omega) (fm_w fy (fun c j q => by omega)) hy1 (fun j hj c2 => ?_) hl1 (fun j hj => (by
        by_cases hjk : j = k
        · rw [hjk]; exact ⟨fun c => absurd c c6, fun _ => ⟨fy 62 k (by omega), fy 63 k (by omega)⟩⟩
        · exact hl2 j (by omega))), fun c6 => ?_⟩
      · by_cases hjk : j = k
        · rw [hjk] at c2 ⊢
          rw [fy 62 k (by omega)] at c2
          rw [fy 63 k (by omega)]
          rcases (hP k (by omega)).1 c2 with g | g
          · exact g
          · exact absurd g nbu
        · exact hy2 j (by omega) c2
      obtain ⟨t, t1, t2, ⟨m0, m1⟩, t3, t46, t47⟩ := part k (by omega) c6
      have tN : (x.1 63 k).toNatClampNeg = t := by rw [t_cl, t1]; rfl
      have vt : vp_in (x.1 63 k) 702 := by rw [vp_in_iff]; omega
      obtain ⟨q1, q2, q3, q4, q5⟩ := cell _ m0 m1
      have p198 : ∀ s : Int32, s = (if x.1 42 t = 7 then x.1 27 (t + 2) else 0) → 0 ≤ s.toInt → (x.1 45 (x.1 43 t).toNatClampNeg).toInt + s.toInt < 24 → KT G q d zk_X7_link 198 [(0, vr 100), (1, vi i), (2, vi (x.1 63 k))] [vi s] y (rv Fv) := by
        intro s hs s0' s1
        refine kg_X7_link_198 hq _ _ _ ⟨vi9, fun x2 e2 => ⟨vt, ?_⟩⟩
        rw [tN, eN]
        have f2 : ∀ c j, c ≠ 62 → x2.1 c j = y.1 c j := fun c j hc => by rw [e2, si_cell hc]
        rw [f2 43 t (by decide), fy 43 t (by omega), f2 45 _ (by decide), fy 45 _ (by omega)]
        refine ⟨q1, vi9, fun x6 e6 => ?_⟩
        rw [eN] at e2
        have es : (x.1 45 (x.1 43 t).toNatClampNeg + s).toInt = (x.1 45 (x.1 43 t).toNatClampNeg).toInt + s.toInt := t_add (by omega) (by omega)
        refine ih (k + 1) (i + 1) x6 e1 (by push_cast; omega) ?_ (fun j hj => ?_) (fun j hj c2 => ?_) (fun j hj => ?_) (fun j hj => ?_)
        · rw [e6, e2]; exact fm_si (fm_si (fm_w fy (fun c j q => by omega)) (by omega)) (by omega)
        · have := hy1 j hj
          unfold CSa sop at this ⊢
          have g : ∀ c j, c ≠ 62 → c ≠ 63 → x6.1 c j = y.1 c j := fun c j h1 h2 => by rw [e6, si_cell h2, f2 c j h1]
          rw [g 81 j (by decide) (by decide), g 85 j (by decide) (by decide), g 86 j (by decide) (by decide), g 60 6 (by decide) (by decide), g 60 9 (by decide) (by decide), g 60 10 (by decide) (by decide)]
          exact this
        · by_cases hjk : j = k
          · have : x6.1 63 j = x.1 45 (x.1 43 t).toNatClampNeg + s := by rw [hjk, e6]; (simp only [si_get, sfl_get, Nat.reduceEqDiff, eq_self, and_false, false_and, and_true, true_and, if_true, if_false, reduceIte, reduceCtorEq])
            rw [this, es]; omega
          · have a1 : x6.1 63 j = y.1 63 j := by rw [e6, si_get, if_neg (fun q => hjk q.2), f2 63 j (by decide)]
            have a2 : x6.1 62 j = y.1 62 j := by rw [e6, si_cell (by decide), e2, si_get, if_neg (fun q => hjk q.2)]
            rw [a1]; rw [a2] at c2
            exact hy2 j (by omega) c2
        · have := hl1 j hj
          have g : ∀ c j, c ≠ 62 → c ≠ 63 → x6.1 c j = y.1 c j := fun c j h1 h2 => by rw [e6, si_cell h2, f2 c j h1]
          unfold LK1 at this ⊢
          rw [g 85 j (by decide) (by decide), g 86 j (by decide) (by decide)]
          exact this
        · by_cases hjk : j = k
          · rw [hjk]
            refine ⟨fun _ => ⟨t, t1, t2, t46, fun c7 => ⟨t47 c7, (t3 c7).1⟩, ?_, ?_⟩, fun c => absurd c6 c⟩
            · rw [e6, si_cell (by decide), e2]; (simp only [si_get, sfl_get, Nat.reduceEqDiff, eq_self, and_false, false_and, and_true, true_and, if_true, if_false, reduceIte, reduceCtorEq])
            · rw [e6, hs]; (simp only [si_get, sfl_get, Nat.reduceEqDiff, eq_self, and_false, false_and, and_true, true_and, if_true, if_false, reduceIte, reduceCtorEq])
          · have a1 : x6.1 63 j = y.1 63 j := by rw [e6, si_get, if_neg (fun q => hjk q.2), f2 63 j (by decide)]
            have a2 : x6.1 62 j = y.1 62 j := by rw [e6, si_cell (by decide), e2, si_get, if_neg (fun q => hjk q.2)]
            have := hl2 j (by omega)
            unfold LK2 at this ⊢
            rw [a1, a2]
            exact this
      rw [tN, fy 42 t (by omega)]
      refine ⟨vt, fun c7 => p198 0 (by rw [if_neg c7]) (by decide) (by show _ + (0 : Int) < _; omega), fun c7 => ?_⟩
      obtain ⟨g1, g2, g3⟩ := t3 c7
      have e2 : (x.1 63 k + 2).toInt = t + 2 := by rw [t_add (by rw [k2]; omega) (by rw [k2]; omega), k2, t1]
      have e3 : (x.1 63 k + 2).toNatClampNeg = t + 2 := by rw [t_cl, e2]; omega
      rw [e3, fy 27 (t + 2) (by omega)]
      exact ⟨by rw [vp_in_iff]; omega, p198 _ (by rw [if_pos c7]) g2 (by omega)⟩
  -- the first loop
  have loop1 : ∀ (n k : Nat) (i : Int32) (y : gd), i.toInt = k → (k : Int) + n = ssm x → fm (fun c j => (c = 85 ∨ c = 86) ∧ j < k) x y → (∀ j : Nat, j < k → CSa y j) → (∀ j : Nat, j < k → LK1 x y j) → KT G q d zk_X7_link 2 [(0, vr 100), (1, vi i)] [] y (rv Fv) := by
    intro n
    induction n with
    | zero =>
      intro k i y ei hk fy hy1 hl1
      refine kg_X7_link_2 hq _ ⟨fun _ => loop2 (x.1 60 3).toInt.toNat 0 _ y rfl (by omega) (fm_w fy (fun c j q => by omega)) (fun j hj => hy1 j (by omega)) (fun j hj => by omega) (fun j hj => hl1 j (by omega)) (fun j hj => by omega), fun c => ?_⟩
      exfalso; rw [fy 80 9 (by omega), t_le] at c; unfold ssm at hk; omega
    | succ n ih =>
      intro k i y ei hk fy hy1 hl1
      have eN : i.toNatClampNeg = k := by rw [t_cl, ei]; rfl
      have e1 : (i + 1).toInt = ((k + 1 : Nat) : Int) := by rw [t_add (by show _ ≤ _ + (1 : Int); omega) (by show _ + (1 : Int) ≤ _; omega), ei]; rfl
      have vi9 : vp_in i 400 := by rw [vp_in_iff]; omega
      refine kg_X7_link_2 hq _ ⟨fun c => ?_, fun c => ⟨vi9, ?_⟩⟩
      · exfalso; rw [fy 80 9 (by omega), t_le] at c; unfold ssm at hk; omega
      rw [eN, fy 85 k (by omega), fy 81 k (by omega)]
      have keep : ¬ sop x k ≤ 10 → ∀ j : Nat, j < k + 1 → CSa y j := by
        intro hno j hj
        by_cases hjk : j = k
        · unfold CSa
          have : sop y j = sop x k := by unfold sop; rw [hjk, fy 81 k (by omega)]
          rw [this]
          exact ⟨fun c => by omega, fun c1 c2 => by omega, fun c1 c2 => by omega⟩
        · exact hy1 j (by omega)
      have keepL : ¬ sop x k ≤ 10 → ∀ j : Nat, j < k + 1 → LK1 x y j := by
        intro hno j hj
        by_cases hjk : j = k
        · rw [hjk]
          exact ⟨fun c => absurd c hno, fun _ => fy 85 k (by omega)⟩
        · exact hl1 j (by omega)
      have nm : x.1 85 k = -1 → ¬ sop x k ≤ 10 := fun cm ho => by
        obtain ⟨t, t1, -⟩ := step k (by omega) ho
        rw [cm, tm1] at t1; omega
      have nc : (10 : Int32) < x.1 81 k → ¬ sop x k ≤ 10 := fun c10 ho => by
        rw [t_lt, k10] at c10; unfold sop at ho; omega
      refine ⟨fun cm => ih (k + 1) (i + 1) y e1 (by push_cast; omega) (fm_w fy (fun c j q => by omega)) (keep (nm cm)) (keepL (nm cm)), fun cm => ⟨vi9, fun c10 => ih (k + 1) (i + 1) y e1 (by push_cast; omega) (fm_w fy (fun c j q => by omega)) (keep (nc c10)) (keepL (nc c10)), fun c10 => ?_⟩⟩
      rw [t_lt, k10] at c10
      have ho : sop x k ≤ 10 := by unfold sop; omega
      obtain ⟨t, t1, t2, t3, t4, t5, t6⟩ := step k (by omega) ho
      have tN : (x.1 85 k).toNatClampNeg = t := by rw [t_cl, t1]; rfl
      rw [tN, fy 43 t (by omega)]
      have p98 : ∀ (a s r : Int32) (hsv : (sop x k ≤ 4 → s = x.1 45 (x.1 43 t).toNatClampNeg ∧ r = x.1 46 (x.1 43 t).toNatClampNeg) ∧ (¬ sop x k ≤ 4 → s = x.1 43 t)) (hv : (a = 0 → r = 0) ∧ (¬ a = 0 → vp_in (x.1 43 t) 24 ∧ r = x.1 46 (x.1 43 t).toNatClampNeg)), ((sop x k ≤ 4 → 0 ≤ s.toInt ∧ s.toInt + 1 ≤ (x.1 60 6).toInt ∧ s.toInt + r.toInt ≤ (x.1 60 6).toInt) ∧ (5 ≤ sop x k → sop x k ≤ 8 → 0 ≤ s.toInt ∧ s.toInt < (x.1 60 9).toInt) ∧ (9 ≤ sop x k → sop x k ≤ 10 → 0 ≤ s.toInt ∧ s.toInt < (x.1 60 10).toInt)) → KT G q d zk_X7_link 98 [(0, vr 100), (1, vi i), (3, vi (x.1 43 t)), (4, vi a)] [vi s, vi i, vr 85] y (rv Fv) := by
        intro a s r hsv hv hcs
        refine kg_X7_link_98 hq _ _ _ _ _ ⟨vi9, fun x2 e2 => ?_⟩
        rw [eN] at e2 ⊢
        have go : ∀ z, z = si x2 86 k r → KT G q d zk_X7_link 2 [(0, vr 100), (1, vi (i + 1))] [] z (rv Fv) := by
          intro z ez
          refine ih (k + 1) (i + 1) z e1 (by push_cast; omega) ?_ (fun j hj => ?_) (fun j hj => ?_)
          · rw [ez, e2]; exact fm_si (fm_si (fm_w fy (fun c j q => by omega)) (by omega)) (by omega)
          · have g : ∀ c j, c ≠ 85 → c ≠ 86 → z.1 c j = y.1 c j := fun c j h1 h2 => by rw [ez, si_cell h2, e2, si_cell h1]
            by_cases hjk : j = k
            · have z5 : z.1 85 j = s := by rw [hjk, ez, e2]; (simp only [si_get, sfl_get, Nat.reduceEqDiff, eq_self, and_false, false_and, and_true, true_and, if_true, if_false, reduceIte, reduceCtorEq])
              have z6 : z.1 86 j = r := by rw [hjk, ez]; (simp only [si_get, sfl_get, Nat.reduceEqDiff, eq_self, and_false, false_and, and_true, true_and, if_true, if_false, reduceIte, reduceCtorEq])
              unfold CSa
              have : sop z j = sop x k := by unfold sop; rw [hjk, g 81 k (by decide) (by decide), fy 81 k (by omega)]
              rw [this, z5, z6, g 60 6 (by decide) (by decide), g 60 9 (by decide) (by decide), g 60 10 (by decide) (by decide), fy 60 6 (by omega), fy 60 9 (by omega), fy 60 10 (by omega)]
              exact hcs
            · have := hy1 j (by omega)
              unfold CSa sop at this ⊢
              have z5 : z.1 85 j = y.1 85 j := by rw [ez, si_cell (by decide), e2, si_get, if_neg (fun q => hjk q.2)]
              have z6 : z.1 86 j = y.1 86 j := by rw [ez, si_get, if_neg (fun q => hjk q.2), e2, si_cell (by decide)]
              rw [z5, z6, g 81 j (by decide) (by decide), g 60 6 (by decide) (by decide), g 60 9 (by decide) (by decide), g 60 10 (by decide) (by decide)]
              exact this
          · by_cases hjk : j = k
            · have z5 : z.1 85 j = s := by rw [hjk, ez, e2]; (simp only [si_get, sfl_get, Nat.reduceEqDiff, eq_self, and_false, false_and, and_true, true_and, if_true, if_false, reduceIte, reduceCtorEq])
              have z6 : z.1 86 j = r := by rw [hjk, ez]; (simp only [si_get, sfl_get, Nat.reduceEqDiff, eq_self, and_false, false_and, and_true, true_and, if_true, if_false, reduceIte, reduceCtorEq])
              rw [hjk] at z5 z6 ⊢
              unfold LK1
              rw [z5, z6]
              exact ⟨fun _ => ⟨t, t1, t2, t6, hsv.1, hsv.2⟩, fun c => absurd ho c⟩
            · have := hl1 j (by omega)
              unfold LK1 at this ⊢
              have z5 : z.1 85 j = y.1 85 j := by rw [ez, si_cell (by decide), e2, si_get, if_neg (fun q => hjk q.2)]
              have z6 : z.1 86 j = y.1 86 j := by rw [ez, si_get, if_neg (fun q => hjk q.2), e2, si_cell (by decide)]
              rw [z5, z6]
              exact this
        refine ⟨fun c0 => ⟨vi9, fun z ez => go z (by rw [ez, hv.1 c0])⟩, fun c0 => ⟨(hv.2 c0).1, vi9, fun z ez => go z ?_⟩⟩
        rw [ez, (hv.2 c0).2, e2, si_cell (by decide), fy 46 _ (by omega)]
      refine ⟨by rw [vp_in_iff]; omega, vi9, fun c4 => ?_, fun c4 => ?_⟩
      · rw [t_lt, k4] at c4
        refine kg_X7_link_70 hq _ _ _ ⟨fun _ => p98 0 _ 0 ⟨fun c => absurd c (by unfold sop; omega), fun _ => rfl⟩ ⟨fun _ => rfl, fun q => absurd rfl q⟩ ⟨fun c => ?_, t4, fun c1 _ => t5 c1⟩, fun q => absurd rfl q⟩
        unfold sop at c; omega
      · rw [t_lt, k4] at c4
        have h4 : sop x k ≤ 4 := by unfold sop; omega
        obtain ⟨m0, m1⟩ := t3 h4
        obtain ⟨q1, q2, q3, q4, q5⟩ := cell _ m0 m1
        refine kg_X7_link_70 hq _ _ _ ⟨fun q => absurd q (by decide), fun _ => ⟨q1, ?_⟩⟩
        rw [fy 45 _ (by omega)]
        exact p98 1 _ _ ⟨fun _ => ⟨rfl, rfl⟩, fun c => absurd h4 c⟩ ⟨fun q => absurd q (by decide), fun _ => ⟨q1, rfl⟩⟩ ⟨fun _ => ⟨q2, q3, q5⟩, fun c1 _ => by omega, fun c1 _ => by omega⟩
  exact kg_X7_link_0 hq (loop1 (ssm x).toNat 0 _ x rfl (by omega) (fm_rf _ _) (fun j hj => by omega) (fun j hj => by omega))
end KLKF
end
section
/-! the class: what is linked, in numbers -/
def cQ (q : gQ) : Int32 × Int32 := if q.1 = 1 then (1, q.2.2) else if q.1 = 2 then (2, Int32.ofNat q.2.1) else if q.1 = 3 then (3, 0) else if q.1 = 4 then (2, q.2.2) else if q.1 = 5 then (if q.2.2 = 29 then 5 else 4, 0) else (kcv q.2.2, 0)
def SUk (x : gd) (r : Int32) (P : List (Int32 × Int32)) : Prop := 0 ≤ r.toInt ∧ r.toInt + P.length < (x.1 60 3).toInt ∧ (∀ i q, P[i]? = some q → x.1 62 (r.toNatClampNeg + i) = q.1 ∧ x.1 63 (r.toNatClampNeg + i) = q.2) ∧ x.1 62 (r.toNatClampNeg + P.length) = 0
def kNs (x : gd) (v : Int32) : Option (List gQ) → Prop
  | none => v = -1
  | some Q => SUk x v (Q.map cQ)
def kN (x : gd) (j : Nat) (st : gNs) : Prop := x.1 81 j = Int32.ofNat st.1 ∧ (x.1 83 j).toInt = st.2.1.length ∧ ((st.1 = 0 ∨ (2 ≤ st.1 ∧ st.1 ≤ 4) ∨ st.1 = 16 ∨ st.1 = 17 ∨ st.1 = 20) → tgI (x.1 84 j) st.2.2.2.1) ∧ (st.1 = 8 → (x.1 84 j = 1 ↔ st.2.2.2.2.2.2.1 = true)) ∧ (¬ st.1 = 16 → x.1 85 j = st.2.2.2.2.1) ∧ (st.1 ≤ 4 → ¬ st.2.2.2.2.2.2.2.1 = none → x.1 86 j = st.2.2.2.2.2.1) ∧ kNs x (x.1 87 j) st.2.2.2.2.2.2.2.1 ∧ kNs x (x.1 88 j) st.2.2.2.2.2.2.2.2.1 ∧ kNs x (x.1 89 j) st.2.2.2.2.2.2.2.2.2
def CK (x : gd) (C : gCo) : Prop := ((x.1 80 9).toInt = C.1.length ∧ ∀ j st, C.1[j]? = some st → kN x j st) ∧ ((x.1 60 10).toInt = C.2.1.length ∧ ∀ (t : Nat) (q : Nat × Nat), C.2.1[t]? = some q → (x.1 72 t).toInt = q.1 ∧ x.1 73 t = Int32.ofNat q.2) ∧ ((x.1 60 6).toInt = C.2.2.1.length ∧ ∀ j q, C.2.2.1[j]? = some q → x.1 68 j = q.1 ∧ x.1 69 j = if q.2 = true then 1 else 0) ∧ ((x.1 60 14).toInt = C.2.2.2.1.length ∧ ∀ k Q, C.2.2.2.1[k]? = some Q → SUk x (x.1 76 k) (Q.map cQ)) ∧ ((x.1 60 16).toInt = C.2.2.2.2.length ∧ ∀ k Q, C.2.2.2.2[k]? = some Q → SUk x (x.1 78 k) (Q.map cQ))
/-- what a part becomes -/
def lkF (x : gd) (q : Int32 × Int32) : Int32 × Int32 := if q.1 = 6 then (2, x.1 45 (x.1 43 q.2.toNatClampNeg).toNatClampNeg + (if x.1 42 q.2.toNatClampNeg = 7 then x.1 27 (q.2.toNatClampNeg + 2) else 0)) else q
/-- before it is linked -/
def LPk (sN : Nat → Nat → Bool) (V K : Nat → Int32) (L : gU) (z : gd) : Prop := CCp sN V K z (cds sN K L cd0) (ces K V L (0, 0, [])) (tPs sN V K L E0v) ∧ TBk z (L.filterMap (te1 K V)) ∧ (∀ j : Nat, (j : Int) < mt z → MNg (fun a b => sN a b = true) (L.filterMap (te1 K V)) (z.1 42) (z.1 43) j ∧ ¬ z.1 42 j = 9) ∧ (∀ j, K j = 2 → z.1 27 j = V j) ∧ (∃ n, HAs sN (z.1 42) n L E0v ∧ (n : Int) ≤ mt z) ∧ (tPs sN V K L E0v).length ≤ 700 ∧ mt z ≤ 701
section KMN
variable {sN : Nat → Nat → Bool} {T : gTd} {V K : Nat → Int32} {x y : gd} {L N : gU} {ks : gK} {v : Nat × Nat × Nat} {P Q : List (Int32 × Int32)} {E : gV} {w t : Nat}
theorem nm_at : ∀ {T : gTd} {k : Nat} {q : Nat × Nat × Nat × Nat}, (tdS T w)[k]? = some q → sN q.1 t = true → (∀ (k' : Nat) (q' : Nat × Nat × Nat × Nat), k' < k → (tdS T w)[k']? = some q' → ¬ sN q'.1 t = true) → nmT sN w t T = nbT w ((tdS T w).take k) ∧ mtP sN T w t = some q := by
  intro T
  induction T with
  | nil => intro k q h; cases h
  | cons p T ih =>
    intro k q hq hs hf
    have em : mtP sN (p :: T) w t = if (decide (p.2.1 = w) && sN p.1 t) = true then some p else mtP sN T w t := by
      unfold mtP
      rw [List.find?_cons]
      cases (decide (p.2.1 = w) && sN p.1 t) <;> rfl
    by_cases c : p.2.1 = w
    · have e : tdS (p :: T) w = p :: tdS T w := by
        unfold tdS
        rw [List.filter_cons, if_pos (by simp [c])]
      rw [e] at hq hf ⊢
      cases k with
      | zero =>
        cases Option.some.inj hq
        have b : (decide (p.2.1 = w) && sN p.1 t) = true := by rw [hs]; simp [c]
        rw [em, nmT, if_pos b, if_pos b]
        exact ⟨rfl, rfl⟩
      | succ k =>
        have hq : (tdS T w)[k]? = some q := hq
        have n0 := hf 0 p (Nat.zero_lt_succ _) rfl
        have b : ¬ (decide (p.2.1 = w) && sN p.1 t) = true := by
          intro z
          exact n0 (by simp at z; exact z.2)
        obtain ⟨r1, r2⟩ := ih hq hs (fun k' q' hk' hq' => hf (k' + 1) q' (Nat.succ_lt_succ hk') hq')
        rw [em, nmT, if_neg b, if_neg b, if_pos c, r1, List.take_succ_cons, nbT, if_pos c]
        exact ⟨rfl, r2⟩
    · have e : tdS (p :: T) w = tdS T w := by
        unfold tdS
        rw [List.filter_cons, if_neg (by simp [c])]
      rw [e] at hq hf ⊢
      have b : ¬ (decide (p.2.1 = w) && sN p.1 t) = true := by simp [c]
      obtain ⟨r1, r2⟩ := ih hq hs hf
      rw [em, nmT, if_neg b, if_neg b, if_neg c, Nat.zero_add]
      exact ⟨r1, r2⟩
/-- no name is told twice: the first is the only one -/
theorem nm_is (hS : ∀ a b, sN a b = true → sN b a = true) (hTr : ∀ a b c, sN a b = true → sN b c = true → sN a c = true) (nt : nTw sN T) (srt : T.Pairwise (fun a b => a.1 < b.1)) {k : Nat} {q : Nat × Nat × Nat × Nat} (hq : (tdS T w)[k]? = some q) (hs : sN q.1 t = true) : nmT sN w t T = nbT w ((tdS T w).take k) ∧ mtP sN T w t = some q := by
  refine nm_at hq hs (fun k' q' hk' hq' hs' => ?_)
  have m := (tdS_mem.mp (List.mem_of_getElem? hq)).1
  have m' := (tdS_mem.mp (List.mem_of_getElem? hq')).1
  have e := nTw_one hS hTr nt m' m hs' hs
  have pw : (tdS T w).Pairwise (fun a b => a.1 < b.1) := srt.filter _
  have l := gt_lt hq
  have l' := gt_lt hq'
  have lt := List.pairwise_iff_getElem.mp pw k' k l' l hk'
  rw [List.getElem?_eq_getElem l] at hq
  rw [List.getElem?_eq_getElem l'] at hq'
  rw [Option.some.inj hq, Option.some.inj hq', e] at lt
  exact Nat.lt_irrefl _ lt
theorem nbT_len : ∀ {l : gTd}, (∀ q ∈ l, q.2.1 = w ∧ q.2.2.1 = 0) → nbT w l = l.length := by
  intro l
  induction l with
  | nil => intro _; rfl
  | cons q l ih =>
    intro h
    obtain ⟨a, b⟩ := h q List.mem_cons_self
    rw [nbT, if_pos a, b, ih (fun p hp => h p (List.mem_cons_of_mem _ hp)), List.length_cons]
    show 1 + l.length = l.length + 1
    omega
theorem te_sz {q : Nat × Nat × Nat × Nat} (h : q ∈ L.filterMap (te1 K V)) (h0 : ¬ q.2.1 = 0) : q.2.2.1 = 0 := by
  obtain ⟨v, -, e⟩ := List.mem_filterMap.mp h
  unfold te1 at e
  split at e
  · cases Option.some.inj e; rfl
  · split at e
    · cases Option.some.inj e; exact absurd rfl h0
    · split at e
      · cases Option.some.inj e; rfl
      · split at e
        · cases Option.some.inj e; rfl
        · exact absurd e (by simp)
theorem kcv_6 {k : Int32} (h : ¬ pst k = 0) : ¬ kcv k = 6 := by
  have key : ∀ w ∈ [(30 : Int32), 12, 51, 52, 53, 54, 55, 56, 57, 58, 59, 60, 28], ¬ kcv w = 6 := by decide
  refine key k ?_
  apply Classical.byContradiction
  intro c
  exact h (pst_c (fun w hw e => c (by rw [e]; exact hw)))
theorem fm_cg {α β : Type} {f g : α → Option β} : ∀ {l : List α}, (∀ a ∈ l, f a = g a) → l.filterMap f = l.filterMap g := by
  intro l
  induction l with
  | nil => intro _; rfl
  | cons a l ih =>
    intro h
    rw [List.filterMap_cons, List.filterMap_cons, h a List.mem_cons_self, ih (fun b hb => h b (List.mem_cons_of_mem _ hb))]
/-- a thread's sum -/
theorem sPs_t (hs : sEv false N) (hk : ∀ v ∈ N, v.1 = 3 → ∃ p, kfi sN ks v.2.1 = some p) : sPs sN V K (ks, [0], 0) N = (nQs sN T V K ks N).map cQ := by
  unfold sPs nQs
  rw [List.map_filterMap]
  refine fm_cg (fun v hv => ?_)
  have h3 := hk v hv
  obtain ⟨a, b, c⟩ := v
  rcases hs _ hv with e | e | e | e | ⟨-, e⟩ | ⟨e, -⟩
  · have e : a = 50 := e
    subst e; rfl
  · have e : a = 51 := e
    subst e; rfl
  · have e : a = 52 := e
    subst e; rfl
  · have e : a = 53 := e
    subst e; rfl
  · have e : a = 3 := e
    subst e
    obtain ⟨p, hp⟩ := h3 rfl
    have hp : kfi sN ks b = some p := hp
    show some ((2 : Int32), (match kfi sN ks b with | some p => Int32.ofNat p | none => -1)) = some (2, Int32.ofNat ((kfi sN ks b).getD 0))
    rw [hp]
    rfl
  · cases e
theorem lkF_no {q : Int32 × Int32} (h : ¬ q.1 = 6) : lkF x q = q := if_neg h
theorem sPs_n6 (hs : sEv false N) (hv : ∀ v ∈ N, sVv K v) : ∀ q ∈ sPs sN V K (ks, [0], 0) N, ¬ q.1 = 6 := by
  intro q hq
  obtain ⟨v, hm, e⟩ := List.mem_filterMap.mp hq
  have h51 := (hv v hm).2.1
  obtain ⟨a, b, c⟩ := v
  rcases hs _ hm with e9 | e9 | e9 | e9 | ⟨-, e9⟩ | ⟨e9, -⟩
  · have e9 : a = 50 := e9
    subst e9
    cases Option.some.inj e
    show ¬ (if K b = 29 then (5 : Int32) else 4) = 6
    split <;> decide
  · have e9 : a = 51 := e9
    subst e9
    cases Option.some.inj e
    exact kcv_6 (h51 rfl)
  · have e9 : a = 52 := e9
    subst e9
    cases Option.some.inj e
    show ¬ (1 : Int32) = 6
    decide
  · have e9 : a = 53 := e9
    subst e9
    cases Option.some.inj e
    show ¬ (3 : Int32) = 6
    decide
  · have e9 : a = 3 := e9
    subst e9
    cases Option.some.inj e
    show ¬ (2 : Int32) = 6
    decide
  · cases e9
/-- a sum as it stands when it is linked -/
theorem SUk_lk {r : Int32} (hP : PR x P) (hl : P.length ≤ 700) (l2 : ∀ i : Nat, (i : Int) < (x.1 60 3).toInt → LK2 x y i) (e3 : y.1 60 3 = x.1 60 3) (h : SUc P r Q) : SUk y r (Q.map (lkF x)) := by
  obtain ⟨n, h1, h2⟩ := h
  obtain ⟨p1, p2⟩ := hP
  have hend : P[n + Q.length]? = some (0, 0) := h2 Q.length (0, 0) (by rw [List.getElem?_append_right (Nat.le_refl _), Nat.sub_self]; rfl)
  have le := gt_lt hend
  have er : r.toNatClampNeg = n := by
    rw [t_cl, h1]; omega
  have p3 : (x.1 60 3).toInt = P.length := by rw [p1]; omega
  have one : ∀ i q, P[n + i]? = some q → y.1 62 (n + i) = (lkF x q).1 ∧ y.1 63 (n + i) = (lkF x q).2 := fun i q hq => by
    have lt := gt_lt hq
    obtain ⟨a1, a2⟩ := p2 (n + i) q (by omega) hq
    obtain ⟨k1, k2⟩ := l2 (n + i) (by omega)
    rw [a1, a2] at k1 k2
    unfold lkF
    by_cases c : q.1 = 6
    · obtain ⟨t, t1, -, -, -, t3, t4⟩ := k1 c
      have et : q.2.toNatClampNeg = t := by rw [t_cl, t1]; rfl
      rw [if_pos c, et]
      exact ⟨t3, t4⟩
    · rw [if_neg c]
      exact k2 c
  refine ⟨by omega, ?_, fun i q hq => ?_, ?_⟩
  · rw [e3, List.length_map]; omega
  · rw [List.getElem?_map] at hq
    obtain ⟨q0, g0, e⟩ := Option.map_eq_some_iff.mp hq
    subst e
    rw [er]
    refine one i q0 (h2 i q0 ?_)
    rw [List.getElem?_append_left (gt_lt g0)]
    exact g0
  · rw [er, List.length_map]
    have := (one Q.length (0, 0) hend).1
    rw [lkF_no (by decide)] at this
    exact this
end KMN
end
