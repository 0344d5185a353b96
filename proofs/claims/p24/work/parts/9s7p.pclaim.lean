section
/-! claims: nothing of a thread in them, and cells that there are -/
def n5N (N : gU) : Prop := ∀ v ∈ N, ¬ v.1 = 53 ∧ (v.1 = 12 → (7, v.2.2, 0) ∈ N)
def n5T (L L' : gU) : Prop := ∃ N, L' = L ++ N ∧ n5N N
section NT5
variable {K V : Nat → Int32} {L L' L2 M N : gU} {o : Bool} {sN : Nat → Nat → Bool}
theorem n5N_app (h : n5N M) (g : n5N N) : n5N (M ++ N) := fun v hv => by
  rcases List.mem_append.mp hv with h1 | h1
  · exact ⟨(h v h1).1, fun e => List.mem_append_left _ ((h v h1).2 e)⟩
  · exact ⟨(g v h1).1, fun e => List.mem_append_right _ ((g v h1).2 e)⟩
theorem n5T_rf : n5T L L := ⟨[], by rw [List.append_nil], fun _ h => by cases h⟩
theorem n5T_tr (h : n5T L L') (g : n5T L' L2) : n5T L L2 := by
  obtain ⟨N, e, h⟩ := h
  obtain ⟨N2, e2, g⟩ := g
  exact ⟨N ++ N2, by rw [e2, e, List.append_assoc], n5N_app h g⟩
theorem n5T_k {k a b : Nat} (h : ¬ k = 53) (h' : ¬ k = 12) : n5T L (L ++ [(k, a, b)]) := ⟨_, rfl, fun v hv => by rw [List.mem_singleton.mp hv]; exact ⟨h, fun e => absurd e h'⟩⟩
theorem n5T_7 {i j : Nat} : n5T L (L ++ [(7, i, 0), (12, j, i)]) := ⟨_, rfl, fun v hv => by
  rcases List.mem_cons.mp hv with e | e
  · rw [e]; exact ⟨by show ¬ 7 = 53; decide, fun z => absurd z (by show ¬ 7 = 12; decide)⟩
  · rw [List.mem_singleton.mp e]; exact ⟨by show ¬ 12 = 53; decide, fun _ => List.mem_cons_self⟩⟩
theorem pt_n5T {w : Int32} {q r : Nat × gU} (h : pt K w q = some r) : n5T q.2 r.2 := by
  obtain ⟨-, -, e⟩ := pt_is h
  rw [e]; exact n5T_rf
abbrev ng5 (rE : Nat → Nat → gU → gOp) : Prop := ∀ s i L q, rE s i L = some q → n5T L q.2
theorem pW_n5T {rE : Nat → Nat → gU → gOp} {th : Nat} (hr : ng5 rE) : ∀ (f j : Nat) (L : gU) (q : Nat × gU), pW rE K th f j L = some q → n5T L q.2 := by
  intro f
  induction f with
  | zero => intro j L q h; exact absurd h (by simp [pW])
  | succ f ih =>
    intro j L q h
    rw [pW] at h
    split at h
    · split at h
      · obtain ⟨z, hz, h2⟩ := Option.bind_eq_some_iff.mp h
        exact n5T_tr (hr _ _ _ _ hz) (n5T_tr (n5T_k (by decide) (by decide)) (ih _ _ _ h2))
      · exact absurd h (by simp)
    · cases Option.some.inj h; exact n5T_rf
theorem pO_n5T {rE : Nat → Nat → gU → gOp} (hr : ng5 rE) (ho : o = true) {i : Nat} {q : Nat × gU} (h32 : ¬ K i = 32) (h : pO rE K o i L = some q) : n5T L q.2 := by
  unfold pO at h
  split at h
  · exact absurd h (by simp)
  · split at h
    · cases Option.some.inj h; exact n5T_k (by decide) (by decide)
    · split at h
      · obtain ⟨z, hz, h2⟩ := Option.bind_eq_some_iff.mp h
        exact n5T_tr (hr _ _ _ _ hz) (pt_n5T h2)
      · split at h
        · split at h
          · split at h
            · cases Option.some.inj h; exact n5T_7
            · exact absurd h (by simp)
          · cases Option.some.inj h; exact n5T_k (by decide) (by decide)
        · exact absurd h (by simp)
theorem pE_n5T (ho : o = true) : ∀ f : Nat, ng5 (pE K o f) := by
  intro f
  induction f with
  | zero => intro s i L q h; exact absurd h (by simp [pE])
  | succ f ih =>
    intro s i L q h
    rw [pE] at h
    split at h
    · rename_i hb
      obtain ⟨z, hz, h2⟩ := Option.bind_eq_some_iff.mp h
      refine n5T_tr ?_ (pW_n5T ih _ _ _ _ h2)
      split at hz
      · split at hz
        · obtain ⟨y, hy, h3⟩ := Option.bind_eq_some_iff.mp hz
          cases Option.some.inj h3
          exact n5T_tr (ih _ _ _ _ hy) (n5T_k (by decide) (by decide))
        · exact absurd hz (by simp)
      · refine pO_n5T ih ho (fun e => ?_) hz
        rw [e] at hb
        rcases hb with z | ⟨-, z⟩ | z | z | z | z
        · exact absurd z (by decide)
        · rw [ho] at z; cases z
        · exact absurd z (by decide)
        · exact absurd z (by decide)
        · exact absurd z (by decide)
        · exact absurd z (by decide)
    · exact absurd h (by simp)
theorem pX_n5T {f i : Nat} {q : Nat × gU} (h : pX K true f i L = some q) : n5T L q.2 := by
  obtain ⟨z, hz, h2⟩ := Option.bind_eq_some_iff.mp h
  refine n5T_tr (pE_n5T rfl f _ _ _ _ hz) ?_
  unfold pan at h2
  cases Option.some.inj h2
  exact n5T_k (by decide) (by decide)
/-- the claims so far -/
def WDc (c : gCd) : Prop := ∃ E S r b l, c = (E, S, [], r, b, l) ∧ E.2.1 = [] ∧ r.1 = [] ∧ ∀ q ∈ l, n5N q.2
variable {c : gCd} {i j n t : Nat} {T : gTd} {E : gV}
theorem WDc_th {q : Nat} (h : WDc c) (hB : PBt K 0 0 q N) (nf : ¬ flt sN T V N E0v) : WDc (cds sN K ([(34, i, j)] ++ N) c) ∧ eqE (exs N E0v) E0v := by
  obtain ⟨E, S, r, b, l, rfl, hE, hr, h3⟩ := h
  obtain ⟨b1, b2, b3⟩ := hB sN T V E0v nf gEe_0 rfl
  obtain ⟨S', e, g⟩ := b3 S [] (b ++ [(S.length, j)], l)
  have b2 : exs N E0v = ([], [], q) := b2
  refine ⟨⟨([], [], q), S' ++ [(21, 0, knw ([], [], q), none, none, false, none, none, none)], rg0, b ++ [(S.length, j)], l, ?_, rfl, rfl, h3⟩, by rw [b2]; exact ⟨rfl, rfl⟩⟩
  rw [cds_app, cds_one, cd_34, e]
  rfl
theorem WDc_cl {u : Nat} (hu : u = 35 ∨ u = 36) (h : WDc c) (hs : sEv true N) (hP : n5N N) : WDc (cds sN K ([(u, i, 0)] ++ (N ++ [(54, 0, 0)])) c) := by
  obtain ⟨E, S, ⟨cu, su, pl, ro, tg, tk⟩, b, l, rfl, hE, hr, h3⟩ := h
  have hr : cu = [] := hr
  subst hr
  have e1 : cdV sN K (E, S, [], ([], su, pl, ro, tg, tk), b, l) (u, i, 0) = (E, S, [], ([], su, u, ro, tg, tk), b, l) := by
    rcases hu with rfl | rfl
    · exact cd_35
    · exact cd_36
  have e2 : cds sN K ([(u, i, 0)] ++ (N ++ [(54, 0, 0)])) (E, S, [], ([], su, pl, ro, tg, tk), b, l) = (E, S, [], ([], su, u, ro, tg, tk), b, l ++ [(u, N)]) := by
    rw [cds_app, cds_one, e1, cds_app, cds_sum (r := ([], su, u, ro, tg, tk)) hs (fun _ => hE), cds_one]
    show cdV sN K (E, S, [], ([] ++ N, su, u, ro, tg, tk), b, l) (54, 0, 0) = _
    rw [List.nil_append]
    unfold cdV
    rw [if_neg (by decide), if_neg (by decide), if_pos rfl, if_pos hE]
  rw [e2]
  refine ⟨_, _, _, _, _, rfl, hE, rfl, fun q hq => ?_⟩
  rcases List.mem_append.mp hq with hq | hq
  · exact h3 q hq
  · rw [List.mem_singleton.mp hq]
    exact hP
theorem WDc_no (h : WDc c) (hN : dul N) (hE : eqE E E0v) : WDc (cds sN K N c) ∧ eqE (exs N E) E0v := by
  rw [cds_no hN]
  refine ⟨h, ?_⟩
  rw [exs_still (fun v hv => by have := hN v hv; omega)]
  exact hE
theorem pD_g {n : gN} {q : gN × Nat × gU} (h : pD K V n i L = some q) : ∃ N, q.2.2 = L ++ N ∧ ∀ sN T V' E c, WDc c → eqE E E0v → ¬ flt sN T V' N E → WDc (cds sN K N c) ∧ eqE (exs N E) E0v := by
  have cell : ∀ t, (pCl K V n.1 i t L).bind (fun q => some ((q.1, n.2), q.2)) = some q → ∃ N, q.2.2 = L ++ N ∧ ∀ sN T V' E c, WDc c → eqE E E0v → ¬ flt sN T V' N E → WDc (cds sN K N c) ∧ eqE (exs N E) E0v := fun t h => by
    obtain ⟨z, hz, e⟩ := Option.bind_eq_some_iff.mp h
    obtain ⟨N, eN, hN⟩ := pCl_f hz
    cases Option.some.inj e
    exact ⟨N, eN, fun sN T V' E c hc hE _ => WDc_no hc hN hE⟩
  have blk : ∀ (t a j : Nat) (v : gN), (pBk (pS K 16) K 0 0 t (L ++ [(34, a, j)])).bind (fun q => some (v, q.2)) = some q → ∃ N, q.2.2 = L ++ N ∧ ∀ sN T V' E c, WDc c → eqE E E0v → ¬ flt sN T V' N E → WDc (cds sN K N c) ∧ eqE (exs N E) E0v := fun t a j v h => by
    obtain ⟨z, hz, e⟩ := Option.bind_eq_some_iff.mp h
    obtain ⟨N, eN, hN⟩ := pBk_f (pS_f 16 (Nat.le_refl _)) hz
    cases Option.some.inj e
    refine ⟨[(34, a, j)] ++ N, by show z.2.2 = _; rw [eN, List.append_assoc], fun sN T V' E c hc hE nf => ?_⟩
    have s34 : still [(34, a, j)] := st_k (by decide)
    obtain ⟨-, nf⟩ := nf_app nf s34
    obtain ⟨r1, r2⟩ := WDc_th (i := a) (j := j) hc hN (fun y => nf ((flt_q hE).mpr y))
    refine ⟨r1, ?_⟩
    rw [exs_app, exs_still s34]
    exact eqE_tr (exs_q hE) r2
  have clm : ∀ (u : Nat) (v : gN), u = 35 ∨ u = 36 → ((pX K true 16 (i + 1) (L ++ [(u, i, 0)])).bind (pt K 67)).bind (fun q => some (v, q)) = some q → ∃ N, q.2.2 = L ++ N ∧ ∀ sN T V' E c, WDc c → eqE E E0v → ¬ flt sN T V' N E → WDc (cds sN K N c) ∧ eqE (exs N E) E0v := fun u v hu h => by
    obtain ⟨z, hz, e⟩ := Option.bind_eq_some_iff.mp h
    obtain ⟨y, hy, h2⟩ := Option.bind_eq_some_iff.mp hz
    obtain ⟨N, eN, hs, hw⟩ := pX_sW hy
    obtain ⟨N', eN', hn5⟩ := pX_n5T hy
    have eNN : N' = N ++ [(54, 0, 0)] := List.append_cancel_left (eN'.symm.trans eN)
    have hn : n5N N := fun v hv => by
      have h9 := hn5 v (by rw [eNN]; exact List.mem_append_left _ hv)
      refine ⟨h9.1, fun e12 => ?_⟩
      have h8 := h9.2 e12
      rw [eNN] at h8
      rcases List.mem_append.mp h8 with h7 | h7
      · exact h7
      · have := congrArg (fun z : Nat × Nat × Nat => z.1) (List.mem_singleton.mp h7)
        exact absurd this (by show ¬ 7 = 54; decide)
    obtain ⟨-, -, e2⟩ := pt_is h2
    cases Option.some.inj e
    refine ⟨[(u, i, 0)] ++ (N ++ [(54, 0, 0)]), ?_, fun sN T V' E c hc hE _ => ⟨WDc_cl hu hc hs hn, ?_⟩⟩
    · show z.2 = _
      rw [e2]
      show y.2 = _
      rw [eN, List.append_assoc]
    · rw [exs_still (still_app (st_k (by omega)) (still_app (sEv_st hs) (st_k (by decide))))]
      exact hE
  unfold pD at h
  split at h
  · split at h
    · exact cell _ h
    · exact absurd h (by simp)
  · split at h
    · exact cell _ h
    · split at h
      · split at h
        · cases Option.some.inj h
          exact ⟨[(33, i + 1, 0)], rfl, fun sN T V' E c hc hE _ => WDc_no hc (dul_one (by decide)) hE⟩
        · exact absurd h (by simp)
      · split at h
        · split at h
          · exact blk _ _ 1 _ h
          · exact absurd h (by simp)
        · split at h
          · split at h
            · exact blk _ _ 0 _ h
            · exact absurd h (by simp)
          · split at h
            · split at h
              · exact clm 35 _ (Or.inl rfl) h
              · exact absurd h (by simp)
            · split at h
              · split at h
                · exact clm 36 _ (Or.inr rfl) h
                · exact absurd h (by simp)
              · exact absurd h (by simp)
theorem pAl_g : ∀ (m : Nat) (n : gN) (i : Nat) (L : gU) (q : gN × Nat × gU), pAl K V m n i L = some q → ∃ N, q.2.2 = L ++ N ∧ ∀ sN T V' E c, WDc c → eqE E E0v → ¬ flt sN T V' N E → WDc (cds sN K N c) := by
  intro m
  induction m with
  | zero => intro n i L q h; exact absurd h (by simp [pAl])
  | succ m ih =>
    intro n i L q h
    rw [pAl] at h
    split at h
    · cases Option.some.inj h
      exact ⟨[], by rw [List.append_nil], fun sN T V' E c hc _ _ => hc⟩
    · obtain ⟨z, hz, h2⟩ := Option.bind_eq_some_iff.mp h
      obtain ⟨M, eM, hM⟩ := pD_g hz
      obtain ⟨N, eN, hN⟩ := ih _ _ _ _ h2
      refine ⟨M ++ N, by rw [eN, eM, List.append_assoc], fun sN T V' E c hc hE nf => ?_⟩
      rw [flt_app] at nf
      obtain ⟨r1, r2⟩ := hM sN T V' E c hc hE (fun y => nf (Or.inl y))
      rw [cds_app]
      exact hN sN T V' _ _ r1 r2 (fun y => nf (Or.inr y))
theorem cod_c {n : gN} (h : pAl K V 701 (0, 0, 0, 0, 0) 0 [] = some (n, j, L)) (nf : ¬ jFl sN K V L) : WDc (cds sN K L cd0) := by
  obtain ⟨N, eN, hN⟩ := pAl_g _ _ _ _ _ h
  have eN : L = N := eN
  rw [← eN] at hN
  exact hN sN _ V E0v cd0 ⟨E0v, [], rg0, [], [], rfl, rfl, rfl, fun q hq => (by cases hq)⟩ ⟨rfl, rfl⟩ (fun y => nf (Or.inr y))
theorem flt_mm : ∀ {L : gU} {E : gV} {v : Nat × Nat × Nat}, ¬ flt sN T V L E → v ∈ L → ∃ E', ¬ fv sN T V E' v := by
  intro L
  induction L with
  | nil => intro E v _ hv; cases hv
  | cons a L ih =>
    intro E v nf hv
    have n1 : ¬ fv sN T V E a := fun z => nf (Or.inl z)
    have n2 : ¬ flt sN T V L (exV E a) := fun z => nf (Or.inr z)
    rcases List.mem_cons.mp hv with e | e
    · rw [e]; exact ⟨E, n1⟩
    · exact ih n2 e
/-- claims, in numbers, but for what is below 0 -/
def NCu (C : gCo) : Prop := ∀ Q, Q ∈ C.2.2.2.1 ∨ Q ∈ C.2.2.2.2 → ∀ p ∈ Q, ¬ p.1 = 3 ∧ (p.1 = 4 → p.2.2.toInt < C.2.2.1.length)
theorem NCu_of {n : gN} (h : pAl K V 701 (0, 0, 0, 0, 0) 0 [] = some (n, j, L)) (nf : ¬ jFl sN K V L) (l24 : (cel K V L).length ≤ 24) : NCu (codN sN V K L) := by
  have hc : celP K V L := pAl_cP 701 _ _ _ _ celP_0 h
  obtain ⟨E, S, r, b, l, ec, -, -, w1, w2, w3⟩ := cod_ok h nf
  obtain ⟨E', S', r', b', l', ec', -, -, w4⟩ := cod_c h nf
  have el : l' = l := by
    have e9 := ec'.symm.trans ec
    exact congrArg (fun z : gCd => z.2.2.2.2.2) e9
  rw [el] at w4
  have e3 : (cds sN K L cd0).2.2.2.2.2 = l := by rw [ec]
  obtain ⟨T, eT⟩ : ∃ T, T = L.filterMap (te1 K V) := ⟨_, rfl⟩
  have nfl : ¬ flt sN T V L E0v := fun z => nf (Or.inr (by rw [← eT]; exact z))
  have cs : (codN sN V K L).2.2.1 = cel K V L := rfl
  -- a cell's number
  have num : ∀ t q, mtP sN T 0 t = some q → ∀ i, i < max q.2.2.1 1 → nmT sN 0 t T + i < (cel K V L).length := fun t q hm i hi => by
    obtain ⟨T1, T2, a1, a2, a3⟩ := nm_first hm
    obtain ⟨p, hp⟩ := hc.2 T1 q T2 (by rw [← eT]; exact a1) a2
    rw [a3]
    exact gt_lt (hp i hi)
  have cl : ∀ u Q, Q ∈ (clF u l).map (nQs sN T V K []) → ∀ p ∈ Q, ¬ p.1 = 3 ∧ (p.1 = 4 → p.2.2.toInt < (cel K V L).length) := fun u Q hQ p hp => by
    obtain ⟨N, hN, e⟩ := List.mem_map.mp hQ
    subst e
    obtain ⟨q, hq, e9⟩ := List.mem_filterMap.mp hN
    have e9 : q.2 = N := by
      split at e9
      · exact Option.some.inj e9
      · exact absurd e9 (by simp)
    obtain ⟨-, z4⟩ := w3 q hq
    have z5 := w4 q hq
    rw [e9] at z4 z5
    obtain ⟨v, hv, e⟩ := List.mem_filterMap.mp hp
    have inL := z4 v hv
    obtain ⟨n53, h12⟩ := z5 v hv
    unfold nQt at e
    split at e
    · cases e; exact ⟨by show ¬ 1 = 3; decide, fun z => absurd z (by show ¬ 1 = 4; decide)⟩
    · split at e
      · cases e; exact ⟨by show ¬ 2 = 3; decide, fun z => absurd z (by show ¬ 2 = 4; decide)⟩
      · split at e
        · next e6 =>
          cases e
          refine ⟨by show ¬ 4 = 3; decide, fun _ => ?_⟩
          obtain ⟨E9, n9⟩ := flt_mm nfl inL
          have pl : plc sN T v.2.1 := Classical.byContradiction (fun z => n9 (Or.inr (Or.inl ⟨e6, z⟩)))
          obtain ⟨q9, hm, -⟩ := pl
          have := num _ _ hm 0 (by omega)
          show (Int32.ofNat (nmT sN 0 v.2.1 T)).toInt < _
          rw [Int32.toInt_ofNat_of_lt (by omega)]
          omega
        · split at e
          · next e12 =>
            cases e
            refine ⟨by show ¬ 4 = 3; decide, fun _ => ?_⟩
            obtain ⟨E9, n9⟩ := flt_mm nfl inL
            obtain ⟨E7, n7⟩ := flt_mm nfl (z4 _ (h12 e12))
            have rw7 : ∃ n, rwc sN T v.2.2 n := Classical.byContradiction (fun z => n7 (Or.inr (Or.inr (Or.inl ⟨rfl, z⟩))))
            obtain ⟨m, hm⟩ := rw7
            have lt : ¬ (m : Int) ≤ (V v.2.1).toInt := fun z => n9 (Or.inr (Or.inr (Or.inr (Or.inl ⟨e12, m, hm, z⟩))))
            obtain ⟨q9, hm1, hm2, hm3⟩ := hm
            have b0 := num _ _ hm1 (m - 1) (by omega)
            have lo := Int32.le_toInt (V v.2.1)
            have ofm : (Int32.ofNat (nmT sN 0 v.2.2 T)).toInt = (nmT sN 0 v.2.2 T : Nat) := Int32.toInt_ofNat_of_lt (by omega)
            show (Int32.ofNat (nmT sN 0 v.2.2 T) + V v.2.1).toInt < _
            rw [t_add (by omega) (by omega), ofm]
            omega
          · split at e
            · cases e; exact ⟨by show ¬ 5 = 3; decide, fun z => absurd z (by show ¬ 5 = 4; decide)⟩
            · split at e
              · cases e; exact ⟨by show ¬ 6 = 3; decide, fun z => absurd z (by show ¬ 6 = 4; decide)⟩
              · exact absurd e (by simp)
  intro Q hQ
  rw [cs]
  unfold codN at hQ
  rw [e3, ← eT] at hQ
  exact hQ.elim (fun z => cl 35 Q z) (fun z => cl 36 Q z)
theorem NCq_of {x : gd} {C : gCo} (hC : CO x) (hK : CK x C) (h : NCu C) : NCq C := by
  have key : ∀ (r : Int32) (Q : List gQ), SUk x r (Q.map cQ) → ∀ p ∈ Q, p.1 = 4 → 0 ≤ p.2.2.toInt := fun r Q hS p hp h4 => by
    obtain ⟨i, hi⟩ := List.mem_iff_getElem?.mp hp
    obtain ⟨s1, s2, s3, -⟩ := hS
    have hl := gt_lt hi
    obtain ⟨e1, e2⟩ := s3 i (cQ p) (by rw [List.getElem?_map, hi]; rfl)
    have c4 : cQ p = (2, p.2.2) := by
      unfold cQ
      rw [if_neg (by omega), if_neg (by omega), if_neg (by omega), if_pos h4]
    rw [c4] at e1 e2
    have cr := t_cl r
    rw [List.length_map] at s2
    have := hC.2.1.2 (r.toNatClampNeg + i) (by omega) e1
    rw [e2] at this
    exact this.1
  intro Q hQ p hp
  obtain ⟨a, b⟩ := h Q hQ p hp
  refine ⟨a, fun h4 => ⟨?_, b h4⟩⟩
  rcases hQ with hQ | hQ
  · obtain ⟨k, hk⟩ := List.mem_iff_getElem?.mp hQ
    exact key _ Q (hK.2.2.2.1.2 k Q hk) p hp h4
  · obtain ⟨k, hk⟩ := List.mem_iff_getElem?.mp hQ
    exact key _ Q (hK.2.2.2.2.2 k Q hk) p hp h4
end NT5
end
section
/-! the model: what stays of a trying; show() -/
def TYo (C : gCo) (wn : Nat) (z : gd) (T : gTy) : Prop := (z.1 120 wn).toInt = (T.1.length : Nat) ∧ T.1.length ≤ 3000 ∧ FN3 C wn (fun f => z.1 126 (11 * wn + f)) T T.1.length ∧ ∀ s p, T.1[s]? = some p → (s = 0 → (z.1 132 (3000 * wn + s)).toInt = 0) ∧ (0 < s → (z.1 130 (3000 * wn + s)).toInt = (p.2.1 : Nat) ∧ (z.1 131 (3000 * wn + s)).toInt = (p.2.2 : Nat) ∧ (z.1 132 (3000 * wn + s)).toInt = (z.1 132 (3000 * wn + p.2.1)).toInt + 1)
section TYC
variable {C : gCo} {wn nl : Nat} {z y : gd} {T : gTy}
theorem FN3_c {x7 y7 : Nat → Int32} {k : Nat} (e : ∀ f, f < 11 → y7 f = x7 f) (h : FN3 C wn x7 T k) : FN3 C wn y7 T k := fun f hf => by rw [e f hf]; exact h f hf
theorem TYo_f (e1 : y.1 120 = z.1 120) (e2 : y.1 126 = z.1 126) (e3 : y.1 130 = z.1 130) (e4 : y.1 131 = z.1 131) (e5 : y.1 132 = z.1 132) (h : TYo C wn z T) : TYo C wn y T := by
  unfold TYo at h ⊢
  rw [e1, e2, e3, e4, e5]
  exact h
theorem TYo_mi {L A : List Nat} (m : mi L A z y) (hA : [120, 126, 130, 131, 132].all (fun k => !A.elem k) = true) (h : TYo C wn z T) : TYo C wn y T := by
  have g := fun k (h0 : k ≠ 0) hk => m.2 k h0 (all_no hA k hk)
  exact TYo_f (g 120 (by decide) (by decide)) (g 126 (by decide) (by decide)) (g 130 (by decide) (by decide)) (g 131 (by decide) (by decide)) (g 132 (by decide) (by decide)) h
theorem TYo_ow {W : Nat} (hW : TW C wn T) (hw : wn < 2) (ne : ¬ wn = W) (o : ow W z y) (h : TYo C wn z T) : TYo C wn y T := by
  obtain ⟨o1, -, o3, o4⟩ := o wn hw ne
  obtain ⟨h1, h2, h3, h4⟩ := h
  refine ⟨by rw [o1]; exact h1, h2, FN3_c (fun f hf => o3 f hf) h3, fun s p hp => ?_⟩
  have hs := gt_lt hp
  obtain ⟨a, b⟩ := h4 s p hp
  obtain ⟨e1, e2, e3⟩ := o4 s (by omega)
  refine ⟨fun z0 => by rw [e3]; exact a z0, fun s0 => ?_⟩
  have lt := ((hW s p hp).2 s0).1
  rw [e1, e2, e3, (o4 p.2.1 (by omega)).2.2]
  exact b s0
theorem TYo_of {A : Nat → gd} {z0 : gd} (hM : T.1.length ≤ 3000) (ti : TI z0 wn A T.1.length z) (tj : TJo C nl wn A wn T z) : TYo C wn z T := by
  obtain ⟨-, -, t3, -, -, -, t7, -, -⟩ := ti
  obtain ⟨-, j2, -, j4⟩ := tj
  refine ⟨by rw [t3, ofN hM], hM, j2, fun s p hp => ?_⟩
  obtain ⟨-, -, n3, n4⟩ := (t7 s (gt_lt hp)).1
  refine ⟨n3, fun s0 => ?_⟩
  obtain ⟨b1, b2⟩ := j4 s p hp s0
  obtain ⟨q, q1, q2, q3, -⟩ := n4 s0
  have eq : q = p.2.1 := by omega
  rw [eq] at q3
  exact ⟨b1, b2, q3⟩
theorem MK_mi {w w' : gd} {C : gCo} {L A : List Nat} (m : mi L A w w') (hL : mfL.all (fun k => !L.elem k) = true) (hA : mfA.all (fun k => !A.elem k) = true) (h : MK w C) : MK w' C := MK_f h (fun k hk => m.1 k (all_no hL k hk)) (fun c hc => m.2 c (mfA_0 c hc) (all_no hA c hc))
/-- how far a state is -/
theorem TYo_d (hW : TW C wn T) (h : TYo C wn z T) : ∀ n s p, s ≤ n → T.1[s]? = some p → (z.1 132 (3000 * wn + s)).toInt = ((pth T s).length : Nat) := by
  intro n
  induction n with
  | zero =>
    intro s p hs hp
    have e : s = 0 := by omega
    subst e
    exact (h.2.2.2 0 p hp).1 rfl
  | succ n ih =>
    intro s p hs hp
    by_cases s0 : s = 0
    · subst s0
      exact (h.2.2.2 0 p hp).1 rfl
    · obtain ⟨a2, a3, a4⟩ := (h.2.2.2 s p hp).2 (by omega)
      obtain ⟨hl, p', ch, h1, h2, h3⟩ := (hW s p hp).2 (by omega)
      rw [a4, ih p.2.1 p' (by omega) h1, pth_s hW (by omega) hp, List.length_append, List.length_singleton]
      rfl
end TYC
/-! refusals with their number -/
def rfK (k : Int32) (z z' : gd) : Prop := mi [0] [] z z' ∧ z'.1 0 0 = k
section RFK
variable {G : mG} {d D : Nat} {z : gd} {F : Int32 → gd → Prop}
theorem sc_refk {y : gd} (b k : Int32) (hy : z0 z y) (hk : 0 < k.toInt) (h0 : b = 0 → F 0 y) (h1 : ¬ b = 0 → ∀ y', rfK k z y' → F 1 y') : MT G d z_refuses 0 [(0, vr 0), (1, vi b), (2, vi k)] [] y (ri F) :=
  sp_refuses b k hy.2 hk h0 (fun c => h1 c _ ⟨mi_tr hy.1 (mi_of (md_f y 0 k)) rfl rfl, by rw [si_get, if_pos ⟨rfl, rfl⟩]⟩)
theorem sc_noRunk {y : gd} (hy : z0 z y) (h0 : ¬ y.1 0 67 = 0 → F 0 y) (h1 : y.1 0 67 = 0 → ∀ y', rfK 1 z y' → F 1 y') : MT G (d + 1) z_noRun 0 [(0, vr 0)] [] y (ri F) := by
  refine sg_noRun_0 ⟨fun c => sg_noRun_13 _ (sc_refk _ _ hy (by decide) (fun _ => ⟨gbool_0, ri_i (h0 c)⟩) (fun q => absurd rfl q)), fun c => sg_noRun_13 _ (sc_refk _ _ hy (by decide) (fun q => absurd q (by decide)) (fun _ y' m => ⟨gbool_1, ri_i (h1 c y' m)⟩))⟩
end RFK
/-- there is a way to show it -/
def shG (C : gCo) (Tw : Nat → gTy) (z : gd) (w f : Int32) : Prop := ∃ wn s : Nat, (wn = 0 ∨ wn = 1) ∧ w = Int32.ofNat wn ∧ 0 ≤ f.toInt ∧ f.toInt < 11 ∧ ¬ z.1 119 wn = 0 ∧ fsF C wn (Tw wn) f.toInt.toNat s ∧ (pth (Tw wn) s).length ≤ 400
theorem fsF_u {C : gCo} {w f s s' : Nat} {T : gTy} (h : fsF C w T f s) (g : fsF C w T f s') : s = s' := by
  obtain ⟨p, a1, a2, a3⟩ := h
  obtain ⟨p', b1, b2, b3⟩ := g
  apply Classical.byContradiction
  intro ne
  by_cases lt : s < s'
  · exact b3 s p lt a1 a2
  · exact a3 s' p' (by omega) b1 b2
section TSW
variable {G : mG} {d D : Nat} {x z a : gd} {F : Int32 → gd → Prop} {Fv : gd → Prop} {C : gCo}
theorem wn_eq {w : Int32} {wn wn' : Nat} (h1 : wn = 0 ∨ wn = 1) (h2 : wn' = 0 ∨ wn' = 1) (e1 : w = Int32.ofNat wn) (e2 : w = Int32.ofNat wn') : wn = wn' := by
  rcases h1 with rfl | rfl <;> rcases h2 with rfl | rfl
  · rfl
  · rw [e1] at e2; exact absurd e2 (by decide)
  · rw [e1] at e2; exact absurd e2 (by decide)
  · rfl
theorem sc_show {Tw : Nat → gTy} (q : MI z) (gc : GC C) (hK : ¬ z.1 0 66 = 0 → MK z C) (w f : Int32) (hT : ∀ wn, (wn = 0 ∨ wn = 1) → ¬ z.1 119 wn = 0 → TYo C wn z (Tw wn) ∧ TW C wn (Tw wn)) (hD : 8 ≤ D) (h01 : ¬ ((w = 0 ∨ w = 1) ∧ 0 ≤ f.toInt ∧ f.toInt < 11) → ∀ z', rfK 1 z z' → F 0 z') (h02 : ((w = 0 ∨ w = 1) ∧ 0 ≤ f.toInt ∧ f.toInt < 11) → ¬ shG C Tw z w f → ∀ z', rfK 2 z z' → F 0 z') (h1 : ∀ (wn s : Nat) z', (wn = 0 ∨ wn = 1) → w = Int32.ofNat wn → 0 ≤ f.toInt → f.toInt < 11 → ¬ z.1 119 wn = 0 → fsF C wn (Tw wn) f.toInt.toNat s → (pth (Tw wn) s).length ≤ 400 → HistC C wn z' → mi (0 :: 67 :: 68 :: dL) (138 :: dA) z z' → z'.1 0 0 = 0 → z'.1 0 67 = 1 → (z'.1 0 94).toInt = ((pth (Tw wn) s).length : Nat) → (∀ k v, (pth (Tw wn) s)[k]? = some v → c96 z' k = v) → F (z'.1 0 94) z') : MT G D z_show 0 [(0, vr 0), (1, vi w), (2, vi f)] [] z (ri F) := by
  obtain ⟨D, rfl⟩ : ∃ D', D = D' + 1 := ⟨D - 1, by omega⟩
  have k0 : (0 : Int32).toInt = 0 := rfl
  have k1 : (1 : Int32).toInt = 1 := rfl
  have km1 : (-1 : Int32).toInt = -1 := rfl
  have k4 : (400 : Int32).toInt = 400 := rfl
  refine sg_show_0 _ _ (fun y e => ?_)
  have hy := z0_s e
  have no : ∀ wn : Nat, (wn = 0 ∨ wn = 1) → w = Int32.ofNat wn → 0 ≤ f.toInt → f.toInt < 11 → ¬ shG C Tw z w f → ∀ y', rfK 2 z y' → ri F (some (vi 0)) y' := fun wn w01 ew f0 f1 hn y' m => ri_i (h02 ⟨by rcases w01 with e9 | e9 <;> rw [ew, e9]; exact Or.inl rfl; exact Or.inr rfl, f0, f1⟩ hn y' m)
  have qy := (MI_0 hy.1 q).1
  have g119 : y.1 119 = z.1 119 := hy.1.2 119 (by decide) (by simp)
  have p75 : ∀ wn : Nat, (wn = 0 ∨ wn = 1) → w = Int32.ofNat wn → vp_in w 2 → 0 ≤ f.toInt → f.toInt < 11 → ∀ s b : Int32, (b = 0 → ¬ y.1 119 wn = 0 ∧ ∃ S : Nat, s.toInt = (S : Nat) ∧ fsF C wn (Tw wn) f.toInt.toNat S) → (¬ b = 0 → ¬ shG C Tw z w f) → MT G (D + 1) z_show 75 [(0, vr 0), (1, vi w), (3, vi s)] [vi b, vr 0] y (ri F) := by
    intro wn w01 ew wv f0 f1 s b hb hb2
    refine sg_show_75 _ _ _ (sc_refk b 2 hy (by decide) (fun b0 => ⟨fun q => absurd rfl q, fun _ => ?_⟩) (fun nb y' m => ⟨fun _ => no wn w01 ew f0 f1 (hb2 nb) y' m, fun q => absurd q (by decide)⟩))
    obtain ⟨tr, S, es, hfs⟩ := hb b0
    obtain ⟨W, eW⟩ : ∃ W, W = w.toNatClampNeg := ⟨_, rfl⟩
    have eWn : W = wn := by rw [eW, ew]; rcases w01 with e9 | e9 <;> rw [e9] <;> rfl
    have tz : ¬ z.1 119 wn = 0 := by rw [← g119]; exact tr
    obtain ⟨tyz, hTW⟩ := hT wn w01 tz
    obtain ⟨T, eT⟩ : ∃ T, T = Tw wn := ⟨_, rfl⟩
    have h1 := fun z' => h1 wn S z' w01 ew f0 f1 tz hfs
    rw [← eT] at tyz hTW hfs h1
    have ty : TYo C wn y T := TYo_mi hy.1 rfl tyz
    obtain ⟨p9, hp9, -⟩ := id hfs
    have hc : ¬ y.1 0 66 = 0 := (qy.2.2.2 wn (by omega) tr).1
    have cp := qy.2.1 hc
    have hKz := hK (by rw [← hy.1.1 66 (by decide)]; exact hc)
    have b3 := ty.2.1
    have sS := gt_lt hp9
    have ix : ∀ (c : Int32) (c' : Nat), c.toInt = (c' : Nat) → c' < T.1.length → vp_in (3000 * w + c) 6000 ∧ (3000 * w + c).toNatClampNeg = 3000 * wn + c' := fun c c' ec c1 => by
      have := tmul (k := 3000) (K := 3000) (N := 6000) (n := 3000) (i := c) rfl wv (by omega) (by omega) (by omega) (by omega) (by omega)
      have cc := t_cl c
      rw [← eW, eWn] at this
      rw [show c.toNatClampNeg = c' by omega] at this
      exact this
    obtain ⟨sv, se⟩ := ix s S es sS
    have dS := TYo_d hTW ty S S p9 (Nat.le_refl _) hp9
    obtain ⟨N, eN⟩ : ∃ N, N = y.1 132 (3000 * w + s).toNatClampNeg := ⟨_, rfl⟩
    have dN : N.toInt = ((pth T S).length : Nat) := by rw [eN, se]; exact dS
    rw [← eN]
    -- the run gone again
    have loop : (pth T S).length ≤ 400 → ∀ (m : Nat) (u : gd) (k : Nat) (i : Int32), i.toInt = (k : Nat) → k ≤ (pth T S).length → (pth T S).length - k ≤ m → HistC C wn u → (u.1 0 94).toInt = (k : Nat) → (∀ j v, (pth T S)[j]? = some v → (u.1 138 j).toInt = (v : Nat)) → (∀ j v, j < k → (pth T S)[j]? = some v → c96 u j = v) → u.1 0 67 = 1 → mi (67 :: 68 :: dL) (138 :: dA) y u → MT G (D + 1) z_show 186 [(0, vr 0), (4, vi N), (5, vi i)] [] u (ri F) := by
      intro N4
      have end' : ∀ (u : gd) (k : Nat), k = (pth T S).length → HistC C wn u → (u.1 0 94).toInt = (k : Nat) → (∀ j v, j < k → (pth T S)[j]? = some v → c96 u j = v) → u.1 0 67 = 1 → mi (67 :: 68 :: dL) (138 :: dA) y u → ri F (some (vi (u.1 0 94))) u := fun u k ek hu u94 u96 u67 mu => ri_i (h1 u N4 hu (mi_tr hy.1 mu rfl rfl) (by rw [mu.1 0 (by decide)]; exact hy.2) u67 (by rw [u94, ek]) (fun j v hj => u96 j v (by rw [ek]; exact gt_lt hj) hj))
      intro m
      induction m with
      | zero =>
        intro u k i ei hk hm hu u94 u138 u96 u67 mu
        exact sg_show_186 _ _ ⟨fun _ => end' u k (by omega) hu u94 u96 u67 mu, fun c => absurd (t_le.mpr (by omega)) c⟩
      | succ m ih =>
        intro u k i ei hk hm hu u94 u138 u96 u67 mu
        refine sg_show_186 _ _ ⟨fun c => end' u k (by rw [t_le] at c; omega) hu u94 u96 u67 mu, fun c => ?_⟩
        rw [t_le] at c
        have kl : k < (pth T S).length := by omega
        have ci : i.toNatClampNeg = k := by rw [t_cl, ei]; rfl
        refine ⟨by rw [vp_in_iff]; omega, ?_⟩
        rw [ci]
        have hg := List.getElem?_eq_getElem kl
        obtain ⟨v, ev⟩ : ∃ v, v = (pth T S)[k] := ⟨_, rfl⟩
        rw [← ev] at hg
        have e138 := u138 k v hg
        -- the choice is one of those that there are
        obtain ⟨c9, hc9⟩ : ∃ c9 : Nat → Nat, ∀ j v, (pth T S)[j]? = some v → c9 j = v := ⟨fun j => ((pth T S)[j]?).getD 0, fun j v hj => congrArg (fun z : Option Nat => z.getD 0) hj⟩
        obtain ⟨-, r2⟩ := pth_run hTW S S p9 (Nat.le_refl _) hp9 c9 hc9
        have rE : runM C wn c9 k = runM C wn (c96 u) k := runM_cg (fun j hj => by
          have hgj := List.getElem?_eq_getElem (show j < (pth T S).length by omega)
          rw [hc9 j _ hgj, u96 j _ hj hgj])
        have lt := r2 k kl
        rw [hc9 k v hg, rE] at lt
        have e84 := HistC_n hu
        have ek : (u.1 0 94).toInt.toNat = k := by rw [u94]; rfl
        rw [ek] at e84
        have ii : (i + 1).toInt = ((k + 1 : Nat) : Int) := by rw [t_add (by omega) (by omega), k1, ei]; rfl
        refine sc_more gc hu (by omega) _ (by omega) (by omega) (by omega) (fun u' hu' df => ?_)
        obtain ⟨mm, e94, e96, e96b⟩ := df
        have cu : (u.1 0 94).toNatClampNeg = k := by rw [t_cl]; exact ek
        rw [cu] at e96 e96b
        refine ih u' (k + 1) (i + 1) ii kl (by omega) hu' (by rw [e94, u94]; push_cast; rfl) (fun j v hj => by rw [mm.2 138 (by decide) (by decide)]; exact u138 j v hj) (fun j v9 hj hv => ?_) (by rw [mm.1 67 (by decide)]; exact u67) (mi_tr mu mm rfl rfl)
        show (u'.1 96 j).toNatClampNeg = v9
        by_cases cj : j = k
        · rw [cj, e96, t_cl]
          rw [cj, hg] at hv
          have hv := Option.some.inj hv
          rw [e138, hv]; rfl
        · rw [e96b j cj]
          exact u96 j v9 (by omega) hv
    -- the way back to the first state
    have back : (pth T S).length ≤ 400 → ∀ (n : Nat) (u : gd) (c i : Int32) (U : Nat) (pU : gMa × Nat × Nat) (r : List Nat), i.toInt = (n : Int) - 1 → c.toInt = (U : Nat) → T.1[U]? = some pU → (pth T U).length = n → pth T S = pth T U ++ r → mi [] [138] y u → (∀ j v, r[j]? = some v → (u.1 138 (n + j)).toInt = (v : Nat)) → MT G (D + 1) z_show 135 [(0, vr 0), (1, vi w), (3, vi c), (4, vi N), (5, vi i)] [] u (ri F) := by
      intro N4 n
      induction n with
      | zero =>
        intro u c i U pU r ei ec hU hl hr mu hu
        have e0 : pth T U = [] := List.eq_nil_of_length_eq_zero hl
        rw [e0, List.nil_append] at hr
        refine sg_show_135 _ _ _ _ ⟨fun _ => ?_, fun cc => absurd (t_lt.mpr (by rw [k0]; omega)) cc⟩
        rw [ew]
        refine sc_startRun gc (CP_mi mu rfl rfl cp) (MK_mi mu rfl rfl (MK_mi hy.1 rfl rfl hKz)) w01 (by omega) (fun u' hh sf => ?_)
        obtain ⟨mm, f94, -, f67, f68⟩ := sf
        refine loop N4 (pth T S).length u' 0 0 rfl (Nat.zero_le _) (by omega) hh (by rw [f94]; rfl) (fun j v hj => ?_) (fun j v hj => absurd hj (Nat.not_lt_zero _)) f67 (mi_tr mu mm rfl rfl)
        rw [mm.2 138 (by decide) (by decide)]
        rw [hr] at hj
        have := hu j v hj
        rw [Nat.zero_add] at this
        exact this
      | succ n ih =>
        intro u c i U pU r ei ec hU hl hr mu hu
        have hlen : (pth T S).length = (n + 1) + r.length := by rw [hr, List.length_append, hl]
        have U0 : 0 < U := by
          apply Classical.byContradiction
          intro c9
          rw [show U = 0 by omega, pth_0] at hl
          cases hl
        have UL := gt_lt hU
        obtain ⟨a2, a3, a4⟩ := (ty.2.2.2 U pU hU).2 U0
        obtain ⟨hlt, p', ch, g1, g2, g3⟩ := (hTW U pU hU).2 U0
        have ps := pth_s hTW U0 hU
        push_cast at ei
        refine sg_show_135 _ _ _ _ ⟨fun cc => ?_, fun cc => ?_⟩
        · rw [t_lt, k0] at cc; exfalso; omega
        obtain ⟨cv, ce⟩ := ix c U ec UL
        have ci : i.toNatClampNeg = n := by rw [t_cl, ei]; omega
        have lv : vp_in i 400 := by rw [vp_in_iff]; omega
        refine ⟨cv, lv, fun v ev => ⟨cv, ?_⟩⟩
        rw [ce, ci] at ev
        rw [ce]
        have mv := md_a u 138 n (u.1 131 (3000 * wn + U)) (by decide)
        rw [← ev] at mv
        have g130 : v.1 130 = y.1 130 := by rw [mv.2.1 130 (by decide) (by decide), mu.2 130 (by decide) (by decide)]
        have g131 : u.1 131 = y.1 131 := mu.2 131 (by decide) (by decide)
        rw [g131] at ev
        rw [g130]
        obtain ⟨j9, ej⟩ : ∃ j, j = i + (-1) := ⟨_, rfl⟩
        have ji : j9.toInt = (n : Int) - 1 := by rw [ej, t_add (by rw [km1]; omega) (by rw [km1]; omega), km1]; omega
        rw [← ej]
        clear ej
        have hl' : (pth T pU.2.1).length = n := by rw [ps, List.length_append, List.length_singleton] at hl; omega
        refine ih v _ j9 pU.2.1 p' (pU.2.2 :: r) ji a2 g1 hl' (by rw [hr, ps, List.append_assoc]; rfl) (mi_tr mu (mi_of mv) rfl rfl) (fun j v9 hj => ?_)
        cases j with
        | zero =>
          have hj : pU.2.2 = v9 := Option.some.inj hj
          rw [Nat.add_zero, ev, si_get, if_pos ⟨rfl, rfl⟩, ← hj]
          exact a3
        | succ j =>
          have hj : r[j]? = some v9 := hj
          have := hu j v9 hj
          rw [ev, si_ne 138 _ (by omega), show n + (j + 1) = n + 1 + j by omega]
          exact this
    have p106 : ∀ b : Int32, (b = 0 → (pth T S).length ≤ 400) → (¬ b = 0 → ¬ (pth T S).length ≤ 400) → MT G (D + 1) z_show 106 [(0, vr 0), (1, vi w), (3, vi s)] [vi b, vr 0] y (ri F) := by
      intro b hb hb2
      refine sg_show_106 _ _ _ (sc_refk b 2 hy (by decide) (fun b0 => ⟨fun _ => ⟨sv, ?_⟩, fun q => absurd rfl q⟩) (fun nb y' m => ⟨fun q => absurd q (by decide), fun _ => no wn w01 ew f0 f1 (fun hg => hb2 nb ?_) y' m⟩))
      · rw [← eN]
        have N4 := hb b0
        obtain ⟨j, ej⟩ : ∃ j, j = N - 1 := ⟨_, rfl⟩
        have ji : j.toInt = ((pth T S).length : Int) - 1 := by rw [ej, t_sub (by rw [k1]; omega) (by rw [k1]; omega), k1, dN]
        rw [← ej]
        exact back N4 (pth T S).length y s j S p9 [] ji es hp9 rfl (List.append_nil _).symm ⟨fun _ _ => rfl, fun _ _ _ => rfl⟩ (fun j v hj => nomatch hj)
      · obtain ⟨wn', s', a1, a2, -, -, -, a6, a7⟩ := hg
        have e1 := wn_eq a1 w01 a2 ew
        rw [e1, ← eT] at a6 a7
        rw [fsF_u hfs a6]; exact a7
    exact ⟨sv, fun c => p106 0 (fun _ => by rw [t_le, k4] at c; omega) (fun z => absurd rfl z), fun c => p106 1 (fun q => absurd q (by decide)) (fun _ z9 => c (t_le.mpr (by rw [k4]; omega)))⟩
  have p63 : ∀ wn : Nat, (wn = 0 ∨ wn = 1) → w = Int32.ofNat wn → vp_in w 2 → 0 ≤ f.toInt → f.toInt < 11 → ∀ s : Int32, (s = -1 → ¬ shG C Tw z w f) → (¬ s = -1 → ¬ y.1 119 wn = 0 ∧ ∃ S : Nat, s.toInt = (S : Nat) ∧ fsF C wn (Tw wn) f.toInt.toNat S) → MT G (D + 1) z_show 63 [(0, vr 0), (1, vi w)] [vi s] y (ri F) := fun wn w01 ew wv f0 f1 s hs hs2 => sg_show_63 _ _ ⟨fun ne => p75 wn w01 ew wv f0 f1 s 0 (fun _ => hs2 ne) (fun z => absurd rfl z), fun e9 => p75 wn w01 ew wv f0 f1 s 1 (fun q => absurd q (by decide)) (fun _ => hs e9)⟩
  have p30 : ∀ b : Int32, (b = 0 → (vp_in w 2 ∧ (w = 0 ∨ w = 1)) ∧ 0 ≤ f.toInt ∧ f.toInt < 11) → (¬ b = 0 → ¬ ((w = 0 ∨ w = 1) ∧ 0 ≤ f.toInt ∧ f.toInt < 11)) → MT G (D + 1) z_show 30 [(0, vr 0), (1, vi w), (2, vi f)] [vi b, vr 0] y (ri F) := by
    intro b hb hb2
    refine sg_show_30 _ _ _ (sc_refk b 1 hy (by decide) (fun b0 => ⟨fun _ => ?_, fun q => absurd rfl q⟩) (fun nb y' m => ⟨fun q => absurd q (by decide), fun _ => ri_i (h01 (hb2 nb) y' m)⟩))
    obtain ⟨⟨wv, hw⟩, f0, f1⟩ := hb b0
    obtain ⟨wn, w01, ew, ewn⟩ := w_nat hw
    obtain ⟨fv, fe⟩ := t11 wv f0 f1
    rw [ewn]
    refine ⟨wv, fun t0 => p63 wn w01 ew wv f0 f1 _ (fun _ hg => ?_) (fun z => absurd rfl z), fun tr => ⟨fv, p63 wn w01 ew wv f0 f1 _ (fun e1 hg => ?_) (fun ne => ⟨tr, ?_⟩)⟩⟩
    · obtain ⟨wn', s', a1, a2, -, -, a5, -⟩ := hg
      rw [wn_eq a1 w01 a2 ew, ← g119] at a5
      exact a5 t0
    · rw [fe, ewn] at e1
      obtain ⟨wn', s', a1, a2, -, -, -, ⟨p9, c1, c2, -⟩, -⟩ := hg
      have e2 := wn_eq a1 w01 a2 ew
      rw [e2] at c1 c2
      have ty : TYo C wn y (Tw wn) := TYo_mi hy.1 rfl (hT wn w01 (by rw [← g119]; exact tr)).1
      have cf := t_cl f
      rcases ty.2.2.1 f.toInt.toNat (by omega) with ⟨-, g2⟩ | ⟨s9, p8, -, g2, -⟩
      · exact g2 s' p9 (gt_lt c1) c1 c2
      · have g2 : (y.1 126 (11 * wn + f.toNatClampNeg)).toInt = (s9 : Nat) := g2
        rw [e1, km1] at g2; omega
    · rw [fe, ewn] at ne ⊢
      have ty : TYo C wn y (Tw wn) := TYo_mi hy.1 rfl (hT wn w01 (by rw [← g119]; exact tr)).1
      rcases ty.2.2.1 f.toInt.toNat (by omega) with ⟨g1, -⟩ | ⟨s9, p8, g1, g2, g3, g4, g5⟩
      · exact absurd g1 ne
      · exact ⟨s9, g2, p8, g3, g4, g5⟩
  refine sp_in _ _ _ ⟨fun c1 => p30 1 (fun q => absurd q (by decide)) (fun _ hg => ?_), fun c1 => sp_in _ _ _ ⟨fun c2 => p30 0 (fun _ => ⟨w_in (bi_ne.mp c1), f_in (bi_ne.mp c2)⟩) (fun z => absurd rfl z), fun c2 => p30 1 (fun q => absurd q (by decide)) (fun _ hg => ?_)⟩⟩
  · refine bi_eq.mp c1 ?_
    rcases hg.1 with e9 | e9 <;> rw [e9]
    · exact ⟨by decide, by decide⟩
    · exact ⟨by decide, by decide⟩
  · refine bi_eq.mp c2 ⟨t_le.mpr (by rw [k0]; exact hg.2.1), t_le.mpr ?_⟩
    have k10 : (10 : Int32).toInt = 10 := rfl
    have := hg.2.2
    rw [k10]; omega
end TSW
end
section
/-! the model: attempt() -/
/-- what stays of all states' -/
def TYx (C : gCo) (wn : Nat) (z : gd) (T : gTy) : Prop := (z.1 121 wn = if T.2 = true then 1 else 0) ∧ MLc z wn (loS C wn (z.1 0 24).toInt.toNat T T.1.length)
def TYc (C : gCo) (wn : Nat) (z : gd) (T : gTy) : Prop := TYo C wn z T ∧ TYx C wn z T
theorem TYx_f {C : gCo} {wn : Nat} {z y : gd} {T : gTy} (e0 : y.1 0 24 = z.1 0 24) (e : ∀ c, c = 121 ∨ c = 122 ∨ c = 123 ∨ c = 124 ∨ c = 125 ∨ c = 127 ∨ c = 128 → y.1 c = z.1 c) (h : TYx C wn z T) : TYx C wn y T := by
  unfold TYx MLc at h ⊢
  rw [e0, e 121 (by omega), e 122 (by omega), e 123 (by omega), e 124 (by omega), e 125 (by omega), e 127 (by omega), e 128 (by omega)]
  exact h
theorem TYx_mi {C : gCo} {wn : Nat} {z y : gd} {T : gTy} {L A : List Nat} (m : mi L A z y) (hL : [24].all (fun k => !L.elem k) = true) (hA : [121, 122, 123, 124, 125, 127, 128].all (fun k => !A.elem k) = true) (h : TYx C wn z T) : TYx C wn y T := by
  have g := fun k (h0 : k ≠ 0) hk => m.2 k h0 (all_no hA k hk)
  refine TYx_f (m.1 24 (all_no hL 24 (by decide))) (fun c hc => ?_) h
  rcases hc with e | e | e | e | e | e | e <;> rw [e] <;> exact g _ (by decide) (by decide)
theorem TYc_mi {C : gCo} {wn : Nat} {z y : gd} {T : gTy} {L A : List Nat} (m : mi L A z y) (hL : [24].all (fun k => !L.elem k) = true) (hA : [120, 126, 130, 131, 132, 121, 122, 123, 124, 125, 127, 128].all (fun k => !A.elem k) = true) (h : TYc C wn z T) : TYc C wn y T := ⟨TYo_mi m (all_sub hA rfl) h.1, TYx_mi m hL (all_sub hA rfl) h.2⟩
/-- one way's trying leaves the other's -/
theorem TYx_ow {C : gCo} {wn W : Nat} {z y : gd} {T : gTy} (hw : wn < 2) (ne : ¬ wn = W) (e0 : y.1 0 24 = z.1 0 24) (o : ow W z y) (l : LW3 z y W) (h : TYx C wn z T) : TYx C wn y T := by
  obtain ⟨h1, h2, h3, h4, h5, h6, h7⟩ := h
  obtain ⟨l1, l2, l3, l4, l5⟩ := l.1 wn hw ne
  have o3 := (o wn hw ne).2.1
  refine ⟨by rw [l.2 wn hw ne]; exact h1, ?_⟩
  unfold MLc
  rw [e0, l1, l2, l3, o3]
  refine ⟨h2, h3, h4, fun c hc => by rw [l4 c hc]; exact h5 c hc, fun a ha b hb => ?_, h7⟩
  rw [show 36 * wn + 6 * a + b = 36 * wn + (6 * a + b) by omega, l5 (6 * a + b) (by omega), show 36 * wn + (6 * a + b) = 36 * wn + 6 * a + b by omega]
  exact h6 a ha b hb
section TAT
variable {G : mG} {d D : Nat} {x z a : gd} {F : Int32 → gd → Prop} {Fv : gd → Prop} {C : gCo} {nl wr : Nat}
theorem sc_attempt (q : MI z) (gc : GC C) (hK : ¬ z.1 0 66 = 0 → MK z C ∧ NCq C ∧ LkN C nl ∧ nl ≤ 6 ∧ C.2.2.1.length ≤ 24 ∧ (z.1 0 26).toInt = (C.2.2.2.1.length : Nat) ∧ (z.1 0 27).toInt = (C.2.2.2.2.length : Nat) ∧ (z.1 0 24).toInt = (nl : Nat)) (hH : ¬ z.1 0 67 = 0 → HistC C wr z) (w l : Int32) (hD : 8 ≤ D) (h01 : z.1 0 66 = 0 → ∀ z', rfK 1 z z' → F 0 z') (h02 : ¬ z.1 0 66 = 0 → ¬ ((w = 0 ∨ w = 1) ∧ 1 ≤ l.toInt ∧ l.toInt ≤ 3000) → ∀ z', rfK 2 z z' → F 0 z') (h1 : ∀ (wn lim : Nat) z', (wn = 0 ∨ wn = 1) → w = Int32.ofNat wn → l.toInt = (lim : Nat) → 1 ≤ lim → lim ≤ 3000 → ¬ z.1 0 66 = 0 → PM z z' → z'.1 0 0 = 0 → (z'.1 0 67 = z.1 0 67 ∧ z'.1 0 94 = z.1 0 94 ∧ z'.1 96 = z.1 96 ∧ (¬ z.1 0 67 = 0 → HistC C wr z')) → TYc C wn z' (tryM C wn lim) → ¬ z'.1 119 wn = 0 → (∀ w', ¬ w' = wn → z'.1 119 w' = z.1 119 w') → ow wn z z' → LW3 z z' wn → F (z'.1 120 w.toNatClampNeg) z') : MT G D z_attempt 0 [(0, vr 0), (1, vi w), (2, vi l)] [] z (ri F) := by
  obtain ⟨D, rfl⟩ : ∃ D', D = D' + 1 := ⟨D - 1, by omega⟩
  have k0 : (0 : Int32).toInt = 0 := rfl
  have k1 : (1 : Int32).toInt = 1 := rfl
  have k3 : (3000 : Int32).toInt = 3000 := rfl
  have z0' : (0 : Int32).toNatClampNeg = 0 := rfl
  refine sg_attempt_0 _ _ (fun y e => ?_)
  have hy := z0_s e
  have b1n : ¬ vp_nar .boolean 1 = 0 := by decide
  have y66 : y.1 0 66 = z.1 0 66 := hy.1.1 66 (by decide)
  have y67 : y.1 0 67 = z.1 0 67 := hy.1.1 67 (by decide)
  have hHy : ¬ y.1 0 67 = 0 → HistC C wr y := fun h9 => HistC_0 hy.1 (hH (by rw [← y67]; exact h9))
  have qy := (MI_0 hy.1 q).1
  have y2 : y.1 0 2 = z.1 0 2 := hy.1.1 2 (by decide)
  have p51 : ¬ y.1 0 66 = 0 → ∀ b : Int32, (b = 0 → (vp_in w 2 ∧ (w = 0 ∨ w = 1)) ∧ 1 ≤ l.toInt ∧ l.toInt ≤ 3000) → (¬ b = 0 → ¬ ((w = 0 ∨ w = 1) ∧ 1 ≤ l.toInt ∧ l.toInt ≤ 3000)) → MT G (D + 1) z_attempt 51 [(0, vr 0), (1, vi w), (2, vi l)] [vi b, vr 0] y (ri F) := by
    intro hc b hb hb2
    refine sg_attempt_51 _ _ _ (sc_refk b 2 hy (by decide) (fun b0 => ⟨fun _ => ?_, fun q => absurd rfl q⟩) (fun nb y' m => ⟨fun q => absurd q (by decide), fun _ => ri_i (h02 (by rw [← y66]; exact hc) (hb2 nb) y' m)⟩))
    obtain ⟨⟨wv, w01⟩, l1, l3⟩ := hb b0
    obtain ⟨wn, w01n, ew, ewn⟩ := w_nat w01
    obtain ⟨lim, elm⟩ : ∃ lim : Nat, l.toInt = lim := ⟨l.toInt.toNat, by omega⟩
    have hcz : ¬ z.1 0 66 = 0 := by rw [← y66]; exact hc
    obtain ⟨hKz, hq2, hLk, n6, l24, l26, l27, en⟩ := hK hcz
    have h1 := fun z' => h1 wn lim z' w01n ew elm (by omega) (by omega) hcz
    obtain ⟨W, eW⟩ : ∃ W, W = w.toNatClampNeg := ⟨_, rfl⟩
    have W2 : W < 2 := by rw [eW]; exact vp_lt wv
    have eWn : W = wn := by rw [eW]; exact ewn
    have cp := qy.2.1 hc
    -- the trying itself; u: behind the state kept
    have p81 : ∀ u : gd, mi [136] [136] y u → (¬ y.1 0 67 = 0 → ∀ i : Nat, i < 222 → u.1 136 i = pv y i) → MT G (D + 1) z_attempt 81 [(0, vr 0), (1, vi w), (2, vi l), (3, vi (y.1 0 68))] [] u (ri F) := by
      intro u mu ru
      refine sg_attempt_81 _ _ _ (fun u1 e1 => ?_)
      have m1 := md_f u 68 w
      rw [← e1] at m1
      have h168 : u1.1 0 68 = w := by rw [e1, si_get, if_pos ⟨rfl, rfl⟩]
      have myu1 : mi [68, 136] [136] y u1 := mi_tr mu (mi_of m1) rfl rfl
      refine sp_tryAll3 gc hq2 hLk n6 l24 w01n w l ew wv (CP_mi myu1 rfl rfl cp) (MK_mi myu1 rfl rfl (MK_mi hy.1 rfl rfl hKz)) (by rw [myu1.1 26 (by decide), hy.1.1 26 (by decide)]; exact l26) (by rw [myu1.1 27 (by decide), hy.1.1 27 (by decide)]; exact l27) (by rw [myu1.1 24 (by decide), hy.1.1 24 (by decide)]; exact en) h168 elm l1 l3 (by omega) (fun A v hM ti tj te => ⟨wv, fun v4 e4 v5 e5 => ?_⟩)
      rw [← eW] at ti tj e4 te
      have te : TJe u1 C nl wn wn (tryM C wn lim) v := by rw [eWn] at te; exact te
      obtain ⟨M, eM⟩ : ∃ M, M = (tryM C wn lim).1.length := ⟨_, rfl⟩
      have tyc0 : TYo C wn v (tryM C wn lim) := by rw [eWn] at ti tj; exact TYo_of hM ti tj
      rw [← eM] at hM ti
      have m4 := md_a v 119 W (vp_nar .boolean 1) (by decide)
      rw [← e4] at m4
      have m5 := md_f v4 68 (y.1 0 68)
      rw [← e5] at m5
      have h5 : v5.1 0 68 = y.1 0 68 := by rw [e5, si_get, if_pos ⟨rfl, rfl⟩]
      have mv5 : mi [68] [119] v v5 := mi_tr (mi_of m4) (mi_of m5) rfl rfl
      have my5 : mi (68 :: tL) (119 :: 136 :: tA') y v5 := mi_tr (mi_tr (L3 := 68 :: tL) (A3 := 136 :: tA') myu1 ti.1 rfl rfl) mv5 rfl rfl
      have pr5 : prE y v5 := prE_mi (prE_rf y) my5 rfl rfl
      have tyW : TY v5 W := TY_mi mv5 rfl rfl (TY_TI hM ti)
      have tyc5 : TYo C wn v5 (tryM C wn lim) := TYo_mi mv5 rfl tyc0
      have v24 : v.1 0 24 = z.1 0 24 := by rw [ti.1.1 24 (by decide), myu1.1 24 (by decide), hy.1.1 24 (by decide)]
      have tyx0 : TYx C wn v (tryM C wn lim) := by
        refine ⟨by rw [eWn] at tj; exact tj.2.2.1, ?_⟩
        rw [v24, en]
        exact te.1
      have tyx5 : TYx C wn v5 (tryM C wn lim) := TYx_mi mv5 rfl rfl tyx0
      have la : LW3 z y wn := LW3_e (fun c hc => by rcases hc with e | e | e | e | e | e <;> rw [e] <;> exact hy.1.2 _ (by decide) (by simp))
      have lb : LW3 y u1 wn := LW3_e (fun c hc => by rcases hc with e | e | e | e | e | e <;> rw [e] <;> exact myu1.2 _ (by decide) (by decide))
      have lc : LW3 v v5 wn := LW3_e (fun c hc => by rcases hc with e | e | e | e | e | e <;> rw [e] <;> exact mv5.2 _ (by decide) (by decide))
      have lw5 : LW3 z v5 wn := LW3_tr (LW3_tr (LW3_tr la lb) te.2) lc
      have e119w : ¬ v5.1 119 wn = 0 := by rw [m5.2.1 119 (by decide) (by decide), e4, ← eWn, si_get, if_pos ⟨rfl, rfl⟩]; exact b1n
      have g119 : y.1 119 = z.1 119 := hy.1.2 119 (by decide) (by simp)
      have v0 : v5.1 0 0 = 0 := by rw [my5.1 0 (by decide)]; exact hy.2
      have owz : ow wn z y := ow_mi hy.1 rfl
      have ow5 : ow W y v5 := ow_tr (ow_tr (ow_mi myu1 rfl) ti.2.1) (ow_mi mv5 rfl)
      have e119 : ∀ w' : Nat, ¬ w' = W → v5.1 119 w' = y.1 119 w' := fun w' hw' => by
        rw [m5.2.1 119 (by decide) (by decide), e4, si_ne 119 w' hw', ti.1.2 119 (by decide) (by decide), myu1.2 119 (by decide) (by decide)]
      have tys : ∀ w' : Nat, w' < 2 → ¬ v5.1 119 w' = 0 → ¬ v5.1 0 66 = 0 ∧ TY v5 w' := by
        intro w' hw' hn
        refine ⟨by rw [my5.1 66 (by decide)]; exact hc, ?_⟩
        by_cases q9 : w' = W
        · rw [q9]; exact tyW
        · rw [e119 w' q9] at hn
          exact TY_ow hw' q9 ow5 pr5 (qy.2.2.2 w' hw' hn).2
      have g5 : G0 v5 := G0_mi my5 rfl rfl qy.1
      have cp5 : CP v5 := CP_mi my5 rfl rfl cp
      have o119 : ∀ w', ¬ w' = wn → v5.1 119 w' = z.1 119 w' := fun w' hw' => by rw [← g119]; exact e119 w' (by rw [eWn]; exact hw')
      have owy : ow wn z v5 := ow_tr owz (by rw [← eWn]; exact ow5)
      refine ⟨fun n67 => ⟨wv, ri_i (h1 v5 (PM_0 hy.1 ⟨⟨g5, fun _ => cp5, fun q9 => absurd n67 q9, tys⟩, my5.1 2 (by decide), fun k hk => my5.1 k (all_no (M := mfL) rfl k hk), fun c hc => my5.2 c (mfA_0 c hc) (all_no (M := mfA) rfl c hc)⟩) v0 ⟨by rw [my5.1 67 (by decide)]; exact y67, by rw [my5.1 94 (by decide)]; exact hy.1.1 94 (by decide), by rw [my5.2 96 (by decide) (by decide)]; exact hy.1.2 96 (by decide) (by simp), fun h9 => absurd (show z.1 0 67 = 0 by rw [← y67, ← my5.1 67 (by decide)]; exact n67) h9⟩ ⟨tyc5, tyx5⟩ e119w o119 owy lw5)⟩, fun h67 => ?_⟩
      rw [my5.1 67 (by decide)] at h67
      obtain ⟨s, n, q1, q2, q3, q4, q5, q6, q7⟩ := hHy h67
      have av := (q2 n (Nat.le_refl _)).1
      have el : eqS (Sl (s n)) (s n) y := eqS_w (Sl_Sm _) q4
      have r136 : ∀ i : Nat, i < 222 → v5.1 136 (0 + i) = pv (s n) i := fun i hi => by
        rw [Nat.zero_add, m5.2.1 136 (by decide) (by decide), m4.2.1 136 (by decide) (by decide), ti.1.2 136 (by decide) (by decide), m1.2.1 136 (by decide) (by decide), ru h67 i hi]
        exact pv_eq el hi
      refine sp_unpack (Or.inr rfl) mk_136 ml_136 0 (by decide) (by decide) (by decide) (fun v8 m8 r8 => ?_)
      rw [z0'] at r8
      have e8 : eqS (Sl (s n)) (s n) v8 := by
        refine un_eq ?_ ?_ (fun t ht => (av.1.2 t ht).2.2.2.1) (fun i hi => by rw [r8 i hi, r136 i hi])
        · exact prE_tr (prE_eqS el) (prE_mi pr5 (mi_of m8) rfl rfl)
        · rw [m8.1 68 (by decide), h5, cF el (by decide)]
      refine MT_up (by omega) (MTv_mono (av.2.2.2.2.2 G v8 e8) (fun v9 g9 => ⟨wv, ri_i ?_⟩))
      have m59 : mi [82, 84, 88, 89, 90, 91, 92, 93] [70, 71, 72, 73, 74, 75, 76, 77, 78, 79, 80, 81, 82, 84, 86, 87, 88] v5 v9 := mi_tr (mi_of m8) (mi_of g9.2) rfl rfl
      have my9 : mi (68 :: tL) (119 :: 136 :: tA') y v9 := mi_tr my5 m59 rfl rfl
      have h9 : v9.1 0 68 = y.1 0 68 := by rw [m59.1 68 (by decide)]; exact h5
      have c9 : c96 v9 = c96 y := by unfold c96; rw [my9.2 96 (by decide) (by decide)]
      have histc : HistC C wr v9 := ⟨s, n, by rw [my9.1 94 (by decide)]; exact q1, by rw [c9]; exact q2, by rw [c9, my9.2 96 (by decide) (by decide)]; exact q3, g9.1, by rw [h9]; exact St_pr (prE_mi (prE_rf y) my9 rfl rfl) q5, by rw [h9]; exact q6, HA_mi my9 rfl rfl q7⟩
      have hist : Hist v9 := HistC_H histc
      refine h1 v9 (PM_0 hy.1 ⟨⟨G0_mi my9 rfl rfl qy.1, fun _ => CP_mi my9 rfl rfl cp, fun _ => ⟨by rw [my9.1 66 (by decide)]; exact hc, hist⟩, fun w' hw' hn => ?_⟩, my9.1 2 (by decide), fun k hk => my9.1 k (all_no (M := mfL) rfl k hk), fun c hc => my9.2 c (mfA_0 c hc) (all_no (M := mfA) rfl c hc)⟩) (by rw [m59.1 0 (by decide)]; exact v0) ⟨by rw [my9.1 67 (by decide)]; exact y67, by rw [my9.1 94 (by decide)]; exact hy.1.1 94 (by decide), by rw [my9.2 96 (by decide) (by decide)]; exact hy.1.2 96 (by decide) (by simp), fun _ => histc⟩ ⟨TYo_mi m59 rfl tyc5, TYx_mi m59 rfl rfl tyx5⟩ (by rw [m59.2 119 (by decide) (by decide)]; exact e119w) (fun w' hw' => by rw [m59.2 119 (by decide) (by decide)]; exact o119 w' hw') (ow_tr owy (ow_mi m59 rfl)) (LW3_tr lw5 (LW3_e (fun c hc => by rcases hc with e | e | e | e | e | e <;> rw [e] <;> exact m59.2 _ (by decide) (by decide))))
      rw [m59.2 119 (by decide) (by decide)] at hn
      exact ⟨by rw [my9.1 66 (by decide)]; exact hc, TY_mi m59 rfl rfl (tys w' hw' hn).2⟩
    refine ⟨fun n67 => p81 y ⟨fun _ _ => rfl, fun _ _ _ => rfl⟩ (fun q => absurd n67 q), fun h67 => ?_⟩
    obtain ⟨s, n, q1, q2, q3, q4, q5, q6, q7⟩ := hHy h67
    refine sp_pack (Or.inr rfl) mk_136 ml_136 0 (by decide) (by decide) (by decide) (fun t ht => by rw [cA q4 (c := 80) (n := 6) (by decide) ht]; exact ((q2 n (Nat.le_refl _)).1.1.2 t ht).2.2.2.1) (fun u mu _ ru _ => p81 u (mi_of mu) (fun _ i hi => ?_))
    have := ru i hi
    rw [z0', Nat.zero_add] at this
    exact this
  have p18 : ∀ b : Int32, (b = 0 → ¬ y.1 0 66 = 0) → (¬ b = 0 → y.1 0 66 = 0) → MT G (D + 1) z_attempt 18 [(0, vr 0), (1, vi w), (2, vi l)] [vi b, vr 0] y (ri F) := by
    intro b hb hb9
    refine sg_attempt_18 _ _ _ (sc_refk b 1 hy (by decide) (fun b0 => ⟨fun q => absurd rfl q, fun _ => sp_in _ _ _ ⟨fun c1 => p51 (hb b0) 1 (fun q => absurd q (by decide)) (fun _ z9 => ?_), fun c1 => sp_in _ _ _ ⟨fun c2 => p51 (hb b0) 0 (fun _ => ⟨w_in (bi_ne.mp c1), ?_⟩) (fun z9 => absurd rfl z9), fun c2 => p51 (hb b0) 1 (fun q => absurd q (by decide)) (fun _ z9 => ?_)⟩⟩⟩) (fun nb y' m => ⟨fun _ => ri_i (h01 (by rw [← y66]; exact hb9 nb) y' m), fun q => absurd q (by decide)⟩))
    · refine bi_eq.mp c1 ?_
      rcases z9.1 with e9 | e9 <;> rw [e9]
      · exact ⟨by decide, by decide⟩
      · exact ⟨by decide, by decide⟩
    rotate_left
    · exact bi_eq.mp c2 ⟨t_le.mpr (by rw [k1]; exact z9.2.1), t_le.mpr (by rw [k3]; exact z9.2.2)⟩
    obtain ⟨a1, a2⟩ := bi_ne.mp c2
    rw [t_le, k1] at a1
    rw [t_le, k3] at a2
    exact ⟨a1, a2⟩
  exact ⟨fun c => p18 0 (fun _ => c) (fun z9 => absurd rfl z9), fun c => p18 1 (fun q => absurd q (by decide)) (fun _ => c)⟩
end TAT
end
