/-! claims: nothing of a thread in them, and cells that there are -/
def n5N (N : gU) : Prop := ∀ v ∈ N, ¬ v.1 = 53 ∧ (v.1 = 12 → (7, v.2.2, 0) ∈ N)
def n5T (L L' : gU) : Prop := ∃ N, L' = L ++ N ∧ n5N N
section NT5
variable {K V : Nat → Int32} {L L' L2 M N : gU} {o : Bool} {sN : Nat → Nat → Bool}
theorem n5N_app (h : n5N M) (g : n5N N) : n5N (M ++ N) := fun v hv => by
  rcases List.mem_append.mp hv with h1 | h1
  · exact ⟨(h v h1).1, fun e => List.mem_append_left _ ((h v h1).2 e)⟩
  · exact ⟨(g v h1).1, fun e => List.mem_append_right _ ((g v h1).2 e)⟩
theorem n5T_rf : n5T L L := ⟨[], by rw [List.append_nil], fun _ h => by cases h⟩
theorem n5T_tr (h : n5T L L') (g : n5T L' L2) : n5T L L2 := by
  obtain ⟨N, e, h⟩ := h
  obtain ⟨N2, e2, g⟩ := g
  exact ⟨N ++ N2, by rw [e2, e, List.append_assoc], n5N_app h g⟩
theorem n5T_k {k a b : Nat} (h : ¬ k = 53) (h' : ¬ k = 12) : n5T L (L ++ [(k, a, b)]) := ⟨_, rfl, fun v hv => by rw [List.mem_singleton.mp hv]; exact ⟨h, fun e => absurd e h'⟩⟩
theorem n5T_7 {i j : Nat} : n5T L (L ++ [(7, i, 0), (12, j, i)]) := ⟨_, rfl, fun v hv => by
  rcases List.mem_cons.mp hv with e | e
  · rw [e]; exact ⟨by show ¬ 7 = 53; decide, fun z => absurd z (by show ¬ 7 = 12; decide)⟩
  · rw [List.mem_singleton.mp e]; exact ⟨by show ¬ 12 = 53; decide, fun _ => List.mem_cons_self⟩⟩
theorem pt_n5T {w : Int32} {q r : Nat × gU} (h : pt K w q = some r) : n5T q.2 r.2 := by
  obtain ⟨-, -, e⟩ := pt_is h
  rw [e]; exact n5T_rf
abbrev ng5 (rE : Nat → Nat → gU → gOp) : Prop := ∀ s i L q, rE s i L = some q → n5T L q.2
theorem pW_n5T {rE : Nat → Nat → gU → gOp} {th : Nat} (hr : ng5 rE) : ∀ (f j : Nat) (L : gU) (q : Nat × gU), pW rE K th f j L = some q → n5T L q.2 := by
  intro f
  induction f with
  | zero => intro j L q h; exact absurd h (by simp [pW])
  | succ f ih =>
    intro j L q h
    rw [pW] at h
    split at h
    · split at h
      · obtain ⟨z, hz, h2⟩ := Option.bind_eq_some_iff.mp h
        exact n5T_tr (hr _ _ _ _ hz) (n5T_tr (n5T_k (by decide) (by decide)) (ih _ _ _ h2))
      · exact absurd h (by simp)
    · cases Option.some.inj h; exact n5T_rf
theorem pO_n5T {rE : Nat → Nat → gU → gOp} (hr : ng5 rE) (ho : o = true) {i : Nat} {q : Nat × gU} (h32 : ¬ K i = 32) (h : pO rE K o i L = some q) : n5T L q.2 := by
  unfold pO at h
  split at h
  · exact absurd h (by simp)
  · split at h
    · cases Option.some.inj h; exact n5T_k (by decide) (by decide)
    · split at h
      · obtain ⟨z, hz, h2⟩ := Option.bind_eq_some_iff.mp h
        exact n5T_tr (hr _ _ _ _ hz) (pt_n5T h2)
      · split at h
        · split at h
          · split at h
            · cases Option.some.inj h; exact n5T_7
            · exact absurd h (by simp)
          · cases Option.some.inj h; exact n5T_k (by decide) (by decide)
        · exact absurd h (by simp)
theorem pE_n5T (ho : o = true) : ∀ f : Nat, ng5 (pE K o f) := by
  intro f
  induction f with
  | zero => intro s i L q h; exact absurd h (by simp [pE])
  | succ f ih =>
    intro s i L q h
    rw [pE] at h
    split at h
    · rename_i hb
      obtain ⟨z, hz, h2⟩ := Option.bind_eq_some_iff.mp h
      refine n5T_tr ?_ (pW_n5T ih _ _ _ _ h2)
      split at hz
      · split at hz
        · obtain ⟨y, hy, h3⟩ := Option.bind_eq_some_iff.mp hz
          cases Option.some.inj h3
          exact n5T_tr (ih _ _ _ _ hy) (n5T_k (by decide) (by decide))
        · exact absurd hz (by simp)
      · refine pO_n5T ih ho (fun e => ?_) hz
        rw [e] at hb
        rcases hb with z | ⟨-, z⟩ | z | z | z | z
        · exact absurd z (by decide)
        · rw [ho] at z; cases z
        · exact absurd z (by decide)
        · exact absurd z (by decide)
        · exact absurd z (by decide)
        · exact absurd z (by decide)
    · exact absurd h (by simp)
theorem pX_n5T {f i : Nat} {q : Nat × gU} (h : pX K true f i L = some q) : n5T L q.2 := by
  obtain ⟨z, hz, h2⟩ := Option.bind_eq_some_iff.mp h
  refine n5T_tr (pE_n5T rfl f _ _ _ _ hz) ?_
  unfold pan at h2
  cases Option.some.inj h2
  exact n5T_k (by decide) (by decide)
/-- the claims so far -/
def WDc (c : gCd) : Prop := ∃ E S r b l, c = (E, S, [], r, b, l) ∧ E.2.1 = [] ∧ r.1 = [] ∧ ∀ q ∈ l, n5N q.2
variable {c : gCd} {i j n t : Nat} {T : gTd} {E : gV}
theorem WDc_th {q : Nat} (h : WDc c) (hB : PBt K 0 0 q N) (nf : ¬ flt sN T V N E0v) : WDc (cds sN K ([(34, i, j)] ++ N) c) ∧ eqE (exs N E0v) E0v := by
  obtain ⟨E, S, r, b, l, rfl, hE, hr, h3⟩ := h
  obtain ⟨b1, b2, b3⟩ := hB sN T V E0v nf gEe_0 rfl
  obtain ⟨S', e, g⟩ := b3 S [] (b ++ [(S.length, j)], l)
  have b2 : exs N E0v = ([], [], q) := b2
  refine ⟨⟨([], [], q), S' ++ [(21, 0, knw ([], [], q), none, none, false, none, none, none)], rg0, b ++ [(S.length, j)], l, ?_, rfl, rfl, h3⟩, by rw [b2]; exact ⟨rfl, rfl⟩⟩
  rw [cds_app, cds_one, cd_34, e]
  rfl
theorem WDc_cl {u : Nat} (hu : u = 35 ∨ u = 36) (h : WDc c) (hs : sEv true N) (hP : n5N N) : WDc (cds sN K ([(u, i, 0)] ++ (N ++ [(54, 0, 0)])) c) := by
  obtain ⟨E, S, ⟨cu, su, pl, ro, tg, tk⟩, b, l, rfl, hE, hr, h3⟩ := h
  have hr : cu = [] := hr
  subst hr
  have e1 : cdV sN K (E, S, [], ([], su, pl, ro, tg, tk), b, l) (u, i, 0) = (E, S, [], ([], su, u, ro, tg, tk), b, l) := by
    rcases hu with rfl | rfl
    · exact cd_35
    · exact cd_36
  have e2 : cds sN K ([(u, i, 0)] ++ (N ++ [(54, 0, 0)])) (E, S, [], ([], su, pl, ro, tg, tk), b, l) = (E, S, [], ([], su, u, ro, tg, tk), b, l ++ [(u, N)]) := by
    rw [cds_app, cds_one, e1, cds_app, cds_sum (r := ([], su, u, ro, tg, tk)) hs (fun _ => hE), cds_one]
    show cdV sN K (E, S, [], ([] ++ N, su, u, ro, tg, tk), b, l) (54, 0, 0) = _
    rw [List.nil_append]
    unfold cdV
    rw [if_neg (by decide), if_neg (by decide), if_pos rfl, if_pos hE]
  rw [e2]
  refine ⟨_, _, _, _, _, rfl, hE, rfl, fun q hq => ?_⟩
  rcases List.mem_append.mp hq with hq | hq
  · exact h3 q hq
  · rw [List.mem_singleton.mp hq]
    exact hP
theorem WDc_no (h : WDc c) (hN : dul N) (hE : eqE E E0v) : WDc (cds sN K N c) ∧ eqE (exs N E) E0v := by
  rw [cds_no hN]
  refine ⟨h, ?_⟩
  rw [exs_still (fun v hv => by have := hN v hv; omega)]
  exact hE
theorem pD_g {n : gN} {q : gN × Nat × gU} (h : pD K V n i L = some q) : ∃ N, q.2.2 = L ++ N ∧ ∀ sN T V' E c, WDc c → eqE E E0v → ¬ flt sN T V' N E → WDc (cds sN K N c) ∧ eqE (exs N E) E0v := by
  have cell : ∀ t, (pCl K V n.1 i t L).bind (fun q => some ((q.1, n.2), q.2)) = some q → ∃ N, q.2.2 = L ++ N ∧ ∀ sN T V' E c, WDc c → eqE E E0v → ¬ flt sN T V' N E → WDc (cds sN K N c) ∧ eqE (exs N E) E0v := fun t h => by
    obtain ⟨z, hz, e⟩ := Option.bind_eq_some_iff.mp h
    obtain ⟨N, eN, hN⟩ := pCl_f hz
    cases Option.some.inj e
    exact ⟨N, eN, fun sN T V' E c hc hE _ => WDc_no hc hN hE⟩
  have blk : ∀ (t a j : Nat) (v : gN), (pBk (pS K 16) K 0 0 t (L ++ [(34, a, j)])).bind (fun q => some (v, q.2)) = some q → ∃ N, q.2.2 = L ++ N ∧ ∀ sN T V' E c, WDc c → eqE E E0v → ¬ flt sN T V' N E → WDc (cds sN K N c) ∧ eqE (exs N E) E0v := fun t a j v h => by
    obtain ⟨z, hz, e⟩ := Option.bind_eq_some_iff.mp h
    obtain ⟨N, eN, hN⟩ := pBk_f (pS_f 16 (Nat.le_refl _)) hz
    cases Option.some.inj e
    refine ⟨[(34, a, j)] ++ N, by show z.2.2 = _; rw [eN, List.append_assoc], fun sN T V' E c hc hE nf => ?_⟩
    have s34 : still [(34, a, j)] := st_k (by decide)
    obtain ⟨-, nf⟩ := nf_app nf s34
    obtain ⟨r1, r2⟩ := WDc_th (i := a) (j := j) hc hN (fun y => nf ((flt_q hE).mpr y))
    refine ⟨r1, ?_⟩
    rw [exs_app, exs_still s34]
    exact eqE_tr (exs_q hE) r2
  have clm : ∀ (u : Nat) (v : gN), u = 35 ∨ u = 36 → ((pX K true 16 (i + 1) (L ++ [(u, i, 0)])).bind (pt K 67)).bind (fun q => some (v, q)) = some q → ∃ N, q.2.2 = L ++ N ∧ ∀ sN T V' E c, WDc c → eqE E E0v → ¬ flt sN T V' N E → WDc (cds sN K N c) ∧ eqE (exs N E) E0v := fun u v hu h => by
    obtain ⟨z, hz, e⟩ := Option.bind_eq_some_iff.mp h
    obtain ⟨y, hy, h2⟩ := Option.bind_eq_some_iff.mp hz
    obtain ⟨N, eN, hs, hw⟩ := pX_sW hy
    obtain ⟨N', eN', hn5⟩ := pX_n5T hy
    have eNN : N' = N ++ [(54, 0, 0)] := List.append_cancel_left (eN'.symm.trans eN)
    have hn : n5N N := fun v hv => by
      have h9 := hn5 v (by rw [eNN]; exact List.mem_append_left _ hv)
      refine ⟨h9.1, fun e12 => ?_⟩
      have h8 := h9.2 e12
      rw [eNN] at h8
      rcases List.mem_append.mp h8 with h7 | h7
      · exact h7
      · have := congrArg (fun z : Nat × Nat × Nat => z.1) (List.mem_singleton.mp h7)
        exact absurd this (by show ¬ 7 = 54; decide)
    obtain ⟨-, -, e2⟩ := pt_is h2
    cases Option.some.inj e
    refine ⟨[(u, i, 0)] ++ (N ++ [(54, 0, 0)]), ?_, fun sN T V' E c hc hE _ => ⟨WDc_cl hu hc hs hn, ?_⟩⟩
    · show z.2 = _
      rw [e2]
      show y.2 = _
      rw [eN, List.append_assoc]
    · rw [exs_still (still_app (st_k (by omega)) (still_app (sEv_st hs) (st_k (by decide))))]
      exact hE
  unfold pD at h
  split at h
  · split at h
    · exact cell _ h
    · exact absurd h (by simp)
  · split at h
    · exact cell _ h
    · split at h
      · split at h
        · cases Option.some.inj h
          exact ⟨[(33, i + 1, 0)], rfl, fun sN T V' E c hc hE _ => WDc_no hc (dul_one (by decide)) hE⟩
        · exact absurd h (by simp)
      · split at h
        · split at h
          · exact blk _ _ 1 _ h
          · exact absurd h (by simp)
        · split at h
          · split at h
            · exact blk _ _ 0 _ h
            · exact absurd h (by simp)
          · split at h
            · split at h
              · exact clm 35 _ (Or.inl rfl) h
              · exact absurd h (by simp)
            · split at h
              · split at h
                · exact clm 36 _ (Or.inr rfl) h
                · exact absurd h (by simp)
              · exact absurd h (by simp)
theorem pAl_g : ∀ (m : Nat) (n : gN) (i : Nat) (L : gU) (q : gN × Nat × gU), pAl K V m n i L = some q → ∃ N, q.2.2 = L ++ N ∧ ∀ sN T V' E c, WDc c → eqE E E0v → ¬ flt sN T V' N E → WDc (cds sN K N c) := by
  intro m
  induction m with
  | zero => intro n i L q h; exact absurd h (by simp [pAl])
  | succ m ih =>
    intro n i L q h
    rw [pAl] at h
    split at h
    · cases Option.some.inj h
      exact ⟨[], by rw [List.append_nil], fun sN T V' E c hc _ _ => hc⟩
    · obtain ⟨z, hz, h2⟩ := Option.bind_eq_some_iff.mp h
      obtain ⟨M, eM, hM⟩ := pD_g hz
      obtain ⟨N, eN, hN⟩ := ih _ _ _ _ h2
      refine ⟨M ++ N, by rw [eN, eM, List.append_assoc], fun sN T V' E c hc hE nf => ?_⟩
      rw [flt_app] at nf
      obtain ⟨r1, r2⟩ := hM sN T V' E c hc hE (fun y => nf (Or.inl y))
      rw [cds_app]
      exact hN sN T V' _ _ r1 r2 (fun y => nf (Or.inr y))
theorem cod_c {n : gN} (h : pAl K V 701 (0, 0, 0, 0, 0) 0 [] = some (n, j, L)) (nf : ¬ jFl sN K V L) : WDc (cds sN K L cd0) := by
  obtain ⟨N, eN, hN⟩ := pAl_g _ _ _ _ _ h
  have eN : L = N := eN
  rw [← eN] at hN
  exact hN sN _ V E0v cd0 ⟨E0v, [], rg0, [], [], rfl, rfl, rfl, fun q hq => (by cases hq)⟩ ⟨rfl, rfl⟩ (fun y => nf (Or.inr y))
theorem flt_mm : ∀ {L : gU} {E : gV} {v : Nat × Nat × Nat}, ¬ flt sN T V L E → v ∈ L → ∃ E', ¬ fv sN T V E' v := by
  intro L
  induction L with
  | nil => intro E v _ hv; cases hv
  | cons a L ih =>
    intro E v nf hv
    have n1 : ¬ fv sN T V E a := fun z => nf (Or.inl z)
    have n2 : ¬ flt sN T V L (exV E a) := fun z => nf (Or.inr z)
    rcases List.mem_cons.mp hv with e | e
    · rw [e]; exact ⟨E, n1⟩
    · exact ih n2 e
/-- claims, in numbers, but for what is below 0 -/
def NCu (C : gCo) : Prop := ∀ Q, Q ∈ C.2.2.2.1 ∨ Q ∈ C.2.2.2.2 → ∀ p ∈ Q, ¬ p.1 = 3 ∧ (p.1 = 4 → p.2.2.toInt < C.2.2.1.length)
theorem NCu_of {n : gN} (h : pAl K V 701 (0, 0, 0, 0, 0) 0 [] = some (n, j, L)) (nf : ¬ jFl sN K V L) (l24 : (cel K V L).length ≤ 24) : NCu (codN sN V K L) := by
  have hc : celP K V L := pAl_cP 701 _ _ _ _ celP_0 h
  obtain ⟨E, S, r, b, l, ec, -, -, w1, w2, w3⟩ := cod_ok h nf
  obtain ⟨E', S', r', b', l', ec', -, -, w4⟩ := cod_c h nf
  have el : l' = l := by
    have e9 := ec'.symm.trans ec
    exact congrArg (fun z : gCd => z.2.2.2.2.2) e9
  rw [el] at w4
  have e3 : (cds sN K L cd0).2.2.2.2.2 = l := by rw [ec]
  obtain ⟨T, eT⟩ : ∃ T, T = L.filterMap (te1 K V) := ⟨_, rfl⟩
  have nfl : ¬ flt sN T V L E0v := fun z => nf (Or.inr (by rw [← eT]; exact z))
  have cs : (codN sN V K L).2.2.1 = cel K V L := rfl
  -- a cell's number
  have num : ∀ t q, mtP sN T 0 t = some q → ∀ i, i < max q.2.2.1 1 → nmT sN 0 t T + i < (cel K V L).length := fun t q hm i hi => by
    obtain ⟨T1, T2, a1, a2, a3⟩ := nm_first hm
    obtain ⟨p, hp⟩ := hc.2 T1 q T2 (by rw [← eT]; exact a1) a2
    rw [a3]
    exact gt_lt (hp i hi)
  have cl : ∀ u Q, Q ∈ (clF u l).map (nQs sN T V K []) → ∀ p ∈ Q, ¬ p.1 = 3 ∧ (p.1 = 4 → p.2.2.toInt < (cel K V L).length) := fun u Q hQ p hp => by
    obtain ⟨N, hN, e⟩ := List.mem_map.mp hQ
    subst e
    obtain ⟨q, hq, e9⟩ := List.mem_filterMap.mp hN
    have e9 : q.2 = N := by
      split at e9
      · exact Option.some.inj e9
      · exact absurd e9 (by simp)
    obtain ⟨-, z4⟩ := w3 q hq
    have z5 := w4 q hq
    rw [e9] at z4 z5
    obtain ⟨v, hv, e⟩ := List.mem_filterMap.mp hp
    have inL := z4 v hv
    obtain ⟨n53, h12⟩ := z5 v hv
    unfold nQt at e
    split at e
    · cases e; exact ⟨by show ¬ 1 = 3; decide, fun z => absurd z (by show ¬ 1 = 4; decide)⟩
    · split at e
      · cases e; exact ⟨by show ¬ 2 = 3; decide, fun z => absurd z (by show ¬ 2 = 4; decide)⟩
      · split at e
        · next e6 =>
          cases e
          refine ⟨by show ¬ 4 = 3; decide, fun _ => ?_⟩
          obtain ⟨E9, n9⟩ := flt_mm nfl inL
          have pl : plc sN T v.2.1 := Classical.byContradiction (fun z => n9 (Or.inr (Or.inl ⟨e6, z⟩)))
          obtain ⟨q9, hm, -⟩ := pl
          have := num _ _ hm 0 (by omega)
          show (Int32.ofNat (nmT sN 0 v.2.1 T)).toInt < _
          rw [Int32.toInt_ofNat_of_lt (by omega)]
          omega
        · split at e
          · next e12 =>
            cases e
            refine ⟨by show ¬ 4 = 3; decide, fun _ => ?_⟩
            obtain ⟨E9, n9⟩ := flt_mm nfl inL
            obtain ⟨E7, n7⟩ := flt_mm nfl (z4 _ (h12 e12))
            have rw7 : ∃ n, rwc sN T v.2.2 n := Classical.byContradiction (fun z => n7 (Or.inr (Or.inr (Or.inl ⟨rfl, z⟩))))
            obtain ⟨m, hm⟩ := rw7
            have lt : ¬ (m : Int) ≤ (V v.2.1).toInt := fun z => n9 (Or.inr (Or.inr (Or.inr (Or.inl ⟨e12, m, hm, z⟩))))
            obtain ⟨q9, hm1, hm2, hm3⟩ := hm
            have b0 := num _ _ hm1 (m - 1) (by omega)
            have lo := Int32.le_toInt (V v.2.1)
            have ofm : (Int32.ofNat (nmT sN 0 v.2.2 T)).toInt = (nmT sN 0 v.2.2 T : Nat) := Int32.toInt_ofNat_of_lt (by omega)
            show (Int32.ofNat (nmT sN 0 v.2.2 T) + V v.2.1).toInt < _
            rw [t_add (by omega) (by omega), ofm]
            omega
          · split at e
            · cases e; exact ⟨by show ¬ 5 = 3; decide, fun z => absurd z (by show ¬ 5 = 4; decide)⟩
            · split at e
              · cases e; exact ⟨by show ¬ 6 = 3; decide, fun z => absurd z (by show ¬ 6 = 4; decide)⟩
              · exact absurd e (by simp)
  intro Q hQ
  rw [cs]
  unfold codN at hQ
  rw [e3, ← eT] at hQ
  exact hQ.elim (fun z => cl 35 Q z) (fun z => cl 36 Q z)
theorem NCq_of {x : gd} {C : gCo} (hC : CO x) (hK : CK x C) (h : NCu C) : NCq C := by
  have key : ∀ (r : Int32) (Q : List gQ), SUk x r (Q.map cQ) → ∀ p ∈ Q, p.1 = 4 → 0 ≤ p.2.2.toInt := fun r Q hS p hp h4 => by
    obtain ⟨i, hi⟩ := List.mem_iff_getElem?.mp hp
    obtain ⟨s1, s2, s3, -⟩ := hS
    have hl := gt_lt hi
    obtain ⟨e1, e2⟩ := s3 i (cQ p) (by rw [List.getElem?_map, hi]; rfl)
    have c4 : cQ p = (2, p.2.2) := by
      unfold cQ
      rw [if_neg (by omega), if_neg (by omega), if_neg (by omega), if_pos h4]
    rw [c4] at e1 e2
    have cr := t_cl r
    rw [List.length_map] at s2
    have := hC.2.1.2 (r.toNatClampNeg + i) (by omega) e1
    rw [e2] at this
    exact this.1
  intro Q hQ p hp
  obtain ⟨a, b⟩ := h Q hQ p hp
  refine ⟨a, fun h4 => ⟨?_, b h4⟩⟩
  rcases hQ with hQ | hQ
  · obtain ⟨k, hk⟩ := List.mem_iff_getElem?.mp hQ
    exact key _ Q (hK.2.2.2.1.2 k Q hk) p hp h4
  · obtain ⟨k, hk⟩ := List.mem_iff_getElem?.mp hQ
    exact key _ Q (hK.2.2.2.2.2 k Q hk) p hp h4
end NT5
