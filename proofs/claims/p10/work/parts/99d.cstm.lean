/-! statements, blocks and definitions: what their events make of the code -/
section PSS
variable {K V : Nat → Int32} {sN : Nat → Nat → Bool} {T : gTd} {E : gV} {L M N : gU} {f i c c' c2 z n : Nat} {b b2 : Prop} {S : List gSt} {k : List Nat} {w : List (Nat × Nat) × List (Nat × gU)}
theorem PSt_one (hs : still N) (h : ∀ sN T V E, ¬ flt sN T V N E → ¬ E.2.1 = [] → ∀ S k w, ∃ st, cds sN K N (E, S, k, rg0, w) = (E, S ++ [st], k, rg0, w) ∧ stLk sN K E st ∧ ¬ (st.1 = 17 ∨ st.1 = 20)) : PSt K b c c N := by
  intro sN T V E nf hE hg hc
  rw [exs_still hs]
  refine ⟨⟨rfl, List.suffix_refl _, hg, hc, fun _ => rfl⟩, fun S k w => ?_⟩
  obtain ⟨st, e, hL, ho⟩ := h sN T V E nf hE S k w
  refine ⟨_, e, SG_one hL hg ho ?_⟩
  have a := aft_suf (st := st)
  rw [hL.1] at a
  exact a
theorem PSt_let (hR : PRt K none N) (h8 : c < 8) (hb : ¬ b) {t0 t1 : Nat} : PSt K b c (c + 1) ([(23, t0, 0)] ++ (N ++ [(22, t0, t1)])) := by
  intro sN T V E nf hE hg hc
  have s23 : still [(23, t0, 0)] := st_k (by decide)
  obtain ⟨-, nf⟩ := nf_app nf s23
  obtain ⟨nf, -⟩ := nf_app nf hR.1
  have ex : exs ([(23, t0, 0)] ++ (N ++ [(22, t0, t1)])) E = ((t0, E.2.2) :: E.1, E.2.1, E.2.2 + 1) := by
    rw [exs_app, exs_still s23, exs_app, exs_still hR.1]; rfl
  rw [ex]
  refine ⟨⟨rfl, List.suffix_cons _ _, ⟨List.Pairwise.cons hg.2.1 hg.1, fun s hs => ?_, by show E.2.2 + 1 ≤ 8; omega⟩, by show E.2.2 + 1 = c + 1; rw [hc], fun z => absurd z hb⟩, fun S k w => ?_⟩
  · rcases List.mem_cons.mp hs with e | hs
    · rw [e]; exact Nat.lt_succ_self _
    · exact Nat.lt_succ_of_lt (hg.2.1 s hs)
  · obtain ⟨st, e, hL, ho, ha⟩ := hR.2 sN T V E nf hE (fun _ => by omega) S k w (t0 - 1)
    refine ⟨_, by rw [cds_app, cds_one, cd_23, cds_app, e, cds_one, cd_22]; rfl, SG_one hL hg ho ?_⟩
    rw [ha rfl]
    exact List.suffix_refl _
theorem PSt_w (h : PSt K b c c' N) (hb : b2 → b) : PSt K b2 c c' N := fun sN T V E nf hE hg hc => by
  obtain ⟨⟨h1, h2, h3, h4, h5⟩, h6⟩ := h sN T V E nf hE hg hc
  exact ⟨⟨h1, h2, h3, h4, fun z => h5 (hb z)⟩, h6⟩
theorem PSt_set {t a : Nat} (hR : PRt K (some t) N) : PSt K b c c (N ++ [(77, a, 0)]) := PSt_one (still_app hR.1 (st_k (by decide))) (fun sN T V E nf hE S k w => by
  obtain ⟨nf, -⟩ := nf_app nf hR.1
  obtain ⟨st, e, hL, ho, -⟩ := hR.2 sN T V E nf hE (fun z => by cases z) S k w 0
  exact ⟨st, by rw [cds_app, e, cds_one, cd_77], hL, ho⟩)
abbrev psto (K : Nat → Int32) (rS : Nat → Nat → gU → gTs) : Prop := ∀ c i L q, rS c i L = some q → ∃ N, q.2.2 = L ++ N ∧ PSt K (K i = 24) c q.1 N
theorem pS1_f {q : Nat × Nat × gU} (hf : f ≤ 16) (h : pS1 K f c i L = some q) : ∃ N, q.2.2 = L ++ N ∧ PSt K (K i = 24) c q.1 N := by
  unfold pS1 at h
  split at h
  · next k26 =>
    split at h
    · next cc =>
      obtain ⟨r, hr, h2⟩ := Option.bind_eq_some_iff.mp h
      obtain ⟨r1, hr1, h3⟩ := Option.bind_eq_some_iff.mp hr
      obtain ⟨-, -, e3⟩ := pt_is h3
      obtain ⟨N, eN, hN⟩ := pR_f hf (fun a z => by cases z) hr1
      cases Option.some.inj h2
      refine ⟨[(23, i + 1, 0)] ++ (N ++ [(22, i + 1, i)]), ?_, PSt_let hN cc.2.1 (by rw [k26]; decide)⟩
      show r.2 ++ [(22, i + 1, i)] = _
      rw [e3]
      show r1.2 ++ [(22, i + 1, i)] = _
      rw [eN]
      simp only [List.append_assoc]
    · exact absurd h (by simp)
  · split at h
    · next k1 =>
      split at h
      · split at h
        · obtain ⟨r, hr, h2⟩ := Option.bind_eq_some_iff.mp h
          obtain ⟨r1, hr1, h3⟩ := Option.bind_eq_some_iff.mp hr
          obtain ⟨r2, hr2, h4⟩ := Option.bind_eq_some_iff.mp hr1
          obtain ⟨r3, hr3, h5⟩ := Option.bind_eq_some_iff.mp hr2
          obtain ⟨r4, hr4, h6⟩ := Option.bind_eq_some_iff.mp hr3
          obtain ⟨-, -, e3⟩ := pt_is h3
          have h4 : pX K false f r2.1 r2.2 = some r1 := h4
          obtain ⟨-, -, e5⟩ := pt_is h5
          obtain ⟨-, -, e6⟩ := pt_is h6
          obtain ⟨N0, a0, s0, w0⟩ := pX_sW hr4
          obtain ⟨N2, a2, s2, w2⟩ := pX_sW h4
          cases Option.some.inj h2
          refine ⟨[(7, i, 0)] ++ ((N0 ++ [(54, 0, 0)]) ++ ((N2 ++ [(54, 0, 0)]) ++ [(78, i, 0)])), ?_, PSt_one (still_app (st_k (by decide)) (still_app (still_app (sEv_st s0) (st_k (by decide))) (still_app (still_app (sEv_st s2) (st_k (by decide))) (st_k (by decide))))) (fun sN T V E nf hE S k w => ?_)⟩
          · show r.2 ++ [(78, i, 0)] = _
            rw [e3]
            show r1.2 ++ [(78, i, 0)] = _
            rw [a2, e5]
            show (r3.2 ++ (N2 ++ [(54, 0, 0)])) ++ [(78, i, 0)] = _
            rw [e6]
            show (r4.2 ++ (N2 ++ [(54, 0, 0)])) ++ [(78, i, 0)] = _
            rw [a0]
            simp only [List.append_assoc]
          · obtain ⟨-, nf⟩ := nf_app nf (st_k (by decide))
            obtain ⟨n0, nf⟩ := nf_app nf (still_app (sEv_st s0) (st_k (by decide)))
            obtain ⟨n0, -⟩ := nf_app n0 (sEv_st s0)
            obtain ⟨n2, -⟩ := nf_app nf (still_app (sEv_st s2) (st_k (by decide)))
            obtain ⟨n2, -⟩ := nf_app n2 (sEv_st s2)
            refine ⟨_, by rw [cds_app, cds_one, cd_7 hE, cds_app, cds_x s0 hE, cds_app, cds_x s2 hE, cds_one, cd_78], ?_, show ¬ (1 = 17 ∨ 1 = 20) by decide⟩
            exact stLk_x (by decide) (Or.inl rfl) k1 (by simp) (fun _ => Option.some_ne_none _) (fun z => absurd z (by decide)) (sOo_so s0 w0 (by omega) n0) (sOo_so s2 w2 (by omega) n2) sOo_no (fun _ => rfl) (fun z => absurd z (by decide)) (fun _ => rfl)
        · exact absurd h (by simp)
      · split at h
        · obtain ⟨r, hr, h2⟩ := Option.bind_eq_some_iff.mp h
          obtain ⟨r1, hr1, h3⟩ := Option.bind_eq_some_iff.mp hr
          obtain ⟨-, -, e3⟩ := pt_is h3
          obtain ⟨N, eN, hN⟩ := pR_f hf (fun a z => by cases Option.some.inj z; exact k1) hr1
          cases Option.some.inj h2
          refine ⟨N ++ [(77, i, 0)], ?_, PSt_set hN⟩
          show r.2 ++ [(77, i, 0)] = _
          rw [e3]
          show r1.2 ++ [(77, i, 0)] = _
          rw [eN, List.append_assoc]
        · exact absurd h (by simp)
    · split at h
      · next kk =>
        obtain ⟨r, hr, h2⟩ := Option.bind_eq_some_iff.mp h
        obtain ⟨-, -, e3⟩ := pt_is hr
        cases Option.some.inj h2
        refine ⟨[(68, i, 0)], by show r.2 ++ _ = _; rw [e3], PSt_one (st_k (by decide)) (fun sN T V E nf hE S k w => ⟨_, by rw [cds_one, cd_68], stLk_p ?_ (fun _ => rfl), ?_⟩)⟩
        · unfold opP
          split
          · exact Or.inl rfl
          · split
            · exact Or.inr (Or.inl rfl)
            · exact Or.inr (Or.inr (Or.inl rfl))
        · show ¬ (opP (K i) = 17 ∨ opP (K i) = 20)
          unfold opP
          split
          · decide
          · split <;> decide
      · split at h
        · obtain ⟨r, hr, h2⟩ := Option.bind_eq_some_iff.mp h
          obtain ⟨r1, hr1, h3⟩ := Option.bind_eq_some_iff.mp hr
          obtain ⟨-, -, e3⟩ := pt_is h3
          obtain ⟨N0, a0, s0, w0⟩ := pX_sW hr1
          cases Option.some.inj h2
          refine ⟨(N0 ++ [(54, 0, 0)]) ++ [(69, i, 0)], ?_, PSt_one (still_app (still_app (sEv_st s0) (st_k (by decide))) (st_k (by decide))) (fun sN T V E nf hE S k w => ?_)⟩
          · show r.2 ++ [(69, i, 0)] = _
            rw [e3]
            show r1.2 ++ [(69, i, 0)] = _
            rw [a0, List.append_assoc]
          · obtain ⟨n0, -⟩ := nf_app nf (still_app (sEv_st s0) (st_k (by decide)))
            obtain ⟨n0, -⟩ := nf_app n0 (sEv_st s0)
            have ho : opS (K i) = 14 ∨ opS (K i) = 18 := by
              unfold opS
              split
              · exact Or.inr rfl
              · exact Or.inl rfl
            exact ⟨(opS (K i), i, knw E, none, none, false, none, some N0, none), by rw [cds_app, cds_x s0 hE, cds_one, cd_69]; rfl, stLk_s (by omega) (sOo_so s0 w0 (by omega) n0), by show ¬ (opS (K i) = 17 ∨ opS (K i) = 20); omega⟩
        · split at h
          · split at h
            · next cc =>
              obtain ⟨r, hr, h2⟩ := Option.bind_eq_some_iff.mp h
              obtain ⟨r1, hr1, h3⟩ := Option.bind_eq_some_iff.mp hr
              obtain ⟨-, -, e3⟩ := pt_is h3
              obtain ⟨N0, a0, s0, w0⟩ := pX_sW hr1
              cases Option.some.inj h2
              refine ⟨(N0 ++ [(54, 0, 0)]) ++ [(70, i, i + 1)], ?_, PSt_one (still_app (still_app (sEv_st s0) (st_k (by decide))) (st_k (by decide))) (fun sN T V E nf hE S k w => ?_)⟩
              · show r.2 ++ [(70, i, i + 1)] = _
                rw [e3]
                show r1.2 ++ [(70, i, i + 1)] = _
                rw [a0, List.append_assoc]
              · obtain ⟨n0, -⟩ := nf_app nf (still_app (sEv_st s0) (st_k (by decide)))
                obtain ⟨n0, -⟩ := nf_app n0 (sEv_st s0)
                exact ⟨(13, i, knw E, none, some (i + 1), false, none, some N0, none), by rw [cds_app, cds_x s0 hE, cds_one, cd_70]; rfl, stLk_13 cc.1.1 (sOo_so s0 w0 (by omega) n0), show ¬ (13 = 17 ∨ 13 = 20) by decide⟩
            · exact absurd h (by simp)
          · have hop : ∀ k, 5 ≤ opW k ∧ opW k ≤ 10 := fun k => by
              unfold opW
              split
              · decide
              · split
                · decide
                · split
                  · decide
                  · split
                    · decide
                    · split <;> decide
            split at h
            · split at h
              · next cc =>
                obtain ⟨r, hr, h2⟩ := Option.bind_eq_some_iff.mp h
                obtain ⟨-, -, e3⟩ := pt_is hr
                cases Option.some.inj h2
                exact ⟨[(66, i, i + 1)], by show r.2 ++ _ = _; rw [e3], PSt_one (st_k (by decide)) (fun sN T V E nf hE S k w => ⟨_, by rw [cds_one, cd_66], stLk_w (hop _) cc.1, by show ¬ (opW (K i) = 17 ∨ opW (K i) = 20); have := hop (K i); omega⟩)⟩
              · exact absurd h (by simp)
            · split at h
              · split at h
                · next cc =>
                  obtain ⟨r, hr, h2⟩ := Option.bind_eq_some_iff.mp h
                  obtain ⟨-, -, e3⟩ := pt_is hr
                  cases Option.some.inj h2
                  exact ⟨[(67, i, i + 1)], by show r.2 ++ _ = _; rw [e3], PSt_one (st_k (by decide)) (fun sN T V E nf hE S k w => ⟨_, by rw [cds_one, cd_67], stLk_w (hop _) cc.1, by show ¬ (opW (K i) = 17 ∨ opW (K i) = 20); have := hop (K i); omega⟩)⟩
                · exact absurd h (by simp)
              · exact absurd h (by simp)
theorem PSt_nil : PSt K b c c [] := fun sN T V E nf hE hg hc => ⟨⟨rfl, List.suffix_refl _, hg, hc, fun _ => rfl⟩, fun S k w => ⟨S, rfl, SGx_rf⟩⟩
theorem PSt_app (h : PSt K b c c' M) (g : PSt K b2 c' c2 N) : PSt K False c c2 (M ++ N) := by
  intro sN T V E nf hE hg hc
  rw [flt_app] at nf
  obtain ⟨⟨h1, h2, h3, h4, -⟩, h6⟩ := h sN T V E (fun z => nf (Or.inl z)) hE hg hc
  obtain ⟨⟨g1, g2, g3, g4, -⟩, g6⟩ := g sN T V (exs M E) (fun z => nf (Or.inr z)) (by rw [h1]; exact hE) h3 h4
  rw [exs_app]
  refine ⟨⟨g1.trans h1, h2.trans g2, g3, g4, fun z => z.elim⟩, fun S k w => ?_⟩
  obtain ⟨S1, e1, s1⟩ := h6 S k w
  obtain ⟨S2, e2, s2⟩ := g6 S1 k w
  exact ⟨S2, by rw [cds_app, e1, e2], SGx_tr s1 s2⟩
theorem pBl_f {rS : Nat → Nat → gU → gTs} (hr : psto K rS) : ∀ (n c i : Nat) (L : gU) (q : Nat × Nat × gU), pBl rS K z n c i L = some q → ∃ N, q.2.2 = L ++ (N ++ [(21, z, 0)]) ∧ PSt K False c q.1 N := by
  intro n
  induction n with
  | zero => intro c i L q h; exact absurd h (by simp [pBl])
  | succ n ih =>
    intro c i L q h
    rw [pBl] at h
    split at h
    · split at h
      · cases Option.some.inj h
        exact ⟨[], rfl, PSt_nil⟩
      · exact absurd h (by simp)
    · obtain ⟨y, hy, h2⟩ := Option.bind_eq_some_iff.mp h
      obtain ⟨M, eM, hM⟩ := hr _ _ _ _ hy
      obtain ⟨N, eN, hN⟩ := ih _ _ _ _ h2
      exact ⟨M ++ N, by rw [eN, eM]; simp only [List.append_assoc], PSt_app hM hN⟩
/-- a block, but for what its end adds -/
def PBt (K : Nat → Int32) (z c c' : Nat) (N : gU) : Prop := ∀ sN T V E, ¬ flt sN T V N E → gEe E → E.2.2 = c → gEe (E.1, E.2.1, c') ∧ exs N E = (E.1, E.2.1, c') ∧ ∀ S k w, ∃ S', cds sN K N (E, S, k, rg0, w) = cCl ((E.1, E.2.1, c'), S', k, rg0, w) z ∧ SG sN K E S (E.1, E.2.1, c') S'
theorem pBk_f {rS : Nat → Nat → gU → gTs} (hr : psto K rS) {q : Nat × Nat × gU} (h : pBk rS K z c i L = some q) : ∃ N, q.2.2 = L ++ N ∧ PBt K z c q.1 N := by
  unfold pBk at h
  split at h
  · obtain ⟨N, eN, hN⟩ := pBl_f hr _ _ _ _ _ h
    refine ⟨[(20, z, 0)] ++ (N ++ [(21, z, 0)]), by rw [eN, List.append_assoc], fun sN T V E nf hg hc => ?_⟩
    obtain ⟨E1, eE1⟩ : ∃ E1 : gV, E1 = (E.1, E.1.length :: E.2.1, E.2.2) := ⟨_, rfl⟩
    have x1 : exs [(20, z, 0)] E = E1 := by rw [eE1]; rfl
    rw [flt_app, x1, flt_app] at nf
    have hg1 : gEe E1 := by rw [eE1]; exact hg
    obtain ⟨⟨h1, h2, h3, h4, -⟩, h6⟩ := hN sN T V E1 (fun z => nf (Or.inr (Or.inl z))) (by rw [eE1]; exact List.cons_ne_nil _ _) hg1 (by rw [eE1]; exact hc)
    have h1 : (exs N E1).2.1 = E.1.length :: E.2.1 := by rw [h1, eE1]
    have h2 : E.1 <:+ (exs N E1).1 := by rw [eE1] at h2 ⊢; exact h2
    have x2 : exV (exs N E1) (21, z, 0) = (E.1, E.2.1, q.1) := by
      show ((exs N E1).1.drop ((exs N E1).1.length - (exs N E1).2.1.headD 0), (exs N E1).2.1.tail, (exs N E1).2.2) = _
      rw [h1, h4]
      show ((exs N E1).1.drop ((exs N E1).1.length - E.1.length), E.2.1, q.1) = _
      rw [← List.suffix_iff_eq_drop.mp h2]
    have x3 : exs ([(20, z, 0)] ++ (N ++ [(21, z, 0)])) E = (E.1, E.2.1, q.1) := by rw [exs_app, x1, exs_app, exs_one, x2]
    have sl2 : slK E.1 <:+ slK (exs N E1).1 := h2.map _
    refine ⟨⟨hg.1, fun s hs => ?_, by rw [← h4]; exact h3.2.2⟩, x3, fun S k w => ?_⟩
    · have := h3.2.1 s (sl2.subset hs)
      rw [h4] at this
      exact this
    · obtain ⟨S', e, hS⟩ := h6 S k w
      refine ⟨S', ?_, SGx_ex (E1 := exs N E1) (SGx_en (E0 := E) hS (by rw [eE1])) sl2⟩
      rw [cds_app, cds_one, cd_20]
      have x1 : exV E (20, z, 0) = E1 := x1
      rw [x1, cds_app, e, cds_one, cd_21, x2]
  · exact absurd h (by simp)
theorem cCl_no {cc : gCd} (h : z = 3 ∨ z = 4) : cCl cc z = cc := by
  unfold cCl
  rw [if_neg (by omega), if_neg (by omega), if_neg (by omega)]
/-- the test is laid -/
theorem SG_test {N0 : gU} (hg : gEe E) (so : sOo sN K E (some N0)) : SGx sN K (fun j => j = S.length) E S E (S ++ [(17, i, knw E, none, none, false, none, some N0, none)]) :=
  SGx_add (X := fun _ => False) (E1 := E) SGx_rf (fun _ z => z.elim) (List.suffix_refl _) (fun z => absurd rfl z) ⟨E, stLk_s (Or.inr (Or.inl rfl)) so, hg⟩
theorem pS_f : ∀ f : Nat, f ≤ 16 → psto K (pS K f) := by
  intro f
  induction f with
  | zero => intro _ c i L q h; exact absurd h (by simp [pS])
  | succ f ih =>
    intro hf c i L q h
    have ih := ih (by omega)
    rw [pS] at h
    split at h
    · exact absurd h (by simp)
    · split at h
      · next k24 =>
        obtain ⟨r0, hr0, h0⟩ := Option.bind_eq_some_iff.mp h
        obtain ⟨r1, hr1, h1⟩ := Option.bind_eq_some_iff.mp h0
        obtain ⟨r2, hr2, h2⟩ := Option.bind_eq_some_iff.mp hr1
        obtain ⟨N0, a0, s0, w0⟩ := pX_sW hr0
        obtain ⟨B, eB, hB⟩ := pBk_f ih hr2
        unfold pfi at h1
        cases Option.some.inj h1
        unfold pEl at h2
        have p54 : still (N0 ++ [(54, 0, 0)]) := still_app (sEv_st s0) (st_k (by decide))
        have s60 : still [(60, i, 0)] := st_k (by decide)
        split at h2
        · split at h2
          · -- else
            have els : ∃ M, r1.2.2 = (r2.2.2 ++ [(62, r2.2.1, 0)]) ++ M ∧ ∀ sN T V (E : gV), ¬ flt sN T V M E → ¬ E.2.1 = [] → gEe E → E.2.2 = r2.1 → ((exs M E).2.1 = E.2.1 ∧ (exs M E).1 = E.1 ∧ gEe (exs M E) ∧ (exs M E).2.2 = r1.1) ∧ ∀ S k w, ∃ S', cds sN K M (E, S, k, rg0, w) = (exs M E, S', k, rg0, w) ∧ SG sN K E S (exs M E) S' := by
              split at h2
              · next kk =>
                obtain ⟨M, eM, hM⟩ := ih _ _ _ _ h2
                refine ⟨M, eM, fun sN T V E nf hE hg hc => ?_⟩
                obtain ⟨⟨g1, g2, g3, g4, g5⟩, g6⟩ := hM sN T V E nf hE hg hc
                exact ⟨⟨g1, g5 kk, g3, g4⟩, g6⟩
              · obtain ⟨M, eM, hM⟩ := pBk_f ih h2
                refine ⟨M, eM, fun sN T V E nf hE hg hc => ?_⟩
                obtain ⟨g1, g2, g3⟩ := hM sN T V E nf hg hc
                rw [g2]
                refine ⟨⟨rfl, rfl, g1, rfl⟩, fun S k w => ?_⟩
                obtain ⟨S', e, hS⟩ := g3 S k w
                exact ⟨S', by rw [e, cCl_no (Or.inr rfl)], hS⟩
            obtain ⟨M, eM, hM⟩ := els
            have s62 : still [(62, r2.2.1, 0)] := st_k (by decide)
            refine ⟨(N0 ++ [(54, 0, 0)]) ++ ([(60, i, 0)] ++ (B ++ ([(62, r2.2.1, 0)] ++ (M ++ [(63, 0, 0)])))), ?_, ?_⟩
            · show r1.2.2 ++ [(63, 0, 0)] = _
              rw [eM, eB, a0]
              simp only [List.append_assoc]
            · intro sN T V E nf hE hg hc
              obtain ⟨n0, nf⟩ := nf_app nf p54
              obtain ⟨n0, -⟩ := nf_app n0 (sEv_st s0)
              obtain ⟨-, nf⟩ := nf_app nf s60
              rw [flt_app] at nf
              obtain ⟨b1, b2, b3⟩ := hB sN T V E (fun z => nf (Or.inl z)) hg hc
              rw [b2] at nf
              have nf := fun z => nf (Or.inr z)
              obtain ⟨-, nf⟩ := nf_app nf s62
              rw [flt_app] at nf
              obtain ⟨⟨m1, m2, m3, m4⟩, m5⟩ := hM sN T V (E.1, E.2.1, r2.1) (fun z => nf (Or.inl z)) hE b1 rfl
              have ex : exs ((N0 ++ [(54, 0, 0)]) ++ ([(60, i, 0)] ++ (B ++ ([(62, r2.2.1, 0)] ++ (M ++ [(63, 0, 0)]))))) E = exs M (E.1, E.2.1, r2.1) := by
                rw [exs_app, exs_still p54, exs_app, exs_still s60, exs_app, b2, exs_app, exs_still s62, exs_app, exs_still (E := exs M (E.1, E.2.1, r2.1)) (st_k (by decide))]
              rw [ex]
              refine ⟨⟨m1, by rw [m2]; exact List.suffix_refl _, m3, m4, fun _ => m2⟩, fun S k w => ?_⟩
              have g0 := SG_test (i := i) (S := S) hg (sOo_so s0 w0 (by omega) n0)
              obtain ⟨S2, e2, g2⟩ := b3 (S ++ [(17, i, knw E, none, none, false, none, some N0, none)]) (S.length :: k) w
              rw [cCl_no (Or.inl rfl)] at e2
              have g3 := SGx_tr g0 g2
              have lS1 : (S ++ [((17, i, knw E, none, none, false, none, some N0, none) : gSt)]).length = S.length + 1 := by rw [List.length_append]; rfl
              have at1 : S2[S.length]? = some (17, i, knw E, none, none, false, none, some N0, none) := by
                rw [g2.1.2 S.length (by omega)]; exact snA
              have lt2 : S.length < S2.length := gt_lt at1
              -- the jump behind the block
              have g4 : SGx sN K (fun j => j = S.length ∨ j = S2.length) E S (E.1, E.2.1, r2.1) (S2 ++ [(20, 0, knw (E.1, E.2.1, r2.1), none, none, false, none, none, none)]) := SGx_add g3 (fun j z => Or.inl z) (List.suffix_refl _) (fun z => absurd (Or.inr rfl) z) ⟨_, stLk_p (by decide) (fun z => absurd rfl z), b1⟩
              have n1 := g2.2.1
              rw [lS1] at n1
              have lJ : (S2 ++ [((20, 0, knw (E.1, E.2.1, r2.1), none, none, false, none, none, none) : gSt)]).length = S2.length + 1 := by rw [List.length_append]; rfl
              have ent : nxO (S2 ++ [(20, 0, knw (E.1, E.2.1, r2.1), none, none, false, none, none, none)]) (E.1, E.2.1, r2.1) S2.length (slK E.1) := Or.inl ⟨_, snA, List.suffix_refl _⟩
              have g5 : SGx sN K (fun j => j = S2.length) E S (E.1, E.2.1, r2.1) (cTo (S2 ++ [(20, 0, knw (E.1, E.2.1, r2.1), none, none, false, none, none, none)]) S.length (S2.length + 1)) :=
                SGx_cl g4 (Nat.le_refl _) (by rw [List.getElem?_append_left lt2]; exact at1) (Or.inl rfl) (Or.inr ⟨lJ.symm, List.suffix_refl _⟩) (fun _ => nxO_up n1 xtS_sn ent) (fun j z => z)
              obtain ⟨S4, e4, g6⟩ := m5 (cTo (S2 ++ [(20, 0, knw (E.1, E.2.1, r2.1), none, none, false, none, none, none)]) S.length (S2.length + 1)) (S2.length :: k) w
              have g7 := SGx_tr g5 g6
              have at4 : S4[S2.length]? = some (20, 0, knw (E.1, E.2.1, r2.1), none, none, false, none, none, none) := by
                rw [g6.1.2 S2.length (by rw [cTo_len, lJ]; omega), cTo_at, snA]
                show some (if S2.length = S.length then _ else _) = _
                rw [if_neg (by omega)]
              have g8 : SG sN K E S (exs M (E.1, E.2.1, r2.1)) (cTo S4 S2.length S4.length) := SGx_cl g7 (by omega) at4 (Or.inr rfl) (Or.inr ⟨rfl, by rw [m2]; exact List.suffix_refl _⟩) (fun z => absurd z (show ¬ 20 = 17 by decide)) (fun j z => Or.inl z)
              refine ⟨_, ?_, g8⟩
              rw [cds_app, cds_x s0 hE, cds_app, cds_one, cd_60]
              show cds sN K (B ++ ([(62, r2.2.1, 0)] ++ (M ++ [(63, 0, 0)]))) (E, S ++ [(17, i, knw E, none, none, false, none, some N0, none)], S.length :: k, rg0, w) = _
              rw [cds_app, e2, cds_app, cds_one, cd_62]
              show cds sN K (M ++ [(63, 0, 0)]) ((E.1, E.2.1, r2.1), cTo (S2 ++ [(20, 0, knw (E.1, E.2.1, r2.1), none, none, false, none, none, none)]) S.length (S2.length + 1), S2.length :: k, rg0, w) = _
              rw [cds_app, e4, cds_one, cd_63]
              rfl
          · exact absurd h2 (by simp)
        · cases Option.some.inj h2
          refine ⟨(N0 ++ [(54, 0, 0)]) ++ ([(60, i, 0)] ++ (B ++ [(63, 0, 0)])), ?_, ?_⟩
          · show r1.2.2 ++ [(63, 0, 0)] = _
            rw [eB, a0]
            simp only [List.append_assoc]
          · intro sN T V E nf hE hg hc
            obtain ⟨n0, nf⟩ := nf_app nf p54
            obtain ⟨n0, -⟩ := nf_app n0 (sEv_st s0)
            obtain ⟨-, nf⟩ := nf_app nf s60
            rw [flt_app] at nf
            obtain ⟨b1, b2, b3⟩ := hB sN T V E (fun z => nf (Or.inl z)) hg hc
            have ex : exs ((N0 ++ [(54, 0, 0)]) ++ ([(60, i, 0)] ++ (B ++ [(63, 0, 0)]))) E = (E.1, E.2.1, r1.1) := by
              rw [exs_app, exs_still p54, exs_app, exs_still s60, exs_app, b2, exs_still (st_k (by decide))]
            rw [ex]
            refine ⟨⟨rfl, List.suffix_refl _, b1, rfl, fun _ => rfl⟩, fun S k w => ?_⟩
            have g0 := SG_test (i := i) (S := S) hg (sOo_so s0 w0 (by omega) n0)
            obtain ⟨S2, e2, g2⟩ := b3 (S ++ [(17, i, knw E, none, none, false, none, some N0, none)]) (S.length :: k) w
            rw [cCl_no (Or.inl rfl)] at e2
            have g3 := SGx_tr g0 g2
            have lS1 : (S ++ [((17, i, knw E, none, none, false, none, some N0, none) : gSt)]).length = S.length + 1 := by rw [List.length_append]; rfl
            have at1 : S2[S.length]? = some (17, i, knw E, none, none, false, none, some N0, none) := by
              rw [g2.1.2 S.length (by omega)]; exact snA
            have n1 := g2.2.1
            rw [lS1] at n1
            have g8 : SG sN K E S (E.1, E.2.1, r1.1) (cTo S2 S.length S2.length) := SGx_cl g3 (Nat.le_refl _) at1 (Or.inl rfl) (Or.inr ⟨rfl, List.suffix_refl _⟩) (fun _ => n1) (fun j z => Or.inl z)
            refine ⟨_, ?_, g8⟩
            rw [cds_app, cds_x s0 hE, cds_app, cds_one, cd_60]
            show cds sN K (B ++ [(63, 0, 0)]) (E, S ++ [(17, i, knw E, none, none, false, none, some N0, none)], S.length :: k, rg0, w) = _
            rw [cds_app, e2, cds_one, cd_63]
            rfl
      · next n24 =>
        split at h
        · -- while
          obtain ⟨r0, hr0, h0⟩ := Option.bind_eq_some_iff.mp h
          obtain ⟨N0, a0, s0, w0⟩ := pX_sW hr0
          obtain ⟨B, eB, hB⟩ := pBk_f ih h0
          have p54 : still (N0 ++ [(54, 0, 0)]) := still_app (sEv_st s0) (st_k (by decide))
          have s61 : still [(61, i, 0)] := st_k (by decide)
          refine ⟨(N0 ++ [(54, 0, 0)]) ++ ([(61, i, 0)] ++ B), ?_, ?_⟩
          · rw [eB, a0]
            simp only [List.append_assoc]
          · intro sN T V E nf hE hg hc
            obtain ⟨n0, nf⟩ := nf_app nf p54
            obtain ⟨n0, -⟩ := nf_app n0 (sEv_st s0)
            obtain ⟨-, nf⟩ := nf_app nf s61
            obtain ⟨b1, b2, b3⟩ := hB sN T V E nf hg hc
            have ex : exs ((N0 ++ [(54, 0, 0)]) ++ ([(61, i, 0)] ++ B)) E = (E.1, E.2.1, q.1) := by
              rw [exs_app, exs_still p54, exs_app, exs_still s61, b2]
            rw [ex]
            refine ⟨⟨rfl, List.suffix_refl _, b1, rfl, fun _ => rfl⟩, fun S k w => ?_⟩
            have g0 := SG_test (i := i) (S := S) hg (sOo_so s0 w0 (by omega) n0)
            obtain ⟨S2, e2, g2⟩ := b3 (S ++ [(17, i, knw E, none, none, false, none, some N0, none)]) (S.length :: k) w
            have g3 := SGx_tr g0 g2
            have lS1 : (S ++ [((17, i, knw E, none, none, false, none, some N0, none) : gSt)]).length = S.length + 1 := by rw [List.length_append]; rfl
            have at1 : S2[S.length]? = some (17, i, knw E, none, none, false, none, some N0, none) := by
              rw [g2.1.2 S.length (by omega)]; exact snA
            have lt2 : S.length < S2.length := gt_lt at1
            have n1 := g2.2.1
            rw [lS1] at n1
            have lJ : (S2 ++ [((20, 0, knw (E.1, E.2.1, q.1), some S.length, none, false, none, none, none) : gSt)]).length = S2.length + 1 := by rw [List.length_append]; rfl
            have at2 : (S2 ++ [((20, 0, knw (E.1, E.2.1, q.1), some S.length, none, false, none, none, none) : gSt)])[S.length]? = some (17, i, knw E, none, none, false, none, some N0, none) := by
              rw [List.getElem?_append_left lt2]; exact at1
            have g4 : SGx sN K (fun j => j = S.length) E S (E.1, E.2.1, q.1) (S2 ++ [(20, 0, knw (E.1, E.2.1, q.1), some S.length, none, false, none, none, none)]) := SGx_add g3 (fun j z => z) (List.suffix_refl _) (fun _ => ⟨fun z => absurd (Or.inl rfl) z, fun _ => ⟨S.length, rfl, Or.inl ⟨_, at2, List.suffix_refl _⟩⟩⟩) ⟨_, stLk_p (by decide) (fun z => absurd rfl z), b1⟩
            have ent : nxO (S2 ++ [(20, 0, knw (E.1, E.2.1, q.1), some S.length, none, false, none, none, none)]) (E.1, E.2.1, q.1) S2.length (slK E.1) := Or.inl ⟨_, snA, List.suffix_refl _⟩
            have g8 : SG sN K E S (E.1, E.2.1, q.1) (cTo (S2 ++ [(20, 0, knw (E.1, E.2.1, q.1), some S.length, none, false, none, none, none)]) S.length (S2.length + 1)) :=
              SGx_cl g4 (Nat.le_refl _) at2 (Or.inl rfl) (Or.inr ⟨lJ.symm, List.suffix_refl _⟩) (fun _ => nxO_up n1 xtS_sn ent) (fun j z => Or.inl z)
            refine ⟨_, ?_, g8⟩
            rw [cds_app, cds_x s0 hE, cds_app, cds_one, cd_61]
            show cds sN K B (E, S ++ [(17, i, knw E, none, none, false, none, some N0, none)], S.length :: k, rg0, w) = _
            rw [e2]
            rfl
        · split at h
          · split at h
            · next kk =>
              obtain ⟨B, eB, hB⟩ := pBk_f ih h
              have s65 : still [(65, i, i + 1)] := st_k (by decide)
              refine ⟨[(65, i, i + 1)] ++ B, by rw [eB, List.append_assoc], ?_⟩
              intro sN T V E nf hE hg hc
              obtain ⟨-, nf⟩ := nf_app nf s65
              obtain ⟨b1, b2, b3⟩ := hB sN T V E nf hg hc
              rw [exs_app, exs_still s65, b2]
              refine ⟨⟨rfl, List.suffix_refl _, b1, rfl, fun _ => rfl⟩, fun S k w => ?_⟩
              have hL : stLk sN K E (5, i, knw E, none, some (i + 1), false, none, none, none) := stLk_w (by decide) kk.1
              have g0 : SG sN K E S E (S ++ [(5, i, knw E, none, some (i + 1), false, none, none, none)]) := SG_one hL hg (show ¬ (5 = 17 ∨ 5 = 20) by decide) (aft_suf (st := (5, i, knw E, none, some (i + 1), false, none, none, none)))
              obtain ⟨S2, e2, g2⟩ := b3 (S ++ [(5, i, knw E, none, some (i + 1), false, none, none, none)]) (S.length :: k) w
              have g3 := SGx_tr g0 g2
              have at1 : S2[S.length]? = some (5, i, knw E, none, some (i + 1), false, none, none, none) := by
                rw [g2.1.2 S.length (by rw [List.length_append]; exact Nat.lt_succ_self _)]; exact snA
              have lJ : (S2 ++ [((6, i, knw (E.1, E.2.1, q.1), none, some (i + 1), false, none, none, none) : gSt)]).length = S2.length + 1 := by rw [List.length_append]; rfl
              have g4 : SG sN K E S (E.1, E.2.1, q.1) (S2 ++ [(6, i, knw (E.1, E.2.1, q.1), none, some (i + 1), false, none, none, none)]) := SGx_add g3 (fun j z => z) (List.suffix_refl _) (fun _ => ⟨fun _ => Or.inr ⟨lJ.symm, aft_suf (st := (6, i, knw (E.1, E.2.1, q.1), none, some (i + 1), false, none, none, none))⟩, fun z => absurd z (show ¬ (6 = 17 ∨ 6 = 20) by decide)⟩) ⟨_, stLk_w (by decide) kk.1, b1⟩
              refine ⟨_, ?_, g4⟩
              rw [cds_app, cds_one, cd_65, e2]
              show (_, S2 ++ [(6, (gtS S2 S.length).2.1, knw (E.1, E.2.1, q.1), none, (gtS S2 S.length).2.2.2.2.1, false, none, none, none)], k, rg0, w) = _
              unfold gtS
              rw [at1]
              rfl
            · exact absurd h (by simp)
          · exact pS1_f (by omega) h
end PSS
