/-! readIf: what it reads -/
theorem pS_63 {K : Nat → Int32} {k c i : Nat} {L : gU} {q : Nat × Nat × gU} (h : pS K k c i L = some q) (hK : K i = 24) : ∃ N, q.2.2 = N ++ [(63, 0, 0)] := by
  cases k with
  | zero => exact absurd h (by simp [pS])
  | succ f =>
    rw [pS] at h
    split at h
    · exact absurd h (by simp)
    · obtain ⟨z, hz, h2⟩ := Option.bind_eq_some_iff.mp h
      obtain ⟨y, hy, h4⟩ := Option.bind_eq_some_iff.mp h2
      unfold pfi at h4
      cases Option.some.inj h4
      exact ⟨y.2.2, rfl⟩
theorem sf_readIf (k : Nat) (ihS : SfS k) {G : mG} {D : Nat} {x : gd} {F : Int32 → gd → Prop} (hD : 4 * k + 22 ≤ D) (hpre : PreK k 0 x) (hb : (x.1 0 9).toInt = 0) (hlt : LT x) (hK : x.1 5 (x.1 0 8).toNatClampNeg = 24) (hF : ∀ r x', QO k x r x' → FOs k x r x' → F r x') : MT G D z_readIf 0 [(0, vr 0)] [] x (ri F) := by
  obtain ⟨D, rfl⟩ : ∃ m, D = m + 22 := ⟨D - 22, by omega⟩
  obtain ⟨pn, n0, c0, k16, nst⟩ := id hpre
  obtain ⟨i, ei⟩ : ∃ i, i = (x.1 0 8).toNatClampNeg := ⟨_, rfl⟩
  have hi : nwo x = some i := by rw [ei]; exact nwo_o hb
  obtain ⟨K, eK⟩ : ∃ K, K = x.1 5 := ⟨_, rfl⟩
  rw [← eK, ← ei] at hK
  refine sg_readIf_0 (sf_step pn (fun y1 s1 t1 h1 => sf_E k (g := 0) _ _ (by omega) (by decide) (PreK_ss hpre s1) (fun r3 y2 h2 hf2 => ?_)))
  obtain ⟨r2, l2, c2, u2, rr2, ok2⟩ := h2
  obtain ⟨M2, f2, v2⟩ := FE_0 hf2
  have k1 : y1.1 5 = K := by rw [eK]; exact s1.1.2.1 5 (by decide) (by decide)
  rw [k1] at f2
  have k2 : y2.1 5 = K := (r2.1.2.1 5 (by decide) (by decide)).trans k1
  have c1 := cr_ss s1
  have e1 : y1.1 0 21 = x.1 0 21 := s1.1.1 21 (by decide)
  have e1d : y1.1 0 20 = x.1 0 20 := s1.1.1 20 (by decide)
  have rx2 := RP_tr (RP_ss s1) r2
  have lt2 : LT y2 := by unfold LT; rw [l2, e1]; exact hlt
  have lts2 : lts y2 = lts x := by unfold lts; rw [l2, e1]
  have pre2 : PreK k (-700) y2 := PreK_rp hpre rx2 (by omega) (fun q => by
    obtain ⟨a1, a2, a3, a4⟩ := ok2 q
    exact ⟨by rw [a1, e1d], by omega⟩)
  refine sf_readBlock k ihS (by omega) pre2 (fun _ => lt2) (fun r5 y4 h4 hf4 => ?_)
  obtain ⟨r4, c4, d4, rr4, ok4⟩ := h4
  obtain ⟨M4, f4, v4⟩ := hf4 3
  rw [k2] at f4
  have k4 : y4.1 5 = K := (r4.1.2.1 5 (by decide) (by decide)).trans k2
  have rx4 := RP_tr rx2 r4
  have b2 := pre2.1.2.2.1
  have low4 : -(3 * ((k : Int) + 1) + 1) ≤ cr y4 := by
    by_cases q : (y2.1 0 9).toInt = 0
    · exact c4 q
    · have := d4 (by omega); omega
  -- what holds when all went well so far
  have good4 : (y4.1 0 9).toInt = 0 → y4.1 0 20 = x.1 0 20 ∧ (x.1 0 8).toInt + 4 ≤ (y4.1 0 8).toInt ∧ cr x + 6 ≤ cr y4 ∧ (x.1 0 21).toInt ≤ (y4.1 0 21).toInt ∧ LT y4 ∧ ∃ i j c1 : Nat, (i : Int) + j + 1 ≤ (y4.1 0 8).toInt - (x.1 0 8).toInt ∧ (c1 : Int) ≤ (y4.1 0 21).toInt - (x.1 0 21).toInt ∧ vE y4 i i 17 r3 ∧ vB y4 (x.1 0 13).toInt (vS y4 (x.1 0 13).toInt (k + 1)) j c1 r5 := by
    intro q
    obtain ⟨o1, o2, o3, o4, o5, o6⟩ := ok4 q
    have q2 := r4.2.2.2.1 q
    obtain ⟨a1, a2, a3, a4⟩ := ok2 q2
    have q1 := r2.2.2.2.1 q2
    have st := t1 q1
    have cs := c1.2 q1 st
    have e2 : (y2.1 0 21).toInt = (x.1 0 21).toInt := by rw [l2, e1]
    have o9 := vB_keep rx2.2.2.2.2.1 (l := r5.toInt) ⟨NK_rfl y4, fun _ _ _ _ => rfl⟩ (fun _ _ _ _ g => vS_low rx2.2.2.2.2.1 g) (Int.le_refl _) o6
    exact ⟨by rw [o1, a1, e1d], by omega, by omega, by omega, o5, ((y2.1 0 8).toInt - (y1.1 0 8).toInt).toNat, ((y4.1 0 8).toInt - (y2.1 0 8).toInt).toNat, ((y4.1 0 21).toInt - (y2.1 0 21).toInt).toNat, by omega, by omega, vE_RP r4 a4, o9⟩
  have chain : FXs x y4 (fun c i' L => (up3 c (qS qT (qS (pX K false k) (qV (60, i, 0))) i' L)).bind (fun q => pBk (pS K k) K 3 q.1 q.2.1 q.2.2)) (((M2 ++ [(54, 0, 0)]) ++ [(60, i, 0)]) ++ M4) := by
    have c9 := FX_qS (FX_qT h1) (FX_qS (FX_X f2) (FX_qV (60, i, 0) rfl))
    exact FXs_seq (FXs_c 0 c9 (fun _ _ => lts2)) f4
  have p55 : ∀ (z : gd) (l4 : Int32), RP y4 z → -(3 * ((k : Int) + 1) + 1) ≤ cr z → ((z.1 0 9).toInt = 0 → z.1 0 20 = y4.1 0 20 ∧ cr y4 ≤ cr z ∧ (y4.1 0 21).toInt ≤ (z.1 0 21).toInt ∧ LT z ∧ (l4 = -1 ∨ (l4.toInt < (z.1 0 13).toInt ∧ ∃ q c2 : Nat, (q : Int) ≤ (z.1 0 8).toInt - (y4.1 0 8).toInt ∧ (c2 : Int) ≤ (z.1 0 21).toInt - (y4.1 0 21).toInt ∧ (vB z (x.1 0 13).toInt (vS z (x.1 0 13).toInt (k + 1)) q c2 l4 ∨ vS z (x.1 0 13).toInt (k + 1) q c2 l4)))) → (∃ M3, FXs y4 z (fun c j L => pEl (pS K k) K (c, j, L)) M3 ∧ ((z.1 0 9).toInt = 0 → (l4 = -1 ∧ M3 = []) ∨ (l4.toInt < (z.1 0 13).toInt ∧ 0 ≤ l4.toInt ∧ ∃ j N4, M3 = [(62, j, 0)] ++ N4 ∧ (wB z (x.1 0 13).toInt (wSt z (x.1 0 13).toInt (k + 1)) 4 l4 N4 ∨ (¬ z.1 15 l4.toNatClampNeg = 32 ∧ wSt z (x.1 0 13).toInt (k + 1) l4 N4 ∧ ∃ N5, N4 = N5 ++ [(63, 0, 0)]))))) → MT G (D + 22) z_readIf 55 [(0, vr 0), (1, vi (x.1 0 8)), (2, vi r3), (3, vi r5), (4, vi l4)] [] z (ri F) := by
    intro z l4 rz lz okz hfz
    have rxz := RP_tr rx4 rz
    refine sg_readIf_55 _ _ _ _ (sp_node _ _ _ _ _ (nodeV rxz n0 (by omega)) (fun w hw => ri_i (hF _ _ (endO rxz n0 k16 lz (PN_v pn) hw (fun q => ?_)) ?_)))
    · obtain ⟨a1, a2, a3, a4, a5⟩ := okz q
      have q4 := rz.2.2.2.1 q
      obtain ⟨o1, o2, o3, o4, o5, i, j, c1, o6, o7, o8, o9⟩ := good4 q4
      have mn := rz.2.2.1
      have mz := rz.2.2.2.2.1
      have hr5 := o9.1
      refine ⟨by rw [a1, o1], by omega, by omega, by omega, a4, Or.inr (Or.inr (Or.inr (Or.inl ⟨rfl, ?_⟩)))⟩
      have o8' := vE_RP rz o8
      have o9' := vB_RP (Int.le_refl _) rz o9
      rcases a5 with a5 | ⟨a5, q', c2, a6, a7, a8⟩
      · exact ⟨i, j, 0, c1, 0, by omega, by omega, o8', o9', by omega, Or.inl a5⟩
      · exact ⟨i, j, q', c1, c2, by omega, by omega, o8', o9', by omega, Or.inr ⟨a5, a8⟩⟩
    · obtain ⟨M3, f3, v3⟩ := hfz
      have all := FXs_seq (FXs_seq chain f3) (FXs_fi (nE_nwo hw) (nE_lts hw))
      refine ⟨_, FXs_eq all (fun i' hi' L => ?_), fun q => ?_⟩
      · have e : i' = i := Option.some.inj (hi'.symm.trans hi)
        subst e
        rw [← eK, pS_if hK]
      · have f9 : w.1 0 9 = z.1 0 9 := hw.1.1 9 (by decide)
        rw [f9] at q
        have q4 := rz.2.2.2.1 q
        have q2 := r4.2.2.2.1 q4
        obtain ⟨⟨n, ve⟩, -⟩ := v2 q2
        have wb := wB_RP (Int.le_refl _) rz (wB_low rx2.2.2.2.2.1 (v4 q4))
        have wl := wb.1.2
        refine endF rxz n0 (by omega) hw (by decide) (Or.inr (Or.inr (Or.inr (Or.inl ⟨rfl, n, M2, M4, M3, vV_RP rz (vV_RP r4 ve), wb, wl, v3 q, ?_⟩))))
        rw [← ei]
        simp only [List.append_assoc]
  have pn4 := r4.2.1
  refine sf_take _ pn4 (fun h18 => ⟨fun _ => p55 y4 _ (RP_rf pn4) low4 (fun q => ⟨rfl, Int.le_refl _, Int.le_refl _, (good4 q).2.2.2.2.1, Or.inl rfl⟩) ⟨[], fun L => ?_, fun _ => Or.inl ⟨rfl, rfl⟩⟩, fun q => absurd rfl q⟩) (fun y6 j hj h18 b4 s6 t6 h6 => ⟨fun q => absurd q (by decide), fun _ => ?_⟩)
  · rw [List.append_nil]
    cases h9 : nwo y4 with
    | none => rfl
    | some j =>
      have q := h18 j h9
      rw [k4] at q
      show pEl (pS K k) K (lts y4, j, L) = some (lts y4, j, L)
      unfold pEl
      rw [if_neg q]
  obtain ⟨o1, o2, o3, o4, o5, -⟩ := good4 b4
  have c6 := cr_ss s6
  have r46 := RP_ss s6
  have rx6 := RP_tr rx4 r46
  have k6 : y6.1 5 = K := (s6.1.2.1 5 (by decide) (by decide)).trans k4
  have e6 : y6.1 0 21 = y4.1 0 21 := s6.1.1 21 (by decide)
  have e6d : y6.1 0 20 = y4.1 0 20 := s6.1.1 20 (by decide)
  have lt6 : LT y6 := by unfold LT; rw [e6]; exact o5
  have lts6 : lts y6 = lts y4 := by unfold lts; rw [e6]
  have pre6 : PreK k 0 y6 := PreK_rp hpre rx6 (by omega) (fun q => ⟨by rw [e6d, o1], by omega⟩)
  have b6 := pre6.1.2.2.1
  have m6 := rx6.2.2.2.2.1
  rw [k4] at h18
  have hel : ∀ c L, pEl (pS K k) K (c, j, L) = (ps1 j).bind (fun j1 => if K j1 = 24 then pS K k c j1 (L ++ [(62, j, 0)]) else pBk (pS K k) K 4 c j1 (L ++ [(62, j, 0)])) := fun c L => by
    unfold pEl ps1
    rw [if_pos h18]
    by_cases q : j < 700
    · rw [if_pos q, if_pos q]; rfl
    · rw [if_neg q, if_neg q]; rfl
  refine sp_here s6.2.1 (fun r10 hz10 hr10 => ⟨fun n24 => ?_, fun e => ?_⟩)
  · refine sf_readBlock k ihS (by omega) (PreK_w pre6 (by decide)) (fun _ => lt6) (fun r13 y12 h12 hf12 => ?_)
    obtain ⟨r12, c12, d12, rr12, ok12⟩ := h12
    obtain ⟨M12, f12, v12⟩ := hf12 4
    rw [k6] at f12
    refine p55 y12 r13 (RP_tr r46 r12) ?_ (fun q => ?_) ⟨[(62, j, 0)] ++ M12, fun L => ?_, fun q => ?_⟩
    · by_cases q : (y6.1 0 9).toInt = 0
      · exact c12 q
      · have := d12 (by omega); omega
    · obtain ⟨a1, a2, a3, a4, a5, a6⟩ := ok12 q
      have n12 := (RP_ss s6).2.2.1
      rw [e6] at a4 a6
      exact ⟨by rw [a1, e6d], by omega, a4, a5, Or.inr ⟨a6.1.2, ((y12.1 0 8).toInt - (y6.1 0 8).toInt).toNat, ((y12.1 0 21).toInt - (y4.1 0 21).toInt).toNat, by omega, by omega, Or.inl (vB_keep m6 (l := r13.toInt) ⟨NK_rfl y12, fun _ _ _ _ => rfl⟩ (fun _ _ _ _ g => vS_low m6 g) (Int.le_refl _) a6)⟩⟩
    · have e12 := f12 (L ++ [(62, j, 0)])
      rw [h6, lts6] at e12
      rw [hj]
      show pEl (pS K k) K (lts y4, j, L) = _
      rw [hel, ← List.append_assoc, ← e12]
      cases hp : ps1 j with
      | none => rfl
      | some j1 =>
        rw [hp] at h6
        obtain ⟨b9, b8⟩ := nwo_is h6
        have : ¬ K j1 = 24 := by
          rw [← b8, ← k6, ← hr10 b9]
          exact n24
        show (if K j1 = 24 then _ else _) = _
        rw [if_neg this]
        rfl
    · obtain ⟨a1, a2, a3, a4, a5, a6⟩ := ok12 q
      exact Or.inr ⟨a6.1.2, a6.1.1, j, M12, rfl, Or.inl (wB_low m6 (v12 q))⟩
  · have hb6 : (y6.1 0 9).toInt = 0 := by
      rcases Int.lt_or_le 0 (y6.1 0 9).toInt with q | q
      · rw [hz10 q] at e; exact absurd e (by decide)
      · omega
    refine ihS G (D + 21) y6 _ (by omega) pre6 hb6 lt6 (by rw [← hr10 hb6, e]; exact Or.inr (Or.inr (Or.inl rfl))) (fun r15 y14 h14 hf14 => ?_)
    obtain ⟨r14, c14, rr14, ok14⟩ := h14
    obtain ⟨M14, f14, v14⟩ := hf14
    rw [k6] at f14
    refine p55 y14 r15 (RP_tr r46 r14) (by omega) (fun q => ?_) ⟨[(62, j, 0)] ++ M14, fun L => ?_, fun q => ?_⟩
    · obtain ⟨a1, a2, a3, a4, a5, a6, -⟩ := ok14 q
      have n12 := (RP_ss s6).2.2.1
      rw [e6] at a4 a6
      exact ⟨by rw [a1, e6d], by omega, a4, a5, Or.inr ⟨a6.1.2, ((y14.1 0 8).toInt - (y6.1 0 8).toInt).toNat, ((y14.1 0 21).toInt - (y4.1 0 21).toInt).toNat, by omega, by omega, Or.inr (vS_low m6 a6)⟩⟩
    · have e14 := f14 (L ++ [(62, j, 0)])
      rw [h6, lts6] at e14
      rw [hj]
      show pEl (pS K k) K (lts y4, j, L) = _
      rw [hel, ← List.append_assoc, ← e14]
      cases hp : ps1 j with
      | none => rfl
      | some j1 =>
        rw [hp] at h6
        obtain ⟨b9, b8⟩ := nwo_is h6
        have : K j1 = 24 := by
          rw [← b8, ← k6, ← hr10 b9]
          exact e
        show (if K j1 = 24 then _ else _) = _
        rw [if_pos this]
        rfl
    · obtain ⟨a1, a2, a3, a4, a5, a6, -⟩ := ok14 q
      have w14 := v14 q
      refine Or.inr ⟨a6.1.2, a6.1.1, j, M14, rfl, Or.inr ⟨w14.2.1, wS_low m6 w14, ?_⟩⟩
      have e14 := f14 []
      rw [nwo_o q, nwo_o hb6] at e14
      have e14 : pS K k (lts y6) (y6.1 0 8).toNatClampNeg [] = some (lts y14, (y14.1 0 8).toNatClampNeg, [] ++ M14) := e14
      obtain ⟨N5, e5⟩ := pS_63 e14 (by rw [← k6, ← hr10 hb6]; exact e)
      exact ⟨N5, e5⟩
