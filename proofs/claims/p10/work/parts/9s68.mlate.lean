/-! the model: a late write comes -/
section DLT
variable {d : Nat} {S : gS} {x : gd} {F : Int32 → gd → gS → Prop} {Fv : gd → gS → Prop} {C : gCo} {M : gMa}
theorem ds_doLate3 (t i : Int32) (ht : vp_in t 6) (ri : RI x S) (h0 : 0 ≤ i.toInt) (h1 : i.toInt < (x.1 80 t.toNatClampNeg).toInt) (hM : MM1 x C M) (h : ∀ x' S', RI x' S' → ssub S S' → md [] [70, 80, 81, 82] x x' → MM1 x' C (laM M t.toNatClampNeg i.toInt.toNat) → Fv x' S') : MD d z_doLate 0 [(0, vr 0), (1, vi t), (2, vi i)] [] S x (Dv Fv) := by
  have k1 : (1 : Int32).toInt = 1 := rfl
  obtain ⟨T, eT⟩ : ∃ T, T = t.toNatClampNeg := ⟨_, rfl⟩
  have T6 : T < 6 := by rw [eT]; exact vt ht
  have mT := hM.2.2 T T6
  obtain ⟨lL, lA⟩ := mT.2.2.2.2.2.2.2.2.1
  obtain ⟨l, el⟩ : ∃ l, l = (M.2.2 T).2.2.2.2.2.2.1 := ⟨_, rfl⟩
  rw [← el] at lL lA
  obtain ⟨I, eI⟩ : ∃ I, I = i.toInt.toNat := ⟨_, rfl⟩
  obtain ⟨L, eL⟩ : ∃ L, L = x.1 80 t.toNatClampNeg := ⟨_, rfl⟩
  have rx := (ri.2 _ (vt ht)).2.2
  have L8 := rx.2.1
  rw [← eL] at h1 L8
  have l1 : (L - 1).toInt = L.toInt - 1 := by rw [t_sub (by omega) (by omega), k1]
  -- every place of the thread below L is in order
  let Z : gd → gS → Prop := fun z S2 => md [] [70, 80, 81, 82] x z ∧ ssub S S2 ∧ z.1 80 t.toNatClampNeg = L - 1 ∧ (∀ t' : Nat, ¬ t' = t.toNatClampNeg → z.1 80 t' = x.1 80 t') ∧ ∀ t' : Nat, t' < 6 → ∀ k : Nat, (k : Int) < (x.1 80 t').toInt → S2 81 (10 * t' + k) ∧ S2 82 (10 * t' + k) ∧ 0 ≤ (z.1 81 (10 * t' + k)).toInt ∧ (z.1 81 (10 * t' + k)).toInt < 24
  have lL' : L.toInt = (l.length : Nat) := by rw [eL, ← eT]; exact lL
  have hIl : I < l.length := by omega
  have hq : l[I]? = some l[I] := List.getElem?_eq_getElem hIl
  have hla : laM M T I = upT (upC M l[I].1 l[I].2) T ((M.2.2 T).1, (M.2.2 T).2.1, (M.2.2 T).2.2.1, (M.2.2 T).2.2.2.1, (M.2.2 T).2.2.2.2.1, (M.2.2 T).2.2.2.2.2.1, l.eraseIdx I, (M.2.2 T).2.2.2.2.2.2.2) := by
    unfold laM
    rw [← el, hq]
  -- the thread's row, moved up to j; the others' as they were; the cell
  let G : gd → Int32 → Prop := fun z j => (∀ p : Nat, p < 10 → z.1 81 (10 * T + p) = (if I ≤ p ∧ (p : Int) < j.toInt then x.1 81 (10 * T + (p + 1)) else x.1 81 (10 * T + p)) ∧ z.1 82 (10 * T + p) = (if I ≤ p ∧ (p : Int) < j.toInt then x.1 82 (10 * T + (p + 1)) else x.1 82 (10 * T + p))) ∧ (∀ n : Nat, ¬ (10 * T ≤ n ∧ n < 10 * T + 10) → z.1 81 n = x.1 81 n ∧ z.1 82 n = x.1 82 n) ∧ ∀ n : Nat, z.1 70 n = if n = l[I].1 then l[I].2 else x.1 70 n
  have fin : ∀ (z : gd) (S2 : gS) (j : Int32), Z z S2 → G z j → L.toInt - 1 ≤ j.toInt → Dv Fv none z S2 := by
    intro z S2 j hz hg hj
    obtain ⟨z1, z2, z3, z4, z5⟩ := hz
    refine Dv_i (h z S2 ⟨CP_md z1 rfl rfl ri.1, fun t' ht' => ?_⟩ z2 z1 ?_)
    rotate_left
    · rw [← eT, ← eI, hla]
      obtain ⟨g1, g2, g3⟩ := hg
      have f := fun q (h0 : q ≠ 0) hq => z1.2.1 q h0 hq
      have same : ∀ (t' : Nat) (hh : gTq), mLt z t' hh.2.2.2.2.2.2.1 → mTq x C t' (hh.1, hh.2.1, hh.2.2.1, hh.2.2.2.1, hh.2.2.2.2.1, hh.2.2.2.2.2.1, (M.2.2 t').2.2.2.2.2.2.1, hh.2.2.2.2.2.2.2) → mTq z C t' hh := fun t' hh hm q => by
        obtain ⟨a1, a2, a3, a4, a5, a6, a7, a8, -, b1⟩ := q
        refine ⟨by rw [f 73 (by decide) (by decide)]; exact a1, a2, by rw [f 75 (by decide) (by decide)]; exact a3, by rw [f 74 (by decide) (by decide)]; exact a4, by rw [f 77 (by decide) (by decide)]; exact a5, a6, by rw [f 78 (by decide) (by decide)]; exact a7, by rw [f 79 (by decide) (by decide)]; exact a8, hm, ?_⟩
        unfold mLv at b1 ⊢
        rw [f 76 (by decide) (by decide)]; exact b1
      refine ⟨(MMc_C (M := M) (z := z) ⟨hM.1, hM.2.1⟩ g3 (f 71 (by decide) (by decide)) (f 72 (by decide) (by decide))).1, (MMc_C (M := M) (z := z) ⟨hM.1, hM.2.1⟩ g3 (f 71 (by decide) (by decide)) (f 72 (by decide) (by decide))).2, fun t' ht' => ?_⟩
      show mTq z C t' (upf M.2.2 T _ t')
      by_cases c : t' = T
      · rw [c, upf_eq]
        refine same T _ ⟨?_, fun p q hpq => ?_⟩ (hM.2.2 T T6)
        · rw [← eT] at z3
          show (z.1 80 T).toInt = ((l.eraseIdx I).length : Nat)
          rw [z3, l1, List.length_eraseIdx_of_lt hIl]
          omega
        · have hpq : (l.eraseIdx I)[p]? = some q := hpq
          rw [List.getElem?_eraseIdx] at hpq
          by_cases c9 : p < I
          · rw [if_pos c9] at hpq
            have := gt_lt hpq
            obtain ⟨b1, b2⟩ := g1 p (by omega)
            rw [if_neg (fun z => by omega)] at b1 b2
            rw [b1, b2]
            exact lA p q hpq
          · rw [if_neg c9] at hpq
            have := gt_lt hpq
            obtain ⟨b1, b2⟩ := g1 p (by omega)
            rw [if_pos ⟨by omega, by omega⟩] at b1 b2
            rw [b1, b2]
            exact lA (p + 1) q hpq
      · rw [upf_ne c]
        refine same t' _ ⟨?_, fun p q hpq => ?_⟩ (hM.2.2 t' ht')
        · rw [z4 t' (by rw [← eT]; exact c)]
          exact (hM.2.2 t' ht').2.2.2.2.2.2.2.2.1.1
        · have b := (hM.2.2 t' ht').2.2.2.2.2.2.2.2.1
          have := gt_lt hpq
          have r8 := (ri.2 t' ht').2.2.2.1
          have b1 := b.1
          obtain ⟨c1, c2⟩ := g2 (10 * t' + p) (by omega)
          rw [c1, c2]
          exact b.2 p q hpq
    obtain ⟨q1, q2, q3⟩ := ri.2 t' ht'
    have g := fun k (h0 : k ≠ 0) hk => z1.2.1 k h0 hk
    refine ⟨?_, ?_, ?_⟩
    · unfold ra
      rw [g 73 (by decide) (by decide), g 74 (by decide) (by decide), g 54 (by decide) (by decide), z1.1 52 (by decide)]
      exact q1
    · unfold rw'
      rw [g 73 (by decide) (by decide), g 74 (by decide) (by decide), g 55 (by decide) (by decide), g 77 (by decide) (by decide)]
      exact q2
    · by_cases c : t' = t.toNatClampNeg
      · rw [c]
        refine ⟨by rw [z3]; omega, by rw [z3]; omega, fun k hk => z5 _ (vt ht) k ?_⟩
        rw [z3] at hk
        rw [← eL]; omega
      · unfold rl
        rw [z4 t' c]
        exact ⟨q3.1, q3.2.1, fun k hk => z5 t' ht' k hk⟩
  have loop : ∀ (n : Nat) (z : gd) (S2 : gS) (j : Int32), Z z S2 → G z j → I ≤ j.toInt.toNat → 0 ≤ j.toInt → L.toInt - 1 - j.toInt ≤ n → MD d z_doLate 39 [(0, vr 0), (1, vi t), (3, vi j)] [] S2 z (Dv Fv) := by
    intro n
    induction n with
    | zero =>
      intro z S2 j hz hg hIj j0 hj
      refine sd_doLate_39 _ _ ⟨ht, ?_⟩
      rw [hz.2.2.1]
      exact ⟨fun _ => fin z S2 j hz hg (by omega), fun c => absurd (t_le.mpr (by omega)) c⟩
    | succ n ih =>
      intro z S2 j hz hg hIj j0 hj
      refine sd_doLate_39 _ _ ⟨ht, ?_⟩
      rw [hz.2.2.1]
      refine ⟨fun c => fin z S2 j hz hg (by rw [t_le] at c; omega), fun c => ?_⟩
      rw [t_le] at c
      have j1 : (j + 1).toInt = j.toInt + 1 := by rw [t_add (by omega) (by omega), k1]
      have cj := cl_i j0
      have cj1 := cl_i (a := j + 1) (by omega)
      obtain ⟨v, e⟩ := t10 ht (i := j) j0 (by omega)
      obtain ⟨v', e'⟩ := t10 ht (i := j + 1) (by omega) (by omega)
      have ea : 10 * t + j + 1 = 10 * t + (j + 1) := by
        have a1 := vp_in_iff.mp v
        have a2 := vp_in_iff.mp v'
        have b1 := cl_i (a := 10 * t + j) (by omega)
        have b2 := cl_i (a := 10 * t + (j + 1)) (by omega)
        have b3 : (10 * t + j + 1).toInt = (10 * t + j).toInt + 1 := by rw [t_add (by omega) (by omega), k1]
        exact t_eq.mpr (by omega)
      obtain ⟨z1, z2, z3, z4, z5⟩ := id hz
      obtain ⟨s1, s2, s3⟩ := z5 _ (vt ht) (j + 1).toNatClampNeg (by rw [← eL]; omega)
      rw [ea, e', e]
      refine ⟨v', s1, v, fun z6 e6 => ⟨v', Or.inr s2, v, fun z8 e8 => ?_⟩⟩
      have m6 := md_a z 81 (10 * t.toNatClampNeg + j.toNatClampNeg) (z.1 81 (10 * t.toNatClampNeg + (j + 1).toNatClampNeg)) (by decide)
      rw [← e6] at m6
      have m8 := md_a z6 82 (10 * t.toNatClampNeg + j.toNatClampNeg) (z6.1 82 (10 * t.toNatClampNeg + (j + 1).toNatClampNeg)) (by decide)
      rw [← e8] at m8
      have mm : md [] [81, 82] z z8 := md_tr m6 m8 rfl rfl
      have e80 : z8.1 80 = z.1 80 := mm.2.1 80 (by decide) (by decide)
      refine ih z8 _ (j + 1) ⟨md_tr z1 mm rfl rfl, ssub_tr z2 (ssub_tr (ssub_ad _ _ _) (ssub_ad _ _ _)), by rw [e80]; exact z3, fun t' h' => by rw [e80]; exact z4 t' h', fun t' ht' k hk => ?_⟩ ?_ (by omega) (by omega) (by omega)
      rotate_left
      · obtain ⟨g1, g2, g3⟩ := hg
        have ej : j.toNatClampNeg = j.toInt.toNat := t_cl j
        have ej1 : (j + 1).toNatClampNeg = j.toInt.toNat + 1 := by rw [t_cl (j + 1)]; omega
        rw [← eT, ej, ej1] at e6 e8
        refine ⟨fun p hp => ?_, fun n hn => ?_, fun n => ?_⟩
        · obtain ⟨b1, b2⟩ := g1 p hp
          obtain ⟨d1, d2⟩ := g1 (j.toInt.toNat + 1) (by omega)
          rw [if_neg (fun z => by omega)] at d1 d2
          have w81 : z8.1 81 (10 * T + p) = if p = j.toInt.toNat then z.1 81 (10 * T + (j.toInt.toNat + 1)) else z.1 81 (10 * T + p) := by
            rw [e8, si_cell (by decide), e6, si_get]
            by_cases c9 : p = j.toInt.toNat
            · rw [if_pos ⟨rfl, by omega⟩, if_pos c9]
            · rw [if_neg (fun z => c9 (by have := z.2; omega)), if_neg c9]
          have w82 : z8.1 82 (10 * T + p) = if p = j.toInt.toNat then z.1 82 (10 * T + (j.toInt.toNat + 1)) else z.1 82 (10 * T + p) := by
            rw [e8, si_get]
            by_cases c9 : p = j.toInt.toNat
            · rw [if_pos ⟨rfl, by omega⟩, if_pos c9, e6, si_cell (by decide)]
            · rw [if_neg (fun z => c9 (by have := z.2; omega)), if_neg c9, e6, si_cell (by decide)]
          rw [w81, w82]
          by_cases c9 : p = j.toInt.toNat
          · rw [if_pos c9, if_pos c9, if_pos ⟨by omega, by omega⟩, if_pos ⟨by omega, by omega⟩, d1, d2, c9]
            exact ⟨rfl, rfl⟩
          · rw [if_neg c9, if_neg c9, b1, b2]
            by_cases c8 : I ≤ p ∧ (p : Int) < j.toInt
            · rw [if_pos c8, if_pos c8, if_pos ⟨c8.1, by omega⟩, if_pos ⟨c8.1, by omega⟩]
              exact ⟨rfl, rfl⟩
            · rw [if_neg c8, if_neg c8, if_neg (fun z => c8 ⟨z.1, by have := z.2; omega⟩), if_neg (fun z => c8 ⟨z.1, by have := z.2; omega⟩)]
              exact ⟨rfl, rfl⟩
        · obtain ⟨b1, b2⟩ := g2 n hn
          rw [e8, si_cell (by decide), si_get, if_neg (fun z => hn (by have := z.2; omega)), e6, si_get, if_neg (fun z => hn (by have := z.2; omega)), si_cell (by decide)]
          exact ⟨b1, b2⟩
        · rw [mm.2.1 70 (by decide) (by decide)]; exact g3 n
      obtain ⟨a, b, c9⟩ := z5 t' ht' k hk
      refine ⟨Or.inr (Or.inr a), Or.inr (Or.inr b), ?_⟩
      rw [e8, si_cell (by decide), e6, si_get]
      by_cases w : (81 : Nat) = 81 ∧ 10 * t' + k = 10 * t.toNatClampNeg + j.toNatClampNeg
      · rw [if_pos w]; exact s3
      · rw [if_neg w]; exact c9
  obtain ⟨a1, a2, a3, a4⟩ := rl_at ht rx (i := i) h0 (by rw [← eL]; exact h1)
  refine sd_doLate_0 _ _ ⟨a1, a2, a1, a3, a4, fun z6 e6 => ⟨ht, ht, fun z9 e9 => ?_⟩⟩
  have m6 := md_a x 70 (x.1 81 (10 * t + i).toNatClampNeg).toNatClampNeg (x.1 82 (10 * t + i).toNatClampNeg) (by decide)
  rw [← e6] at m6
  have f80 : z6.1 80 = x.1 80 := m6.2.1 80 (by decide) (by decide)
  rw [f80, ← eL] at e9
  have m9 := md_a z6 80 t.toNatClampNeg (L - 1) (by decide)
  rw [← e9] at m9
  have mm : md [] [70, 80] x z9 := md_tr m6 m9 rfl rfl
  refine loop (L.toInt - 1 - i.toInt).toNat z9 S i ⟨md_w mm (by decide) (by decide), ssub_rf S, by rw [e9, si_get, if_pos ⟨rfl, rfl⟩], fun t' h' => by rw [e9, si_ne 80 t' h', f80], fun t' ht' k hk => ?_⟩ ?_ (by omega) h0 (Int.self_le_toNat _)
  rotate_left
  · have e81 : z9.1 81 = x.1 81 := mm.2.1 81 (by decide) (by decide)
    have e82 : z9.1 82 = x.1 82 := mm.2.1 82 (by decide) (by decide)
    refine ⟨fun p hp => ?_, fun n hn => by rw [e81, e82]; exact ⟨rfl, rfl⟩, fun n => ?_⟩
    · rw [e81, e82, if_neg (fun z => by omega), if_neg (fun z => by omega)]
      exact ⟨rfl, rfl⟩
    · obtain ⟨b1, b2, b3⟩ := lA I _ hq
      have ea : (10 * t + i).toNatClampNeg = 10 * T + I := by rw [(t10 ht h0 (by omega)).2, t_cl i, ← eT, ← eI]
      have en : (Int32.ofNat l[I].1).toNatClampNeg = l[I].1 := by
        have e9 : (Int32.ofNat l[I].1).toInt = (l[I].1 : Nat) := Int32.toInt_ofNat_of_lt (by omega)
        rw [t_cl, e9]; rfl
      rw [ea, b1, b2, en] at e6
      rw [e9, si_cell (by decide), e6, si_at rfl]
  rw [mm.2.1 81 (by decide) (by decide)]
  exact (ri.2 t' ht').2.2.2.2 k hk
end DLT
