section
/-! the model: an act done is what the machine does -/
/-- what holds of every state of the machine -/
def WM (M : gMa) : Prop := ∀ t, t < 6 → (¬ (M.2.2 t).1 = 3 → (M.2.2 t).2.1 = 0) ∧ ((M.2.2 t).2.2.2.1 = 0 → (M.2.2 t).2.2.2.2.1 = 0) ∧ (¬ (M.2.2 t).1 = 1 → (M.2.2 t).2.2.2.1 = 0)
section DAD
variable {d : Nat} {S : gS} {x y z : gd} {F : Int32 → gd → gS → Prop} {Fv : gd → gS → Prop} {C : gCo} {M : gMa}
theorem mTq_md {L A : List Nat} {t : Nat} {h : gTq} (m : md L A x y) (hA : [73, 74, 75, 76, 77, 78, 79, 80, 81, 82].all (fun k => !A.elem k) = true) (q : mTq x C t h) : mTq y C t h := by
  have f : ∀ k ∈ [73, 74, 75, 76, 77, 78, 79, 80, 81, 82], y.1 k = x.1 k := fun k hk => m.2.1 k (fun e => by rw [e] at hk; exact absurd hk (by decide)) (all_no hA k hk)
  unfold mTq mLt mLv at q ⊢
  rw [f 73 (by decide), f 74 (by decide), f 75 (by decide), f 76 (by decide), f 77 (by decide), f 78 (by decide), f 79 (by decide), f 80 (by decide), f 81 (by decide), f 82 (by decide)]
  exact q
theorem MMc_C {c : Nat} {v : Int32} (h : MMc x M) (e0 : ∀ j, z.1 70 j = if j = c then v else x.1 70 j) (e1 : z.1 71 = x.1 71) (e2 : z.1 72 = x.1 72) : MMc z (upC M c v) := by
  refine ⟨fun j hj => ?_, fun l hl => ?_⟩
  · rw [e0 j]
    show _ = upf M.1 c v j
    unfold upf
    by_cases q : j = c
    · rw [if_pos q, if_pos q]
    · rw [if_neg q, if_neg q]; exact h.1 j hj
  · rw [e1, e2]; exact h.2 l hl
theorem MMc_L {c n : Nat} {a b : Int32} (h : MMc x M) (e0 : z.1 70 = x.1 70) (e1 : ∀ j, z.1 71 j = if j = c then a else x.1 71 j) (e2 : ∀ j, z.1 72 j = if j = c then b else x.1 72 j) (ha : a = Int32.ofNat n - 1) (hn : n ≤ 6) : MMc z (upL M c (n, b)) := by
  refine ⟨fun j hj => by rw [e0]; exact h.1 j hj, fun l hl => ?_⟩
  rw [e1 l, e2 l]
  show _ = Int32.ofNat (upf M.2.1 c (n, b) l).1 - 1 ∧ (upf M.2.1 c (n, b) l).1 ≤ 6 ∧ _ = (upf M.2.1 c (n, b) l).2
  unfold upf
  by_cases q : l = c
  · rw [if_pos q, if_pos q, if_pos q]; exact ⟨ha, hn, rfl⟩
  · rw [if_neg q, if_neg q, if_neg q]; exact h.2 l hl
theorem si_at {c n c' : Nat} {v : Int32} (h : c' = c) (j : Nat) : (si x c n v).1 c' j = if j = n then v else x.1 c' j := by
  rw [si_get]
  by_cases q : j = n
  · rw [if_pos ⟨h, q⟩, if_pos q]
  · rw [if_neg (fun z => q z.2), if_neg q]
/-- an act that fails -/
theorem ds_actF (t n : Int32) (ht : vp_in t 6) {T k : Nat} (eT : T = t.toNatClampNeg) (ri : RI y S) (hK : MK y C) (hN : NC C) (hM : MM1 y C M) (hW : WM M) (h1 : y.1 73 T = 1) (w0 : (M.2.2 T).2.2.2.1 = 0) (en : n = Int32.ofNat k) (h : ∀ x' S', RI x' S' → ssub S S' → md hL hA y x' → MM1 x' C (upT M T (thF (M.2.2 T) k)) → Fv x' S') : MD (d + 1) z_failThread 0 [(0, vr 0), (1, vi t), (2, vi n)] [] S y (Dv (fun z S1 => MD (d + 1) z_clean 0 [(0, vr 0), (1, vi t)] [] S1 z (Dv Fv))) := by
  have T6 : T < 6 := by rw [eT]; exact vt ht
  obtain ⟨a1, a2, a3, a4, a5, a6, a7, a8, a9, b1, b2⟩ := hM.2.2 T T6
  have kk := (ri.2 T T6).1
  have l52 : (y.1 0 52).toInt = C.1.length := hK.1.1
  have sta1 : (M.2.2 T).1 = 1 := by
    have : Int32.ofNat (M.2.2 T).1 = 1 := by rw [← a1]; exact h1
    rcases (show (M.2.2 T).1 = 0 ∨ (M.2.2 T).1 = 1 ∨ (M.2.2 T).1 = 2 ∨ (M.2.2 T).1 = 3 by omega) with e | e | e | e <;> rw [e] at this ⊢ <;> first | rfl | exact absurd this (by decide)
  obtain ⟨st, hst⟩ : ∃ st, C.1[(M.2.2 T).2.2.1]? = some st := ⟨_, List.getElem?_eq_getElem (by have := (kk.2.2 h1).1; omega)⟩
  have es := stN_is hst
  obtain ⟨-, -, -, -, -, -, -, -, g62⟩ := hK.1.2 _ st hst
  have cK : (y.1 74 T).toNatClampNeg = (M.2.2 T).2.2.1 := by rw [t_cl, a4]; rfl
  refine ds_fail3 t n ht (fun z tz e3 e4 e7 e5 e8 e6 => ?_)
  rw [← eT] at tz e3 e4 e7 e5 e8
  have z62 : z.1 62 = y.1 62 := tz.1.2.1 62 (by decide) (by decide)
  refine ds_clean3 t ht (by rw [← eT, e4]; exact ⟨kk.1, kk.2.1⟩) (sl := st.2.1) (fun k hk => kn_8 hN (M.2.2 T).2.2.1 k (by rw [es]; exact hk)) (fun _ => by rw [← eT, e4, cK, z62]; exact g62) (fun u tu f73 f75 f77 f78 f74 _ f76 => h u S ⟨CP_th (th3_th tu) (CP_th (th3_th tz) ri.1), fun t' ht' => ?_⟩ (ssub_rf _) (md_tr tz.1 tu.1 rfl rfl) ⟨(MMc_th (MMc_th (M := M) ⟨hM.1, hM.2.1⟩ tz) tu).1, (MMc_th (MMc_th (M := M) ⟨hM.1, hM.2.1⟩ tz) tu).2, fun t' ht' => ?_⟩)
  · rw [← eT] at tu f74
    have g74 := f74 (by rw [e3]; decide)
    by_cases q : t' = T
    · rw [q]
      refine ⟨⟨by rw [g74, e4]; exact kk.1, by rw [g74, e4]; exact kk.2.1, fun z9 => by rw [f73, e3] at z9; exact absurd z9 (by decide)⟩, Or.inl (by rw [f77]; exact e7), rl_th (th3_th tu) (ssub_rf _) (rl_th (th3_th tz) (ssub_rf _) (ri.2 T T6).2.2)⟩
    · exact rT_th (th3_th tu) (ssub_rf _) q (rT_th (th3_th tz) (ssub_rf _) q (ri.2 t' ht'))
  · rw [← eT] at tu f74 f76
    have g74 := f74 (by rw [e3]; decide)
    show mTq u C t' (upf M.2.2 T _ t')
    by_cases q : t' = T
    · rw [q, upf_eq]
      have f := fun q (h0 : q ≠ 0) hq => (tu.1.2.1 q h0 hq).trans (tz.1.2.1 q h0 hq)
      refine ⟨by rw [f73, e3]; rfl, Nat.le_refl _, by rw [f75, e5, en]; rfl, by rw [g74, e4]; exact a4, ?_, a6, ?_, by rw [f 79 (by decide) (by decide)]; exact a8, mLt_eq a9 (f 80 (by decide) (by decide)) (f 81 (by decide) (by decide)) (f 82 (by decide) (by decide)), fun _ p hp => ?_, fun k' hk' c9 => ?_⟩
      · show u.1 77 T = Int32.ofNat (M.2.2 T).2.2.2.1
        rw [f77, e7, w0]; rfl
      · show u.1 78 T = (M.2.2 T).2.2.2.2.1
        rw [f78, e8, (hW T T6).2.1 w0]
      · have hp : p < (stN C (M.2.2 T).2.2.1).2.1.length := hp
        show u.1 76 (8 * T + slN (stN C (M.2.2 T).2.2.1).2.1 p) = (M.2.2 T).2.2.2.2.2.2.2 p
        have hm := slN_mem hp
        rw [f76 _ (kn_8 hN _ _ hm), if_pos ⟨Or.inr e3, by rw [← es]; exact hm⟩, e6]
        exact b1 (Or.inl sta1) p hp
      · have c9 : ¬ ((3 = 1 ∨ 3 = 3) ∧ k' ∈ (stN C (M.2.2 T).2.2.1).2.1) := c9
        rw [f76 k' hk', if_neg (fun z9 => c9 ⟨Or.inr rfl, by rw [es]; exact z9.2⟩)]
    · rw [upf_ne q]
      exact mTq_th hN tu q (mTq_th hN tz q (hM.2.2 t' ht'))
end DAD
end
section
/-! the model: a late write comes -/
section DLT
variable {d : Nat} {S : gS} {x : gd} {F : Int32 → gd → gS → Prop} {Fv : gd → gS → Prop} {C : gCo} {M : gMa}
theorem ds_doLate3 (t i : Int32) (ht : vp_in t 6) (ri : RI x S) (h0 : 0 ≤ i.toInt) (h1 : i.toInt < (x.1 80 t.toNatClampNeg).toInt) (hM : MM1 x C M) (h : ∀ x' S', RI x' S' → ssub S S' → md [] [70, 80, 81, 82] x x' → MM1 x' C (laM M t.toNatClampNeg i.toInt.toNat) → Fv x' S') : MD d z_doLate 0 [(0, vr 0), (1, vi t), (2, vi i)] [] S x (Dv Fv) := by
  have k1 : (1 : Int32).toInt = 1 := rfl
  obtain ⟨T, eT⟩ : ∃ T, T = t.toNatClampNeg := ⟨_, rfl⟩
  have T6 : T < 6 := by rw [eT]; exact vt ht
  have mT := hM.2.2 T T6
  obtain ⟨lL, lA⟩ := mT.2.2.2.2.2.2.2.2.1
  obtain ⟨l, el⟩ : ∃ l, l = (M.2.2 T).2.2.2.2.2.2.1 := ⟨_, rfl⟩
  rw [← el] at lL lA
  obtain ⟨I, eI⟩ : ∃ I, I = i.toInt.toNat := ⟨_, rfl⟩
  obtain ⟨L, eL⟩ : ∃ L, L = x.1 80 t.toNatClampNeg := ⟨_, rfl⟩
  have rx := (ri.2 _ (vt ht)).2.2
  have L8 := rx.2.1
  rw [← eL] at h1 L8
  have l1 : (L - 1).toInt = L.toInt - 1 := by rw [t_sub (by omega) (by omega), k1]
  -- every place of the thread below L is in order
  let Z : gd → gS → Prop := fun z S2 => md [] [70, 80, 81, 82] x z ∧ ssub S S2 ∧ z.1 80 t.toNatClampNeg = L - 1 ∧ (∀ t' : Nat, ¬ t' = t.toNatClampNeg → z.1 80 t' = x.1 80 t') ∧ ∀ t' : Nat, t' < 6 → ∀ k : Nat, (k : Int) < (x.1 80 t').toInt → S2 81 (10 * t' + k) ∧ S2 82 (10 * t' + k) ∧ 0 ≤ (z.1 81 (10 * t' + k)).toInt ∧ (z.1 81 (10 * t' + k)).toInt < 24
  have lL' : L.toInt = (l.length : Nat) := by rw [eL, ← eT]; exact lL
  have hIl : I < l.length := by omega
  have hq : l[I]? = some l[I] := List.getElem?_eq_getElem hIl
  have hla : laM M T I = upT (upC M l[I].1 l[I].2) T ((M.2.2 T).1, (M.2.2 T).2.1, (M.2.2 T).2.2.1, (M.2.2 T).2.2.2.1, (M.2.2 T).2.2.2.2.1, (M.2.2 T).2.2.2.2.2.1, l.eraseIdx I, (M.2.2 T).2.2.2.2.2.2.2) := by
    unfold laM
    rw [← el, hq]
  -- the thread's row, moved up to j; the others' as they were; the cell
  let G : gd → Int32 → Prop := fun z j => (∀ p : Nat, p < 10 → z.1 81 (10 * T + p) = (if I ≤ p ∧ (p : Int) < j.toInt then x.1 81 (10 * T + (p + 1)) else x.1 81 (10 * T + p)) ∧ z.1 82 (10 * T + p) = (if I ≤ p ∧ (p : Int) < j.toInt then x.1 82 (10 * T + (p + 1)) else x.1 82 (10 * T + p))) ∧ (∀ n : Nat, ¬ (10 * T ≤ n ∧ n < 10 * T + 10) → z.1 81 n = x.1 81 n ∧ z.1 82 n = x.1 82 n) ∧ ∀ n : Nat, z.1 70 n = if n = l[I].1 then l[I].2 else x.1 70 n
  have fin : ∀ (z : gd) (S2 : gS) (j : Int32), Z z S2 → G z j → L.toInt - 1 ≤ j.toInt → Dv Fv none z S2 := by
    intro z S2 j hz hg hj
    obtain ⟨z1, z2, z3, z4, z5⟩ := hz
    refine Dv_i (h z S2 ⟨CP_md z1 rfl rfl ri.1, fun t' ht' => ?_⟩ z2 z1 ?_)
    rotate_left
    · rw [← eT, ← eI, hla]
      obtain ⟨g1, g2, g3⟩ := hg
      have f := fun q (h0 : q ≠ 0) hq => z1.2.1 q h0 hq
      have same : ∀ (t' : Nat) (hh : gTq), mLt z t' hh.2.2.2.2.2.2.1 → mTq x C t' (hh.1, hh.2.1, hh.2.2.1, hh.2.2.2.1, hh.2.2.2.2.1, hh.2.2.2.2.2.1, (M.2.2 t').2.2.2.2.2.2.1, hh.2.2.2.2.2.2.2) → mTq z C t' hh := fun t' hh hm q => by
        obtain ⟨a1, a2, a3, a4, a5, a6, a7, a8, -, b1⟩ := q
        refine ⟨by rw [f 73 (by decide) (by decide)]; exact a1, a2, by rw [f 75 (by decide) (by decide)]; exact a3, by rw [f 74 (by decide) (by decide)]; exact a4, by rw [f 77 (by decide) (by decide)]; exact a5, a6, by rw [f 78 (by decide) (by decide)]; exact a7, by rw [f 79 (by decide) (by decide)]; exact a8, hm, ?_⟩
        unfold mLv at b1 ⊢
        rw [f 76 (by decide) (by decide)]; exact b1
      refine ⟨(MMc_C (M := M) (z := z) ⟨hM.1, hM.2.1⟩ g3 (f 71 (by decide) (by decide)) (f 72 (by decide) (by decide))).1, (MMc_C (M := M) (z := z) ⟨hM.1, hM.2.1⟩ g3 (f 71 (by decide) (by decide)) (f 72 (by decide) (by decide))).2, fun t' ht' => ?_⟩
      show mTq z C t' (upf M.2.2 T _ t')
      by_cases c : t' = T
      · rw [c, upf_eq]
        refine same T _ ⟨?_, fun p q hpq => ?_⟩ (hM.2.2 T T6)
        · rw [← eT] at z3
          show (z.1 80 T).toInt = ((l.eraseIdx I).length : Nat)
          rw [z3, l1, List.length_eraseIdx_of_lt hIl]
          omega
        · have hpq : (l.eraseIdx I)[p]? = some q := hpq
          rw [List.getElem?_eraseIdx] at hpq
          by_cases c9 : p < I
          · rw [if_pos c9] at hpq
            have := gt_lt hpq
            obtain ⟨b1, b2⟩ := g1 p (by omega)
            rw [if_neg (fun z => by omega)] at b1 b2
            rw [b1, b2]
            exact lA p q hpq
          · rw [if_neg c9] at hpq
            have := gt_lt hpq
            obtain ⟨b1, b2⟩ := g1 p (by omega)
            rw [if_pos ⟨by omega, by omega⟩] at b1 b2
            rw [b1, b2]
            exact lA (p + 1) q hpq
      · rw [upf_ne c]
        refine same t' _ ⟨?_, fun p q hpq => ?_⟩ (hM.2.2 t' ht')
        · rw [z4 t' (by rw [← eT]; exact c)]
          exact (hM.2.2 t' ht').2.2.2.2.2.2.2.2.1.1
        · have b := (hM.2.2 t' ht').2.2.2.2.2.2.2.2.1
          have := gt_lt hpq
          have r8 := (ri.2 t' ht').2.2.2.1
          have b1 := b.1
          obtain ⟨c1, c2⟩ := g2 (10 * t' + p) (by omega)
          rw [c1, c2]
          exact b.2 p q hpq
    obtain ⟨q1, q2, q3⟩ := ri.2 t' ht'
    have g := fun k (h0 : k ≠ 0) hk => z1.2.1 k h0 hk
    refine ⟨?_, ?_, ?_⟩
    · unfold ra
      rw [g 73 (by decide) (by decide), g 74 (by decide) (by decide), g 54 (by decide) (by decide), z1.1 52 (by decide)]
      exact q1
    · unfold rw'
      rw [g 73 (by decide) (by decide), g 74 (by decide) (by decide), g 55 (by decide) (by decide), g 77 (by decide) (by decide)]
      exact q2
    · by_cases c : t' = t.toNatClampNeg
      · rw [c]
        refine ⟨by rw [z3]; omega, by rw [z3]; omega, fun k hk => z5 _ (vt ht) k ?_⟩
        rw [z3] at hk
        rw [← eL]; omega
      · unfold rl
        rw [z4 t' c]
        exact ⟨q3.1, q3.2.1, fun k hk => z5 t' ht' k hk⟩
  have loop : ∀ (n : Nat) (z : gd) (S2 : gS) (j : Int32), Z z S2 → G z j → I ≤ j.toInt.toNat → 0 ≤ j.toInt → L.toInt - 1 - j.toInt ≤ n → MD d z_doLate 39 [(0, vr 0), (1, vi t), (3, vi j)] [] S2 z (Dv Fv) := by
    intro n
    induction n with
    | zero =>
      intro z S2 j hz hg hIj j0 hj
      refine sd_doLate_39 _ _ ⟨ht, ?_⟩
      rw [hz.2.2.1]
      exact ⟨fun _ => fin z S2 j hz hg (by omega), fun c => absurd (t_le.mpr (by omega)) c⟩
    | succ n ih =>
      intro z S2 j hz hg hIj j0 hj
      refine sd_doLate_39 _ _ ⟨ht, ?_⟩
      rw [hz.2.2.1]
      refine ⟨fun c => fin z S2 j hz hg (by rw [t_le] at c; omega), fun c => ?_⟩
      rw [t_le] at c
      have j1 : (j + 1).toInt = j.toInt + 1 := by rw [t_add (by omega) (by omega), k1]
      have cj := cl_i j0
      have cj1 := cl_i (a := j + 1) (by omega)
      obtain ⟨v, e⟩ := t10 ht (i := j) j0 (by omega)
      obtain ⟨v', e'⟩ := t10 ht (i := j + 1) (by omega) (by omega)
      have ea : 10 * t + j + 1 = 10 * t + (j + 1) := by
        have a1 := vp_in_iff.mp v
        have a2 := vp_in_iff.mp v'
        have b1 := cl_i (a := 10 * t + j) (by omega)
        have b2 := cl_i (a := 10 * t + (j + 1)) (by omega)
        have b3 : (10 * t + j + 1).toInt = (10 * t + j).toInt + 1 := by rw [t_add (by omega) (by omega), k1]
        exact t_eq.mpr (by omega)
      obtain ⟨z1, z2, z3, z4, z5⟩ := id hz
      obtain ⟨s1, s2, s3⟩ := z5 _ (vt ht) (j + 1).toNatClampNeg (by rw [← eL]; omega)
      rw [ea, e', e]
      refine ⟨v', s1, v, fun z6 e6 => ⟨v', Or.inr s2, v, fun z8 e8 => ?_⟩⟩
      have m6 := md_a z 81 (10 * t.toNatClampNeg + j.toNatClampNeg) (z.1 81 (10 * t.toNatClampNeg + (j + 1).toNatClampNeg)) (by decide)
      rw [← e6] at m6
      have m8 := md_a z6 82 (10 * t.toNatClampNeg + j.toNatClampNeg) (z6.1 82 (10 * t.toNatClampNeg + (j + 1).toNatClampNeg)) (by decide)
      rw [← e8] at m8
      have mm : md [] [81, 82] z z8 := md_tr m6 m8 rfl rfl
      have e80 : z8.1 80 = z.1 80 := mm.2.1 80 (by decide) (by decide)
      refine ih z8 _ (j + 1) ⟨md_tr z1 mm rfl rfl, ssub_tr z2 (ssub_tr (ssub_ad _ _ _) (ssub_ad _ _ _)), by rw [e80]; exact z3, fun t' h' => by rw [e80]; exact z4 t' h', fun t' ht' k hk => ?_⟩ ?_ (by omega) (by omega) (by omega)
      rotate_left
      · obtain ⟨g1, g2, g3⟩ := hg
        have ej : j.toNatClampNeg = j.toInt.toNat := t_cl j
        have ej1 : (j + 1).toNatClampNeg = j.toInt.toNat + 1 := by rw [t_cl (j + 1)]; omega
        rw [← eT, ej, ej1] at e6 e8
        refine ⟨fun p hp => ?_, fun n hn => ?_, fun n => ?_⟩
        · obtain ⟨b1, b2⟩ := g1 p hp
          obtain ⟨d1, d2⟩ := g1 (j.toInt.toNat + 1) (by omega)
          rw [if_neg (fun z => by omega)] at d1 d2
          have w81 : z8.1 81 (10 * T + p) = if p = j.toInt.toNat then z.1 81 (10 * T + (j.toInt.toNat + 1)) else z.1 81 (10 * T + p) := by
            rw [e8, si_cell (by decide), e6, si_get]
            by_cases c9 : p = j.toInt.toNat
            · rw [if_pos ⟨rfl, by omega⟩, if_pos c9]
            · rw [if_neg (fun z => c9 (by have := z.2; omega)), if_neg c9]
          have w82 : z8.1 82 (10 * T + p) = if p = j.toInt.toNat then z.1 82 (10 * T + (j.toInt.toNat + 1)) else z.1 82 (10 * T + p) := by
            rw [e8, si_get]
            by_cases c9 : p = j.toInt.toNat
            · rw [if_pos ⟨rfl, by omega⟩, if_pos c9, e6, si_cell (by decide)]
            · rw [if_neg (fun z => c9 (by have := z.2; omega)), if_neg c9, e6, si_cell (by decide)]
          rw [w81, w82]
          by_cases c9 : p = j.toInt.toNat
          · rw [if_pos c9, if_pos c9, if_pos ⟨by omega, by omega⟩, if_pos ⟨by omega, by omega⟩, d1, d2, c9]
            exact ⟨rfl, rfl⟩
          · rw [if_neg c9, if_neg c9, b1, b2]
            by_cases c8 : I ≤ p ∧ (p : Int) < j.toInt
            · rw [if_pos c8, if_pos c8, if_pos ⟨c8.1, by omega⟩, if_pos ⟨c8.1, by omega⟩]
              exact ⟨rfl, rfl⟩
            · rw [if_neg c8, if_neg c8, if_neg (fun z => c8 ⟨z.1, by have := z.2; omega⟩), if_neg (fun z => c8 ⟨z.1, by have := z.2; omega⟩)]
              exact ⟨rfl, rfl⟩
        · obtain ⟨b1, b2⟩ := g2 n hn
          rw [e8, si_cell (by decide), si_get, if_neg (fun z => hn (by have := z.2; omega)), e6, si_get, if_neg (fun z => hn (by have := z.2; omega)), si_cell (by decide)]
          exact ⟨b1, b2⟩
        · rw [mm.2.1 70 (by decide) (by decide)]; exact g3 n
      obtain ⟨a, b, c9⟩ := z5 t' ht' k hk
      refine ⟨Or.inr (Or.inr a), Or.inr (Or.inr b), ?_⟩
      rw [e8, si_cell (by decide), e6, si_get]
      by_cases w : (81 : Nat) = 81 ∧ 10 * t' + k = 10 * t.toNatClampNeg + j.toNatClampNeg
      · rw [if_pos w]; exact s3
      · rw [if_neg w]; exact c9
  obtain ⟨a1, a2, a3, a4⟩ := rl_at ht rx (i := i) h0 (by rw [← eL]; exact h1)
  refine sd_doLate_0 _ _ ⟨a1, a2, a1, a3, a4, fun z6 e6 => ⟨ht, ht, fun z9 e9 => ?_⟩⟩
  have m6 := md_a x 70 (x.1 81 (10 * t + i).toNatClampNeg).toNatClampNeg (x.1 82 (10 * t + i).toNatClampNeg) (by decide)
  rw [← e6] at m6
  have f80 : z6.1 80 = x.1 80 := m6.2.1 80 (by decide) (by decide)
  rw [f80, ← eL] at e9
  have m9 := md_a z6 80 t.toNatClampNeg (L - 1) (by decide)
  rw [← e9] at m9
  have mm : md [] [70, 80] x z9 := md_tr m6 m9 rfl rfl
  refine loop (L.toInt - 1 - i.toInt).toNat z9 S i ⟨md_w mm (by decide) (by decide), ssub_rf S, by rw [e9, si_get, if_pos ⟨rfl, rfl⟩], fun t' h' => by rw [e9, si_ne 80 t' h', f80], fun t' ht' k hk => ?_⟩ ?_ (by omega) h0 (Int.self_le_toNat _)
  rotate_left
  · have e81 : z9.1 81 = x.1 81 := mm.2.1 81 (by decide) (by decide)
    have e82 : z9.1 82 = x.1 82 := mm.2.1 82 (by decide) (by decide)
    refine ⟨fun p hp => ?_, fun n hn => by rw [e81, e82]; exact ⟨rfl, rfl⟩, fun n => ?_⟩
    · rw [e81, e82, if_neg (fun z => by omega), if_neg (fun z => by omega)]
      exact ⟨rfl, rfl⟩
    · obtain ⟨b1, b2, b3⟩ := lA I _ hq
      have ea : (10 * t + i).toNatClampNeg = 10 * T + I := by rw [(t10 ht h0 (by omega)).2, t_cl i, ← eT, ← eI]
      have en : (Int32.ofNat l[I].1).toNatClampNeg = l[I].1 := by
        have e9 : (Int32.ofNat l[I].1).toInt = (l[I].1 : Nat) := Int32.toInt_ofNat_of_lt (by omega)
        rw [t_cl, e9]; rfl
      rw [ea, b1, b2, en] at e6
      rw [e9, si_cell (by decide), e6, si_at rfl]
  rw [mm.2.1 81 (by decide) (by decide)]
  exact (ri.2 t' ht').2.2.2.2 k hk
end DLT
end
section
/-! the model: threads are woken -/
def wkT (C : gCo) (M : gMa) (t c : Nat) (wk : Option Nat) : Nat → gTq := fun o => if o < C.2.1.length ∧ (M.2.2 o).2.2.2.1 = 1 ∧ obM C (M.2.2 o).2.2.1 = c ∧ ((stN C (M.2.2 t).2.2.1).2.2.2.2.2.2.1 = true ∨ wk = some o) then ((M.2.2 o).1, (M.2.2 o).2.1, (M.2.2 o).2.2.1, 2, (M.2.2 o).2.2.2.2) else M.2.2 o
theorem ef_8 {C : gCo} {M : gMa} {w t c : Nat} {e f : Int32} {wk : Option Nat} : efM C w M t 8 c e f wk = ((M.1, M.2.1, wkT C M t c wk), 0) := by unfold efM; rfl
theorem mTq_77 {C : gCo} {y z : gd} {o v : Nat} {h : gTq} (q : mTq y C o h) (e : z = si y 77 o (Int32.ofNat v)) (hv : v ≤ 2) : mTq z C o (h.1, h.2.1, h.2.2.1, v, h.2.2.2.2) := by
  obtain ⟨a1, a2, a3, a4, a5, a6, a7, a8, a9, b1⟩ := q
  have f : ∀ c, c ≠ 77 → z.1 c = y.1 c := fun c hc => by rw [e, si_cell hc]
  refine ⟨by rw [f 73 (by decide)]; exact a1, a2, by rw [f 75 (by decide)]; exact a3, by rw [f 74 (by decide)]; exact a4, by rw [e, si_get, if_pos ⟨rfl, rfl⟩], hv, by rw [f 78 (by decide)]; exact a7, by rw [f 79 (by decide)]; exact a8, mLt_eq a9 (f 80 (by decide)) (f 81 (by decide)) (f 82 (by decide)), ?_⟩
  unfold mLv at b1 ⊢
  rw [f 76 (by decide)]; exact b1
section DWK
variable {d : Nat} {S : gS} {x : gd} {F : Int32 → gd → gS → Prop} {Fv : gd → gS → Prop} {C : gCo} {M : gMa}
theorem ds_one3 (v : Int32) (h : F (if v = 0 then 0 else 1) x S) : MD d z_one 0 [(0, vi v)] [] S x (Di F) := sd_one_0 _ ⟨fun c => Di_i (by first | (rw [if_pos c] at h; exact h) | (rw [if_neg c] at h; exact h)), fun c => Di_i (by first | (rw [if_pos c] at h; exact h) | (rw [if_neg c] at h; exact h))⟩
theorem ds_wake3 (t w k c s : Int32) {T K : Nat} (ri : RI x S) (hK : MK x C) (hN : NC C) (hX : NXc C) (hM : MM1 x C M) (eK : k.toInt = (K : Nat)) (K15 : K < 1500) (hKT : (M.2.2 T).2.2.1 = K) {st : gNs} (hst : C.1[K]? = some st) (o8 : st.1 = 8) (hc : 0 ≤ c.toInt ∧ c.toInt < 6) (w9 : x.1 77 T = 0) {wk : Option Nat} (hwk : (wk = none ∧ w = -1) ∨ ∃ o : Nat, wk = some o ∧ o < 6 ∧ w = Int32.ofNat o)
    (kk : ∀ z, RI z S → md [] [77] x z → z.1 77 T = 0 → (∀ t' : Nat, t' < 6 → mTq z C t' (wkT C M T c.toNatClampNeg wk t')) → MD (d + 4) z_doAct 667 [(0, vr 0), (1, vi t), (3, vi k), (4, vi s), (5, vi c), (6, vi 0)] [] S z (Dv Fv)) : MD (d + 4) z_doAct 513 [(0, vr 0), (1, vi t), (2, vi w), (3, vi k), (4, vi s), (5, vi c), (6, vi 0), (8, vi 0)] [] S x (Dv Fv) := by
  have k0 : (0 : Int32).toInt = 0 := rfl
  have k1 : (1 : Int32).toInt = 1 := rfl
  have h25 := ri.1.1.2.2.2.2.2.1
  have l25 : (x.1 0 25).toInt = C.2.1.length := hK.2.1.1
  have kv : vp_in k 1500 := by rw [vp_in_iff]; omega
  have kK : k.toNatClampNeg = K := by rw [t_cl, eK]; rfl
  have esT : stN C (M.2.2 T).2.2.1 = st := by rw [hKT]; exact stN_is hst
  obtain ⟨-, -, -, g57, -⟩ := hK.1.2 _ st hst
  obtain ⟨-, -, -, nx4, -⟩ := hX _ st hst
  have nx4 := nx4 o8
  rw [← g57, ← kK] at nx4
  have loop : ∀ (n : Nat) (y : gd) (o : Int32), RI y S → md [] [77] x y → y.1 77 T = 0 → 0 ≤ o.toInt → (x.1 0 25).toInt - o.toInt ≤ n → (∀ t' : Nat, t' < 6 → mTq y C t' (if (t' : Int) < o.toInt then wkT C M T c.toNatClampNeg wk t' else M.2.2 t')) → MD (d + 4) z_doAct 513 [(0, vr 0), (1, vi t), (2, vi w), (3, vi k), (4, vi s), (5, vi c), (6, vi 0), (8, vi o)] [] S y (Dv Fv) := by
    have fin : ∀ (y : gd) (o : Int32), RI y S → md [] [77] x y → y.1 77 T = 0 → (x.1 0 25).toInt ≤ o.toInt → (∀ t' : Nat, t' < 6 → mTq y C t' (if (t' : Int) < o.toInt then wkT C M T c.toNatClampNeg wk t' else M.2.2 t')) → MD (d + 4) z_doAct 667 [(0, vr 0), (1, vi t), (3, vi k), (4, vi s), (5, vi c), (6, vi 0)] [] S y (Dv Fv) := fun y o ry my yT ho mt => kk y ry my yT (fun t' ht' => by
      have q := mt t' ht'
      by_cases c9 : (t' : Int) < o.toInt
      · rw [if_pos c9] at q; exact q
      · rw [if_neg c9] at q
        have : wkT C M T c.toNatClampNeg wk t' = M.2.2 t' := if_neg (fun z => by have := z.1; omega)
        rw [this]; exact q)
    intro n
    induction n with
    | zero =>
      intro y o ry my yT o0 hn mt
      have e25 : y.1 0 25 = x.1 0 25 := my.1 25 (by decide)
      exact sd_doAct_513 _ _ _ _ _ _ _ ⟨fun _ => fin y o ry my yT (by omega) mt, fun cc => absurd (t_le.mpr (by rw [e25]; omega)) cc⟩
    | succ n ih =>
      intro y o ry my yT o0 hn mt
      have e25 : y.1 0 25 = x.1 0 25 := my.1 25 (by decide)
      refine sd_doAct_513 _ _ _ _ _ _ _ ⟨fun cc => fin y o ry my yT (by rw [t_le, e25] at cc; exact cc) mt, fun cc => ?_⟩
      rw [t_le, e25] at cc
      have ov : vp_in o 6 := by rw [vp_in_iff]; omega
      have oi : (o + 1).toInt = o.toInt + 1 := by rw [t_add (by omega) (by omega), k1]
      obtain ⟨O, eO⟩ : ∃ O, O = o.toNatClampNeg := ⟨_, rfl⟩
      have oO : (O : Int) = o.toInt := by rw [eO]; exact cl_i o0
      have O6 : O < 6 := by omega
      have oI : o = Int32.ofNat O := i32_of (by omega)
      have ra' := (ry.2 O O6).1
      have q := mt O O6
      rw [if_neg (by omega)] at q
      have m77 := q.2.2.2.2.1
      have l77 := q.2.2.2.2.2.1
      have m74 := q.2.2.2.1
      obtain ⟨-, b1, -⟩ := wai_2 _ (show (M.2.2 O).2.2.2.1 < 3 by omega)
      rw [← m77] at b1
      have f56 : y.1 56 = x.1 56 := my.2.1 56 (by decide) (by decide)
      have f57 : y.1 57 = x.1 57 := my.2.1 57 (by decide) (by decide)
      -- set, and go on
      have set : ∀ (v : Nat) (z : gd), z = si y 77 O (Int32.ofNat v) → v ≤ 2 → wkT C M T c.toNatClampNeg wk O = ((M.2.2 O).1, (M.2.2 O).2.1, (M.2.2 O).2.2.1, v, (M.2.2 O).2.2.2.2) → (v = (M.2.2 O).2.2.2.1 ∨ (v = 2 ∧ y.1 77 O = 1)) → MD (d + 4) z_doAct 513 [(0, vr 0), (1, vi t), (2, vi w), (3, vi k), (4, vi s), (5, vi c), (6, vi 0), (8, vi (o + 1))] [] S z (Dv Fv) := by
        intro v z ez v2 hwv hv
        have tz : th3 O y z := by rw [ez]; exact th3_si (by decide) _ _
        have mz := md_a y 77 O (Int32.ofNat v) (by decide)
        rw [← ez] at mz
        have c73 : z.1 73 = y.1 73 := by rw [ez, si_cell (by decide)]
        have c74 : z.1 74 = y.1 74 := by rw [ez, si_cell (by decide)]
        have wo' : z.1 77 O = Int32.ofNat v := by rw [ez, si_get, if_pos ⟨rfl, rfl⟩]
        have wT' : z.1 77 T = 0 := by
          by_cases q9 : T = O
          · rw [q9] at yT ⊢
            rw [wo']
            rcases hv with hv | ⟨_, hv⟩
            · rw [hv, ← m77]; exact yT
            · rw [yT] at hv; exact absurd hv (by decide)
          · rw [tz.2.1 77 T (by omega) q9]; exact yT
        refine ih z (o + 1) ⟨CP_th (th3_th tz) ry.1, fun t' ht' => ?_⟩ (md_tr my mz rfl rfl) wT' (by omega) (by omega) (fun t' ht' => ?_)
        · by_cases q9 : t' = O
          · obtain ⟨q1, q2, q3⟩ := ry.2 t' ht'
            rw [q9] at q1 q2 q3 ⊢
            refine ⟨?_, ?_, rl_th (th3_th tz) (ssub_rf _) q3⟩
            · unfold ra
              rw [c73, c74, tz.1.1 52 (by decide), tz.1.2.1 54 (by decide) (by decide)]
              exact q1
            · unfold rw'
              rw [c73, c74, wo', tz.1.2.1 55 (by decide) (by decide)]
              rcases hv with hv | ⟨hv, hv1⟩
              · rw [hv, ← m77]; exact q2
              · rcases q2 with q2 | ⟨_, q2⟩
                · rw [hv1] at q2; exact absurd q2 (by decide)
                · exact Or.inr ⟨Or.inr (by rw [hv]; rfl), q2⟩
          · exact rT_th (th3_th tz) (ssub_rf _) q9 (ry.2 t' ht')
        · by_cases q9 : t' = O
          · rw [q9, if_pos (by omega), hwv]
            exact mTq_77 q ez v2
          · have q8 := mTq_th hN tz q9 (mt t' ht')
            by_cases c9 : (t' : Int) < o.toInt
            · rw [if_pos c9] at q8
              rw [if_pos (by omega)]; exact q8
            · rw [if_neg c9] at q8
              rw [if_neg (by omega)]; exact q8
      have p571 : ∀ b : Int32, (¬ b = 0 → y.1 77 O = 1 ∧ wkT C M T c.toNatClampNeg wk O = ((M.2.2 O).1, (M.2.2 O).2.1, (M.2.2 O).2.2.1, 2, (M.2.2 O).2.2.2.2)) → (b = 0 → wkT C M T c.toNatClampNeg wk O = M.2.2 O) → MD (d + 4) z_doAct 571 [(0, vr 0), (1, vi t), (2, vi w), (3, vi k), (4, vi s), (5, vi c), (6, vi 0), (8, vi o)] [vi b] S y (Dv Fv) := by
        intro b hb hb0
        refine sd_doAct_571 _ _ _ _ _ _ _ _ ⟨fun c0 => ⟨ov, ov, fun z ez => ?_⟩, fun nb => ⟨ov, fun z ez => ?_⟩⟩
        · rw [← eO] at ez
          exact set (M.2.2 O).2.2.2.1 z (by rw [ez, m77]) l77 (by rw [hb0 c0]) (Or.inl rfl)
        · rw [← eO] at ez
          exact set 2 z ez (Nat.le_refl _) (hb nb).2 (Or.inr ⟨rfl, (hb nb).1⟩)
      have no : ¬ ((M.2.2 O).2.2.2.1 = 1 ∧ obM C (M.2.2 O).2.2.1 = c.toNatClampNeg ∧ (st.2.2.2.2.2.2.1 = true ∨ wk = some O)) → wkT C M T c.toNatClampNeg wk O = M.2.2 O := fun n9 => if_neg (fun z => n9 ⟨z.2.1, z.2.2.1, by have := z.2.2.2; rw [esT] at this; exact this⟩)
      have yes : (M.2.2 O).2.2.2.1 = 1 → obM C (M.2.2 O).2.2.1 = c.toNatClampNeg → (st.2.2.2.2.2.2.1 = true ∨ wk = some O) → wkT C M T c.toNatClampNeg wk O = ((M.2.2 O).1, (M.2.2 O).2.1, (M.2.2 O).2.2.1, 2, (M.2.2 O).2.2.2.2) := fun y1 y2 y3 => if_pos ⟨by omega, y1, y2, by rw [esT]; exact y3⟩
      have fl : x.1 57 k.toNatClampNeg = 1 ↔ st.2.2.2.2.2.2.1 = true := by
        rw [nx4]
        by_cases c9 : st.2.2.2.2.2.2.1 = true
        · rw [if_pos c9]; exact ⟨fun _ => c9, fun _ => rfl⟩
        · rw [if_neg c9]; exact ⟨fun z => absurd z (by decide), fun z => absurd z c9⟩
      have wo : w = o ↔ wk = some O := by
        rcases hwk with ⟨h1, h2⟩ | ⟨o9, h1, h2, h3⟩
        · rw [h1, h2]
          refine ⟨fun z => ?_, fun z => nomatch z⟩
          rw [← z] at o0
          exact absurd o0 (by decide)
        · have e9 : (Int32.ofNat o9).toInt = (o9 : Nat) := op_16 o9 (by omega)
          rw [h1, h3, t_eq, e9]
          refine ⟨fun z => by congr 1; omega, fun z => ?_⟩
          have := Option.some.inj z
          omega
      rw [← eO]
      refine ⟨ov, fun n1 => p571 0 (fun q => absurd rfl q) (fun _ => no (fun z => n1 (b1.mpr z.1))), fun w1 => ⟨ov, by rw [vp_in_iff]; exact ⟨ra'.1, ra'.2.1⟩, ?_⟩⟩
      have g1 : y.1 73 O = 1 := by
        rcases (ry.2 O O6).2.1 with z | ⟨-, z, -⟩
        · rw [w1] at z; exact absurd z (by decide)
        · exact z
      have g5 : y.1 55 (y.1 74 O).toNatClampNeg = 7 := by
        rcases (ry.2 O O6).2.1 with z | ⟨-, -, z⟩
        · rw [w1] at z; exact absurd z (by decide)
        · exact z
      have av := (RI_step ry O6 g1).2.2.2
      rw [g5] at av
      have ob : y.1 56 (y.1 74 O).toNatClampNeg = c ↔ obM C (M.2.2 O).2.2.1 = c.toNatClampNeg := by
        have lo : 0 ≤ (y.1 56 (y.1 74 O).toNatClampNeg).toInt := by
          rcases av.2 with z | z | z
          · exact z.2.2.1
          · exact z.2.2.1
          · exact absurd z.1 (by decide)
        have l52 : (x.1 0 52).toInt = C.1.length := hK.1.1
        have kl : (M.2.2 O).2.2.1 < C.1.length := by
          have := (RI_step ry O6 g1).2.1
          rw [m74, my.1 52 (by decide)] at this
          omega
        obtain ⟨so, hso⟩ : ∃ so, C.1[(M.2.2 O).2.2.1]? = some so := ⟨_, List.getElem?_eq_getElem kl⟩
        obtain ⟨-, -, g56, -⟩ := hK.1.2 _ so hso
        have ec : (y.1 74 O).toNatClampNeg = (M.2.2 O).2.2.1 := by rw [t_cl, m74]; rfl
        rw [ec, f56, g56] at lo ⊢
        unfold obM
        rw [stN_is hso, t_cl, t_cl, t_eq]
        omega
      refine ⟨fun n5 => p571 0 (fun q => absurd rfl q) (fun _ => no (fun z => n5 (ob.mpr z.2.1))), fun e5 => ⟨kv, ?_⟩⟩
      rw [f57]
      refine ⟨fun e1 => p571 1 (fun _ => ⟨w1, yes (b1.mp w1) (ob.mp e5) (Or.inl (fl.mp e1))⟩) (fun z => absurd z (by decide)), fun n1 => ⟨fun nw => p571 0 (fun q => absurd rfl q) (fun _ => no (fun z => z.2.2.elim (fun z => n1 (fl.mpr z)) (fun z => nw (wo.mpr z)))), fun ew => p571 1 (fun _ => ⟨w1, yes (b1.mp w1) (ob.mp e5) (Or.inr (wo.mp ew))⟩) (fun z => absurd z (by decide))⟩⟩
  refine loop (x.1 0 25).toInt.toNat x 0 ri (md_w (md_rf x) (by decide) (by decide)) w9 (by decide) (by rw [k0]; omega) (fun t' ht' => ?_)
  rw [if_neg (by rw [k0]; omega)]
  exact hM.2.2 t' ht'
end DWK
end
