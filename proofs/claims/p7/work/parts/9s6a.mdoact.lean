/-! the model: every act done is what the machine does -/
section DDA
variable {d : Nat} {S : gS} {x : gd} {F : Int32 → gd → gS → Prop} {Fv : gd → gS → Prop} {C : gCo} {M : gMa}
set_option maxHeartbeats 1000000 in
theorem ds_doAct3 (t w : Int32) (ht : vp_in t 6) (ri : RI x S) (h1 : x.1 73 t.toNatClampNeg = 1) (hw : ¬ x.1 77 t.toNatClampNeg = 1) (hK : MK x C) (hN : NC C) (hX : NXc C) (hM : MM1 x C M) (hW : WM M) {wa : Nat} (wy : x.1 0 68 = Int32.ofNat wa) (w01 : wa = 0 ∨ wa = 1) {wk : Option Nat} (hwk : (wk = none ∧ w = -1) ∨ ∃ o : Nat, wk = some o ∧ o < 6 ∧ w = Int32.ofNat o) (h : ∀ x' S', RI x' S' → ssub S S' → acS S' → acP (srt x t.toNatClampNeg) x' → MM1 x' C (acM C wa M t.toNatClampNeg wk) → Fv x' S') : MD (d + 4) z_doAct 0 [(0, vr 0), (1, vi t), (2, vi w)] [] S x (Dv Fv) := by
  have k0 : (0 : Int32).toInt = 0 := rfl
  have k1 : (1 : Int32).toInt = 1 := rfl
  have k8 : (8 : Int32).toInt = 8 := rfl
  have tv := vp_in_iff.mp ht
  obtain ⟨kv, kn, so', av⟩ := RI_step ri (vt ht) h1
  obtain ⟨s1, s2, s3⟩ := srt_of ri (vt ht) h1
  obtain ⟨T, eT⟩ : ∃ T, T = t.toNatClampNeg := ⟨_, rfl⟩
  have T6 : T < 6 := by rw [eT]; exact vt ht
  have tT : t = Int32.ofNat T := i32_of (by rw [eT, t_cl]; omega)
  have lk0 := fun (d' : Nat) (Fv' : gd → gS → Prop) => ds_look3 (d := d') (Fv := Fv') (M := M) (w := wa) t ht ri h1 hw hK hN hX hM wy w01
  rw [← eT] at kv kn av s1 s2 s3 h1 hw h lk0
  obtain ⟨k, ek⟩ : ∃ k, k = x.1 74 T := ⟨_, rfl⟩
  rw [← ek] at kv kn av s1 s2 s3
  obtain ⟨s, es⟩ : ∃ s, s = srt x T := ⟨_, rfl⟩
  rw [← es] at s1 s2 s3 h
  have kb := vp_in_iff.mp kv
  have j2' := ri.1.2.1.2.1
  obtain ⟨m73, l73, m75, m74, m77, l77, m78, m79, mlt, mlv⟩ := hM.2.2 T T6
  rw [← ek] at m74
  -- the step
  have l52 : (x.1 0 52).toInt = C.1.length := hK.1.1
  obtain ⟨K, eKd⟩ : ∃ K, K = (M.2.2 T).2.2.1 := ⟨_, rfl⟩
  rw [← eKd] at m74
  have kst : k.toNatClampNeg = K := by rw [t_cl, m74]; rfl
  obtain ⟨st, hst⟩ : ∃ st, C.1[K]? = some st := ⟨_, List.getElem?_eq_getElem (by omega)⟩
  have esN := stN_is hst
  obtain ⟨g54, g55, g56, g57, g58, g59, g60, -, -⟩ := hK.1.2 _ st hst
  have ns := hN.1 _ st hst
  rw [← kst] at g54 g55 g56
  have o16 : st.1 < 16 := by
    have a := ((ri.2 T T6).1.2.2 h1).2
    rw [← ek, g54] at a
    exact (mWh_i st.1 ns.1.1).1.mp a
  have g55 := g55 o16
  have sta1 : (M.2.2 T).1 = 1 := by
    have : Int32.ofNat (M.2.2 T).1 = 1 := by rw [← m73]; exact h1
    rcases (show (M.2.2 T).1 = 0 ∨ (M.2.2 T).1 = 1 ∨ (M.2.2 T).1 = 2 ∨ (M.2.2 T).1 = 3 by omega) with e | e | e | e <;> rw [e] at this ⊢ <;> first | rfl | exact absurd this (by decide)
  obtain ⟨b2, b1, b0⟩ := wai_2 _ (show (M.2.2 T).2.2.2.1 < 3 by omega)
  rw [← m77] at b2 b1 b0
  obtain ⟨o, eo⟩ : ∃ o, o = soM C (M.2.2 T) := ⟨_, rfl⟩
  have sO : s = Int32.ofNat o ∧ o < 16 ∧ (o = 15 → ¬ (M.2.2 T).2.2.2.1 = 0) ∧ (¬ o = 15 → (M.2.2 T).2.2.2.1 = 0 ∧ o = st.1) := by
    rw [eo, es]
    unfold soM srt
    rw [← eKd, esN]
    by_cases c2 : x.1 77 T = 2
    · rw [if_pos c2, if_neg (by have := b2.mp c2; omega)]
      exact ⟨rfl, by omega, fun _ => by have := b2.mp c2; omega, fun z => absurd rfl z⟩
    · have w0 : (M.2.2 T).2.2.2.1 = 0 := by
        have a1 : ¬ (M.2.2 T).2.2.2.1 = 2 := fun z => c2 (b2.mpr z)
        have a2 : ¬ (M.2.2 T).2.2.2.1 = 1 := fun z => hw (b1.mpr z)
        omega
      rw [if_neg c2, if_pos w0, ← ek]
      exact ⟨g55, o16, fun z => absurd z ns.1.2, fun _ => ⟨w0, rfl⟩⟩
  obtain ⟨sI, o15, oR, oN⟩ := sO
  have sE : ∀ n : Nat, n < 16 → (s = Int32.ofNat n ↔ o = n) := fun n hn => by
    rw [t_eq, sI, op_16 o o15, op_16 n hn]; omega
  have num0 : (M.2.2 T).2.1 = 0 := (hW T T6).1 (by rw [sta1]; decide)
  obtain ⟨L, eL⟩ : ∃ L, L = lkM C wa M T := ⟨_, rfl⟩
  have L9 : L.1 ≤ 9 := by rw [eL]; exact lkM_le
  let Y : gd → gS → Prop := fun y S1 => ssub S S1 ∧ acS S1 ∧ acP s y ∧ y.1 0 52 = x.1 0 52
  have go3 : ∀ (z : gd) (S2 : gS) (c v : Int32) (E : gMa), ¬ s = 9 → Y z S2 → RI z S2 → MK z C → MMc z E → (∀ t' : Nat, t' < 6 → mTq z C t' (E.2.2 t')) → (E.2.2 T).1 = 1 → (E.2.2 T).2.1 = 0 → (E.2.2 T).2.2.1 = K → (E.2.2 T).2.2.2.1 = 0 → (E.2.2 T).2.2.2.2.1 = 0 → (E.2.2 T).2.2.2.2.2.2.2 = (M.2.2 T).2.2.2.2.2.2.2 → L.1 = 0 → ¬ o = 7 → efM C wa M T o L.2.1.toNatClampNeg L.2.2.1 L.2.2.2 wk = (E, v) → MD (d + 4) z_doAct 667 [(0, vr 0), (1, vi t), (3, vi k), (4, vi s), (5, vi c), (6, vi v)] [] S2 z (Dv Fv) := by
    intro z S2 c v E n9 hy rz kz mc mT e0 e1 e2 e3 e4 e7 L0 n7 he
    obtain ⟨y1, y2, y3, y4⟩ := hy
    have ha := acM_is (wk := wk) (E := E) (v := v) (by rw [← eL]; exact L0) (by rw [← eo]; exact n7) (by rw [← eo, ← eL]; exact he)
    rw [← eKd, esN, ← e7] at ha
    refine ds_act667 t k c s v ht eT m74 rz.1 kz hN hX hst o16 (by rw [y4]; omega) mc (fun t' ht' _ => mT t' ht') (fun q => absurd q n9) e0 e1 e2 e3 e4 (fun q => absurd q n9) (fun t' ht' _ => rz.2 t' ht') (fun q => absurd q n9) (fun x' S' r ss m mm => h x' S' r (ssub_tr y1 ss) (acS_up ss y2) ?_ (by rw [ha]; exact mm))
    unfold acP
    rw [m.1 88 (by decide), m.1 89 (by decide)]
    exact y3
  refine sd_doAct_0 _ _ ⟨ht, ds_sortOf t ht (by rw [← eT, ← ek]; exact kv) ?_⟩
  rw [← eT, ← es, ← ek]
  refine lk0 d _ (fun x4 S4 m4 ss4 lk4 lp lq y5 e5 y6 e6 => ?_)
  unfold lkP at lp
  rw [← es, ← ek] at lp
  rw [← eL] at lq
  obtain ⟨lp1, lp2, lp3⟩ := lp
  have m5 := md_f x4 92 0
  rw [← e5] at m5
  have m6 := md_f y5 93 0
  rw [← e6] at m6
  have m46 : md [92, 93] [] x4 y6 := md_tr m5 m6 rfl rfl
  have m06 : md [82, 88, 89, 90, 91, 92, 93] [84] x y6 := md_tr m4 m46 rfl rfl
  have f88 : y6.1 0 88 = x4.1 0 88 := m46.1 88 (by decide)
  have f89 : y6.1 0 89 = x4.1 0 89 := m46.1 89 (by decide)
  obtain ⟨q89, q88, q9⟩ := lq
  rw [← f88] at lp1 lp2 lp3 q88
  rw [← f89] at lp3 q89
  rw [← m46.1 90 (by decide), ← m46.1 91 (by decide)] at q9
  have ss6 : ssub S4 (sadd (sadd S4 0 92) 0 93) := ssub_tr (ssub_ad _ _ _) (ssub_ad _ _ _)
  obtain ⟨S6, eS6⟩ : ∃ S6, S6 = sadd (sadd S4 0 92) 0 93 := ⟨_, rfl⟩
  have n92 : S6 0 92 := by rw [eS6]; exact Or.inr (Or.inl ⟨rfl, rfl⟩)
  have n93 : S6 0 93 := by rw [eS6]; exact Or.inl ⟨rfl, rfl⟩
  rw [← eS6] at ss6 ⊢
  have lk6 := lkS_up ss6 lk4
  have r6 : RI y6 S6 := RI_md m06 rfl rfl (ssub_tr ss4 ss6) ri
  have M6 : MM1 y6 C M := MM1_md m06 rfl hM
  have K6 : MK y6 C := MK_md m06 rfl rfl hK
  have mc6 : MMc y6 M := ⟨M6.1, M6.2.1⟩
  have ac6 : acP s y6 := fun q => ⟨(lp3 q).1, fun e9 => by
    have o := s2 (Or.inl (by rw [e9]; decide))
    rw [lp2 (Or.inl (by rw [e9]; decide))]
    exact ⟨o.1, o.2.1⟩⟩
  have g6 := fun q (h0 : q ≠ 0) hq => m06.2.1 q h0 hq
  have hy6 : Y y6 S6 := ⟨ssub_tr ss4 ss6, ⟨lk6.1, lk6.2.1, n92, n93⟩, ac6, m06.1 52 (by decide)⟩
  refine ⟨lk6.2.1, fun cf => ⟨lk6.1, ?_⟩, fun cf => ⟨lk6.2.1, ?_⟩⟩
  rotate_left
  · -- it fails
    have L0 : ¬ L.1 = 0 := fun z => cf (by rw [q89, z]; decide)
    have w0 : (M.2.2 T).2.2.2.1 = 0 := Classical.byContradiction (fun n0 => L0 (by rw [eL, lkM_15 n0]))
    have ha := acM_F (wk := wk) (by rw [← eL]; exact L0)
    rw [← eL] at ha
    refine ds_actF (d := d + 2) t _ ht eT r6 K6 hN M6 hW (by rw [g6 73 (by decide) (by decide)]; exact h1) w0 q89 (fun u S1 ru su mu mm => Dv_i (h u S1 ru (ssub_tr hy6.1 su) (acS_up su hy6.2.1) ?_ (by rw [ha]; exact mm)))
    unfold acP
    rw [mu.1 88 (by decide), mu.1 89 (by decide)]
    exact ac6
  -- it does not fail
  rw [t_le, k0] at cf
  have L0 : L.1 = 0 := by
    rw [q89, op_16 _ (by omega)] at cf
    omega
  obtain ⟨q90, q91⟩ := q9 L0
  obtain ⟨c, ec⟩ : ∃ c, c = y6.1 0 88 := ⟨_, rfl⟩
  rw [← ec] at lp2 lp3 q88 ⊢
  obtain ⟨lpa, lp9, lpw⟩ := lp3 cf
  have c24 : 0 ≤ s.toInt ∧ s.toInt ≤ 4 → vp_in c 24 := fun q => by rw [vp_in_iff]; exact lpa q
  have c6 : (5 ≤ s.toInt ∧ s.toInt ≤ 10) ∨ s = 15 → vp_in c 6 := fun q => by
    have o := s2 q
    rw [lp2 q, vp_in_iff]; omega
  -- what leaves the threads alone
  have easy : ∀ (n : Nat), o = n → ¬ n = 9 → ¬ n = 15 → ¬ n = 7 → ∀ (z : gd) (S2 : gS) (v : Int32) (E : gMa), md [82, 90, 91, 92, 93] [70, 71, 72, 84] y6 z → ssub S6 S2 → MMc z E → E.2.2 = M.2.2 → efM C wa M T n L.2.1.toNatClampNeg L.2.2.1 L.2.2.2 wk = (E, v) → MD (d + 4) z_doAct 667 [(0, vr 0), (1, vi t), (3, vi k), (4, vi s), (5, vi c), (6, vi v)] [] S2 z (Dv Fv) := by
    intro n en n9 n15 n7 z S2 v E m ss mc hE he
    have w0 := (oN (by omega)).1
    refine go3 z S2 c v E (fun q => n9 (by have := (sE 9 (by omega)).mp q; omega)) ⟨ssub_tr hy6.1 ss, acS_up ss hy6.2.1, by unfold acP; rw [m.1 88 (by decide), m.1 89 (by decide)]; exact ac6, by rw [m.1 52 (by decide)]; exact hy6.2.2.2⟩ (RI_md m rfl rfl ss r6) (MK_md m rfl rfl K6) mc (fun t' ht' => by rw [hE]; exact mTq_md m rfl (M6.2.2 t' ht')) (by rw [hE]; exact sta1) (by rw [hE]; exact num0) (by rw [hE]; exact eKd.symm) (by rw [hE]; exact w0) (by rw [hE]; exact (hW T T6).2.1 w0) (by rw [hE]) L0 (by omega) (by rw [en]; exact he)
  refine ⟨fun e => ?_, fun e => ⟨lk6.2.2.1, fun z16 e16 => ?_⟩, fun e => ?_, fun e => ?_, fun e => ?_, fun e => ?_, fun e => ?_, fun e => ?_, fun e => ?_, fun e => ?_, fun e => ?_, fun no => ?_⟩
  · -- read
    have cv := c24 (by rw [e]; decide)
    refine ds_see3 t c ht cv (by rw [← eT]; exact (r6.2 T T6).2.2) (l := (M.2.2 T).2.2.2.2.2.2.1) (by rw [← eT]; exact (M6.2.2 T T6).2.2.2.2.2.2.2.2.1) (fun z ez => ?_)
    have ev : seL (M.2.2 T).2.2.2.2.2.2.1 c.toNatClampNeg (y6.1 70 c.toNatClampNeg) = seM M T L.2.1.toNatClampNeg := by
      rw [mc6.1 _ (vp_lt cv), q88]; rfl
    rw [ev] at ez ⊢
    have mz := md_f y6 92 (seM M T L.2.1.toNatClampNeg)
    rw [← ez] at mz
    exact easy 0 ((sE 0 (by omega)).mp e) (by decide) (by decide) (by decide) z _ _ M (md_w mz (by decide) (by decide)) (ssub_ad _ _ _) (MMc_eq mc6 (mz.2.1 70 (by decide) (by decide)) (mz.2.1 71 (by decide) (by decide)) (mz.2.1 72 (by decide) (by decide))) rfl ef_0
  · sorry
  · sorry
  · -- take
    have cv := c6 (Or.inl (by rw [e]; decide))
    refine ⟨cv, fun z ez => ⟨cv, cv, fun z2 ez2 => ?_⟩⟩
    have mz := md_a y6 71 c.toNatClampNeg t (by decide)
    rw [← ez] at mz
    have mz2 := md_a z 72 c.toNatClampNeg (z.1 72 c.toNatClampNeg + 1) (by decide)
    rw [← ez2] at mz2
    have z72 : z.1 72 = y6.1 72 := mz.2.1 72 (by decide) (by decide)
    have h72 := (mc6.2 _ (vp_lt cv)).2.2
    refine easy 5 ((sE 5 (by omega)).mp e) (by decide) (by decide) (by decide) z2 _ 0 (upL M c.toNatClampNeg (T + 1, (M.2.1 c.toNatClampNeg).2 + 1)) (md_tr mz mz2 rfl rfl) (ssub_rf _) (MMc_L mc6 (by rw [mz2.2.1 70 (by decide) (by decide), mz.2.1 70 (by decide) (by decide)]) (a := t) (fun j => by rw [mz2.2.1 71 (by decide) (by decide), ez, si_at rfl]) (fun j => by rw [ez2, si_at rfl, z72, h72]) ?_ (by omega)) rfl (by rw [← q88]; exact ef_5)
    rw [tT]
    exact ((hol_t (T + 1) (by omega) T T6).mpr rfl).symm
  · -- taken again
    sorry
  · -- give
    have cv := c6 (Or.inl (by rw [e]; decide))
    have h72 := (mc6.2 _ (vp_lt cv)).2.2
    refine ⟨cv, cv, fun z ez => ⟨cv, fun n0 => ⟨cv, fun z2 ez2 => ?_⟩, fun e0 => ⟨cv, fun z2 ez2 => ?_⟩⟩⟩
    · have mz := md_a y6 72 c.toNatClampNeg (y6.1 72 c.toNatClampNeg - 1) (by decide)
      rw [← ez] at mz
      have mz2 := md_a z 71 c.toNatClampNeg t (by decide)
      rw [← ez2] at mz2
      have z71 : z.1 71 = y6.1 71 := mz.2.1 71 (by decide) (by decide)
      rw [ez, si_get, if_pos ⟨rfl, rfl⟩, h72] at n0
      have he := ef_6 (C := C) (M := M) (w := wa) (t := T) (c := c.toNatClampNeg) (e := L.2.2.1) (f := L.2.2.2) (wk := wk)
      rw [if_neg n0] at he
      refine easy 6 ((sE 6 (by omega)).mp e) (by decide) (by decide) (by decide) z2 _ 0 (upL M c.toNatClampNeg (T + 1, (M.2.1 c.toNatClampNeg).2 - 1)) (md_tr mz mz2 rfl rfl) (ssub_rf _) (MMc_L mc6 (by rw [mz2.2.1 70 (by decide) (by decide), mz.2.1 70 (by decide) (by decide)]) (a := t) (fun j => by rw [ez2, si_at rfl, z71]) (fun j => by rw [mz2.2.1 72 (by decide) (by decide), ez, si_at rfl, h72]) ?_ (by omega)) rfl (by rw [← q88]; exact he)
      rw [tT]
      exact ((hol_t (T + 1) (by omega) T T6).mpr rfl).symm
    · have mz := md_a y6 72 c.toNatClampNeg (y6.1 72 c.toNatClampNeg - 1) (by decide)
      rw [← ez] at mz
      have mz2 := md_a z 71 c.toNatClampNeg (-1) (by decide)
      rw [← ez2] at mz2
      have z71 : z.1 71 = y6.1 71 := mz.2.1 71 (by decide) (by decide)
      rw [ez, si_get, if_pos ⟨rfl, rfl⟩, h72] at e0
      have he := ef_6 (C := C) (M := M) (w := wa) (t := T) (c := c.toNatClampNeg) (e := L.2.2.1) (f := L.2.2.2) (wk := wk)
      rw [if_pos e0] at he
      exact easy 6 ((sE 6 (by omega)).mp e) (by decide) (by decide) (by decide) z2 _ 0 (upL M c.toNatClampNeg (0, (M.2.1 c.toNatClampNeg).2 - 1)) (md_tr mz mz2 rfl rfl) (ssub_rf _) (MMc_L mc6 (by rw [mz2.2.1 70 (by decide) (by decide), mz.2.1 70 (by decide) (by decide)]) (a := -1) (fun j => by rw [ez2, si_at rfl, z71]) (fun j => by rw [mz2.2.1 72 (by decide) (by decide), ez, si_at rfl, h72]) rfl (by omega)) rfl (by rw [← q88]; exact he)
  · -- wait
    sorry
  · -- wake
    have cv := c6 (Or.inl (by rw [e]; decide))
    have o8 := (sE 8 (by omega)).mp e
    obtain ⟨w0, os⟩ := oN (by omega)
    have cb := vp_in_iff.mp cv
    refine ds_wake3 t w k c s r6 K6 hN hX M6 m74 (by omega) eKd.symm hst (by omega) ⟨cb.1, cb.2⟩ (by rw [g6 77 (by decide) (by decide), m77, w0]; rfl) hwk (fun z rz mz z77 mt => ?_)
    have wT : wkT C M T c.toNatClampNeg wk T = M.2.2 T := if_neg (fun z9 => by rw [w0] at z9; exact absurd z9.2.1 (by decide))
    exact go3 z S6 c 0 (M.1, M.2.1, wkT C M T c.toNatClampNeg wk) (fun q => by have := (sE 9 (by omega)).mp q; omega) ⟨hy6.1, hy6.2.1, by unfold acP; rw [mz.1 88 (by decide), mz.1 89 (by decide)]; exact ac6, by rw [mz.1 52 (by decide)]; exact hy6.2.2.2⟩ rz (MK_md mz rfl rfl K6) (MMc_eq mc6 (mz.2.1 70 (by decide) (by decide)) (mz.2.1 71 (by decide) (by decide)) (mz.2.1 72 (by decide) (by decide))) mt (by show (wkT C M T c.toNatClampNeg wk T).1 = 1; rw [wT]; exact sta1) (by show (wkT C M T c.toNatClampNeg wk T).2.1 = 0; rw [wT]; exact num0) (by show (wkT C M T c.toNatClampNeg wk T).2.2.1 = K; rw [wT]; exact eKd.symm) (by show (wkT C M T c.toNatClampNeg wk T).2.2.2.1 = 0; rw [wT]; exact w0) (by show (wkT C M T c.toNatClampNeg wk T).2.2.2.2.1 = 0; rw [wT]; exact (hW T T6).2.1 w0) (by show (wkT C M T c.toNatClampNeg wk T).2.2.2.2.2.2.2 = _; rw [wT]) L0 (by omega) (by rw [o8, ← q88]; exact ef_8)
  · -- start
    sorry
  · -- call
    sorry
  · -- back
    sorry
  · -- join, fence, pause
    have n := fun (j : Nat) (hj : j < 16) (hm : Int32.ofNat j ∈ [(0 : Int32), (1 : Int32), (2 : Int32), (3 : Int32), (4 : Int32), (5 : Int32), (15 : Int32), (6 : Int32), (7 : Int32), (8 : Int32), (9 : Int32), (13 : Int32), (14 : Int32)]) => fun z : o = j => no _ hm ((sE j hj).mpr z)
    have n0 : ¬ o = 0 := n 0 (by omega) (by decide)
    have n1 : ¬ o = 1 := n 1 (by omega) (by decide)
    have n2 : ¬ o = 2 := n 2 (by omega) (by decide)
    have n3 : ¬ o = 3 := n 3 (by omega) (by decide)
    have n4 : ¬ o = 4 := n 4 (by omega) (by decide)
    have n5 : ¬ o = 5 := n 5 (by omega) (by decide)
    have n6 : ¬ o = 6 := n 6 (by omega) (by decide)
    have n7 : ¬ o = 7 := n 7 (by omega) (by decide)
    have n8 : ¬ o = 8 := n 8 (by omega) (by decide)
    have n9 : ¬ o = 9 := n 9 (by omega) (by decide)
    have n13 : ¬ o = 13 := n 13 (by omega) (by decide)
    have n14 : ¬ o = 14 := n 14 (by omega) (by decide)
    have n15 : ¬ o = 15 := n 15 (by omega) (by decide)
    exact easy o rfl n9 n15 n7 y6 S6 0 M (md_w (md_rf y6) (by decide) (by decide)) (ssub_rf _) mc6 rfl (ef_o (by omega))
end DDA
