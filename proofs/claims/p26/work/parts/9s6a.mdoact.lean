section
/-! the model: every act done is what the machine does -/
theorem mTq_eq {C : gCo} {y z : gd} {t : Nat} {h : gTq} (q : mTq y C t h) (f : ∀ c, c = 73 ∨ c = 74 ∨ c = 75 ∨ c = 77 ∨ c = 78 ∨ c = 79 ∨ c = 80 → z.1 c t = y.1 c t) (e76 : z.1 76 = y.1 76) (e81 : z.1 81 = y.1 81) (e82 : z.1 82 = y.1 82) : mTq z C t h := by
  unfold mTq mLt mLv at q ⊢
  rw [f 73 (by omega), f 74 (by omega), f 75 (by omega), f 77 (by omega), f 78 (by omega), f 79 (by omega), f 80 (by omega), e76, e81, e82]
  exact q
/-- a thread's waiting and its call set anew -/
theorem mTq_w {C : gCo} {y z : gd} {t v : Nat} {a b : Int32} {h : gTq} (q : mTq y C t h) (f : ∀ c, c = 73 ∨ c = 74 ∨ c = 75 ∨ c = 80 → z.1 c t = y.1 c t) (e76 : z.1 76 = y.1 76) (e81 : z.1 81 = y.1 81) (e82 : z.1 82 = y.1 82) (e77 : z.1 77 t = Int32.ofNat v) (hv : v ≤ 2) (e78 : z.1 78 t = a) (e79 : z.1 79 t = b) : mTq z C t (h.1, h.2.1, h.2.2.1, v, a, b, h.2.2.2.2.2.2) := by
  obtain ⟨a1, a2, a3, a4, a5, a6, a7, a8, ⟨a9, a10⟩, b1⟩ := q
  refine ⟨by rw [f 73 (by omega)]; exact a1, a2, by rw [f 75 (by omega)]; exact a3, by rw [f 74 (by omega)]; exact a4, e77, hv, e78, e79, ⟨by rw [f 80 (by omega)]; exact a9, by rw [e81, e82]; exact a10⟩, ?_⟩
  unfold mLv at b1 ⊢
  rw [e76]; exact b1
theorem lkM_pl {C : gCo} {M : gMa} {w t : Nat} (w0 : (M.2.2 t).2.2.2.1 = 0) (h : (lkM C w M t).1 = 0) : (lkI C M t).1 = 0 ∧ (lkM C w M t).2.1 = (lkI C M t).2 := by
  by_cases c : (lkI C M t).1 = 0
  · refine ⟨c, ?_⟩
    cases e1 : evO (M.2.2 t).2.2.2.2.2.2.2 (Int32.ofNat t) (stN C (M.2.2 t).2.2.1).2.2.2.2.2.2.2.2.1 with
    | none => rw [lkM_1 w0 c e1]
    | some e =>
      cases e2 : evO (M.2.2 t).2.2.2.2.2.2.2 (Int32.ofNat t) (stN C (M.2.2 t).2.2.1).2.2.2.2.2.2.2.2.2 with
      | none => rw [lkM_2 w0 c e1 e2]
      | some f => rw [lkM_3 w0 c e1 e2]
  · rw [lkM_i w0 c] at h
    exact absurd h c
theorem lkI_in {C : gCo} {M : gMa} {t : Nat} {st : gNs} (hX : NXc C) (hst : C.1[(M.2.2 t).2.2.1]? = some st) (o4 : st.1 ≤ 4) (lb : (C.2.2.1.length : Int) < 2147483648) (h : (lkI C M t).1 = 0) : (lkI C M t).2.toNatClampNeg < C.2.2.1.length := by
  have es := stN_is hst
  obtain ⟨b1, b2, b3⟩ := (hX _ st hst).2.2.2.2.2 o4
  cases ei : st.2.2.2.2.2.2.2.1 with
  | none =>
    rw [lkI_n (by rw [es]; exact ei), es, t_cl]
    show st.2.2.2.2.1.toInt.toNat < _
    omega
  | some Q =>
    have b4 := b3 (by rw [ei]; exact fun z => nomatch z)
    have ei' : (stN C (M.2.2 t).2.2.1).2.2.2.2.2.2.2.1 = some Q := by rw [es]; exact ei
    cases ew : wkQ (M.2.2 t).2.2.2.2.2.2.2 (fun _ => 0) (Int32.ofNat t) Q with
    | none => rw [lkI_1 ei' ew] at h; exact absurd h (by decide)
    | some v =>
      by_cases cv : v < 0 ∨ (stN C (M.2.2 t).2.2.1).2.2.2.2.2.1 ≤ v
      · rw [lkI_2 ei' ew cv] at h; exact absurd h (by decide)
      · rw [lkI_0 ei' ew cv, t_cl]
        rw [es, t_lt, t_le, show (0 : Int32).toInt = 0 from rfl] at cv
        rw [es]
        show (st.2.2.2.2.1 + v).toInt.toNat < _
        rw [t_add (by omega) (by omega)]
        omega
theorem ef_9 {C : gCo} {M : gMa} {w t c : Nat} {e f : Int32} {wk : Option Nat} {q : Nat × Nat} (h : C.2.1[c]? = some q) : efM C w M t 9 c e f wk = (upT M c (thN C c (M.2.2 c) q.1 (M.2.2 c).2.2.2.2.2.2.2), 0) := by
  have a : efM C w M t 9 c e f wk = (match C.2.1[c]? with | some q => upT M c (thN C c (M.2.2 c) q.1 (M.2.2 c).2.2.2.2.2.2.2) | none => M, 0) := by unfold efM; rfl
  rw [a, h]
section DDA
variable {d : Nat} {S : gS} {x : gd} {F : Int32 → gd → gS → Prop} {Fv : gd → gS → Prop} {C : gCo} {M : gMa}
set_option maxHeartbeats 1000000 in
theorem ds_doAct3 (t w : Int32) (ht : vp_in t 6) (ri : RI x S) (h1 : x.1 73 t.toNatClampNeg = 1) (hw : ¬ x.1 77 t.toNatClampNeg = 1) (hK : MK x C) (hN : NC C) (hX : NXc C) (hM : MM1 x C M) (hW : WM M) {wa : Nat} (wy : x.1 0 68 = Int32.ofNat wa) (w01 : wa = 0 ∨ wa = 1) {wk : Option Nat} (hwk : (wk = none ∧ w = -1) ∨ ∃ o : Nat, wk = some o ∧ o < 6 ∧ w = Int32.ofNat o) (h : ∀ x' S', RI x' S' → ssub S S' → acS S' → acP (srt x t.toNatClampNeg) x' → MM1 x' C (acM C wa M t.toNatClampNeg wk) → Fv x' S') : MD (d + 4) z_doAct 0 [(0, vr 0), (1, vi t), (2, vi w)] [] S x (Dv Fv) := by
  have k0 : (0 : Int32).toInt = 0 := rfl
  have k1 : (1 : Int32).toInt = 1 := rfl
  have k8 : (8 : Int32).toInt = 8 := rfl
  have tv := vp_in_iff.mp ht
  obtain ⟨kv, kn, so', av⟩ := RI_step ri (vt ht) h1
  obtain ⟨s1, s2, s3⟩ := srt_of ri (vt ht) h1
  obtain ⟨T, eT⟩ : ∃ T, T = t.toNatClampNeg := ⟨_, rfl⟩
  have T6 : T < 6 := by rw [eT]; exact vt ht
  have tT : t = Int32.ofNat T := i32_of (by rw [eT, t_cl]; omega)
  have lk0 := fun (d' : Nat) (Fv' : gd → gS → Prop) => ds_look3 (d := d') (Fv := Fv') (M := M) (w := wa) t ht ri h1 hw hK hN hX hM wy w01
  rw [← eT] at kv kn av s1 s2 s3 h1 hw h lk0
  obtain ⟨k, ek⟩ : ∃ k, k = x.1 74 T := ⟨_, rfl⟩
  rw [← ek] at kv kn av s1 s2 s3
  obtain ⟨s, es⟩ : ∃ s, s = srt x T := ⟨_, rfl⟩
  rw [← es] at s1 s2 s3 h
  have kb := vp_in_iff.mp kv
  have j2' := ri.1.2.1.2.1
  obtain ⟨m73, l73, m75, m74, m77, l77, m78, m79, mlt, mlv⟩ := hM.2.2 T T6
  rw [← ek] at m74
  -- the step
  have l52 : (x.1 0 52).toInt = C.1.length := hK.1.1
  obtain ⟨K, eKd⟩ : ∃ K, K = (M.2.2 T).2.2.1 := ⟨_, rfl⟩
  rw [← eKd] at m74
  have kst : k.toNatClampNeg = K := by rw [t_cl, m74]; rfl
  obtain ⟨st, hst⟩ : ∃ st, C.1[K]? = some st := ⟨_, List.getElem?_eq_getElem (by omega)⟩
  have esN := stN_is hst
  obtain ⟨g54, g55, g56, g57, g58, g59, g60, -, -⟩ := hK.1.2 _ st hst
  have ns := hN.1 _ st hst
  rw [← kst] at g54 g55 g56
  have o16 : st.1 < 16 := by
    have a := ((ri.2 T T6).1.2.2 h1).2
    rw [← ek, g54] at a
    exact (mWh_i st.1 ns.1.1).1.mp a
  have g55 := g55 o16
  have sta1 : (M.2.2 T).1 = 1 := by
    have : Int32.ofNat (M.2.2 T).1 = 1 := by rw [← m73]; exact h1
    rcases (show (M.2.2 T).1 = 0 ∨ (M.2.2 T).1 = 1 ∨ (M.2.2 T).1 = 2 ∨ (M.2.2 T).1 = 3 by omega) with e | e | e | e <;> rw [e] at this ⊢ <;> first | rfl | exact absurd this (by decide)
  obtain ⟨b2, b1, b0⟩ := wai_2 _ (show (M.2.2 T).2.2.2.1 < 3 by omega)
  rw [← m77] at b2 b1 b0
  obtain ⟨o, eo⟩ : ∃ o, o = soM C (M.2.2 T) := ⟨_, rfl⟩
  have sO : s = Int32.ofNat o ∧ o < 16 ∧ (o = 15 → ¬ (M.2.2 T).2.2.2.1 = 0) ∧ (¬ o = 15 → (M.2.2 T).2.2.2.1 = 0 ∧ o = st.1) := by
    rw [eo, es]
    unfold soM srt
    rw [← eKd, esN]
    by_cases c2 : x.1 77 T = 2
    · rw [if_pos c2, if_neg (by have := b2.mp c2; omega)]
      exact ⟨rfl, by omega, fun _ => by have := b2.mp c2; omega, fun z => absurd rfl z⟩
    · have w0 : (M.2.2 T).2.2.2.1 = 0 := by
        have a1 : ¬ (M.2.2 T).2.2.2.1 = 2 := fun z => c2 (b2.mpr z)
        have a2 : ¬ (M.2.2 T).2.2.2.1 = 1 := fun z => hw (b1.mpr z)
        omega
      rw [if_neg c2, if_pos w0, ← ek]
      exact ⟨g55, o16, fun z => absurd z ns.1.2, fun _ => ⟨w0, rfl⟩⟩
  obtain ⟨sI, o15, oR, oN⟩ := sO
  have sE : ∀ n : Nat, n < 16 → (s = Int32.ofNat n ↔ o = n) := fun n hn => by
    rw [t_eq, sI, op_16 o o15, op_16 n hn]; omega
  have num0 : (M.2.2 T).2.1 = 0 := (hW T T6).1 (by rw [sta1]; decide)
  obtain ⟨L, eL⟩ : ∃ L, L = lkM C wa M T := ⟨_, rfl⟩
  have L9 : L.1 ≤ 9 := by rw [eL]; exact lkM_le
  let Y : gd → gS → Prop := fun y S1 => ssub S S1 ∧ acS S1 ∧ acP s y ∧ y.1 0 52 = x.1 0 52
  have go3 : ∀ (z : gd) (S2 : gS) (c v : Int32) (E : gMa), ¬ s = 9 → Y z S2 → RI z S2 → MK z C → MMc z E → (∀ t' : Nat, t' < 6 → mTq z C t' (E.2.2 t')) → (E.2.2 T).1 = 1 → (E.2.2 T).2.1 = 0 → (E.2.2 T).2.2.1 = K → (E.2.2 T).2.2.2.1 = 0 → (E.2.2 T).2.2.2.2.1 = 0 → (E.2.2 T).2.2.2.2.2.2.2 = (M.2.2 T).2.2.2.2.2.2.2 → L.1 = 0 → ¬ o = 7 → efM C wa M T o L.2.1.toNatClampNeg L.2.2.1 L.2.2.2 wk = (E, v) → MD (d + 4) z_doAct 667 [(0, vr 0), (1, vi t), (3, vi k), (4, vi s), (5, vi c), (6, vi v)] [] S2 z (Dv Fv) := by
    intro z S2 c v E n9 hy rz kz mc mT e0 e1 e2 e3 e4 e7 L0 n7 he
    obtain ⟨y1, y2, y3, y4⟩ := hy
    have ha := acM_is (wk := wk) (E := E) (v := v) (by rw [← eL]; exact L0) (by rw [← eo]; exact n7) (by rw [← eo, ← eL]; exact he)
    rw [← eKd, esN, ← e7] at ha
    refine ds_act667 t k c s v ht eT m74 rz.1 kz hN hX hst o16 (by rw [y4]; omega) mc (fun t' ht' _ => mT t' ht') (fun q => absurd q n9) e0 e1 e2 e3 e4 (fun q => absurd q n9) (fun t' ht' _ => rz.2 t' ht') (fun q => absurd q n9) (fun x' S' r ss m mm => h x' S' r (ssub_tr y1 ss) (acS_up ss y2) ?_ (by rw [ha]; exact mm))
    unfold acP
    rw [m.1 88 (by decide), m.1 89 (by decide)]
    exact y3
  refine sd_doAct_0 _ _ ⟨ht, ds_sortOf t ht (by rw [← eT, ← ek]; exact kv) ?_⟩
  rw [← eT, ← es, ← ek]
  refine lk0 d _ (fun x4 S4 m4 ss4 lk4 lp lq y5 e5 y6 e6 => ?_)
  unfold lkP at lp
  rw [← es, ← ek] at lp
  rw [← eL] at lq
  obtain ⟨lp1, lp2, lp3⟩ := lp
  have m5 := md_f x4 92 0
  rw [← e5] at m5
  have m6 := md_f y5 93 0
  rw [← e6] at m6
  have m46 : md [92, 93] [] x4 y6 := md_tr m5 m6 rfl rfl
  have m06 : md [82, 88, 89, 90, 91, 92, 93] [84] x y6 := md_tr m4 m46 rfl rfl
  have f88 : y6.1 0 88 = x4.1 0 88 := m46.1 88 (by decide)
  have f89 : y6.1 0 89 = x4.1 0 89 := m46.1 89 (by decide)
  obtain ⟨q89, q88, q9⟩ := lq
  rw [← f88] at lp1 lp2 lp3 q88
  rw [← f89] at lp3 q89
  rw [← m46.1 90 (by decide), ← m46.1 91 (by decide)] at q9
  have ss6 : ssub S4 (sadd (sadd S4 0 92) 0 93) := ssub_tr (ssub_ad _ _ _) (ssub_ad _ _ _)
  obtain ⟨S6, eS6⟩ : ∃ S6, S6 = sadd (sadd S4 0 92) 0 93 := ⟨_, rfl⟩
  have n92 : S6 0 92 := by rw [eS6]; exact Or.inr (Or.inl ⟨rfl, rfl⟩)
  have n93 : S6 0 93 := by rw [eS6]; exact Or.inl ⟨rfl, rfl⟩
  rw [← eS6] at ss6 ⊢
  have lk6 := lkS_up ss6 lk4
  have r6 : RI y6 S6 := RI_md m06 rfl rfl (ssub_tr ss4 ss6) ri
  have M6 : MM1 y6 C M := MM1_md m06 rfl hM
  have K6 : MK y6 C := MK_md m06 rfl rfl hK
  have mc6 : MMc y6 M := ⟨M6.1, M6.2.1⟩
  have ac6 : acP s y6 := fun q => ⟨(lp3 q).1, fun e9 => by
    have o := s2 (Or.inl (by rw [e9]; decide))
    rw [lp2 (Or.inl (by rw [e9]; decide))]
    exact ⟨o.1, o.2.1⟩⟩
  have g6 := fun q (h0 : q ≠ 0) hq => m06.2.1 q h0 hq
  have hy6 : Y y6 S6 := ⟨ssub_tr ss4 ss6, ⟨lk6.1, lk6.2.1, n92, n93⟩, ac6, m06.1 52 (by decide)⟩
  refine ⟨lk6.2.1, fun cf => ⟨lk6.1, ?_⟩, fun cf => ⟨lk6.2.1, ?_⟩⟩
  rotate_left
  · -- it fails
    have L0 : ¬ L.1 = 0 := fun z => cf (by rw [q89, z]; decide)
    have w0 : (M.2.2 T).2.2.2.1 = 0 := Classical.byContradiction (fun n0 => L0 (by rw [eL, lkM_15 n0]))
    have ha := acM_F (wk := wk) (by rw [← eL]; exact L0)
    rw [← eL] at ha
    refine ds_actF (d := d + 2) t _ ht eT r6 K6 hN M6 hW (by rw [g6 73 (by decide) (by decide)]; exact h1) w0 q89 (fun u S1 ru su mu mm => Dv_i (h u S1 ru (ssub_tr hy6.1 su) (acS_up su hy6.2.1) ?_ (by rw [ha]; exact mm)))
    unfold acP
    rw [mu.1 88 (by decide), mu.1 89 (by decide)]
    exact ac6
  -- it does not fail
  rw [t_le, k0] at cf
  have L0 : L.1 = 0 := by
    rw [q89, op_16 _ (by omega)] at cf
    omega
  obtain ⟨q90, q91⟩ := q9 L0
  obtain ⟨c, ec⟩ : ∃ c, c = y6.1 0 88 := ⟨_, rfl⟩
  rw [← ec] at lp2 lp3 q88 ⊢
  obtain ⟨lpa, lp9, lpw⟩ := lp3 cf
  have c24 : 0 ≤ s.toInt ∧ s.toInt ≤ 4 → vp_in c 24 := fun q => by rw [vp_in_iff]; exact lpa q
  have c6 : (5 ≤ s.toInt ∧ s.toInt ≤ 10) ∨ s = 15 → vp_in c 6 := fun q => by
    have o := s2 q
    rw [lp2 q, vp_in_iff]; omega
  -- what leaves the threads alone
  have easy : ∀ (n : Nat), o = n → ¬ n = 9 → ¬ n = 15 → ¬ n = 7 → ∀ (z : gd) (S2 : gS) (v : Int32) (E : gMa), md [82, 90, 91, 92, 93] [70, 71, 72, 84] y6 z → ssub S6 S2 → MMc z E → E.2.2 = M.2.2 → efM C wa M T n L.2.1.toNatClampNeg L.2.2.1 L.2.2.2 wk = (E, v) → MD (d + 4) z_doAct 667 [(0, vr 0), (1, vi t), (3, vi k), (4, vi s), (5, vi c), (6, vi v)] [] S2 z (Dv Fv) := by
    intro n en n9 n15 n7 z S2 v E m ss mc hE he
    have w0 := (oN (by omega)).1
    refine go3 z S2 c v E (fun q => n9 (by have := (sE 9 (by omega)).mp q; omega)) ⟨ssub_tr hy6.1 ss, acS_up ss hy6.2.1, by unfold acP; rw [m.1 88 (by decide), m.1 89 (by decide)]; exact ac6, by rw [m.1 52 (by decide)]; exact hy6.2.2.2⟩ (RI_md m rfl rfl ss r6) (MK_md m rfl rfl K6) mc (fun t' ht' => by rw [hE]; exact mTq_md m rfl (M6.2.2 t' ht')) (by rw [hE]; exact sta1) (by rw [hE]; exact num0) (by rw [hE]; exact eKd.symm) (by rw [hE]; exact w0) (by rw [hE]; exact (hW T T6).2.1 w0) (by rw [hE]) L0 (by omega) (by rw [en]; exact he)
  refine ⟨fun e => ?_, fun e => ⟨lk6.2.2.1, fun z16 e16 => ?_⟩, fun e => ?_, fun e => ?_, fun e => ?_, fun e => ?_, fun e => ?_, fun e => ?_, fun e => ?_, fun e => ?_, fun e => ?_, fun no => ?_⟩
  · -- read
    have cv := c24 (by rw [e]; decide)
    refine ds_see3 t c ht cv (by rw [← eT]; exact (r6.2 T T6).2.2) (l := (M.2.2 T).2.2.2.2.2.2.1) (by rw [← eT]; exact (M6.2.2 T T6).2.2.2.2.2.2.2.2.1) (fun z ez => ?_)
    have ev : seL (M.2.2 T).2.2.2.2.2.2.1 c.toNatClampNeg (y6.1 70 c.toNatClampNeg) = seM M T L.2.1.toNatClampNeg := by
      rw [mc6.1 _ (vp_lt cv), q88]; rfl
    rw [ev] at ez ⊢
    have mz := md_f y6 92 (seM M T L.2.1.toNatClampNeg)
    rw [← ez] at mz
    exact easy 0 ((sE 0 (by omega)).mp e) (by decide) (by decide) (by decide) z _ _ M (md_w mz (by decide) (by decide)) (ssub_ad _ _ _) (MMc_eq mc6 (mz.2.1 70 (by decide) (by decide)) (mz.2.1 71 (by decide) (by decide)) (mz.2.1 72 (by decide) (by decide))) rfl ef_0
  · -- write
    have cv := c24 (by rw [e]; decide)
    have cr' := lpa (by rw [e]; decide)
    have o1 := (sE 1 (by omega)).mp e
    obtain ⟨w0, os⟩ := oN (by omega)
    have hq6 := M6.2.2 T T6
    have m16 := md_f y6 93 (y6.1 0 90)
    rw [← e16] at m16
    have h68 : z16.1 0 68 = Int32.ofNat wa := by rw [m16.1 68 (by decide), m06.1 68 (by decide)]; exact wy
    have h37 : z16.1 37 = x.1 37 := by rw [m16.2.1 37 (by decide) (by decide), g6 37 (by decide) (by decide)]
    have h80 : z16.1 80 = x.1 80 := by rw [m16.2.1 80 (by decide) (by decide), g6 80 (by decide) (by decide)]
    have e90 : z16.1 0 90 = L.2.2.1 := by rw [m16.1 90 (by decide)]; exact q90
    have cl : c.toNatClampNeg < C.2.2.1.length := by
      obtain ⟨p1, p2⟩ := lkM_pl (C := C) (w := wa) w0 (by rw [← eL]; exact L0)
      rw [← eL] at p2
      rw [q88, p2]
      refine lkI_in hX (st := st) (by rw [← eKd]; exact hst) (by omega) ?_ p1
      have l23 : (x.1 0 23).toInt = C.2.2.1.length := hK.2.2.1.1
      have := Int32.toInt_lt (x.1 0 23)
      omega
    have su : x.1 37 c.toNatClampNeg = if suM C c.toNatClampNeg = true then 1 else 0 := by
      obtain ⟨q, hq⟩ : ∃ q, C.2.2.1[c.toNatClampNeg]? = some q := ⟨_, List.getElem?_eq_getElem cl⟩
      rw [(hK.2.2.1.2 _ q hq).2]
      unfold suM
      rw [hq]
    have put : (wa = 0 ∨ suM C c.toNatClampNeg = true) → ∀ z : gd, z = si z16 70 c.toNatClampNeg (z16.1 0 90) → MD (d + 4) z_doAct 667 [(0, vr 0), (1, vi t), (3, vi k), (4, vi s), (5, vi c), (6, vi 0)] [] (sadd S6 0 93) z (Dv Fv) := fun hs z ez => by
      rw [e90] at ez
      have mz := md_a z16 70 c.toNatClampNeg L.2.2.1 (by decide)
      rw [← ez] at mz
      have mm : md [82, 90, 91, 92, 93] [70, 71, 72, 84] y6 z := md_w (md_tr (L3 := [93]) (A3 := [70]) m16 mz rfl rfl) (by decide) (by decide)
      exact easy 1 o1 (by decide) (by decide) (by decide) z _ 0 (upC M c.toNatClampNeg L.2.2.1) mm (ssub_ad _ _ _) (MMc_C mc6 (fun j => by rw [ez, si_at rfl, m16.2.1 70 (by decide) (by decide)]) (by rw [mz.2.1 71 (by decide) (by decide), m16.2.1 71 (by decide) (by decide)]) (by rw [mz.2.1 72 (by decide) (by decide), m16.2.1 72 (by decide) (by decide)])) rfl (by rw [← q88, ef_1, if_pos hs])
    rw [h68, h37, h80]
    refine ⟨fun c0 => ⟨Or.inr lk6.2.2.1, cv, put (Or.inl (w01.resolve_right (fun z => by rw [z] at c0; exact absurd c0 (by decide))))⟩, fun nw => ⟨cv, fun ns9 => ⟨ht, ?_⟩, fun n0 => ⟨Or.inr lk6.2.2.1, cv, put (Or.inr (Classical.byContradiction (fun z => n0 (by rw [su, if_neg z]))))⟩⟩⟩
    have w1 : wa = 1 := w01.resolve_left (fun z => nw (by rw [z]; rfl))
    have su0 : ¬ (wa = 0 ∨ suM C c.toNatClampNeg = true) := fun z => z.elim (fun z => by omega) (fun z => by rw [su, if_pos z] at ns9; exact absurd ns9 (by decide))
    have n8 := lpw e (by rw [wy, w1]; rfl) ns9
    obtain ⟨N, eN⟩ : ∃ N, N = x.1 80 T := ⟨_, rfl⟩
    have rlx := (ri.2 T T6).2.2
    have N0 := rlx.1
    have N8 := rlx.2.1
    obtain ⟨ll1, ll2⟩ := hq6.2.2.2.2.2.2.2.2.1
    rw [g6 80 (by decide) (by decide), ← eN] at ll1
    rw [← eN] at N0 N8 n8 ⊢
    have Nl : N.toInt < 8 := by
      rw [t_eq, k8] at n8
      omega
    obtain ⟨iv, ie⟩ := t10 ht (i := N) N0 (by omega)
    rw [← eT, show N.toNatClampNeg = (M.2.2 T).2.2.2.2.2.2.1.length by rw [t_cl, ll1]; rfl] at ie
    refine ⟨iv, fun z25 e25 => ⟨ht, ?_⟩⟩
    have i80 : z25.1 80 T = N := by rw [e25, si_cell (by decide), h80, eN]
    rw [i80]
    refine ⟨Or.inr (Or.inr lk6.2.2.1), iv, fun z29 e29 => ⟨ht, ht, fun z32 e32 => ?_⟩⟩
    have j80 : z29.1 80 T = N := by rw [e29, si_cell (by decide), i80]
    rw [j80] at e32
    have z25e : z25.1 0 90 = L.2.2.1 := by rw [e25, si_cell (by decide)]; exact e90
    rw [z25e] at e29
    have a2 : RI z16 (sadd S6 0 93) := RI_md (md_w m16 (L2 := [82, 90, 91, 92, 93]) (A2 := [70, 71, 72, 75, 76, 78, 79, 84]) (by decide) (by decide)) rfl rfl (ssub_ad _ _ _) r6
    have m25 := md_a z16 81 (10 * t + N).toNatClampNeg c (by decide)
    rw [← e25] at m25
    have m29 := md_a z25 82 (10 * t + N).toNatClampNeg L.2.2.1 (by decide)
    rw [← e29] at m29
    have m32 := md_a z29 80 T (N + 1) (by decide)
    rw [← e32] at m32
    have mm : md [] [80, 81, 82] z16 z32 := md_tr (md_tr (L3 := []) (A3 := [81, 82]) m25 m29 rfl rfl) m32 rfl rfl
    have my : md [93] [80, 81, 82] y6 z32 := md_tr m16 mm rfl rfl
    have f := fun q (h0 : q ≠ 0) hq => my.2.1 q h0 hq
    obtain ⟨S9, eS9⟩ : ∃ S9, S9 = sadd (sadd (sadd S6 0 93) 81 (10 * t + N).toNatClampNeg) 82 (10 * t + N).toNatClampNeg := ⟨_, rfl⟩
    rw [← eS9]
    have ss9 : ssub (sadd S6 0 93) S9 := by rw [eS9]; exact ssub_tr (ssub_ad _ _ _) (ssub_ad _ _ _)
    have gm := fun q (h0 : q ≠ 0) hq => mm.2.1 q h0 hq
    have Ni : (N + 1).toInt = N.toInt + 1 := by rw [t_add (by omega) (by omega), k1]
    have r32 : RI z32 S9 := by
      refine ⟨CP_md mm rfl rfl a2.1, fun t' ht' => ?_⟩
      obtain ⟨q1, q2, q3⟩ := a2.2 t' ht'
      refine ⟨?_, ?_, ?_⟩
      · unfold ra
        rw [gm 73 (by decide) (by decide), gm 74 (by decide) (by decide), gm 54 (by decide) (by decide), mm.1 52 (by decide)]
        exact q1
      · unfold rw'
        rw [gm 73 (by decide) (by decide), gm 74 (by decide) (by decide), gm 55 (by decide) (by decide), gm 77 (by decide) (by decide)]
        exact q2
      · have q4 := rl_81 q3 e25 cr'.1 cr'.2
        have ent : ∀ kk : Nat, (kk : Int) < (z16.1 80 t').toInt → S9 81 (10 * t' + kk) ∧ S9 82 (10 * t' + kk) ∧ 0 ≤ (z32.1 81 (10 * t' + kk)).toInt ∧ (z32.1 81 (10 * t' + kk)).toInt < 24 := by
          intro kk hk
          have z80 : z25.1 80 t' = z16.1 80 t' := by rw [e25, si_cell (by decide)]
          obtain ⟨b1, b2, b3⟩ := q4.2.2 kk (by rw [z80]; exact hk)
          have z81 : z32.1 81 = z25.1 81 := by rw [e32, si_cell (by decide), e29, si_cell (by decide)]
          rw [z81, eS9]
          exact ⟨Or.inr b1, Or.inr b2, b3⟩
        by_cases q : t' = T
        · have z80 : z32.1 80 t' = N + 1 := by rw [q, e32, si_get, if_pos ⟨rfl, rfl⟩]
          refine ⟨by rw [z80]; omega, by rw [z80]; omega, fun kk hk => ?_⟩
          rw [z80, Ni] at hk
          have b80 : z16.1 80 t' = N := by rw [h80, q, eN]
          by_cases q9 : (kk : Int) < N.toInt
          · exact ent kk (by rw [b80]; exact q9)
          · have ek9 : 10 * t' + kk = (10 * t + N).toNatClampNeg := by
              rw [ie, q]; omega
            have z81 : z32.1 81 (10 * t' + kk) = c := by rw [e32, si_cell (by decide), e29, si_cell (by decide), e25, si_get, if_pos ⟨rfl, ek9⟩]
            rw [z81, eS9]
            exact ⟨Or.inr (Or.inl ⟨rfl, ek9⟩), Or.inl ⟨rfl, ek9⟩, cr'⟩
        · have z80 : z32.1 80 t' = z16.1 80 t' := by rw [e32, si_ne 80 t' q, e29, si_cell (by decide), e25, si_cell (by decide)]
          unfold rl
          rw [z80]
          exact ⟨q3.1, q3.2.1, ent⟩
    have mlx : ∀ t' : Nat, t' < 6 → ¬ t' = T → ∀ j q, (M.2.2 t').2.2.2.2.2.2.1[j]? = some q → z32.1 81 (10 * t' + j) = y6.1 81 (10 * t' + j) ∧ z32.1 82 (10 * t' + j) = y6.1 82 (10 * t' + j) := fun t' ht' ne j q hj => by
      have b := (M6.2.2 t' ht').2.2.2.2.2.2.2.2.1.1
      have b8 := (r6.2 t' ht').2.2.2.1
      have := gt_lt hj
      have b9 : 10 * t' + j ≠ (10 * t + N).toNatClampNeg := by rw [ie]; omega
      rw [e32, si_cell (by decide), si_cell (by decide), e29, si_cell (by decide), si_ne 82 _ b9, e25, si_ne 81 _ b9, si_cell (by decide), m16.2.1 81 (by decide) (by decide), m16.2.1 82 (by decide) (by decide)]
      exact ⟨rfl, rfl⟩
    refine go3 z32 S9 c 0 (upT M T ((M.2.2 T).1, (M.2.2 T).2.1, (M.2.2 T).2.2.1, (M.2.2 T).2.2.2.1, (M.2.2 T).2.2.2.2.1, (M.2.2 T).2.2.2.2.2.1, (M.2.2 T).2.2.2.2.2.2.1 ++ [(c.toNatClampNeg, L.2.2.1)], (M.2.2 T).2.2.2.2.2.2.2)) (fun q => by have := (sE 9 (by omega)).mp q; omega) ⟨ssub_tr hy6.1 (ssub_tr (ssub_ad _ _ _) ss9), acS_up ss9 (acS_up (ssub_ad _ _ _) hy6.2.1), by unfold acP; rw [my.1 88 (by decide), my.1 89 (by decide)]; exact ac6, by rw [my.1 52 (by decide)]; exact hy6.2.2.2⟩ r32 (MK_md my rfl rfl K6) (MMc_eq mc6 (f 70 (by decide) (by decide)) (f 71 (by decide) (by decide)) (f 72 (by decide) (by decide))) (fun t' ht' => ?_) (by show (upf M.2.2 T _ T).1 = 1; rw [upf_eq]; exact sta1) (by show (upf M.2.2 T _ T).2.1 = 0; rw [upf_eq]; exact num0) (by show (upf M.2.2 T _ T).2.2.1 = K; rw [upf_eq]; exact eKd.symm) (by show (upf M.2.2 T _ T).2.2.2.1 = 0; rw [upf_eq]; exact w0) (by show (upf M.2.2 T _ T).2.2.2.2.1 = 0; rw [upf_eq]; exact (hW T T6).2.1 w0) (by show (upf M.2.2 T _ T).2.2.2.2.2.2.2 = _; rw [upf_eq]) L0 (by omega) (by rw [o1, ← q88, ef_1, if_neg su0])
    show mTq z32 C t' (upf M.2.2 T _ t')
    have pre : ∀ hh : gTq, mTq y6 C t' (M.2.2 t') → mLt z32 t' hh.2.2.2.2.2.2.1 → (hh.1, hh.2.1, hh.2.2.1, hh.2.2.2.1, hh.2.2.2.2.1, hh.2.2.2.2.2.1, (M.2.2 t').2.2.2.2.2.2.1, hh.2.2.2.2.2.2.2) = M.2.2 t' → mTq z32 C t' hh := fun hh q ql eh => by
      rw [← eh] at q
      obtain ⟨a1, a2, a3, a4, a5, a6, a7, a8, -, b1⟩ := q
      refine ⟨by rw [f 73 (by decide) (by decide)]; exact a1, a2, by rw [f 75 (by decide) (by decide)]; exact a3, by rw [f 74 (by decide) (by decide)]; exact a4, by rw [f 77 (by decide) (by decide)]; exact a5, a6, by rw [f 78 (by decide) (by decide)]; exact a7, by rw [f 79 (by decide) (by decide)]; exact a8, ql, ?_⟩
      unfold mLv at b1 ⊢
      rw [f 76 (by decide) (by decide)]; exact b1
    by_cases q : t' = T
    · rw [q, upf_eq]
      rw [q] at pre
      refine pre _ hq6 ⟨?_, fun j qq hj => ?_⟩ rfl
      · show (z32.1 80 T).toInt = (((M.2.2 T).2.2.2.2.2.2.1 ++ [(c.toNatClampNeg, L.2.2.1)]).length : Nat)
        rw [e32, si_get, if_pos ⟨rfl, rfl⟩, Ni, ll1, List.length_append]
        rfl
      · have hj : ((M.2.2 T).2.2.2.2.2.2.1 ++ [(c.toNatClampNeg, L.2.2.1)])[j]? = some qq := hj
        have e81 : z32.1 81 (10 * T + j) = if 10 * T + j = (10 * t + N).toNatClampNeg then c else y6.1 81 (10 * T + j) := by rw [e32, si_cell (by decide), e29, si_cell (by decide), e25, si_at rfl, m16.2.1 81 (by decide) (by decide)]
        have e82 : z32.1 82 (10 * T + j) = if 10 * T + j = (10 * t + N).toNatClampNeg then L.2.2.1 else y6.1 82 (10 * T + j) := by rw [e32, si_cell (by decide), e29, si_at rfl, e25, si_cell (by decide), m16.2.1 82 (by decide) (by decide)]
        rw [e81, e82, ie]
        by_cases cj : j < (M.2.2 T).2.2.2.2.2.2.1.length
        · rw [List.getElem?_append_left cj] at hj
          rw [if_neg (by omega), if_neg (by omega)]
          exact ll2 j qq hj
        · rw [List.getElem?_append_right (by omega)] at hj
          have jl := gt_lt hj
          have jl : j - (M.2.2 T).2.2.2.2.2.2.1.length < 1 := jl
          have j0 : j - (M.2.2 T).2.2.2.2.2.2.1.length = 0 := by omega
          rw [j0] at hj
          have hj := Option.some.inj hj
          rw [if_pos (by omega), if_pos (by omega), ← hj]
          exact ⟨i32_of (by show c.toInt = (c.toNatClampNeg : Nat); rw [t_cl]; omega), rfl, by show c.toNatClampNeg < 24; rw [t_cl]; omega⟩
    · rw [upf_ne q]
      refine pre _ (M6.2.2 t' ht') ⟨?_, fun j qq hj => ?_⟩ rfl
      · rw [e32, si_ne 80 t' q, e29, si_cell (by decide), e25, si_cell (by decide), m16.2.1 80 (by decide) (by decide)]
        exact (M6.2.2 t' ht').2.2.2.2.2.2.2.2.1.1
      · obtain ⟨c1, c2⟩ := mlx t' ht' q j qq hj
        rw [c1, c2]
        exact (M6.2.2 t' ht').2.2.2.2.2.2.2.2.1.2 j qq hj
  · -- swap, add, cas
    have s24 : 0 ≤ s.toInt ∧ s.toInt ≤ 4 := by rcases e with e | e | e <;> (rw [e]; decide)
    have oo : o = 2 ∨ o = 3 ∨ o = 4 := e.imp (sE 2 (by omega)).mp (Or.imp (sE 3 (by omega)).mp (sE 4 (by omega)).mp)
    have cv := c24 s24
    refine ⟨cv, fun z38 e38 => ⟨cv, Or.inr lk6.2.2.1, ?_⟩⟩
    have m38 := md_f y6 92 (y6.1 70 c.toNatClampNeg)
    rw [← e38] at m38
    have c70 : z38.1 70 c.toNatClampNeg = M.1 c.toNatClampNeg := by rw [m38.2.1 70 (by decide) (by decide)]; exact mc6.1 _ (vp_lt cv)
    have e90 : z38.1 0 90 = L.2.2.1 := by rw [m38.1 90 (by decide)]; exact q90
    have e91 : z38.1 0 91 = L.2.2.2 := by rw [m38.1 91 (by decide)]; exact q91
    have fin : ∀ (u v : Int32) (z z2 : gd), z = si z38 70 c.toNatClampNeg u → z2 = si z 0 93 (z.1 70 c.toNatClampNeg) → efM C wa M T o c.toNatClampNeg L.2.2.1 L.2.2.2 wk = (upC M c.toNatClampNeg u, v) → MD (d + 4) z_doAct 667 [(0, vr 0), (1, vi t), (3, vi k), (4, vi s), (5, vi c), (6, vi v)] [] (sadd (sadd S6 0 92) 0 93) z2 (Dv Fv) := by
      intro u v z z2 ez ez2 he
      have mz := md_a z38 70 c.toNatClampNeg u (by decide)
      rw [← ez] at mz
      have mz2 := md_f z 93 (z.1 70 c.toNatClampNeg)
      rw [← ez2] at mz2
      have mm : md [82, 90, 91, 92, 93] [70, 71, 72, 84] y6 z2 := md_w (md_tr (L3 := [92, 93]) (A3 := [70]) m38 (md_tr (L3 := [93]) (A3 := [70]) mz mz2 rfl rfl) rfl rfl) (by decide) (by decide)
      exact easy o rfl (by omega) (by omega) (by omega) z2 _ v (upC M c.toNatClampNeg u) mm (ssub_tr (ssub_ad _ _ _) (ssub_ad _ _ _)) (MMc_C mc6 (fun j => by rw [mz2.2.1 70 (by decide) (by decide), ez, si_at rfl, m38.2.1 70 (by decide) (by decide)]) (by rw [mz2.2.1 71 (by decide) (by decide), mz.2.1 71 (by decide) (by decide), m38.2.1 71 (by decide) (by decide)]) (by rw [mz2.2.1 72 (by decide) (by decide), mz.2.1 72 (by decide) (by decide), m38.2.1 72 (by decide) (by decide)])) rfl (by rw [← q88]; exact he)
    have p301 : ∀ (b v : Int32), ((b = 0 ∧ ¬ M.1 c.toNatClampNeg = L.2.2.1) ∨ (b = 1 ∧ M.1 c.toNatClampNeg = L.2.2.1)) → (¬ o = 4 → v = M.1 c.toNatClampNeg) → (o = 4 → v = if M.1 c.toNatClampNeg = L.2.2.1 then 1 else 0) → MD (d + 4) z_doAct 301 [(0, vr 0), (1, vi t), (3, vi k), (4, vi s), (5, vi c), (7, vi b)] [vi v] (sadd S6 0 92) z38 (Dv Fv) := by
      intro b v hb v1 v4
      refine sd_doAct_301 _ _ _ _ _ _ ⟨fun n2 => ⟨fun n3 => ⟨fun b0 => ⟨cv, cv, fun z ez => ⟨cv, fun z2 ez2 => fin (M.1 c.toNatClampNeg) v z z2 (by rw [ez, c70]) ez2 ?_⟩⟩, fun nb => ⟨Or.inr lk6.2.2.2, cv, fun z ez => ⟨cv, fun z2 ez2 => fin L.2.2.2 v z z2 (by rw [ez, e91]) ez2 ?_⟩⟩⟩, fun e3 => ⟨cv, Or.inr lk6.2.2.1, cv, fun z ez => ⟨cv, fun z2 ez2 => fin (M.1 c.toNatClampNeg + L.2.2.1) v z z2 (by rw [ez, c70, e90]) ez2 ?_⟩⟩⟩, fun e2 => ⟨Or.inr lk6.2.2.1, cv, fun z ez => ⟨cv, fun z2 ez2 => fin L.2.2.1 v z z2 (by rw [ez, e90]) ez2 ?_⟩⟩⟩
      · have o4 : o = 4 := (oo.resolve_left (fun q => n2 ((sE 2 (by omega)).mpr q))).resolve_left (fun q => n3 ((sE 3 (by omega)).mpr q))
        have ne : ¬ M.1 c.toNatClampNeg = L.2.2.1 := hb.elim (fun q => q.2) (fun q => absurd (q.1.symm.trans b0) (by decide))
        have v4 := v4 o4
        rw [if_neg ne] at v4
        rw [o4, ef_4, if_neg ne, if_neg ne, v4]
      · have o4 : o = 4 := (oo.resolve_left (fun q => n2 ((sE 2 (by omega)).mpr q))).resolve_left (fun q => n3 ((sE 3 (by omega)).mpr q))
        have ye : M.1 c.toNatClampNeg = L.2.2.1 := hb.elim (fun q => absurd q.1 nb) (fun q => q.2)
        have v4 := v4 o4
        rw [if_pos ye] at v4
        rw [o4, ef_4, if_pos ye, if_pos ye, v4]
      · have o3 := (sE 3 (by omega)).mp e3
        rw [v1 (by omega), o3, ef_3]
      · have o2 := (sE 2 (by omega)).mp e2
        rw [v1 (by omega), o2, ef_2]
    have p278 : ∀ b : Int32, ((b = 0 ∧ ¬ M.1 c.toNatClampNeg = L.2.2.1) ∨ (b = 1 ∧ M.1 c.toNatClampNeg = L.2.2.1)) → MD (d + 4) z_doAct 278 [(0, vr 0), (1, vi t), (3, vi k), (4, vi s), (5, vi c)] [vi b] (sadd S6 0 92) z38 (Dv Fv) := fun b hb => sd_doAct_278 _ _ _ _ _ ⟨fun n4 => ⟨cv, p301 b _ hb (fun _ => c70) (fun q => absurd ((sE 4 (by omega)).mpr q) n4)⟩, fun e4 => ds_one3 _ (p301 b _ hb (fun q => absurd ((sE 4 (by omega)).mp e4) q) (fun _ => by
      rcases hb with ⟨h1, h2⟩ | ⟨h1, h2⟩
      · rw [if_pos h1, if_neg h2]
      · rw [if_neg (by rw [h1]; decide), if_pos h2]))⟩
    rw [c70, e90]
    exact ⟨fun ne => p278 0 (Or.inl ⟨rfl, ne⟩), fun ye => p278 1 (Or.inr ⟨rfl, ye⟩)⟩
  · -- take
    have cv := c6 (Or.inl (by rw [e]; decide))
    refine ⟨cv, fun z ez => ⟨cv, cv, fun z2 ez2 => ?_⟩⟩
    have mz := md_a y6 71 c.toNatClampNeg t (by decide)
    rw [← ez] at mz
    have mz2 := md_a z 72 c.toNatClampNeg (z.1 72 c.toNatClampNeg + 1) (by decide)
    rw [← ez2] at mz2
    have z72 : z.1 72 = y6.1 72 := mz.2.1 72 (by decide) (by decide)
    have h72 := (mc6.2 _ (vp_lt cv)).2.2
    refine easy 5 ((sE 5 (by omega)).mp e) (by decide) (by decide) (by decide) z2 _ 0 (upL M c.toNatClampNeg (T + 1, (M.2.1 c.toNatClampNeg).2 + 1)) (md_tr mz mz2 rfl rfl) (ssub_rf _) (MMc_L mc6 (by rw [mz2.2.1 70 (by decide) (by decide), mz.2.1 70 (by decide) (by decide)]) (a := t) (fun j => by rw [mz2.2.1 71 (by decide) (by decide), ez, si_at rfl]) (fun j => by rw [ez2, si_at rfl, z72, h72]) ?_ (by omega)) rfl (by rw [← q88]; exact ef_5)
    rw [tT]
    exact ((hol_t (T + 1) (by omega) T T6).mpr rfl).symm
  · -- taken again
    have cv := c6 (Or.inr e)
    have oo := (sE 15 (by omega)).mp e
    have hq6 := M6.2.2 T T6
    refine ⟨cv, fun z ez => ⟨ht, cv, fun z2 ez2 => ⟨ht, fun z3 ez3 => ⟨ht, fun z4 ez4 => ?_⟩⟩⟩⟩
    skip
    have mz := md_a y6 71 c.toNatClampNeg t (by decide)
    rw [← ez] at mz
    have mz2 := md_a z 72 c.toNatClampNeg (z.1 78 T) (by decide)
    rw [← ez2] at mz2
    have ma : md [] [71, 72] y6 z2 := md_tr mz mz2 rfl rfl
    have a2 : RI z2 S6 := RI_md (md_w ma (L2 := [82, 90, 91, 92, 93]) (A2 := [70, 71, 72, 75, 76, 78, 79, 84]) (by decide) (by decide)) rfl rfl (ssub_rf _) r6
    have t24 : th3 T z2 z4 := th3_tr (y := z3) (by rw [ez3]; exact th3_si (by decide) _ _) (by rw [ez4]; exact th3_si (by decide) _ _)
    have mb : md [] [77, 78] z2 z4 := by
      have b3 := md_a z2 77 T 0 (by decide)
      rw [← ez3] at b3
      have b4 := md_a z3 78 T 0 (by decide)
      rw [← ez4] at b4
      exact md_tr b3 b4 rfl rfl
    have mm : md [] [71, 72, 77, 78] y6 z4 := md_tr ma mb rfl rfl
    have f := fun q (h0 : q ≠ 0) hq => mm.2.1 q h0 hq
    have w4 : z4.1 77 T = 0 := by rw [ez4, si_cell (by decide), ez3, si_get, if_pos ⟨rfl, rfl⟩]
    have w8 : z4.1 78 T = 0 := by rw [ez4, si_get, if_pos ⟨rfl, rfl⟩]
    have h78 : z.1 78 T = (M.2.2 T).2.2.2.2.1 := by rw [mz.2.1 78 (by decide) (by decide)]; exact hq6.2.2.2.2.2.2.1
    have c73 : z4.1 73 = z2.1 73 := mb.2.1 73 (by decide) (by decide)
    have c74 : z4.1 74 = z2.1 74 := mb.2.1 74 (by decide) (by decide)
    refine go3 z4 S6 c 0 (upT (upL M c.toNatClampNeg (T + 1, (M.2.2 T).2.2.2.2.1)) T ((M.2.2 T).1, (M.2.2 T).2.1, (M.2.2 T).2.2.1, 0, 0, (M.2.2 T).2.2.2.2.2)) (fun q => by have := (sE 9 (by omega)).mp q; omega) ⟨hy6.1, hy6.2.1, by unfold acP; rw [mm.1 88 (by decide), mm.1 89 (by decide)]; exact ac6, by rw [mm.1 52 (by decide)]; exact hy6.2.2.2⟩ ⟨CP_th (th3_th t24) a2.1, fun t' ht' => ?_⟩ (MK_md mm rfl rfl K6) ?_ (fun t' ht' => ?_) (by show (upf M.2.2 T _ T).1 = 1; rw [upf_eq]; exact sta1) (by show (upf M.2.2 T _ T).2.1 = 0; rw [upf_eq]; exact num0) (by show (upf M.2.2 T _ T).2.2.1 = K; rw [upf_eq]; exact eKd.symm) (by show (upf M.2.2 T _ T).2.2.2.1 = 0; rw [upf_eq]) (by show (upf M.2.2 T _ T).2.2.2.2.1 = 0; rw [upf_eq]) (by show (upf M.2.2 T _ T).2.2.2.2.2.2.2 = _; rw [upf_eq]) L0 (by omega) (by rw [oo, ← q88]; exact ef_15)
    · by_cases q : t' = T
      · rw [q]
        obtain ⟨q1, q2, q3⟩ := a2.2 T T6
        refine ⟨?_, Or.inl w4, rl_th (th3_th t24) (ssub_rf _) q3⟩
        unfold ra
        rw [c73, c74, t24.1.1 52 (by decide), t24.1.2.1 54 (by decide) (by decide)]
        exact q1
      · exact rT_th (th3_th t24) (ssub_rf _) q (a2.2 t' ht')
    · have q := MMc_L (M := M) (z := z4) (c := c.toNatClampNeg) (n := T + 1) (a := t) (b := (M.2.2 T).2.2.2.2.1) mc6 (f 70 (by decide) (by decide)) (fun j => by rw [mb.2.1 71 (by decide) (by decide), mz2.2.1 71 (by decide) (by decide), ez, si_at rfl]) (fun j => by rw [mb.2.1 72 (by decide) (by decide), ez2, si_at rfl, h78, mz.2.1 72 (by decide) (by decide)]) (by rw [tT]; exact ((hol_t (T + 1) (by omega) T T6).mpr rfl).symm) (by omega)
      exact q
    · show mTq z4 C t' (upf M.2.2 T _ t')
      by_cases q : t' = T
      · rw [q, upf_eq]
        exact mTq_w hq6 (fun c9 h9 => by rw [f c9 (by omega) (by simp; omega)]) (f 76 (by decide) (by decide)) (f 81 (by decide) (by decide)) (f 82 (by decide) (by decide)) w4 (by omega) w8 (by rw [f 79 (by decide) (by decide)]; exact hq6.2.2.2.2.2.2.2.1)
      · rw [upf_ne q]
        exact mTq_th hN t24 q (mTq_md ma rfl (M6.2.2 t' ht'))
  · -- give
    have cv := c6 (Or.inl (by rw [e]; decide))
    have h72 := (mc6.2 _ (vp_lt cv)).2.2
    refine ⟨cv, cv, fun z ez => ⟨cv, fun n0 => ⟨cv, fun z2 ez2 => ?_⟩, fun e0 => ⟨cv, fun z2 ez2 => ?_⟩⟩⟩
    · have mz := md_a y6 72 c.toNatClampNeg (y6.1 72 c.toNatClampNeg - 1) (by decide)
      rw [← ez] at mz
      have mz2 := md_a z 71 c.toNatClampNeg t (by decide)
      rw [← ez2] at mz2
      have z71 : z.1 71 = y6.1 71 := mz.2.1 71 (by decide) (by decide)
      rw [ez, si_get, if_pos ⟨rfl, rfl⟩, h72] at n0
      have he := ef_6 (C := C) (M := M) (w := wa) (t := T) (c := c.toNatClampNeg) (e := L.2.2.1) (f := L.2.2.2) (wk := wk)
      rw [if_neg n0] at he
      refine easy 6 ((sE 6 (by omega)).mp e) (by decide) (by decide) (by decide) z2 _ 0 (upL M c.toNatClampNeg (T + 1, (M.2.1 c.toNatClampNeg).2 - 1)) (md_tr mz mz2 rfl rfl) (ssub_rf _) (MMc_L mc6 (by rw [mz2.2.1 70 (by decide) (by decide), mz.2.1 70 (by decide) (by decide)]) (a := t) (fun j => by rw [ez2, si_at rfl, z71]) (fun j => by rw [mz2.2.1 72 (by decide) (by decide), ez, si_at rfl, h72]) ?_ (by omega)) rfl (by rw [← q88]; exact he)
      rw [tT]
      exact ((hol_t (T + 1) (by omega) T T6).mpr rfl).symm
    · have mz := md_a y6 72 c.toNatClampNeg (y6.1 72 c.toNatClampNeg - 1) (by decide)
      rw [← ez] at mz
      have mz2 := md_a z 71 c.toNatClampNeg (-1) (by decide)
      rw [← ez2] at mz2
      have z71 : z.1 71 = y6.1 71 := mz.2.1 71 (by decide) (by decide)
      rw [ez, si_get, if_pos ⟨rfl, rfl⟩, h72] at e0
      have he := ef_6 (C := C) (M := M) (w := wa) (t := T) (c := c.toNatClampNeg) (e := L.2.2.1) (f := L.2.2.2) (wk := wk)
      rw [if_pos e0] at he
      exact easy 6 ((sE 6 (by omega)).mp e) (by decide) (by decide) (by decide) z2 _ 0 (upL M c.toNatClampNeg (0, (M.2.1 c.toNatClampNeg).2 - 1)) (md_tr mz mz2 rfl rfl) (ssub_rf _) (MMc_L mc6 (by rw [mz2.2.1 70 (by decide) (by decide), mz.2.1 70 (by decide) (by decide)]) (a := -1) (fun j => by rw [ez2, si_at rfl, z71]) (fun j => by rw [mz2.2.1 72 (by decide) (by decide), ez, si_at rfl, h72]) rfl (by omega)) rfl (by rw [← q88]; exact he)
  · -- wait
    have cv := c6 (Or.inl (by rw [e]; decide))
    have oo := (sE 7 (by omega)).mp e
    obtain ⟨w0, os⟩ := oN (by omega)
    have hq6 := M6.2.2 T T6
    refine ⟨cv, ht, fun z ez => ⟨cv, fun z2 ez2 => ⟨cv, fun z3 ez3 => ⟨ht, fun z4 ez4 => ?_⟩⟩⟩⟩
    have mz := md_a y6 78 T (y6.1 72 c.toNatClampNeg) (by decide)
    rw [← ez] at mz
    have mz2 := md_a z 72 c.toNatClampNeg 0 (by decide)
    rw [← ez2] at mz2
    have mz3 := md_a z2 71 c.toNatClampNeg (-1) (by decide)
    rw [← ez3] at mz3
    have mz4 := md_a z3 77 T 1 (by decide)
    rw [← ez4] at mz4
    have ma : md [] [71, 72, 78] y6 z3 := md_tr (md_tr (L3 := []) (A3 := [72, 78]) mz mz2 rfl rfl) mz3 rfl rfl
    have mm : md [] [71, 72, 77, 78] y6 z4 := md_tr ma mz4 rfl rfl
    have mx : md [82, 88, 89, 90, 91, 92, 93] [71, 72, 77, 78, 84] x z4 := md_tr m06 mm rfl rfl
    have f := fun q (h0 : q ≠ 0) hq => mm.2.1 q h0 hq
    have a2 : RI z3 S6 := RI_md (md_w ma (L2 := [82, 90, 91, 92, 93]) (A2 := [70, 71, 72, 75, 76, 78, 79, 84]) (by decide) (by decide)) rfl rfl (ssub_rf _) r6
    have t4 : th3 T z3 z4 := by rw [ez4]; exact th3_si (by decide) _ _
    have w4 : z4.1 77 T = 1 := by rw [ez4, si_get, if_pos ⟨rfl, rfl⟩]
    have w8 : z4.1 78 T = (M.2.1 c.toNatClampNeg).2 := by rw [ez4, si_cell (by decide), ez3, si_cell (by decide), ez2, si_cell (by decide), ez, si_get, if_pos ⟨rfl, rfl⟩]; exact (mc6.2 _ (vp_lt cv)).2.2
    have c73 : z4.1 73 = z3.1 73 := mz4.2.1 73 (by decide) (by decide)
    have c74 : z4.1 74 = z3.1 74 := mz4.2.1 74 (by decide) (by decide)
    have ha := acM_7 (wk := wk) (by rw [← eL]; exact L0) (by rw [← eo]; exact oo)
    rw [← eL, ← q88, ef_7] at ha
    have mL := MMc_L (M := M) (z := z4) (c := c.toNatClampNeg) (n := 0) (a := -1) (b := 0) mc6 (f 70 (by decide) (by decide)) (fun j => by rw [mz4.2.1 71 (by decide) (by decide), ez3, si_at rfl, mz2.2.1 71 (by decide) (by decide), mz.2.1 71 (by decide) (by decide)]) (fun j => by rw [mz4.2.1 72 (by decide) (by decide), mz3.2.1 72 (by decide) (by decide), ez2, si_at rfl, mz.2.1 72 (by decide) (by decide)]) rfl (by omega)
    refine Dv_i (h z4 S6 ⟨CP_th (th3_th t4) a2.1, fun t' ht' => ?_⟩ hy6.1 hy6.2.1 (by unfold acP; rw [mm.1 88 (by decide), mm.1 89 (by decide)]; exact ac6) ?_)
    rotate_left
    · rw [ha]
      refine ⟨mL.1, mL.2, fun t' ht' => ?_⟩
      show mTq z4 C t' (upf M.2.2 T _ t')
      by_cases q : t' = T
      · rw [q, upf_eq]
        exact mTq_w hq6 (fun c9 h9 => by rw [f c9 (by omega) (by simp; omega)]) (f 76 (by decide) (by decide)) (f 81 (by decide) (by decide)) (f 82 (by decide) (by decide)) w4 (by omega) w8 (by rw [f 79 (by decide) (by decide)]; exact hq6.2.2.2.2.2.2.2.1)
      · rw [upf_ne q]
        refine mTq_eq (M6.2.2 t' ht') (fun c9 h9 => ?_) (f 76 (by decide) (by decide)) (f 81 (by decide) (by decide)) (f 82 (by decide) (by decide))
        rw [ez4, si_ne c9 t' q, ez3, si_cell (by omega), ez2, si_cell (by omega), ez, si_ne c9 t' q]
    · by_cases q : t' = T
      · rw [q]
        obtain ⟨q1, q2, q3⟩ := a2.2 T T6
        refine ⟨?_, Or.inr ⟨Or.inl w4, by rw [f 73 (by decide) (by decide), g6 73 (by decide) (by decide)]; exact h1, ?_⟩, rl_th (th3_th t4) (ssub_rf _) q3⟩
        · unfold ra
          rw [c73, c74, t4.1.1 52 (by decide), t4.1.2.1 54 (by decide) (by decide)]
          exact q1
        · rw [mx.2.1 55 (by decide) (by decide), mx.2.1 74 (by decide) (by decide), ← ek, g55, ← os, oo]; rfl
      · exact rT_th (th3_th t4) (ssub_rf _) q (a2.2 t' ht')
  · -- wake
    have cv := c6 (Or.inl (by rw [e]; decide))
    have o8 := (sE 8 (by omega)).mp e
    obtain ⟨w0, os⟩ := oN (by omega)
    have cb := vp_in_iff.mp cv
    refine ds_wake3 t w k c s r6 K6 hN hX M6 m74 (by omega) eKd.symm hst (by omega) ⟨cb.1, cb.2⟩ (by rw [g6 77 (by decide) (by decide), m77, w0]; rfl) hwk (fun z rz mz z77 mt => ?_)
    have wT : wkT C M T c.toNatClampNeg wk T = M.2.2 T := if_neg (fun z9 => by rw [w0] at z9; exact absurd z9.2.1 (by decide))
    exact go3 z S6 c 0 (M.1, M.2.1, wkT C M T c.toNatClampNeg wk) (fun q => by have := (sE 9 (by omega)).mp q; omega) ⟨hy6.1, hy6.2.1, by unfold acP; rw [mz.1 88 (by decide), mz.1 89 (by decide)]; exact ac6, by rw [mz.1 52 (by decide)]; exact hy6.2.2.2⟩ rz (MK_md mz rfl rfl K6) (MMc_eq mc6 (mz.2.1 70 (by decide) (by decide)) (mz.2.1 71 (by decide) (by decide)) (mz.2.1 72 (by decide) (by decide))) mt (by show (wkT C M T c.toNatClampNeg wk T).1 = 1; rw [wT]; exact sta1) (by show (wkT C M T c.toNatClampNeg wk T).2.1 = 0; rw [wT]; exact num0) (by show (wkT C M T c.toNatClampNeg wk T).2.2.1 = K; rw [wT]; exact eKd.symm) (by show (wkT C M T c.toNatClampNeg wk T).2.2.2.1 = 0; rw [wT]; exact w0) (by show (wkT C M T c.toNatClampNeg wk T).2.2.2.2.1 = 0; rw [wT]; exact (hW T T6).2.1 w0) (by show (wkT C M T c.toNatClampNeg wk T).2.2.2.2.2.2.2 = _; rw [wT]) L0 (by omega) (by rw [o8, ← q88]; exact ef_8)
  · -- start
    have cv := c6 (Or.inl (by rw [e]; decide))
    have o9 := (sE 9 (by omega)).mp e
    obtain ⟨w0, os⟩ := oN (by omega)
    refine ⟨cv, fun z ez => ⟨cv, cv, fun z2 ez2 => ?_⟩⟩
    have st0 := lp9 e
    have ct := s3 e
    rw [← lp2 (Or.inl (by rw [e]; decide))] at st0 ct
    obtain ⟨N, eN⟩ : ∃ N, N = c.toNatClampNeg := ⟨_, rfl⟩
    rw [← eN] at st0 ez ez2
    have N6 : N < 6 := by rw [eN]; exact vt cv
    have cT : ¬ N = T := fun q => by rw [q, h1] at st0; exact absurd st0 (by decide)
    have cb := vp_in_iff.mp cv
    have cc := cl_i cb.1
    rw [← eN] at cc
    have tz : th3 N y6 z := by rw [ez]; exact th3_si (by decide) _ _
    have tz2 : th3 N z z2 := by rw [ez2]; exact th3_si (by decide) _ _
    have t2 := th3_tr tz tz2
    have f := fun q (h0 : q ≠ 0) hq => t2.1.2.1 q h0 hq
    have l25 : (x.1 0 25).toInt = C.2.1.length := hK.2.1.1
    obtain ⟨qq, hqq⟩ : ∃ qq, C.2.1[N]? = some qq := ⟨_, List.getElem?_eq_getElem (by omega)⟩
    obtain ⟨hb1, -⟩ := hK.2.1.2 _ qq hqq
    obtain ⟨⟨stb, hstb, kn0⟩, -⟩ := hN.2.1 qq (List.mem_of_getElem? hqq)
    have e64 : z.1 64 = x.1 64 := by rw [ez, si_cell (by decide), g6 64 (by decide) (by decide)]
    have ea : z2.1 74 N = x.1 64 N := by rw [ez2, si_get, if_pos ⟨rfl, rfl⟩, e64]
    have z73 : z2.1 73 N = 1 := by rw [ez2, si_cell (by decide), ez, si_get, if_pos ⟨rfl, rfl⟩]
    have oth : ∀ c9, ¬ c9 = 73 → ¬ c9 = 74 → z2.1 c9 = y6.1 c9 := fun c9 n1 n2 => by rw [ez2, si_cell n2, ez, si_cell n1]
    have hqN := M6.2.2 N N6
    have s0N : (M.2.2 N).1 = 0 := by
      have a := hqN.1
      rw [g6 73 (by decide) (by decide), st0] at a
      exact (sta_0 _ (by have := hqN.2.1; omega)).mp a.symm
    obtain ⟨wn1, wn2, wn3⟩ := hW N N6
    have nm := wn1 (by rw [s0N]; decide)
    have wt := wn3 (by rw [s0N]; decide)
    have of := wn2 wt
    obtain ⟨E, eE⟩ : ∃ E, E = upT M N (thN C N (M.2.2 N) qq.1 (M.2.2 N).2.2.2.2.2.2.2) := ⟨_, rfl⟩
    have ha := acM_is (E := E) (v := 0) (wk := wk) (by rw [← eL]; exact L0) (by rw [← eo]; omega) (by rw [← eo, ← eL, o9, ← q88, ← eN, eE]; exact ef_9 hqq)
    have ET : E.2.2 T = M.2.2 T := by rw [eE]; exact upf_ne (fun q => cT q.symm)
    have EN : E.2.2 N = thN C N (M.2.2 N) qq.1 (M.2.2 N).2.2.2.2.2.2.2 := by rw [eE]; exact upf_eq
    have Eo : ∀ t', ¬ t' = N → E.2.2 t' = M.2.2 t' := fun t' q => by rw [eE]; exact upf_ne q
    have mc2 : MMc z2 E := by rw [eE]; exact MMc_th mc6 t2
    have e7 : (E.2.2 T).2.2.2.2.2.2.2 = (M.2.2 T).2.2.2.2.2.2.2 := by rw [ET]
    rw [← eKd, esN, ← e7] at ha
    refine ds_act667 t k c s 0 ht eT m74 (E := E) (CP_th (th3_th t2) r6.1) (MK_th3 K6 t2) hN hX hst o16 (by rw [t2.1.1 52 (by decide), hy6.2.2.2]; omega) mc2 (fun t' ht' hc' => ?_) (fun _ => by rw [← eN]; exact cT) (by rw [ET]; exact sta1) (by rw [ET]; exact num0) (by rw [ET]; exact eKd.symm) (by rw [ET]; exact w0) (by rw [ET]; exact (hW T T6).2.1 w0) (fun _ => ?_) (fun t' ht' hc' => rT_th (th3_th t2) (ssub_rf _) (by rw [eN]; exact hc' e) (r6.2 t' ht')) (fun _ => by rw [← eN]; exact rl_th (th3_th t2) (ssub_rf _) (r6.2 N N6).2.2) (fun x' S' r ss m mm => h x' S' r (ssub_tr hy6.1 ss) (acS_up ss hy6.2.1) ?_ (by rw [ha]; exact mm))
    · have q : ¬ t' = N := by rw [eN]; exact hc' e
      rw [Eo t' q]
      exact mTq_th hN t2 q (M6.2.2 t' ht')
    · rw [← eN]
      refine ⟨cv, z73, ?_, M.2.2 N, qq.1, (M.2.2 N).2.2.2.2.2.2.2, EN, by rw [ea]; exact hb1, gt_lt hstb, fun p hp => ?_, wt, of, by rw [oth 79 (by decide) (by decide)]; exact hqN.2.2.2.2.2.2.2.1, mLt_eq hqN.2.2.2.2.2.2.2.2.1 (oth 80 (by decide) (by decide)) (oth 81 (by decide) (by decide)) (oth 82 (by decide) (by decide))⟩
      · unfold q0
        rw [oth 77 (by decide) (by decide), oth 78 (by decide) (by decide), oth 75 (by decide) (by decide), hqN.2.2.2.2.1, hqN.2.2.2.2.2.2.1, hqN.2.2.1, wt, of, nm]
        exact ⟨rfl, rfl, rfl⟩
      · rw [stN_is hstb, kn0] at hp
        exact absurd hp (Nat.not_lt_zero _)
    · unfold acP
      rw [m.1 88 (by decide), m.1 89 (by decide), t2.1.1 88 (by decide), t2.1.1 89 (by decide)]
      exact ac6
  · -- call
    have o13 := (sE 13 (by omega)).mp e
    obtain ⟨w0, os⟩ := oN (by omega)
    have hq6 := M6.2.2 T T6
    refine ⟨ht, fun z ez => ⟨lk6.2.2.1, fun z2 ez2 => ?_⟩⟩
    skip
    have mz := md_a y6 79 T c (by decide)
    rw [← ez] at mz
    have mz2 := md_f z 93 (z.1 0 90)
    rw [← ez2] at mz2
    have mm : md [93] [79] y6 z2 := md_tr mz mz2 rfl rfl
    have f := fun q (h0 : q ≠ 0) hq => mm.2.1 q h0 hq
    have e79 : z2.1 79 T = c := by rw [mz2.2.1 79 (by decide) (by decide), ez, si_get, if_pos ⟨rfl, rfl⟩]
    have cob : c = (stN C (M.2.2 T).2.2.1).2.2.2.2.1 := by
      obtain ⟨p1, p2⟩ := lkM_pl (C := C) (w := wa) w0 (by rw [← eL]; exact L0)
      rw [← eL] at p2
      rw [q88, p2, lkI_n]
      rw [← eKd, esN]
      cases ei : st.2.2.2.2.2.2.2.1 with
      | none => rfl
      | some Q => have := (hX _ st hst).1 (by rw [ei]; exact fun z => nomatch z); omega
    refine go3 z2 _ c 0 (upT M T ((M.2.2 T).1, (M.2.2 T).2.1, (M.2.2 T).2.2.1, (M.2.2 T).2.2.2.1, (M.2.2 T).2.2.2.2.1, (stN C (M.2.2 T).2.2.1).2.2.2.2.1, (M.2.2 T).2.2.2.2.2.2)) (fun q => by have := (sE 9 (by omega)).mp q; omega) ⟨ssub_tr hy6.1 (ssub_ad _ _ _), acS_up (ssub_ad _ _ _) hy6.2.1, by unfold acP; rw [mm.1 88 (by decide), mm.1 89 (by decide)]; exact ac6, by rw [mm.1 52 (by decide)]; exact hy6.2.2.2⟩ (RI_md mm rfl rfl (ssub_ad _ _ _) r6) (MK_md mm rfl rfl K6) (MMc_eq mc6 (f 70 (by decide) (by decide)) (f 71 (by decide) (by decide)) (f 72 (by decide) (by decide))) (fun t' ht' => ?_) (by show (upf M.2.2 T _ T).1 = 1; rw [upf_eq]; exact sta1) (by show (upf M.2.2 T _ T).2.1 = 0; rw [upf_eq]; exact num0) (by show (upf M.2.2 T _ T).2.2.1 = K; rw [upf_eq]; exact eKd.symm) (by show (upf M.2.2 T _ T).2.2.2.1 = 0; rw [upf_eq]; exact w0) (by show (upf M.2.2 T _ T).2.2.2.2.1 = 0; rw [upf_eq]; exact (hW T T6).2.1 w0) (by show (upf M.2.2 T _ T).2.2.2.2.2.2.2 = _; rw [upf_eq]) L0 (by omega) (by rw [o13]; exact ef_13)
    show mTq z2 C t' (upf M.2.2 T _ t')
    by_cases q : t' = T
    · rw [q, upf_eq]
      exact mTq_w hq6 (fun c9 h9 => by rw [f c9 (by omega) (by simp; omega)]) (f 76 (by decide) (by decide)) (f 81 (by decide) (by decide)) (f 82 (by decide) (by decide)) (by rw [f 77 (by decide) (by decide)]; exact hq6.2.2.2.2.1) hq6.2.2.2.2.2.1 (by rw [f 78 (by decide) (by decide)]; exact hq6.2.2.2.2.2.2.1) (by rw [e79]; exact cob)
    · rw [upf_ne q]
      refine mTq_eq (M6.2.2 t' ht') (fun c9 h9 => ?_) (f 76 (by decide) (by decide)) (f 81 (by decide) (by decide)) (f 82 (by decide) (by decide))
      rcases h9 with h9 | h9 | h9 | h9 | h9 | h9 | h9
      all_goals first | (rw [h9, mz2.2.1 79 (by decide) (by decide), ez, si_ne 79 t' q]) | (rw [f c9 (by omega) (by simp; omega)])
  · -- back
    have o13 := (sE 14 (by omega)).mp e
    obtain ⟨w0, os⟩ := oN (by omega)
    have hq6 := M6.2.2 T T6
    refine ⟨ht, fun z ez => ⟨lk6.2.2.1, fun z2 ez2 => ?_⟩⟩
    skip
    have mz := md_a y6 79 T (-1) (by decide)
    rw [← ez] at mz
    have mz2 := md_f z 93 (z.1 0 90)
    rw [← ez2] at mz2
    have mm : md [93] [79] y6 z2 := md_tr mz mz2 rfl rfl
    have f := fun q (h0 : q ≠ 0) hq => mm.2.1 q h0 hq
    have e79 : z2.1 79 T = (-1) := by rw [mz2.2.1 79 (by decide) (by decide), ez, si_get, if_pos ⟨rfl, rfl⟩]
    refine go3 z2 _ c 0 (upT M T ((M.2.2 T).1, (M.2.2 T).2.1, (M.2.2 T).2.2.1, (M.2.2 T).2.2.2.1, (M.2.2 T).2.2.2.2.1, -1, (M.2.2 T).2.2.2.2.2.2)) (fun q => by have := (sE 9 (by omega)).mp q; omega) ⟨ssub_tr hy6.1 (ssub_ad _ _ _), acS_up (ssub_ad _ _ _) hy6.2.1, by unfold acP; rw [mm.1 88 (by decide), mm.1 89 (by decide)]; exact ac6, by rw [mm.1 52 (by decide)]; exact hy6.2.2.2⟩ (RI_md mm rfl rfl (ssub_ad _ _ _) r6) (MK_md mm rfl rfl K6) (MMc_eq mc6 (f 70 (by decide) (by decide)) (f 71 (by decide) (by decide)) (f 72 (by decide) (by decide))) (fun t' ht' => ?_) (by show (upf M.2.2 T _ T).1 = 1; rw [upf_eq]; exact sta1) (by show (upf M.2.2 T _ T).2.1 = 0; rw [upf_eq]; exact num0) (by show (upf M.2.2 T _ T).2.2.1 = K; rw [upf_eq]; exact eKd.symm) (by show (upf M.2.2 T _ T).2.2.2.1 = 0; rw [upf_eq]; exact w0) (by show (upf M.2.2 T _ T).2.2.2.2.1 = 0; rw [upf_eq]; exact (hW T T6).2.1 w0) (by show (upf M.2.2 T _ T).2.2.2.2.2.2.2 = _; rw [upf_eq]) L0 (by omega) (by rw [o13]; exact ef_14)
    show mTq z2 C t' (upf M.2.2 T _ t')
    by_cases q : t' = T
    · rw [q, upf_eq]
      exact mTq_w hq6 (fun c9 h9 => by rw [f c9 (by omega) (by simp; omega)]) (f 76 (by decide) (by decide)) (f 81 (by decide) (by decide)) (f 82 (by decide) (by decide)) (by rw [f 77 (by decide) (by decide)]; exact hq6.2.2.2.2.1) hq6.2.2.2.2.2.1 (by rw [f 78 (by decide) (by decide)]; exact hq6.2.2.2.2.2.2.1) e79
    · rw [upf_ne q]
      refine mTq_eq (M6.2.2 t' ht') (fun c9 h9 => ?_) (f 76 (by decide) (by decide)) (f 81 (by decide) (by decide)) (f 82 (by decide) (by decide))
      rcases h9 with h9 | h9 | h9 | h9 | h9 | h9 | h9
      all_goals first | (rw [h9, mz2.2.1 79 (by decide) (by decide), ez, si_ne 79 t' q]) | (rw [f c9 (by omega) (by simp; omega)])
  · -- join, fence, pause
    have n := fun (j : Nat) (hj : j < 16) (hm : Int32.ofNat j ∈ [(0 : Int32), (1 : Int32), (2 : Int32), (3 : Int32), (4 : Int32), (5 : Int32), (15 : Int32), (6 : Int32), (7 : Int32), (8 : Int32), (9 : Int32), (13 : Int32), (14 : Int32)]) => fun z : o = j => no _ hm ((sE j hj).mpr z)
    have n0 : ¬ o = 0 := n 0 (by omega) (by decide)
    have n1 : ¬ o = 1 := n 1 (by omega) (by decide)
    have n2 : ¬ o = 2 := n 2 (by omega) (by decide)
    have n3 : ¬ o = 3 := n 3 (by omega) (by decide)
    have n4 : ¬ o = 4 := n 4 (by omega) (by decide)
    have n5 : ¬ o = 5 := n 5 (by omega) (by decide)
    have n6 : ¬ o = 6 := n 6 (by omega) (by decide)
    have n7 : ¬ o = 7 := n 7 (by omega) (by decide)
    have n8 : ¬ o = 8 := n 8 (by omega) (by decide)
    have n9 : ¬ o = 9 := n 9 (by omega) (by decide)
    have n13 : ¬ o = 13 := n 13 (by omega) (by decide)
    have n14 : ¬ o = 14 := n 14 (by omega) (by decide)
    have n15 : ¬ o = 15 := n 15 (by omega) (by decide)
    exact easy o rfl n9 n15 n7 y6 S6 0 M (md_w (md_rf y6) (by decide) (by decide)) (ssub_rf _) mc6 rfl (ef_o (by omega))
end DDA
end
section
/-! the model: a run's beginning is the machine's -/
section DS3
variable {d : Nat} {S : gS} {x : gd} {F : Int32 → gd → gS → Prop} {Fv : gd → gS → Prop} {C : gCo}
theorem fs_idle {T : Nat} {q : Nat × Nat} (h : C.2.1[T]? = some q) (c : q.2 = 1) : (fsM C).2.2 T = th0 := by
  show (match C.2.1[T]? with | some q => if q.2 = 1 then th0 else thN C T th0 q.1 (fun _ => 0) | none => th0) = th0
  rw [h]
  exact if_pos c
theorem fs_go {T : Nat} {q : Nat × Nat} (h : C.2.1[T]? = some q) (c : ¬ q.2 = 1) : (fsM C).2.2 T = thN C T th0 q.1 (fun _ => 0) := by
  show (match C.2.1[T]? with | some q => if q.2 = 1 then th0 else thN C T th0 q.1 (fun _ => 0) | none => th0) = _
  rw [h]
  exact if_neg c
theorem fs_out {T : Nat} (h : C.2.1.length ≤ T) : (fsM C).2.2 T = th0 := by
  show (match C.2.1[T]? with | some q => if q.2 = 1 then th0 else thN C T th0 q.1 (fun _ => 0) | none => th0) = th0
  rw [List.getElem?_eq_none h]
theorem ds_setTail3 (cp : CP x) (i4 : ∀ j : Nat, j < 6 → iniT x j) (i3 : ∀ j : Nat, j < 6 → iniL x j) (i2 : ∀ j : Nat, j < 24 → x.1 70 j = (fsM C).1 j) (i5 : ∀ j : Nat, j < 48 → x.1 76 j = 0) (hK : MK x C) (hN : NC C) (h : ∀ y S1, RI y S1 → MM1 y C (fsM C) → Fv y S1) : MD 4 z_setFirst 157 [(0, vr 0), (1, vi 0)] [] S x (Dv Fv) := by
  have k0 : (0 : Int32).toInt = 0 := rfl
  have k1 : (1 : Int32).toInt = 1 := rfl
  have b25 := cp.1.2.2.2.2.2.1
  have nT : (x.1 0 25).toInt = C.2.1.length := hK.2.1.1
  have fin : ∀ (y : gd) (S1 : gS) (t : Int32), 0 ≤ t.toInt → RI y S1 → md hL hA x y → (∀ t' : Nat, t' < 6 → mTq y C t' (if (t' : Int) < t.toInt then (fsM C).2.2 t' else th0)) → (x.1 0 25).toInt ≤ t.toInt → Fv y S1 := by
    intro y S1 t t0 ry my hf hle
    refine h y S1 ry ⟨fun c hc => by rw [my.2.1 70 (by decide) (by decide)]; exact i2 c hc, fun l hl => ?_, fun t' ht' => ?_⟩
    · rw [my.2.1 71 (by decide) (by decide), my.2.1 72 (by decide) (by decide), (i3 l hl).1, (i3 l hl).2]
      exact ⟨rfl, Nat.zero_le _, rfl⟩
    · have q := hf t' ht'
      by_cases c : (t' : Int) < t.toInt
      · rw [if_pos c] at q; exact q
      · rw [if_neg c] at q
        rw [fs_out (by omega)]; exact q
  have ri0 : RI x S := by
    refine ⟨cp, fun t ht => ?_⟩
    obtain ⟨a1, a2, a3, a4, a5, a6, a7⟩ := i4 t ht
    refine ⟨⟨by rw [a2]; decide, by rw [a2]; decide, fun q => by rw [a1] at q; exact absurd q (by decide)⟩, Or.inl a4, by rw [a7]; decide, by rw [a7]; decide, fun k hk => ?_⟩
    rw [a7, k0] at hk; omega
  have loop : ∀ (n : Nat) (y : gd) (S1 : gS) (t : Int32), 0 ≤ t.toInt → (x.1 0 25).toInt - t.toInt ≤ n → y.1 0 25 = x.1 0 25 → RI y S1 → md hL hA x y → (∀ t' : Nat, t' < 6 → mTq y C t' (if (t' : Int) < t.toInt then (fsM C).2.2 t' else th0)) → MD 4 z_setFirst 157 [(0, vr 0), (1, vi t)] [] S1 y (Dv Fv) := by
    intro n
    induction n with
    | zero =>
      intro y S1 t t0 hn e25 ry my hf
      exact sd_setFirst_157 _ ⟨fun _ => Dv_i (fin y S1 t t0 ry my hf (by omega)), fun c => absurd (t_le.mpr (by rw [e25]; omega)) c⟩
    | succ n ih =>
      intro y S1 t t0 hn e25 ry my hf
      refine sd_setFirst_157 _ ⟨fun c => Dv_i (fin y S1 t t0 ry my hf (by rw [t_le, e25] at c; exact c)), fun c => ?_⟩
      rw [t_le, e25] at c
      have tv : vp_in t 6 := by rw [vp_in_iff]; omega
      have ct := cl_i t0
      have ti : (t + 1).toInt = t.toInt + 1 := by rw [t_add (by omega) (by omega), k1]
      obtain ⟨T, eT⟩ : ∃ T, T = t.toNatClampNeg := ⟨_, rfl⟩
      rw [← eT] at ct
      have T6 : T < 6 := by omega
      have tl : T < C.2.1.length := by omega
      obtain ⟨q9, hq9⟩ : ∃ q9, C.2.1[T]? = some q9 := ⟨_, List.getElem?_eq_getElem tl⟩
      have hKy : MK y C := MK_md my rfl rfl hK
      obtain ⟨k64, k38⟩ := hKy.2.1.2 T q9 hq9
      obtain ⟨⟨st, s1, s2⟩, q1⟩ := hN.2.1 q9 (List.mem_of_getElem? hq9)
      have mT := hf T T6
      rw [if_neg (by omega)] at mT
      have ext : ∀ (u : gd), mTq u C T ((fsM C).2.2 T) → (∀ t' : Nat, t' < 6 → ¬ t' = T → ∀ hh, mTq y C t' hh → mTq u C t' hh) → ∀ t' : Nat, t' < 6 → mTq u C t' (if (t' : Int) < (t + 1).toInt then (fsM C).2.2 t' else th0) := fun u hu ho t' ht' => by
        by_cases c9 : t' = T
        · rw [c9, if_pos (by omega)]; exact hu
        · have q := ho t' ht' c9 _ (hf t' ht')
          by_cases c8 : (t' : Int) < t.toInt
          · rw [if_pos c8] at q
            rw [if_pos (by omega)]; exact q
          · rw [if_neg c8] at q
            rw [if_neg (by omega)]; exact q
      refine ⟨tv, fun n0 => ih y S1 (t + 1) (by omega) (by omega) e25 ry my (ext y ?_ (fun _ _ _ _ q => q)), fun c0 => ⟨tv, fun y5 e5 => ⟨tv, tv, fun y8 e8 => ?_⟩⟩⟩
      · rw [← eT, k38] at n0
        have : ¬ q9.2 = 0 := fun z => n0 (by rw [z]; rfl)
        rw [fs_idle hq9 (by omega)]; exact mT
      rw [← eT] at c0 e5 e8
      have ni : ¬ q9.2 = 1 := fun z => by
        rw [k38, z] at c0
        exact absurd c0 (by decide)
      have t5 : th3 T y y5 := by rw [e5]; exact th3_si (by decide) _ _
      have t8 : th3 T y5 y8 := by rw [e8]; exact th3_si (by decide) _ _
      have t58 := th3_tr t5 t8
      have bg := ry.1.2.1.2.2.2.2.2 T (by have := t_cl (y.1 0 25); rw [e25] at this; rw [e25]; omega)
      have j2 := ry.1.2.1.2.1
      have a74 : y8.1 74 T = y.1 64 T := by rw [e8, si_get, if_pos ⟨rfl, rfl⟩, e5, si_cell (by decide)]
      have oth : ∀ c9, ¬ c9 = 73 → ¬ c9 = 74 → y8.1 c9 = y.1 c9 := fun c9 n1 n2 => by rw [e8, si_cell n2, e5, si_cell n1]
      have a52 : y8.1 0 52 = y.1 0 52 := t58.1.1 52 (by decide)
      have g73 : y8.1 73 T = 1 := by rw [e8, si_cell (by decide), e5, si_get, if_pos ⟨rfl, rfl⟩]
      have n64 : (y.1 64 T).toNatClampNeg = q9.1 := by rw [t_cl, k64]; rfl
      have hq : q0 y8 T := by
        unfold q0
        rw [oth 77 (by decide) (by decide), oth 78 (by decide) (by decide), oth 75 (by decide) (by decide)]
        exact ⟨mT.2.2.2.2.1, mT.2.2.2.2.2.2.1, mT.2.2.1⟩
      refine ds_own3 (d := 0) (lv0 := fun _ => 0) t tv (CP_th (th3_th t58) ry.1) (by rw [← eT, a74]; exact ⟨bg.1, by omega⟩) (fun _ => by rw [← eT, a74, a52]; exact bg.2) (by rw [← eT]; exact hq) (MK_th3 hKy t58) hN (by rw [← eT]; exact g73) (by rw [← eT, a74, n64]; exact s1) (fun p hp => by rw [s2] at hp; exact absurd hp (Nat.not_lt_zero _)) (fun u S2 tu su ra' w' u78 ow => ?_)
      rw [← eT] at tu ra' w' u78 ow
      rw [a74, n64] at ow
      have tt := th3_tr t58 tu
      have f := fun q (h0 : q ≠ 0) hq => tt.1.2.1 q h0 hq
      refine ih u S2 (t + 1) (by omega) (by omega) (by rw [tt.1.1 25 (by decide)]; exact e25) ⟨CP_th (th3_th tt) ry.1, fun t' ht' => ?_⟩ (md_tr my tt.1 rfl rfl) (ext u ?_ (fun t' ht' ne hh q => mTq_th hN tt ne q))
      · by_cases q : t' = T
        · rw [q]; exact ⟨ra', Or.inl w', rl_th (th3_th tt) su (ry.2 T T6).2.2⟩
        · exact rT_th (th3_th tt) su q (ry.2 t' ht')
      · rw [fs_go hq9 ni]
        exact mTq_own ow w' u78 rfl rfl (by rw [f 79 (by decide) (by decide)]; exact mT.2.2.2.2.2.2.2.1) (mLt_eq mT.2.2.2.2.2.2.2.2.1 (f 80 (by decide) (by decide)) (f 81 (by decide) (by decide)) (f 82 (by decide) (by decide)))
  refine loop 6 x S 0 (by decide) (by rw [k0]; omega) rfl ri0 (md_w (md_rf x) (by decide) (by decide)) (fun t' ht' => ?_)
  rw [if_neg (by rw [k0]; omega)]
  obtain ⟨a1, a2, a3, a4, a5, a6, a7⟩ := i4 t' ht'
  refine ⟨a1, Nat.zero_le _, a3, by rw [a2]; rfl, a4, Nat.zero_le _, a5, a6, ⟨by rw [a7]; rfl, fun j q hj => nomatch hj⟩, fun c => ?_, fun k hk _ => i5 _ (by omega)⟩
  have c : 0 = 1 ∨ 0 = 3 := c
  omega
end DS3
end
section
/-! the model: whether a thread's act can be done -/
section DH3
variable {d : Nat} {S : gS} {x : gd} {F : Int32 → gd → gS → Prop} {Fv : gd → gS → Prop} {C : gCo} {M : gMa}
theorem hol_0 : ∀ h, h < 7 → (Int32.ofNat h - 1 = -1 ↔ h = 0) := by decide +kernel
theorem sta_2 : ∀ h, h < 4 → (Int32.ofNat h ≤ 1 ↔ h ≤ 1) := by decide +kernel
set_option maxHeartbeats 1000000 in
theorem ds_hasAct3 (t : Int32) (ht : vp_in t 6) (ri : RI x S) (hK : MK x C) (hN : NC C) (hX : NXc C) (hM : MM1 x C M) {wa : Nat} (wy : x.1 0 68 = Int32.ofNat wa) (w01 : wa = 0 ∨ wa = 1) (hlt : wa = 0 → ∀ t', t' < 6 → (M.2.2 t').2.2.2.2.2.2.1 = []) (h0 : ¬ canM C wa M t.toNatClampNeg → F 0 x S) (h1 : x.1 73 t.toNatClampNeg = 1 → ¬ x.1 77 t.toNatClampNeg = 1 → canM C wa M t.toNatClampNeg → F 1 x S) : MD (d + 1) z_hasAct 0 [(0, vr 0), (1, vi t)] [] S x (Di F) := by
  have tv := vp_in_iff.mp ht
  obtain ⟨T, eT⟩ : ∃ T, T = t.toNatClampNeg := ⟨_, rfl⟩
  have T6 : T < 6 := by rw [eT]; exact vt ht
  have tT : t = Int32.ofNat T := i32_of (by rw [eT, t_cl]; omega)
  obtain ⟨m73, l73, m75, m74, m77, l77, m78, m79, mlt, mlv⟩ := hM.2.2 T T6
  obtain ⟨b2, b1, b0⟩ := wai_2 _ (show (M.2.2 T).2.2.2.1 < 3 by omega)
  rw [← m77] at b2 b1 b0
  have sta : x.1 73 T = 1 ↔ (M.2.2 T).1 = 1 := by
    rw [m73]
    rcases (show (M.2.2 T).1 = 0 ∨ (M.2.2 T).1 = 1 ∨ (M.2.2 T).1 = 2 ∨ (M.2.2 T).1 = 3 by omega) with e | e | e | e <;> rw [e] <;> decide
  rw [← eT] at h0 h1
  refine sd_hasAct_0 _ ⟨ht, fun c => Di_i (h0 (fun z => c (by rw [← eT]; exact sta.mpr z.1))), fun c1 => ⟨ht, fun c2 => ⟨ht, ?_⟩, fun c => Di_i (h0 (fun z => z.2.1 (b1.mp (by rw [eT]; exact c))))⟩⟩
  rw [← eT] at c1 c2
  have h1 := h1 c1 c2
  obtain ⟨kv, kn, _, av⟩ := RI_step ri T6 c1
  obtain ⟨s1, s2, s3⟩ := srt_of ri T6 c1
  obtain ⟨k, ek⟩ : ∃ k, k = x.1 74 T := ⟨_, rfl⟩
  rw [← ek] at kv kn av s1 s2 s3 m74
  obtain ⟨s, es⟩ : ∃ s, s = srt x T := ⟨_, rfl⟩
  rw [← es] at s1 s2 s3
  have l52 : (x.1 0 52).toInt = C.1.length := hK.1.1
  obtain ⟨K, eKd⟩ : ∃ K, K = (M.2.2 T).2.2.1 := ⟨_, rfl⟩
  rw [← eKd] at m74
  have kst : k.toNatClampNeg = K := by rw [t_cl, m74]; rfl
  obtain ⟨st, hst⟩ : ∃ st, C.1[K]? = some st := ⟨_, List.getElem?_eq_getElem (by omega)⟩
  have esN := stN_is hst
  obtain ⟨g54, g55, g56, -⟩ := hK.1.2 _ st hst
  have ns := hN.1 _ st hst
  obtain ⟨-, -, -, -, -, nx5⟩ := hX _ st hst
  rw [← kst] at g54 g55 g56
  have o16 : st.1 < 16 := by
    have a := ((ri.2 T T6).1.2.2 c1).2
    rw [← ek, g54] at a
    exact (mWh_i st.1 ns.1.1).1.mp a
  have g55 := g55 o16
  obtain ⟨o, eo⟩ : ∃ o, o = soM C (M.2.2 T) := ⟨_, rfl⟩
  have sO : s = Int32.ofNat o ∧ o < 16 ∧ (¬ o = 15 → o = st.1) := by
    rw [eo, es]
    unfold soM srt
    rw [← eKd, esN]
    by_cases c9 : x.1 77 T = 2
    · rw [if_pos c9, if_neg (by have := b2.mp c9; omega)]
      exact ⟨rfl, by omega, fun z => absurd rfl z⟩
    · have w0 : (M.2.2 T).2.2.2.1 = 0 := by
        have a1 : ¬ (M.2.2 T).2.2.2.1 = 2 := fun z => c9 (b2.mpr z)
        have a2 : ¬ (M.2.2 T).2.2.2.1 = 1 := fun z => c2 (b1.mpr z)
        omega
      rw [if_neg c9, if_pos w0, ← ek]
      exact ⟨g55, o16, fun _ => rfl⟩
  obtain ⟨sI, o15, oN⟩ := sO
  have sE : ∀ n : Nat, n < 16 → (s = Int32.ofNat n ↔ o = n) := fun n hn => by
    rw [t_eq, sI, op_16 o o15, op_16 n hn]; omega
  have sT : s.toInt = (o : Nat) := by rw [sI]; exact op_16 o o15
  obtain ⟨B, eB⟩ : ∃ B, B = obM C K := ⟨_, rfl⟩
  have hB : (x.1 56 k.toNatClampNeg).toNatClampNeg = B := by rw [eB, g56]; unfold obM; rw [esN]
  have l80 : x.1 80 T = 0 ↔ (M.2.2 T).2.2.2.2.2.2.1 = [] := by
    rw [t_eq, mlt.1, show (0 : Int32).toInt = 0 from rfl]
    exact ⟨fun z => List.eq_nil_of_length_eq_zero (by omega), fun z => by rw [z]; rfl⟩
  unfold canM at h0 h1
  rw [← eo, ← eKd, ← eB] at h0 h1
  have can1 := sta.mp c1
  have can2 : ¬ (M.2.2 T).2.2.2.1 = 1 := fun z => c2 (b1.mpr z)
  let W : Prop := ¬ (o = 0 ∨ o = 12 ∨ o = 13 ∨ o = 14 ∨ (wa = 1 ∧ o = 1 ∧ suM C B = false)) → (M.2.2 T).2.2.2.2.2.2.1 = []
  have p149 : W → (o = 5 ∨ o = 15) → MD (d + 1) z_hasAct 149 [(0, vr 0), (1, vi t), (2, vi k)] [] S x (Di F) := by
    intro hw q
    have ob := s2 (q.imp (fun q => by omega) (fun q => (sE 15 (by omega)).mpr q))
    have ov : vp_in (x.1 56 k.toNatClampNeg) 6 := by rw [vp_in_iff]; omega
    have B6 : B < 6 := by rw [← hB]; exact vp_lt ov
    obtain ⟨e71, l71, -⟩ := hM.2.1 B B6
    have a1 := hol_0 _ (show (M.2.1 B).1 < 7 by omega)
    have a2 := hol_t _ (show (M.2.1 B).1 < 7 by omega) T T6
    rw [← e71] at a1 a2
    rw [← tT] at a2
    refine sd_hasAct_149 _ _ ⟨kv, ov, ?_⟩
    rw [hB]
    exact ⟨fun c => Di_i (h1 ⟨can1, can2, hw, fun _ => Or.inl (a1.mp c), fun z => by omega⟩), fun c => ⟨kv, ov, fun c9 => Di_i (h0 (fun z => (z.2.2.2.1 q).elim (fun z => c (a1.mpr z)) (fun z => c9 (a2.mpr z)))), fun c9 => Di_i (h1 ⟨can1, can2, hw, fun _ => Or.inr (a2.mp c9), fun z => by omega⟩)⟩⟩
  have p138 : W → MD (d + 1) z_hasAct 138 [(0, vr 0), (1, vi t), (2, vi k), (3, vi s)] [] S x (Di F) := by
    intro hw
    have e5 := sE 5 (by omega)
    have e15 := sE 15 (by omega)
    have e10 := sE 10 (by omega)
    refine sd_hasAct_138 _ _ _ ⟨fun e => p149 hw (Or.inl (e5.mp e)), fun n5 => ⟨fun n15 => ⟨fun n10 => Di_i (h1 ⟨can1, can2, hw, fun z => absurd z (fun z => z.elim (fun z => n5 (e5.mpr z)) (fun z => n15 (e15.mpr z))), fun z => absurd (e10.mpr z) n10⟩), fun e => ⟨kv, ?_⟩⟩, fun e => p149 hw (Or.inr (e15.mp e))⟩⟩
    have o10 := e10.mp e
    have ob := s2 (Or.inl (by omega))
    have ov : vp_in (x.1 56 k.toNatClampNeg) 6 := by rw [vp_in_iff]; omega
    have B6 : B < 6 := by rw [← hB]; exact vp_lt ov
    obtain ⟨n73, nl73, -, -, -, -, -, -, nlt, -⟩ := hM.2.2 B B6
    have a2 := sta_2 _ (show (M.2.2 B).1 < 4 by omega)
    rw [← n73] at a2
    have nl : x.1 80 B = 0 ↔ (M.2.2 B).2.2.2.2.2.2.1 = [] := by
      rw [t_eq, nlt.1, show (0 : Int32).toInt = 0 from rfl]
      exact ⟨fun z => List.eq_nil_of_length_eq_zero (by omega), fun z => by rw [z]; rfl⟩
    refine ⟨fun c => Di_i (h0 (fun z => ?_)), fun _ => ⟨ov, ?_⟩⟩
    · have := (z.2.2.2.2 o10).1
      have bT : B = T := by rw [← hB, c, ← eT]
      rw [bT] at this
      omega
    · rw [hB]
      exact ⟨fun c => Di_i (h0 (fun z => by have := (z.2.2.2.2 o10).1; have := a2.mp c; omega)), fun c => ⟨ov, fun c9 => Di_i (h0 (fun z => c9 (nl.mpr (z.2.2.2.2 o10).2))), fun c9 => Di_i (h1 ⟨can1, can2, hw, fun z => by omega, fun _ => ⟨Classical.byContradiction (fun z => c (a2.mpr (by omega))), nl.mp c9⟩⟩)⟩⟩
  have p124 : ∀ b q : Int32, ((¬ b = 0 ∧ (wa = 0 ∨ (M.2.2 T).2.2.2.2.2.2.1 = [])) ∨ (b = 0 ∧ ¬ (M.2.2 T).2.2.2.2.2.2.1 = [])) → ((q = 0 ∧ (o = 0 ∨ o = 12 ∨ o = 13 ∨ o = 14 ∨ (o = 1 ∧ suM C B = false))) ∨ (¬ q = 0 ∧ ¬ (o = 0 ∨ o = 12 ∨ o = 13 ∨ o = 14 ∨ (o = 1 ∧ suM C B = false)))) → MD (d + 1) z_hasAct 124 [(0, vr 0), (1, vi t), (2, vi k), (3, vi s), (5, vi b)] [vi q] S x (Di F) := by
    intro b q hb hq
    have wl : wa = 0 → W := fun z _ => hlt z T T6
    refine sd_hasAct_124 _ _ _ _ _ ⟨fun c => p138 ?_, fun c => ⟨fun c9 => p138 ?_, fun c9 => Di_i (h0 (fun z => ?_))⟩⟩
    · rcases w01 with z | z
      · exact wl z
      · rcases hq with ⟨-, hq⟩ | ⟨hq, -⟩
        · intro n
          exact absurd (by rcases hq with e | e | e | e | ⟨e, e'⟩; exact Or.inl e; exact Or.inr (Or.inl e); exact Or.inr (Or.inr (Or.inl e)); exact Or.inr (Or.inr (Or.inr (Or.inl e))); exact Or.inr (Or.inr (Or.inr (Or.inr ⟨z, e, e'⟩)))) n
        · exact absurd c hq
    · rcases hb with ⟨-, hb | hb⟩ | ⟨hb, -⟩
      · exact wl hb
      · exact fun _ => hb
      · exact absurd hb c9
    · rcases hb with ⟨hb, -⟩ | ⟨-, hb⟩
      · exact hb c9
      · rcases hq with ⟨hq, -⟩ | ⟨-, hq⟩
        · exact c hq
        · exact hb (z.2.2.1 (fun n => hq (by rcases n with e | e | e | e | ⟨-, e, e'⟩; exact Or.inl e; exact Or.inr (Or.inl e); exact Or.inr (Or.inr (Or.inl e)); exact Or.inr (Or.inr (Or.inr (Or.inl e))); exact Or.inr (Or.inr (Or.inr (Or.inr ⟨e, e'⟩))))))
  have p85 : ∀ a b : Int32, (o = 1 → (a = 0 ↔ suM C B = false)) → ((¬ b = 0 ∧ (wa = 0 ∨ (M.2.2 T).2.2.2.2.2.2.1 = [])) ∨ (b = 0 ∧ ¬ (M.2.2 T).2.2.2.2.2.2.1 = [])) → MD (d + 1) z_hasAct 85 [(0, vr 0), (1, vi t), (2, vi k), (3, vi s), (4, vi a)] [vi b] S x (Di F) := by
    intro a b ha hb
    have e0 := sE 0 (by omega)
    have e12 := sE 12 (by omega)
    have e13 := sE 13 (by omega)
    have e14 := sE 14 (by omega)
    have e1 := sE 1 (by omega)
    refine sd_hasAct_85 _ _ _ _ _ ⟨fun e => p124 _ _ hb (Or.inl ⟨rfl, Or.inl (e0.mp e)⟩), fun n0 => ⟨fun e => p124 _ _ hb (Or.inl ⟨rfl, Or.inr (Or.inl (e12.mp e))⟩), fun n12 => ⟨fun e => p124 _ _ hb (Or.inl ⟨rfl, Or.inr (Or.inr (Or.inl (e13.mp e)))⟩), fun n13 => ⟨fun e => p124 _ _ hb (Or.inl ⟨rfl, Or.inr (Or.inr (Or.inr (Or.inl (e14.mp e))))⟩), fun n14 => ⟨fun n1 => p124 _ _ hb (Or.inr ⟨by decide, fun z => ?_⟩), fun e => ⟨fun c => p124 _ _ hb (Or.inl ⟨rfl, Or.inr (Or.inr (Or.inr (Or.inr ⟨e1.mp e, (ha (e1.mp e)).mp c⟩)))⟩), fun c => p124 _ _ hb (Or.inr ⟨by decide, fun z => ?_⟩)⟩⟩⟩⟩⟩⟩
    · rcases z with z | z | z | z | ⟨z, -⟩
      · exact n0 (e0.mpr z)
      · exact n12 (e12.mpr z)
      · exact n13 (e13.mpr z)
      · exact n14 (e14.mpr z)
      · exact n1 (e1.mpr z)
    · rcases z with z | z | z | z | ⟨z, z'⟩
      · exact n0 (e0.mpr z)
      · exact n12 (e12.mpr z)
      · exact n13 (e13.mpr z)
      · exact n14 (e14.mpr z)
      · exact c ((ha z).mpr z')
  have p62 : ∀ a : Int32, (o = 1 → (a = 0 ↔ suM C B = false)) → MD (d + 1) z_hasAct 62 [(0, vr 0), (1, vi t), (2, vi k), (3, vi s)] [vi a] S x (Di F) := by
    intro a ha
    refine sd_hasAct_62 _ _ _ _ ⟨fun c => p85 _ _ ha (Or.inl ⟨by decide, Or.inl (w01.resolve_right (fun z => by rw [wy, z] at c; exact absurd c (by decide)))⟩), fun c => ⟨ht, ?_⟩⟩
    rw [← eT]
    exact ⟨fun c9 => p85 _ _ ha (Or.inr ⟨rfl, fun z => c9 (l80.mpr z)⟩), fun c9 => p85 _ _ ha (Or.inl ⟨by decide, Or.inr (l80.mp c9)⟩)⟩
  rw [← eT, ← ek]
  refine ds_sortOf t ht (by rw [← eT, ← ek]; exact kv) ?_
  rw [← eT, ← es]
  refine ds_isAccess s (fun n => ⟨fun _ => p62 0 (fun z => absurd (by omega) n), fun q => absurd rfl q⟩) (fun q => ⟨fun q => absurd q (by decide), fun _ => ⟨kv, ?_, ?_⟩⟩)
  · have o := s1 q
    rw [vp_in_iff]; omega
  · have su : o = 1 → x.1 37 B = if suM C B = true then 1 else 0 := fun e1 => by
      have o1 := oN (by omega)
      obtain ⟨b1, b2, -⟩ := nx5 (by omega)
      have cl : B < C.2.2.1.length := by
        rw [eB]; unfold obM; rw [esN, t_cl]; omega
      obtain ⟨q, hq⟩ : ∃ q, C.2.2.1[B]? = some q := ⟨_, List.getElem?_eq_getElem cl⟩
      rw [(hK.2.2.1.2 _ q hq).2]
      unfold suM
      rw [hq]
    rw [hB]
    refine ⟨fun c => p62 0 (fun z => ⟨fun _ => ?_, fun _ => rfl⟩), fun c => p62 1 (fun z => ⟨fun y => absurd y (by decide), fun y => ?_⟩)⟩
    · rw [su z] at c
      cases e9 : suM C B with
      | false => rfl
      | true => rw [e9] at c; exact absurd c (by decide)
    · rw [su z, y] at c
      exact absurd rfl c
end DH3
end
section
/-! the model: choices are noted -/
def opI : Option Nat → Int32
  | none => -1
  | some n => Int32.ofNat n
/-- the choices that stand in the memory -/
def chE (y : gd) (l : List gCh) : Prop := (y.1 0 84).toInt = (l.length : Nat) ∧ ∀ i q, l[i]? = some q → y.1 86 i = Int32.ofNat q.1 ∧ y.1 87 i = opI q.2.1 ∧ y.1 88 i = opI q.2.2
section DC3
variable {d : Nat} {S : gS} {x : gd} {F : Int32 → gd → gS → Prop} {Fv : gd → gS → Prop}
theorem ds_choose3 {cl : List gCh} {q0' : gCh} {y : gd} {S1 : gS} {b : Int} (t l w : Int32) (hb : b ≤ 198) (q : fC x S b y S1) (ho : chO x t l) (hl : chE y cl) (hq : t = Int32.ofNat q0'.1 ∧ l = opI q0'.2.1 ∧ w = opI q0'.2.2) (h : ∀ y' S', fC x S (b + 1) y' S' → chE y' (cl ++ [q0']) → Fv y' S') : MD d z_choose 0 [(0, vr 0), (1, vi t), (2, vi l), (3, vi w)] [] S1 y (Dv Fv) := by
  obtain ⟨q1, q2, q3, q4, q5, q6⟩ := q
  obtain ⟨n, en⟩ : ∃ n, n = y.1 0 84 := ⟨_, rfl⟩
  have nv : vp_in n 200 := by rw [en, vp_in_iff]; omega
  have k1 : (1 : Int32).toInt = 1 := rfl
  obtain ⟨cl1, cl2⟩ := hl
  rw [← en] at q4 q5 cl1
  refine sd_choose_0 _ _ _ ⟨q3, by rw [← en]; exact nv, fun y2 e2 => ?_⟩
  rw [← en] at e2 ⊢
  have f2 : y2.1 0 84 = n := by rw [e2, si_cell (by decide), en]
  refine ⟨Or.inr q3, by rw [f2]; exact nv, fun y4 e4 => ?_⟩
  rw [f2] at e4 ⊢
  have f4 : y4.1 0 84 = n := by rw [e4, si_cell (by decide), f2]
  refine ⟨Or.inr (Or.inr q3), by rw [f4]; exact nv, fun y6 e6 => ?_⟩
  rw [f4] at e6 ⊢
  have f6 : y6.1 0 84 = n := by rw [e6, si_cell (by decide), f4]
  refine ⟨Or.inr (Or.inr (Or.inr q3)), fun y7 e7 => Dv_i (h y7 _ ?_ ?_)⟩
  rotate_left
  · rw [f6] at e7
    have nl : n.toNatClampNeg = cl.length := by rw [t_cl, cl1]; rfl
    have f7 : (y7.1 0 84).toInt = n.toInt + 1 := by rw [e7, si_get, if_pos ⟨rfl, rfl⟩, t_add (by omega) (by omega), k1]
    have g86 : ∀ i, y7.1 86 i = if i = cl.length then t else y.1 86 i := fun i => by rw [e7, si_cell (by decide), e6, si_cell (by decide), e4, si_cell (by decide), e2, si_get, nl]; by_cases z : i = cl.length; rw [if_pos ⟨rfl, z⟩, if_pos z]; rw [if_neg (fun q => z q.2), if_neg z]
    have g87 : ∀ i, y7.1 87 i = if i = cl.length then l else y.1 87 i := fun i => by rw [e7, si_cell (by decide), e6, si_cell (by decide), e4, si_get, nl, e2, si_cell (by decide)]; by_cases z : i = cl.length; rw [if_pos ⟨rfl, z⟩, if_pos z]; rw [if_neg (fun q => z q.2), if_neg z]
    have g88 : ∀ i, y7.1 88 i = if i = cl.length then w else y.1 88 i := fun i => by rw [e7, si_cell (by decide), e6, si_get, nl, e4, si_cell (by decide), e2, si_cell (by decide)]; by_cases z : i = cl.length; rw [if_pos ⟨rfl, z⟩, if_pos z]; rw [if_neg (fun q => z q.2), if_neg z]
    refine ⟨by rw [f7, cl1, List.length_append]; rfl, fun i q hi => ?_⟩
    rw [g86 i, g87 i, g88 i]
    by_cases c : i < cl.length
    · rw [List.getElem?_append_left c] at hi
      rw [if_neg (by omega), if_neg (by omega), if_neg (by omega)]
      exact cl2 i q hi
    · rw [List.getElem?_append_right (by omega)] at hi
      have il := gt_lt hi
      have il : i - cl.length < 1 := il
      have i0 : i - cl.length = 0 := by omega
      rw [i0] at hi
      have hi := Option.some.inj hi
      rw [if_pos (by omega), if_pos (by omega), if_pos (by omega), ← hi]
      exact hq
  rw [f6] at e7
  have m2 := md_a y 86 n.toNatClampNeg t (by decide)
  rw [← e2] at m2
  have m4 := md_a y2 87 n.toNatClampNeg l (by decide)
  rw [← e4] at m4
  have m6 := md_a y4 88 n.toNatClampNeg w (by decide)
  rw [← e6] at m6
  have m7 := md_f y6 84 (n + 1)
  rw [← e7] at m7
  have mm : md [84] [86, 87, 88] y y7 := md_tr (md_tr (L3 := []) (A3 := [86, 87, 88]) (md_tr (L3 := []) (A3 := [86, 87]) m2 m4 rfl rfl) m6 rfl rfl) m7 rfl rfl
  have mx : md [84] [86, 87, 88] x y7 := md_tr q1 mm rfl rfl
  have f7 : (y7.1 0 84).toInt = n.toInt + 1 := by rw [e7, si_get, if_pos ⟨rfl, rfl⟩, t_add (by omega) (by omega), k1]
  have cn := cl_i q4
  refine ⟨mx, ssub_tr q2 (fun c j z => Or.inr (Or.inr (Or.inr (Or.inr z)))), Or.inl ⟨rfl, rfl⟩, by omega, by omega, fun i hi => ?_⟩
  have e73 : y7.1 73 = x.1 73 := mx.2.1 73 (by decide) (by decide)
  have e77 : y7.1 77 = x.1 77 := mx.2.1 77 (by decide) (by decide)
  have e80 : y7.1 80 = x.1 80 := mx.2.1 80 (by decide) (by decide)
  by_cases z : i = n.toNatClampNeg
  · have g86 : y7.1 86 i = t := by rw [z, e7, si_cell (by decide), e6, si_cell (by decide), e4, si_cell (by decide), e2, si_get, if_pos ⟨rfl, rfl⟩]
    have g87 : y7.1 87 i = l := by rw [z, e7, si_cell (by decide), e6, si_cell (by decide), e4, si_get, if_pos ⟨rfl, rfl⟩]
    refine ⟨Or.inr (Or.inr (Or.inr (Or.inl ⟨rfl, z⟩))), Or.inr (Or.inr (Or.inl ⟨rfl, z⟩)), Or.inr (Or.inl ⟨rfl, z⟩), ?_⟩
    rw [g86, g87]
    unfold chO
    rw [e73, e77, e80]
    exact ho
  · have g86 : y7.1 86 i = y.1 86 i := by rw [e7, si_cell (by decide), e6, si_cell (by decide), e4, si_cell (by decide), e2, si_ne 86 i z]
    have g87 : y7.1 87 i = y.1 87 i := by rw [e7, si_cell (by decide), e6, si_cell (by decide), e4, si_ne 87 i z, e2, si_cell (by decide)]
    obtain ⟨a, b', c, o⟩ := q6 i (by rw [← en]; omega)
    refine ⟨Or.inr (Or.inr (Or.inr (Or.inr a))), Or.inr (Or.inr (Or.inr (Or.inr b'))), Or.inr (Or.inr (Or.inr (Or.inr c))), ?_⟩
    rw [g86, g87]
    unfold chO at o ⊢
    rw [mm.2.1 73 (by decide) (by decide), mm.2.1 77 (by decide) (by decide), mm.2.1 80 (by decide) (by decide)]
    exact o
end DC3
end
section
/-! the model: the choices found are the machine's -/
def acT (C : gCo) (w : Nat) (M : gMa) (t : Nat) : List gCh := if canM C w M t then (if soM C (M.2.2 t) = 8 ∧ (stN C (M.2.2 t).2.2.1).2.2.2.2.2.2.1 = false ∧ (M.2.1 (obM C (M.2.2 t).2.2.1)).1 = t + 1 ∧ ¬ waM C M (obM C (M.2.2 t).2.2.1) = [] then (waM C M (obM C (M.2.2 t).2.2.1)).map (fun o => (t, none, some o)) else [(t, none, none)]) else []
def ltP (l : List (Nat × Int32)) (i : Nat) : Bool := (l.take i).all (fun q => !(some q.1 == (l[i]?).map (fun z => z.1)))
def waP (C : gCo) (M : gMa) (l o : Nat) : Bool := (M.2.2 o).2.2.2.1 == 1 && obM C (M.2.2 o).2.2.1 == l
def prM (C : gCo) (w : Nat) (M : gMa) (t : Nat) : List gCh := (List.range t).flatMap (ch1 C w M)
theorem prM_s {C : gCo} {w : Nat} {M : gMa} {t : Nat} : prM C w M (t + 1) = prM C w M t ++ (acT C w M t ++ (((List.range (M.2.2 t).2.2.2.2.2.2.1.length).filter (ltP (M.2.2 t).2.2.2.2.2.2.1)).map (fun i => (t, some i, none)))) := by
  unfold prM
  rw [List.range_succ, List.flatMap_append]
  simp only [List.flatMap_cons, List.flatMap_nil, List.append_nil]
  rfl
theorem ltP_iff {l : List (Nat × Int32)} {i : Nat} {q : Nat × Int32} (h : l[i]? = some q) : ltP l i = true ↔ ∀ j q', j < i → l[j]? = some q' → ¬ q'.1 = q.1 := by
  unfold ltP
  rw [List.all_eq_true, h]
  constructor
  · intro a j q' hj hq e
    have m : q' ∈ l.take i := List.mem_iff_getElem?.mpr ⟨j, by rw [List.getElem?_take, if_pos hj]; exact hq⟩
    have b := a q' m
    simp [e] at b
  · intro a q' m
    obtain ⟨j, hj⟩ := List.mem_iff_getElem?.mp m
    rw [List.getElem?_take] at hj
    by_cases c : j < i
    · rw [if_pos c] at hj
      have b := a j q' c hj
      simp [b]
    · rw [if_neg c] at hj
      exact nomatch hj
theorem fl_no {P : Nat → Bool} {f : Nat → gCh} {n : Nat} (z : P n = false) : ((List.range n ++ [n]).filter P).map f = ((List.range n).filter P).map f := by
  rw [List.filter_append]
  simp [z]
theorem fl_yes {P : Nat → Bool} {f : Nat → gCh} {n : Nat} (z : P n = true) : ((List.range n ++ [n]).filter P).map f = ((List.range n).filter P).map f ++ [f n] := by
  rw [List.filter_append]
  simp [z]
section DF3
variable {d : Nat} {S : gS} {x : gd} {F : Int32 → gd → gS → Prop} {Fv : gd → gS → Prop} {C : gCo} {M : gMa}
set_option maxHeartbeats 1000000 in
theorem ds_find3 (ri : RI x S) (hK : MK x C) (hN : NC C) (hX : NXc C) (hM : MM1 x C M) {wa : Nat} (wy : x.1 0 68 = Int32.ofNat wa) (w01 : wa = 0 ∨ wa = 1) (hlt : wa = 0 → ∀ t', t' < 6 → (M.2.2 t').2.2.2.2.2.2.1 = []) (h : ∀ y S1, fC x S 84 y S1 → chE y (chM C wa M) → Fv y S1) : MD (d + 2) z_findChoices 0 [(0, vr 0)] [] S x (Dv Fv) := by
  have k0 : (0 : Int32).toInt = 0 := rfl
  have k1 : (1 : Int32).toInt = 1 := rfl
  have hT := ri.1.1.2.2.2.2.1
  have nT : (x.1 0 25).toInt = C.2.1.length := hK.2.1.1
  have hT6 := ri.1.1.2.2.2.2.2.1
  have p7 : ∀ (n : Nat) (y : gd) (S1 : gS) (t : Int32), 0 ≤ t.toInt → t.toInt ≤ (x.1 0 25).toInt → (x.1 0 25).toInt - t.toInt ≤ n → fC x S (14 * t.toInt) y S1 → chE y (prM C wa M t.toInt.toNat) → MD (d + 2) z_findChoices 7 [(0, vr 0), (1, vi t)] [] S1 y (Dv Fv) := by
    intro n
    induction n with
    | zero =>
      intro y S1 t t0 t1 hn q hl
      have f25 : y.1 0 25 = x.1 0 25 := q.1.1 25 (by decide)
      exact sd_findChoices_7 _ ⟨fun _ => Dv_i (h y S1 (fC_mono (by omega) q) (by rw [show t.toInt.toNat = C.2.1.length by omega] at hl; exact hl)), fun c => absurd (t_le.mpr (by rw [f25]; omega)) c⟩
    | succ n ih =>
      intro y S1 t t0 t1 hn q hl
      have f25 : y.1 0 25 = x.1 0 25 := q.1.1 25 (by decide)
      refine sd_findChoices_7 _ ⟨fun c => Dv_i (h y S1 (fC_mono (by omega) q) (by rw [t_le, f25] at c; rw [show t.toInt.toNat = C.2.1.length by omega] at hl; exact hl)), fun c => ?_⟩
      rw [t_le, f25] at c
      have ht : vp_in t 6 := by rw [vp_in_iff]; omega
      have i1 : (t + 1).toInt = t.toInt + 1 := by rw [t_add (by omega) (by omega), k1]
      obtain ⟨L, eL⟩ : ∃ L, L = x.1 80 t.toNatClampNeg := ⟨_, rfl⟩
      have rlx := (ri.2 _ (vt ht)).2.2
      have hL8 := rlx.2.1
      have hL0 := rlx.1
      rw [← eL] at hL8 hL0
      obtain ⟨T, eT⟩ : ∃ T, T = t.toNatClampNeg := ⟨_, rfl⟩
      have tTn : t.toInt.toNat = T := by rw [eT, t_cl]
      have tTI : t = Int32.ofNat T := i32_of (by rw [eT, t_cl]; omega)
      have T6 : T < 6 := by omega
      have t1n : (t + 1).toInt.toNat = T + 1 := by omega
      rw [tTn] at hl
      obtain ⟨l, el⟩ : ∃ l, l = (M.2.2 T).2.2.2.2.2.2.1 := ⟨_, rfl⟩
      have mlt := (hM.2.2 T T6).2.2.2.2.2.2.2.2.1
      rw [← el] at mlt
      have lL : L.toInt = (l.length : Nat) := by rw [eL, ← eT]; exact mlt.1
      have nxt : ∀ (y : gd) (S1 : gS), fC x S (14 * t.toInt + 14) y S1 → chE y ((prM C wa M T ++ acT C wa M T) ++ ((List.range l.length).filter (ltP l)).map (fun i => (T, some i, none))) → MD (d + 2) z_findChoices 7 [(0, vr 0), (1, vi (t + 1))] [] S1 y (Dv Fv) := fun y S1 q hc => ih y S1 (t + 1) (by omega) (by omega) (by omega) (fC_mono (by omega) q) (by rw [t1n, prM_s, ← List.append_assoc, ← el]; exact hc)
      -- late writes
      have p144 : ∀ (m : Nat) (y : gd) (S1 : gS) (i : Int32), 0 ≤ i.toInt → i.toInt ≤ L.toInt → L.toInt - i.toInt ≤ m → fC x S (14 * t.toInt + 6 + i.toInt) y S1 → chE y ((prM C wa M T ++ acT C wa M T) ++ ((List.range i.toInt.toNat).filter (ltP l)).map (fun i => (T, some i, none))) → MD (d + 2) z_findChoices 144 [(0, vr 0), (1, vi t), (2, vi i)] [] S1 y (Dv Fv) := by
        intro m
        induction m with
        | zero =>
          intro y S1 i i0 i1' hm q hc
          have f80 : y.1 80 = x.1 80 := q.1.2.1 80 (by decide) (by decide)
          refine sd_findChoices_144 _ _ ⟨ht, ?_⟩
          rw [f80, ← eL]
          exact ⟨fun _ => nxt y S1 (fC_mono (by omega) q) (by rw [show i.toInt.toNat = l.length by omega] at hc; exact hc), fun c => absurd (t_le.mpr (by omega)) c⟩
        | succ m ihm =>
          intro y S1 i i0 i1' hm q hc
          have f80 : y.1 80 = x.1 80 := q.1.2.1 80 (by decide) (by decide)
          refine sd_findChoices_144 _ _ ⟨ht, ?_⟩
          rw [f80, ← eL]
          refine ⟨fun c2 => nxt y S1 (fC_mono (by omega) q) (by rw [t_le] at c2; rw [show i.toInt.toNat = l.length by omega] at hc; exact hc), fun c2 => ?_⟩
          rw [t_le] at c2
          have ii : (i + 1).toInt = i.toInt + 1 := by rw [t_add (by omega) (by omega), k1]
          have riy : RI y S1 := RI_md q.1 rfl rfl q.2.1 ri
          have ry := (riy.2 _ (vt ht)).2.2
          have e80 : y.1 80 t.toNatClampNeg = L := by rw [f80, eL]
          have f81 : y.1 81 = x.1 81 := q.1.2.1 81 (by decide) (by decide)
          have hiL : i.toInt.toNat < l.length := by omega
          obtain ⟨qi, hqi⟩ : ∃ qi, l[i.toInt.toNat]? = some qi := ⟨_, List.getElem?_eq_getElem hiL⟩
          have rs : List.range (i + 1).toInt.toNat = List.range i.toInt.toNat ++ [i.toInt.toNat] := by rw [show (i + 1).toInt.toNat = i.toInt.toNat + 1 by omega, List.range_succ]
          have rno : ltP l i.toInt.toNat = false → ((List.range (i + 1).toInt.toNat).filter (ltP l)).map (fun i => ((T, some i, none) : gCh)) = ((List.range i.toInt.toNat).filter (ltP l)).map (fun i => (T, some i, none)) := fun z => by
            rw [rs]; exact fl_no z
          have ryes : ltP l i.toInt.toNat = true → ((List.range (i + 1).toInt.toNat).filter (ltP l)).map (fun i => ((T, some i, none) : gCh)) = ((List.range i.toInt.toNat).filter (ltP l)).map (fun i => (T, some i, none)) ++ [(T, some i.toInt.toNat, none)] := fun z => by
            rw [rs]; exact fl_yes z
          have cel : ∀ jj : Int32, 0 ≤ jj.toInt → jj.toInt < L.toInt → ∀ q', l[jj.toInt.toNat]? = some q' → y.1 81 (10 * t + jj).toNatClampNeg = Int32.ofNat q'.1 ∧ q'.1 < 24 := fun jj j0 j1 q' hq' => by
            obtain ⟨b1, b2, b3⟩ := mlt.2 _ q' hq'
            rw [f81, (t10 ht j0 (by omega)).2, t_cl jj, ← eT]
            exact ⟨b1, b3⟩
          have lj : ∀ (j : Nat) (may jj : Int32), 0 ≤ jj.toInt → i.toInt - jj.toInt ≤ j → (¬ may = 0 ↔ ∀ j' q', j' < jj.toInt.toNat → l[j']? = some q' → ¬ q'.1 = qi.1) → jj.toInt ≤ i.toInt → MD (d + 2) z_findChoices 159 [(0, vr 0), (1, vi t), (2, vi i), (3, vi may), (4, vi jj)] [] S1 y (Dv Fv) := by
            have last : ∀ may : Int32, (¬ may = 0 ↔ ltP l i.toInt.toNat = true) → ((may = (0 : Int32) → MD (d + 2) z_findChoices 144 [(0, vr 0), (1, vi t), (2, vi (i + 1))] [] S1 y (Dv Fv)) ∧ (¬ (may = (0 : Int32)) → MD (d + 1) z_choose 0 [(0, vr 0), (1, vi t), (2, vi i), (3, vi (-1))] [] S1 y (Dv (fun x3 S3 => MD (d + 2) z_findChoices 144 [(0, vr 0), (1, vi t), (2, vi (i + 1))] [] S3 x3 (Dv Fv))))) := by
              intro may hmay
              refine ⟨fun c0 => ihm y S1 (i + 1) (by omega) (by omega) (by omega) (fC_mono (by omega) q) (by rw [rno (Bool.eq_false_iff.mpr (fun z => hmay.mpr z c0))]; exact hc), fun c0 => ds_choose3 (q0' := (T, some i.toInt.toNat, none)) t i (-1) (by omega) q ⟨by omega, Or.inr ⟨i0, by rw [← eL]; omega⟩⟩ hc ⟨tTI, i32_of (by omega), rfl⟩ (fun y' S' q' hc' => ihm y' S' (i + 1) (by omega) (by omega) (by omega) (fC_mono (by omega) q') (by rw [ryes (hmay.mp c0), ← List.append_assoc]; exact hc'))⟩
            intro j
            induction j with
            | zero =>
              intro may jj j0 hj hmj hji
              exact sd_findChoices_159 _ _ _ _ ⟨fun _ => last may (by rw [ltP_iff hqi, ← show jj.toInt.toNat = i.toInt.toNat by omega]; exact hmj), fun c => absurd (t_le.mpr (by omega)) c⟩
            | succ j ihj =>
              intro may jj j0 hj hmj hji
              refine sd_findChoices_159 _ _ _ _ ⟨fun c3 => last may (by rw [t_le] at c3; rw [ltP_iff hqi, ← show jj.toInt.toNat = i.toInt.toNat by omega]; exact hmj), fun c3 => ?_⟩
              rw [t_le] at c3
              have jn : (jj + 1).toInt = jj.toInt + 1 := by rw [t_add (by omega) (by omega), k1]
              obtain ⟨a1, a2, _, _⟩ := rl_at ht ry (i := jj) j0 (by rw [e80]; omega)
              obtain ⟨b1, b2, _, _⟩ := rl_at ht ry (i := i) i0 (by rw [e80]; omega)
              have hjl : jj.toInt.toNat < l.length := by omega
              obtain ⟨qj, hqj⟩ : ∃ qj, l[jj.toInt.toNat]? = some qj := ⟨_, List.getElem?_eq_getElem hjl⟩
              obtain ⟨ej, lj24⟩ := cel jj j0 (by omega) qj hqj
              obtain ⟨ei, li24⟩ := cel i i0 (by omega) qi hqi
              have jn' : (jj + 1).toInt.toNat = jj.toInt.toNat + 1 := by omega
              have eqc : Int32.ofNat qj.1 = Int32.ofNat qi.1 ↔ qj.1 = qi.1 := by
                have e9 : (Int32.ofNat qj.1).toInt = (qj.1 : Nat) := Int32.toInt_ofNat_of_lt (by omega)
                have e8 : (Int32.ofNat qi.1).toInt = (qi.1 : Nat) := Int32.toInt_ofNat_of_lt (by omega)
                rw [t_eq, e9, e8]; omega
              rw [ej, ei]
              refine ⟨fun c0 => ihj _ _ (by omega) (by omega) ⟨fun z => absurd rfl z, fun z => absurd c0 (hmj.mpr (fun j' q' hj' => z j' q' (by omega)))⟩ (by omega), fun c0 => ⟨a1, a2, b1, b2, fun e0 => ihj _ _ (by omega) (by omega) ⟨fun z => absurd rfl z, fun z => absurd (eqc.mp e0) (z _ qj (by omega) hqj)⟩ (by omega), fun n0 => ihj _ _ (by omega) (by omega) ⟨fun _ j' q' hj' hq' => ?_, fun _ => by decide⟩ (by omega)⟩⟩
              by_cases c9 : j' = jj.toInt.toNat
              · rw [c9, hqj] at hq'
                rw [← Option.some.inj hq']
                exact fun z => n0 (eqc.mpr z)
              · exact hmj.mp c0 j' q' (by omega) hq'
          exact lj i.toInt.toNat 1 0 (by decide) (by rw [k0]; omega) ⟨fun _ j' q' hj' => absurd hj' (by rw [k0]; exact Nat.not_lt_zero _), fun _ => by decide⟩ (by rw [k0]; exact i0)
      have q144 : ∀ (y : gd) (S1 : gS), fC x S (14 * t.toInt + 6) y S1 → chE y (prM C wa M T ++ acT C wa M T) → MD (d + 2) z_findChoices 144 [(0, vr 0), (1, vi t), (2, vi 0)] [] S1 y (Dv Fv) := fun y S1 q hc => p144 L.toInt.toNat y S1 0 (by decide) (by rw [k0]; exact hL0) (by rw [k0]; omega) (fC_mono (by rw [k0]; omega) q) (by rw [k0]; simp; exact hc)
      have riy : RI y S1 := RI_md q.1 rfl rfl q.2.1 ri
      have e73 : y.1 73 = x.1 73 := q.1.2.1 73 (by decide) (by decide)
      have e77 : y.1 77 = x.1 77 := q.1.2.1 77 (by decide) (by decide)
      have My : MM1 y C M := MM1_md q.1 rfl hM
      have Ky : MK y C := MK_md q.1 rfl rfl hK
      refine ds_hasAct3 (M := M) t ht riy Ky hN hX My (wa := wa) (by rw [q.1.1 68 (by decide)]; exact wy) w01 hlt (fun nc => ⟨fun _ => q144 y S1 (fC_mono (by omega) q) (by rw [← eT] at nc; unfold acT; rw [if_neg nc, List.append_nil]; exact hl), fun z => absurd rfl z⟩) (fun g1 g2 can => ⟨fun z => absurd z (by decide), fun _ => ⟨ht, q.2.2.1, ?_⟩⟩)
      rw [← eT] at can g1 g2
      have ho : chO x t (-1) := ⟨by omega, Or.inl ⟨rfl, by rw [← eT, ← e73]; exact g1, by rw [← eT, ← e77]; exact g2⟩⟩
      have p127 : ∀ (z : gd) (S2 : gS), fC x S (14 * t.toInt + 6) z S2 → ∀ V : List Nat, chE z (prM C wa M T ++ V.map (fun o => (T, none, some o))) → (V = [] → acT C wa M T = [(T, none, none)]) → (¬ V = [] → acT C wa M T = V.map (fun o => (T, none, some o))) → MD (d + 2) z_findChoices 127 [(0, vr 0), (1, vi t), (3, vi (y.1 0 84))] [] S2 z (Dv Fv) := by
        intro z S2 qz V hV V0 V1
        have lenV : (z.1 0 84).toInt = (y.1 0 84).toInt + V.length := by rw [hV.1, hl.1, List.length_append, List.length_map]; omega
        refine sd_findChoices_127 _ _ ⟨qz.2.2.1, fun ne => q144 z S2 qz (by rw [V1 (fun z9 => ne (t_eq.mpr (by rw [lenV, z9]; simp)))]; exact hV), fun e => ?_⟩
        have Vn : V = [] := List.eq_nil_of_length_eq_zero (by rw [e] at lenV; omega)
        rw [Vn] at hV
        have hV : chE z (prM C wa M T) := by simpa using hV
        have qz2 : fC x S (14 * t.toInt) z S2 := ⟨qz.1, qz.2.1, qz.2.2.1, qz.2.2.2.1, by rw [e]; exact q.2.2.2.2.1, qz.2.2.2.2.2⟩
        exact ds_choose3 (q0' := (T, none, none)) t (-1) (-1) (by omega) qz2 ho hV ⟨tTI, rfl, rfl⟩ (fun y' S' q' hc' => q144 y' S' (fC_mono (by omega) q') (by rw [V0 Vn]; exact hc'))
      have q127 : ¬ (soM C (M.2.2 T) = 8 ∧ (stN C (M.2.2 T).2.2.1).2.2.2.2.2.2.1 = false ∧ (M.2.1 (obM C (M.2.2 T).2.2.1)).1 = T + 1 ∧ ¬ waM C M (obM C (M.2.2 T).2.2.1) = []) → MD (d + 2) z_findChoices 127 [(0, vr 0), (1, vi t), (3, vi (y.1 0 84))] [] S1 y (Dv Fv) := fun n => p127 y S1 (fC_mono (by omega) q) [] (by simpa using hl) (fun _ => by unfold acT; rw [if_pos can, if_neg n]) (fun z => absurd rfl z)
      obtain ⟨kv, kn, _, _⟩ := RI_step riy T6 g1
      obtain ⟨s1, s2, s3⟩ := srt_of riy T6 g1
      obtain ⟨K, eK⟩ : ∃ K, K = (M.2.2 T).2.2.1 := ⟨_, rfl⟩
      obtain ⟨m73, l73, m75, m74, m77, l77, -⟩ := My.2.2 T T6
      rw [← eK] at m74
      have kK : (y.1 74 T).toNatClampNeg = K := by rw [t_cl, m74]; rfl
      have l52 : (y.1 0 52).toInt = C.1.length := Ky.1.1
      obtain ⟨st, hst⟩ : ∃ st, C.1[K]? = some st := ⟨_, List.getElem?_eq_getElem (by omega)⟩
      have esN := stN_is hst
      obtain ⟨k54, k55, k56, k57, -⟩ := Ky.1.2 _ st hst
      have ns := hN.1 _ st hst
      have o16 : st.1 < 16 := by
        have a := ((riy.2 T T6).1.2.2 g1).2
        rw [kK, k54] at a
        exact (mWh_i st.1 ns.1.1).1.mp a
      obtain ⟨w2, w1', w0'⟩ := wai_2 _ (show (M.2.2 T).2.2.2.1 < 3 by omega)
      rw [← m77] at w2 w1' w0'
      have so8 : srt y T = 8 ↔ soM C (M.2.2 T) = 8 := by
        unfold srt soM
        rw [← eK, esN]
        by_cases c9 : y.1 77 T = 2
        · rw [if_pos c9, if_neg (by have := w2.mp c9; omega)]; decide
        · have z0 : (M.2.2 T).2.2.2.1 = 0 := by
            have a1 : ¬ (M.2.2 T).2.2.2.1 = 2 := fun z => c9 (w2.mpr z)
            have a2 : ¬ (M.2.2 T).2.2.2.1 = 1 := fun z => g2 (w1'.mpr z)
            omega
          rw [if_neg c9, if_pos z0, kK, k55 o16, t_eq, op_16 _ o16, show (8 : Int32).toInt = 8 from rfl]; omega
      rw [← eT]
      refine ds_sortOf t ht (by rw [← eT]; exact kv) ?_
      rw [← eT]
      have st8 : soM C (M.2.2 T) = 8 → st.1 = 8 := fun z => by
        unfold soM at z
        rw [← eK, esN] at z
        by_cases c9 : (M.2.2 T).2.2.2.1 = 0
        · rw [if_pos c9] at z; exact z
        · rw [if_neg c9] at z; exact absurd z (by decide)
      rw [kK, k56, k57]
      obtain ⟨-, -, -, nx4, -⟩ := hX _ st hst
      have flg : st.1 = 8 → (st.2.2.2.2.2.1 = 0 ↔ st.2.2.2.2.2.2.1 = false) := fun z => by
        rw [nx4 z]
        cases st.2.2.2.2.2.2.1 with
        | true => exact ⟨fun z => absurd z (by decide), fun z => nomatch z⟩
        | false => exact ⟨fun _ => rfl, fun _ => rfl⟩
      have obK : obM C (M.2.2 T).2.2.1 = st.2.2.2.2.1.toNatClampNeg := by unfold obM; rw [← eK, esN]
      rw [obK, ← eK, esN] at q127
      refine ⟨fun n8 => q127 (fun z => n8 (so8.mpr z.1)), fun e8 => ⟨kv, fun nf => q127 (fun z => nf ((flg (st8 (so8.mp e8))).mpr z.2.1)), fun f0 => ⟨kv, ?_, ?_⟩⟩⟩
      · have o := s2 (Or.inl (by rw [e8]; decide))
        rw [kK, k56] at o
        rw [vp_in_iff]; omega
      have ob6 := s2 (Or.inl (by rw [e8]; decide))
      rw [kK, k56] at ob6
      have B6 : st.2.2.2.2.1.toNatClampNeg < 6 := by rw [t_cl]; omega
      obtain ⟨e71, l71, -⟩ := My.2.1 _ B6
      have ht1 := hol_t _ (show (M.2.1 st.2.2.2.2.1.toNatClampNeg).1 < 7 by omega) T T6
      rw [← e71, ← tTI] at ht1
      refine ⟨fun nh => q127 (fun z => nh (ht1.mpr z.2.2.1)), fun yh => ?_⟩
      · -- those that it may wake
        have enW : ∀ (z : gd) (S2 : gS), fC x S (14 * t.toInt + 6) z S2 → chE z (prM C wa M T ++ ((List.range C.2.1.length).filter (waP C M st.2.2.2.2.1.toNatClampNeg)).map (fun o => (T, none, some o))) → MD (d + 2) z_findChoices 127 [(0, vr 0), (1, vi t), (3, vi (y.1 0 84))] [] S2 z (Dv Fv) := fun z S2 qz hc => by
          have wm : waM C M st.2.2.2.2.1.toNatClampNeg = (List.range C.2.1.length).filter (waP C M st.2.2.2.2.1.toNatClampNeg) := rfl
          rw [← wm] at hc
          refine p127 z S2 qz _ hc (fun V0 => ?_) (fun V1 => ?_)
          · unfold acT
            rw [if_pos can, obK, if_neg (fun z9 => z9.2.2.2 V0)]
          · unfold acT
            rw [if_pos can, obK, ← eK, esN, if_pos ⟨so8.mp e8, (flg (st8 (so8.mp e8))).mp f0, ht1.mp yh, V1⟩]
        have p72 : ∀ (m : Nat) (z : gd) (S2 : gS) (o : Int32), 0 ≤ o.toInt → o.toInt ≤ (x.1 0 25).toInt → (x.1 0 25).toInt - o.toInt ≤ m → fC x S (14 * t.toInt + o.toInt) z S2 → chE z (prM C wa M T ++ ((List.range o.toInt.toNat).filter (waP C M st.2.2.2.2.1.toNatClampNeg)).map (fun o => (T, none, some o))) → MD (d + 2) z_findChoices 72 [(0, vr 0), (1, vi t), (2, vi (y.1 74 T)), (3, vi (y.1 0 84)), (4, vi o)] [] S2 z (Dv Fv) := by
          intro m
          induction m with
          | zero =>
            intro z S2 o o0 o1 hm qz hc
            have g25 : z.1 0 25 = x.1 0 25 := qz.1.1 25 (by decide)
            exact sd_findChoices_72 _ _ _ _ ⟨fun _ => enW z S2 (fC_mono (by omega) qz) (by rw [show o.toInt.toNat = C.2.1.length by omega] at hc; exact hc), fun c => absurd (t_le.mpr (by rw [g25]; omega)) c⟩
          | succ m ihm =>
            intro z S2 o o0 o1 hm qz hc
            have g25 : z.1 0 25 = x.1 0 25 := qz.1.1 25 (by decide)
            refine sd_findChoices_72 _ _ _ _ ⟨fun c2 => enW z S2 (fC_mono (by omega) qz) (by rw [t_le, g25] at c2; rw [show o.toInt.toNat = C.2.1.length by omega] at hc; exact hc), fun c2 => ?_⟩
            rw [t_le, g25] at c2
            have ov : vp_in o 6 := by rw [vp_in_iff]; omega
            have oi : (o + 1).toInt = o.toInt + 1 := by rw [t_add (by omega) (by omega), k1]
            have riz : RI z S2 := RI_md qz.1 rfl rfl qz.2.1 ri
            have raz := (riz.2 _ (vt ov)).1
            obtain ⟨O, eO⟩ : ∃ O, O = o.toNatClampNeg := ⟨_, rfl⟩
            have oO : o.toInt.toNat = O := by rw [eO, t_cl]
            have oI : o = Int32.ofNat O := i32_of (by omega)
            have O6 : O < 6 := by omega
            have rs : List.range (o + 1).toInt.toNat = List.range o.toInt.toNat ++ [O] := by rw [show (o + 1).toInt.toNat = o.toInt.toNat + 1 by omega, List.range_succ, oO]
            have rno : waP C M st.2.2.2.2.1.toNatClampNeg O = false → ((List.range (o + 1).toInt.toNat).filter (waP C M st.2.2.2.2.1.toNatClampNeg)).map (fun o => ((T, none, some o) : gCh)) = ((List.range o.toInt.toNat).filter (waP C M st.2.2.2.2.1.toNatClampNeg)).map (fun o => (T, none, some o)) := fun z => by
              rw [rs, List.filter_append]
              simp [z]
            have ryes : waP C M st.2.2.2.2.1.toNatClampNeg O = true → ((List.range (o + 1).toInt.toNat).filter (waP C M st.2.2.2.2.1.toNatClampNeg)).map (fun o => ((T, none, some o) : gCh)) = ((List.range o.toInt.toNat).filter (waP C M st.2.2.2.2.1.toNatClampNeg)).map (fun o => (T, none, some o)) ++ [(T, none, some O)] := fun z => by
              rw [rs, List.filter_append]
              simp [z]
            have nx : ∀ (z' : gd) (S' : gS), fC x S (14 * t.toInt + o.toInt + 1) z' S' → chE z' (prM C wa M T ++ ((List.range (o + 1).toInt.toNat).filter (waP C M st.2.2.2.2.1.toNatClampNeg)).map (fun o => (T, none, some o))) → MD (d + 2) z_findChoices 72 [(0, vr 0), (1, vi t), (2, vi (y.1 74 T)), (3, vi (y.1 0 84)), (4, vi (o + 1))] [] S' z' (Dv Fv) := fun z' S' q' hc' => ihm z' S' (o + 1) (by omega) (by omega) (by omega) (fC_mono (by omega) q') hc'
            have Mz : MM1 z C M := MM1_md qz.1 rfl hM
            have Kz : MK z C := MK_md qz.1 rfl rfl hK
            obtain ⟨n73, nl73, -, n74, n77, nl77, -⟩ := Mz.2.2 O O6
            obtain ⟨-, b1, -⟩ := wai_2 _ (show (M.2.2 O).2.2.2.1 < 3 by omega)
            rw [← n77] at b1
            rw [← eO]
            have nof : ¬ ((M.2.2 O).2.2.2.1 = 1 ∧ obM C (M.2.2 O).2.2.1 = st.2.2.2.2.1.toNatClampNeg) → waP C M st.2.2.2.2.1.toNatClampNeg O = false := fun n9 => by
              cases e9 : waP C M st.2.2.2.2.1.toNatClampNeg O with
              | false => rfl
              | true =>
                unfold waP at e9
                simp at e9
                exact absurd e9 n9
            have kz56 : z.1 56 (y.1 74 T).toNatClampNeg = st.2.2.2.2.1 := by rw [kK]; exact (Kz.1.2 _ st hst).2.2.1
            rw [kz56]
            refine ⟨ov, fun n1 => nx z S2 (fC_mono (by omega) qz) (by rw [rno (nof (fun z9 => n1 (b1.mpr z9.1)))]; exact hc), fun w1 => ⟨ov, by rw [← eO] at raz; rw [vp_in_iff]; exact ⟨raz.1, raz.2.1⟩, kv, ?_⟩⟩
            have g1z : z.1 73 O = 1 := by
              rcases (riz.2 O O6).2.1 with z9 | ⟨-, z9, -⟩
              · rw [w1] at z9; exact absurd z9 (by decide)
              · exact z9
            have g5z : z.1 55 (z.1 74 O).toNatClampNeg = 7 := by
              rcases (riz.2 O O6).2.1 with z9 | ⟨-, -, z9⟩
              · rw [w1] at z9; exact absurd z9 (by decide)
              · exact z9
            have avz := (RI_step riz O6 g1z).2.2.2
            rw [g5z] at avz
            have ob : z.1 56 (z.1 74 O).toNatClampNeg = st.2.2.2.2.1 ↔ obM C (M.2.2 O).2.2.1 = st.2.2.2.2.1.toNatClampNeg := by
              have lo : 0 ≤ (z.1 56 (z.1 74 O).toNatClampNeg).toInt := by
                rcases avz.2 with z9 | z9 | z9
                · exact z9.2.2.1
                · exact z9.2.2.1
                · exact absurd z9.1 (by decide)
              have l52z : (z.1 0 52).toInt = C.1.length := Kz.1.1
              have kl : (M.2.2 O).2.2.1 < C.1.length := by
                have := (RI_step riz O6 g1z).2.1
                omega
              obtain ⟨so, hso⟩ : ∃ so, C.1[(M.2.2 O).2.2.1]? = some so := ⟨_, List.getElem?_eq_getElem kl⟩
              obtain ⟨-, -, g56, -⟩ := Kz.1.2 _ so hso
              have ec : (z.1 74 O).toNatClampNeg = (M.2.2 O).2.2.1 := by rw [t_cl, n74]; rfl
              rw [ec, g56] at lo ⊢
              unfold obM
              rw [stN_is hso, t_cl, t_cl, t_eq]
              omega
            refine ⟨fun n9 => nx z S2 (fC_mono (by omega) qz) (by rw [rno (nof (fun z9 => n9 (ob.mpr z9.2)))]; exact hc), fun e9 => ds_choose3 (q0' := (T, none, some O)) t (-1) o (by omega) qz ho hc ⟨tTI, rfl, oI⟩ (fun y' S' q' hc' => nx y' S' q' (by rw [ryes (by unfold waP; simp; exact ⟨b1.mp w1, ob.mp e9⟩), ← List.append_assoc]; exact hc'))⟩
        exact p72 (x.1 0 25).toInt.toNat y S1 0 (by decide) (by rw [k0]; omega) (by rw [k0]; omega) (fC_mono (by rw [k0]; omega) q) (by rw [k0]; simpa using hl)
  refine sd_findChoices_0 (fun y e => ?_)
  have m := md_f x 84 0
  rw [← e] at m
  have e0 : y.1 0 84 = 0 := by rw [e, si_get, if_pos ⟨rfl, rfl⟩]
  refine p7 (x.1 0 25).toInt.toNat y _ 0 (by decide) (by rw [k0]; exact hT) (by rw [k0]; omega) ⟨md_w m (by decide) (by decide), ssub_ad _ _ _, Or.inl ⟨rfl, rfl⟩, by rw [e0]; decide, by rw [e0, k0]; omega, fun i hi => ?_⟩ ⟨by rw [e0]; rfl, fun i q hi => nomatch hi⟩
  rw [e0, k0] at hi
  omega
end DF3
end
section
/-! the machine: what holds of every state -/
def wTq (w : Nat) (h : gTq) : Prop := (¬ h.1 = 3 → h.2.1 = 0) ∧ (h.2.2.2.1 = 0 → h.2.2.2.2.1 = 0) ∧ (¬ h.1 = 1 → h.2.2.2.1 = 0) ∧ (w = 0 → h.2.2.2.2.2.2.1 = [])
def WMw (w : Nat) (M : gMa) : Prop := ∀ t, t < 6 → wTq w (M.2.2 t)
section PIN
variable {C : gCo} {M : gMa} {w t s c n own : Nat} {me e f : Int32} {wk : Option Nat} {lv : Nat → Int32} {h : gTq} {r : gTr}
theorem WMw_WM (q : WMw w M) : WM M := fun t ht => ⟨(q t ht).1, (q t ht).2.1, (q t ht).2.2.1⟩
theorem ow1_num {st : gNs} (q : ow1 me s st lv = .inl r) : ¬ r.1 = 3 → r.2.1 = 0 := by
  unfold ow1 at q
  split at q
  · cases q
    exact fun _ => rfl
  · split at q
    · exact nomatch q
    · split at q
      · cases q
        exact fun z => absurd rfl z
      · split at q
        · cases q
          exact fun z => absurd rfl z
        · exact nomatch q
theorem setP_num : ∀ {n own s : Nat} {lv : Nat → Int32}, setP C me n own s lv = some r → ¬ r.1 = 3 → r.2.1 = 0 := by
  intro n
  induction n with
  | zero => intro own s lv q; exact absurd q (by simp [setP])
  | succ n ih =>
    intro own s lv q
    cases hs : C.1[s]? with
    | none =>
      rw [setP] at q
      simp only [hs] at q
      exact absurd q (by simp)
    | some st =>
      by_cases c1 : st.1 < 16
      · rw [set_act hs c1] at q
        cases q
        exact fun _ => rfl
      · by_cases c2 : st.1 < 20 ∧ 300 ≤ own
        · rw [set_6 hs c1 c2] at q
          cases q
          exact fun z => absurd rfl z
        · cases e1 : ow1 me s st lv with
          | inl r9 =>
            rw [set_l hs c1 c2 e1] at q
            cases q
            exact ow1_num e1
          | inr z =>
            rw [set_r hs c1 c2 e1] at q
            exact ih q
theorem owR_num : ¬ (owR C me s lv).1 = 3 → (owR C me s lv).2.1 = 0 := by
  by_cases q : ∃ r, ∃ n, setP C me n 0 s lv = some r
  · obtain ⟨r, n, q⟩ := q
    rw [owR_is q]
    exact setP_num q
  · have : owR C me s lv = (0, 0, 0, fun _ => 0) := by
      unfold owR
      rw [dif_neg q]
    rw [this]
    exact fun _ => rfl
theorem wT_thN (h3 : h.2.2.2.1 = 0) (h4 : h.2.2.2.2.1 = 0) (h6 : w = 0 → h.2.2.2.2.2.2.1 = []) : wTq w (thN C t h s lv) := ⟨owR_num, fun _ => h4, fun _ => h3, h6⟩
theorem wT_th0 : wTq w th0 := ⟨fun _ => rfl, fun _ => rfl, fun _ => rfl, fun _ => rfl⟩
theorem WMw_fs : WMw w (fsM C) := fun t _ => by
  by_cases q : t < C.2.1.length
  · obtain ⟨q9, hq⟩ : ∃ q9, C.2.1[t]? = some q9 := ⟨_, List.getElem?_eq_getElem q⟩
    by_cases c1 : q9.2 = 1
    · rw [fs_idle hq c1]; exact wT_th0
    · rw [fs_go hq c1]; exact wT_thN rfl rfl (fun _ => rfl)
  · rw [fs_out (by omega)]; exact wT_th0
/-- what an act does to the others keeps it; the thread itself is ready to go on -/
theorem WMw_ef (q : WMw w M) (t6 : t < 6) (h1 : (M.2.2 t).1 = 1) (hso : s = 15 ∨ (M.2.2 t).2.2.2.1 = 0) (h9 : s = 9 → c < 6 → (M.2.2 c).1 = 0) (n9 : s = 9 → ¬ c = t) (n7 : ¬ s = 7) : (∀ t', t' < 6 → ¬ t' = t → wTq w ((efM C w M t s c e f wk).1.2.2 t')) ∧ ((efM C w M t s c e f wk).1.2.2 t).2.2.2.1 = 0 ∧ ((efM C w M t s c e f wk).1.2.2 t).2.2.2.2.1 = 0 ∧ (w = 0 → ((efM C w M t s c e f wk).1.2.2 t).2.2.2.2.2.2.1 = []) := by
  have same : ¬ s = 15 → ∀ E : gMa, E.2.2 = M.2.2 → (∀ t', t' < 6 → ¬ t' = t → wTq w (E.2.2 t')) ∧ (E.2.2 t).2.2.2.1 = 0 ∧ (E.2.2 t).2.2.2.2.1 = 0 ∧ (w = 0 → (E.2.2 t).2.2.2.2.2.2.1 = []) := fun n15 E hE => by
    have w0 := hso.resolve_left n15
    rw [hE]
    exact ⟨fun t' ht' _ => q t' ht', w0, (q t t6).2.1 w0, (q t t6).2.2.2⟩
  have self : ∀ (E : gMa) (hh : gTq), E.2.2 = upf M.2.2 t hh → hh.2.2.2.1 = 0 → hh.2.2.2.2.1 = 0 → (w = 0 → hh.2.2.2.2.2.2.1 = []) → (∀ t', t' < 6 → ¬ t' = t → wTq w (E.2.2 t')) ∧ (E.2.2 t).2.2.2.1 = 0 ∧ (E.2.2 t).2.2.2.2.1 = 0 ∧ (w = 0 → (E.2.2 t).2.2.2.2.2.2.1 = []) := fun E hh hE a1 a2 a3 => by
    rw [hE, upf_eq]
    exact ⟨fun t' ht' ne => by rw [upf_ne ne]; exact q t' ht', a1, a2, a3⟩
  by_cases c0 : s = 0
  · rw [c0, ef_0]; exact same (by omega) _ rfl
  by_cases c1 : s = 1
  · have w0 := hso.resolve_left (by omega)
    rw [c1, ef_1]
    by_cases z : w = 0 ∨ suM C c = true
    · rw [if_pos z]; exact same (by omega) _ rfl
    · rw [if_neg z]
      exact self _ _ rfl w0 ((q t t6).2.1 w0) (fun z9 => absurd (Or.inl z9) z)
  by_cases c2 : s = 2
  · rw [c2, ef_2]; exact same (by omega) _ rfl
  by_cases c3 : s = 3
  · rw [c3, ef_3]; exact same (by omega) _ rfl
  by_cases c4 : s = 4
  · rw [c4, ef_4]; exact same (by omega) _ rfl
  by_cases c5 : s = 5
  · rw [c5, ef_5]; exact same (by omega) _ rfl
  by_cases c6 : s = 6
  · rw [c6, ef_6]; exact same (by omega) _ rfl
  by_cases c8 : s = 8
  · have w0 := hso.resolve_left (by omega)
    rw [c8, ef_8]
    have wt : ∀ t', wkT C M t c wk t' = M.2.2 t' ∨ ((M.2.2 t').2.2.2.1 = 1 ∧ wkT C M t c wk t' = ((M.2.2 t').1, (M.2.2 t').2.1, (M.2.2 t').2.2.1, 2, (M.2.2 t').2.2.2.2)) := fun t' => by
      unfold wkT
      split
      · next z => exact Or.inr ⟨z.2.1, rfl⟩
      · exact Or.inl rfl
    refine ⟨fun t' ht' _ => ?_, ?_⟩
    · show wTq w (wkT C M t c wk t')
      rcases wt t' with z | ⟨z1, z⟩
      · rw [z]; exact q t' ht'
      · rw [z]
        obtain ⟨a1, a2, a3, a4⟩ := q t' ht'
        refine ⟨a1, fun z9 => ?_, fun z9 => ?_, a4⟩
        · exact nomatch z9
        · have := a3 z9
          omega
    · show (wkT C M t c wk t).2.2.2.1 = 0 ∧ (wkT C M t c wk t).2.2.2.2.1 = 0 ∧ (w = 0 → (wkT C M t c wk t).2.2.2.2.2.2.1 = [])
      rcases wt t with z | ⟨z1, -⟩
      · rw [z]; exact ⟨w0, (q t t6).2.1 w0, (q t t6).2.2.2⟩
      · omega
  by_cases c9 : s = 9
  · cases hq : C.2.1[c]? with
    | none =>
      have a : efM C w M t 9 c e f wk = (match C.2.1[c]? with | some q => upT M c (thN C c (M.2.2 c) q.1 (M.2.2 c).2.2.2.2.2.2.2) | none => M, 0) := by unfold efM; rfl
      rw [c9, a, hq]; exact same (by omega) _ rfl
    | some q9 =>
      have w0 := hso.resolve_left (by omega)
      rw [c9, ef_9 hq]
      refine ⟨fun t' ht' _ => ?_, ?_⟩
      · show wTq w (upf M.2.2 c _ t')
        by_cases z : t' = c
        · rw [z, upf_eq]
          rw [z] at ht'
          have z0 := h9 c9 ht'
          have w9 := (q c ht').2.2.1 (by omega)
          exact wT_thN w9 ((q c ht').2.1 w9) (q c ht').2.2.2
        · rw [upf_ne z]; exact q t' ht'
      · show (upf M.2.2 c _ t).2.2.2.1 = 0 ∧ (upf M.2.2 c _ t).2.2.2.2.1 = 0 ∧ (w = 0 → (upf M.2.2 c _ t).2.2.2.2.2.2.1 = [])
        rw [upf_ne (fun z => n9 c9 z.symm)]
        exact ⟨w0, (q t t6).2.1 w0, (q t t6).2.2.2⟩
  by_cases c13 : s = 13
  · have w0 := hso.resolve_left (by omega)
    rw [c13, ef_13]
    exact self _ _ rfl w0 ((q t t6).2.1 w0) (q t t6).2.2.2
  by_cases c14 : s = 14
  · have w0 := hso.resolve_left (by omega)
    rw [c14, ef_14]
    exact self _ _ rfl w0 ((q t t6).2.1 w0) (q t t6).2.2.2
  by_cases c15 : s = 15
  · rw [c15, ef_15]
    exact self _ _ rfl rfl rfl (q t t6).2.2.2
  · have : efM C w M t s c e f wk = (M, 0) := by
      unfold efM
      rw [if_neg c0, if_neg c1, if_neg c2, if_neg c3, if_neg c4, if_neg c5, if_neg c6, if_neg n7, if_neg c8, if_neg c9, if_neg c13, if_neg c14, if_neg c15]
    rw [this]; exact same c15 _ rfl
end PIN
end
section
/-! the machine: every choice keeps it -/
section PIO
variable {C : gCo} {M : gMa} {w t i : Nat} {wk : Option Nat}
theorem lkM_rs (w0 : (M.2.2 t).2.2.2.1 = 0) (h : (lkM C w M t).1 = 0) : rsF C w M t (stN C (M.2.2 t).2.2.1).1 (lkM C w M t).2.1.toNatClampNeg = 0 := by
  obtain ⟨p1, p2⟩ := lkM_pl w0 h
  cases e1 : evO (M.2.2 t).2.2.2.2.2.2.2 (Int32.ofNat t) (stN C (M.2.2 t).2.2.1).2.2.2.2.2.2.2.2.1 with
  | none =>
    rw [lkM_1 w0 p1 e1] at h
    exact absurd h (by show ¬ 1 = 0; decide)
  | some e =>
    cases e2 : evO (M.2.2 t).2.2.2.2.2.2.2 (Int32.ofNat t) (stN C (M.2.2 t).2.2.1).2.2.2.2.2.2.2.2.2 with
    | none =>
      rw [lkM_2 w0 p1 e1 e2] at h
      exact absurd h (by show ¬ 1 = 0; decide)
    | some f =>
      rw [lkM_3 w0 p1 e1 e2] at h ⊢
      exact h
theorem so_0 (n : ¬ soM C (M.2.2 t) = 15) : (M.2.2 t).2.2.2.1 = 0 ∧ soM C (M.2.2 t) = (stN C (M.2.2 t).2.2.1).1 := by
  unfold soM at n ⊢
  by_cases c : (M.2.2 t).2.2.2.1 = 0
  · exact ⟨c, if_pos c⟩
  · rw [if_neg c] at n
    exact absurd rfl n
theorem WMw_ac (q : WMw w M) (t6 : t < 6) (h1 : (M.2.2 t).1 = 1) : WMw w (acM C w M t wk) := by
  by_cases L0 : (lkM C w M t).1 = 0
  · by_cases c7 : soM C (M.2.2 t) = 7
    · rw [acM_7 L0 c7, ef_7]
      intro t' ht'
      show wTq w (upf M.2.2 t _ t')
      by_cases z : t' = t
      · rw [z, upf_eq]
        obtain ⟨a1, a2, a3, a4⟩ := q t t6
        exact ⟨a1, (fun z => nomatch z), fun z => absurd h1 z, a4⟩
      · rw [upf_ne z]; exact q t' ht'
    · have st9 : soM C (M.2.2 t) = 9 → (M.2.2 (lkM C w M t).2.1.toNatClampNeg).1 = 0 := fun e9 => by
        obtain ⟨w0, es⟩ := so_0 (C := C) (M := M) (t := t) (by omega)
        have rs := lkM_rs w0 L0
        rw [← es, e9] at rs
        unfold rsF at rs
        rw [if_neg (fun z => nomatch z.1), if_neg (fun z => z.1.elim (fun z => nomatch z) (fun z => nomatch z))] at rs
        exact Classical.byContradiction (fun n => by rw [if_pos ⟨rfl, n⟩] at rs; exact nomatch rs)
      obtain ⟨a, b1, b2, b3⟩ := WMw_ef (C := C) (s := soM C (M.2.2 t)) (c := (lkM C w M t).2.1.toNatClampNeg) (e := (lkM C w M t).2.2.1) (f := (lkM C w M t).2.2.2) (wk := wk) q t6 h1 (Classical.byCases Or.inl (fun n => Or.inr (so_0 n).1)) (fun e9 _ => st9 e9) (fun e9 z => by have := st9 e9; rw [z] at this; omega) c7
      rw [acM_is (E := (efM C w M t (soM C (M.2.2 t)) (lkM C w M t).2.1.toNatClampNeg (lkM C w M t).2.2.1 (lkM C w M t).2.2.2 wk).1) (v := (efM C w M t (soM C (M.2.2 t)) (lkM C w M t).2.1.toNatClampNeg (lkM C w M t).2.2.1 (lkM C w M t).2.2.2 wk).2) L0 c7 rfl]
      intro t' ht'
      show wTq w (upf _ t _ t')
      by_cases z : t' = t
      · rw [z, upf_eq]; exact wT_thN b1 b2 b3
      · rw [upf_ne z]; exact a t' ht' z
  · have w0 : (M.2.2 t).2.2.2.1 = 0 := Classical.byContradiction (fun n0 => L0 (by rw [lkM_15 n0]))
    rw [acM_F L0]
    intro t' ht'
    show wTq w (upf M.2.2 t _ t')
    by_cases z : t' = t
    · rw [z, upf_eq]
      obtain ⟨a1, a2, a3, a4⟩ := q t t6
      exact ⟨fun z => absurd rfl z, a2, fun _ => w0, a4⟩
    · rw [upf_ne z]; exact q t' ht'
theorem WMw_la (q : WMw w M) (t6 : t < 6) : WMw w (laM M t i) := by
  unfold laM
  cases hq : (M.2.2 t).2.2.2.2.2.2.1[i]? with
  | none => exact q
  | some z9 =>
    intro t' ht'
    show wTq w (upf M.2.2 t _ t')
    by_cases z : t' = t
    · rw [z, upf_eq]
      obtain ⟨a1, a2, a3, a4⟩ := q t t6
      refine ⟨a1, a2, a3, fun w0 => ?_⟩
      rw [a4 w0] at hq
      exact nomatch hq
    · rw [upf_ne z]; exact q t' ht'
end PIO
end
section
/-! the class: a thread that settles: its number, step, locals; its late ones stay -/
section KSH
variable {G : kG} {q : kP} {d : Nat} {x x0 y z : gd} {o : Nat} {R : Nat → Nat → Int32} {F : Int32 → gd → Prop} {Fv : gd → Prop} {C : gCo}
/-- a thread's late ones stay -/
def sVx (x y : gd) (o T : Nat) : Prop := ∀ k : Nat, (x.1 o 9).toInt ≤ k → (k : Int) < (x.1 o 8).toInt → rg y o T k = rg x o T k
theorem sVx_tr {T : Nat} (hO : o = 120 ∨ o = 220) (f : fm (sSt o) x y) (a : sVx x y o T) (b : sVx y z o T) : sVx x z o T := fun k k9 k8 => (b k (by rw [f o 9 (by unfold sSt; omega)]; exact k9) (by rw [f o 8 (by unfold sSt; omega)]; exact k8)).trans (a k k9 k8)
theorem sVx_rf {T : Nat} : sVx x x o T := fun _ _ _ => rfl
theorem kh_set (hq : kV q) (ho : kiM q o) {T K : Nat} (hM : MS R x o T) (hT : T < 6) (t f v : Int32) (et : t.toInt = T) (ef : f.toInt = K) (hK : (K : Int) < (x.1 o 9).toInt) (h7 : K ≠ 7) (c2 : K = 2 → 0 ≤ v.toInt ∧ v.toInt < ssm x) (c0 : K = 0 → v = 0 → rg x o T 3 = 0) (c3 : K = 3 → rg x o T 0 = 0 → v = 0) (h : ∀ y, MS R y o T → fm (sSt o) x y → lowE x y o → (∀ k : Nat, (k : Int) < (x.1 o 9).toInt → rg y o T k = if k = K then v else rg x o T k) → sVx x y o T → Fv y) : KT G q d zk_X5_set 0 [(0, vr o), (1, vi t), (2, vi f), (3, vi v)] [] x (rv Fv) := by
  have hO := kiM_O ho
  obtain ⟨b1, b2, b3, b4, -⟩ := MG_b hM.1 hM.2.1
  refine kp_set hq ho hM.1 hM.2.1 _ _ _ et ef hT (by omega) (fun y ey => h y (MS_set hO hM hK h7 ey c2 c0 c3) (st_f ey) (fun j hj => ?_) (fun k hk => ?_) (fun k k9 k8 => ?_))
  · rw [ey, si_get, if_neg (fun z => ?_)]
    have := z.2
    unfold pa at this
    omega
  · rw [rg_set hO hM.1 hM.2.1 (by omega) (by omega) ey]
    by_cases hh : k = K
    · rw [if_pos ⟨rfl, hh⟩, if_pos hh]
    · rw [if_neg (fun q => hh q.2), if_neg hh]
  · rw [rg_set hO hM.1 hM.2.1 (by omega) (by omega) ey, if_neg (fun z => by omega)]
/-- one own step is done -/
def OWh (x y : gd) (o T : Nat) (s : Nat) (st : gNs) (lv : Nat → Int32) (r : Int32) : Prop :=
  (∃ n, ow1 (Int32.ofNat T) s st lv = .inl (3, n, s, lv) ∧ ¬ r = 0 ∧ r = Int32.ofNat n ∧ ∀ k, rg y o T k = rg x o T k) ∨ (ow1 (Int32.ofNat T) s st lv = .inl (2, 0, 0, lv) ∧ r = 0 ∧ rg y o T 0 = 2 ∧ rg y o T 2 = 0) ∨ (∃ s2 lv2, ow1 (Int32.ofNat T) s st lv = .inr (s2, lv2) ∧ r = 0 ∧ rg y o T 0 = rg x o T 0 ∧ (rg y o T 2).toInt = (s2 : Nat) ∧ (((aftN st).length : Int) ≤ (x.1 60 13).toInt) ∧ ∀ p, p < (aftN st).length → rg y o T (8 + p) = lv2 p)
theorem kh_own (hq : kV q) (ho : kiM q o) {T : Nat} (hM : MS R x o T) (hT : T < 6) (hTt : (T : Int) < (x.1 60 10).toInt) (t : Int32) (et : t.toInt = T) (h16 : 16 ≤ sop x (rg x o T 2).toInt.toNat) (hK : CK x C) (hN : NC C) {st0 : gNs} {lv : Nat → Int32} (hst : C.1[(rg x o T 2).toInt.toNat]? = some st0) (hlv : ∀ p, p < st0.2.1.length → rg x o T (8 + p) = lv p) (hml : (st0.2.1.length : Int) ≤ (x.1 60 13).toInt) (h : ∀ r y, MS R y o T → fm (sSt o) x y → sUx x y o T → sVx x y o T → rg y o T 1 = rg x o T 1 → (r = 0 → 20 ≤ sop x (rg x o T 2).toInt.toNat → ¬ rg y o T 0 = 1 ∨ (rg x o T 2).toInt < (rg y o T 2).toInt ∨ sop x (rg y o T 2).toInt.toNat = 17) → OWh x y o T (rg x o T 2).toInt.toNat st0 lv r → F r y) : KT G q (d + 2) zk_X5_ownFailure 0 [(0, vr o), (1, vi t), (2, vi (rg x o T 2)), (3, vi (x.1 81 (rg x o T 2).toInt.toNat))] [] x (ri F) := by
  have hO := kiM_O ho
  have k8 : (8 : Int32).toInt = 8 := rfl
  have k1 : (1 : Int32).toInt = 1 := rfl
  have tT : t = Int32.ofNat T := i32_of et
  obtain ⟨v, e, l⟩ := MM_st hM.1 (hM.2.2.1 T hTt).1
  obtain ⟨b1, b2, b3, b4, b5, b6, b7⟩ := MG_b hM.1 hM.2.1
  have hcs := (hM.1.2.2.2.1 _ l).2
  have s35 := hM.1.2.2.1.2
  have hA := (hM.2.2.1 T hTt).1
  have m8 := hM.1.1.2.2.2.1
  obtain ⟨st, est⟩ : ∃ st, st = (rg x o T 2).toInt.toNat := ⟨_, rfl⟩
  rw [← est] at h h16 l hcs hst ⊢
  have est2 : (rg x o T 2).toInt = st := by have := hA.1.1; omega
  have eN : (rg x o T 2).toNatClampNeg = st := by rw [t_cl, est2]; rfl
  have ns := hN.1 st st0 hst
  have n1 := ns.1.1
  obtain ⟨k81, k83, k84, -, -, -, -, k88, -⟩ := hK.1.2 st st0 hst
  have so : sop x st = (st0.1 : Nat) := by
    show (x.1 81 st).toInt = _
    rw [k81]
    exact Int32.toInt_ofNat_of_lt (by omega)
  have op_i : ∀ w : Nat, w < 22 → (x.1 81 st = Int32.ofNat w ↔ st0.1 = w) := fun w hw => by
    have e1 : (Int32.ofNat w).toInt = (w : Nat) := Int32.toInt_ofNat_of_lt (by omega)
    rw [t_eq, e1]
    have : (x.1 81 st).toInt = (st0.1 : Nat) := so
    omega
  have p12 : (st0.1 = 19 ∨ st0.1 = 21) → KT G q (d + 2) zk_X5_ownFailure 12 [(0, vr o), (1, vi t)] [] x (ri F) := by
    intro c12
    refine kg_X5_ownFailure_12 hq ho _ (kh_set hq ho hM hT _ _ _ et (show (0 : Int32).toInt = ((0 : Nat) : Int) from rfl) (by omega) (by omega) (fun c => by omega) (fun _ c => absurd c (by decide)) (fun c => by omega) (fun y hy fy ly gy wy => ?_))
    have y9 : y.1 o 9 = x.1 o 9 := fy _ _ (by unfold sSt; omega)
    have ys : ssm y = ssm x := by unfold ssm; rw [fy 80 9 (by unfold sSt; omega)]
    refine kh_set hq ho hy hT _ _ _ et (show (2 : Int32).toInt = ((2 : Nat) : Int) from rfl) (by rw [y9]; omega) (by omega) (fun _ => ⟨by decide, by rw [ys]; show (0 : Int) < _; omega⟩) (fun c => by omega) (fun c => by omega) (fun z hz fz lz gz wz => ri_i (h _ z hz (fm_tr fy fz) ?_ (sVx_tr hO fy wy wz) ?_ (fun _ _ => Or.inl ?_) (Or.inr (Or.inl ⟨?_, rfl, ?_, ?_⟩))))
    · refine ⟨fun k k3 k8' => ?_, lowE_tr hO fy ly lz⟩
      rw [gz k (by rw [y9]; omega), if_neg (by omega), gy k (by omega), if_neg (by omega)]
    · rw [gz 1 (by rw [y9]; omega), if_neg (by omega), gy 1 (by omega), if_neg (by omega)]
    · rw [gz 0 (by rw [y9]; omega), if_neg (by omega), gy 0 (by omega), if_pos rfl]; decide
    · unfold ow1; rw [if_pos c12]
    · rw [gz 0 (by rw [y9]; omega), if_neg (by omega), gy 0 (by omega), if_pos rfl]
    · rw [gz 2 (by rw [y9]; omega), if_pos rfl]
  -- a step is set
  have setp : ∀ (y : gd) (s2 : Int32) (n2 : Nat) (lv2 : Nat → Int32), MS R y o T → fm (sSt o) x y → sUx x y o T → sVx x y o T → rg y o T 1 = rg x o T 1 → rg y o T 0 = rg x o T 0 → (∀ p, p < (aftN st0).length → rg y o T (8 + p) = lv2 p) → ((aftN st0).length : Int) ≤ (x.1 60 13).toInt → ow1 (Int32.ofNat T) st st0 lv = .inr (n2, lv2) → s2.toInt = (n2 : Nat) → (0 ≤ s2.toInt ∧ s2.toInt < ssm x) → (20 ≤ sop x st → (st : Int) < s2.toInt ∨ sop x s2.toInt.toNat = 17) → KT G q (d + 1) zk_X5_set 0 [(0, vr o), (1, vi t), (2, vi 2), (3, vi s2)] [] y (rv (fun x1 => ri F (some (vi 0)) x1)) := by
    intro y s2 n2 lv2 hy fy gy gyv gy1 gy0 gyl hal how es2 hs hr
    have y9 : y.1 o 9 = x.1 o 9 := fy _ _ (by unfold sSt; omega)
    have ys : ssm y = ssm x := by unfold ssm; rw [fy 80 9 (by unfold sSt; omega)]
    refine kh_set hq ho hy hT _ _ _ et (show (2 : Int32).toInt = ((2 : Nat) : Int) from rfl) (by rw [y9]; omega) (by omega) (fun _ => by rw [ys]; exact hs) (fun c => by omega) (fun c => by omega) (fun z hz fz lz gz wz => ri_i (h _ z hz (fm_tr fy fz) ?_ (sVx_tr hO fy gyv wz) ?_ (fun _ c => Or.inr ?_) (Or.inr (Or.inr ⟨n2, lv2, how, rfl, ?_, ?_, hal, fun p hp => ?_⟩))))
    · refine ⟨fun k k3 k8' => ?_, lowE_tr hO fy gy.2 lz⟩
      rw [gz k (by rw [y9]; omega), if_neg (by omega)]; exact gy.1 k k3 k8'
    · rw [gz 1 (by rw [y9]; omega), if_neg (by omega)]; exact gy1
    · rw [gz 2 (by rw [y9]; omega), if_pos rfl, est2]; exact hr c
    · rw [gz 0 (by rw [y9]; omega), if_neg (by omega)]; exact gy0
    · rw [gz 2 (by rw [y9]; omega), if_pos rfl]; exact es2
    · rw [gz (8 + p) (by rw [y9]; push_cast; omega), if_neg (by omega)]; exact gyl p hp
  refine kg_X5_ownFailure_0 hq ho _ _ _ ⟨fun c => p12 (Or.inr ((op_i 21 (by decide)).mp c)), fun n21 => ⟨fun n19 => ⟨fun n20 => ⟨v, kf_localsAt hq ho hM.1 hM.2.1 _ et hT (fun r6 r0 r4 => ?_)⟩, fun c20 => ⟨v, ?_⟩⟩, fun c => p12 (Or.inl ((op_i 19 (by decide)).mp c))⟩⟩
  · have o21 : ¬ st0.1 = 21 := fun z => n21 ((op_i 21 (by decide)).mpr z)
    have o19 : ¬ st0.1 = 19 := fun z => n19 ((op_i 19 (by decide)).mpr z)
    have o20 : ¬ st0.1 = 20 := fun z => n20 ((op_i 20 (by decide)).mpr z)
    obtain ⟨Q, hQ⟩ := ns.2.2.2.2.2.1 (by omega)
    obtain ⟨q1, q2⟩ := ns.2.2.2.2.2.2.2.2.1 Q hQ
    rw [hQ] at k88
    have k88 : SUk x (x.1 88 st) (Q.map cQ) := k88
    have h800 := hM.1.2.1.1.2
    rw [eN]
    refine kf_work hq (kk_M5 ho) (kl_M5 hq ho) (by omega) _ _ _ (Q := Q) (lv := lv) (cv := fun _ => 0) h800 k88 q1 (fun p hp => ?_) (fun r8 y fy hwk => ?_)
    · obtain ⟨a1, a2, a3⟩ := q2 p hp
      refine ⟨a1, fun c => ?_, fun c => absurd c a3⟩
      have pl := a2 c
      have e8 : (Int32.ofNat p.2.1).toInt = (p.2.1 : Nat) := Int32.toInt_ofNat_of_lt (by omega)
      have es : (r6 + Int32.ofNat p.2.1).toInt = r6.toInt + (p.2.1 : Nat) := by rw [t_add (by omega) (by omega), e8]
      refine ⟨by rw [vp_in_iff, es]; omega, ?_⟩
      have ep : (r6 + Int32.ofNat p.2.1).toNatClampNeg = pa x o T (8 + p.2.1) := by
        rw [t_cl, es, r0]
        unfold pa
        omega
      rw [ep]
      exact hlv _ pl
    have hwk : wkR x y (wkQ lv (fun _ => 0) (Int32.ofNat T) Q) r8 := by rw [← tT]; exact hwk
    have hy : MS R y o T := MS_St hO fy hM
    have fS : fm (sSt o) x y := fm_w fy (fun c k q => by unfold sWk at q; unfold sSt; omega)
    have ry : ∀ k, rg y o T k = rg x o T k := fun k => rg_eq hO (fm_w fy (fun c k q => by unfold sWk at q; omega)) T k
    have uy : sUx x y o T := ⟨fun k _ _ => ry k, fun j _ => fy _ _ (by unfold sWk; omega)⟩
    have uv : sVx x y o T := fun k _ _ => ry k
    have n21' : ¬ sop x st = 21 := by omega
    have nx1 : (rg x o T 2 + 1).toInt = ((st + 1 : Nat) : Int) := by rw [t_add (by rw [k1]; omega) (by rw [k1]; omega), k1, est2]; push_cast; rfl
    have okn := hcs.2.2.2.2 n21'
    have ow : ow1 (Int32.ofNat T) st st0 lv = (match wkQ lv (fun _ => 0) (Int32.ofNat T) Q with | none => .inl (3, 1, st, lv) | some v => if st0.1 = 18 ∧ v = 0 then .inl (3, 5, st, lv) else .inr (if st0.1 = 17 ∧ v = 0 then st0.2.2.2.1.getD 0 else st + 1, if st0.1 = 16 then fup lv (st0.2.2.2.1.getD 0) v else lv)) := by
      unfold ow1
      rw [if_neg (by omega), if_neg o20, hQ]
      rfl
    have bad : ∀ (v9 : Int32) (n : Nat), ¬ v9 = 0 → v9 = Int32.ofNat n → ow1 (Int32.ofNat T) st st0 lv = .inl (3, n, st, lv) → ri F (some (vi v9)) y := fun v9 n h9 e9 how => ri_i (h _ y hy fS uy uv (ry 1) (fun c => absurd c h9) (Or.inl ⟨n, how, h9, e9, ry⟩))
    rcases hwk with ⟨v9, hw, er, y5⟩ | ⟨hw, y5⟩
    · subst er
      rw [hw] at ow
      have ow : ow1 (Int32.ofNat T) st st0 lv = (if st0.1 = 18 ∧ r8 = 0 then .inl (3, 5, st, lv) else .inr (if st0.1 = 17 ∧ r8 = 0 then st0.2.2.2.1.getD 0 else st + 1, if st0.1 = 16 then fup lv (st0.2.2.2.1.getD 0) r8 else lv)) := ow
      have p129 : ¬ (st0.1 = 18 ∧ r8 = 0) → ∀ z, MS R z o T → fm (sSt o) x z → sUx x z o T → sVx x z o T → rg z o T 1 = rg x o T 1 → rg z o T 0 = rg x o T 0 → (∀ p, p < (aftN st0).length → rg z o T (8 + p) = (if st0.1 = 16 then fup lv (st0.2.2.2.1.getD 0) r8 else lv) p) → ((aftN st0).length : Int) ≤ (x.1 60 13).toInt → KT G q (d + 2) zk_X5_ownFailure 129 [(0, vr o), (1, vi t), (2, vi (rg x o T 2)), (3, vi (x.1 81 st)), (4, vi r8)] [] z (ri F) := by
        intro n18 z hz fz gz gzv gz1 gz0 gzl hal
        rw [if_neg n18] at ow
        have up : ¬ (st0.1 = 17 ∧ r8 = 0) → KT G q (d + 1) zk_X5_set 0 [(0, vr o), (1, vi t), (2, vi 2), (3, vi (rg x o T 2 + 1))] [] z (rv (fun x1 => ri F (some (vi 0)) x1)) := fun nn => setp z (rg x o T 2 + 1) (st + 1) _ hz fz gz gzv gz1 gz0 gzl hal (by rw [ow, if_neg nn]) nx1 (by omega) (fun _ => Or.inl (by omega))
        refine kg_X5_ownFailure_129 hq ho _ _ _ _ ⟨fun n17 => kg_X5_ownFailure_158 hq ho _ _ _ (up (fun z => n17 ((op_i 17 (by decide)).mpr z.1))), fun c17 => ⟨fun nr => kg_X5_ownFailure_158 hq ho _ _ _ (up (fun z => nr z.2)), fun r0' => ⟨v, ?_⟩⟩⟩
        rw [eN, fz 84 _ (by unfold sSt; omega)]
        have c17' : st0.1 = 17 := (op_i 17 (by decide)).mp c17
        have s17 : sop x st = 17 := by omega
        obtain ⟨t1, t2, -⟩ := hcs.2.2.2.1 (Or.inl s17)
        obtain ⟨n, st', hto, -, -⟩ := ns.2.2.1 (Or.inl c17')
        have k84 := k84 (Or.inr (Or.inr (Or.inr (Or.inl c17'))))
        rw [hto] at k84
        have k84 : (x.1 84 st).toInt = (n : Nat) := k84
        exact kg_X5_ownFailure_158 hq ho _ _ _ (setp z _ n _ hz fz gz gzv gz1 gz0 gzl hal (by rw [ow, if_pos ⟨c17', r0'⟩, hto]; rfl) k84 ⟨t1, t2⟩ (fun c => by omega))
      have p104 : ¬ (st0.1 = 18 ∧ r8 = 0) → KT G q (d + 2) zk_X5_ownFailure 104 [(0, vr o), (1, vi t), (2, vi (rg x o T 2)), (3, vi (x.1 81 st)), (4, vi r8)] [] y (ri F) := by
        intro n18
        refine kg_X5_ownFailure_104 hq ho _ _ _ _ ⟨fun n16 => ?_, fun c16 => ⟨v, ?_⟩⟩
        · have o16 : ¬ st0.1 = 16 := fun z => n16 ((op_i 16 (by decide)).mpr z)
          have ea : aftN st0 = st0.2.1 := if_neg (fun z => by omega)
          refine p129 n18 y hy fS uy uv (ry 1) (ry 0) (fun p hp => ?_) (by rw [ea]; exact hml)
          rw [if_neg o16, ry, hlv p (by rw [ea] at hp; exact hp)]
        · have o16 : st0.1 = 16 := (op_i 16 (by decide)).mp c16
          rw [eN, fy 84 _ (by unfold sWk; omega)]
          have s16 : sop x st = 16 := by omega
          obtain ⟨t1, t2⟩ := hcs.2.2.1 (Or.inr (Or.inr s16))
          obtain ⟨p, hto, hp⟩ := ns.2.2.2.1 (Or.inr (Or.inr o16))
          have k84 := k84 (Or.inr (Or.inr (Or.inl o16)))
          rw [hto] at k84
          have k84 : (x.1 84 st).toInt = (p : Nat) := k84
          have e8 : (8 + x.1 84 st).toInt = ((8 + p : Nat) : Int) := by rw [t_add (by rw [k8]; omega) (by rw [k8]; omega), k8, k84]; push_cast; rfl
          have y9 : y.1 o 9 = x.1 o 9 := fS _ _ (by unfold sSt; omega)
          have hp13 : (p : Int) < (x.1 60 13).toInt := by
            have : stg x st < (x.1 60 13).toInt := t2
            unfold stg at this
            omega
          refine kh_set hq ho hy hT _ _ _ et e8 (by rw [y9]; push_cast; omega) (by omega) (fun c => by omega) (fun c => by omega) (fun c => by omega) (fun z hz fz lz gz wz => p129 n18 z hz (fm_tr fS fz) ?_ (sVx_tr hO fS uv wz) ?_ ?_ (fun j hj => ?_) ?_)
          · refine ⟨fun k k3 k8' => ?_, lowE_tr hO fS uy.2 lz⟩
            rw [gz k (by rw [y9]; omega), if_neg (by omega)]; exact ry k
          · rw [gz 1 (by rw [y9]; omega), if_neg (by omega)]; exact ry 1
          · rw [gz 0 (by rw [y9]; omega), if_neg (by omega)]; exact ry 0
          · have hal := aftN_le (st := st0)
            have hj8 : j ≤ st0.2.1.length := by omega
            have hj13 : (j : Int) < (x.1 60 13).toInt := by
              by_cases c : j < st0.2.1.length
              · omega
              · have : (aftN st0).length = st0.2.1.length + 1 := by omega
                have : j = p := by
                  unfold aftN at this
                  split at this
                  · next cc =>
                    rw [hto] at cc
                    have := Option.some.inj cc.2
                    omega
                  · omega
                omega
            rw [gz (8 + j) (by rw [y9]; push_cast; omega), if_pos o16, hto]
            show (if 8 + j = 8 + p then r8 else rg y o T (8 + j)) = if j = p then r8 else lv j
            by_cases c : j = p
            · rw [if_pos (by omega), if_pos c]
            · rw [if_neg (by omega), if_neg c, ry]
              refine hlv j ?_
              rcases hp with hp | ⟨hp, -⟩
              · have ea : aftN st0 = st0.2.1 := if_neg (fun z => by rw [hto] at z; have := Option.some.inj z.2; omega)
                rw [ea] at hj
                exact hj
              · omega
          · rcases hp with hp | ⟨hp, -⟩
            · have ea : aftN st0 = st0.2.1 := if_neg (fun z => by rw [hto] at z; have := Option.some.inj z.2; omega)
              rw [ea]; exact hml
            · have := (aftN_le (st := st0)).2
              omega
      exact ⟨fun _ => ⟨fun n18 => p104 (fun z => n18 ((op_i 18 (by decide)).mpr z.1)), fun c18 => ⟨fun nr => p104 (fun z => nr z.2), fun r0' => bad _ 5 (by decide) rfl (by rw [ow, if_pos ⟨(op_i 18 (by decide)).mp c18, r0'⟩])⟩⟩, fun n5' => absurd y5 n5'⟩
    · refine ⟨fun z5 => ?_, fun _ => bad _ 1 (by decide) rfl (by rw [ow, hw])⟩
      rw [y5] at z5
      exact absurd z5 (by decide)
  · have c20' : st0.1 = 20 := (op_i 20 (by decide)).mp c20
    have s20 : sop x st = 20 := by omega
    obtain ⟨t1, t2, t3⟩ := hcs.2.2.2.1 (Or.inr s20)
    obtain ⟨n, st', hto, -, -⟩ := ns.2.2.1 (Or.inr c20')
    have k84 := k84 (Or.inr (Or.inr (Or.inr (Or.inr c20'))))
    rw [hto] at k84
    have k84 : (x.1 84 st).toInt = (n : Nat) := k84
    have ea : aftN st0 = st0.2.1 := if_neg (fun z => by omega)
    rw [eN]
    refine setp x _ n lv hM (fm_rf _ _) sUx_rf sVx_rf rfl rfl (fun p hp => hlv p (by rw [ea] at hp; exact hp)) (by rw [ea]; exact hml) ?_ k84 ⟨t1, t2⟩ (fun _ => t3 s20)
    unfold ow1
    rw [if_neg (by omega), if_pos c20', hto]
    rfl
/-- how a settled thread stands -/
def finH (C : gCo) (y : gd) (o T : Nat) (r : gTr) : Prop := rg y o T 0 = Int32.ofNat r.1 ∧ rg y o T 1 = Int32.ofNat r.2.1 ∧ (rg y o T 2).toInt = (r.2.2.1 : Nat) ∧ (r.1 = 1 ∨ r.1 = 2 ∨ r.1 = 3) ∧ (r.1 = 1 ∨ r.1 = 3 → ∃ st, C.1[r.2.2.1]? = some st ∧ (st.2.1.length : Int) ≤ (y.1 60 13).toInt ∧ ∀ p, p < st.2.1.length → rg y o T (8 + p) = r.2.2.2 p)
theorem kh_fail (hq : kV q) (ho : kiM q o) {T : Nat} (hM : MS R x o T) (hT : T < 6) (t n : Int32) (et : t.toInt = T) (h : ∀ y, MS R y o T → fm (sSt o) x y → rg y o T 0 = 3 → rg y o T 1 = n → (∀ k : Nat, 2 ≤ k → (k : Int) < (x.1 o 9).toInt → rg y o T k = rg x o T k) → lowE x y o → sVx x y o T → Fv y) : KT G q (d + 1) zk_X5_fail 0 [(0, vr o), (1, vi t), (2, vi n)] [] x (rv Fv) := by
  obtain ⟨-, -, b3, -⟩ := MG_b hM.1 hM.2.1
  refine kg_X5_fail_0 hq ho _ _ (kh_set hq ho hM hT _ _ _ et (show (0 : Int32).toInt = ((0 : Nat) : Int) from rfl) (by omega) (by omega) (fun c => by omega) (fun _ c => absurd c (by decide)) (fun c => by omega) (fun y hy fy ly gy wy => ?_))
  have y9 : y.1 o 9 = x.1 o 9 := fy _ _ (by unfold sSt; have := kiM_O ho; omega)
  refine kh_set hq ho hy hT _ _ _ et (show (1 : Int32).toInt = ((1 : Nat) : Int) from rfl) (by rw [y9]; omega) (by omega) (fun c => by omega) (fun c => by omega) (fun c => by omega) (fun z hz fz lz gz wz => rv_i (h z hz (fm_tr fy fz) ?_ ?_ (fun k k2 k8 => ?_) (lowE_tr (kiM_O ho) fy ly lz) (sVx_tr (kiM_O ho) fy wy wz)))
  · rw [gz 0 (by rw [y9]; omega), if_neg (by omega), gy 0 (by omega), if_pos rfl]
  · rw [gz 1 (by rw [y9]; omega), if_pos rfl]
  · rw [gz k (by rw [y9]; omega), if_neg (by omega), gy k (by omega), if_neg (by omega)]
theorem kh_known (hq : kV q) (ho : kiM q o) (hC : CO x) (hG : MG x o) (t : Int32) {T : Nat} (et : t.toInt = T) (hT : T < 6) (hA : TA x o T) (h : ∀ r : Int32, 0 ≤ r.toInt → r.toInt ≤ 8 → (rg x o T 0 = 1 ∨ rg x o T 0 = 3 → r = x.1 83 (rg x o T 2).toInt.toNat) → (¬ (rg x o T 0 = 1 ∨ rg x o T 0 = 3) → r = 0) → F r x) : KT G q (d + 1) zk_X5_known 0 [(0, vr o), (1, vi t)] [] x (ri F) := by
  have p17 : (rg x o T 0 = 1 ∨ rg x o T 0 = 3) → KT G q (d + 1) zk_X5_known 17 [(0, vr o), (1, vi t)] [] x (ri F) := fun c9 => kg_X5_known_17 hq ho _ (kp_get hq ho hC hG _ _ et (show (2 : Int32).toInt = ((2 : Nat) : Int) from rfl) hT (by omega) (by
    obtain ⟨v, e, l⟩ := MM_st hC hA
    refine ⟨v, ri_i ?_⟩
    rw [e]
    have := (hC.2.2.2.1 _ l).2.2.1
    exact h _ this.1 this.2 (fun _ => rfl) (fun c => absurd c9 c)))
  exact kg_X5_known_0 hq ho _ (kp_get hq ho hC hG _ _ et (show (0 : Int32).toInt = ((0 : Nat) : Int) from rfl) hT (by omega) ⟨fun c => p17 (Or.inl c), fun c1 => ⟨fun c3 => ri_i (h _ (by decide) (by decide) (fun c => absurd c (fun z => z.elim c1 c3)) (fun _ => rfl)), fun c => p17 (Or.inr c)⟩⟩)
theorem kh_blank (hq : kV q) (ho : kiM q o) {T : Nat} (hM : MS R x o T) (hT : T < 6) (hTt : (T : Int) < (x.1 60 10).toInt) (t : Int32) (et : t.toInt = T) (h : ∀ y, MS R y o T → fm (sSt o) x y → lowE x y o → sVx x y o T → (∀ k, k < 8 → rg y o T k = rg x o T k) → (∀ p : Nat, (p : Int) < (x.1 60 13).toInt → rg y o T (8 + p) = if ((rg x o T 0 = 1 ∨ rg x o T 0 = 3) ∧ (p : Int) < (x.1 83 (rg x o T 2).toInt.toNat).toInt) then rg x o T (8 + p) else 0) → Fv y) : KT G q (d + 2) zk_X5_blankUnknown 0 [(0, vr o), (1, vi t)] [] x (rv Fv) := by
  have hO := kiM_O ho
  have k8 : (8 : Int32).toInt = 8 := rfl
  have m8 := hM.1.1.2.2.2.1
  have loop : ∀ (a : Int32), (∀ p : Nat, (p : Int) < (x.1 60 13).toInt → ((p : Int) < a.toInt ↔ ((rg x o T 0 = 1 ∨ rg x o T 0 = 3) ∧ (p : Int) < (x.1 83 (rg x o T 2).toInt.toNat).toInt))) → ∀ (n : Nat) (i : Int32) (y : gd), MS R y o T → fm (sSt o) x y → lowE x y o → sVx x y o T → (∀ k, k < 8 → rg y o T k = rg x o T k) → (∀ p : Nat, (p : Int) < (x.1 60 13).toInt → ((p : Int) < a.toInt → rg y o T (8 + p) = rg x o T (8 + p)) ∧ (¬ (p : Int) < a.toInt → (p : Int) < i.toInt → rg y o T (8 + p) = 0)) → a.toInt ≤ i.toInt → 0 ≤ i.toInt → (x.1 60 13).toInt - i.toInt ≤ n → KT G q (d + 2) zk_X5_blankUnknown 6 [(0, vr o), (1, vi t), (2, vi i)] [] y (rv Fv) := by
    intro a ha
    have done : ∀ (i : Int32) (y : gd), MS R y o T → fm (sSt o) x y → lowE x y o → sVx x y o T → (∀ k, k < 8 → rg y o T k = rg x o T k) → (∀ p : Nat, (p : Int) < (x.1 60 13).toInt → ((p : Int) < a.toInt → rg y o T (8 + p) = rg x o T (8 + p)) ∧ (¬ (p : Int) < a.toInt → (p : Int) < i.toInt → rg y o T (8 + p) = 0)) → (x.1 60 13).toInt ≤ i.toInt → Fv y := fun i y hy fy ly vy gy py c => h y hy fy ly vy gy (fun p hp => by
      by_cases c9 : (p : Int) < a.toInt
      · rw [if_pos ((ha p hp).mp c9)]; exact (py p hp).1 c9
      · rw [if_neg (fun z => c9 ((ha p hp).mpr z))]; exact (py p hp).2 c9 (by omega))
    intro n
    induction n with
    | zero =>
      intro i y hy fy ly vy gy py ia i0 hn
      refine kg_X5_blankUnknown_6 hq ho _ _ ⟨fun _ => rv_i (done i y hy fy ly vy gy py (by omega)), fun c => ?_⟩
      exfalso; rw [fy 60 13 (by unfold sSt; omega), t_le] at c; omega
    | succ n ih =>
      intro i y hy fy ly vy gy py ia i0 hn
      refine kg_X5_blankUnknown_6 hq ho _ _ ⟨fun c => rv_i (done i y hy fy ly vy gy py (by rw [fy 60 13 (by unfold sSt; omega), t_le] at c; exact c)), fun c => ?_⟩
      rw [fy 60 13 (by unfold sSt; omega), t_le] at c
      have e1 : (i + 1).toInt = i.toInt + 1 := t_add (by show _ ≤ _ + (1 : Int); omega) (by show _ + (1 : Int) ≤ _; omega)
      have e2 : (8 + i).toInt = ((8 + i.toInt.toNat : Nat) : Int) := by rw [t_add (by rw [k8]; omega) (by rw [k8]; omega), k8]; omega
      have y9 : (y.1 o 9).toInt = 8 + (x.1 60 13).toInt := by rw [fy o 9 (by unfold sSt; omega)]; exact hM.2.1.2.2.2.1
      refine kh_set hq ho hy hT _ _ _ et e2 (by omega) (by omega) (fun c => by omega) (fun c => by omega) (fun c => by omega) (fun z hz fz lz gz wz => ih _ z hz (fm_tr fy fz) (lowE_tr hO fy ly lz) (sVx_tr hO fy vy wz) (fun k hk => ?_) (fun p hp => ⟨fun c9 => ?_, fun c9 c8 => ?_⟩) (by omega) (by omega) (by omega))
      · rw [gz k (by omega), if_neg (by omega)]; exact gy k hk
      · rw [gz (8 + p) (by rw [y9]; push_cast; omega), if_neg (by omega)]; exact (py p hp).1 c9
      · rw [gz (8 + p) (by rw [y9]; push_cast; omega)]
        by_cases c7 : (p : Int) < i.toInt
        · rw [if_neg (by omega)]; exact (py p hp).2 c9 c7
        · rw [if_pos (by omega)]
  refine kg_X5_blankUnknown_0 hq ho _ (kh_known hq ho hM.1 hM.2.1 _ et hT (hM.2.2.1 T hTt).1 (fun r r0 r8 e1 e2 => loop r (fun p hp => ?_) 8 _ x hM (fm_rf _ _) (fun _ _ => rfl) sVx_rf (fun _ _ => rfl) (fun p hp => ⟨fun _ => rfl, fun c9 c8 => absurd c8 c9⟩) (Int.le_refl _) r0 (by omega)))
  by_cases c : rg x o T 0 = 1 ∨ rg x o T 0 = 3
  · rw [e1 c]; exact ⟨fun z => ⟨c, z⟩, fun z => z.2⟩
  · rw [e2 c]
    refine ⟨fun z => ?_, fun z => absurd z.1 c⟩
    have z : (p : Int) < 0 := z
    omega
theorem kh_settle (hq : kV q) (ho : kiM q o) {T : Nat} (hM : MS R x o T) (hTt : (T : Int) < (x.1 60 10).toInt) (t : Int32) (et : t.toInt = T) (h3 : rg x o T 3 = 0) (hK : CK x C) (hN : NC C) (hg0 : rg x o T 0 = 1) (hn0 : rg x o T 1 = 0) {st0 : gNs} {lv0 : Nat → Int32} (hst0 : C.1[(rg x o T 2).toInt.toNat]? = some st0) (hlv0 : ∀ p, p < st0.2.1.length → rg x o T (8 + p) = lv0 p) (hml0 : (st0.2.1.length : Int) ≤ (x.1 60 13).toInt) (h : ∀ y, MM y o → fm (sSt o) x y → (∀ t k : Nat, t ≠ T → (k : Int) < (x.1 o 8).toInt → rg y o t k = R t k) → sUx x y o T → sVx x y o T → (∃ n r, setP C (Int32.ofNat T) n 0 (rg x o T 2).toInt.toNat lv0 = some r ∧ finH C y o T r ∧ ∀ p : Nat, (p : Int) < (x.1 60 13).toInt → rg y o T (8 + p) = kvL C r.1 r.2.2.1 r.2.2.2 p) → Fv y) : KT G q (d + 3) zk_X5_settle 0 [(0, vr o), (1, vi t)] [] x (rv Fv) := by
  have hO := kiM_O ho
  have hT : T < 6 := MM_6 hM.1 hTt
  have k300 : (300 : Int32).toInt = 300 := rfl
  have k1m : (1000000 : Int32).toInt = 1000000 := rfl
  have k16 : (16 : Int32).toInt = 16 := rfl
  have k20 : (20 : Int32).toInt = 20 := rfl
  have k1 : (1 : Int32).toInt = 1 := rfl
  obtain ⟨G0, eG0⟩ : ∃ G0 : gTr → Prop, G0 = fun r => ∃ n, setP C (Int32.ofNat T) n 0 (rg x o T 2).toInt.toNat lv0 = some r := ⟨_, rfl⟩
  have p100 : ∀ y, MS R y o T → fm (sSt o) x y → sUx x y o T → sVx x y o T → (rg y o T 0 = 1 → sop y (rg y o T 2).toInt.toNat < 16) → (∃ r, G0 r ∧ finH C y o T r) → KT G q (d + 3) zk_X5_settle 100 [(0, vr o), (1, vi t)] [] y (rv Fv) := by
    intro y hy fy yu yv yg hfin
    have hTy : (T : Int) < (y.1 60 10).toInt := by rw [fy 60 10 (by unfold sSt; omega)]; exact hTt
    have y3 : rg y o T 3 = 0 := by rw [yu.1 3 (by omega) (by omega)]; exact h3
    refine kg_X5_settle_100 hq ho _ (kh_blank hq ho hy hT hTy _ et (fun z hz fz lz wz gz pz => rv_i (h z (MS_MM hz (fun _ => ?_)) (fm_tr fy fz) (fun t k hne hk => hz.2.2.2 t k hne (by rw [fz o 8 (by unfold sSt; omega), fy o 8 (by unfold sSt; omega)]; exact hk)) ⟨fun k k3 k8 => by rw [gz k k8]; exact yu.1 k k3 k8, lowE_tr hO fy yu.2 lz⟩ (sVx_tr hO fy yv wz) ?_)))
    · unfold TGo sop at *
      rw [gz 0 (by omega), gz 2 (by omega), gz 3 (by omega), fz 81 _ (by unfold sSt; omega)]
      exact fun c => ⟨yg c, fun c3 => absurd y3 c3⟩
    · obtain ⟨r, hr, hf⟩ := hfin
      rw [eG0] at hr
      obtain ⟨n, hn⟩ := hr
      obtain ⟨f0, f1, f2, f3, f4⟩ := hf
      have hKy : CK y C := CK_St hO hK fy
      have y13 : y.1 60 13 = x.1 60 13 := fy _ _ (by unfold sSt; omega)
      have key : ∀ p : Nat, (p : Int) < (x.1 60 13).toInt → rg z o T (8 + p) = kvL C r.1 r.2.2.1 r.2.2.2 p := fun p hp => by
        rw [pz p (by rw [y13]; exact hp)]
        unfold kvL
        rcases f3 with c | c | c
        · obtain ⟨st, g1, -, g2⟩ := f4 (Or.inl c)
          have e0 : rg y o T 0 = 1 := by rw [f0, c]; rfl
          have e2 : (rg y o T 2).toInt.toNat = r.2.2.1 := by rw [f2]; rfl
          have e3 : (stN C r.2.2.1) = st := by unfold stN; rw [g1]; rfl
          have e4 := (hKy.1.2 _ st g1).2.1
          rw [e2, e3, e4]
          by_cases c9 : p < st.2.1.length
          · rw [if_pos ⟨Or.inl e0, by omega⟩, if_pos ⟨Or.inl c, c9⟩]; exact g2 p c9
          · rw [if_neg (fun z => by omega), if_neg (fun z => c9 z.2)]
        · have e0 : rg y o T 0 = 2 := by rw [f0, c]; rfl
          rw [if_neg (fun z => by rw [e0] at z; exact absurd z.1 (by decide)), if_neg (fun z => by omega)]
        · obtain ⟨st, g1, -, g2⟩ := f4 (Or.inr c)
          have e0 : rg y o T 0 = 3 := by rw [f0, c]; rfl
          have e2 : (rg y o T 2).toInt.toNat = r.2.2.1 := by rw [f2]; rfl
          have e3 : (stN C r.2.2.1) = st := by unfold stN; rw [g1]; rfl
          have e4 := (hKy.1.2 _ st g1).2.1
          rw [e2, e3, e4]
          by_cases c9 : p < st.2.1.length
          · rw [if_pos ⟨Or.inr e0, by omega⟩, if_pos ⟨Or.inr c, c9⟩]; exact g2 p c9
          · rw [if_neg (fun z => by omega), if_neg (fun z => c9 z.2)]
      refine ⟨n, r, hn, ⟨by rw [gz 0 (by omega)]; exact f0, by rw [gz 1 (by omega)]; exact f1, by rw [gz 2 (by omega)]; exact f2, f3, fun c => ?_⟩, key⟩
      obtain ⟨st, g1, g3, g2⟩ := f4 c
      clear f4
      refine ⟨st, g1, by rw [fz 60 13 (by unfold sSt; omega)]; exact g3, fun p hp => ?_⟩
      rw [key p (by rw [← y13]; omega)]
      unfold kvL
      rw [if_pos ⟨c, by unfold stN; rw [g1]; exact hp⟩]
  obtain ⟨I, eI⟩ : ∃ I : Int32 → gd → Prop, I = fun own y => (rg y o T 0 = 1 ∧ rg y o T 1 = 0 ∧ ∃ st lv, C.1[(rg y o T 2).toInt.toNat]? = some st ∧ (∀ p, p < st.2.1.length → rg y o T (8 + p) = lv p) ∧ (st.2.1.length : Int) ≤ (x.1 60 13).toInt ∧ ∀ r, (∃ n, setP C (Int32.ofNat T) n own.toInt.toNat (rg y o T 2).toInt.toNat lv = some r) → G0 r) ∨ (¬ rg y o T 0 = 1 ∧ ∃ r, G0 r ∧ finH C y o T r) := ⟨_, rfl⟩
  have loop : ∀ (n : Nat) (own k : Int32) (y : gd), MS R y o T → fm (sSt o) x y → sUx x y o T → sVx x y o T → 0 ≤ own.toInt → own.toInt ≤ 301 → 0 ≤ k.toInt → (rg y o T 0 = 1 → own.toInt ≤ 300 ∧ (302 - own.toInt) * 1000 + rk x (rg y o T 2).toInt.toNat ≤ n) → k.toInt + n ≤ 500000 → I own y → KT G q (d + 3) zk_X5_settle 4 [(0, vr o), (1, vi t), (2, vi own), (3, vi k)] [] y (rv Fv) := by
    have noI : ∀ {own : Int32} {y : gd}, ¬ rg y o T 0 = 1 → I own y → ∃ r, G0 r ∧ finH C y o T r := fun {own y} hng hI => by
      rw [eI] at hI
      rcases hI with ⟨c, -⟩ | ⟨-, c⟩
      · exact absurd c hng
      · exact c
    intro n
    induction n with
    | zero =>
      intro own k y hy fy yu yv o0 o1 k0 hr hk hI
      have hng : ¬ rg y o T 0 = 1 := fun c => by have := hr c; omega
      refine kg_X5_settle_4 hq ho _ _ _ ⟨fun _ => p100 y hy fy yu yv (fun c => absurd c hng) (noI hng hI), fun _ => kp_isGoing hq ho hy.1 hy.2.1 _ et hT (fun c => absurd c hng) (fun _ => ⟨fun _ => p100 y hy fy yu yv (fun c => absurd c hng) (noI hng hI), fun c => absurd rfl c⟩)⟩
    | succ n ih =>
      intro own k y hy fy yu yv o0 o1 k0 hr hk hI
      have hTy : (T : Int) < (y.1 60 10).toInt := by rw [fy 60 10 (by unfold sSt; omega)]; exact hTt
      have hA := (hy.2.2.1 T hTy).1
      have ek : (k + 1).toInt = k.toInt + 1 := t_add (by rw [k1]; omega) (by rw [k1]; omega)
      refine kg_X5_settle_4 hq ho _ _ _ ⟨fun c => ?_, fun _ => kp_isGoing hq ho hy.1 hy.2.1 _ et hT (fun hg => ⟨fun c => absurd c (by decide), fun _ => kp_get hq ho hy.1 hy.2.1 _ _ et (show (2 : Int32).toInt = ((2 : Nat) : Int) from rfl) hT (by omega) ?_⟩) (fun hng => ⟨fun _ => p100 y hy fy yu yv (fun c => absurd c hng) (noI hng hI), fun c => absurd rfl c⟩)⟩
      · exfalso; rw [t_le, k1m] at c; omega
      have hI0 := hI
      rw [eI] at hI0
      obtain ⟨hy1, st, lv, hst, hlv, hml, lift⟩ : rg y o T 1 = 0 ∧ ∃ st lv, C.1[(rg y o T 2).toInt.toNat]? = some st ∧ (∀ p, p < st.2.1.length → rg y o T (8 + p) = lv p) ∧ (st.2.1.length : Int) ≤ (x.1 60 13).toInt ∧ ∀ r, (∃ n, setP C (Int32.ofNat T) n own.toInt.toNat (rg y o T 2).toInt.toNat lv = some r) → G0 r := by
        rcases hI0 with ⟨-, c⟩ | ⟨c, -⟩
        · exact c
        · exact absurd hg c
      clear hI0
      obtain ⟨v, e, l⟩ := MM_st hy.1 hA
      have s35 := hy.1.2.2.1.2
      have hrank := hr hg
      have hKy : CK y C := CK_St hO hK fy
      have es : ∀ j, sop y j = sop x j := fun j => by unfold sop; rw [fy 81 j (by unfold sSt; omega)]
      have rk1 : ∀ j, rk x j ≤ 401 := fun j => by unfold rk; split <;> omega
      have est2 : (rg y o T 2).toInt = (((rg y o T 2).toInt.toNat : Nat) : Int) := by have := hA.1.1; omega
      have ns := hN.1 _ st hst
      have so : sop y (rg y o T 2).toInt.toNat = (st.1 : Nat) := by
        show (y.1 81 _).toInt = _
        rw [(hKy.1.2 _ st hst).1]
        exact Int32.toInt_ofNat_of_lt (by have := ns.1.1; omega)
      have y13 : y.1 60 13 = x.1 60 13 := fy _ _ (by unfold sSt; omega)
      -- the thread's own step is done, with own steps counted own2
      have p80 : ∀ (own2 r : Int32) (z : gd), MS R z o T → fm (sSt o) y z → sUx x z o T → sVx x z o T → 0 ≤ own2.toInt → own2.toInt ≤ 301 → (r = 0 → rg z o T 0 = 1 → own2.toInt ≤ 300 ∧ (302 - own2.toInt) * 1000 + rk x (rg z o T 2).toInt.toNat ≤ n) → (r = 0 → I own2 z) → (¬ r = 0 → ∃ r9, G0 r9 ∧ r9.1 = 3 ∧ r = Int32.ofNat r9.2.1 ∧ (rg z o T 2).toInt = (r9.2.2.1 : Nat) ∧ ∃ st, C.1[r9.2.2.1]? = some st ∧ (st.2.1.length : Int) ≤ (x.1 60 13).toInt ∧ ∀ p, p < st.2.1.length → rg z o T (8 + p) = r9.2.2.2 p) → KT G q (d + 3) zk_X5_settle 80 [(0, vr o), (1, vi t), (2, vi own2), (3, vi k)] [vi r] z (rv Fv) := by
        intro own2 r z hz fz zu zv q0 q1 hrz hI0 hI1
        have z9 : (z.1 o 9).toInt = 8 + (x.1 60 13).toInt := by rw [fz o 9 (by unfold sSt; omega), fy o 9 (by unfold sSt; omega)]; exact hM.2.1.2.2.2.1
        have m13 := hM.1.1.2.2.2.1.1
        refine kg_X5_settle_80 hq ho _ _ _ _ ⟨fun c => ih own2 (k + 1) z hz (fm_tr fy fz) zu zv q0 q1 (by omega) (hrz c) (by omega) (hI0 c), fun c => kh_fail hq ho hz hT _ _ et (fun w hw fw w0 w1 wu lw wv => ih own2 (k + 1) w hw (fm_tr fy (fm_tr fz fw)) ⟨fun k k3 k8 => by rw [wu k (by omega) (by rw [z9]; omega)]; exact zu.1 k k3 k8, lowE_tr hO (fm_tr fy fz) zu.2 lw⟩ (sVx_tr hO (fm_tr fy fz) zv wv) q0 q1 (by omega) (fun c => ?_) (by omega) ?_)⟩
        · rw [w0] at c; exact absurd c (by decide)
        · obtain ⟨r9, g1, g2, g4, g3, st9, a1, a2, a3⟩ := hI1 c
          rw [eI]
          refine Or.inr ⟨by rw [w0]; decide, r9, g1, ?_, ?_, ?_, Or.inr (Or.inr g2), fun _ => ⟨st9, a1, by rw [fw 60 13 (by unfold sSt; omega), fz 60 13 (by unfold sSt; omega), fy 60 13 (by unfold sSt; omega)]; exact a2, fun p hp => ?_⟩⟩
          · rw [w0, g2]; rfl
          · rw [w1]; exact g4
          · rw [wu 2 (by omega) (by rw [z9]; omega)]; exact g3
          · rw [wu (8 + p) (by omega) (by rw [z9]; push_cast; omega)]; exact a3 p hp
      have p59 : ∀ own2 : Int32, 0 ≤ own2.toInt → own2.toInt ≤ 301 → 16 ≤ sop y (rg y o T 2).toInt.toNat → (sop y (rg y o T 2).toInt.toNat < 20 → own2.toInt = own.toInt + 1) → (20 ≤ sop y (rg y o T 2).toInt.toNat → own2 = own) → KT G q (d + 3) zk_X5_settle 59 [(0, vr o), (1, vi t), (2, vi own2), (3, vi k), (4, vi (rg y o T 2)), (5, vi (y.1 81 (rg y o T 2).toInt.toNat))] [] y (rv Fv) := by
        intro own2 q0 q1 h16 hlt hge
        have n16 : ¬ st.1 < 16 := by omega
        have eown : (if st.1 < 20 then own.toInt.toNat + 1 else own.toInt.toNat) = own2.toInt.toNat := by
          by_cases c : st.1 < 20
          · rw [if_pos c]; have := hlt (by omega); omega
          · rw [if_neg c, hge (by omega)]
        refine kg_X5_settle_59 hq ho _ _ _ _ _ ⟨fun c => kh_own hq ho hy hT hTy _ et h16 hKy hN hst hlv (by rw [y13]; exact hml) (fun r z hz fz zu zv z1 hzz how => ?_), fun c => p80 own2 6 y hy (fm_rf _ _) yu yv q0 q1 (fun c6 => absurd c6 (by decide)) (fun c6 => absurd c6 (by decide)) (fun _ => ?_)⟩
        · rw [t_le, k300] at c
          have c2 : ¬ (st.1 < 20 ∧ 300 ≤ own.toInt.toNat) := fun z => by have := hlt (by omega); omega
          refine p80 own2 r z hz fz (sUx_tr hO fy yu zu) (sVx_tr hO fy yv zv) q0 q1 (fun hr0 hgz => ⟨c, ?_⟩) (fun hr0 => ?_) (fun hr0 => ?_)
          · by_cases h20 : 20 ≤ sop y (rg y o T 2).toInt.toNat
            · rw [hge h20]
              have h0 := hzz hr0 h20
              have hne : ¬ sop x (rg y o T 2).toInt.toNat = 17 := by rw [es] at h20; omega
              have hr1 : rk x (rg y o T 2).toInt.toNat = 401 - (rg y o T 2).toInt.toNat := by unfold rk; rw [if_neg hne]
              rcases h0 with g | g | g
              · exact absurd hgz g
              · have hAz := (hz.2.2.1 T (by rw [fz 60 10 (by unfold sSt; omega)]; exact hTy)).1
                have hz2 := hAz.1.1
                have : rk x (rg z o T 2).toInt.toNat ≤ 401 - (rg z o T 2).toInt.toNat := by unfold rk; split <;> omega
                have y0 := hA.1.1
                omega
              · have : rk x (rg z o T 2).toInt.toNat = 0 := by
                  unfold rk
                  rw [es] at g
                  rw [if_pos g]
                omega
            · have e1 := hlt (by omega)
              have := rk1 (rg z o T 2).toInt.toNat
              rw [e1]
              omega
          · rw [eI]
            rcases how with ⟨n9, how, hr9, -⟩ | ⟨how, -, hz0, hz2⟩ | ⟨s2, lv2, how, -, hz0, hz2, hza, hzl⟩
            · exact absurd hr0 hr9
            · refine Or.inr ⟨by rw [hz0]; decide, (2, 0, 0, lv), lift _ ⟨1, set_l hst n16 c2 how⟩, hz0, by rw [z1]; exact hy1, by rw [hz2]; rfl, Or.inr (Or.inl rfl), fun z => absurd z (by show ¬ (2 = 1 ∨ 2 = 3); decide)⟩
            · obtain ⟨st', a1, a2⟩ := ow1_next ns (by omega) how
              have e2 : (rg z o T 2).toInt.toNat = s2 := by rw [hz2]; rfl
              refine Or.inl ⟨by rw [hz0]; exact hg, by rw [z1]; exact hy1, st', lv2, by rw [e2]; exact a1, fun p hp => hzl p (by omega), by rw [y13] at hza; omega, fun r9 hr9 => lift r9 ?_⟩
              obtain ⟨m, hm⟩ := hr9
              refine ⟨m + 1, ?_⟩
              rw [set_r hst n16 c2 how, eown]
              rw [e2] at hm
              exact hm
          · rcases how with ⟨n9, how, -, en9, hz9⟩ | ⟨-, hr9, -⟩ | ⟨s2, lv2, -, hr9, -⟩
            · exact ⟨(3, n9, _, lv), lift _ ⟨1, set_l hst n16 c2 how⟩, rfl, en9, by rw [hz9]; exact est2, st, hst, hml, fun p hp => by rw [hz9]; exact hlv p hp⟩
            · exact absurd hr9 hr0
            · exact absurd hr9 hr0
        · rw [t_le, k300] at c
          have c20 : st.1 < 20 := by
            by_cases c9 : st.1 < 20
            · exact c9
            · have := hge (by omega)
              rw [this] at c
              omega
          have := hlt (by omega)
          exact ⟨(3, 6, _, lv), lift _ ⟨1, set_6 hst n16 ⟨c20, by omega⟩⟩, rfl, rfl, est2, st, hst, hml, hlv⟩
      refine ⟨v, ?_⟩
      rw [e]
      refine ⟨fun c16 => ⟨fun c20 => ?_, fun c20 => ?_⟩, fun c16 => p100 y hy fy yu yv (fun _ => ?_) ?_⟩
      · rw [t_le, k16] at c16
        rw [t_le, k20] at c20
        exact p59 own o0 o1 c16 (fun c => by unfold sop at c; omega) (fun _ => rfl)
      · rw [t_le, k16] at c16
        rw [t_le, k20] at c20
        have e1 : (own + 1).toInt = own.toInt + 1 := t_add (by rw [k1]; omega) (by rw [k1]; omega)
        exact p59 (own + 1) (by omega) (by omega) c16 (fun _ => e1) (fun c => by unfold sop at c; omega)
      · rw [t_le, k16] at c16; unfold sop; omega
      · rw [t_le, k16] at c16
        have s16 : sop y (rg y o T 2).toInt.toNat < 16 := by unfold sop; omega
        exact ⟨(1, 0, _, lv), lift _ ⟨1, set_act hst (by omega)⟩, by rw [hg]; rfl, by rw [hy1]; rfl, est2, Or.inl rfl, fun _ => ⟨st, hst, by rw [y13]; exact hml, hlv⟩⟩
  refine kg_X5_settle_0 hq ho _ (loop 400000 _ _ x hM (fm_rf _ _) sUx_rf sVx_rf (by decide) (by decide) (by decide) (fun _ => ?_) (by decide) ?_)
  · have : rk x (rg x o T 2).toInt.toNat ≤ 401 := by unfold rk; split <;> omega
    show (0 : Int) ≤ 300 ∧ (302 - (0 : Int)) * 1000 + _ ≤ _
    omega
  · rw [eI]
    refine Or.inl ⟨hg0, hn0, st0, lv0, hst0, hlv0, hml0, fun r hr => ?_⟩
    rw [eG0]
    exact hr
end KSH
end
section
/-! the class's machine holds the machine's state -/
def kTq (x : gd) (o : Nat) (C : gCo) (t : Nat) (h : gTq) : Prop :=
  (rg x o t 0 = Int32.ofNat h.1 ∧ h.1 ≤ 3) ∧ rg x o t 1 = Int32.ofNat h.2.1 ∧ (rg x o t 2).toInt = (h.2.2.1 : Nat) ∧
  (rg x o t 3 = (if h.2.2.2.1 = 0 then 0 else (stN C h.2.2.1).2.2.2.2.1 + 1) ∧ rg x o t 5 = (if h.2.2.2.1 = 2 then 1 else 0) ∧ h.2.2.2.1 ≤ 2 ∧ (¬ h.2.2.2.1 = 0 → (stN C h.2.2.1).1 = 7)) ∧
  rg x o t 4 = h.2.2.2.2.1 ∧ rg x o t 6 = h.2.2.2.2.2.1 + 1 ∧
  ((rg x o t 7).toInt = (h.2.2.2.2.2.2.1.length : Nat) ∧ ∀ i p, h.2.2.2.2.2.2.1[i]? = some p → (rg x o t ((x.1 o 9).toInt.toNat + 2 * i)).toInt = (p.1 : Nat) ∧ rg x o t ((x.1 o 9).toInt.toNat + 2 * i + 1) = p.2) ∧
  (∀ p : Nat, (p : Int) < (x.1 60 13).toInt → rg x o t (8 + p) = h.2.2.2.2.2.2.2 p) ∧
  (h.1 = 1 ∨ h.1 = 3 → ((stN C h.2.2.1).2.1.length : Int) ≤ (x.1 60 13).toInt)
/-- cells and locks -/
def KMl (x : gd) (o : Nat) (M : gMa) : Prop := (∀ c : Nat, (c : Int) < (x.1 60 6).toInt → x.1 (o + 5) c = M.1 c) ∧ ∀ l : Nat, (l : Int) < (x.1 60 9).toInt → x.1 (o + 5) ((x.1 60 6).toInt.toNat + 2 * l) = Int32.ofNat (M.2.1 l).1 ∧ (M.2.1 l).1 ≤ 6 ∧ x.1 (o + 5) ((x.1 60 6).toInt.toNat + 2 * l + 1) = (M.2.1 l).2
def KMm (x : gd) (o : Nat) (C : gCo) (M : gMa) : Prop := KMl x o M ∧ ∀ t, t < C.2.1.length → kTq x o C t (M.2.2 t)
section KMR
variable {G : kG} {q : kP} {d : Nat} {x x0 y z : gd} {o : Nat} {F : Int32 → gd → Prop} {Fv : gd → Prop} {C : gCo} {M : gMa} {h h' : gTq} {t T : Nat}
theorem sM_e (hO : o = 120 ∨ o = 220) (f : fm (sMk o) x y) : y.1 60 6 = x.1 60 6 ∧ y.1 60 9 = x.1 60 9 ∧ y.1 60 13 = x.1 60 13 ∧ y.1 o 9 = x.1 o 9 ∧ y.1 o 8 = x.1 o 8 ∧ y.1 o 7 = x.1 o 7 ∧ y.1 60 10 = x.1 60 10 := ⟨f _ _ (by unfold sMk; omega), f _ _ (by unfold sMk; omega), f _ _ (by unfold sMk; omega), f _ _ (by unfold sMk; omega), f _ _ (by unfold sMk; omega), f _ _ (by unfold sMk; omega), f _ _ (by unfold sMk; omega)⟩
theorem CK_M (hO : o = 120 ∨ o = 220) (hK : CK x C) (f : fm (sMk o) x y) : CK y C := CK_f hK (fun c k hc => f c k (by unfold sMk; omega))
/-- its late ones lie within the row -/
theorem lt_in (hC : CO x) (hG : MG x o) (hA : TA x o t) {i : Nat} (hi : (i : Int) < (rg x o t 7).toInt) : x.1 o 3 = 1 ∧ (((x.1 o 9).toInt.toNat + 2 * i + 1 : Nat) : Int) < (x.1 o 8).toInt := by
  obtain ⟨b1, b2, b3, b4, b5, -⟩ := MG_b hC hG
  have k0 : (0 : Int32).toInt = 0 := rfl
  have hw : x.1 o 3 = 1 := by
    by_cases hw : x.1 o 3 = 1
    · exact hw
    · have := hA.2.2.1 hw
      rw [this, k0] at hi; omega
  have := b5 hw
  have := hA.2.1
  exact ⟨hw, by omega⟩
theorem kTq_e (hC : CO x) (hG : MG x o) (hA : TA x o t) (e13 : y.1 60 13 = x.1 60 13) (e9 : y.1 o 9 = x.1 o 9) (e : ∀ k : Nat, (k : Int) < (x.1 o 8).toInt → rg y o t k = rg x o t k) (g : kTq x o C t h) : kTq y o C t h := by
  obtain ⟨b1, b2, b3, b4, b5, b6, b7⟩ := MG_b hC hG
  obtain ⟨⟨q0, q0'⟩, q1, q2, ⟨q3, q5, qw⟩, q4, q6, ⟨q7, ql⟩, qv, qk⟩ := g
  refine ⟨⟨by rw [e 0 (by omega)]; exact q0, q0'⟩, by rw [e 1 (by omega)]; exact q1, by rw [e 2 (by omega)]; exact q2, ⟨by rw [e 3 (by omega)]; exact q3, by rw [e 5 (by omega)]; exact q5, qw⟩, by rw [e 4 (by omega)]; exact q4, by rw [e 6 (by omega)]; exact q6, ⟨by rw [e 7 (by omega)]; exact q7, fun i p hp => ?_⟩, fun p hp => ?_, by rw [e13]; exact qk⟩
  · have hi := gt_lt hp
    have := (lt_in hC hG hA (i := i) (by rw [q7]; omega)).2
    rw [e9, e _ (by omega), e _ (by omega)]; exact ql i p hp
  · rw [e13] at hp; rw [e _ (by push_cast; omega)]; exact qv p hp
theorem KMl_e (hG : MG x o) (f6 : y.1 60 6 = x.1 60 6) (f9 : y.1 60 9 = x.1 60 9) (l : lowE x y o) (g : KMl x o M) (hC : CO x) : KMl y o M := by
  obtain ⟨g1, g2, g3, -⟩ := hG
  have c1 := hC.1.1
  have c2 := hC.1.2.1
  refine ⟨fun c hc => ?_, fun l' hl => ?_⟩
  · rw [f6] at hc; rw [l c (by omega)]; exact g.1 c hc
  · rw [f9] at hl
    rw [f6, l _ (by omega), l _ (by omega)]; exact g.2 l' hl
/-- nothing of the row changes -/
theorem KMm_fr (hO : o = 120 ∨ o = 220) (hM : MM x o) (hK : CK x C) (f6 : y.1 60 6 = x.1 60 6) (f9 : y.1 60 9 = x.1 60 9) (e13 : y.1 60 13 = x.1 60 13) (e9 : y.1 o 9 = x.1 o 9) (l : lowE x y o) (e : ∀ t k, rg y o t k = rg x o t k) (g : KMm x o C M) : KMm y o C M := by
  have nT : (x.1 60 10).toInt = C.2.1.length := hK.2.1.1
  exact ⟨KMl_e hM.2.1 f6 f9 l g.1 hM.1, fun t ht => kTq_e hM.1 hM.2.1 (hM.2.2 t (by omega)).1 e13 e9 (fun k _ => e t k) (g.2 t ht)⟩
/-- a thread's fields change -/
theorem KMm_T (hO : o = 120 ∨ o = 220) (hM : MM x o) (hK : CK x C) (f : fm (sMk o) x y) (l : lowE x y o) (e : ∀ t k : Nat, t ≠ T → (k : Int) < (x.1 o 8).toInt → rg y o t k = rg x o t k) (g : KMm x o C M) (g' : kTq y o C T h') : KMm y o C (upT M T h') := by
  have nT : (x.1 60 10).toInt = C.2.1.length := hK.2.1.1
  obtain ⟨f6, f9, e13, e9, -⟩ := sM_e hO f
  refine ⟨KMl_e hM.2.1 f6 f9 l g.1 hM.1, fun t ht => ?_⟩
  show kTq y o C t (upf M.2.2 T h' t)
  unfold upf
  by_cases c : t = T
  · rw [if_pos c, c]; exact g'
  · rw [if_neg c]; exact kTq_e hM.1 hM.2.1 (hM.2.2 t (by omega)).1 e13 e9 (fun k hk => e t k c hk) (g.2 t ht)
/-- a cell is written -/
theorem KMm_c (hO : o = 120 ∨ o = 220) (hM : MM x o) (hK : CK x C) {c : Nat} {v : Int32} (hc : (c : Int) < (x.1 60 6).toInt) (ey : y = si x (o + 5) c v) (g : KMm x o C M) : KMm y o C (upC M c v) := by
  have nT : (x.1 60 10).toInt = C.2.1.length := hK.2.1.1
  obtain ⟨g1, g2, g3, -⟩ := hM.2.1
  have c2 := hM.1.1.2.1
  have f : ∀ c' k, c' ≠ o + 5 → y.1 c' k = x.1 c' k := fun c' k hc' => by rw [ey, si_cell hc']
  have r : ∀ t k, rg y o t k = rg x o t k := fun t k => rg_low hO (by omega) ey
  refine ⟨⟨fun c' hc' => ?_, fun l hl => ?_⟩, fun t ht => kTq_e hM.1 hM.2.1 (hM.2.2 t (by omega)).1 (f _ _ (by omega)) (f _ _ (by omega)) (fun k _ => r t k) (g.2 t ht)⟩
  · rw [f 60 6 (by omega)] at hc'
    rw [ey, si_get]
    show _ = upf M.1 c v c'
    unfold upf
    by_cases e : c' = c
    · rw [if_pos ⟨rfl, e⟩, if_pos e]
    · rw [if_neg (fun z => e z.2), if_neg e]; exact g.1.1 c' hc'
  · rw [f 60 9 (by omega)] at hl
    rw [f 60 6 (by omega), ey, si_get, if_neg (fun z => by have := z.2; omega), si_get, if_neg (fun z => by have := z.2; omega)]
    exact g.1.2 l hl
theorem AR_KM {S : Nat → Prop} (hO : o = 120 ∨ o = 220) (hM : MM x o) (hK : CK x C) (a : AR S x y o) (l : lowE x y o) (e : ∀ t k, rg y o t k = rg x o t k) (g : KMm x o C M) : KMm y o C M := by
  obtain ⟨f6, f9, e13, e9, -⟩ := sM_e hO a.2.1
  exact KMm_fr hO hM hK f6 f9 e13 e9 l e g
/-- a lock is set -/
theorem kh_setLock {S : Nat → Prop} (hq : kV q) (ho : kiM q o) (hM : MM x o) (hK : CK x C) (g : KMm x o C M) (l a b : Int32) {L n : Nat} (eL : l.toInt = L) (hl : (L : Int) < (x.1 60 9).toInt) (ha : a + 1 = Int32.ofNat n) (hn : n ≤ 6) (hF : ∀ y, AR S x y o → (∀ t k, rg y o t k = rg x o t k) → KMm y o C (upL M L (n, b)) → Fv y) : KT G q d zk_X5_setLock 0 [(0, vr o), (1, vi l), (2, vi a), (3, vi b)] [] x (rv Fv) := by
  have nT : (x.1 60 10).toInt = C.2.1.length := hK.2.1.1
  have hO := kiM_O ho
  obtain ⟨e1, e2, e3, e4, e5⟩ := lk_ix hM.1 hM.2.1 (l := l) (by omega) (by omega)
  have c1 := hM.1.1.1
  refine kg_X5_setLock_0 hq ho _ _ _ ⟨by rw [vp_in_iff]; omega, fun x2 f2 => ?_⟩
  have q6 : x2.1 o 6 = x.1 o 6 := by rw [f2, si_cell (by omega)]
  have q7 : x2.1 o 7 = x.1 o 7 := by rw [f2, si_cell (by omega)]
  rw [q6]
  refine ⟨by rw [vp_in_iff]; omega, fun z fz => rv_i ?_⟩
  have n1 : (x.1 o 6 + 2 * l).toNatClampNeg = (x.1 60 6).toInt.toNat + 2 * L := by rw [t_cl, e1]; omega
  have n2 : (x.1 o 6 + 2 * l + 1).toNatClampNeg = (x.1 60 6).toInt.toNat + 2 * L + 1 := by rw [t_cl, e2]; omega
  rw [n1] at f2
  rw [n2] at fz
  have r : ∀ t k, rg z o t k = rg x o t k := fun t k => by
    rw [rg_low hO (j := (x.1 60 6).toInt.toNat + 2 * L + 1) (by rw [q7]; omega) fz, rg_low hO (by omega) f2]
  have fr : fm (fun c k => c = o + 5) x z := by rw [fz, f2]; exact fm_si (fm_si (fm_rf _ _) rfl) rfl
  have ar : AR S x z o := AR_row hO hM fr r
  have f : ∀ c' k, c' ≠ o + 5 → z.1 c' k = x.1 c' k := fun c' k hc' => fr _ _ hc'
  have gt : ∀ j, z.1 (o + 5) j = if j = (x.1 60 6).toInt.toNat + 2 * L + 1 then b else if j = (x.1 60 6).toInt.toNat + 2 * L then a + 1 else x.1 (o + 5) j := fun j => by
    rw [fz, si_get]
    by_cases c : j = (x.1 60 6).toInt.toNat + 2 * L + 1
    · rw [if_pos ⟨rfl, c⟩, if_pos c]
    · rw [if_neg (fun z => c z.2), if_neg c, f2, si_get]
      by_cases c' : j = (x.1 60 6).toInt.toNat + 2 * L
      · rw [if_pos ⟨rfl, c'⟩, if_pos c']
      · rw [if_neg (fun z => c' z.2), if_neg c']
  refine hF z ar r ⟨⟨fun c' hc' => ?_, fun l' hl' => ?_⟩, fun t ht => kTq_e hM.1 hM.2.1 (hM.2.2 t (by omega)).1 (f _ _ (by omega)) (f _ _ (by omega)) (fun k _ => r t k) (g.2 t ht)⟩
  · rw [f 60 6 (by omega)] at hc'
    rw [gt, if_neg (by omega), if_neg (by omega)]; exact g.1.1 c' hc'
  · rw [f 60 9 (by omega)] at hl'
    rw [f 60 6 (by omega), gt, gt]
    show _ = Int32.ofNat (upf M.2.1 L (n, b) l').1 ∧ (upf M.2.1 L (n, b) l').1 ≤ 6 ∧ _ = (upf M.2.1 L (n, b) l').2
    unfold upf
    by_cases c : l' = L
    · rw [if_pos c, if_neg (by omega), if_pos (by omega), if_pos (by omega)]; exact ⟨ha, hn, rfl⟩
    · rw [if_neg c, if_neg (by omega), if_neg (by omega), if_neg (by omega), if_neg (by omega)]; exact g.1.2 l' hl'
theorem kh_holder (hq : kV q) (ho : kiM q o) (hM : MM x o) (g : KMm x o C M) (l : Int32) {L : Nat} (eL : l.toInt = L) (hl : (L : Int) < (x.1 60 9).toInt) (h : F (Int32.ofNat (M.2.1 L).1 - 1) x) : KT G q d zk_X5_holder 0 [(0, vr o), (1, vi l)] [] x (ri F) := by
  obtain ⟨e1, e2, e3, e4, e5⟩ := lk_ix hM.1 hM.2.1 (l := l) (by omega) (by omega)
  have c1 := hM.1.1.1
  refine kg_X5_holder_0 hq ho _ ⟨by rw [vp_in_iff]; omega, ri_i ?_⟩
  have n1 : (x.1 o 6 + 2 * l).toNatClampNeg = (x.1 60 6).toInt.toNat + 2 * L := by rw [t_cl, e1]; omega
  rw [n1, (g.1.2 L hl).1]; exact h
theorem kh_often (hq : kV q) (ho : kiM q o) (hM : MM x o) (g : KMm x o C M) (l : Int32) {L : Nat} (eL : l.toInt = L) (hl : (L : Int) < (x.1 60 9).toInt) (h : F (M.2.1 L).2 x) : KT G q d zk_X5_often 0 [(0, vr o), (1, vi l)] [] x (ri F) := by
  obtain ⟨e1, e2, e3, e4, e5⟩ := lk_ix hM.1 hM.2.1 (l := l) (by omega) (by omega)
  have c1 := hM.1.1.1
  refine kg_X5_often_0 hq ho _ ⟨by rw [vp_in_iff]; omega, ri_i ?_⟩
  have n2 : (x.1 o 6 + 2 * l + 1).toNatClampNeg = (x.1 60 6).toInt.toNat + 2 * L + 1 := by rw [t_cl, e2]; omega
  rw [n2, (g.1.2 L hl).2.2]; exact h
/-- a lock's holder is nobody, or this thread -/
theorem hol_n : ∀ h, h < 7 → (Int32.ofNat h - 1 = -1 ↔ h = 0) := by decide +kernel
theorem kw_i (hA : TA x o t) (g : kTq x o C t h) : rg x o t 0 = 1 ↔ h.1 = 1 := by
  obtain ⟨⟨q0, q0'⟩, -⟩ := g
  have s : ∀ n, n < 4 → (Int32.ofNat n = 1 ↔ n = 1) := by decide +kernel
  rw [q0]; exact s _ (by omega)
end KMR
end
section
/-! the class: its machine is looked at, with what it holds -/
section KMS
variable {G : kG} {q : kP} {d : Nat} {x x0 y z : gd} {o : Nat} {F : Int32 → gd → Prop} {Fv : gd → Prop} {C : gCo} {M : gMa} {h h' : gTq} {t T w : Nat}
theorem kst_at (hM : MM x o) (hK : CK x C) (hN : NC C) (ht : t < C.2.1.length) (g : kTq x o C t h) : ∃ st, C.1[h.2.2.1]? = some st ∧ stN C h.2.2.1 = st ∧ (rg x o t 2).toInt.toNat = h.2.2.1 ∧ (h.2.2.1 : Int) < ssm x ∧ sop x h.2.2.1 = (st.1 : Nat) ∧ kN x h.2.2.1 st ∧ NS C.1 h.2.2.1 st := by
  have nT : (x.1 60 10).toInt = C.2.1.length := hK.2.1.1
  have e2 := g.2.2.1
  have l := (hM.2.2 t (by omega)).1.1.2
  have ls : ssm x = C.1.length := hK.1.1
  rw [e2] at l
  have hl : h.2.2.1 < C.1.length := by omega
  obtain ⟨st, hst⟩ : ∃ st, C.1[h.2.2.1]? = some st := ⟨_, List.getElem?_eq_getElem hl⟩
  have kn := hK.1.2 _ st hst
  have ns := hN.1 _ st hst
  refine ⟨st, hst, by unfold stN; rw [hst]; rfl, by rw [e2]; rfl, l, ?_, kn, ns⟩
  show (x.1 81 _).toInt = _
  rw [kn.1]
  exact Int32.toInt_ofNat_of_lt (by have := ns.1.1; omega)
/-- the lock that it waits for -/
theorem kst_wl (hM : MM x o) (hK : CK x C) (hN : NC C) (ht : t < C.2.1.length) (g : kTq x o C t h) (hw : ¬ h.2.2.2.1 = 0) : (stN C h.2.2.1).2.2.2.2.1.toInt = (obM C h.2.2.1 : Nat) ∧ ((obM C h.2.2.1 : Nat) : Int) < (x.1 60 9).toInt := by
  obtain ⟨st, h1, h2, h3, h4, h5, h6, h7⟩ := kst_at hM hK hN ht g
  have o7 := g.2.2.2.1.2.2.2 hw
  rw [h2] at o7
  have a := (hM.1.2.2.2.1 _ h4).1.2.1 (by omega) (by omega)
  rw [h6.2.2.2.2.1 (by omega)] at a
  unfold obM
  rw [h2, t_cl]
  omega
theorem seL_app : ∀ (l : List (Nat × Int32)) (p : Nat × Int32) (c : Nat) (v : Int32), seL (l ++ [p]) c v = if p.1 = c then p.2 else seL l c v := by
  intro l
  induction l with
  | nil => intro p c v; rfl
  | cons r l ih => intro p c v; exact ih p c _
theorem kh_lateValue (hq : kV q) (ho : kiM q o) (hC : CO x) (hG : MG x o) (t j : Int32) {T J : Nat} (et : t.toInt = T) (hT : T < 6) (ej : j.toInt = J) (hJ : J < 8) (h : F (rg x o T ((x.1 o 9).toInt.toNat + 2 * J + 1)) x) : KT G q (d + 1) zk_X5_lateValue 0 [(0, vr o), (1, vi t), (2, vi j)] [] x (ri F) := by
  obtain ⟨e1, e2, e3⟩ := lt_ix hC hG ej hJ
  exact kg_X5_lateValue_0 hq ho _ _ (kp_get hq ho hC hG _ _ et e2 hT e3 (ri_i h))
theorem kh_seenBy (hq : kV q) (ho : kiM q o) (hM : MM x o) (hK : CK x C) (g : KMm x o C M) (t c : Int32) {T c' : Nat} (et : t.toInt = T) (hT : T < C.2.1.length) (ec : c.toInt = c') (hc : (c' : Int) < (x.1 60 6).toInt) (h : F (seM M T c') x) : KT G q (d + 2) zk_X5_seenBy 0 [(0, vr o), (1, vi t), (2, vi c)] [] x (ri F) := by
  have nT : (x.1 60 10).toInt = C.2.1.length := hK.2.1.1
  have hT6 := MM_6 hM.1 (t := T) (by omega)
  have hA := (hM.2.2 T (by omega)).1
  have hC := hM.1
  have hG := hM.2.1
  have c24 := hM.1.1.1
  have k0 : (0 : Int32).toInt = 0 := rfl
  have l8 := hA.2.1
  obtain ⟨l7, ll⟩ := (g.2 T hT).2.2.2.2.2.2.1
  have nc : c.toNatClampNeg = c' := by rw [t_cl, ec]; rfl
  unfold seM at h
  obtain ⟨l, el⟩ : ∃ l, l = (M.2.2 T).2.2.2.2.2.2.1 := ⟨_, rfl⟩
  rw [← el] at l7 ll h
  have loop : ∀ (n : Nat) (j : Int32), j.toInt + 1 = n → n ≤ l.length → F (seL (l.take n) c' (M.1 c')) x → KT G q (d + 2) zk_X5_seenBy 10 [(0, vr o), (1, vi t), (2, vi c), (3, vi j)] [] x (ri F) := by
    intro n
    induction n with
    | zero =>
      intro j hn hl hf
      refine kg_X5_seenBy_10 hq ho _ _ _ ⟨fun _ => ⟨by rw [vp_in_iff]; omega, ri_i ?_⟩, fun c => ?_⟩
      · rw [nc, g.1.1 c' hc]; exact hf
      · exfalso; rw [t_lt, k0] at c; omega
    | succ n ih =>
      intro j hn hl hf
      have ej : j.toInt = (n : Nat) := by push_cast at hn; omega
      refine kg_X5_seenBy_10 hq ho _ _ _ ⟨fun c => ?_, fun c => ?_⟩
      · exfalso; rw [t_lt, k0] at c; omega
      have e1 : (j + (-1)).toInt + 1 = (n : Nat) := by rw [t_add (by rw [tm1]; omega) (by rw [tm1]; omega), tm1]; omega
      obtain ⟨j2, ej2⟩ : ∃ j2, j2 = j + (-1) := ⟨_, rfl⟩
      rw [← ej2] at e1 ⊢
      clear ej2
      obtain ⟨p, hp⟩ : ∃ p, l[n]? = some p := ⟨_, List.getElem?_eq_getElem (by omega)⟩
      obtain ⟨p1, p2⟩ := ll n p hp
      have tk : l.take (n + 1) = l.take n ++ [p] := by rw [List.take_add_one, hp]; rfl
      rw [tk, seL_app] at hf
      refine kp_lateCell hq ho hC hG _ _ et hT6 ej (by omega) ⟨fun c9 => ih _ e1 (by omega) ?_, fun c9 => kh_lateValue hq ho hC hG _ _ et hT6 ej (by omega) (ri_i ?_)⟩
      · rw [if_neg (fun z => c9 ?_)] at hf
        · exact hf
        · rw [t_eq, p1, ec, z]
      · rw [t_eq, p1, ec] at c9
        rw [if_pos (by omega)] at hf
        rw [p2]; exact hf
  have e1 : (rg x o T 7 - 1).toInt + 1 = (l.length : Nat) := by rw [t_sub (by show _ ≤ _ - (1 : Int); omega) (by show _ - (1 : Int) ≤ _; omega)]; show _ - (1 : Int) + 1 = _; omega
  exact kg_X5_seenBy_0 hq ho _ _ (kp_get hq ho hC hG _ _ et (show (7 : Int32).toInt = ((7 : Nat) : Int) from rfl) hT6 (by omega) (loop l.length _ e1 (Nat.le_refl _) (by rw [List.take_length]; exact h)))
/-- a sum of a thread is worked out -/
theorem kh_ev (hq : kV q) (ho : kiM q o) (hM : MM x o) (hK : CK x C) (hT : T < C.2.1.length) (g : kTq x o C T h) (t a : Int32) (et : t.toInt = T) {Q : List gQ} (hS : SUk x a (Q.map cQ)) (q1 : okQ Q 0) {ks : List Nat} (q2 : ∀ p ∈ Q, qOk p ∧ (p.1 = 2 → p.2.1 < ks.length) ∧ ¬ p.1 = 4) (hk : (ks.length : Int) ≤ (x.1 60 13).toInt) (hF : ∀ r y, fm sWk x y → wkR x y (wkQ h.2.2.2.2.2.2.2 (fun _ => 0) (Int32.ofNat T) Q) r → F r y) : KT G q (d + 1) zk_X5_localsAt 0 [(0, vr o), (1, vi t)] [] x (ri (fun r6 x5 => KT G q (d + 1) zk_X0_work 0 [(0, vr 60), (1, vi a), (2, vr (o + 5)), (3, vi r6), (4, vi t)] [] x5 (ri F))) := by
  have nT : (x.1 60 10).toInt = C.2.1.length := hK.2.1.1
  have hO := kiM_O ho
  have hT6 := MM_6 hM.1 (t := T) (by omega)
  obtain ⟨b1, b2, b3, b4, b5, b6, b7⟩ := MG_b hM.1 hM.2.1
  have tT : t = Int32.ofNat T := i32_of et
  have m8 := hM.1.1.2.2.2.1
  refine kf_localsAt hq ho hM.1 hM.2.1 _ et hT6 (fun r6 r0 r4 => ?_)
  rw [tT]
  refine kf_work hq (kk_M5 ho) (kl_M5 hq ho) (by omega) _ _ _ (Q := Q) (lv := h.2.2.2.2.2.2.2) (cv := fun _ => 0) hM.1.2.1.1.2 hS q1 (fun p hp => ?_) hF
  obtain ⟨a1, a2, a3⟩ := q2 p hp
  refine ⟨a1, fun c => ?_, fun c => absurd c a3⟩
  have pl := a2 c
  have e8 : (Int32.ofNat p.2.1).toInt = (p.2.1 : Nat) := Int32.toInt_ofNat_of_lt (by omega)
  have es : (r6 + Int32.ofNat p.2.1).toInt = r6.toInt + (p.2.1 : Nat) := by rw [t_add (by omega) (by omega), e8]
  refine ⟨by rw [vp_in_iff, es]; omega, ?_⟩
  have ep : (r6 + Int32.ofNat p.2.1).toNatClampNeg = pa x o T (8 + p.2.1) := by
    rw [t_cl, es, r0]
    unfold pa
    omega
  rw [ep]
  exact g.2.2.2.2.2.2.2.1 _ (by omega)
/-- looking leaves what is held -/
theorem KMm_Lk (hO : o = 120 ∨ o = 220) (hM : MM x o) (hK : CK x C) (f : fm (sLk o) x y) (g : KMm x o C M) : KMm y o C M :=
  KMm_fr hO hM hK (f _ _ (by unfold sLk; omega)) (f _ _ (by unfold sLk; omega)) (f _ _ (by unfold sLk; omega)) (f _ _ (by unfold sLk; omega)) (fun j _ => f _ _ (by unfold sLk; omega)) (rg_Lk hO f) g
/-- where its [ ] leads -/
theorem kh_placeOf (hq : kV q) (ho : kiM q o) (hM : MM x o) (hK : CK x C) (hN : NC C) (g : KMm x o C M) (t : Int32) (et : t.toInt = T) (hT : T < C.2.1.length) (h1 : (M.2.2 T).1 = 1) (hop : (stN C (M.2.2 T).2.2.1).1 ≤ 4) (hF : ∀ r y, fm (sLk o) x y → (((lkI C M T).1 = 0 ∧ r = (lkI C M T).2 ∧ 0 ≤ r.toInt ∧ r.toInt < (x.1 60 6).toInt) ∨ (¬ (lkI C M T).1 = 0 ∧ r = -1 ∧ y.1 o 14 = Int32.ofNat (lkI C M T).1)) → F r y) : KT G q (d + 2) zk_X5_placeOf 0 [(0, vr o), (1, vi t)] [] x (ri F) := by
  have nT : (x.1 60 10).toInt = C.2.1.length := hK.2.1.1
  have hO := kiM_O ho
  have hT6 := MM_6 hM.1 (t := T) (by omega)
  have hA := (hM.2.2 T (by omega)).1
  have gT := g.2 T hT
  obtain ⟨st, s1, s2, s3, s4, s5, kn, ns⟩ := kst_at hM hK hN hT gT
  obtain ⟨v, e, l⟩ := MM_st hM.1 hA
  have k0 : (0 : Int32).toInt = 0 := rfl
  have c24 := hM.1.1.1
  have hml := gT.2.2.2.2.2.2.2.2 (Or.inl h1)
  rw [s2] at hop hml
  obtain ⟨a1, a2, a3⟩ := (hM.1.2.2.2.1 _ s4).1.1 (by omega)
  rw [s3] at e
  obtain ⟨-, -, -, -, k85, k86, k87, -, -⟩ := kn
  have k85 := k85 (by omega)
  refine kg_X5_placeOf_0 hq ho _ (kp_get hq ho hM.1 hM.2.1 _ _ et (show (2 : Int32).toInt = ((2 : Nat) : Int) from rfl) hT6 (by omega) ⟨v, fun c87 => ?_, fun c87 => ⟨v, ri_i (hF _ x (fm_rf _ _) (Or.inl ?_))⟩⟩)
  · rw [e] at c87 ⊢
    cases hix : st.2.2.2.2.2.2.2.1 with
    | none => rw [hix] at k87; exact absurd k87 c87
    | some Q =>
      rw [hix] at k87
      have k86 := k86 hop (by rw [hix]; exact fun z => nomatch z)
      obtain ⟨o1, o2⟩ := ns.2.2.2.2.2.2.2.1 Q hix
      refine kh_ev hq ho hM hK hT gT _ _ et k87 o1 o2 hml (fun r8 y fy hwk => ?_)
      have fL : fm (sLk o) x y := fm_w fy (fun c k q => by unfold sWk at q; unfold sLk; omega)
      have hix' : (stN C (M.2.2 T).2.2.1).2.2.2.2.2.2.2.1 = some Q := by rw [s2]; exact hix
      have p81 : ∀ n : Nat, (n = 1 ∨ n = 2) → (y.1 60 5 = 0 ↔ n = 2) → (lkI C M T).1 = n → KT G q (d + 2) zk_X5_placeOf 81 [(0, vr o)] [] y (ri F) := fun n hn h5 hl => by
        have nz : ¬ (lkI C M T).1 = 0 := by omega
        refine kg_X5_placeOf_81 hq ho ⟨fun c5 z ez => ri_i (hF _ z (by rw [ez]; exact fm_si fL (Or.inl ⟨rfl, rfl⟩)) (Or.inr ⟨nz, rfl, ?_⟩)), fun c5 z ez => ri_i (hF _ z (by rw [ez]; exact fm_si fL (Or.inl ⟨rfl, rfl⟩)) (Or.inr ⟨nz, rfl, ?_⟩))⟩
        · rw [hl, h5.mp c5, ez, si_get, if_pos ⟨rfl, rfl⟩]; rfl
        · have : n = 1 := by
            rcases hn with e | e
            · exact e
            · exact absurd (h5.mpr e) c5
          rw [hl, this, ez, si_get, if_pos ⟨rfl, rfl⟩]; rfl
      rcases hwk with ⟨v9, hw, er, y5⟩ | ⟨hw, y5⟩
      · subst er
        refine ⟨fun c => absurd y5 c, fun _ => ⟨fun c8 => ?_, fun c8 => ⟨v, fun c9 => ⟨v, ?_⟩, fun c9 => ?_⟩⟩⟩
        · exact p81 2 (Or.inr rfl) ⟨fun _ => rfl, fun _ => y5⟩ (by rw [lkI_2 hix' hw (Or.inl c8)])
        · rw [fy 86 _ (by unfold sWk; omega), k86] at c9
          have nn : ¬ (r8 < 0 ∨ (stN C (M.2.2 T).2.2.1).2.2.2.2.2.1 ≤ r8) := fun z => z.elim c8 (fun z => by
            rw [s2] at z
            rw [t_lt] at c9
            rw [t_le] at z
            omega)
          refine ri_i (hF _ y fL (Or.inl ?_))
          rw [lkI_0 hix' hw nn, fy 85 _ (by unfold sWk; omega), s2, k85]
          refine ⟨rfl, rfl, ?_⟩
          rw [t_lt, k0] at c8
          rw [← k86, t_lt] at c9
          rw [← k85, t_add (by omega) (by omega)]
          omega
        · rw [fy 86 _ (by unfold sWk; omega), k86] at c9
          refine p81 2 (Or.inr rfl) ⟨fun _ => rfl, fun _ => y5⟩ ?_
          rw [lkI_2 hix' hw (Or.inr ?_)]
          rw [s2]
          rw [t_lt] at c9
          rw [t_le]
          omega
      · refine ⟨fun _ => p81 1 (Or.inl rfl) ⟨fun z => ?_, fun z => absurd z (by decide)⟩ (by rw [lkI_1 hix' hw]), fun c => ?_⟩
        · rw [y5] at z; exact absurd z (by decide)
        · rw [y5] at c; exact absurd c (by decide)
  · rw [e] at c87 ⊢
    have hix : st.2.2.2.2.2.2.2.1 = none := by
      cases hix : st.2.2.2.2.2.2.2.1 with
      | none => rfl
      | some Q =>
        rw [hix] at k87
        have := k87.1
        rw [c87, tm1] at this
        omega
    rw [lkI_n (by rw [s2]; exact hix), s2]
    exact ⟨rfl, k85, by omega, by omega⟩
/-- whether its write comes late -/
theorem kh_goesLate (hq : kV q) (ho : kiM q o) (hM : MM x o) (hK : CK x C) (hN : NC C) (wy : x.1 o 3 = Int32.ofNat w) (w01 : w = 0 ∨ w = 1) (s : Int32) {S : Nat} {st : gNs} (es : s.toInt = S) (hst : C.1[S]? = some st) (hF : ∀ r : Int32, (¬ r = 0 ↔ w = 1 ∧ st.1 = 1 ∧ suM C st.2.2.2.2.1.toNatClampNeg = false) → F r x) : KT G q d zk_X5_goesLate 0 [(0, vr o), (1, vi s)] [] x (ri F) := by
  have s35 := hM.1.2.2.1.2
  have c24 := hM.1.1.1
  have ls : ssm x = C.1.length := hK.1.1
  have hS : (S : Int) < ssm x := by have := gt_lt hst; omega
  have v : vp_in s 400 := by rw [vp_in_iff]; omega
  have e : s.toNatClampNeg = S := by rw [t_cl, es]; rfl
  obtain ⟨k81, -, -, -, k85, -⟩ := hK.1.2 S st hst
  have n22 := (hN.1 S st hst).1.1
  have o1 : x.1 81 S = 1 ↔ st.1 = 1 := by
    have s : ∀ n, n < 22 → (Int32.ofNat n = 1 ↔ n = 1) := by decide +kernel
    rw [k81]; exact s _ n22
  have ww : x.1 o 3 = 1 ↔ w = 1 := by
    rw [wy]
    rcases w01 with e | e <;> rw [e] <;> decide
  refine kg_X5_goesLate_0 hq ho _ ⟨fun c => ri_i (hF _ ⟨fun z => absurd rfl z, fun z => absurd (ww.mpr z.1) c⟩), fun cw => ⟨v, fun c => ri_i (hF _ ⟨fun z => absurd rfl z, fun z => absurd (o1.mpr z.2.1) (by rw [e] at c; exact c)⟩), fun c1 => ⟨v, ?_, fun c0 => ?_, fun c0 => ?_⟩⟩⟩
  all_goals rw [e] at c1
  all_goals have p1 := o1.mp c1
  all_goals obtain ⟨s1, s2, s3⟩ := (hM.1.2.2.2.1 _ hS).1.1 (by show (x.1 81 S).toInt ≤ 4; rw [c1]; decide)
  all_goals have k85 := k85 (by omega)
  · rw [e, vp_in_iff]; omega
  all_goals rw [e, k85] at c0
  all_goals rw [k85] at s1 s2
  all_goals obtain ⟨cq, hcq⟩ : ∃ cq, C.2.2.1[st.2.2.2.2.1.toNatClampNeg]? = some cq := ⟨_, List.getElem?_eq_getElem (by have : (x.1 60 6).toInt = C.2.2.1.length := hK.2.2.1.1; rw [t_cl]; omega)⟩
  all_goals have k69 := (hK.2.2.1.2 _ cq hcq).2
  all_goals have su : suM C st.2.2.2.2.1.toNatClampNeg = cq.2 := by unfold suM; rw [hcq]
  all_goals rw [k69] at c0
  all_goals refine ri_i (hF _ ?_)
  all_goals rw [su]
  · refine ⟨fun z => absurd rfl z, fun z => absurd ?_ c0⟩
    rw [z.2.2]; rfl
  · refine ⟨fun _ => ⟨ww.mp cw, p1, ?_⟩, fun _ => by decide⟩
    cases hb : cq.2 with
    | false => rfl
    | true => rw [hb] at c0; exact absurd c0 (by decide)
theorem km_nil : ∀ {sl : List Nat}, (∀ s ∈ sl, s < 8) → (kmN sl = 0 ↔ sl = []) := fun {sl} h => by
  refine ⟨fun z => ?_, fun z => by rw [z]; rfl⟩
  cases sl with
  | nil => rfl
  | cons s r =>
    have a := km_bit h s (h s List.mem_cons_self)
    rw [if_pos List.mem_cons_self, z] at a
    have b := km_bit (sl := []) (fun s hs => by cases hs) s (h s List.mem_cons_self)
    rw [if_neg (by simp)] at b
    exact absurd (b.symm.trans a) (by decide)
/-- those that wait -/
theorem kh_waiters (hq : kV q) (ho : kiM q o) (hM : MM x o) (hK : CK x C) (hN : NC C) (g : KMm x o C M) (l : Int32) {L : Nat} (eL : l.toInt = L) (hl : (L : Int) < (x.1 60 9).toInt) (h : F (kmN (waM C M L).reverse) x) : KT G q (d + 1) zk_X5_waiters 0 [(0, vr o), (1, vi l)] [] x (ri F) := by
  have hb := hM.1.1.2.2.1
  have nT : (x.1 60 10).toInt = C.2.1.length := hK.2.1.1
  have l6 := hM.1.1.2.1.2
  have k1 : (1 : Int32).toInt = 1 := rfl
  have k0 : (0 : Int32).toInt = 0 := rfl
  have el1 : (l + 1).toInt = (L : Int) + 1 := by rw [t_add (by rw [k1]; omega) (by rw [k1]; omega), k1, eL]
  obtain ⟨P, eP⟩ : ∃ P : Nat → Bool, P = fun o => (M.2.2 o).2.2.2.1 == 1 && obM C (M.2.2 o).2.2.1 == L := ⟨_, rfl⟩
  have h : F (kmN ((List.range C.2.1.length).filter P).reverse) x := by rw [eP]; exact h
  -- a thread waits for it, not woken yet
  have tst : ∀ k, k < C.2.1.length → ((rg x o k 3 = l + 1 ∧ rg x o k 5 = 0) ↔ P k = true) := fun k hk => by
    have gk := g.2 k hk
    obtain ⟨w3, w5, w2, -⟩ := gk.2.2.2.1
    rw [w3, w5, eP]
    show _ ↔ ((M.2.2 k).2.2.2.1 == 1 && obM C (M.2.2 k).2.2.1 == L) = true
    rw [Bool.and_eq_true, beq_iff_eq, beq_iff_eq]
    by_cases c0 : (M.2.2 k).2.2.2.1 = 0
    · rw [if_pos c0]
      refine ⟨fun z => ?_, fun z => by omega⟩
      have := z.1
      rw [t_eq, k0, el1] at this
      omega
    · rw [if_neg c0]
      obtain ⟨a1, a2⟩ := kst_wl hM hK hN hk gk c0
      have e1 : ((stN C (M.2.2 k).2.2.1).2.2.2.2.1 + 1).toInt = (obM C (M.2.2 k).2.2.1 : Nat) + 1 := by rw [t_add (by rw [k1]; omega) (by rw [k1]; omega), k1, a1]
      rw [t_eq, e1, el1]
      by_cases c2 : (M.2.2 k).2.2.2.1 = 2
      · rw [if_pos c2]
        exact ⟨fun z => absurd z.2 (by decide), fun z => by omega⟩
      · rw [if_neg c2]
        exact ⟨fun z => ⟨by omega, by omega⟩, fun z => ⟨by omega, rfl⟩⟩
  have loop : ∀ (n k : Nat) (a i : Int32), i.toInt = k → k ≤ C.2.1.length → (x.1 60 10).toInt - k ≤ n → a = kmN ((List.range k).filter P).reverse → KT G q (d + 1) zk_X5_waiters 4 [(0, vr o), (1, vi l), (2, vi a), (3, vi i)] [] x (ri F) := by
    intro n
    induction n with
    | zero =>
      intro k a i ei hk hn ea
      have ek : k = C.2.1.length := by omega
      refine kg_X5_waiters_4 hq ho _ _ _ ⟨fun _ => ri_i (by rw [ea, ek]; exact h), fun c => ?_⟩
      exfalso; rw [t_le] at c; omega
    | succ n ih =>
      intro k a i ei hk hn ea
      refine kg_X5_waiters_4 hq ho _ _ _ ⟨fun c => ri_i ?_, fun c => ?_⟩
      · rw [t_le] at c
        have ek : k = C.2.1.length := by omega
        rw [ea, ek]; exact h
      rw [t_le] at c
      have e1 : (i + 1).toInt = ((k + 1 : Nat) : Int) := by rw [t_add (by show _ ≤ _ + (1 : Int); omega) (by show _ + (1 : Int) ≤ _; omega), ei]; rfl
      have hk' : k < C.2.1.length := by omega
      have st := tst k hk'
      have no : ¬ P k = true → ((List.range (k + 1)).filter P).reverse = ((List.range k).filter P).reverse := fun z => by
        rw [List.range_succ, List.filter_append, List.filter_cons_of_neg (by exact z), List.filter_nil, List.append_nil]
      have yes : P k = true → ((List.range (k + 1)).filter P).reverse = k :: ((List.range k).filter P).reverse := fun z => by
        rw [List.range_succ, List.filter_append, List.filter_cons_of_pos (by exact z), List.filter_nil, List.reverse_append]
        rfl
      have ii : i = Int32.ofNat k := i32_of ei
      refine kp_get hq ho hM.1 hM.2.1 _ _ ei (show (3 : Int32).toInt = ((3 : Nat) : Int) from rfl) (by omega) (by omega) ⟨fun c3 => ih (k + 1) _ _ e1 (by omega) (by push_cast; omega) ?_, fun c3 => kp_get hq ho hM.1 hM.2.1 _ _ ei (show (5 : Int32).toInt = ((5 : Nat) : Int) from rfl) (by omega) (by omega) ⟨fun c5 => ih (k + 1) _ _ e1 (by omega) (by push_cast; omega) ?_, fun c5 => ih (k + 1) _ _ e1 (by omega) (by push_cast; omega) ?_⟩⟩
      · rw [no (fun z => c3 (st.mpr z).1)]; exact ea
      · rw [no (fun z => c5 (st.mpr z).2)]; exact ea
      · rw [yes (st.mp ⟨c3, c5⟩), kmN, ← ea, ii]
  exact kg_X5_waiters_0 hq ho _ (loop 6 0 _ _ rfl (by omega) (by omega) rfl)
end KMS
end
