/-! the model: every act done is what the machine does -/
theorem mTq_eq {C : gCo} {y z : gd} {t : Nat} {h : gTq} (q : mTq y C t h) (f : ∀ c, c = 73 ∨ c = 74 ∨ c = 75 ∨ c = 77 ∨ c = 78 ∨ c = 79 ∨ c = 80 → z.1 c t = y.1 c t) (e76 : z.1 76 = y.1 76) (e81 : z.1 81 = y.1 81) (e82 : z.1 82 = y.1 82) : mTq z C t h := by
  unfold mTq mLt mLv at q ⊢
  rw [f 73 (by omega), f 74 (by omega), f 75 (by omega), f 77 (by omega), f 78 (by omega), f 79 (by omega), f 80 (by omega), e76, e81, e82]
  exact q
/-- a thread's waiting and its call set anew -/
theorem mTq_w {C : gCo} {y z : gd} {t v : Nat} {a b : Int32} {h : gTq} (q : mTq y C t h) (f : ∀ c, c = 73 ∨ c = 74 ∨ c = 75 ∨ c = 80 → z.1 c t = y.1 c t) (e76 : z.1 76 = y.1 76) (e81 : z.1 81 = y.1 81) (e82 : z.1 82 = y.1 82) (e77 : z.1 77 t = Int32.ofNat v) (hv : v ≤ 2) (e78 : z.1 78 t = a) (e79 : z.1 79 t = b) : mTq z C t (h.1, h.2.1, h.2.2.1, v, a, b, h.2.2.2.2.2.2) := by
  obtain ⟨a1, a2, a3, a4, a5, a6, a7, a8, ⟨a9, a10⟩, b1⟩ := q
  refine ⟨by rw [f 73 (by omega)]; exact a1, a2, by rw [f 75 (by omega)]; exact a3, by rw [f 74 (by omega)]; exact a4, e77, hv, e78, e79, ⟨by rw [f 80 (by omega)]; exact a9, by rw [e81, e82]; exact a10⟩, ?_⟩
  unfold mLv at b1 ⊢
  rw [e76]; exact b1
theorem lkM_pl {C : gCo} {M : gMa} {w t : Nat} (w0 : (M.2.2 t).2.2.2.1 = 0) (h : (lkM C w M t).1 = 0) : (lkI C M t).1 = 0 ∧ (lkM C w M t).2.1 = (lkI C M t).2 := by
  by_cases c : (lkI C M t).1 = 0
  · refine ⟨c, ?_⟩
    cases e1 : evO (M.2.2 t).2.2.2.2.2.2.2 (Int32.ofNat t) (stN C (M.2.2 t).2.2.1).2.2.2.2.2.2.2.2.1 with
    | none => rw [lkM_1 w0 c e1]
    | some e =>
      cases e2 : evO (M.2.2 t).2.2.2.2.2.2.2 (Int32.ofNat t) (stN C (M.2.2 t).2.2.1).2.2.2.2.2.2.2.2.2 with
      | none => rw [lkM_2 w0 c e1 e2]
      | some f => rw [lkM_3 w0 c e1 e2]
  · rw [lkM_i w0 c] at h
    exact absurd h c
theorem lkI_in {C : gCo} {M : gMa} {t : Nat} {st : gNs} (hX : NXc C) (hst : C.1[(M.2.2 t).2.2.1]? = some st) (o4 : st.1 ≤ 4) (lb : (C.2.2.1.length : Int) < 2147483648) (h : (lkI C M t).1 = 0) : (lkI C M t).2.toNatClampNeg < C.2.2.1.length := by
  have es := stN_is hst
  obtain ⟨b1, b2, b3⟩ := (hX _ st hst).2.2.2.2.2 o4
  cases ei : st.2.2.2.2.2.2.2.1 with
  | none =>
    rw [lkI_n (by rw [es]; exact ei), es, t_cl]
    show st.2.2.2.2.1.toInt.toNat < _
    omega
  | some Q =>
    have b4 := b3 (by rw [ei]; exact fun z => nomatch z)
    have ei' : (stN C (M.2.2 t).2.2.1).2.2.2.2.2.2.2.1 = some Q := by rw [es]; exact ei
    cases ew : wkQ (M.2.2 t).2.2.2.2.2.2.2 (fun _ => 0) (Int32.ofNat t) Q with
    | none => rw [lkI_1 ei' ew] at h; exact absurd h (by decide)
    | some v =>
      by_cases cv : v < 0 ∨ (stN C (M.2.2 t).2.2.1).2.2.2.2.2.1 ≤ v
      · rw [lkI_2 ei' ew cv] at h; exact absurd h (by decide)
      · rw [lkI_0 ei' ew cv, t_cl]
        rw [es, t_lt, t_le, show (0 : Int32).toInt = 0 from rfl] at cv
        rw [es]
        show (st.2.2.2.2.1 + v).toInt.toNat < _
        rw [t_add (by omega) (by omega)]
        omega
theorem ef_9 {C : gCo} {M : gMa} {w t c : Nat} {e f : Int32} {wk : Option Nat} {q : Nat × Nat} (h : C.2.1[c]? = some q) : efM C w M t 9 c e f wk = (upT M c (thN C c (M.2.2 c) q.1 (M.2.2 c).2.2.2.2.2.2.2), 0) := by
  have a : efM C w M t 9 c e f wk = (match C.2.1[c]? with | some q => upT M c (thN C c (M.2.2 c) q.1 (M.2.2 c).2.2.2.2.2.2.2) | none => M, 0) := by unfold efM; rfl
  rw [a, h]
section DDA
variable {d : Nat} {S : gS} {x : gd} {F : Int32 → gd → gS → Prop} {Fv : gd → gS → Prop} {C : gCo} {M : gMa}
set_option maxHeartbeats 1000000 in
theorem ds_doAct3 (t w : Int32) (ht : vp_in t 6) (ri : RI x S) (h1 : x.1 73 t.toNatClampNeg = 1) (hw : ¬ x.1 77 t.toNatClampNeg = 1) (hK : MK x C) (hN : NC C) (hX : NXc C) (hM : MM1 x C M) (hW : WM M) {wa : Nat} (wy : x.1 0 68 = Int32.ofNat wa) (w01 : wa = 0 ∨ wa = 1) {wk : Option Nat} (hwk : (wk = none ∧ w = -1) ∨ ∃ o : Nat, wk = some o ∧ o < 6 ∧ w = Int32.ofNat o) (h : ∀ x' S', RI x' S' → ssub S S' → acS S' → acP (srt x t.toNatClampNeg) x' → MM1 x' C (acM C wa M t.toNatClampNeg wk) → Fv x' S') : MD (d + 4) z_doAct 0 [(0, vr 0), (1, vi t), (2, vi w)] [] S x (Dv Fv) := by
  have k0 : (0 : Int32).toInt = 0 := rfl
  have k1 : (1 : Int32).toInt = 1 := rfl
  have k8 : (8 : Int32).toInt = 8 := rfl
  have tv := vp_in_iff.mp ht
  obtain ⟨kv, kn, so', av⟩ := RI_step ri (vt ht) h1
  obtain ⟨s1, s2, s3⟩ := srt_of ri (vt ht) h1
  obtain ⟨T, eT⟩ : ∃ T, T = t.toNatClampNeg := ⟨_, rfl⟩
  have T6 : T < 6 := by rw [eT]; exact vt ht
  have tT : t = Int32.ofNat T := i32_of (by rw [eT, t_cl]; omega)
  have lk0 := fun (d' : Nat) (Fv' : gd → gS → Prop) => ds_look3 (d := d') (Fv := Fv') (M := M) (w := wa) t ht ri h1 hw hK hN hX hM wy w01
  rw [← eT] at kv kn av s1 s2 s3 h1 hw h lk0
  obtain ⟨k, ek⟩ : ∃ k, k = x.1 74 T := ⟨_, rfl⟩
  rw [← ek] at kv kn av s1 s2 s3
  obtain ⟨s, es⟩ : ∃ s, s = srt x T := ⟨_, rfl⟩
  rw [← es] at s1 s2 s3 h
  have kb := vp_in_iff.mp kv
  have j2' := ri.1.2.1.2.1
  obtain ⟨m73, l73, m75, m74, m77, l77, m78, m79, mlt, mlv⟩ := hM.2.2 T T6
  rw [← ek] at m74
  -- the step
  have l52 : (x.1 0 52).toInt = C.1.length := hK.1.1
  obtain ⟨K, eKd⟩ : ∃ K, K = (M.2.2 T).2.2.1 := ⟨_, rfl⟩
  rw [← eKd] at m74
  have kst : k.toNatClampNeg = K := by rw [t_cl, m74]; rfl
  obtain ⟨st, hst⟩ : ∃ st, C.1[K]? = some st := ⟨_, List.getElem?_eq_getElem (by omega)⟩
  have esN := stN_is hst
  obtain ⟨g54, g55, g56, g57, g58, g59, g60, -, -⟩ := hK.1.2 _ st hst
  have ns := hN.1 _ st hst
  rw [← kst] at g54 g55 g56
  have o16 : st.1 < 16 := by
    have a := ((ri.2 T T6).1.2.2 h1).2
    rw [← ek, g54] at a
    exact (mWh_i st.1 ns.1.1).1.mp a
  have g55 := g55 o16
  have sta1 : (M.2.2 T).1 = 1 := by
    have : Int32.ofNat (M.2.2 T).1 = 1 := by rw [← m73]; exact h1
    rcases (show (M.2.2 T).1 = 0 ∨ (M.2.2 T).1 = 1 ∨ (M.2.2 T).1 = 2 ∨ (M.2.2 T).1 = 3 by omega) with e | e | e | e <;> rw [e] at this ⊢ <;> first | rfl | exact absurd this (by decide)
  obtain ⟨b2, b1, b0⟩ := wai_2 _ (show (M.2.2 T).2.2.2.1 < 3 by omega)
  rw [← m77] at b2 b1 b0
  obtain ⟨o, eo⟩ : ∃ o, o = soM C (M.2.2 T) := ⟨_, rfl⟩
  have sO : s = Int32.ofNat o ∧ o < 16 ∧ (o = 15 → ¬ (M.2.2 T).2.2.2.1 = 0) ∧ (¬ o = 15 → (M.2.2 T).2.2.2.1 = 0 ∧ o = st.1) := by
    rw [eo, es]
    unfold soM srt
    rw [← eKd, esN]
    by_cases c2 : x.1 77 T = 2
    · rw [if_pos c2, if_neg (by have := b2.mp c2; omega)]
      exact ⟨rfl, by omega, fun _ => by have := b2.mp c2; omega, fun z => absurd rfl z⟩
    · have w0 : (M.2.2 T).2.2.2.1 = 0 := by
        have a1 : ¬ (M.2.2 T).2.2.2.1 = 2 := fun z => c2 (b2.mpr z)
        have a2 : ¬ (M.2.2 T).2.2.2.1 = 1 := fun z => hw (b1.mpr z)
        omega
      rw [if_neg c2, if_pos w0, ← ek]
      exact ⟨g55, o16, fun z => absurd z ns.1.2, fun _ => ⟨w0, rfl⟩⟩
  obtain ⟨sI, o15, oR, oN⟩ := sO
  have sE : ∀ n : Nat, n < 16 → (s = Int32.ofNat n ↔ o = n) := fun n hn => by
    rw [t_eq, sI, op_16 o o15, op_16 n hn]; omega
  have num0 : (M.2.2 T).2.1 = 0 := (hW T T6).1 (by rw [sta1]; decide)
  obtain ⟨L, eL⟩ : ∃ L, L = lkM C wa M T := ⟨_, rfl⟩
  have L9 : L.1 ≤ 9 := by rw [eL]; exact lkM_le
  let Y : gd → gS → Prop := fun y S1 => ssub S S1 ∧ acS S1 ∧ acP s y ∧ y.1 0 52 = x.1 0 52
  have go3 : ∀ (z : gd) (S2 : gS) (c v : Int32) (E : gMa), ¬ s = 9 → Y z S2 → RI z S2 → MK z C → MMc z E → (∀ t' : Nat, t' < 6 → mTq z C t' (E.2.2 t')) → (E.2.2 T).1 = 1 → (E.2.2 T).2.1 = 0 → (E.2.2 T).2.2.1 = K → (E.2.2 T).2.2.2.1 = 0 → (E.2.2 T).2.2.2.2.1 = 0 → (E.2.2 T).2.2.2.2.2.2.2 = (M.2.2 T).2.2.2.2.2.2.2 → L.1 = 0 → ¬ o = 7 → efM C wa M T o L.2.1.toNatClampNeg L.2.2.1 L.2.2.2 wk = (E, v) → MD (d + 4) z_doAct 667 [(0, vr 0), (1, vi t), (3, vi k), (4, vi s), (5, vi c), (6, vi v)] [] S2 z (Dv Fv) := by
    intro z S2 c v E n9 hy rz kz mc mT e0 e1 e2 e3 e4 e7 L0 n7 he
    obtain ⟨y1, y2, y3, y4⟩ := hy
    have ha := acM_is (wk := wk) (E := E) (v := v) (by rw [← eL]; exact L0) (by rw [← eo]; exact n7) (by rw [← eo, ← eL]; exact he)
    rw [← eKd, esN, ← e7] at ha
    refine ds_act667 t k c s v ht eT m74 rz.1 kz hN hX hst o16 (by rw [y4]; omega) mc (fun t' ht' _ => mT t' ht') (fun q => absurd q n9) e0 e1 e2 e3 e4 (fun q => absurd q n9) (fun t' ht' _ => rz.2 t' ht') (fun q => absurd q n9) (fun x' S' r ss m mm => h x' S' r (ssub_tr y1 ss) (acS_up ss y2) ?_ (by rw [ha]; exact mm))
    unfold acP
    rw [m.1 88 (by decide), m.1 89 (by decide)]
    exact y3
  refine sd_doAct_0 _ _ ⟨ht, ds_sortOf t ht (by rw [← eT, ← ek]; exact kv) ?_⟩
  rw [← eT, ← es, ← ek]
  refine lk0 d _ (fun x4 S4 m4 ss4 lk4 lp lq y5 e5 y6 e6 => ?_)
  unfold lkP at lp
  rw [← es, ← ek] at lp
  rw [← eL] at lq
  obtain ⟨lp1, lp2, lp3⟩ := lp
  have m5 := md_f x4 92 0
  rw [← e5] at m5
  have m6 := md_f y5 93 0
  rw [← e6] at m6
  have m46 : md [92, 93] [] x4 y6 := md_tr m5 m6 rfl rfl
  have m06 : md [82, 88, 89, 90, 91, 92, 93] [84] x y6 := md_tr m4 m46 rfl rfl
  have f88 : y6.1 0 88 = x4.1 0 88 := m46.1 88 (by decide)
  have f89 : y6.1 0 89 = x4.1 0 89 := m46.1 89 (by decide)
  obtain ⟨q89, q88, q9⟩ := lq
  rw [← f88] at lp1 lp2 lp3 q88
  rw [← f89] at lp3 q89
  rw [← m46.1 90 (by decide), ← m46.1 91 (by decide)] at q9
  have ss6 : ssub S4 (sadd (sadd S4 0 92) 0 93) := ssub_tr (ssub_ad _ _ _) (ssub_ad _ _ _)
  obtain ⟨S6, eS6⟩ : ∃ S6, S6 = sadd (sadd S4 0 92) 0 93 := ⟨_, rfl⟩
  have n92 : S6 0 92 := by rw [eS6]; exact Or.inr (Or.inl ⟨rfl, rfl⟩)
  have n93 : S6 0 93 := by rw [eS6]; exact Or.inl ⟨rfl, rfl⟩
  rw [← eS6] at ss6 ⊢
  have lk6 := lkS_up ss6 lk4
  have r6 : RI y6 S6 := RI_md m06 rfl rfl (ssub_tr ss4 ss6) ri
  have M6 : MM1 y6 C M := MM1_md m06 rfl hM
  have K6 : MK y6 C := MK_md m06 rfl rfl hK
  have mc6 : MMc y6 M := ⟨M6.1, M6.2.1⟩
  have ac6 : acP s y6 := fun q => ⟨(lp3 q).1, fun e9 => by
    have o := s2 (Or.inl (by rw [e9]; decide))
    rw [lp2 (Or.inl (by rw [e9]; decide))]
    exact ⟨o.1, o.2.1⟩⟩
  have g6 := fun q (h0 : q ≠ 0) hq => m06.2.1 q h0 hq
  have hy6 : Y y6 S6 := ⟨ssub_tr ss4 ss6, ⟨lk6.1, lk6.2.1, n92, n93⟩, ac6, m06.1 52 (by decide)⟩
  refine ⟨lk6.2.1, fun cf => ⟨lk6.1, ?_⟩, fun cf => ⟨lk6.2.1, ?_⟩⟩
  rotate_left
  · -- it fails
    have L0 : ¬ L.1 = 0 := fun z => cf (by rw [q89, z]; decide)
    have w0 : (M.2.2 T).2.2.2.1 = 0 := Classical.byContradiction (fun n0 => L0 (by rw [eL, lkM_15 n0]))
    have ha := acM_F (wk := wk) (by rw [← eL]; exact L0)
    rw [← eL] at ha
    refine ds_actF (d := d + 2) t _ ht eT r6 K6 hN M6 hW (by rw [g6 73 (by decide) (by decide)]; exact h1) w0 q89 (fun u S1 ru su mu mm => Dv_i (h u S1 ru (ssub_tr hy6.1 su) (acS_up su hy6.2.1) ?_ (by rw [ha]; exact mm)))
    unfold acP
    rw [mu.1 88 (by decide), mu.1 89 (by decide)]
    exact ac6
  -- it does not fail
  rw [t_le, k0] at cf
  have L0 : L.1 = 0 := by
    rw [q89, op_16 _ (by omega)] at cf
    omega
  obtain ⟨q90, q91⟩ := q9 L0
  obtain ⟨c, ec⟩ : ∃ c, c = y6.1 0 88 := ⟨_, rfl⟩
  rw [← ec] at lp2 lp3 q88 ⊢
  obtain ⟨lpa, lp9, lpw⟩ := lp3 cf
  have c24 : 0 ≤ s.toInt ∧ s.toInt ≤ 4 → vp_in c 24 := fun q => by rw [vp_in_iff]; exact lpa q
  have c6 : (5 ≤ s.toInt ∧ s.toInt ≤ 10) ∨ s = 15 → vp_in c 6 := fun q => by
    have o := s2 q
    rw [lp2 q, vp_in_iff]; omega
  -- what leaves the threads alone
  have easy : ∀ (n : Nat), o = n → ¬ n = 9 → ¬ n = 15 → ¬ n = 7 → ∀ (z : gd) (S2 : gS) (v : Int32) (E : gMa), md [82, 90, 91, 92, 93] [70, 71, 72, 84] y6 z → ssub S6 S2 → MMc z E → E.2.2 = M.2.2 → efM C wa M T n L.2.1.toNatClampNeg L.2.2.1 L.2.2.2 wk = (E, v) → MD (d + 4) z_doAct 667 [(0, vr 0), (1, vi t), (3, vi k), (4, vi s), (5, vi c), (6, vi v)] [] S2 z (Dv Fv) := by
    intro n en n9 n15 n7 z S2 v E m ss mc hE he
    have w0 := (oN (by omega)).1
    refine go3 z S2 c v E (fun q => n9 (by have := (sE 9 (by omega)).mp q; omega)) ⟨ssub_tr hy6.1 ss, acS_up ss hy6.2.1, by unfold acP; rw [m.1 88 (by decide), m.1 89 (by decide)]; exact ac6, by rw [m.1 52 (by decide)]; exact hy6.2.2.2⟩ (RI_md m rfl rfl ss r6) (MK_md m rfl rfl K6) mc (fun t' ht' => by rw [hE]; exact mTq_md m rfl (M6.2.2 t' ht')) (by rw [hE]; exact sta1) (by rw [hE]; exact num0) (by rw [hE]; exact eKd.symm) (by rw [hE]; exact w0) (by rw [hE]; exact (hW T T6).2.1 w0) (by rw [hE]) L0 (by omega) (by rw [en]; exact he)
  refine ⟨fun e => ?_, fun e => ⟨lk6.2.2.1, fun z16 e16 => ?_⟩, fun e => ?_, fun e => ?_, fun e => ?_, fun e => ?_, fun e => ?_, fun e => ?_, fun e => ?_, fun e => ?_, fun e => ?_, fun no => ?_⟩
  · -- read
    have cv := c24 (by rw [e]; decide)
    refine ds_see3 t c ht cv (by rw [← eT]; exact (r6.2 T T6).2.2) (l := (M.2.2 T).2.2.2.2.2.2.1) (by rw [← eT]; exact (M6.2.2 T T6).2.2.2.2.2.2.2.2.1) (fun z ez => ?_)
    have ev : seL (M.2.2 T).2.2.2.2.2.2.1 c.toNatClampNeg (y6.1 70 c.toNatClampNeg) = seM M T L.2.1.toNatClampNeg := by
      rw [mc6.1 _ (vp_lt cv), q88]; rfl
    rw [ev] at ez ⊢
    have mz := md_f y6 92 (seM M T L.2.1.toNatClampNeg)
    rw [← ez] at mz
    exact easy 0 ((sE 0 (by omega)).mp e) (by decide) (by decide) (by decide) z _ _ M (md_w mz (by decide) (by decide)) (ssub_ad _ _ _) (MMc_eq mc6 (mz.2.1 70 (by decide) (by decide)) (mz.2.1 71 (by decide) (by decide)) (mz.2.1 72 (by decide) (by decide))) rfl ef_0
  · -- write
    have cv := c24 (by rw [e]; decide)
    have cr' := lpa (by rw [e]; decide)
    have o1 := (sE 1 (by omega)).mp e
    obtain ⟨w0, os⟩ := oN (by omega)
    have hq6 := M6.2.2 T T6
    have m16 := md_f y6 93 (y6.1 0 90)
    rw [← e16] at m16
    have h68 : z16.1 0 68 = Int32.ofNat wa := by rw [m16.1 68 (by decide), m06.1 68 (by decide)]; exact wy
    have h37 : z16.1 37 = x.1 37 := by rw [m16.2.1 37 (by decide) (by decide), g6 37 (by decide) (by decide)]
    have h80 : z16.1 80 = x.1 80 := by rw [m16.2.1 80 (by decide) (by decide), g6 80 (by decide) (by decide)]
    have e90 : z16.1 0 90 = L.2.2.1 := by rw [m16.1 90 (by decide)]; exact q90
    have cl : c.toNatClampNeg < C.2.2.1.length := by
      obtain ⟨p1, p2⟩ := lkM_pl (C := C) (w := wa) w0 (by rw [← eL]; exact L0)
      rw [← eL] at p2
      rw [q88, p2]
      refine lkI_in hX (st := st) (by rw [← eKd]; exact hst) (by omega) ?_ p1
      have l23 : (x.1 0 23).toInt = C.2.2.1.length := hK.2.2.1.1
      have := Int32.toInt_lt (x.1 0 23)
      omega
    have su : x.1 37 c.toNatClampNeg = if suM C c.toNatClampNeg = true then 1 else 0 := by
      obtain ⟨q, hq⟩ : ∃ q, C.2.2.1[c.toNatClampNeg]? = some q := ⟨_, List.getElem?_eq_getElem cl⟩
      rw [(hK.2.2.1.2 _ q hq).2]
      unfold suM
      rw [hq]
    have put : (wa = 0 ∨ suM C c.toNatClampNeg = true) → ∀ z : gd, z = si z16 70 c.toNatClampNeg (z16.1 0 90) → MD (d + 4) z_doAct 667 [(0, vr 0), (1, vi t), (3, vi k), (4, vi s), (5, vi c), (6, vi 0)] [] (sadd S6 0 93) z (Dv Fv) := fun hs z ez => by
      rw [e90] at ez
      have mz := md_a z16 70 c.toNatClampNeg L.2.2.1 (by decide)
      rw [← ez] at mz
      have mm : md [82, 90, 91, 92, 93] [70, 71, 72, 84] y6 z := md_w (md_tr (L3 := [93]) (A3 := [70]) m16 mz rfl rfl) (by decide) (by decide)
      exact easy 1 o1 (by decide) (by decide) (by decide) z _ 0 (upC M c.toNatClampNeg L.2.2.1) mm (ssub_ad _ _ _) (MMc_C mc6 (fun j => by rw [ez, si_at rfl, m16.2.1 70 (by decide) (by decide)]) (by rw [mz.2.1 71 (by decide) (by decide), m16.2.1 71 (by decide) (by decide)]) (by rw [mz.2.1 72 (by decide) (by decide), m16.2.1 72 (by decide) (by decide)])) rfl (by rw [← q88, ef_1, if_pos hs])
    rw [h68, h37, h80]
    refine ⟨fun c0 => ⟨Or.inr lk6.2.2.1, cv, put (Or.inl (w01.resolve_right (fun z => by rw [z] at c0; exact absurd c0 (by decide))))⟩, fun nw => ⟨cv, fun ns9 => ⟨ht, ?_⟩, fun n0 => ⟨Or.inr lk6.2.2.1, cv, put (Or.inr (Classical.byContradiction (fun z => n0 (by rw [su, if_neg z]))))⟩⟩⟩
    have w1 : wa = 1 := w01.resolve_left (fun z => nw (by rw [z]; rfl))
    have su0 : ¬ (wa = 0 ∨ suM C c.toNatClampNeg = true) := fun z => z.elim (fun z => by omega) (fun z => by rw [su, if_pos z] at ns9; exact absurd ns9 (by decide))
    have n8 := lpw e (by rw [wy, w1]; rfl) ns9
    obtain ⟨N, eN⟩ : ∃ N, N = x.1 80 T := ⟨_, rfl⟩
    have rlx := (ri.2 T T6).2.2
    have N0 := rlx.1
    have N8 := rlx.2.1
    obtain ⟨ll1, ll2⟩ := hq6.2.2.2.2.2.2.2.2.1
    rw [g6 80 (by decide) (by decide), ← eN] at ll1
    rw [← eN] at N0 N8 n8 ⊢
    have Nl : N.toInt < 8 := by
      rw [t_eq, k8] at n8
      omega
    obtain ⟨iv, ie⟩ := t10 ht (i := N) N0 (by omega)
    rw [← eT, show N.toNatClampNeg = (M.2.2 T).2.2.2.2.2.2.1.length by rw [t_cl, ll1]; rfl] at ie
    refine ⟨iv, fun z25 e25 => ⟨ht, ?_⟩⟩
    have i80 : z25.1 80 T = N := by rw [e25, si_cell (by decide), h80, eN]
    rw [i80]
    refine ⟨Or.inr (Or.inr lk6.2.2.1), iv, fun z29 e29 => ⟨ht, ht, fun z32 e32 => ?_⟩⟩
    have j80 : z29.1 80 T = N := by rw [e29, si_cell (by decide), i80]
    rw [j80] at e32
    have z25e : z25.1 0 90 = L.2.2.1 := by rw [e25, si_cell (by decide)]; exact e90
    rw [z25e] at e29
    have a2 : RI z16 (sadd S6 0 93) := RI_md (md_w m16 (L2 := [82, 90, 91, 92, 93]) (A2 := [70, 71, 72, 75, 76, 78, 79, 84]) (by decide) (by decide)) rfl rfl (ssub_ad _ _ _) r6
    have m25 := md_a z16 81 (10 * t + N).toNatClampNeg c (by decide)
    rw [← e25] at m25
    have m29 := md_a z25 82 (10 * t + N).toNatClampNeg L.2.2.1 (by decide)
    rw [← e29] at m29
    have m32 := md_a z29 80 T (N + 1) (by decide)
    rw [← e32] at m32
    have mm : md [] [80, 81, 82] z16 z32 := md_tr (md_tr (L3 := []) (A3 := [81, 82]) m25 m29 rfl rfl) m32 rfl rfl
    have my : md [93] [80, 81, 82] y6 z32 := md_tr m16 mm rfl rfl
    have f := fun q (h0 : q ≠ 0) hq => my.2.1 q h0 hq
    obtain ⟨S9, eS9⟩ : ∃ S9, S9 = sadd (sadd (sadd S6 0 93) 81 (10 * t + N).toNatClampNeg) 82 (10 * t + N).toNatClampNeg := ⟨_, rfl⟩
    rw [← eS9]
    have ss9 : ssub (sadd S6 0 93) S9 := by rw [eS9]; exact ssub_tr (ssub_ad _ _ _) (ssub_ad _ _ _)
    have gm := fun q (h0 : q ≠ 0) hq => mm.2.1 q h0 hq
    have Ni : (N + 1).toInt = N.toInt + 1 := by rw [t_add (by omega) (by omega), k1]
    have r32 : RI z32 S9 := by
      refine ⟨CP_md mm rfl rfl a2.1, fun t' ht' => ?_⟩
      obtain ⟨q1, q2, q3⟩ := a2.2 t' ht'
      refine ⟨?_, ?_, ?_⟩
      · unfold ra
        rw [gm 73 (by decide) (by decide), gm 74 (by decide) (by decide), gm 54 (by decide) (by decide), mm.1 52 (by decide)]
        exact q1
      · unfold rw'
        rw [gm 73 (by decide) (by decide), gm 74 (by decide) (by decide), gm 55 (by decide) (by decide), gm 77 (by decide) (by decide)]
        exact q2
      · have q4 := rl_81 q3 e25 cr'.1 cr'.2
        have ent : ∀ kk : Nat, (kk : Int) < (z16.1 80 t').toInt → S9 81 (10 * t' + kk) ∧ S9 82 (10 * t' + kk) ∧ 0 ≤ (z32.1 81 (10 * t' + kk)).toInt ∧ (z32.1 81 (10 * t' + kk)).toInt < 24 := by
          intro kk hk
          have z80 : z25.1 80 t' = z16.1 80 t' := by rw [e25, si_cell (by decide)]
          obtain ⟨b1, b2, b3⟩ := q4.2.2 kk (by rw [z80]; exact hk)
          have z81 : z32.1 81 = z25.1 81 := by rw [e32, si_cell (by decide), e29, si_cell (by decide)]
          rw [z81, eS9]
          exact ⟨Or.inr b1, Or.inr b2, b3⟩
        by_cases q : t' = T
        · have z80 : z32.1 80 t' = N + 1 := by rw [q, e32, si_get, if_pos ⟨rfl, rfl⟩]
          refine ⟨by rw [z80]; omega, by rw [z80]; omega, fun kk hk => ?_⟩
          rw [z80, Ni] at hk
          have b80 : z16.1 80 t' = N := by rw [h80, q, eN]
          by_cases q9 : (kk : Int) < N.toInt
          · exact ent kk (by rw [b80]; exact q9)
          · have ek9 : 10 * t' + kk = (10 * t + N).toNatClampNeg := by
              rw [ie, q]; omega
            have z81 : z32.1 81 (10 * t' + kk) = c := by rw [e32, si_cell (by decide), e29, si_cell (by decide), e25, si_get, if_pos ⟨rfl, ek9⟩]
            rw [z81, eS9]
            exact ⟨Or.inr (Or.inl ⟨rfl, ek9⟩), Or.inl ⟨rfl, ek9⟩, cr'⟩
        · have z80 : z32.1 80 t' = z16.1 80 t' := by rw [e32, si_ne 80 t' q, e29, si_cell (by decide), e25, si_cell (by decide)]
          unfold rl
          rw [z80]
          exact ⟨q3.1, q3.2.1, ent⟩
    have mlx : ∀ t' : Nat, t' < 6 → ¬ t' = T → ∀ j q, (M.2.2 t').2.2.2.2.2.2.1[j]? = some q → z32.1 81 (10 * t' + j) = y6.1 81 (10 * t' + j) ∧ z32.1 82 (10 * t' + j) = y6.1 82 (10 * t' + j) := fun t' ht' ne j q hj => by
      have b := (M6.2.2 t' ht').2.2.2.2.2.2.2.2.1.1
      have b8 := (r6.2 t' ht').2.2.2.1
      have := gt_lt hj
      have b9 : 10 * t' + j ≠ (10 * t + N).toNatClampNeg := by rw [ie]; omega
      rw [e32, si_cell (by decide), si_cell (by decide), e29, si_cell (by decide), si_ne 82 _ b9, e25, si_ne 81 _ b9, si_cell (by decide), m16.2.1 81 (by decide) (by decide), m16.2.1 82 (by decide) (by decide)]
      exact ⟨rfl, rfl⟩
    refine go3 z32 S9 c 0 (upT M T ((M.2.2 T).1, (M.2.2 T).2.1, (M.2.2 T).2.2.1, (M.2.2 T).2.2.2.1, (M.2.2 T).2.2.2.2.1, (M.2.2 T).2.2.2.2.2.1, (M.2.2 T).2.2.2.2.2.2.1 ++ [(c.toNatClampNeg, L.2.2.1)], (M.2.2 T).2.2.2.2.2.2.2)) (fun q => by have := (sE 9 (by omega)).mp q; omega) ⟨ssub_tr hy6.1 (ssub_tr (ssub_ad _ _ _) ss9), acS_up ss9 (acS_up (ssub_ad _ _ _) hy6.2.1), by unfold acP; rw [my.1 88 (by decide), my.1 89 (by decide)]; exact ac6, by rw [my.1 52 (by decide)]; exact hy6.2.2.2⟩ r32 (MK_md my rfl rfl K6) (MMc_eq mc6 (f 70 (by decide) (by decide)) (f 71 (by decide) (by decide)) (f 72 (by decide) (by decide))) (fun t' ht' => ?_) (by show (upf M.2.2 T _ T).1 = 1; rw [upf_eq]; exact sta1) (by show (upf M.2.2 T _ T).2.1 = 0; rw [upf_eq]; exact num0) (by show (upf M.2.2 T _ T).2.2.1 = K; rw [upf_eq]; exact eKd.symm) (by show (upf M.2.2 T _ T).2.2.2.1 = 0; rw [upf_eq]; exact w0) (by show (upf M.2.2 T _ T).2.2.2.2.1 = 0; rw [upf_eq]; exact (hW T T6).2.1 w0) (by show (upf M.2.2 T _ T).2.2.2.2.2.2.2 = _; rw [upf_eq]) L0 (by omega) (by rw [o1, ← q88, ef_1, if_neg su0])
    show mTq z32 C t' (upf M.2.2 T _ t')
    have pre : ∀ hh : gTq, mTq y6 C t' (M.2.2 t') → mLt z32 t' hh.2.2.2.2.2.2.1 → (hh.1, hh.2.1, hh.2.2.1, hh.2.2.2.1, hh.2.2.2.2.1, hh.2.2.2.2.2.1, (M.2.2 t').2.2.2.2.2.2.1, hh.2.2.2.2.2.2.2) = M.2.2 t' → mTq z32 C t' hh := fun hh q ql eh => by
      rw [← eh] at q
      obtain ⟨a1, a2, a3, a4, a5, a6, a7, a8, -, b1⟩ := q
      refine ⟨by rw [f 73 (by decide) (by decide)]; exact a1, a2, by rw [f 75 (by decide) (by decide)]; exact a3, by rw [f 74 (by decide) (by decide)]; exact a4, by rw [f 77 (by decide) (by decide)]; exact a5, a6, by rw [f 78 (by decide) (by decide)]; exact a7, by rw [f 79 (by decide) (by decide)]; exact a8, ql, ?_⟩
      unfold mLv at b1 ⊢
      rw [f 76 (by decide) (by decide)]; exact b1
    by_cases q : t' = T
    · rw [q, upf_eq]
      rw [q] at pre
      refine pre _ hq6 ⟨?_, fun j qq hj => ?_⟩ rfl
      · show (z32.1 80 T).toInt = (((M.2.2 T).2.2.2.2.2.2.1 ++ [(c.toNatClampNeg, L.2.2.1)]).length : Nat)
        rw [e32, si_get, if_pos ⟨rfl, rfl⟩, Ni, ll1, List.length_append]
        rfl
      · have hj : ((M.2.2 T).2.2.2.2.2.2.1 ++ [(c.toNatClampNeg, L.2.2.1)])[j]? = some qq := hj
        have e81 : z32.1 81 (10 * T + j) = if 10 * T + j = (10 * t + N).toNatClampNeg then c else y6.1 81 (10 * T + j) := by rw [e32, si_cell (by decide), e29, si_cell (by decide), e25, si_at rfl, m16.2.1 81 (by decide) (by decide)]
        have e82 : z32.1 82 (10 * T + j) = if 10 * T + j = (10 * t + N).toNatClampNeg then L.2.2.1 else y6.1 82 (10 * T + j) := by rw [e32, si_cell (by decide), e29, si_at rfl, e25, si_cell (by decide), m16.2.1 82 (by decide) (by decide)]
        rw [e81, e82, ie]
        by_cases cj : j < (M.2.2 T).2.2.2.2.2.2.1.length
        · rw [List.getElem?_append_left cj] at hj
          rw [if_neg (by omega), if_neg (by omega)]
          exact ll2 j qq hj
        · rw [List.getElem?_append_right (by omega)] at hj
          have jl := gt_lt hj
          have jl : j - (M.2.2 T).2.2.2.2.2.2.1.length < 1 := jl
          have j0 : j - (M.2.2 T).2.2.2.2.2.2.1.length = 0 := by omega
          rw [j0] at hj
          have hj := Option.some.inj hj
          rw [if_pos (by omega), if_pos (by omega), ← hj]
          exact ⟨i32_of (by show c.toInt = (c.toNatClampNeg : Nat); rw [t_cl]; omega), rfl, by show c.toNatClampNeg < 24; rw [t_cl]; omega⟩
    · rw [upf_ne q]
      refine pre _ (M6.2.2 t' ht') ⟨?_, fun j qq hj => ?_⟩ rfl
      · rw [e32, si_ne 80 t' q, e29, si_cell (by decide), e25, si_cell (by decide), m16.2.1 80 (by decide) (by decide)]
        exact (M6.2.2 t' ht').2.2.2.2.2.2.2.2.1.1
      · obtain ⟨c1, c2⟩ := mlx t' ht' q j qq hj
        rw [c1, c2]
        exact (M6.2.2 t' ht').2.2.2.2.2.2.2.2.1.2 j qq hj
  · -- swap, add, cas
    have s24 : 0 ≤ s.toInt ∧ s.toInt ≤ 4 := by rcases e with e | e | e <;> (rw [e]; decide)
    have oo : o = 2 ∨ o = 3 ∨ o = 4 := e.imp (sE 2 (by omega)).mp (Or.imp (sE 3 (by omega)).mp (sE 4 (by omega)).mp)
    have cv := c24 s24
    refine ⟨cv, fun z38 e38 => ⟨cv, Or.inr lk6.2.2.1, ?_⟩⟩
    have m38 := md_f y6 92 (y6.1 70 c.toNatClampNeg)
    rw [← e38] at m38
    have c70 : z38.1 70 c.toNatClampNeg = M.1 c.toNatClampNeg := by rw [m38.2.1 70 (by decide) (by decide)]; exact mc6.1 _ (vp_lt cv)
    have e90 : z38.1 0 90 = L.2.2.1 := by rw [m38.1 90 (by decide)]; exact q90
    have e91 : z38.1 0 91 = L.2.2.2 := by rw [m38.1 91 (by decide)]; exact q91
    have fin : ∀ (u v : Int32) (z z2 : gd), z = si z38 70 c.toNatClampNeg u → z2 = si z 0 93 (z.1 70 c.toNatClampNeg) → efM C wa M T o c.toNatClampNeg L.2.2.1 L.2.2.2 wk = (upC M c.toNatClampNeg u, v) → MD (d + 4) z_doAct 667 [(0, vr 0), (1, vi t), (3, vi k), (4, vi s), (5, vi c), (6, vi v)] [] (sadd (sadd S6 0 92) 0 93) z2 (Dv Fv) := by
      intro u v z z2 ez ez2 he
      have mz := md_a z38 70 c.toNatClampNeg u (by decide)
      rw [← ez] at mz
      have mz2 := md_f z 93 (z.1 70 c.toNatClampNeg)
      rw [← ez2] at mz2
      have mm : md [82, 90, 91, 92, 93] [70, 71, 72, 84] y6 z2 := md_w (md_tr (L3 := [92, 93]) (A3 := [70]) m38 (md_tr (L3 := [93]) (A3 := [70]) mz mz2 rfl rfl) rfl rfl) (by decide) (by decide)
      exact easy o rfl (by omega) (by omega) (by omega) z2 _ v (upC M c.toNatClampNeg u) mm (ssub_tr (ssub_ad _ _ _) (ssub_ad _ _ _)) (MMc_C mc6 (fun j => by rw [mz2.2.1 70 (by decide) (by decide), ez, si_at rfl, m38.2.1 70 (by decide) (by decide)]) (by rw [mz2.2.1 71 (by decide) (by decide), mz.2.1 71 (by decide) (by decide), m38.2.1 71 (by decide) (by decide)]) (by rw [mz2.2.1 72 (by decide) (by decide), mz.2.1 72 (by decide) (by decide), m38.2.1 72 (by decide) (by decide)])) rfl (by rw [← q88]; exact he)
    have p301 : ∀ (b v : Int32), ((b = 0 ∧ ¬ M.1 c.toNatClampNeg = L.2.2.1) ∨ (b = 1 ∧ M.1 c.toNatClampNeg = L.2.2.1)) → (¬ o = 4 → v = M.1 c.toNatClampNeg) → (o = 4 → v = if M.1 c.toNatClampNeg = L.2.2.1 then 1 else 0) → MD (d + 4) z_doAct 301 [(0, vr 0), (1, vi t), (3, vi k), (4, vi s), (5, vi c), (7, vi b)] [vi v] (sadd S6 0 92) z38 (Dv Fv) := by
      intro b v hb v1 v4
      refine sd_doAct_301 _ _ _ _ _ _ ⟨fun n2 => ⟨fun n3 => ⟨fun b0 => ⟨cv, cv, fun z ez => ⟨cv, fun z2 ez2 => fin (M.1 c.toNatClampNeg) v z z2 (by rw [ez, c70]) ez2 ?_⟩⟩, fun nb => ⟨Or.inr lk6.2.2.2, cv, fun z ez => ⟨cv, fun z2 ez2 => fin L.2.2.2 v z z2 (by rw [ez, e91]) ez2 ?_⟩⟩⟩, fun e3 => ⟨cv, Or.inr lk6.2.2.1, cv, fun z ez => ⟨cv, fun z2 ez2 => fin (M.1 c.toNatClampNeg + L.2.2.1) v z z2 (by rw [ez, c70, e90]) ez2 ?_⟩⟩⟩, fun e2 => ⟨Or.inr lk6.2.2.1, cv, fun z ez => ⟨cv, fun z2 ez2 => fin L.2.2.1 v z z2 (by rw [ez, e90]) ez2 ?_⟩⟩⟩
      · have o4 : o = 4 := (oo.resolve_left (fun q => n2 ((sE 2 (by omega)).mpr q))).resolve_left (fun q => n3 ((sE 3 (by omega)).mpr q))
        have ne : ¬ M.1 c.toNatClampNeg = L.2.2.1 := hb.elim (fun q => q.2) (fun q => absurd (q.1.symm.trans b0) (by decide))
        have v4 := v4 o4
        rw [if_neg ne] at v4
        rw [o4, ef_4, if_neg ne, if_neg ne, v4]
      · have o4 : o = 4 := (oo.resolve_left (fun q => n2 ((sE 2 (by omega)).mpr q))).resolve_left (fun q => n3 ((sE 3 (by omega)).mpr q))
        have ye : M.1 c.toNatClampNeg = L.2.2.1 := hb.elim (fun q => absurd q.1 nb) (fun q => q.2)
        have v4 := v4 o4
        rw [if_pos ye] at v4
        rw [o4, ef_4, if_pos ye, if_pos ye, v4]
      · have o3 := (sE 3 (by omega)).mp e3
        rw [v1 (by omega), o3, ef_3]
      · have o2 := (sE 2 (by omega)).mp e2
        rw [v1 (by omega), o2, ef_2]
    have p278 : ∀ b : Int32, ((b = 0 ∧ ¬ M.1 c.toNatClampNeg = L.2.2.1) ∨ (b = 1 ∧ M.1 c.toNatClampNeg = L.2.2.1)) → MD (d + 4) z_doAct 278 [(0, vr 0), (1, vi t), (3, vi k), (4, vi s), (5, vi c)] [vi b] (sadd S6 0 92) z38 (Dv Fv) := fun b hb => sd_doAct_278 _ _ _ _ _ ⟨fun n4 => ⟨cv, p301 b _ hb (fun _ => c70) (fun q => absurd ((sE 4 (by omega)).mpr q) n4)⟩, fun e4 => ds_one3 _ (p301 b _ hb (fun q => absurd ((sE 4 (by omega)).mp e4) q) (fun _ => by
      rcases hb with ⟨h1, h2⟩ | ⟨h1, h2⟩
      · rw [if_pos h1, if_neg h2]
      · rw [if_neg (by rw [h1]; decide), if_pos h2]))⟩
    rw [c70, e90]
    exact ⟨fun ne => p278 0 (Or.inl ⟨rfl, ne⟩), fun ye => p278 1 (Or.inr ⟨rfl, ye⟩)⟩
  · -- take
    have cv := c6 (Or.inl (by rw [e]; decide))
    refine ⟨cv, fun z ez => ⟨cv, cv, fun z2 ez2 => ?_⟩⟩
    have mz := md_a y6 71 c.toNatClampNeg t (by decide)
    rw [← ez] at mz
    have mz2 := md_a z 72 c.toNatClampNeg (z.1 72 c.toNatClampNeg + 1) (by decide)
    rw [← ez2] at mz2
    have z72 : z.1 72 = y6.1 72 := mz.2.1 72 (by decide) (by decide)
    have h72 := (mc6.2 _ (vp_lt cv)).2.2
    refine easy 5 ((sE 5 (by omega)).mp e) (by decide) (by decide) (by decide) z2 _ 0 (upL M c.toNatClampNeg (T + 1, (M.2.1 c.toNatClampNeg).2 + 1)) (md_tr mz mz2 rfl rfl) (ssub_rf _) (MMc_L mc6 (by rw [mz2.2.1 70 (by decide) (by decide), mz.2.1 70 (by decide) (by decide)]) (a := t) (fun j => by rw [mz2.2.1 71 (by decide) (by decide), ez, si_at rfl]) (fun j => by rw [ez2, si_at rfl, z72, h72]) ?_ (by omega)) rfl (by rw [← q88]; exact ef_5)
    rw [tT]
    exact ((hol_t (T + 1) (by omega) T T6).mpr rfl).symm
  · -- taken again
    have cv := c6 (Or.inr e)
    have oo := (sE 15 (by omega)).mp e
    have hq6 := M6.2.2 T T6
    refine ⟨cv, fun z ez => ⟨ht, cv, fun z2 ez2 => ⟨ht, fun z3 ez3 => ⟨ht, fun z4 ez4 => ?_⟩⟩⟩⟩
    skip
    have mz := md_a y6 71 c.toNatClampNeg t (by decide)
    rw [← ez] at mz
    have mz2 := md_a z 72 c.toNatClampNeg (z.1 78 T) (by decide)
    rw [← ez2] at mz2
    have ma : md [] [71, 72] y6 z2 := md_tr mz mz2 rfl rfl
    have a2 : RI z2 S6 := RI_md (md_w ma (L2 := [82, 90, 91, 92, 93]) (A2 := [70, 71, 72, 75, 76, 78, 79, 84]) (by decide) (by decide)) rfl rfl (ssub_rf _) r6
    have t24 : th3 T z2 z4 := th3_tr (y := z3) (by rw [ez3]; exact th3_si (by decide) _ _) (by rw [ez4]; exact th3_si (by decide) _ _)
    have mb : md [] [77, 78] z2 z4 := by
      have b3 := md_a z2 77 T 0 (by decide)
      rw [← ez3] at b3
      have b4 := md_a z3 78 T 0 (by decide)
      rw [← ez4] at b4
      exact md_tr b3 b4 rfl rfl
    have mm : md [] [71, 72, 77, 78] y6 z4 := md_tr ma mb rfl rfl
    have f := fun q (h0 : q ≠ 0) hq => mm.2.1 q h0 hq
    have w4 : z4.1 77 T = 0 := by rw [ez4, si_cell (by decide), ez3, si_get, if_pos ⟨rfl, rfl⟩]
    have w8 : z4.1 78 T = 0 := by rw [ez4, si_get, if_pos ⟨rfl, rfl⟩]
    have h78 : z.1 78 T = (M.2.2 T).2.2.2.2.1 := by rw [mz.2.1 78 (by decide) (by decide)]; exact hq6.2.2.2.2.2.2.1
    have c73 : z4.1 73 = z2.1 73 := mb.2.1 73 (by decide) (by decide)
    have c74 : z4.1 74 = z2.1 74 := mb.2.1 74 (by decide) (by decide)
    refine go3 z4 S6 c 0 (upT (upL M c.toNatClampNeg (T + 1, (M.2.2 T).2.2.2.2.1)) T ((M.2.2 T).1, (M.2.2 T).2.1, (M.2.2 T).2.2.1, 0, 0, (M.2.2 T).2.2.2.2.2)) (fun q => by have := (sE 9 (by omega)).mp q; omega) ⟨hy6.1, hy6.2.1, by unfold acP; rw [mm.1 88 (by decide), mm.1 89 (by decide)]; exact ac6, by rw [mm.1 52 (by decide)]; exact hy6.2.2.2⟩ ⟨CP_th (th3_th t24) a2.1, fun t' ht' => ?_⟩ (MK_md mm rfl rfl K6) ?_ (fun t' ht' => ?_) (by show (upf M.2.2 T _ T).1 = 1; rw [upf_eq]; exact sta1) (by show (upf M.2.2 T _ T).2.1 = 0; rw [upf_eq]; exact num0) (by show (upf M.2.2 T _ T).2.2.1 = K; rw [upf_eq]; exact eKd.symm) (by show (upf M.2.2 T _ T).2.2.2.1 = 0; rw [upf_eq]) (by show (upf M.2.2 T _ T).2.2.2.2.1 = 0; rw [upf_eq]) (by show (upf M.2.2 T _ T).2.2.2.2.2.2.2 = _; rw [upf_eq]) L0 (by omega) (by rw [oo, ← q88]; exact ef_15)
    · by_cases q : t' = T
      · rw [q]
        obtain ⟨q1, q2, q3⟩ := a2.2 T T6
        refine ⟨?_, Or.inl w4, rl_th (th3_th t24) (ssub_rf _) q3⟩
        unfold ra
        rw [c73, c74, t24.1.1 52 (by decide), t24.1.2.1 54 (by decide) (by decide)]
        exact q1
      · exact rT_th (th3_th t24) (ssub_rf _) q (a2.2 t' ht')
    · have q := MMc_L (M := M) (z := z4) (c := c.toNatClampNeg) (n := T + 1) (a := t) (b := (M.2.2 T).2.2.2.2.1) mc6 (f 70 (by decide) (by decide)) (fun j => by rw [mb.2.1 71 (by decide) (by decide), mz2.2.1 71 (by decide) (by decide), ez, si_at rfl]) (fun j => by rw [mb.2.1 72 (by decide) (by decide), ez2, si_at rfl, h78, mz.2.1 72 (by decide) (by decide)]) (by rw [tT]; exact ((hol_t (T + 1) (by omega) T T6).mpr rfl).symm) (by omega)
      exact q
    · show mTq z4 C t' (upf M.2.2 T _ t')
      by_cases q : t' = T
      · rw [q, upf_eq]
        exact mTq_w hq6 (fun c9 h9 => by rw [f c9 (by omega) (by simp; omega)]) (f 76 (by decide) (by decide)) (f 81 (by decide) (by decide)) (f 82 (by decide) (by decide)) w4 (by omega) w8 (by rw [f 79 (by decide) (by decide)]; exact hq6.2.2.2.2.2.2.2.1)
      · rw [upf_ne q]
        exact mTq_th hN t24 q (mTq_md ma rfl (M6.2.2 t' ht'))
  · -- give
    have cv := c6 (Or.inl (by rw [e]; decide))
    have h72 := (mc6.2 _ (vp_lt cv)).2.2
    refine ⟨cv, cv, fun z ez => ⟨cv, fun n0 => ⟨cv, fun z2 ez2 => ?_⟩, fun e0 => ⟨cv, fun z2 ez2 => ?_⟩⟩⟩
    · have mz := md_a y6 72 c.toNatClampNeg (y6.1 72 c.toNatClampNeg - 1) (by decide)
      rw [← ez] at mz
      have mz2 := md_a z 71 c.toNatClampNeg t (by decide)
      rw [← ez2] at mz2
      have z71 : z.1 71 = y6.1 71 := mz.2.1 71 (by decide) (by decide)
      rw [ez, si_get, if_pos ⟨rfl, rfl⟩, h72] at n0
      have he := ef_6 (C := C) (M := M) (w := wa) (t := T) (c := c.toNatClampNeg) (e := L.2.2.1) (f := L.2.2.2) (wk := wk)
      rw [if_neg n0] at he
      refine easy 6 ((sE 6 (by omega)).mp e) (by decide) (by decide) (by decide) z2 _ 0 (upL M c.toNatClampNeg (T + 1, (M.2.1 c.toNatClampNeg).2 - 1)) (md_tr mz mz2 rfl rfl) (ssub_rf _) (MMc_L mc6 (by rw [mz2.2.1 70 (by decide) (by decide), mz.2.1 70 (by decide) (by decide)]) (a := t) (fun j => by rw [ez2, si_at rfl, z71]) (fun j => by rw [mz2.2.1 72 (by decide) (by decide), ez, si_at rfl, h72]) ?_ (by omega)) rfl (by rw [← q88]; exact he)
      rw [tT]
      exact ((hol_t (T + 1) (by omega) T T6).mpr rfl).symm
    · have mz := md_a y6 72 c.toNatClampNeg (y6.1 72 c.toNatClampNeg - 1) (by decide)
      rw [← ez] at mz
      have mz2 := md_a z 71 c.toNatClampNeg (-1) (by decide)
      rw [← ez2] at mz2
      have z71 : z.1 71 = y6.1 71 := mz.2.1 71 (by decide) (by decide)
      rw [ez, si_get, if_pos ⟨rfl, rfl⟩, h72] at e0
      have he := ef_6 (C := C) (M := M) (w := wa) (t := T) (c := c.toNatClampNeg) (e := L.2.2.1) (f := L.2.2.2) (wk := wk)
      rw [if_pos e0] at he
      exact easy 6 ((sE 6 (by omega)).mp e) (by decide) (by decide) (by decide) z2 _ 0 (upL M c.toNatClampNeg (0, (M.2.1 c.toNatClampNeg).2 - 1)) (md_tr mz mz2 rfl rfl) (ssub_rf _) (MMc_L mc6 (by rw [mz2.2.1 70 (by decide) (by decide), mz.2.1 70 (by decide) (by decide)]) (a := -1) (fun j => by rw [ez2, si_at rfl, z71]) (fun j => by rw [mz2.2.1 72 (by decide) (by decide), ez, si_at rfl, h72]) rfl (by omega)) rfl (by rw [← q88]; exact he)
  · -- wait
    have cv := c6 (Or.inl (by rw [e]; decide))
    have oo := (sE 7 (by omega)).mp e
    obtain ⟨w0, os⟩ := oN (by omega)
    have hq6 := M6.2.2 T T6
    refine ⟨cv, ht, fun z ez => ⟨cv, fun z2 ez2 => ⟨cv, fun z3 ez3 => ⟨ht, fun z4 ez4 => ?_⟩⟩⟩⟩
    have mz := md_a y6 78 T (y6.1 72 c.toNatClampNeg) (by decide)
    rw [← ez] at mz
    have mz2 := md_a z 72 c.toNatClampNeg 0 (by decide)
    rw [← ez2] at mz2
    have mz3 := md_a z2 71 c.toNatClampNeg (-1) (by decide)
    rw [← ez3] at mz3
    have mz4 := md_a z3 77 T 1 (by decide)
    rw [← ez4] at mz4
    have ma : md [] [71, 72, 78] y6 z3 := md_tr (md_tr (L3 := []) (A3 := [72, 78]) mz mz2 rfl rfl) mz3 rfl rfl
    have mm : md [] [71, 72, 77, 78] y6 z4 := md_tr ma mz4 rfl rfl
    have mx : md [82, 88, 89, 90, 91, 92, 93] [71, 72, 77, 78, 84] x z4 := md_tr m06 mm rfl rfl
    have f := fun q (h0 : q ≠ 0) hq => mm.2.1 q h0 hq
    have a2 : RI z3 S6 := RI_md (md_w ma (L2 := [82, 90, 91, 92, 93]) (A2 := [70, 71, 72, 75, 76, 78, 79, 84]) (by decide) (by decide)) rfl rfl (ssub_rf _) r6
    have t4 : th3 T z3 z4 := by rw [ez4]; exact th3_si (by decide) _ _
    have w4 : z4.1 77 T = 1 := by rw [ez4, si_get, if_pos ⟨rfl, rfl⟩]
    have w8 : z4.1 78 T = (M.2.1 c.toNatClampNeg).2 := by rw [ez4, si_cell (by decide), ez3, si_cell (by decide), ez2, si_cell (by decide), ez, si_get, if_pos ⟨rfl, rfl⟩]; exact (mc6.2 _ (vp_lt cv)).2.2
    have c73 : z4.1 73 = z3.1 73 := mz4.2.1 73 (by decide) (by decide)
    have c74 : z4.1 74 = z3.1 74 := mz4.2.1 74 (by decide) (by decide)
    have ha := acM_7 (wk := wk) (by rw [← eL]; exact L0) (by rw [← eo]; exact oo)
    rw [← eL, ← q88, ef_7] at ha
    have mL := MMc_L (M := M) (z := z4) (c := c.toNatClampNeg) (n := 0) (a := -1) (b := 0) mc6 (f 70 (by decide) (by decide)) (fun j => by rw [mz4.2.1 71 (by decide) (by decide), ez3, si_at rfl, mz2.2.1 71 (by decide) (by decide), mz.2.1 71 (by decide) (by decide)]) (fun j => by rw [mz4.2.1 72 (by decide) (by decide), mz3.2.1 72 (by decide) (by decide), ez2, si_at rfl, mz.2.1 72 (by decide) (by decide)]) rfl (by omega)
    refine Dv_i (h z4 S6 ⟨CP_th (th3_th t4) a2.1, fun t' ht' => ?_⟩ hy6.1 hy6.2.1 (by unfold acP; rw [mm.1 88 (by decide), mm.1 89 (by decide)]; exact ac6) ?_)
    rotate_left
    · rw [ha]
      refine ⟨mL.1, mL.2, fun t' ht' => ?_⟩
      show mTq z4 C t' (upf M.2.2 T _ t')
      by_cases q : t' = T
      · rw [q, upf_eq]
        exact mTq_w hq6 (fun c9 h9 => by rw [f c9 (by omega) (by simp; omega)]) (f 76 (by decide) (by decide)) (f 81 (by decide) (by decide)) (f 82 (by decide) (by decide)) w4 (by omega) w8 (by rw [f 79 (by decide) (by decide)]; exact hq6.2.2.2.2.2.2.2.1)
      · rw [upf_ne q]
        refine mTq_eq (M6.2.2 t' ht') (fun c9 h9 => ?_) (f 76 (by decide) (by decide)) (f 81 (by decide) (by decide)) (f 82 (by decide) (by decide))
        rw [ez4, si_ne c9 t' q, ez3, si_cell (by omega), ez2, si_cell (by omega), ez, si_ne c9 t' q]
    · by_cases q : t' = T
      · rw [q]
        obtain ⟨q1, q2, q3⟩ := a2.2 T T6
        refine ⟨?_, Or.inr ⟨Or.inl w4, by rw [f 73 (by decide) (by decide), g6 73 (by decide) (by decide)]; exact h1, ?_⟩, rl_th (th3_th t4) (ssub_rf _) q3⟩
        · unfold ra
          rw [c73, c74, t4.1.1 52 (by decide), t4.1.2.1 54 (by decide) (by decide)]
          exact q1
        · rw [mx.2.1 55 (by decide) (by decide), mx.2.1 74 (by decide) (by decide), ← ek, g55, ← os, oo]; rfl
      · exact rT_th (th3_th t4) (ssub_rf _) q (a2.2 t' ht')
  · -- wake
    have cv := c6 (Or.inl (by rw [e]; decide))
    have o8 := (sE 8 (by omega)).mp e
    obtain ⟨w0, os⟩ := oN (by omega)
    have cb := vp_in_iff.mp cv
    refine ds_wake3 t w k c s r6 K6 hN hX M6 m74 (by omega) eKd.symm hst (by omega) ⟨cb.1, cb.2⟩ (by rw [g6 77 (by decide) (by decide), m77, w0]; rfl) hwk (fun z rz mz z77 mt => ?_)
    have wT : wkT C M T c.toNatClampNeg wk T = M.2.2 T := if_neg (fun z9 => by rw [w0] at z9; exact absurd z9.2.1 (by decide))
    exact go3 z S6 c 0 (M.1, M.2.1, wkT C M T c.toNatClampNeg wk) (fun q => by have := (sE 9 (by omega)).mp q; omega) ⟨hy6.1, hy6.2.1, by unfold acP; rw [mz.1 88 (by decide), mz.1 89 (by decide)]; exact ac6, by rw [mz.1 52 (by decide)]; exact hy6.2.2.2⟩ rz (MK_md mz rfl rfl K6) (MMc_eq mc6 (mz.2.1 70 (by decide) (by decide)) (mz.2.1 71 (by decide) (by decide)) (mz.2.1 72 (by decide) (by decide))) mt (by show (wkT C M T c.toNatClampNeg wk T).1 = 1; rw [wT]; exact sta1) (by show (wkT C M T c.toNatClampNeg wk T).2.1 = 0; rw [wT]; exact num0) (by show (wkT C M T c.toNatClampNeg wk T).2.2.1 = K; rw [wT]; exact eKd.symm) (by show (wkT C M T c.toNatClampNeg wk T).2.2.2.1 = 0; rw [wT]; exact w0) (by show (wkT C M T c.toNatClampNeg wk T).2.2.2.2.1 = 0; rw [wT]; exact (hW T T6).2.1 w0) (by show (wkT C M T c.toNatClampNeg wk T).2.2.2.2.2.2.2 = _; rw [wT]) L0 (by omega) (by rw [o8, ← q88]; exact ef_8)
  · -- start
    have cv := c6 (Or.inl (by rw [e]; decide))
    have o9 := (sE 9 (by omega)).mp e
    obtain ⟨w0, os⟩ := oN (by omega)
    refine ⟨cv, fun z ez => ⟨cv, cv, fun z2 ez2 => ?_⟩⟩
    have st0 := lp9 e
    have ct := s3 e
    rw [← lp2 (Or.inl (by rw [e]; decide))] at st0 ct
    obtain ⟨N, eN⟩ : ∃ N, N = c.toNatClampNeg := ⟨_, rfl⟩
    rw [← eN] at st0 ez ez2
    have N6 : N < 6 := by rw [eN]; exact vt cv
    have cT : ¬ N = T := fun q => by rw [q, h1] at st0; exact absurd st0 (by decide)
    have cb := vp_in_iff.mp cv
    have cc := cl_i cb.1
    rw [← eN] at cc
    have tz : th3 N y6 z := by rw [ez]; exact th3_si (by decide) _ _
    have tz2 : th3 N z z2 := by rw [ez2]; exact th3_si (by decide) _ _
    have t2 := th3_tr tz tz2
    have f := fun q (h0 : q ≠ 0) hq => t2.1.2.1 q h0 hq
    have l25 : (x.1 0 25).toInt = C.2.1.length := hK.2.1.1
    obtain ⟨qq, hqq⟩ : ∃ qq, C.2.1[N]? = some qq := ⟨_, List.getElem?_eq_getElem (by omega)⟩
    obtain ⟨hb1, -⟩ := hK.2.1.2 _ qq hqq
    obtain ⟨⟨stb, hstb, kn0⟩, -⟩ := hN.2.1 qq (List.mem_of_getElem? hqq)
    have e64 : z.1 64 = x.1 64 := by rw [ez, si_cell (by decide), g6 64 (by decide) (by decide)]
    have ea : z2.1 74 N = x.1 64 N := by rw [ez2, si_get, if_pos ⟨rfl, rfl⟩, e64]
    have z73 : z2.1 73 N = 1 := by rw [ez2, si_cell (by decide), ez, si_get, if_pos ⟨rfl, rfl⟩]
    have oth : ∀ c9, ¬ c9 = 73 → ¬ c9 = 74 → z2.1 c9 = y6.1 c9 := fun c9 n1 n2 => by rw [ez2, si_cell n2, ez, si_cell n1]
    have hqN := M6.2.2 N N6
    have s0N : (M.2.2 N).1 = 0 := by
      have a := hqN.1
      rw [g6 73 (by decide) (by decide), st0] at a
      exact (sta_0 _ (by have := hqN.2.1; omega)).mp a.symm
    obtain ⟨wn1, wn2, wn3⟩ := hW N N6
    have nm := wn1 (by rw [s0N]; decide)
    have wt := wn3 (by rw [s0N]; decide)
    have of := wn2 wt
    obtain ⟨E, eE⟩ : ∃ E, E = upT M N (thN C N (M.2.2 N) qq.1 (M.2.2 N).2.2.2.2.2.2.2) := ⟨_, rfl⟩
    have ha := acM_is (E := E) (v := 0) (wk := wk) (by rw [← eL]; exact L0) (by rw [← eo]; omega) (by rw [← eo, ← eL, o9, ← q88, ← eN, eE]; exact ef_9 hqq)
    have ET : E.2.2 T = M.2.2 T := by rw [eE]; exact upf_ne (fun q => cT q.symm)
    have EN : E.2.2 N = thN C N (M.2.2 N) qq.1 (M.2.2 N).2.2.2.2.2.2.2 := by rw [eE]; exact upf_eq
    have Eo : ∀ t', ¬ t' = N → E.2.2 t' = M.2.2 t' := fun t' q => by rw [eE]; exact upf_ne q
    have mc2 : MMc z2 E := by rw [eE]; exact MMc_th mc6 t2
    have e7 : (E.2.2 T).2.2.2.2.2.2.2 = (M.2.2 T).2.2.2.2.2.2.2 := by rw [ET]
    rw [← eKd, esN, ← e7] at ha
    refine ds_act667 t k c s 0 ht eT m74 (E := E) (CP_th (th3_th t2) r6.1) (MK_th3 K6 t2) hN hX hst o16 (by rw [t2.1.1 52 (by decide), hy6.2.2.2]; omega) mc2 (fun t' ht' hc' => ?_) (fun _ => by rw [← eN]; exact cT) (by rw [ET]; exact sta1) (by rw [ET]; exact num0) (by rw [ET]; exact eKd.symm) (by rw [ET]; exact w0) (by rw [ET]; exact (hW T T6).2.1 w0) (fun _ => ?_) (fun t' ht' hc' => rT_th (th3_th t2) (ssub_rf _) (by rw [eN]; exact hc' e) (r6.2 t' ht')) (fun _ => by rw [← eN]; exact rl_th (th3_th t2) (ssub_rf _) (r6.2 N N6).2.2) (fun x' S' r ss m mm => h x' S' r (ssub_tr hy6.1 ss) (acS_up ss hy6.2.1) ?_ (by rw [ha]; exact mm))
    · have q : ¬ t' = N := by rw [eN]; exact hc' e
      rw [Eo t' q]
      exact mTq_th hN t2 q (M6.2.2 t' ht')
    · rw [← eN]
      refine ⟨cv, z73, ?_, M.2.2 N, qq.1, (M.2.2 N).2.2.2.2.2.2.2, EN, by rw [ea]; exact hb1, gt_lt hstb, fun p hp => ?_, wt, of, by rw [oth 79 (by decide) (by decide)]; exact hqN.2.2.2.2.2.2.2.1, mLt_eq hqN.2.2.2.2.2.2.2.2.1 (oth 80 (by decide) (by decide)) (oth 81 (by decide) (by decide)) (oth 82 (by decide) (by decide))⟩
      · unfold q0
        rw [oth 77 (by decide) (by decide), oth 78 (by decide) (by decide), oth 75 (by decide) (by decide), hqN.2.2.2.2.1, hqN.2.2.2.2.2.2.1, hqN.2.2.1, wt, of, nm]
        exact ⟨rfl, rfl, rfl⟩
      · rw [stN_is hstb, kn0] at hp
        exact absurd hp (Nat.not_lt_zero _)
    · unfold acP
      rw [m.1 88 (by decide), m.1 89 (by decide), t2.1.1 88 (by decide), t2.1.1 89 (by decide)]
      exact ac6
  · -- call
    have o13 := (sE 13 (by omega)).mp e
    obtain ⟨w0, os⟩ := oN (by omega)
    have hq6 := M6.2.2 T T6
    refine ⟨ht, fun z ez => ⟨lk6.2.2.1, fun z2 ez2 => ?_⟩⟩
    skip
    have mz := md_a y6 79 T c (by decide)
    rw [← ez] at mz
    have mz2 := md_f z 93 (z.1 0 90)
    rw [← ez2] at mz2
    have mm : md [93] [79] y6 z2 := md_tr mz mz2 rfl rfl
    have f := fun q (h0 : q ≠ 0) hq => mm.2.1 q h0 hq
    have e79 : z2.1 79 T = c := by rw [mz2.2.1 79 (by decide) (by decide), ez, si_get, if_pos ⟨rfl, rfl⟩]
    have cob : c = (stN C (M.2.2 T).2.2.1).2.2.2.2.1 := by
      obtain ⟨p1, p2⟩ := lkM_pl (C := C) (w := wa) w0 (by rw [← eL]; exact L0)
      rw [← eL] at p2
      rw [q88, p2, lkI_n]
      rw [← eKd, esN]
      cases ei : st.2.2.2.2.2.2.2.1 with
      | none => rfl
      | some Q => have := (hX _ st hst).1 (by rw [ei]; exact fun z => nomatch z); omega
    refine go3 z2 _ c 0 (upT M T ((M.2.2 T).1, (M.2.2 T).2.1, (M.2.2 T).2.2.1, (M.2.2 T).2.2.2.1, (M.2.2 T).2.2.2.2.1, (stN C (M.2.2 T).2.2.1).2.2.2.2.1, (M.2.2 T).2.2.2.2.2.2)) (fun q => by have := (sE 9 (by omega)).mp q; omega) ⟨ssub_tr hy6.1 (ssub_ad _ _ _), acS_up (ssub_ad _ _ _) hy6.2.1, by unfold acP; rw [mm.1 88 (by decide), mm.1 89 (by decide)]; exact ac6, by rw [mm.1 52 (by decide)]; exact hy6.2.2.2⟩ (RI_md mm rfl rfl (ssub_ad _ _ _) r6) (MK_md mm rfl rfl K6) (MMc_eq mc6 (f 70 (by decide) (by decide)) (f 71 (by decide) (by decide)) (f 72 (by decide) (by decide))) (fun t' ht' => ?_) (by show (upf M.2.2 T _ T).1 = 1; rw [upf_eq]; exact sta1) (by show (upf M.2.2 T _ T).2.1 = 0; rw [upf_eq]; exact num0) (by show (upf M.2.2 T _ T).2.2.1 = K; rw [upf_eq]; exact eKd.symm) (by show (upf M.2.2 T _ T).2.2.2.1 = 0; rw [upf_eq]; exact w0) (by show (upf M.2.2 T _ T).2.2.2.2.1 = 0; rw [upf_eq]; exact (hW T T6).2.1 w0) (by show (upf M.2.2 T _ T).2.2.2.2.2.2.2 = _; rw [upf_eq]) L0 (by omega) (by rw [o13]; exact ef_13)
    show mTq z2 C t' (upf M.2.2 T _ t')
    by_cases q : t' = T
    · rw [q, upf_eq]
      exact mTq_w hq6 (fun c9 h9 => by rw [f c9 (by omega) (by simp; omega)]) (f 76 (by decide) (by decide)) (f 81 (by decide) (by decide)) (f 82 (by decide) (by decide)) (by rw [f 77 (by decide) (by decide)]; exact hq6.2.2.2.2.1) hq6.2.2.2.2.2.1 (by rw [f 78 (by decide) (by decide)]; exact hq6.2.2.2.2.2.2.1) (by rw [e79]; exact cob)
    · rw [upf_ne q]
      refine mTq_eq (M6.2.2 t' ht') (fun c9 h9 => ?_) (f 76 (by decide) (by decide)) (f 81 (by decide) (by decide)) (f 82 (by decide) (by decide))
      rcases h9 with h9 | h9 | h9 | h9 | h9 | h9 | h9
      all_goals first | (rw [h9, mz2.2.1 79 (by decide) (by decide), ez, si_ne 79 t' q]) | (rw [f c9 (by omega) (by simp; omega)])
  · -- back
    have o13 := (sE 14 (by omega)).mp e
    obtain ⟨w0, os⟩ := oN (by omega)
    have hq6 := M6.2.2 T T6
    refine ⟨ht, fun z ez => ⟨lk6.2.2.1, fun z2 ez2 => ?_⟩⟩
    skip
    have mz := md_a y6 79 T (-1) (by decide)
    rw [← ez] at mz
    have mz2 := md_f z 93 (z.1 0 90)
    rw [← ez2] at mz2
    have mm : md [93] [79] y6 z2 := md_tr mz mz2 rfl rfl
    have f := fun q (h0 : q ≠ 0) hq => mm.2.1 q h0 hq
    have e79 : z2.1 79 T = (-1) := by rw [mz2.2.1 79 (by decide) (by decide), ez, si_get, if_pos ⟨rfl, rfl⟩]
    refine go3 z2 _ c 0 (upT M T ((M.2.2 T).1, (M.2.2 T).2.1, (M.2.2 T).2.2.1, (M.2.2 T).2.2.2.1, (M.2.2 T).2.2.2.2.1, -1, (M.2.2 T).2.2.2.2.2.2)) (fun q => by have := (sE 9 (by omega)).mp q; omega) ⟨ssub_tr hy6.1 (ssub_ad _ _ _), acS_up (ssub_ad _ _ _) hy6.2.1, by unfold acP; rw [mm.1 88 (by decide), mm.1 89 (by decide)]; exact ac6, by rw [mm.1 52 (by decide)]; exact hy6.2.2.2⟩ (RI_md mm rfl rfl (ssub_ad _ _ _) r6) (MK_md mm rfl rfl K6) (MMc_eq mc6 (f 70 (by decide) (by decide)) (f 71 (by decide) (by decide)) (f 72 (by decide) (by decide))) (fun t' ht' => ?_) (by show (upf M.2.2 T _ T).1 = 1; rw [upf_eq]; exact sta1) (by show (upf M.2.2 T _ T).2.1 = 0; rw [upf_eq]; exact num0) (by show (upf M.2.2 T _ T).2.2.1 = K; rw [upf_eq]; exact eKd.symm) (by show (upf M.2.2 T _ T).2.2.2.1 = 0; rw [upf_eq]; exact w0) (by show (upf M.2.2 T _ T).2.2.2.2.1 = 0; rw [upf_eq]; exact (hW T T6).2.1 w0) (by show (upf M.2.2 T _ T).2.2.2.2.2.2.2 = _; rw [upf_eq]) L0 (by omega) (by rw [o13]; exact ef_14)
    show mTq z2 C t' (upf M.2.2 T _ t')
    by_cases q : t' = T
    · rw [q, upf_eq]
      exact mTq_w hq6 (fun c9 h9 => by rw [f c9 (by omega) (by simp; omega)]) (f 76 (by decide) (by decide)) (f 81 (by decide) (by decide)) (f 82 (by decide) (by decide)) (by rw [f 77 (by decide) (by decide)]; exact hq6.2.2.2.2.1) hq6.2.2.2.2.2.1 (by rw [f 78 (by decide) (by decide)]; exact hq6.2.2.2.2.2.2.1) e79
    · rw [upf_ne q]
      refine mTq_eq (M6.2.2 t' ht') (fun c9 h9 => ?_) (f 76 (by decide) (by decide)) (f 81 (by decide) (by decide)) (f 82 (by decide) (by decide))
      rcases h9 with h9 | h9 | h9 | h9 | h9 | h9 | h9
      all_goals first | (rw [h9, mz2.2.1 79 (by decide) (by decide), ez, si_ne 79 t' q]) | (rw [f c9 (by omega) (by simp; omega)])
  · -- join, fence, pause
    have n := fun (j : Nat) (hj : j < 16) (hm : Int32.ofNat j ∈ [(0 : Int32), (1 : Int32), (2 : Int32), (3 : Int32), (4 : Int32), (5 : Int32), (15 : Int32), (6 : Int32), (7 : Int32), (8 : Int32), (9 : Int32), (13 : Int32), (14 : Int32)]) => fun z : o = j => no _ hm ((sE j hj).mpr z)
    have n0 : ¬ o = 0 := n 0 (by omega) (by decide)
    have n1 : ¬ o = 1 := n 1 (by omega) (by decide)
    have n2 : ¬ o = 2 := n 2 (by omega) (by decide)
    have n3 : ¬ o = 3 := n 3 (by omega) (by decide)
    have n4 : ¬ o = 4 := n 4 (by omega) (by decide)
    have n5 : ¬ o = 5 := n 5 (by omega) (by decide)
    have n6 : ¬ o = 6 := n 6 (by omega) (by decide)
    have n7 : ¬ o = 7 := n 7 (by omega) (by decide)
    have n8 : ¬ o = 8 := n 8 (by omega) (by decide)
    have n9 : ¬ o = 9 := n 9 (by omega) (by decide)
    have n13 : ¬ o = 13 := n 13 (by omega) (by decide)
    have n14 : ¬ o = 14 := n 14 (by omega) (by decide)
    have n15 : ¬ o = 15 := n 15 (by omega) (by decide)
    exact easy o rfl n9 n15 n7 y6 S6 0 M (md_w (md_rf y6) (by decide) (by decide)) (ssub_rf _) mc6 rfl (ef_o (by omega))
end DDA
