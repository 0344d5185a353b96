/-! late writes done; acts done -/
theorem rl_81 {x z : gd} {S : gS} {t n : Nat} {v : Int32} (q : rl x S t) (e : z = si x 81 n v) (v0 : 0 ≤ v.toInt) (v1 : v.toInt < 24) : rl z (sadd S 81 n) t := by
  have e80 : z.1 80 = x.1 80 := by rw [e, si_cell (by decide)]
  unfold rl
  rw [e80]
  refine ⟨q.1, q.2.1, fun k hk => ?_⟩
  obtain ⟨a, b, c⟩ := q.2.2 k hk
  refine ⟨Or.inr a, Or.inr b, ?_⟩
  rw [e, si_get]
  by_cases w : (81 : Nat) = 81 ∧ 10 * t + k = n
  · rw [if_pos w]; exact ⟨v0, v1⟩
  · rw [if_neg w]; exact c
section DSD
variable {d : Nat} {S : gS} {x : gd} {F : Int32 → gd → gS → Prop} {Fv : gd → gS → Prop}
theorem ds_doLate (t i : Int32) (ht : vp_in t 6) (ri : RI x S) (h0 : 0 ≤ i.toInt) (h1 : i.toInt < (x.1 80 t.toNatClampNeg).toInt) (h : ∀ x' S', RI x' S' → ssub S S' → md [] [70, 80, 81, 82] x x' → Fv x' S') : MD d z_doLate 0 [(0, vr 0), (1, vi t), (2, vi i)] [] S x (Dv Fv) := by
  have k1 : (1 : Int32).toInt = 1 := rfl
  obtain ⟨L, eL⟩ : ∃ L, L = x.1 80 t.toNatClampNeg := ⟨_, rfl⟩
  have rx := (ri.2 _ (vt ht)).2.2
  have L8 := rx.2.1
  rw [← eL] at h1 L8
  have l1 : (L - 1).toInt = L.toInt - 1 := by rw [t_sub (by omega) (by omega), k1]
  -- every place of the thread below L is in order
  let Z : gd → gS → Prop := fun z S2 => md [] [70, 80, 81, 82] x z ∧ ssub S S2 ∧ z.1 80 t.toNatClampNeg = L - 1 ∧ (∀ t' : Nat, ¬ t' = t.toNatClampNeg → z.1 80 t' = x.1 80 t') ∧ ∀ t' : Nat, t' < 6 → ∀ k : Nat, (k : Int) < (x.1 80 t').toInt → S2 81 (10 * t' + k) ∧ S2 82 (10 * t' + k) ∧ 0 ≤ (z.1 81 (10 * t' + k)).toInt ∧ (z.1 81 (10 * t' + k)).toInt < 24
  have fin : ∀ (z : gd) (S2 : gS), Z z S2 → Dv Fv none z S2 := by
    intro z S2 hz
    obtain ⟨z1, z2, z3, z4, z5⟩ := hz
    refine Dv_i (h z S2 ⟨CP_md z1 rfl rfl ri.1, fun t' ht' => ?_⟩ z2 z1)
    obtain ⟨q1, q2, q3⟩ := ri.2 t' ht'
    have g := fun k (h0 : k ≠ 0) hk => z1.2.1 k h0 hk
    refine ⟨?_, ?_, ?_⟩
    · unfold ra
      rw [g 73 (by decide) (by decide), g 74 (by decide) (by decide), g 54 (by decide) (by decide), z1.1 52 (by decide)]
      exact q1
    · unfold rw'
      rw [g 73 (by decide) (by decide), g 74 (by decide) (by decide), g 55 (by decide) (by decide), g 77 (by decide) (by decide)]
      exact q2
    · by_cases c : t' = t.toNatClampNeg
      · rw [c]
        refine ⟨by rw [z3]; omega, by rw [z3]; omega, fun k hk => z5 _ (vt ht) k ?_⟩
        rw [z3] at hk
        rw [← eL]; omega
      · unfold rl
        rw [z4 t' c]
        exact ⟨q3.1, q3.2.1, fun k hk => z5 t' ht' k hk⟩
  have loop : ∀ (n : Nat) (z : gd) (S2 : gS) (j : Int32), Z z S2 → 0 ≤ j.toInt → L.toInt - 1 - j.toInt ≤ n → MD d z_doLate 39 [(0, vr 0), (1, vi t), (3, vi j)] [] S2 z (Dv Fv) := by
    intro n
    induction n with
    | zero =>
      intro z S2 j hz j0 hj
      refine sd_doLate_39 _ _ ⟨ht, ?_⟩
      rw [hz.2.2.1]
      exact ⟨fun _ => fin z S2 hz, fun c => absurd (t_le.mpr (by omega)) c⟩
    | succ n ih =>
      intro z S2 j hz j0 hj
      refine sd_doLate_39 _ _ ⟨ht, ?_⟩
      rw [hz.2.2.1]
      refine ⟨fun _ => fin z S2 hz, fun c => ?_⟩
      rw [t_le] at c
      have j1 : (j + 1).toInt = j.toInt + 1 := by rw [t_add (by omega) (by omega), k1]
      have cj := cl_i j0
      have cj1 := cl_i (a := j + 1) (by omega)
      obtain ⟨v, e⟩ := t10 ht (i := j) j0 (by omega)
      obtain ⟨v', e'⟩ := t10 ht (i := j + 1) (by omega) (by omega)
      have ea : 10 * t + j + 1 = 10 * t + (j + 1) := by
        have a1 := vp_in_iff.mp v
        have a2 := vp_in_iff.mp v'
        have b1 := cl_i (a := 10 * t + j) (by omega)
        have b2 := cl_i (a := 10 * t + (j + 1)) (by omega)
        have b3 : (10 * t + j + 1).toInt = (10 * t + j).toInt + 1 := by rw [t_add (by omega) (by omega), k1]
        exact t_eq.mpr (by omega)
      obtain ⟨z1, z2, z3, z4, z5⟩ := id hz
      obtain ⟨s1, s2, s3⟩ := z5 _ (vt ht) (j + 1).toNatClampNeg (by rw [← eL]; omega)
      rw [ea, e', e]
      refine ⟨v', s1, v, fun z6 e6 => ⟨v', Or.inr s2, v, fun z8 e8 => ?_⟩⟩
      have m6 := md_a z 81 (10 * t.toNatClampNeg + j.toNatClampNeg) (z.1 81 (10 * t.toNatClampNeg + (j + 1).toNatClampNeg)) (by decide)
      rw [← e6] at m6
      have m8 := md_a z6 82 (10 * t.toNatClampNeg + j.toNatClampNeg) (z6.1 82 (10 * t.toNatClampNeg + (j + 1).toNatClampNeg)) (by decide)
      rw [← e8] at m8
      have mm : md [] [81, 82] z z8 := md_tr m6 m8 rfl rfl
      have e80 : z8.1 80 = z.1 80 := mm.2.1 80 (by decide) (by decide)
      refine ih z8 _ (j + 1) ⟨md_tr z1 mm rfl rfl, ssub_tr z2 (ssub_tr (ssub_ad _ _ _) (ssub_ad _ _ _)), by rw [e80]; exact z3, fun t' h' => by rw [e80]; exact z4 t' h', fun t' ht' k hk => ?_⟩ (by omega) (by omega)
      obtain ⟨a, b, c9⟩ := z5 t' ht' k hk
      refine ⟨Or.inr (Or.inr a), Or.inr (Or.inr b), ?_⟩
      rw [e8, si_cell (by decide), e6, si_get]
      by_cases w : (81 : Nat) = 81 ∧ 10 * t' + k = 10 * t.toNatClampNeg + j.toNatClampNeg
      · rw [if_pos w]; exact s3
      · rw [if_neg w]; exact c9
  obtain ⟨a1, a2, a3, a4⟩ := rl_at ht rx (i := i) h0 (by rw [← eL]; exact h1)
  refine sd_doLate_0 _ _ ⟨a1, a2, a1, a3, a4, fun z6 e6 => ⟨ht, ht, fun z9 e9 => ?_⟩⟩
  have m6 := md_a x 70 (x.1 81 (10 * t + i).toNatClampNeg).toNatClampNeg (x.1 82 (10 * t + i).toNatClampNeg) (by decide)
  rw [← e6] at m6
  have f80 : z6.1 80 = x.1 80 := m6.2.1 80 (by decide) (by decide)
  rw [f80, ← eL] at e9
  have m9 := md_a z6 80 t.toNatClampNeg (L - 1) (by decide)
  rw [← e9] at m9
  have mm : md [] [70, 80] x z9 := md_tr m6 m9 rfl rfl
  refine loop (L.toInt - 1 - i.toInt).toNat z9 S i ⟨md_w mm (by decide) (by decide), ssub_rf S, by rw [e9, si_get, if_pos ⟨rfl, rfl⟩], fun t' h' => by rw [e9, si_ne 80 t' h', f80], fun t' ht' k hk => ?_⟩ h0 (Int.self_le_toNat _)
  rw [mm.2.1 81 (by decide) (by decide)]
  exact (ri.2 t' ht').2.2.2.2 k hk
/-- what an act tells: its place, whether it failed -/
def acP (s : Int32) (x' : gd) : Prop := (x'.1 0 89).toInt ≤ 0 → ((0 ≤ s.toInt ∧ s.toInt ≤ 4) → 0 ≤ (x'.1 0 88).toInt ∧ (x'.1 0 88).toInt < 24) ∧ (s = 9 → 0 ≤ (x'.1 0 88).toInt ∧ (x'.1 0 88).toInt < 6)
def acS (S : gS) : Prop := S 0 88 ∧ S 0 89 ∧ S 0 92 ∧ S 0 93
theorem acS_up {S S' : gS} (h : ssub S S') (q : acS S) : acS S' := ⟨h _ _ q.1, h _ _ q.2.1, h _ _ q.2.2.1, h _ _ q.2.2.2⟩
theorem ds_doAct (t w : Int32) (ht : vp_in t 6) (ri : RI x S) (h1 : x.1 73 t.toNatClampNeg = 1) (hw : ¬ x.1 77 t.toNatClampNeg = 1) (wy : x.1 0 68 = 0 ∨ x.1 0 68 = 1) (h : ∀ x' S', RI x' S' → ssub S S' → acS S' → acP (srt x t.toNatClampNeg) x' → Fv x' S') : MD (d + 4) z_doAct 0 [(0, vr 0), (1, vi t), (2, vi w)] [] S x (Dv Fv) := by
  have k0 : (0 : Int32).toInt = 0 := rfl
  have k1 : (1 : Int32).toInt = 1 := rfl
  have k8 : (8 : Int32).toInt = 8 := rfl
  have tv := vp_in_iff.mp ht
  obtain ⟨kv, kn, so, av⟩ := RI_step ri (vt ht) h1
  obtain ⟨s1, s2, s3⟩ := srt_of ri (vt ht) h1
  obtain ⟨T, eT⟩ : ∃ T, T = t.toNatClampNeg := ⟨_, rfl⟩
  have T6 : T < 6 := by rw [eT]; exact vt ht
  rw [← eT] at kv kn so av s1 s2 s3 h1 hw h
  have lk0 := fun (d' : Nat) (Fv' : gd → gS → Prop) => ds_lookAt (d := d') (Fv := Fv') t ht ri (by rw [← eT]; exact h1)
  obtain ⟨k, ek⟩ : ∃ k, k = x.1 74 T := ⟨_, rfl⟩
  rw [← ek] at kv kn so av s1 s2 s3
  obtain ⟨s, es⟩ : ∃ s, s = srt x T := ⟨_, rfl⟩
  rw [← es] at s1 s2 s3 h
  have kb := vp_in_iff.mp kv
  have j2' := ri.1.2.1.2.1
  have ki : (k + 1).toInt = k.toInt + 1 := by rw [t_add (by omega) (by omega), k1]
  -- waits of the thread itself
  have w0 : ¬ s = 15 → x.1 77 T = 0 := by
    intro q
    rcases (ri.2 T T6).2.1 with z | ⟨z, _⟩
    · exact z
    · rcases z with z | z
      · exact absurd z hw
      · rw [es, srt, if_pos z] at q; exact absurd rfl q
  -- what stands while the act is done: the state of the thread, the fields
  let Y : gd → gS → Prop := fun y S1 => ssub S S1 ∧ acS S1 ∧ acP s y ∧ y.1 73 T = 1 ∧ y.1 74 T = k ∧ y.1 0 52 = x.1 0 52 ∧ y.1 61 = x.1 61
  have p695 : ∀ (y : gd) (S1 : gS) (c : Int32), Y y S1 → CP y → y.1 77 T = 0 → (∀ t' : Nat, t' < 6 → (s = 9 → ¬ t' = c.toNatClampNeg) → rT y S1 t') → (s = 9 → vp_in c 6 ∧ ¬ c.toNatClampNeg = T ∧ 0 ≤ (y.1 74 c.toNatClampNeg).toInt ∧ (y.1 74 c.toNatClampNeg).toInt < 1500 ∧ (y.1 74 c.toNatClampNeg).toInt < (y.1 0 52).toInt ∧ y.1 77 c.toNatClampNeg = 0 ∧ rl y S1 c.toNatClampNeg) → MD (d + 4) z_doAct 695 [(0, vr 0), (1, vi t), (4, vi s), (5, vi c)] [] S1 y (Dv Fv) := by
    intro y S1 c hy cp wT rt rc
    obtain ⟨y1, y2, y3, y4, y5, y6, y7⟩ := hy
    refine sd_doAct_695 _ _ _ ⟨ht, ht, fun y3' e3 => ?_⟩
    rw [← eT, y5] at e3
    have t3 : th T y y3' := by rw [e3]; exact th_si (by decide) _ _
    have a3 : y3'.1 74 T = k + 1 := by rw [e3, si_get, if_pos ⟨rfl, rfl⟩]
    have b73 : y3'.1 73 = y.1 73 := by rw [e3, si_cell (by decide)]
    have b77 : y3'.1 77 = y.1 77 := by rw [e3, si_cell (by decide)]
    have b52 : y3'.1 0 52 = x.1 0 52 := by rw [e3, si_cell (by decide), y6]
    have rlT : rl y S1 T := by
      by_cases q : s = 9
      · exact (rt T T6 (fun _ => fun z => (rc q).2.1 z.symm)).2.2
      · exact (rt T T6 (fun z => absurd z q)).2.2
    refine ds_own t ht (CP_th t3 cp) (by rw [← eT, a3]; omega) (fun _ => by rw [← eT, a3, b52]; omega) (by rw [← eT, b77]; exact wT) (fun z S2 tz sz raz w9 => ?_)
    rw [← eT] at tz raz w9
    have ty : th T y z := th_tr t3 tz
    have rtz : ∀ t' : Nat, t' < 6 → (s = 9 → ¬ t' = c.toNatClampNeg) → rT z S2 t' := by
      intro t' ht' hc
      by_cases q : t' = T
      · rw [q]; exact ⟨raz, Or.inl w9, rl_th ty sz rlT⟩
      · exact rT_th ty sz q (rt t' ht' hc)
    have e88 : z.1 0 88 = y.1 0 88 := ty.1.1 88 (by decide)
    have e89 : z.1 0 89 = y.1 0 89 := ty.1.1 89 (by decide)
    have acz : acP s z := by unfold acP; rw [e88, e89]; exact y3
    refine ⟨fun n9 => Dv_i (h z S2 ⟨CP_th ty cp, fun t' ht' => rtz t' ht' (fun q => absurd q n9)⟩ (ssub_tr y1 sz) (acS_up sz y2) acz), fun e9 => ?_⟩
    obtain ⟨c1, c2, c3, c4, c5, c6, c7⟩ := rc e9
    have z74 : z.1 74 c.toNatClampNeg = y.1 74 c.toNatClampNeg := ty.2 74 _ (by simp) c2
    have z77 : z.1 77 c.toNatClampNeg = y.1 77 c.toNatClampNeg := ty.2 77 _ (by simp) c2
    have z52 : z.1 0 52 = y.1 0 52 := ty.1.1 52 (by decide)
    refine ds_own c c1 (CP_th ty cp) (by rw [z74]; exact ⟨c3, c4⟩) (fun _ => by rw [z74, z52]; exact c5) (by rw [z77]; exact c6) (fun u S3 tu su rau wu => ?_)
    have f88 : u.1 0 88 = z.1 0 88 := tu.1.1 88 (by decide)
    have f89 : u.1 0 89 = z.1 0 89 := tu.1.1 89 (by decide)
    refine Dv_i (h u S3 ⟨CP_th tu (CP_th ty cp), fun t' ht' => ?_⟩ (ssub_tr y1 (ssub_tr sz su)) (acS_up su (acS_up sz y2)) (by unfold acP; rw [f88, f89]; exact acz))
    by_cases q : t' = c.toNatClampNeg
    · rw [q]; exact ⟨rau, Or.inl wu, rl_th tu su (rl_th ty sz c7)⟩
    · exact rT_th tu su q (rtz t' ht' (fun _ => q))
  have p667 : ∀ (y : gd) (S1 : gS) (c v : Int32), Y y S1 → CP y → y.1 77 T = 0 → (∀ t' : Nat, t' < 6 → (s = 9 → ¬ t' = c.toNatClampNeg) → rT y S1 t') → (s = 9 → vp_in c 6 ∧ ¬ c.toNatClampNeg = T ∧ 0 ≤ (y.1 74 c.toNatClampNeg).toInt ∧ (y.1 74 c.toNatClampNeg).toInt < 1500 ∧ (y.1 74 c.toNatClampNeg).toInt < (y.1 0 52).toInt ∧ y.1 77 c.toNatClampNeg = 0 ∧ rl y S1 c.toNatClampNeg) → MD (d + 4) z_doAct 667 [(0, vr 0), (1, vi t), (3, vi k), (4, vi s), (5, vi c), (6, vi v)] [] S1 y (Dv Fv) := by
    intro y S1 c v hy cp wT rt rc
    refine sd_doAct_667 _ _ _ _ _ ⟨kv, fun _ => p695 y S1 c hy cp wT rt rc, fun ne => ⟨kv, ?_, fun y5' e5 => ?_⟩⟩
    · rw [hy.2.2.2.2.2.2] at ne ⊢
      have s8 := av.1.resolve_left ne
      have m9 : (8 * t).toInt = 8 * t.toInt := by rw [t_mul (by rw [k8]; omega) (by rw [k8]; omega), k8]
      rw [vp_in_iff, t_add (by omega) (by omega), m9]; omega
    · have m5 := md_a y 76 (8 * t + y.1 61 k.toNatClampNeg).toNatClampNeg v (by decide)
      rw [← e5] at m5
      obtain ⟨y1, y2, y3, y4, y5, y6, y7⟩ := hy
      have tt : ∀ n : Nat, th n y y5' := fun n => th_md m5 rfl rfl
      have g := fun q (h0 : q ≠ 0) hq => m5.2.1 q h0 hq
      refine p695 y5' S1 c ⟨y1, y2, by unfold acP; rw [m5.1 88 (by decide), m5.1 89 (by decide)]; exact y3, by rw [g 73 (by decide) (by decide)]; exact y4, by rw [g 74 (by decide) (by decide)]; exact y5, by rw [m5.1 52 (by decide)]; exact y6, by rw [g 61 (by decide) (by decide)]; exact y7⟩ (CP_md m5 rfl rfl cp) (by rw [g 77 (by decide) (by decide)]; exact wT) (fun t' ht' hc => rT_th (tt 7) (ssub_rf _) (by omega) (rt t' ht' hc)) (fun q => ?_)
      rw [g 74 (by decide) (by decide), g 77 (by decide) (by decide), m5.1 52 (by decide)]
      obtain ⟨c1, c2, c3, c4, c5, c6, c7⟩ := rc q
      exact ⟨c1, c2, c3, c4, c5, c6, rl_th (tt 7) (ssub_rf _) c7⟩
  -- a memory in which nothing of the threads has changed
  have p667r : ∀ (y : gd) (S1 : gS) (c v : Int32), Y y S1 → RI y S1 → y.1 77 T = 0 → ¬ s = 9 → MD (d + 4) z_doAct 667 [(0, vr 0), (1, vi t), (3, vi k), (4, vi s), (5, vi c), (6, vi v)] [] S1 y (Dv Fv) := fun y S1 c v hy ry wT n9 => p667 y S1 c v hy ry.1 wT (fun t' ht' _ => ry.2 t' ht') (fun q => absurd q n9)
  have Ymd : ∀ (y z : gd) (S1 S2 : gS), md [82, 90, 91, 92, 93] [70, 71, 72, 75, 76, 78, 79, 84] y z → ssub S1 S2 → Y y S1 → RI y S1 → Y z S2 ∧ RI z S2 ∧ z.1 77 = y.1 77 := by
    intro y z S1 S2 m ss hy ry
    obtain ⟨y1, y2, y3, y4, y5, y6, y7⟩ := hy
    have g := fun q (h0 : q ≠ 0) hq => m.2.1 q h0 hq
    exact ⟨⟨ssub_tr y1 ss, acS_up ss y2, by unfold acP; rw [m.1 88 (by decide), m.1 89 (by decide)]; exact y3, by rw [g 73 (by decide) (by decide)]; exact y4, by rw [g 74 (by decide) (by decide)]; exact y5, by rw [m.1 52 (by decide)]; exact y6, by rw [g 61 (by decide) (by decide)]; exact y7⟩, RI_md m rfl rfl ss ry, g 77 (by decide) (by decide)⟩
  refine sd_doAct_0 _ _ ⟨ht, ds_sortOf t ht (by rw [← eT, ← ek]; exact kv) ?_⟩
  rw [← eT, ← es, ← ek]
  refine lk0 d _ (fun x4 S4 m4 ss4 lk4 lp y5 e5 y6 e6 => ?_)
  rw [← eT] at lp
  unfold lkP at lp
  rw [← es, ← ek] at lp
  obtain ⟨lp1, lp2, lp3⟩ := lp
  have m5 := md_f x4 92 0
  rw [← e5] at m5
  have m6 := md_f y5 93 0
  rw [← e6] at m6
  have m46 : md [92, 93] [] x4 y6 := md_tr m5 m6 rfl rfl
  have m06 : md [82, 88, 89, 90, 91, 92, 93] [84] x y6 := md_tr m4 m46 rfl rfl
  have f88 : y6.1 0 88 = x4.1 0 88 := m46.1 88 (by decide)
  have f89 : y6.1 0 89 = x4.1 0 89 := m46.1 89 (by decide)
  rw [← f88] at lp1 lp2 lp3
  rw [← f89] at lp3
  have ss6 : ssub S4 (sadd (sadd S4 0 92) 0 93) := ssub_tr (ssub_ad _ _ _) (ssub_ad _ _ _)
  obtain ⟨S6, eS6⟩ : ∃ S6, S6 = sadd (sadd S4 0 92) 0 93 := ⟨_, rfl⟩
  have n92 : S6 0 92 := by rw [eS6]; exact Or.inr (Or.inl ⟨rfl, rfl⟩)
  have n93 : S6 0 93 := by rw [eS6]; exact Or.inl ⟨rfl, rfl⟩
  rw [← eS6] at ss6 ⊢
  have lk6 := lkS_up ss6 lk4
  have r6 : RI y6 S6 := RI_md m06 rfl rfl (ssub_tr ss4 ss6) ri
  have ac6 : acP s y6 := fun q => ⟨(lp3 q).1, fun e9 => by
    have o := s2 (Or.inl (by rw [e9]; decide))
    rw [lp2 (Or.inl (by rw [e9]; decide))]
    exact ⟨o.1, o.2.1⟩⟩
  have g6 := fun q (h0 : q ≠ 0) hq => m06.2.1 q h0 hq
  have hy6 : Y y6 S6 := ⟨ssub_tr ss4 ss6, ⟨lk6.1, lk6.2.1, n92, n93⟩, ac6, by rw [g6 73 (by decide) (by decide)]; exact h1, by rw [g6 74 (by decide) (by decide)]; exact ek.symm, m06.1 52 (by decide), g6 61 (by decide) (by decide)⟩
  have g77 : y6.1 77 = x.1 77 := g6 77 (by decide) (by decide)
  have wT : ¬ s = 15 → y6.1 77 T = 0 := fun q => by rw [g77]; exact w0 q
  refine ⟨lk6.2.1, fun cf => ⟨lk6.1, ?_⟩, fun cf => ⟨lk6.2.1, ?_⟩⟩
  rotate_left
  · -- it fails
    refine ds_fail t _ ht (fun z tz e3 e4 e7 => ds_clean t ht (by rw [e4, ← eT, hy6.2.2.2.2.1]; omega) (fun u tu f73 f77 f74 => Dv_i (Dv_i (h u S6 ⟨CP_th tu (CP_th tz r6.1), fun t' ht' => ?_⟩ hy6.1 hy6.2.1 ?_)).2))
    · rw [← eT] at tz tu e3 e4 e7 f74
      by_cases q : t' = T
      · rw [q]
        have u73 : u.1 73 T = 3 := by rw [f73]; exact e3
        refine ⟨⟨?_, ?_, fun z => by rw [u73] at z; exact absurd z (by decide)⟩, Or.inl (by rw [f77]; exact e7), rl_th tu (ssub_rf _) (rl_th tz (ssub_rf _) (r6.2 T T6).2.2)⟩
        · rcases f74 with f | ⟨f, _⟩
          · rw [f, e4, hy6.2.2.2.2.1]; omega
          · rw [f]; decide
        · rcases f74 with f | ⟨f, _⟩
          · rw [f, e4, hy6.2.2.2.2.1]; omega
          · rw [f]; decide
      · exact rT_th tu (ssub_rf _) q (rT_th tz (ssub_rf _) q (r6.2 t' ht'))
    · unfold acP
      rw [tu.1.1 88 (by decide), tu.1.1 89 (by decide), tz.1.1 88 (by decide), tz.1.1 89 (by decide)]
      exact ac6
  -- it does not fail
  rw [t_le, k0] at cf
  obtain ⟨c, ec⟩ : ∃ c, c = y6.1 0 88 := ⟨_, rfl⟩
  rw [← ec] at lp2 lp3 ⊢
  obtain ⟨lpa, lp9, lpw⟩ := lp3 cf
  have c24 : 0 ≤ s.toInt ∧ s.toInt ≤ 4 → vp_in c 24 := fun q => by rw [vp_in_iff]; exact lpa q
  have c6 : (5 ≤ s.toInt ∧ s.toInt ≤ 10) ∨ s = 15 → vp_in c 6 := fun q => by
    have o := s2 q
    rw [lp2 q, vp_in_iff]; omega
  have nine : ∀ n : Int32, s = n → ¬ n = 9 → ¬ s = 9 := fun n e q => by rw [e]; exact q
  have fift : ∀ n : Int32, s = n → ¬ n = 15 → ¬ s = 15 := fun n e q => by rw [e]; exact q
  have f68 : y6.1 0 68 = x.1 0 68 := m06.1 68 (by decide)
  have f37 : y6.1 37 = x.1 37 := g6 37 (by decide) (by decide)
  have f80 : y6.1 80 = x.1 80 := g6 80 (by decide) (by decide)
  -- a change that the threads do not see
  have easy : ¬ s = 9 → ¬ s = 15 → ∀ (z : gd) (S2 : gS) (v : Int32), md [82, 90, 91, 92, 93] [70, 71, 72, 75, 76, 78, 79, 84] y6 z → ssub S6 S2 → MD (d + 4) z_doAct 667 [(0, vr 0), (1, vi t), (3, vi k), (4, vi s), (5, vi c), (6, vi v)] [] S2 z (Dv Fv) := by
    intro n9 n15 z S2 v m ss
    obtain ⟨a1, a2, a3⟩ := Ymd y6 z S6 S2 m ss hy6 r6
    exact p667r z S2 c v a1 a2 (by rw [a3]; exact wT n15) n9
  have one1 : ∀ (z : gd) (c9 n : Nat) (v : Int32), c9 ∈ [70, 71, 72, 75, 76, 78, 79, 84] → md [82, 90, 91, 92, 93] [70, 71, 72, 75, 76, 78, 79, 84] z (si z c9 n v) := fun z c9 n v hc => md_w (md_a z c9 n v (fun e => by rw [e] at hc; exact absurd hc (by decide))) (fun i hi => nomatch hi) (fun i hi => by rw [List.mem_singleton.mp hi]; exact hc)
  have onef : ∀ (z : gd) (f : Nat) (v : Int32), f ∈ [82, 90, 91, 92, 93] → md [82, 90, 91, 92, 93] [70, 71, 72, 75, 76, 78, 79, 84] z (si z 0 f v) := fun z f v hf => md_w (md_f z f v) (fun i hi => by rw [List.mem_singleton.mp hi]; exact hf) (fun i hi => nomatch hi)
  have tr2 : ∀ {a b c : gd}, md [82, 90, 91, 92, 93] [70, 71, 72, 75, 76, 78, 79, 84] a b → md [82, 90, 91, 92, 93] [70, 71, 72, 75, 76, 78, 79, 84] b c → md [82, 90, 91, 92, 93] [70, 71, 72, 75, 76, 78, 79, 84] a c := fun a b => md_tr a b rfl rfl
  refine ⟨fun e => ?_, fun e => ⟨lk6.2.2.1, fun z16 e16 => ?_⟩, fun e => ?_, fun e => ?_, fun e => ?_, fun e => ?_, fun e => ?_, fun e => ?_, fun e => ?_, fun e => ?_, fun e => ?_, fun no => ?_⟩
  · -- read
    refine ds_see t c ht (c24 (by rw [e]; decide)) (by rw [← eT]; exact (r6.2 T T6).2.2) (fun r z ez => ?_)
    exact easy (nine _ e (by decide)) (fift _ e (by decide)) z _ r (by rw [ez]; exact onef y6 92 _ (by decide)) (ssub_ad _ _ _)
  · -- write
    have cv := c24 (by rw [e]; decide)
    have m16 : md [82, 90, 91, 92, 93] [70, 71, 72, 75, 76, 78, 79, 84] y6 z16 := by rw [e16]; exact onef y6 93 _ (by decide)
    have h68 : z16.1 0 68 = x.1 0 68 := by rw [m16.1 68 (by decide), f68]
    have h37 : z16.1 37 = x.1 37 := by rw [m16.2.1 37 (by decide) (by decide), f37]
    have h80 : z16.1 80 = x.1 80 := by rw [m16.2.1 80 (by decide) (by decide), f80]
    have put : ∀ z : gd, z = si z16 70 c.toNatClampNeg (z16.1 0 90) → MD (d + 4) z_doAct 667 [(0, vr 0), (1, vi t), (3, vi k), (4, vi s), (5, vi c), (6, vi 0)] [] (sadd S6 0 93) z (Dv Fv) := fun z ez => easy (nine _ e (by decide)) (fift _ e (by decide)) z _ 0 (by rw [ez]; exact tr2 m16 (one1 z16 70 _ _ (by decide))) (ssub_ad _ _ _)
    rw [h68, h37, h80]
    refine ⟨fun _ => ⟨Or.inr lk6.2.2.1, cv, put⟩, fun nw => ⟨cv, fun ns => ⟨ht, ?_⟩, fun _ => ⟨Or.inr lk6.2.2.1, cv, put⟩⟩⟩
    have w1 := wy.resolve_left nw
    have n8 := lpw e w1 ns
    obtain ⟨N, eN⟩ : ∃ N, N = x.1 80 T := ⟨_, rfl⟩
    have rlx := (ri.2 T T6).2.2
    have N0 := rlx.1
    have N8 := rlx.2.1
    rw [← eN] at N0 N8 n8 ⊢
    have Nl : N.toInt < 8 := by
      rw [t_eq, k8] at n8
      omega
    obtain ⟨iv, ie⟩ := t10 ht (i := N) N0 (by omega)
    refine ⟨iv, fun z25 e25 => ⟨ht, ?_⟩⟩
    have i80 : z25.1 80 T = N := by rw [e25, si_cell (by decide), h80, eN]
    rw [i80]
    refine ⟨Or.inr (Or.inr lk6.2.2.1), iv, fun z29 e29 => ⟨ht, ht, fun z32 e32 => ?_⟩⟩
    have j80 : z29.1 80 T = N := by rw [e29, si_cell (by decide), i80]
    rw [j80] at e32
    obtain ⟨a1, a2, a3⟩ := Ymd y6 z16 S6 (sadd S6 0 93) m16 (ssub_ad _ _ _) hy6 r6
    have cr' := lpa (by rw [e]; decide)
    have m25 := md_a z16 81 (10 * t + N).toNatClampNeg c (by decide)
    rw [← e25] at m25
    have m29 := md_a z25 82 (10 * t + N).toNatClampNeg (z25.1 0 90) (by decide)
    rw [← e29] at m29
    have m32 := md_a z29 80 T (N + 1) (by decide)
    rw [← e32] at m32
    have mm : md [] [80, 81, 82] z16 z32 := md_tr (md_tr (L3 := []) (A3 := [81, 82]) m25 m29 rfl rfl) m32 rfl rfl
    obtain ⟨S9, eS9⟩ : ∃ S9, S9 = sadd (sadd (sadd S6 0 93) 81 (10 * t + N).toNatClampNeg) 82 (10 * t + N).toNatClampNeg := ⟨_, rfl⟩
    rw [← eS9]
    have ss9 : ssub (sadd S6 0 93) S9 := by rw [eS9]; exact ssub_tr (ssub_ad _ _ _) (ssub_ad _ _ _)
    have gm := fun q (h0 : q ≠ 0) hq => mm.2.1 q h0 hq
    have Ni : (N + 1).toInt = N.toInt + 1 := by rw [t_add (by omega) (by omega), k1]
    have r32 : RI z32 S9 := by
      refine ⟨CP_md mm rfl rfl a2.1, fun t' ht' => ?_⟩
      obtain ⟨q1, q2, q3⟩ := a2.2 t' ht'
      refine ⟨?_, ?_, ?_⟩
      · unfold ra
        rw [gm 73 (by decide) (by decide), gm 74 (by decide) (by decide), gm 54 (by decide) (by decide), mm.1 52 (by decide)]
        exact q1
      · unfold rw'
        rw [gm 73 (by decide) (by decide), gm 74 (by decide) (by decide), gm 55 (by decide) (by decide), gm 77 (by decide) (by decide)]
        exact q2
      · have q4 := rl_81 q3 e25 cr'.1 cr'.2
        have ent : ∀ kk : Nat, (kk : Int) < (z16.1 80 t').toInt → S9 81 (10 * t' + kk) ∧ S9 82 (10 * t' + kk) ∧ 0 ≤ (z32.1 81 (10 * t' + kk)).toInt ∧ (z32.1 81 (10 * t' + kk)).toInt < 24 := by
          intro kk hk
          have z80 : z25.1 80 t' = z16.1 80 t' := by rw [e25, si_cell (by decide)]
          obtain ⟨b1, b2, b3⟩ := q4.2.2 kk (by rw [z80]; exact hk)
          have z81 : z32.1 81 = z25.1 81 := by rw [e32, si_cell (by decide), e29, si_cell (by decide)]
          rw [z81, eS9]
          exact ⟨Or.inr b1, Or.inr b2, b3⟩
        by_cases q : t' = T
        · have z80 : z32.1 80 t' = N + 1 := by rw [q, e32, si_get, if_pos ⟨rfl, rfl⟩]
          refine ⟨by rw [z80]; omega, by rw [z80]; omega, fun kk hk => ?_⟩
          rw [z80, Ni] at hk
          have b80 : z16.1 80 t' = N := by rw [h80, q, eN]
          by_cases q9 : (kk : Int) < N.toInt
          · exact ent kk (by rw [b80]; exact q9)
          · have ek9 : 10 * t' + kk = (10 * t + N).toNatClampNeg := by
              have := cl_i N0
              rw [ie, q, eT]; omega
            have z81 : z32.1 81 (10 * t' + kk) = c := by rw [e32, si_cell (by decide), e29, si_cell (by decide), e25, si_get, if_pos ⟨rfl, ek9⟩]
            rw [z81, eS9]
            exact ⟨Or.inr (Or.inl ⟨rfl, ek9⟩), Or.inl ⟨rfl, ek9⟩, cr'⟩
        · have z80 : z32.1 80 t' = z16.1 80 t' := by rw [e32, si_ne 80 t' q, e29, si_cell (by decide), e25, si_cell (by decide)]
          unfold rl
          rw [z80]
          exact ⟨q3.1, q3.2.1, ent⟩
    have hy32 : Y z32 S9 := by
      obtain ⟨y1, y2, y3, y4, y5', y6', y7⟩ := a1
      exact ⟨ssub_tr y1 ss9, acS_up ss9 y2, by unfold acP; rw [mm.1 88 (by decide), mm.1 89 (by decide)]; exact y3, by rw [gm 73 (by decide) (by decide)]; exact y4, by rw [gm 74 (by decide) (by decide)]; exact y5', by rw [mm.1 52 (by decide)]; exact y6', by rw [gm 61 (by decide) (by decide)]; exact y7⟩
    exact p667r z32 S9 c 0 hy32 r32 (by rw [gm 77 (by decide) (by decide), a3]; exact wT (fift _ e (by decide))) (nine _ e (by decide))
  · -- swap, add, cas
    have s24 : 0 ≤ s.toInt ∧ s.toInt ≤ 4 := by rcases e with e | e | e <;> (rw [e]; decide)
    have n9 : ¬ s = 9 := fun q => by rw [q] at s24; exact absurd s24 (by decide)
    have n15 : ¬ s = 15 := fun q => by rw [q] at s24; exact absurd s24 (by decide)
    have cv := c24 s24
    refine ⟨cv, fun z38 e38 => ⟨cv, Or.inr lk6.2.2.1, ?_⟩⟩
    have m38 : md [82, 90, 91, 92, 93] [70, 71, 72, 75, 76, 78, 79, 84] y6 z38 := by rw [e38]; exact onef y6 92 _ (by decide)
    have p301 : ∀ (b v : Int32), MD (d + 4) z_doAct 301 [(0, vr 0), (1, vi t), (3, vi k), (4, vi s), (5, vi c), (7, vi b)] [vi v] (sadd S6 0 92) z38 (Dv Fv) := by
      intro b v
      have fin : ∀ (u : Int32) (z z2 : gd), z = si z38 70 c.toNatClampNeg u → z2 = si z 0 93 (z.1 70 c.toNatClampNeg) → MD (d + 4) z_doAct 667 [(0, vr 0), (1, vi t), (3, vi k), (4, vi s), (5, vi c), (6, vi v)] [] (sadd (sadd S6 0 92) 0 93) z2 (Dv Fv) := by
        intro u z z2 ez ez2
        refine easy n9 n15 z2 _ v (tr2 m38 (tr2 (b := z) ?_ ?_)) (ssub_tr (ssub_ad _ _ _) (ssub_ad _ _ _))
        · rw [ez]; exact one1 z38 70 _ _ (by decide)
        · rw [ez2]; exact onef z 93 _ (by decide)
      exact sd_doAct_301 _ _ _ _ _ _ ⟨fun _ => ⟨fun _ => ⟨fun _ => ⟨cv, cv, fun z ez => ⟨cv, fun z2 ez2 => fin _ z z2 ez ez2⟩⟩, fun _ => ⟨Or.inr lk6.2.2.2, cv, fun z ez => ⟨cv, fun z2 ez2 => fin _ z z2 ez ez2⟩⟩⟩, fun _ => ⟨cv, Or.inr lk6.2.2.1, cv, fun z ez => ⟨cv, fun z2 ez2 => fin _ z z2 ez ez2⟩⟩⟩, fun _ => ⟨Or.inr lk6.2.2.1, cv, fun z ez => ⟨cv, fun z2 ez2 => fin _ z z2 ez ez2⟩⟩⟩
    have p278 : ∀ b : Int32, MD (d + 4) z_doAct 278 [(0, vr 0), (1, vi t), (3, vi k), (4, vi s), (5, vi c)] [vi b] (sadd S6 0 92) z38 (Dv Fv) := fun b => sd_doAct_278 _ _ _ _ _ ⟨fun _ => ⟨cv, p301 b _⟩, fun _ => ds_one _ (fun r => p301 b r)⟩
    exact ⟨fun _ => p278 0, fun _ => p278 1⟩
  · -- take
    have cv := c6 (Or.inl (by rw [e]; decide))
    refine ⟨cv, fun z ez => ⟨cv, cv, fun z2 ez2 => ?_⟩⟩
    refine easy (nine _ e (by decide)) (fift _ e (by decide)) z2 _ 0 (tr2 (b := z) ?_ ?_) (ssub_rf _)
    · rw [ez]; exact one1 y6 71 _ _ (by decide)
    · rw [ez2]; exact one1 z 72 _ _ (by decide)
  · -- taken again
    have cv := c6 (Or.inr e)
    refine ⟨cv, fun z ez => ⟨ht, cv, fun z2 ez2 => ⟨ht, fun z3 ez3 => ⟨ht, fun z4 ez4 => ?_⟩⟩⟩⟩
    have ma : md [82, 90, 91, 92, 93] [70, 71, 72, 75, 76, 78, 79, 84] y6 z2 := tr2 (b := z) (by rw [ez]; exact one1 y6 71 _ _ (by decide)) (by rw [ez2]; exact one1 z 72 _ _ (by decide))
    obtain ⟨a1, a2, a3⟩ := Ymd y6 z2 S6 S6 ma (ssub_rf _) hy6 r6
    have t3 : th T z2 z3 := by rw [ez3]; exact th_si (by decide) _ _
    have t4 : th T z3 z4 := by rw [ez4]; exact th_si (by decide) _ _
    have t24 := th_tr t3 t4
    have w4 : z4.1 77 T = 0 := by rw [ez4, si_cell (by decide), ez3, si_get, if_pos ⟨rfl, rfl⟩]
    have c73 : z4.1 73 = z2.1 73 := by rw [ez4, si_cell (by decide), ez3, si_cell (by decide)]
    have c74 : z4.1 74 = z2.1 74 := by rw [ez4, si_cell (by decide), ez3, si_cell (by decide)]
    obtain ⟨y1, y2, y3, y4, y5', y6', y7⟩ := a1
    refine p667r z4 S6 c 0 ⟨y1, y2, by unfold acP; rw [t24.1.1 88 (by decide), t24.1.1 89 (by decide)]; exact y3, by rw [c73]; exact y4, by rw [c74]; exact y5', by rw [t24.1.1 52 (by decide)]; exact y6', by rw [t24.1.2.1 61 (by decide) (by decide)]; exact y7⟩ ⟨CP_th t24 a2.1, fun t' ht' => ?_⟩ w4 (fun q => by rw [e] at q; exact absurd q (by decide))
    by_cases q : t' = T
    · rw [q]
      obtain ⟨q1, q2, q3⟩ := a2.2 T T6
      refine ⟨?_, Or.inl w4, rl_th t24 (ssub_rf _) q3⟩
      unfold ra
      rw [c73, c74, t24.1.1 52 (by decide), t24.1.2.1 54 (by decide) (by decide)]
      exact q1
    · exact rT_th t24 (ssub_rf _) q (a2.2 t' ht')
  · -- give
    have cv := c6 (Or.inl (by rw [e]; decide))
    refine ⟨cv, cv, fun z ez => ⟨cv, fun _ => ⟨cv, fun z2 ez2 => ?_⟩, fun _ => ⟨cv, fun z2 ez2 => ?_⟩⟩⟩
    all_goals
      refine easy (nine _ e (by decide)) (fift _ e (by decide)) z2 _ 0 (tr2 (b := z) ?_ ?_) (ssub_rf _)
      · rw [ez]; exact one1 y6 72 _ _ (by decide)
      · rw [ez2]; exact one1 z 71 _ _ (by decide)
  · -- wait
    have cv := c6 (Or.inl (by rw [e]; decide))
    refine ⟨cv, ht, fun z ez => ⟨cv, fun z2 ez2 => ⟨cv, fun z3 ez3 => ⟨ht, fun z4 ez4 => ?_⟩⟩⟩⟩
    have ma : md [82, 90, 91, 92, 93] [70, 71, 72, 75, 76, 78, 79, 84] y6 z3 := tr2 (b := z2) (tr2 (b := z) (by rw [ez]; exact one1 y6 78 _ _ (by decide)) (by rw [ez2]; exact one1 z 72 _ _ (by decide))) (by rw [ez3]; exact one1 z2 71 _ _ (by decide))
    obtain ⟨a1, a2, a3⟩ := Ymd y6 z3 S6 S6 ma (ssub_rf _) hy6 r6
    have t4 : th T z3 z4 := by rw [ez4]; exact th_si (by decide) _ _
    have w4 : z4.1 77 T = 1 := by rw [ez4, si_get, if_pos ⟨rfl, rfl⟩]
    have c73 : z4.1 73 = z3.1 73 := by rw [ez4, si_cell (by decide)]
    have c74 : z4.1 74 = z3.1 74 := by rw [ez4, si_cell (by decide)]
    obtain ⟨y1, y2, y3, y4, y5', y6', y7⟩ := a1
    refine Dv_i (h z4 S6 ⟨CP_th t4 a2.1, fun t' ht' => ?_⟩ y1 y2 (by unfold acP; rw [t4.1.1 88 (by decide), t4.1.1 89 (by decide)]; exact y3))
    by_cases q : t' = T
    · rw [q]
      obtain ⟨q1, q2, q3⟩ := a2.2 T T6
      refine ⟨?_, Or.inr ⟨Or.inl w4, by rw [c73]; exact y4, ?_⟩, rl_th t4 (ssub_rf _) q3⟩
      · unfold ra
        rw [c73, c74, t4.1.1 52 (by decide), t4.1.2.1 54 (by decide) (by decide)]
        exact q1
      · rw [c74, y5', t4.1.2.1 55 (by decide) (by decide), ma.2.1 55 (by decide) (by decide), g6 55 (by decide) (by decide)]
        have sk : s = x.1 55 k.toNatClampNeg := by
          rw [es, srt, if_neg (fun q => ?_), ek]
          rw [es, srt, if_pos q] at e
          exact absurd e (by decide)
        rw [← sk]; exact e
    · exact rT_th t4 (ssub_rf _) q (a2.2 t' ht')
  · -- wake
    have cv := c6 (Or.inl (by rw [e]; decide))
    have n9 := nine _ e (by decide)
    have p513 : ∀ (n : Nat) (y : gd) (o : Int32), Y y S6 → RI y S6 → y.1 77 T = 0 → 0 ≤ o.toInt → (x.1 0 25).toInt - o.toInt ≤ n → y.1 0 25 = x.1 0 25 → y.1 57 = x.1 57 → MD (d + 4) z_doAct 513 [(0, vr 0), (1, vi t), (2, vi w), (3, vi k), (4, vi s), (5, vi c), (6, vi 0), (8, vi o)] [] S6 y (Dv Fv) := by
      have h25 := ri.1.1.2.2.2.2.2.1
      intro n
      induction n with
      | zero =>
        intro y o hy ry w9 o0 hn e25 e57
        exact sd_doAct_513 _ _ _ _ _ _ _ ⟨fun _ => p667r y S6 c 0 hy ry w9 n9, fun cc => absurd (t_le.mpr (by rw [e25]; omega)) cc⟩
      | succ n ih =>
        intro y o hy ry w9 o0 hn e25 e57
        refine sd_doAct_513 _ _ _ _ _ _ _ ⟨fun _ => p667r y S6 c 0 hy ry w9 n9, fun cc => ?_⟩
        rw [t_le, e25] at cc
        have ov : vp_in o 6 := by rw [vp_in_iff]; omega
        have oi : (o + 1).toInt = o.toInt + 1 := by rw [t_add (by omega) (by omega), k1]
        have ra' := (ry.2 _ (vt ov)).1
        have p571 : ∀ b : Int32, (¬ b = 0 → y.1 77 o.toNatClampNeg = 1) → MD (d + 4) z_doAct 571 [(0, vr 0), (1, vi t), (2, vi w), (3, vi k), (4, vi s), (5, vi c), (6, vi 0), (8, vi o)] [vi b] S6 y (Dv Fv) := by
          intro b hb
          have set : ∀ (v : Int32) (z : gd), z = si y 77 o.toNatClampNeg v → (v = y.1 77 o.toNatClampNeg ∨ (v = 2 ∧ y.1 77 o.toNatClampNeg = 1)) → MD (d + 4) z_doAct 513 [(0, vr 0), (1, vi t), (2, vi w), (3, vi k), (4, vi s), (5, vi c), (6, vi 0), (8, vi (o + 1))] [] S6 z (Dv Fv) := by
            intro v z ez hv
            have tz : th o.toNatClampNeg y z := by rw [ez]; exact th_si (by decide) _ _
            have c73 : z.1 73 = y.1 73 := by rw [ez, si_cell (by decide)]
            have c74 : z.1 74 = y.1 74 := by rw [ez, si_cell (by decide)]
            have wo' : z.1 77 o.toNatClampNeg = v := by rw [ez, si_get, if_pos ⟨rfl, rfl⟩]
            have wT' : z.1 77 T = 0 := by
              by_cases q : T = o.toNatClampNeg
              · rw [q] at w9 ⊢
                rw [wo']
                rcases hv with hv | ⟨_, hv⟩
                · rw [hv]; exact w9
                · rw [w9] at hv; exact absurd hv (by decide)
              · rw [tz.2 77 T (by simp) q]; exact w9
            obtain ⟨y1, y2, y3, y4, y5', y6', y7⟩ := hy
            refine ih z (o + 1) ⟨y1, y2, by unfold acP; rw [tz.1.1 88 (by decide), tz.1.1 89 (by decide)]; exact y3, by rw [c73]; exact y4, by rw [c74]; exact y5', by rw [tz.1.1 52 (by decide)]; exact y6', by rw [tz.1.2.1 61 (by decide) (by decide)]; exact y7⟩ ⟨CP_th tz ry.1, fun t' ht' => ?_⟩ wT' (by omega) (by omega) (by rw [tz.1.1 25 (by decide)]; exact e25) (by rw [tz.1.2.1 57 (by decide) (by decide)]; exact e57)
            by_cases q : t' = o.toNatClampNeg
            · obtain ⟨q1, q2, q3⟩ := ry.2 t' ht'
              rw [q] at q1 q2 q3 ⊢
              refine ⟨?_, ?_, rl_th tz (ssub_rf _) q3⟩
              · unfold ra
                rw [c73, c74, tz.1.1 52 (by decide), tz.1.2.1 54 (by decide) (by decide)]
                exact q1
              · unfold rw'
                rw [c73, c74, wo', tz.1.2.1 55 (by decide) (by decide)]
                rcases hv with hv | ⟨hv, hv1⟩
                · rw [hv]; exact q2
                · rcases q2 with q2 | ⟨_, q2⟩
                  · rw [hv1] at q2; exact absurd q2 (by decide)
                  · exact Or.inr ⟨Or.inr hv, q2⟩
            · exact rT_th tz (ssub_rf _) q (ry.2 t' ht')
          exact sd_doAct_571 _ _ _ _ _ _ _ _ ⟨fun _ => ⟨ov, ov, fun z ez => set _ z ez (Or.inl rfl)⟩, fun nb => ⟨ov, fun z ez => set _ z ez (Or.inr ⟨rfl, hb nb⟩)⟩⟩
        exact ⟨ov, fun _ => p571 0 (fun q => absurd rfl q), fun w1 => ⟨ov, by rw [vp_in_iff]; exact ⟨ra'.1, ra'.2.1⟩, fun _ => p571 0 (fun q => absurd rfl q), fun _ => ⟨kv, fun _ => p571 1 (fun _ => w1), fun _ => ⟨fun _ => p571 0 (fun q => absurd rfl q), fun _ => p571 1 (fun _ => w1)⟩⟩⟩⟩
    exact p513 (x.1 0 25).toInt.toNat y6 0 hy6 r6 (wT (fift _ e (by decide))) (by decide) (by rw [k0]; omega) (m06.1 25 (by decide)) (g6 57 (by decide) (by decide))
  · -- start
    have cv := c6 (Or.inl (by rw [e]; decide))
    refine ⟨cv, fun z ez => ⟨cv, cv, fun z2 ez2 => ?_⟩⟩
    have st0 := lp9 e
    have ct := s3 e
    rw [← lp2 (Or.inl (by rw [e]; decide))] at st0 ct
    have cT : ¬ c.toNatClampNeg = T := fun q => by rw [q, h1] at st0; exact absurd st0 (by decide)
    have cb := vp_in_iff.mp cv
    have cc := cl_i cb.1
    have tz : th c.toNatClampNeg y6 z := by rw [ez]; exact th_si (by decide) _ _
    have tz2 : th c.toNatClampNeg z z2 := by rw [ez2]; exact th_si (by decide) _ _
    have t2 := th_tr tz tz2
    have e64 : z.1 64 = x.1 64 := by rw [ez, si_cell (by decide), g6 64 (by decide) (by decide)]
    have bg := ri.1.2.1.2.2.2.2.2 c.toNatClampNeg (by have := t_cl (x.1 0 25); omega)
    have ea : z2.1 74 c.toNatClampNeg = x.1 64 c.toNatClampNeg := by rw [ez2, si_get, if_pos ⟨rfl, rfl⟩, e64]
    have d73 : z2.1 73 T = 1 := by rw [t2.2 73 T (by simp) (fun q => cT q.symm)]; exact hy6.2.2.2.1
    have d74 : z2.1 74 T = k := by rw [t2.2 74 T (by simp) (fun q => cT q.symm)]; exact hy6.2.2.2.2.1
    have d77 : z2.1 77 = y6.1 77 := by rw [ez2, si_cell (by decide), ez, si_cell (by decide)]
    have j2 := ri.1.2.1.2.1
    have wc : x.1 77 c.toNatClampNeg = 0 := by
      rcases (ri.2 _ (vt cv)).2.1 with q | ⟨_, q, _⟩
      · exact q
      · rw [st0] at q; exact absurd q (by decide)
    obtain ⟨y1, y2, y3, y4, y5', y6', y7⟩ := hy6
    refine p667 z2 S6 c 0 ⟨y1, y2, by unfold acP; rw [t2.1.1 88 (by decide), t2.1.1 89 (by decide)]; exact y3, d73, d74, by rw [t2.1.1 52 (by decide)]; exact y6', by rw [t2.1.2.1 61 (by decide) (by decide)]; exact y7⟩ (CP_th t2 r6.1) (by rw [d77]; exact wT (fift _ e (by decide))) (fun t' ht' hc => rT_th t2 (ssub_rf _) (hc e) (r6.2 t' ht')) (fun _ => ⟨cv, cT, by rw [ea]; exact bg.1, by rw [ea]; omega, by rw [ea, t2.1.1 52 (by decide), y6']; exact bg.2, by rw [d77, g77]; exact wc, rl_th t2 (ssub_rf _) (r6.2 _ (vt cv)).2.2⟩)
  · -- call
    refine ⟨ht, fun z ez => ⟨lk6.2.2.1, fun z2 ez2 => ?_⟩⟩
    refine easy (nine _ e (by decide)) (fift _ e (by decide)) z2 _ 0 (tr2 (b := z) ?_ ?_) (ssub_ad _ _ _)
    · rw [ez]; exact one1 y6 79 _ _ (by decide)
    · rw [ez2]; exact onef z 93 _ (by decide)
  · -- back
    refine ⟨ht, fun z ez => ⟨lk6.2.2.1, fun z2 ez2 => ?_⟩⟩
    refine easy (nine _ e (by decide)) (fift _ e (by decide)) z2 _ 0 (tr2 (b := z) ?_ ?_) (ssub_ad _ _ _)
    · rw [ez]; exact one1 y6 79 _ _ (by decide)
    · rw [ez2]; exact onef z 93 _ (by decide)
  · -- join, fence, pause
    exact easy (no _ (by decide)) (no _ (by decide)) y6 S6 0 (md_w (md_rf y6) (by decide) (by decide)) (ssub_rf _)
end DSD
