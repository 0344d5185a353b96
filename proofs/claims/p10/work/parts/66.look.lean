/-! an act looked at: actCell 88, actFails 89, actE 90, actF 91 -/
def lkP (x x' : gd) (T : Nat) : Prop := ((0 ≤ (srt x T).toInt ∧ (srt x T).toInt ≤ 4) → x'.1 0 88 = -1 ∨ (0 ≤ (x'.1 0 88).toInt ∧ (x'.1 0 88).toInt < 24)) ∧ ((5 ≤ (srt x T).toInt ∧ (srt x T).toInt ≤ 10) ∨ srt x T = 15 → x'.1 0 88 = x.1 56 (x.1 74 T).toNatClampNeg) ∧ ((x'.1 0 89).toInt ≤ 0 → ((0 ≤ (srt x T).toInt ∧ (srt x T).toInt ≤ 4) → 0 ≤ (x'.1 0 88).toInt ∧ (x'.1 0 88).toInt < 24) ∧ (srt x T = 9 → x.1 73 (x.1 56 (x.1 74 T).toNatClampNeg).toNatClampNeg = 0) ∧ (srt x T = 1 → x.1 0 68 = 1 → x.1 37 (x'.1 0 88).toNatClampNeg = 0 → ¬ x.1 80 T = 8))
def lkS (S : gS) : Prop := S 0 88 ∧ S 0 89 ∧ S 0 90 ∧ S 0 91
theorem lkS_up {S S' : gS} (h : ssub S S') (q : lkS S) : lkS S' := ⟨h _ _ q.1, h _ _ q.2.1, h _ _ q.2.2.1, h _ _ q.2.2.2⟩
section DSL
variable {d : Nat} {S : gS} {x : gd} {F : Int32 → gd → gS → Prop} {Fv : gd → gS → Prop}
theorem ds_lookAt (t : Int32) (ht : vp_in t 6) (ri : RI x S) (h1 : x.1 73 t.toNatClampNeg = 1) (h : ∀ x' S', md [82, 88, 89, 90, 91] [84] x x' → ssub S S' → lkS S' → lkP x x' t.toNatClampNeg → Fv x' S') : MD (d + 3) z_lookAt 0 [(0, vr 0), (1, vi t)] [] S x (Dv Fv) := by
  have k0 : (0 : Int32).toInt = 0 := rfl
  obtain ⟨kv, _, so, av⟩ := RI_step ri (vt ht) h1
  obtain ⟨s1, s2, s3⟩ := srt_of ri (vt ht) h1
  have w6 : (x.1 0 49).toInt ≤ 6000 := by have := ri.1.2.1.2.2.2.1; omega
  unfold lkP at h
  obtain ⟨k, ek⟩ : ∃ k, k = x.1 74 t.toNatClampNeg := ⟨_, rfl⟩
  rw [← ek] at kv av s1 s2 s3 so h
  obtain ⟨s, es⟩ : ∃ s, s = srt x t.toNatClampNeg := ⟨_, rfl⟩
  rw [← es] at s1 s2 s3 h
  -- what stands while it looks
  let Z : gd → gS → Prop := fun z S2 => md [82, 88, 89, 90, 91] [84] x z ∧ ssub S S2 ∧ lkS S2 ∧ ((0 ≤ s.toInt ∧ s.toInt ≤ 4) → 0 ≤ (z.1 0 88).toInt ∧ (z.1 0 88).toInt < 24) ∧ ((5 ≤ s.toInt ∧ s.toInt ≤ 10) ∨ s = 15 → z.1 0 88 = x.1 56 k.toNatClampNeg)
  have fail : ∀ (z : gd) (S2 : gS) (n : Int32) (z2 : gd), Z z S2 → 0 < n.toInt → z2 = si z 0 89 n → Dv Fv none z2 (sadd S2 0 89) := by
    intro z S2 n z2 hz hn e2
    obtain ⟨z1, z2', z3, z4, z5⟩ := hz
    have m := md_f z 89 n
    rw [← e2] at m
    have e88 : z2.1 0 88 = z.1 0 88 := m.1 88 (by decide)
    have e89 : z2.1 0 89 = n := by rw [e2, si_get, if_pos ⟨rfl, rfl⟩]
    refine Dv_i (h z2 _ (md_tr z1 m rfl rfl) (ssub_tr z2' (ssub_ad _ _ _)) (lkS_up (ssub_ad _ _ _) z3) ⟨fun q => Or.inr (by rw [e88]; exact z4 q), fun q => by rw [e88]; exact z5 q, fun q => ?_⟩)
    rw [e89] at q; omega
  have good : ∀ (z : gd) (S2 : gS), Z z S2 → (s = 9 → x.1 73 (x.1 56 k.toNatClampNeg).toNatClampNeg = 0) → (s = 1 → x.1 0 68 = 1 → x.1 37 (z.1 0 88).toNatClampNeg = 0 → ¬ x.1 80 t.toNatClampNeg = 8) → Dv Fv none z S2 := by
    intro z S2 hz q9 q1
    obtain ⟨z1, z2', z3, z4, z5⟩ := hz
    exact Dv_i (h z S2 z1 z2' z3 ⟨fun q => Or.inr (z4 q), z5, fun _ => ⟨z4, q9, q1⟩⟩)
  have bad : ∀ (z : gd) (S2 : gS), Z z S2 → ¬ (z.1 0 89).toInt ≤ 0 → Dv Fv none z S2 := by
    intro z S2 hz q
    obtain ⟨z1, z2', z3, z4, z5⟩ := hz
    exact Dv_i (h z S2 z1 z2' z3 ⟨fun q => Or.inr (z4 q), z5, fun q2 => absurd q2 q⟩)
  have p362 : ∀ (z : gd) (S2 : gS), Z z S2 → (s = 9 → x.1 73 (x.1 56 k.toNatClampNeg).toNatClampNeg = 0) → MD (d + 3) z_lookAt 362 [(0, vr 0), (1, vi t), (3, vi s)] [] S2 z (Dv Fv) := by
    intro z S2 hz q9
    have f68 : z.1 0 68 = x.1 0 68 := hz.1.1 68 (by decide)
    have f37 : z.1 37 = x.1 37 := hz.1.2.1 37 (by decide) (by decide)
    have f80 : z.1 80 = x.1 80 := hz.1.2.1 80 (by decide) (by decide)
    refine sd_lookAt_362 _ _ ⟨fun c => good z S2 hz q9 (fun q => absurd q c), fun c => ?_⟩
    rw [f68, f37, f80]
    have r := hz.2.2.2.1 (by rw [c]; decide)
    exact ⟨fun c2 => good z S2 hz q9 (fun _ q => absurd q c2), fun _ => ⟨hz.2.2.1.1, by rw [vp_in_iff]; exact r, fun c3 => good z S2 hz q9 (fun _ _ q => absurd q c3), fun _ => ⟨ht, fun c4 => good z S2 hz q9 (fun _ _ _ => c4), fun _ z2 e2 => fail z S2 9 z2 hz (by decide) e2⟩⟩⟩
  have p321 : ∀ (z : gd) (S2 : gS), Z z S2 → (s = 9 → x.1 73 (x.1 56 k.toNatClampNeg).toNatClampNeg = 0) → MD (d + 3) z_lookAt 321 [(0, vr 0), (1, vi t), (3, vi s)] [] S2 z (Dv Fv) := by
    intro z S2 hz q9
    have p337 : MD (d + 3) z_lookAt 337 [(0, vr 0), (1, vi t), (3, vi s)] [] S2 z (Dv Fv) := sd_lookAt_337 _ _ ⟨fun _ => p362 z S2 hz q9, fun _ => ⟨ht, fun _ => p362 z S2 hz q9, fun _ z2 e2 => fail z S2 8 z2 hz (by decide) e2⟩⟩
    exact sd_lookAt_321 _ _ ⟨fun _ => p337, fun _ => ⟨ht, fun _ z2 e2 => fail z S2 8 z2 hz (by decide) e2, fun _ => p337⟩⟩
  have p292 : ∀ (z : gd) (S2 : gS), Z z S2 → MD (d + 3) z_lookAt 292 [(0, vr 0), (1, vi t), (2, vi k), (3, vi s)] [] S2 z (Dv Fv) := by
    intro z S2 hz
    have f56 : z.1 56 = x.1 56 := hz.1.2.1 56 (by decide) (by decide)
    have f73 : z.1 73 = x.1 73 := hz.1.2.1 73 (by decide) (by decide)
    refine sd_lookAt_292 _ _ _ ⟨fun c => p321 z S2 hz (fun q => absurd q c), fun c => ⟨kv, ?_⟩⟩
    have o := s2 (Or.inl (by rw [c]; decide))
    rw [f56, f73]
    exact ⟨by rw [vp_in_iff]; omega, fun c2 => p321 z S2 hz (fun _ => c2), fun _ z2 e2 => fail z S2 7 z2 hz (by decide) e2⟩
  have p267 : ∀ (z : gd) (S2 : gS) (b : Int32), Z z S2 → MD (d + 3) z_lookAt 267 [(0, vr 0), (1, vi t), (2, vi k), (3, vi s), (4, vi b)] [] S2 z (Dv Fv) := by
    intro z S2 b hz
    have p279 : MD (d + 3) z_lookAt 279 [(0, vr 0), (1, vi t), (2, vi k), (3, vi s), (4, vi b)] [] S2 z (Dv Fv) := sd_lookAt_279 _ _ _ _ ⟨fun _ => p292 z S2 hz, fun _ z2 e2 => fail z S2 4 z2 hz (by decide) e2⟩
    exact sd_lookAt_267 _ _ _ _ ⟨fun _ => p279, fun _ => ⟨fun _ => p292 z S2 hz, fun _ => p279⟩⟩
  have p246 : ∀ (z : gd) (S2 : gS) (b : Int32), Z z S2 → MD (d + 3) z_lookAt 246 [(0, vr 0), (1, vi t), (2, vi k), (3, vi s)] [vi b] S2 z (Dv Fv) := fun z S2 b hz => sd_lookAt_246 _ _ _ _ ⟨fun _ => p267 z S2 b hz, fun _ => ⟨fun _ => p267 z S2 b hz, fun _ z2 e2 => fail z S2 3 z2 hz (by decide) e2⟩⟩
  have p226 : ∀ (z : gd) (S2 : gS), Z z S2 → (5 ≤ s.toInt ∧ s.toInt ≤ 10) → MD (d + 3) z_lookAt 226 [(0, vr 0), (1, vi t), (2, vi k), (3, vi s)] [] S2 z (Dv Fv) := by
    intro z S2 hz q
    have o := s2 (Or.inl q)
    have f56 : z.1 56 = x.1 56 := hz.1.2.1 56 (by decide) (by decide)
    refine sd_lookAt_226 _ _ _ ⟨kv, by rw [f56, vp_in_iff]; omega, fun _ => p246 z S2 0 hz, fun _ => p246 z S2 1 hz⟩
  have p200 : ∀ (z : gd) (S2 : gS), Z z S2 → MD (d + 3) z_lookAt 200 [(0, vr 0), (1, vi t), (2, vi k), (3, vi s)] [] S2 z (Dv Fv) := fun z S2 hz => sd_lookAt_200 _ _ _ ⟨hz.2.2.1.2.1, fun _ => ⟨fun c => p226 z S2 hz (by rw [c]; decide), fun _ => ⟨fun c => p226 z S2 hz (by rw [c]; decide), fun _ => ⟨fun _ => p246 z S2 0 hz, fun c => p226 z S2 hz (by rw [c]; decide)⟩⟩⟩, fun c => bad z S2 hz (by rw [t_le, k0] at c; exact c)⟩
  have wk : ∀ (z : gd) (S2 : gS) (r : Int32) (F9 : Int32 → gd → gS → Prop), Z z S2 → wo x 0 r → ¬ r = -1 → (∀ v z2 S3, Z z2 S3 → S3 0 82 → md [82] [84] z z2 → F9 v z2 S3) → MD (d + 2) z_worked 0 [(0, vr 0), (1, vi r), (2, vi t)] [] S2 z (Di F9) := by
    intro z S2 r F9 hz w ne hF
    obtain ⟨w1, w2⟩ := w.resolve_left ne
    have w3 : cW z 0 r.toNatClampNeg (x.1 0 49).toInt := cW_keep (Int.le_refl _) (fun j _ => by rw [hz.1.2.1 51 (by decide) (by decide), hz.1.2.1 52 (by decide) (by decide)]; exact ⟨rfl, rfl⟩) w2
    refine ds_worked w1 w3 w6 (fun _ => ht) (fun v z2 S3 m9 ss s82 => hF v z2 S3 ?_ s82 m9)
    have e88 : z2.1 0 88 = z.1 0 88 := m9.1 88 (by decide)
    exact ⟨md_tr hz.1 m9 rfl rfl, ssub_tr hz.2.1 ss, lkS_up ss hz.2.2.1, by rw [e88]; exact hz.2.2.2.1, by rw [e88]; exact hz.2.2.2.2⟩
  have Zf : ∀ (z : gd) (S2 : gS) (f : Nat) (v : Int32) (z2 : gd), (f = 89 ∨ f = 90 ∨ f = 91) → Z z S2 → z2 = si z 0 f v → Z z2 (sadd S2 0 f) := by
    intro z S2 f v z2 hf hz e2
    have m := md_f z f v
    rw [← e2] at m
    have e88 : z2.1 0 88 = z.1 0 88 := m.1 88 (by simp; omega)
    have m2 : md [89, 90, 91] [] z z2 := md_w m (fun i hi => by rw [List.mem_singleton.mp hi]; simp; omega) (fun i hi => nomatch hi)
    exact ⟨md_tr hz.1 m2 rfl rfl, ssub_tr hz.2.1 (ssub_ad _ _ _), lkS_up (ssub_ad _ _ _) hz.2.2.1, by rw [e88]; exact hz.2.2.2.1, by rw [e88]; exact hz.2.2.2.2⟩
  have p160 : ∀ (z : gd) (S2 : gS), Z z S2 → MD (d + 3) z_lookAt 160 [(0, vr 0), (1, vi t), (2, vi k), (3, vi s)] [] S2 z (Dv Fv) := by
    intro z S2 hz
    have f60 : z.1 60 = x.1 60 := hz.1.2.1 60 (by decide) (by decide)
    refine sd_lookAt_160 _ _ _ ⟨hz.2.2.1.2.1, fun _ => p200 z S2 hz, fun _ => ⟨kv, ?_⟩⟩
    rw [f60]
    refine ⟨fun _ => p200 z S2 hz, fun ne => ⟨kv, wk z S2 _ _ hz so.2.2.1 ne (fun v z2 S3 hz2 s82 m9 z4 e4 => ⟨Or.inr s82, fun z6 e6 => ?_⟩)⟩⟩
    exact p200 z6 _ (Zf z4 _ 89 _ z6 (Or.inl rfl) (Zf z2 _ 91 _ z4 (Or.inr (Or.inr rfl)) hz2 e4) e6)
  have p127 : ∀ (z : gd) (S2 : gS), Z z S2 → MD (d + 3) z_lookAt 127 [(0, vr 0), (1, vi t), (2, vi k), (3, vi s)] [] S2 z (Dv Fv) := by
    intro z S2 hz
    have f59 : z.1 59 = x.1 59 := hz.1.2.1 59 (by decide) (by decide)
    refine sd_lookAt_127 _ _ _ ⟨kv, ?_⟩
    rw [f59]
    refine ⟨fun _ => p160 z S2 hz, fun ne => ⟨kv, wk z S2 _ _ hz so.2.1 ne (fun v z2 S3 hz2 s82 m9 z4 e4 => ⟨Or.inr s82, fun z6 e6 => ?_⟩)⟩⟩
    exact p160 z6 _ (Zf z4 _ 89 _ z6 (Or.inl rfl) (Zf z2 _ 90 _ z4 (Or.inr (Or.inl rfl)) hz2 e4) e6)
  refine sd_lookAt_0 _ ⟨ht, ds_sortOf t ht (by rw [← ek]; exact kv) ?_⟩
  rw [← es, ← ek]
  intro z4 e4
  refine ⟨kv, fun z6 e6 z7 e7 z8 e8 => ?_⟩
  have m4 := md_f x 89 0
  rw [← e4] at m4
  have f56 : z4.1 56 = x.1 56 := m4.2.1 56 (by decide) (by decide)
  rw [f56] at e6
  have m6 := md_f z4 88 (x.1 56 k.toNatClampNeg)
  rw [← e6] at m6
  have m7 := md_f z6 90 0
  rw [← e7] at m7
  have m8 := md_f z7 91 0
  rw [← e8] at m8
  have m : md [89, 88, 90, 91] [] x z8 := md_tr (md_tr (L3 := [89, 88, 90]) (A3 := []) (md_tr (L3 := [89, 88]) (A3 := []) m4 m6 rfl rfl) m7 rfl rfl) m8 rfl rfl
  have e88 : z8.1 0 88 = x.1 56 k.toNatClampNeg := by rw [m8.1 88 (by decide), m7.1 88 (by decide), e6, si_get, if_pos ⟨rfl, rfl⟩]
  have hz : Z z8 (sadd (sadd (sadd (sadd S 0 89) 0 88) 0 90) 0 91) := ⟨md_w m (by decide) (by decide), fun c j q => Or.inr (Or.inr (Or.inr (Or.inr q))), ⟨Or.inr (Or.inr (Or.inl ⟨rfl, rfl⟩)), Or.inr (Or.inr (Or.inr (Or.inl ⟨rfl, rfl⟩))), Or.inr (Or.inl ⟨rfl, rfl⟩), Or.inl ⟨rfl, rfl⟩⟩, fun q => by rw [e88]; exact ⟨(s1 q).2.1, (s1 q).2.2⟩, fun _ => e88⟩
  have f58 : z8.1 58 = x.1 58 := m.2.1 58 (by decide) (by decide)
  rw [f58]
  have e89 : z8.1 0 89 = 0 := by rw [m8.1 89 (by decide), m7.1 89 (by decide), m6.1 89 (by decide), e4, si_get, if_pos ⟨rfl, rfl⟩]
  refine ⟨fun n15 => ⟨kv, fun _ => p127 z8 _ hz, fun ne => ⟨kv, wk z8 _ _ _ hz so.1 ne (fun v z2 S3 hz2 s82 m9 => ⟨s82, fun _ => ⟨kv, ds_in _ _ _ ⟨fun c => ⟨kv, fun z3 e3 => ?_⟩, fun c z3 e3 z5 e5 => ?_⟩⟩, fun _ z3 e3 z5 e5 => ?_⟩)⟩⟩, fun e15 => ?_⟩
  · -- a place in a row
    have f56b : z2.1 56 = x.1 56 := hz2.1.2.1 56 (by decide) (by decide)
    have f57b : z2.1 57 = x.1 57 := hz2.1.2.1 57 (by decide) (by decide)
    obtain ⟨c1, c2⟩ := bi_ne.mp c
    rw [f57b, t_le] at c2
    rw [t_le, k0] at c1
    rw [f56b] at e3
    have m3 := md_f z2 88 (x.1 56 k.toNatClampNeg + v)
    rw [← e3] at m3
    refine p127 z3 _ ⟨md_tr hz2.1 m3 rfl rfl, ssub_tr hz2.2.1 (ssub_ad _ _ _), lkS_up (ssub_ad _ _ _) hz2.2.2.1, fun q => ?_, fun q => absurd (s2 q).2.2 ne⟩
    have g := s1 q
    rw [g.1] at q
    obtain ⟨a1, a2, a3, a4⟩ := aV_acc av q.1 q.2
    have a5 := a4.resolve_left ne
    have k1 : (1 : Int32).toInt = 1 := rfl
    rw [t_sub (by omega) (by omega), k1] at c2
    rw [e3, si_get, if_pos ⟨rfl, rfl⟩, t_add (by omega) (by omega)]
    omega
  · -- outside
    have m3 := md_f z2 89 2
    rw [← e3] at m3
    have m5 := md_f z3 88 (-1)
    rw [← e5] at m5
    have g88 : z5.1 0 88 = -1 := by rw [e5, si_get, if_pos ⟨rfl, rfl⟩]
    have g89 : z5.1 0 89 = 2 := by rw [m5.1 89 (by decide), e3, si_get, if_pos ⟨rfl, rfl⟩]
    refine Dv_i (h z5 _ (md_tr (md_tr (L3 := [82, 88, 89, 90, 91]) (A3 := [84]) hz2.1 m3 rfl rfl) m5 rfl rfl) (ssub_tr hz2.2.1 (ssub_tr (ssub_ad _ _ _) (ssub_ad _ _ _))) (lkS_up (ssub_tr (ssub_ad _ _ _) (ssub_ad _ _ _)) hz2.2.2.1) ⟨fun _ => Or.inl g88, fun q => absurd (s2 q).2.2 ne, fun q => ?_⟩)
    rw [g89] at q
    exact absurd q (by decide)
  · have m3 := md_f z2 89 1
    rw [← e3] at m3
    have m5 := md_f z3 88 (-1)
    rw [← e5] at m5
    have g88 : z5.1 0 88 = -1 := by rw [e5, si_get, if_pos ⟨rfl, rfl⟩]
    have g89 : z5.1 0 89 = 1 := by rw [m5.1 89 (by decide), e3, si_get, if_pos ⟨rfl, rfl⟩]
    refine Dv_i (h z5 _ (md_tr (md_tr (L3 := [82, 88, 89, 90, 91]) (A3 := [84]) hz2.1 m3 rfl rfl) m5 rfl rfl) (ssub_tr hz2.2.1 (ssub_tr (ssub_ad _ _ _) (ssub_ad _ _ _))) (lkS_up (ssub_tr (ssub_ad _ _ _) (ssub_ad _ _ _)) hz2.2.2.1) ⟨fun _ => Or.inl g88, fun q => absurd (s2 q).2.2 ne, fun q => ?_⟩)
    rw [g89] at q
    exact absurd q (by decide)
  · exact good z8 _ hz (fun q => by rw [e15] at q; exact absurd q (by decide)) (fun q => by rw [e15] at q; exact absurd q (by decide))
end DSL
