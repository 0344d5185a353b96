/-! the choices: choices 84, 86 thread, 87 late, 88 wakes -/
theorem RI_md {L A : List Nat} {x x' : gd} {S S' : gS} (h : md L A x x') (hL : [23, 24, 25, 26, 27, 28, 49, 52].all (fun k => !L.elem k) = true) (hA : [51, 52, 54, 55, 56, 57, 58, 59, 60, 61, 64, 65, 66, 73, 74, 77, 80, 81].all (fun k => !A.elem k) = true) (s : ssub S S') (q : RI x S) : RI x' S' := by
  have g := fun k (h0 : k ≠ 0) hk => h.2.1 k h0 (all_no hA k hk)
  have hA2 : [51, 52, 54, 55, 56, 57, 58, 59, 60, 61, 64, 65, 66].all (fun k => !A.elem k) = true := List.all_eq_true.mpr (fun k hk => List.all_eq_true.mp hA k (by simp at hk ⊢; omega))
  refine ⟨CP_md h hL hA2 q.1, fun t ht => ?_⟩
  obtain ⟨q1, q2, q3⟩ := q.2 t ht
  refine ⟨?_, ?_, ?_⟩
  · unfold ra
    rw [g 73 (by decide) (by decide), g 74 (by decide) (by decide), g 54 (by decide) (by decide), h.1 52 (all_no hL 52 (by decide))]
    exact q1
  · unfold rw'
    rw [g 73 (by decide) (by decide), g 74 (by decide) (by decide), g 55 (by decide) (by decide), g 77 (by decide) (by decide)]
    exact q2
  · unfold rl
    rw [g 80 (by decide) (by decide), g 81 (by decide) (by decide)]
    exact ⟨q3.1, q3.2.1, fun k hk => ⟨s _ _ (q3.2.2 k hk).1, s _ _ (q3.2.2 k hk).2.1, (q3.2.2 k hk).2.2⟩⟩
/-- a choice that there is: an act of a going thread, or a late write -/
def chO (x : gd) (t l : Int32) : Prop := (0 ≤ t.toInt ∧ t.toInt < 6) ∧ ((l = -1 ∧ x.1 73 t.toNatClampNeg = 1 ∧ ¬ x.1 77 t.toNatClampNeg = 1) ∨ (0 ≤ l.toInt ∧ l.toInt < (x.1 80 t.toNatClampNeg).toInt))
def chV (x : gd) (S : gS) : Prop := ∀ i : Nat, (i : Int) < (x.1 0 84).toInt → S 86 i ∧ S 87 i ∧ S 88 i ∧ chO x (x.1 86 i) (x.1 87 i)
/-- what findChoices leaves -/
def fC (x : gd) (S : gS) (b : Int) (y : gd) (S1 : gS) : Prop := md [84] [86, 87, 88] x y ∧ ssub S S1 ∧ S1 0 84 ∧ 0 ≤ (y.1 0 84).toInt ∧ (y.1 0 84).toInt ≤ b ∧ chV y S1
section DSC
variable {d : Nat} {S : gS} {x : gd} {F : Int32 → gd → gS → Prop} {Fv : gd → gS → Prop}
theorem ds_choose {y : gd} {S1 : gS} {b : Int} (t l w : Int32) (hb : b ≤ 198) (q : fC x S b y S1) (ho : chO x t l) (h : ∀ y' S', fC x S (b + 1) y' S' → Fv y' S') : MD d z_choose 0 [(0, vr 0), (1, vi t), (2, vi l), (3, vi w)] [] S1 y (Dv Fv) := by
  obtain ⟨q1, q2, q3, q4, q5, q6⟩ := q
  obtain ⟨n, en⟩ : ∃ n, n = y.1 0 84 := ⟨_, rfl⟩
  have nv : vp_in n 200 := by rw [en, vp_in_iff]; omega
  have k1 : (1 : Int32).toInt = 1 := rfl
  rw [← en] at q4 q5
  refine sd_choose_0 _ _ _ ⟨q3, by rw [← en]; exact nv, fun y2 e2 => ?_⟩
  rw [← en] at e2 ⊢
  have f2 : y2.1 0 84 = n := by rw [e2, si_cell (by decide), en]
  refine ⟨Or.inr q3, by rw [f2]; exact nv, fun y4 e4 => ?_⟩
  rw [f2] at e4 ⊢
  have f4 : y4.1 0 84 = n := by rw [e4, si_cell (by decide), f2]
  refine ⟨Or.inr (Or.inr q3), by rw [f4]; exact nv, fun y6 e6 => ?_⟩
  rw [f4] at e6 ⊢
  have f6 : y6.1 0 84 = n := by rw [e6, si_cell (by decide), f4]
  refine ⟨Or.inr (Or.inr (Or.inr q3)), fun y7 e7 => Dv_i (h y7 _ ?_)⟩
  rw [f6] at e7
  have m2 := md_a y 86 n.toNatClampNeg t (by decide)
  rw [← e2] at m2
  have m4 := md_a y2 87 n.toNatClampNeg l (by decide)
  rw [← e4] at m4
  have m6 := md_a y4 88 n.toNatClampNeg w (by decide)
  rw [← e6] at m6
  have m7 := md_f y6 84 (n + 1)
  rw [← e7] at m7
  have mm : md [84] [86, 87, 88] y y7 := md_tr (md_tr (L3 := []) (A3 := [86, 87, 88]) (md_tr (L3 := []) (A3 := [86, 87]) m2 m4 rfl rfl) m6 rfl rfl) m7 rfl rfl
  have mx : md [84] [86, 87, 88] x y7 := md_tr q1 mm rfl rfl
  have f7 : (y7.1 0 84).toInt = n.toInt + 1 := by rw [e7, si_get, if_pos ⟨rfl, rfl⟩, t_add (by omega) (by omega), k1]
  have cn := cl_i q4
  refine ⟨mx, ssub_tr q2 (fun c j z => Or.inr (Or.inr (Or.inr (Or.inr z)))), Or.inl ⟨rfl, rfl⟩, by omega, by omega, fun i hi => ?_⟩
  have e73 : y7.1 73 = x.1 73 := mx.2.1 73 (by decide) (by decide)
  have e77 : y7.1 77 = x.1 77 := mx.2.1 77 (by decide) (by decide)
  have e80 : y7.1 80 = x.1 80 := mx.2.1 80 (by decide) (by decide)
  by_cases z : i = n.toNatClampNeg
  · have g86 : y7.1 86 i = t := by rw [z, e7, si_cell (by decide), e6, si_cell (by decide), e4, si_cell (by decide), e2, si_get, if_pos ⟨rfl, rfl⟩]
    have g87 : y7.1 87 i = l := by rw [z, e7, si_cell (by decide), e6, si_cell (by decide), e4, si_get, if_pos ⟨rfl, rfl⟩]
    refine ⟨Or.inr (Or.inr (Or.inr (Or.inl ⟨rfl, z⟩))), Or.inr (Or.inr (Or.inl ⟨rfl, z⟩)), Or.inr (Or.inl ⟨rfl, z⟩), ?_⟩
    rw [g86, g87]
    unfold chO
    rw [e73, e77, e80]
    exact ho
  · have g86 : y7.1 86 i = y.1 86 i := by rw [e7, si_cell (by decide), e6, si_cell (by decide), e4, si_cell (by decide), e2, si_ne 86 i z]
    have g87 : y7.1 87 i = y.1 87 i := by rw [e7, si_cell (by decide), e6, si_cell (by decide), e4, si_ne 87 i z, e2, si_cell (by decide)]
    obtain ⟨a, b', c, o⟩ := q6 i (by rw [← en]; omega)
    refine ⟨Or.inr (Or.inr (Or.inr (Or.inr a))), Or.inr (Or.inr (Or.inr (Or.inr b'))), Or.inr (Or.inr (Or.inr (Or.inr c))), ?_⟩
    rw [g86, g87]
    unfold chO at o ⊢
    rw [mm.2.1 73 (by decide) (by decide), mm.2.1 77 (by decide) (by decide), mm.2.1 80 (by decide) (by decide)]
    exact o
theorem fC_mono {y : gd} {S1 : gS} {b b' : Int} (h : b ≤ b') (q : fC x S b y S1) : fC x S b' y S1 := ⟨q.1, q.2.1, q.2.2.1, q.2.2.2.1, by have := q.2.2.2.2.1; omega, q.2.2.2.2.2⟩
theorem ds_findChoices (ri : RI x S) (h : ∀ y S1, fC x S 84 y S1 → Fv y S1) : MD (d + 2) z_findChoices 0 [(0, vr 0)] [] S x (Dv Fv) := by
  have k0 : (0 : Int32).toInt = 0 := rfl
  have k1 : (1 : Int32).toInt = 1 := rfl
  have hT := ri.1.1.2.2.2.2.1
  have hT6 := ri.1.1.2.2.2.2.2.1
  have p7 : ∀ (n : Nat) (y : gd) (S1 : gS) (t : Int32), 0 ≤ t.toInt → t.toInt ≤ (x.1 0 25).toInt → (x.1 0 25).toInt - t.toInt ≤ n → fC x S (14 * t.toInt) y S1 → MD (d + 2) z_findChoices 7 [(0, vr 0), (1, vi t)] [] S1 y (Dv Fv) := by
    intro n
    induction n with
    | zero =>
      intro y S1 t t0 t1 hn q
      have f25 : y.1 0 25 = x.1 0 25 := q.1.1 25 (by decide)
      exact sd_findChoices_7 _ ⟨fun _ => Dv_i (h y S1 (fC_mono (by omega) q)), fun c => absurd (t_le.mpr (by rw [f25]; omega)) c⟩
    | succ n ih =>
      intro y S1 t t0 t1 hn q
      have f25 : y.1 0 25 = x.1 0 25 := q.1.1 25 (by decide)
      refine sd_findChoices_7 _ ⟨fun _ => Dv_i (h y S1 (fC_mono (by omega) q)), fun c => ?_⟩
      rw [t_le, f25] at c
      have ht : vp_in t 6 := by rw [vp_in_iff]; omega
      have i1 : (t + 1).toInt = t.toInt + 1 := by rw [t_add (by omega) (by omega), k1]
      obtain ⟨L, eL⟩ : ∃ L, L = x.1 80 t.toNatClampNeg := ⟨_, rfl⟩
      have rlx := (ri.2 _ (vt ht)).2.2
      have hL8 := rlx.2.1
      have hL0 := rlx.1
      rw [← eL] at hL8 hL0
      -- late writes
      have p144 : ∀ (m : Nat) (y : gd) (S1 : gS) (i : Int32), 0 ≤ i.toInt → i.toInt ≤ L.toInt → L.toInt - i.toInt ≤ m → fC x S (14 * t.toInt + 6 + i.toInt) y S1 → MD (d + 2) z_findChoices 144 [(0, vr 0), (1, vi t), (2, vi i)] [] S1 y (Dv Fv) := by
        intro m
        induction m with
        | zero =>
          intro y S1 i i0 i1' hm q
          have f80 : y.1 80 = x.1 80 := q.1.2.1 80 (by decide) (by decide)
          refine sd_findChoices_144 _ _ ⟨ht, ?_⟩
          rw [f80, ← eL]
          exact ⟨fun _ => ih y S1 (t + 1) (by omega) (by omega) (by omega) (fC_mono (by omega) q), fun c => absurd (t_le.mpr (by omega)) c⟩
        | succ m ihm =>
          intro y S1 i i0 i1' hm q
          have f80 : y.1 80 = x.1 80 := q.1.2.1 80 (by decide) (by decide)
          refine sd_findChoices_144 _ _ ⟨ht, ?_⟩
          rw [f80, ← eL]
          refine ⟨fun _ => ih y S1 (t + 1) (by omega) (by omega) (by omega) (fC_mono (by omega) q), fun c2 => ?_⟩
          rw [t_le] at c2
          have ii : (i + 1).toInt = i.toInt + 1 := by rw [t_add (by omega) (by omega), k1]
          have riy : RI y S1 := RI_md q.1 rfl rfl q.2.1 ri
          have ry := (riy.2 _ (vt ht)).2.2
          have e80 : y.1 80 t.toNatClampNeg = L := by rw [f80, eL]
          have lj : ∀ (j : Nat) (may jj : Int32), 0 ≤ jj.toInt → i.toInt - jj.toInt ≤ j → MD (d + 2) z_findChoices 159 [(0, vr 0), (1, vi t), (2, vi i), (3, vi may), (4, vi jj)] [] S1 y (Dv Fv) := by
            have last : ∀ may : Int32, ((may = (0 : Int32) → MD (d + 2) z_findChoices 144 [(0, vr 0), (1, vi t), (2, vi (i + 1))] [] S1 y (Dv Fv)) ∧ (¬ (may = (0 : Int32)) → MD (d + 1) z_choose 0 [(0, vr 0), (1, vi t), (2, vi i), (3, vi (-1))] [] S1 y (Dv (fun x3 S3 => MD (d + 2) z_findChoices 144 [(0, vr 0), (1, vi t), (2, vi (i + 1))] [] S3 x3 (Dv Fv))))) := by
              intro may
              refine ⟨fun _ => ihm y S1 (i + 1) (by omega) (by omega) (by omega) (fC_mono (by omega) q), fun _ => ds_choose t i (-1) (by omega) q ⟨by omega, Or.inr ⟨i0, by rw [← eL]; omega⟩⟩ (fun y' S' q' => ihm y' S' (i + 1) (by omega) (by omega) (by omega) (fC_mono (by omega) q'))⟩
            intro j
            induction j with
            | zero =>
              intro may jj j0 hj
              exact sd_findChoices_159 _ _ _ _ ⟨fun _ => last may, fun c => absurd (t_le.mpr (by omega)) c⟩
            | succ j ihj =>
              intro may jj j0 hj
              refine sd_findChoices_159 _ _ _ _ ⟨fun _ => last may, fun c3 => ?_⟩
              rw [t_le] at c3
              have jn : (jj + 1).toInt = jj.toInt + 1 := by rw [t_add (by omega) (by omega), k1]
              obtain ⟨a1, a2, _, _⟩ := rl_at ht ry (i := jj) j0 (by rw [e80]; omega)
              obtain ⟨b1, b2, _, _⟩ := rl_at ht ry (i := i) i0 (by rw [e80]; omega)
              exact ⟨fun _ => ihj _ _ (by omega) (by omega), fun _ => ⟨a1, a2, b1, b2, fun _ => ihj _ _ (by omega) (by omega), fun _ => ihj _ _ (by omega) (by omega)⟩⟩
          exact lj i.toInt.toNat 1 0 (by decide) (by rw [k0]; omega)
      have q144 : ∀ (y : gd) (S1 : gS), fC x S (14 * t.toInt + 6) y S1 → MD (d + 2) z_findChoices 144 [(0, vr 0), (1, vi t), (2, vi 0)] [] S1 y (Dv Fv) := fun y S1 q => p144 L.toInt.toNat y S1 0 (by decide) (by rw [k0]; exact hL0) (by rw [k0]; omega) (fC_mono (by rw [k0]; omega) q)
      have riy : RI y S1 := RI_md q.1 rfl rfl q.2.1 ri
      have e73 : y.1 73 = x.1 73 := q.1.2.1 73 (by decide) (by decide)
      have e77 : y.1 77 = x.1 77 := q.1.2.1 77 (by decide) (by decide)
      refine ds_hasAct t ht riy ⟨fun _ => q144 y S1 (fC_mono (by omega) q), fun z => absurd rfl z⟩ (fun g1 g2 => ⟨fun z => absurd z (by decide), fun _ => ⟨ht, q.2.2.1, ?_⟩⟩)
      have ho : chO x t (-1) := ⟨by omega, Or.inl ⟨rfl, by rw [← e73]; exact g1, by rw [← e77]; exact g2⟩⟩
      have p127 : ∀ (z : gd) (S2 : gS), fC x S (14 * t.toInt + 6) z S2 → MD (d + 2) z_findChoices 127 [(0, vr 0), (1, vi t), (3, vi (y.1 0 84))] [] S2 z (Dv Fv) := by
        intro z S2 qz
        refine sd_findChoices_127 _ _ ⟨qz.2.2.1, fun _ => q144 z S2 qz, fun e => ?_⟩
        have qz2 : fC x S (14 * t.toInt) z S2 := ⟨qz.1, qz.2.1, qz.2.2.1, qz.2.2.2.1, by rw [e]; exact q.2.2.2.2.1, qz.2.2.2.2.2⟩
        exact ds_choose t (-1) (-1) (by omega) qz2 ho (fun y' S' q' => q144 y' S' (fC_mono (by omega) q'))
      have q127 := p127 y S1 (fC_mono (by omega) q)
      obtain ⟨kv, _, _, _⟩ := RI_step riy (vt ht) g1
      obtain ⟨s1, s2, s3⟩ := srt_of riy (vt ht) g1
      refine ds_sortOf t ht kv ⟨fun _ => q127, fun e8 => ⟨kv, fun _ => q127, fun _ => ⟨kv, ?_, fun _ => q127, fun _ => ?_⟩⟩⟩
      · have o := s2 (Or.inl (by rw [e8]; decide))
        rw [vp_in_iff]; omega
      · -- those that it may wake
        have p72 : ∀ (m : Nat) (z : gd) (S2 : gS) (o : Int32), 0 ≤ o.toInt → o.toInt ≤ (x.1 0 25).toInt → (x.1 0 25).toInt - o.toInt ≤ m → fC x S (14 * t.toInt + o.toInt) z S2 → MD (d + 2) z_findChoices 72 [(0, vr 0), (1, vi t), (2, vi (y.1 74 t.toNatClampNeg)), (3, vi (y.1 0 84)), (4, vi o)] [] S2 z (Dv Fv) := by
          intro m
          induction m with
          | zero =>
            intro z S2 o o0 o1 hm qz
            have g25 : z.1 0 25 = x.1 0 25 := qz.1.1 25 (by decide)
            exact sd_findChoices_72 _ _ _ _ ⟨fun _ => p127 z S2 (fC_mono (by omega) qz), fun c => absurd (t_le.mpr (by rw [g25]; omega)) c⟩
          | succ m ihm =>
            intro z S2 o o0 o1 hm qz
            have g25 : z.1 0 25 = x.1 0 25 := qz.1.1 25 (by decide)
            refine sd_findChoices_72 _ _ _ _ ⟨fun _ => p127 z S2 (fC_mono (by omega) qz), fun c2 => ?_⟩
            rw [t_le, g25] at c2
            have ov : vp_in o 6 := by rw [vp_in_iff]; omega
            have oi : (o + 1).toInt = o.toInt + 1 := by rw [t_add (by omega) (by omega), k1]
            have riz : RI z S2 := RI_md qz.1 rfl rfl qz.2.1 ri
            have raz := (riz.2 _ (vt ov)).1
            have nx : ∀ (z' : gd) (S' : gS), fC x S (14 * t.toInt + o.toInt + 1) z' S' → MD (d + 2) z_findChoices 72 [(0, vr 0), (1, vi t), (2, vi (y.1 74 t.toNatClampNeg)), (3, vi (y.1 0 84)), (4, vi (o + 1))] [] S' z' (Dv Fv) := fun z' S' q' => ihm z' S' (o + 1) (by omega) (by omega) (by omega) (fC_mono (by omega) q')
            exact ⟨ov, fun _ => nx z S2 (fC_mono (by omega) qz), fun _ => ⟨ov, by rw [vp_in_iff]; exact ⟨raz.1, raz.2.1⟩, kv, fun _ => nx z S2 (fC_mono (by omega) qz), fun _ => ds_choose t (-1) o (by omega) qz ho (fun y' S' q' => nx y' S' q')⟩⟩
        exact p72 (x.1 0 25).toInt.toNat y S1 0 (by decide) (by rw [k0]; omega) (by rw [k0]; omega) (fC_mono (by rw [k0]; omega) q)
  refine sd_findChoices_0 (fun y e => ?_)
  have m := md_f x 84 0
  rw [← e] at m
  have e0 : y.1 0 84 = 0 := by rw [e, si_get, if_pos ⟨rfl, rfl⟩]
  refine p7 (x.1 0 25).toInt.toNat y _ 0 (by decide) (by rw [k0]; exact hT) (by rw [k0]; omega) ⟨md_w m (by decide) (by decide), ssub_ad _ _ _, Or.inl ⟨rfl, rfl⟩, by rw [e0]; decide, by rw [e0, k0]; omega, fun i hi => ?_⟩
  rw [e0, k0] at hi
  omega
end DSC
