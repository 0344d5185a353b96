/-! the run's calls: begin, choices, choice, go, draw, again -/
theorem t_and (a : Int32) : 0 ≤ (a &&& 32767).toInt ∧ (a &&& 32767).toInt ≤ 32767 := by
  have h : (a &&& 32767).toBitVec.toNat ≤ 32767 := by
    rw [Int32.toBitVec_and, BitVec.toNat_and]
    exact Nat.and_le_right
  have e : (a &&& 32767).toInt = ((a &&& 32767).toBitVec.toNat : Int) := by
    show (a &&& 32767).toBitVec.toInt = _
    exact BitVec.toInt_eq_toNat_of_lt (by omega)
  omega
theorem t_div {v c : Int32} (hv : 0 ≤ v.toInt) (hc : 0 < c.toInt) : (v / c).toInt = v.toInt / c.toInt := by
  have r := t_rg v
  have q1 : 0 ≤ v.toInt / c.toInt := Int.ediv_nonneg hv (by omega)
  have q2 : v.toInt / c.toInt ≤ v.toInt := Int.ediv_le_self _ hv
  rw [Int32.toInt_div, Int.tdiv_eq_ediv_of_nonneg hv]
  exact Int.bmod_eq_of_le (by omega) (by omega)
theorem t_rem {v c : Int32} (hv : 0 ≤ v.toInt) (hc : 0 < c.toInt) : 0 ≤ (v - v / c * c).toInt ∧ (v - v / c * c).toInt < c.toInt := by
  have r := t_rg v
  have e1 := t_div hv hc
  have p0 : 0 ≤ v.toInt / c.toInt * c.toInt := Int.mul_nonneg (Int.ediv_nonneg hv (by omega)) (by omega)
  have p1 : v.toInt / c.toInt * c.toInt ≤ v.toInt := Int.ediv_mul_le _ (by omega)
  have e2 : (v / c * c).toInt = v.toInt / c.toInt * c.toInt := by rw [t_mul (by rw [e1]; omega) (by rw [e1]; omega), e1]
  have e3 : (v - v / c * c).toInt = v.toInt - v.toInt / c.toInt * c.toInt := by rw [t_sub (by rw [e2]; omega) (by rw [e2]; omega), e2]
  have m := Int.emod_def v.toInt c.toInt
  have m1 := Int.emod_lt_of_pos v.toInt hc
  have m0 := Int.emod_nonneg v.toInt (b := c.toInt) (by omega)
  rw [Int.mul_comm] at m
  rw [e3]
  omega
theorem MI_new {L A : List Nat} {z z' : gd} (m : mi L A z z') (hL : [2, 10, 42, 23, 24, 25, 26, 27, 28, 49, 52, 66].all (fun k => !L.elem k) = true) (hA : [2, 6, 7, 8, 36, 37, 38, 51, 52, 54, 55, 56, 57, 58, 59, 60, 61, 62, 64, 65, 66, 118, 119, 120, 123, 126, 130, 131, 132].all (fun k => !A.elem k) = true) (hc : ¬ z.1 0 66 = 0) (hh : Hist z') (q : MI z) : PM z z' := by
  have f := fun k hk => m.1 k (all_no hL k hk)
  obtain ⟨q1, q2, q3, q4⟩ := q
  have g119 : z'.1 119 = z.1 119 := m.2 119 (by decide) (all_no hA 119 (by decide))
  refine ⟨⟨G0_mi m (all_sub hL rfl) (all_sub hA rfl) q1, fun h => CP_mi m (all_sub hL rfl) (all_sub hA rfl) (q2 (by rw [f 66 (by decide)] at h; exact h)), fun h => ⟨by rw [f 66 (by decide)]; exact hc, hh⟩, fun w hw h => ?_⟩, f 2 (by decide), fun k hk => m.1 k (all_no (M := mfL) (all_sub hL rfl) k hk), fun c hc => m.2 c (mfA_0 c hc) (all_no (M := mfA) (all_sub hA rfl) c hc)⟩
  rw [g119] at h
  rw [f 66 (by decide)]
  exact ⟨(q4 w hw h).1, TY_mi m (all_sub hL rfl) (all_sub hA rfl) (q4 w hw h).2⟩
theorem RI_sub {x : gd} {S S' : gS} (s : ssub S S') (q : RI x S) : RI x S' := RI_md (L := []) (A := []) (md_rf x) rfl rfl s q
section FAC
variable {G : mG} {d D : Nat} {x z a : gd} {F : Int32 → gd → Prop} {Fv : gd → Prop}
/-- thrown is none: where a call begins -/
def z0 (z y : gd) : Prop := mi [0] [] z y ∧ y.1 0 0 = 0
theorem z0_s {y : gd} (e : y = si z 0 0 0) : z0 z y := by
  have m := md_f z 0 0
  rw [← e] at m
  exact ⟨mi_of m, by rw [e, si_get, if_pos ⟨rfl, rfl⟩]⟩
theorem sp_ref {y : gd} (b k : Int32) (hy : z0 z y) (hk : 0 < k.toInt) (h0 : b = 0 → F 0 y) (h1 : ¬ b = 0 → ∀ y', mi [0] [] z y' → F 1 y') : MT G d z_refuses 0 [(0, vr 0), (1, vi b), (2, vi k)] [] y (ri F) :=
  sp_refuses b k hy.2 hk h0 (fun c => h1 c _ (mi_tr hy.1 (mi_of (md_f y 0 k)) rfl rfl))
theorem sp_noRun {y : gd} (hy : z0 z y) (h0 : ¬ y.1 0 67 = 0 → F 0 y) (h1 : ∀ y', mi [0] [] z y' → F 1 y') : MT G (d + 1) z_noRun 0 [(0, vr 0)] [] y (ri F) := by
  refine sg_noRun_0 ⟨fun c => sg_noRun_13 _ (sp_ref _ _ hy (by decide) (fun _ => ⟨gbool_0, ri_i (h0 c)⟩) (fun q => absurd rfl q)), fun _ => sg_noRun_13 _ (sp_ref _ _ hy (by decide) (fun q => absurd q (by decide)) (fun _ y' m => ⟨gbool_1, ri_i (h1 y' m)⟩))⟩
theorem MI_0 {y : gd} (m : mi [0] [] z y) (q : MI z) : PM z y := PM_mi m rfl rfl q
/-- a choice more -/
theorem sp_more (hh : Hist z) (hd : (z.1 0 94).toInt < 400) (i : Int32) (i0 : 0 ≤ i.toInt) (i1 : i.toInt < (z.1 0 84).toInt) (hD : 6 ≤ D) (h : ∀ z', Hist z' → mi dL dA z z' → (z'.1 0 94).toInt = (z.1 0 94).toInt + 1 → Fv z') : MT G D z_doChoice 0 [(0, vr 0), (1, vi i)] [] z (rv Fv) := by
  obtain ⟨s, n, q1, q2, q3, q4, q5, q6, q7⟩ := hh
  have e84 : z.1 0 84 = (s n).1 0 84 := q4 0 84 (Or.inr (Or.inl ⟨rfl, rfl⟩))
  rw [e84] at i1
  have ci := cl_i i0
  obtain ⟨a', av', lk⟩ := lk_ex (q2 n (Nat.le_refl _)) (i := i.toNatClampNeg) (by omega)
  refine sp_doChoice (q2 n (Nat.le_refl _)) i i0 i1 lk q4 q7 hd hD (fun z' e' ha' df => h z' ?_ df.1 df.2.1)
  obtain ⟨m, d94, d96, d96b⟩ := df
  have cn : (z.1 0 94).toNatClampNeg = n := by have := cl_i (a := z.1 0 94) (by omega); omega
  rw [cn] at d96 d96b
  have f68 : z'.1 0 68 = z.1 0 68 := m.1 68 (by decide)
  refine ⟨fun k => if k = n + 1 then a' else s k, n + 1, by omega, fun k hk => ?_, fun k hk => ?_, ?_, ?_, by unfold wy01; rw [f68]; exact q6, ha'⟩
  · by_cases c : k = n + 1
    · simp only [if_pos c]; exact av'
    · simp only [if_neg c]; exact q2 k (by omega)
  · by_cases c : k = n
    · rw [c, d96]
      simp only [if_neg (show ¬ n = n + 1 by omega), if_pos]
      exact ⟨i0, i1, lk⟩
    · rw [d96b k c]
      simp only [if_neg (show ¬ k = n + 1 by omega), if_neg (show ¬ k + 1 = n + 1 by omega)]
      exact q3 k (by omega)
  · simp only [if_pos]
    exact e'
  · simp only [if_neg (show ¬ 0 = n + 1 by omega)]
    rw [f68]
    exact St_pr (prE_mi (prE_rf z) m rfl rfl) q5
/-- a run begun -/
theorem sp_startRun {w : Int32} (cp : CP z) (hw : w = 0 ∨ w = 1) (hD : 6 ≤ D) (h : ∀ z', Hist z' → mi sL' sA' z z' → z'.1 0 67 = 1 → Fv z') : MT G D z_startRun 0 [(0, vr 0), (1, vi w)] [] z (rv Fv) := by
  obtain ⟨a0, av, e68, pa, st, _⟩ := start_ex cp w hw
  refine st G D z Fv hD (prE_rf z) (fun z' e sf => ?_)
  obtain ⟨m, f94, ha, f67, f68⟩ := sf
  refine h z' ⟨fun _ => a0, 0, by rw [f94]; rfl, fun _ _ => av, fun k hk => absurd hk (by omega), e, ?_, ?_, ha⟩ m f67
  · rw [f68]
    exact St_pr (prE_mi (prE_rf z) m rfl rfl) st
  · unfold wy01
    rw [f68]; exact hw
theorem sp_begin (q : MI z) (w : Int32) (hD : 7 ≤ D) (h : ∀ r z', PM z z' → F r z') : MT G D z_begin 0 [(0, vr 0), (1, vi w)] [] z (ri F) := by
  obtain ⟨D, rfl⟩ : ∃ D', D = D' + 1 := ⟨D - 1, by omega⟩
  have k0 : (0 : Int32).toInt = 0 := rfl
  have k1 : (1 : Int32).toInt = 1 := rfl
  refine sg_begin_0 _ (fun y e => ?_)
  have hy := z0_s e
  have no : ∀ y', mi [0] [] z y' → ri F (some (vi 0)) y' := fun y' m => ri_i (h 0 y' (MI_0 m q))
  have e66 : y.1 0 66 = z.1 0 66 := hy.1.1 66 (by decide)
  have p40 : ¬ z.1 0 66 = 0 → ∀ b : Int32, (b = 0 → w = 0 ∨ w = 1) → MT G (D + 1) z_begin 40 [(0, vr 0), (1, vi w)] [vi b, vr 0] y (ri F) := by
    intro c b hb
    refine sg_begin_40 _ _ (sp_ref b 2 hy (by decide) (fun b0 => ⟨fun _ => ?_, fun q => absurd rfl q⟩) (fun _ y' m => ⟨fun q => absurd q (by decide), fun _ => no y' m⟩))
    have qy := (MI_0 hy.1 q).1
    refine sp_startRun (qy.2.1 (by rw [e66]; exact c)) (hb b0) (by omega) (fun z' hh m f67 => ri_i (h _ z' ?_))
    have p := MI_new m rfl rfl (by rw [e66]; exact c) hh qy
    exact PM_0 hy.1 p
  have p18 : ∀ b : Int32, (b = 0 → ¬ z.1 0 66 = 0) → MT G (D + 1) z_begin 18 [(0, vr 0), (1, vi w)] [vi b, vr 0] y (ri F) := by
    intro b hb
    refine sg_begin_18 _ _ (sp_ref b 1 hy (by decide) (fun b0 => ⟨fun q => absurd rfl q, fun _ => sp_in _ _ _ ⟨fun c => p40 (hb b0) 0 (fun _ => ?_), fun _ => p40 (hb b0) 1 (fun q => absurd q (by decide))⟩⟩) (fun _ y' m => ⟨fun _ => no y' m, fun q => absurd q (by decide)⟩))
    obtain ⟨c1, c2⟩ := bi_ne.mp c
    rw [t_le, k0] at c1
    rw [t_le, k1] at c2
    rw [t_eq, t_eq, k0, k1]
    omega
  rw [e66]
  exact ⟨fun c => p18 0 (fun _ => c), fun _ => p18 1 (fun q => absurd q (by decide))⟩
theorem sp_choices (q : MI z) (hD : 3 ≤ D) (h : ∀ r z', PM z z' → F r z') : MT G D z_choices 0 [(0, vr 0)] [] z (ri F) := by
  obtain ⟨D, rfl⟩ : ∃ D', D = D' + 2 := ⟨D - 2, by omega⟩
  refine sg_choices_0 (fun y e => ?_)
  have hy := z0_s e
  exact sp_noRun hy (fun _ => ⟨fun _ => ri_i (h _ y (MI_0 hy.1 q)), fun q => absurd rfl q⟩) (fun y' m => ⟨fun q => absurd q (by decide), fun _ => ri_i (h _ y' (MI_0 m q))⟩)
theorem sp_go (q : MI z) (i : Int32) (hD : 7 ≤ D) (h : ∀ r z', PM z z' → F r z') : MT G D z_go 0 [(0, vr 0), (1, vi i)] [] z (ri F) := by
  obtain ⟨D, rfl⟩ : ∃ D', D = D' + 2 := ⟨D - 2, by omega⟩
  have k0 : (0 : Int32).toInt = 0 := rfl
  have k1 : (1 : Int32).toInt = 1 := rfl
  have k4 : (400 : Int32).toInt = 400 := rfl
  refine sg_go_0 _ (fun y e => ?_)
  have hy := z0_s e
  have no : ∀ y', mi [0] [] z y' → ri F (some (vi 0)) y' := fun y' m => ri_i (h 0 y' (MI_0 m q))
  have qy := (MI_0 hy.1 q).1
  refine sp_noRun hy (fun hr => ⟨fun q => absurd rfl q, fun _ => ?_⟩) (fun y' m => ⟨fun _ => no y' m, fun q => absurd q (by decide)⟩)
  obtain ⟨hc, hh⟩ := qy.2.2.1 hr
  have h84 : 0 ≤ (y.1 0 84).toInt ∧ (y.1 0 84).toInt ≤ 84 := by
    obtain ⟨s, n, q1, q2, q3, q4, _⟩ := hh
    have e84 : y.1 0 84 = (s n).1 0 84 := q4 0 84 (Or.inr (Or.inl ⟨rfl, rfl⟩))
    rw [e84]
    exact ⟨(q2 n (Nat.le_refl _)).2.2.2.1, (q2 n (Nat.le_refl _)).2.2.2.2.1⟩
  have h94 : (y.1 0 94).toInt ≤ 400 := by
    obtain ⟨s, n, q1, q2, q3, q4, q5, q6, q7⟩ := hh
    exact q7.2.2.1
  have p55 : ¬ y.1 0 94 = 400 → ∀ b : Int32, (b = 0 → 0 ≤ i.toInt ∧ i.toInt < (y.1 0 84).toInt) → MT G (D + 2) z_go 55 [(0, vr 0), (1, vi i)] [vi b, vr 0] y (ri F) := by
    intro n4 b hb
    refine sg_go_55 _ _ (sp_ref b 2 hy (by decide) (fun b0 => ⟨fun _ => ?_, fun q => absurd rfl q⟩) (fun _ y' m => ⟨fun q => absurd q (by decide), fun _ => no y' m⟩))
    rw [t_eq, k4] at n4
    refine sp_more hh (by omega) i (hb b0).1 (hb b0).2 (by omega) (fun z' hh' m _ => ri_i (h _ z' ?_))
    have p := MI_new m rfl rfl hc hh' qy
    exact PM_0 hy.1 p
  have p28 : ∀ b : Int32, (b = 0 → ¬ y.1 0 94 = 400) → MT G (D + 2) z_go 28 [(0, vr 0), (1, vi i)] [vi b, vr 0] y (ri F) := by
    intro b hb
    refine sg_go_28 _ _ (sp_ref b 1 hy (by decide) (fun b0 => ⟨fun q => absurd rfl q, fun _ => sp_in _ _ _ ⟨fun c => p55 (hb b0) 0 (fun _ => ?_), fun _ => p55 (hb b0) 1 (fun q => absurd q (by decide))⟩⟩) (fun _ y' m => ⟨fun _ => no y' m, fun q => absurd q (by decide)⟩))
    obtain ⟨c1, c2⟩ := bi_ne.mp c
    rw [t_le, k0] at c1
    rw [t_le, t_sub (by omega) (by omega), k1] at c2
    omega
  exact ⟨fun c => p28 0 (fun _ => c), fun _ => p28 1 (fun q => absurd q (by decide))⟩
theorem sp_draw (q : MI z) (s n : Int32) (hD : 7 ≤ D) (h : ∀ r z', PM z z' → F r z') : MT G D z_draw 0 [(0, vr 0), (1, vi s), (2, vi n)] [] z (ri F) := by
  obtain ⟨D, rfl⟩ : ∃ D', D = D' + 2 := ⟨D - 2, by omega⟩
  have k0 : (0 : Int32).toInt = 0 := rfl
  have k1 : (1 : Int32).toInt = 1 := rfl
  have k4 : (400 : Int32).toInt = 400 := rfl
  refine sg_draw_0 _ _ (fun y e => ?_)
  have hy := z0_s e
  have no : ∀ y', mi [0] [] z y' → ri F (some (vi 0)) y' := fun y' m => ri_i (h 0 y' (MI_0 m q))
  have qy := (MI_0 hy.1 q).1
  refine sp_noRun hy (fun hr => ⟨fun q => absurd rfl q, fun _ => ?_⟩) (fun y' m => ⟨fun _ => no y' m, fun q => absurd q (by decide)⟩)
  obtain ⟨hc, hh⟩ := qy.2.2.1 hr
  have loop : ∀ (m : Nat) (u : gd) (v i : Int32), Hist u → mi dL dA y u → 400 - (u.1 0 94).toInt ≤ m → MT G (D + 2) z_draw 43 [(0, vr 0), (2, vi n), (3, vi v), (4, vi i)] [] u (ri F) := by
    intro m
    induction m with
    | zero =>
      intro u v i hu mu hm
      have end' : ri F (some (vi i)) u := ri_i (h _ u (by have p := MI_new mu rfl rfl hc hu qy; exact PM_0 hy.1 p))
      exact sg_draw_43 _ _ _ ⟨fun _ => end', fun _ => ⟨fun _ => end', fun _ => ⟨fun _ => end', fun c => absurd (t_le.mpr (by rw [k4]; omega)) c⟩⟩⟩
    | succ m ih =>
      intro u v i hu mu hm
      have end' : ri F (some (vi i)) u := ri_i (h _ u (by have p := MI_new mu rfl rfl hc hu qy; exact PM_0 hy.1 p))
      refine sg_draw_43 _ _ _ ⟨fun _ => end', fun _ => ⟨fun _ => end', fun c1 => ⟨fun _ => end', fun c2 => ⟨fun z => c1 (by rw [z]; decide), ?_⟩⟩⟩⟩
      rw [t_le, k0] at c1
      rw [t_le, k4] at c2
      obtain ⟨a1, a2⟩ := t_and ((v * 1103515245 + 12345) >>> (16 &&& 31 : Int32))
      obtain ⟨b1, b2⟩ := t_rem a1 (c := u.1 0 84) (by omega)
      exact sp_more hu (by omega) _ b1 b2 (by omega) (fun u' hu' m' e94 => ih u' _ _ hu' (mi_tr mu m' rfl rfl) (by omega))
  have p29 : ∀ b : Int32, MT G (D + 2) z_draw 29 [(0, vr 0), (1, vi s), (2, vi n)] [vi b, vr 0] y (ri F) := fun b => sg_draw_29 _ _ _ (sp_ref b 2 hy (by decide) (fun _ => ⟨fun _ => loop _ y s 0 hh ⟨fun _ _ => rfl, fun _ _ _ => rfl⟩ (Int.self_le_toNat _), fun q => absurd rfl q⟩) (fun _ y' m => ⟨fun q => absurd q (by decide), fun _ => no y' m⟩))
  exact sp_in _ _ _ ⟨fun _ => p29 0, fun _ => p29 1⟩
theorem sp_again (q : MI z) (n : Int32) (hD : 7 ≤ D) (h : ∀ r z', PM z z' → F r z') : MT G D z_again 0 [(0, vr 0), (1, vi n)] [] z (ri F) := by
  obtain ⟨D, rfl⟩ : ∃ D', D = D' + 2 := ⟨D - 2, by omega⟩
  have k0 : (0 : Int32).toInt = 0 := rfl
  have k1 : (1 : Int32).toInt = 1 := rfl
  refine sg_again_0 _ (fun y e => ?_)
  have hy := z0_s e
  have no : ∀ y', mi [0] [] z y' → ri F (some (vi 0)) y' := fun y' m => ri_i (h 0 y' (MI_0 m q))
  have qy := (MI_0 hy.1 q).1
  refine sp_noRun hy (fun hr => ⟨fun q => absurd rfl q, fun _ => ?_⟩) (fun y' m => ⟨fun _ => no y' m, fun q => absurd q (by decide)⟩)
  obtain ⟨hc, hh⟩ := qy.2.2.1 hr
  obtain ⟨s, N, q1, q2, q3, q4, q5, q6, q7⟩ := hh
  have q8 := q7.2.2.1
  have loop : n.toInt ≤ (y.1 0 94).toInt → ∀ (m : Nat) (u : gd) (i : Int32), 0 ≤ i.toInt → i.toInt ≤ n.toInt ∨ i.toInt = 0 → n.toInt - i.toInt ≤ m → i.toInt ≤ (N : Int) → eqS (Sm (s i.toNatClampNeg)) (s i.toNatClampNeg) u → HA u → (u.1 0 94).toInt = i.toInt → u.1 96 = y.1 96 → u.1 0 68 = y.1 0 68 → mi (67 :: 68 :: dL) dA y u → MT G (D + 2) z_again 49 [(0, vr 0), (1, vi n), (2, vi i)] [] u (ri F) := by
    intro hn
    have end' : ∀ (u : gd) (i : Int32), 0 ≤ i.toInt → i.toInt ≤ (N : Int) → eqS (Sm (s i.toNatClampNeg)) (s i.toNatClampNeg) u → HA u → (u.1 0 94).toInt = i.toInt → u.1 96 = y.1 96 → u.1 0 68 = y.1 0 68 → mi (67 :: 68 :: dL) dA y u → ri F (some (vi (u.1 0 84))) u := by
      intro u i i0 iN eu hu u94 u96 u68 mu
      have ci := cl_i i0
      have hist : Hist u := ⟨s, i.toNatClampNeg, by omega, fun k hk => q2 k (by omega), by rw [u96]; exact fun k hk => q3 k (by omega), eu, by rw [u68]; exact St_pr (prE_mi (prE_rf y) mu rfl rfl) q5, by unfold wy01; rw [u68]; exact q6, hu⟩
      refine ri_i (h _ u ?_)
      have p := MI_new mu rfl rfl hc hist qy
      exact PM_0 hy.1 p
    intro m
    induction m with
    | zero =>
      intro u i i0 i1 hm iN eu hu u94 u96 u68 mu
      exact sg_again_49 _ _ ⟨fun _ => end' u i i0 iN eu hu u94 u96 u68 mu, fun c => absurd (t_le.mpr (by omega)) c⟩
    | succ m ih =>
      intro u i i0 i1 hm iN eu hu u94 u96 u68 mu
      have ci := cl_i i0
      refine sg_again_49 _ _ ⟨fun _ => end' u i i0 iN eu hu u94 u96 u68 mu, fun c => ?_⟩
      rw [t_le] at c
      refine ⟨by rw [vp_in_iff]; omega, ?_⟩
      rw [u96]
      obtain ⟨b1, b2, b3⟩ := q3 i.toNatClampNeg (by omega)
      have ii : (i + 1).toInt = i.toInt + 1 := by rw [t_add (by omega) (by omega), k1]
      have ci1 : (i + 1).toNatClampNeg = i.toNatClampNeg + 1 := by have := cl_i (a := i + 1) (by omega); omega
      refine sp_doChoice (q2 _ (by omega)) _ b1 b2 b3 eu hu (by omega) (by omega) (fun u' eu' hu' df => ?_)
      obtain ⟨mm, e94, e96, e96b⟩ := df
      have cu : (u.1 0 94).toNatClampNeg = i.toNatClampNeg := by have := cl_i (a := u.1 0 94) (by omega); omega
      rw [cu, ← u96] at e96
      rw [cu] at e96b
      refine ih u' (i + 1) (by omega) (Or.inl (by omega)) (by omega) (by omega) (by rw [ci1]; exact eu') hu' (by omega) ?_ (by rw [mm.1 68 (by decide)]; exact u68) (mi_tr mu mm rfl rfl)
      funext j
      by_cases w : j = i.toNatClampNeg
      · rw [w, e96, u96]
      · rw [e96b j w, u96]
  have p30 : ∀ b : Int32, (b = 0 → 0 ≤ n.toInt ∧ n.toInt ≤ (y.1 0 94).toInt) → MT G (D + 2) z_again 30 [(0, vr 0), (1, vi n)] [vi b, vr 0] y (ri F) := by
    intro b hb
    refine sg_again_30 _ _ (sp_ref b 2 hy (by decide) (fun b0 => ⟨fun _ => ?_, fun q => absurd rfl q⟩) (fun _ y' m => ⟨fun q => absurd q (by decide), fun _ => no y' m⟩))
    obtain ⟨n0, n1⟩ := hb b0
    refine q5 G (D + 1) y _ (by omega) (prE_rf y) (fun u eu sf => ?_)
    obtain ⟨mm, f94, hu, f67, f68⟩ := sf
    exact loop n1 n.toInt.toNat u 0 (by decide) (Or.inr rfl) (by rw [k0]; omega) (by rw [k0]; omega) eu hu (by rw [f94]) (mm.2 96 (by decide) (by decide)) f68 (mi_w mm (by decide) (by decide))
  refine sp_in _ _ _ ⟨fun c => p30 0 (fun _ => ?_), fun _ => p30 1 (fun q => absurd q (by decide))⟩
  obtain ⟨c1, c2⟩ := bi_ne.mp c
  rw [t_le, k0] at c1
  rw [t_le] at c2
  exact ⟨c1, c2⟩
theorem sp_fault2 (q : MI z) (w : Int32) (h : ∀ r z', PM z z' → F r z') : MT G (D + 1) z_fault_ 0 [(0, vr 0), (1, vi w)] [] z (ri F) := by
  refine sg_fault__0 _ (fun y e => ?_)
  have hy := z0_s e
  have p20 : ∀ b : Int32, MT G (D + 1) z_fault_ 20 [(0, vr 0), (1, vi w)] [vi b, vr 0] y (ri F) := fun b => sg_fault__20 _ _ (sp_ref b 1 hy (by decide) (fun _ => ⟨fun _ => ⟨fun _ => ri_i (h _ y (MI_0 hy.1 q)), fun _ => ri_i (h _ y (MI_0 hy.1 q))⟩, fun q => absurd rfl q⟩) (fun _ y' m => ⟨fun q => absurd q (by decide), fun _ => ri_i (h _ y' (MI_0 m q))⟩))
  exact sp_in _ _ _ ⟨fun _ => p20 0, fun _ => p20 1⟩
/-- what count answers -/
def cntM (z : gd) (w r : Int32) : Prop := (w = 0 ∧ r = z.1 0 23) ∨ (w = 1 ∧ r = z.1 0 24) ∨ (w = 2 ∧ r = z.1 0 25) ∨ (w = 3 ∧ r = z.1 0 26) ∨ (w = 4 ∧ r = z.1 0 27)
theorem sp_count (q : MI z) (w : Int32) (h : ∀ r z', PM z z' → ((¬ (0 ≤ w.toInt ∧ w.toInt ≤ 4) → z'.1 0 0 = 1) ∧ ((0 ≤ w.toInt ∧ w.toInt ≤ 4) → z'.1 0 0 = 0 ∧ cntM z w r)) → F r z') : MT G (D + 1) z_count 0 [(0, vr 0), (1, vi w)] [] z (ri F) := by
  have k0 : (0 : Int32).toInt = 0 := rfl
  have k1 : (1 : Int32).toInt = 1 := rfl
  have k2 : (2 : Int32).toInt = 2 := rfl
  have k3 : (3 : Int32).toInt = 3 := rfl
  have k4 : (4 : Int32).toInt = 4 := rfl
  refine sg_count_0 _ (fun y e => ?_)
  have hy := z0_s e
  have f := fun k (hk : ¬ k = 0) => hy.1.1 k (fun z => hk (List.mem_singleton.mp z))
  have ok : (0 ≤ w.toInt ∧ w.toInt ≤ 4) → ∀ r, cntM z w r → ri F (some (vi r)) y := fun hw r hr => ri_i (h _ y (MI_0 hy.1 q) ⟨fun z => absurd hw z, fun _ => ⟨hy.2, hr⟩⟩)
  have p20 : ∀ b : Int32, (b = 0 → 0 ≤ w.toInt ∧ w.toInt ≤ 4) → (¬ b = 0 → ¬ (0 ≤ w.toInt ∧ w.toInt ≤ 4)) → MT G (D + 1) z_count 20 [(0, vr 0), (1, vi w)] [vi b, vr 0] y (ri F) := by
    intro b hb hb2
    refine sg_count_20 _ _ (sp_refuses b 1 hy.2 (by decide) (fun c => ⟨fun _ => ?_, fun q => absurd rfl q⟩) (fun c => ⟨fun q => absurd q (by decide), fun _ => ri_i (h _ _ (MI_0 (mi_tr hy.1 (mi_of (md_f y 0 1)) rfl rfl) q) ⟨fun _ => by rw [si_get, if_pos ⟨rfl, rfl⟩], fun z => absurd z (hb2 c)⟩)⟩))
    have hw := hb c
    rw [f 23 (by decide), f 24 (by decide), f 25 (by decide), f 26 (by decide), f 27 (by decide)]
    refine ⟨fun n0 => ⟨fun n1 => ⟨fun n2 => ⟨fun n3 => ok hw _ ?_, fun e3 => ok hw _ (Or.inr (Or.inr (Or.inr (Or.inl ⟨e3, rfl⟩))))⟩, fun e2 => ok hw _ (Or.inr (Or.inr (Or.inl ⟨e2, rfl⟩)))⟩, fun e1 => ok hw _ (Or.inr (Or.inl ⟨e1, rfl⟩))⟩, fun e0 => ok hw _ (Or.inl ⟨e0, rfl⟩)⟩
    refine Or.inr (Or.inr (Or.inr (Or.inr ⟨?_, rfl⟩)))
    rw [t_eq, k0] at n0
    rw [t_eq, k1] at n1
    rw [t_eq, k2] at n2
    rw [t_eq, k3] at n3
    rw [t_eq, k4]
    omega
  refine sp_in _ _ _ ⟨fun c => p20 0 (fun _ => ?_) (fun z => absurd rfl z), fun c => p20 1 (fun z => absurd z (by decide)) (fun _ z => ?_)⟩
  · obtain ⟨c1, c2⟩ := bi_ne.mp c
    rw [t_le, k0] at c1
    rw [t_le, k4] at c2
    exact ⟨c1, c2⟩
  · refine bi_eq.mp c ⟨t_le.mpr ?_, t_le.mpr ?_⟩
    · rw [k0]; exact z.1
    · rw [k4]; exact z.2
end FAC
