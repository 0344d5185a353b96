section
/-! the model's memory against the machine; an act looked at -/
def mLt (y : gd) (t : Nat) (l : List (Nat × Int32)) : Prop := (y.1 80 t).toInt = (l.length : Nat) ∧ ∀ j q, l[j]? = some q → y.1 81 (10 * t + j) = Int32.ofNat q.1 ∧ y.1 82 (10 * t + j) = q.2 ∧ q.1 < 24
def mTq (y : gd) (C : gCo) (t : Nat) (h : gTq) : Prop := y.1 73 t = Int32.ofNat h.1 ∧ h.1 ≤ 3 ∧ y.1 75 t = Int32.ofNat h.2.1 ∧ (y.1 74 t).toInt = (h.2.2.1 : Nat) ∧ y.1 77 t = Int32.ofNat h.2.2.2.1 ∧ h.2.2.2.1 ≤ 2 ∧ y.1 78 t = h.2.2.2.2.1 ∧ y.1 79 t = h.2.2.2.2.2.1 ∧ mLt y t h.2.2.2.2.2.2.1 ∧ mLv y C t h.1 h.2.2.1 h.2.2.2.2.2.2.2
def MM1 (y : gd) (C : gCo) (M : gMa) : Prop := (∀ c, c < 24 → y.1 70 c = M.1 c) ∧ (∀ l, l < 6 → y.1 71 l = Int32.ofNat (M.2.1 l).1 - 1 ∧ (M.2.1 l).1 ≤ 6 ∧ y.1 72 l = (M.2.1 l).2) ∧ ∀ t, t < 6 → mTq y C t (M.2.2 t)
theorem hol_t : ∀ h, h < 7 → ∀ t, t < 6 → (Int32.ofNat h - 1 = Int32.ofNat t ↔ h = t + 1) := by decide +kernel
theorem sta_0 : ∀ h, h < 4 → (Int32.ofNat h = 0 ↔ h = 0) := by decide +kernel
theorem wai_2 : ∀ h, h < 3 → (Int32.ofNat h = 2 ↔ h = 2) ∧ (Int32.ofNat h = 1 ↔ h = 1) ∧ (Int32.ofNat h = 0 ↔ h = 0) := by decide +kernel
theorem op_16 : ∀ h, h < 16 → (Int32.ofNat h).toInt = (h : Nat) := by decide +kernel
def lkQ (y : gd) (L : Nat × Int32 × Int32 × Int32) : Prop := y.1 0 89 = Int32.ofNat L.1 ∧ y.1 0 88 = L.2.1 ∧ (L.1 = 0 → y.1 0 90 = L.2.2.1 ∧ y.1 0 91 = L.2.2.2)
section DLK
variable {d : Nat} {S : gS} {x : gd} {F : Int32 → gd → gS → Prop} {Fv : gd → gS → Prop} {C : gCo} {M : gMa} {w : Nat}
theorem ds_look3 (t : Int32) (ht : vp_in t 6) (ri : RI x S) (h1 : x.1 73 t.toNatClampNeg = 1) (hw1 : ¬ x.1 77 t.toNatClampNeg = 1) (hK : MK x C) (hN : NC C) (hX : NXc C) (hM : MM1 x C M) (wy : x.1 0 68 = Int32.ofNat w) (w01 : w = 0 ∨ w = 1) (h : ∀ x' S', md [82, 88, 89, 90, 91] [84] x x' → ssub S S' → lkS S' → lkP x x' t.toNatClampNeg → lkQ x' (lkM C w M t.toNatClampNeg) → Fv x' S') : MD (d + 3) z_lookAt 0 [(0, vr 0), (1, vi t)] [] S x (Dv Fv) := by
  have k0 : (0 : Int32).toInt = 0 := rfl
  obtain ⟨kv, _, so, av⟩ := RI_step ri (vt ht) h1
  obtain ⟨s1, s2, s3⟩ := srt_of ri (vt ht) h1
  have w6 : (x.1 0 49).toInt ≤ 6000 := by have := ri.1.2.1.2.2.2.1; omega
  unfold lkP at h
  have tv := vp_in_iff.mp ht
  have k8 : (8 : Int32).toInt = 8 := rfl
  obtain ⟨T, eT⟩ : ∃ T, T = t.toNatClampNeg := ⟨_, rfl⟩
  have hT : T < 6 := by rw [eT]; exact vt ht
  have tT : t = Int32.ofNat T := i32_of (by rw [eT, t_cl]; omega)
  have tTi : t.toInt = (T : Nat) := by rw [eT, t_cl]; omega
  rw [← eT] at h h1 hw1 s1 s2 s3 kv so av
  obtain ⟨m73, l73, m75, m74, m77, l77, m78, m79, mlt, mlv⟩ := hM.2.2 T hT
  obtain ⟨k, ek⟩ : ∃ k, k = x.1 74 T := ⟨_, rfl⟩
  rw [← ek] at kv av s1 s2 s3 so h m74
  obtain ⟨s, es⟩ : ∃ s, s = srt x T := ⟨_, rfl⟩
  rw [← es] at s1 s2 s3 h
  -- the step of the code
  have l52 : (x.1 0 52).toInt = C.1.length := hK.1.1
  have kst : k.toNatClampNeg = (M.2.2 T).2.2.1 := by rw [t_cl, m74]; rfl
  have kl : (M.2.2 T).2.2.1 < C.1.length := by
    have := (RI_step ri hT h1).2.1
    rw [← ek, m74] at this
    omega
  obtain ⟨st, hst⟩ : ∃ st, C.1[(M.2.2 T).2.2.1]? = some st := ⟨_, List.getElem?_eq_getElem kl⟩
  have esN := stN_is hst
  obtain ⟨g54, g55, g56, g57, g58, g59, g60, -, -⟩ := hK.1.2 _ st hst
  have ns := hN.1 _ st hst
  obtain ⟨nx1, nx2, nx3, nx4, -, nx5⟩ := hX _ st hst
  rw [← kst] at g54 g55 g56 g57 g58 g59 g60
  have o16 : st.1 < 16 := by
    have a := ((ri.2 T hT).1.2.2 h1).2
    rw [← ek, g54] at a
    exact (mWh_i st.1 ns.1.1).1.mp a
  have g55 := g55 o16
  have sta1 : (M.2.2 T).1 = 1 := by
    have : Int32.ofNat (M.2.2 T).1 = 1 := by rw [← m73]; exact h1
    have a := (M.2.2 T).1
    rcases (show (M.2.2 T).1 = 0 ∨ (M.2.2 T).1 = 1 ∨ (M.2.2 T).1 = 2 ∨ (M.2.2 T).1 = 3 by omega) with e | e | e | e <;> rw [e] at this ⊢ <;> first | rfl | exact absurd this (by decide)
  have lv : ∀ p, p < st.2.1.length → x.1 76 (8 * T + slN st.2.1 p) = (M.2.2 T).2.2.2.2.2.2.2 p := by
    have a := mlv.1 (Or.inl sta1)
    rw [esN] at a
    exact a
  have w2 : ¬ s = 15 → (M.2.2 T).2.2.2.1 = 0 ∧ s = Int32.ofNat st.1 := fun n15 => by
    obtain ⟨b2, b1, b0⟩ := wai_2 _ (show (M.2.2 T).2.2.2.1 < 3 by omega)
    rw [← m77] at b2 b1 b0
    have c2 : ¬ x.1 77 T = 2 := fun z => n15 (by rw [es]; unfold srt; rw [if_pos z])
    refine ⟨?_, by rw [es]; unfold srt; rw [if_neg c2, ← ek]; exact g55⟩
    have a1 : ¬ (M.2.2 T).2.2.2.1 = 2 := fun z => c2 (b2.mpr z)
    have a2 : ¬ (M.2.2 T).2.2.2.1 = 1 := fun z => hw1 (b1.mpr z)
    omega
  have w15 : s = 15 → ¬ (M.2.2 T).2.2.2.1 = 0 := fun e15 z => by
    have : s = Int32.ofNat st.1 := by
      rw [es]; unfold srt
      rw [if_neg (by rw [m77, z]; decide), ← ek]; exact g55
    have c := op_16 st.1 o16
    rw [← this, e15] at c
    have : st.1 = 15 := by
      have e : (15 : Int32).toInt = 15 := rfl
      omega
    exact ns.1.2 this
  -- what stands while it looks
  let Z : gd → gS → Prop := fun z S2 => md [82, 88, 89, 90, 91] [84] x z ∧ ssub S S2 ∧ lkS S2 ∧ ((0 ≤ s.toInt ∧ s.toInt ≤ 4) → 0 ≤ (z.1 0 88).toInt ∧ (z.1 0 88).toInt < 24) ∧ ((5 ≤ s.toInt ∧ s.toInt ≤ 10) ∨ s = 15 → z.1 0 88 = x.1 56 k.toNatClampNeg)
  have fail : ∀ (z : gd) (S2 : gS) (n : Int32) (z2 : gd), Z z S2 → 0 < n.toInt → z2 = si z 0 89 n → Int32.ofNat (lkM C w M T).1 = n → z.1 0 88 = (lkM C w M T).2.1 → ¬ (lkM C w M T).1 = 0 → Dv Fv none z2 (sadd S2 0 89) := by
    intro z S2 n z2 hz hn e2 L1 L2 L0
    obtain ⟨z1, z2', z3, z4, z5⟩ := hz
    have m := md_f z 89 n
    rw [← e2] at m
    have e88 : z2.1 0 88 = z.1 0 88 := m.1 88 (by decide)
    have e89 : z2.1 0 89 = n := by rw [e2, si_get, if_pos ⟨rfl, rfl⟩]
    refine Dv_i (h z2 _ (md_tr z1 m rfl rfl) (ssub_tr z2' (ssub_ad _ _ _)) (lkS_up (ssub_ad _ _ _) z3) ⟨fun q => Or.inr (by rw [e88]; exact z4 q), fun q => by rw [e88]; exact z5 q, fun q => ?_⟩ ⟨by rw [e89]; exact L1.symm, by rw [e88]; exact L2, fun z => absurd z L0⟩)
    rw [e89] at q; omega
  have good : ∀ (z : gd) (S2 : gS), Z z S2 → (s = 9 → x.1 73 (x.1 56 k.toNatClampNeg).toNatClampNeg = 0) → (s = 1 → x.1 0 68 = 1 → x.1 37 (z.1 0 88).toNatClampNeg = 0 → ¬ x.1 80 T = 8) → lkQ z (lkM C w M T) → Dv Fv none z S2 := by
    intro z S2 hz q9 q1 L
    obtain ⟨z1, z2', z3, z4, z5⟩ := hz
    exact Dv_i (h z S2 z1 z2' z3 ⟨fun q => Or.inr (z4 q), z5, fun _ => ⟨z4, q9, q1⟩⟩ L)
  have bad : ∀ (z : gd) (S2 : gS), Z z S2 → ¬ (z.1 0 89).toInt ≤ 0 → lkQ z (lkM C w M T) → Dv Fv none z S2 := by
    intro z S2 hz q L
    obtain ⟨z1, z2', z3, z4, z5⟩ := hz
    exact Dv_i (h z S2 z1 z2' z3 ⟨fun q => Or.inr (z4 q), z5, fun q2 => absurd q2 q⟩ L)
  have ev : ∀ (o : Option (List gQ)) (v : Int32), mNs x st.2.1 v o → (v = -1 ∧ o = none) ∨ (¬ v = -1 ∧ ∃ Q, o = some Q ∧ SUm x v (Q.map (mQp st.2.1))) := fun o v ho => by
    cases o with
    | none => exact Or.inl ⟨ho, rfl⟩
    | some Q =>
      have ho : SUm x v (Q.map (mQp st.2.1)) := ho
      refine Or.inr ⟨fun z => ?_, Q, rfl, ho⟩
      have := ho.1
      rw [z] at this
      exact absurd this (by decide)
  -- good so far: its place, its values
  let R : gd → Int32 → Int32 → Prop := fun z e f => ¬ s = 15 ∧ z.1 0 88 = (lkI C M T).2 ∧ z.1 0 89 = 0 ∧ z.1 0 90 = e ∧ z.1 0 91 = f ∧ lkM C w M T = (rsF C w M T st.1 (lkI C M T).2.toNatClampNeg, (lkI C M T).2, e, f)
  have sI : ¬ s = 15 → s.toInt = (st.1 : Nat) := fun n => by rw [(w2 n).2]; exact op_16 _ o16
  have sE : ¬ s = 15 → ∀ n : Nat, n < 16 → (s = Int32.ofNat n ↔ st.1 = n) := fun n15 n hn => by
    rw [t_eq, sI n15, op_16 n hn]; omega
  have obj : ¬ s = 15 → (5 ≤ st.1 ∧ st.1 ≤ 10) → (lkI C M T).2 = x.1 56 k.toNatClampNeg ∧ (x.1 56 k.toNatClampNeg).toNatClampNeg < 6 := fun n15 hs => by
    have a := sI n15
    have o := s2 (Or.inl (by omega))
    have ni : st.2.2.2.2.2.2.2.1 = none := by
      cases e : st.2.2.2.2.2.2.2.1 with
      | none => rfl
      | some Q => have := nx1 (by rw [e]; exact fun z => nomatch z); omega
    refine ⟨?_, by rw [t_cl]; omega⟩
    rw [lkI_n (by rw [esN]; exact ni), esN]
    exact g56.symm
  have hcl : ¬ s = 15 → s = 1 → ∀ (z : gd) (S2 : gS), Z z S2 → z.1 0 88 = (lkI C M T).2 → (z.1 0 88).toNatClampNeg < C.2.2.1.length := by
    intro n15 c z S2 hz e
    have o1 : st.1 = 1 := (sE n15 1 (by omega)).mp c
    obtain ⟨b1, b2, b3⟩ := nx5 (by omega)
    have r := hz.2.2.2.1 (by rw [c]; decide)
    rw [e] at r ⊢
    cases ei : st.2.2.2.2.2.2.2.1 with
    | none =>
      rw [lkI_n (by rw [esN]; exact ei), esN, t_cl]
      show st.2.2.2.2.1.toInt.toNat < _
      omega
    | some Q =>
      have b4 := b3 (by rw [ei]; exact fun z => nomatch z)
      have ei' : (stN C (M.2.2 T).2.2.1).2.2.2.2.2.2.2.1 = some Q := by rw [esN]; exact ei
      obtain ⟨av1, av2, av3, av4⟩ := aV_acc av (by rw [g55, op_16 _ o16]; omega) (by rw [g55, op_16 _ o16]; omega)
      have n58 : ¬ x.1 58 k.toNatClampNeg = -1 := by
        rcases ev _ _ g58 with ⟨-, a⟩ | ⟨a, -⟩
        · rw [ei] at a; exact nomatch a
        · exact a
      have av5 := av4.resolve_left n58
      rw [g56, g57] at av5
      rw [g56] at av1
      cases ew : wkQ (M.2.2 T).2.2.2.2.2.2.2 (fun _ => 0) (Int32.ofNat T) Q with
      | none => rw [lkI_1 ei' ew] at r; exact absurd r.1 (by decide)
      | some v =>
        by_cases cv : v < 0 ∨ (stN C (M.2.2 T).2.2.1).2.2.2.2.2.1 ≤ v
        · rw [lkI_2 ei' ew cv] at r; exact absurd r.1 (by decide)
        · rw [lkI_0 ei' ew cv, t_cl]
          rw [esN, t_lt, t_le, k0] at cv
          rw [esN]
          show (st.2.2.2.2.1 + v).toInt.toNat < _
          rw [t_add (by omega) (by omega)]
          omega
  have p362 : ∀ (z : gd) (S2 : gS) (e f : Int32), Z z S2 → R z e f → (s = 9 → x.1 73 (x.1 56 k.toNatClampNeg).toNatClampNeg = 0) → ¬ (st.1 = 6 ∧ ¬ (M.2.1 (lkI C M T).2.toNatClampNeg).1 = T + 1) → ¬ ((st.1 = 7 ∨ st.1 = 8) ∧ ¬ (M.2.1 (lkI C M T).2.toNatClampNeg).1 = T + 1) → ¬ (st.1 = 9 ∧ ¬ (M.2.2 (lkI C M T).2.toNatClampNeg).1 = 0) → ¬ ((st.1 = 13 ∧ ¬ (M.2.2 T).2.2.2.2.2.1 = -1) ∨ (st.1 = 14 ∧ (M.2.2 T).2.2.2.2.2.1 = -1)) → MD (d + 3) z_lookAt 362 [(0, vr 0), (1, vi t), (3, vi s)] [] S2 z (Dv Fv) := by
    intro z S2 e f hz hR q9 r3 r4 r7 r8
    obtain ⟨n15, R88, R89, R90, R91, RL⟩ := hR
    have rs : rsF C w M T st.1 (lkI C M T).2.toNatClampNeg = if st.1 = 1 ∧ w = 1 ∧ suM C (lkI C M T).2.toNatClampNeg = false ∧ 8 ≤ (M.2.2 T).2.2.2.2.2.2.1.length then 9 else 0 := by
      unfold rsF
      rw [if_neg r3, if_neg r4, if_neg r7, if_neg r8]
    have gd0 : ¬ (st.1 = 1 ∧ w = 1 ∧ suM C (lkI C M T).2.toNatClampNeg = false ∧ 8 ≤ (M.2.2 T).2.2.2.2.2.2.1.length) → lkQ z (lkM C w M T) := fun c => by
      rw [if_neg c] at rs
      rw [RL, rs]
      exact ⟨R89, R88, fun _ => ⟨R90, R91⟩⟩
    have f68 : z.1 0 68 = x.1 0 68 := hz.1.1 68 (by decide)
    have f37 : z.1 37 = x.1 37 := hz.1.2.1 37 (by decide) (by decide)
    have f80 : z.1 80 = x.1 80 := hz.1.2.1 80 (by decide) (by decide)
    have s1' := sE n15 1 (by omega)
    have l8 : (x.1 80 T).toInt = ((M.2.2 T).2.2.2.2.2.2.1.length : Nat) := mlt.1
    have ll8 := (ri.2 T hT).2.2.2.1
    refine sd_lookAt_362 _ _ ⟨fun c => good z S2 hz q9 (fun q => absurd q c) (gd0 (fun z => c (s1'.mpr z.1))), fun c => ?_⟩
    rw [f68, f37, f80]
    have r := hz.2.2.2.1 (by rw [c]; decide)
    have su : x.1 37 (z.1 0 88).toNatClampNeg = if suM C (lkI C M T).2.toNatClampNeg = true then 1 else 0 := by
      rw [← R88]
      by_cases cl : (z.1 0 88).toNatClampNeg < C.2.2.1.length
      · obtain ⟨q, hq⟩ : ∃ q, C.2.2.1[(z.1 0 88).toNatClampNeg]? = some q := ⟨_, List.getElem?_eq_getElem cl⟩
        rw [(hK.2.2.1.2 _ q hq).2]
        unfold suM
        rw [hq]
      · exact absurd (hcl n15 c z S2 hz R88) cl
    refine ⟨fun c2 => good z S2 hz q9 (fun _ q => absurd q c2) (gd0 (fun z => c2 (by rw [wy, z.2.1]; rfl))), fun c68 => ⟨hz.2.2.1.1, by rw [vp_in_iff]; exact r, fun c3 => good z S2 hz q9 (fun _ _ q => absurd q c3) (gd0 (fun z9 => c3 (by rw [su, z9.2.2.1]; rfl))), fun c3 => ⟨ht, ?_⟩⟩⟩
    rw [← eT]
    have w1 : w = 1 := w01.resolve_left (fun z => by rw [z] at wy; rw [wy] at c68; exact absurd c68 (by decide))
    have su0 : suM C (lkI C M T).2.toNatClampNeg = false := by
      cases e9 : suM C (lkI C M T).2.toNatClampNeg with
      | false => rfl
      | true => rw [su, e9] at c3; exact absurd c3 (by decide)
    refine ⟨fun c4 => good z S2 hz q9 (fun _ _ _ => c4) (gd0 (fun z9 => c4 ?_)), fun c4 z2 e2 => ?_⟩
    · rw [t_eq, l8, k8]
      have := z9.2.2.2
      omega
    · rw [if_pos ⟨s1'.mp c, w1, su0, by rw [t_eq, l8, k8] at c4; omega⟩] at rs
      exact fail z S2 9 z2 hz (by decide) e2 (by rw [RL, rs]; rfl) (by rw [RL]; exact R88) (by rw [RL, rs]; exact fun z => nomatch z)
  have p321 : ∀ (z : gd) (S2 : gS) (e f : Int32), Z z S2 → R z e f → (s = 9 → x.1 73 (x.1 56 k.toNatClampNeg).toNatClampNeg = 0) → ¬ (st.1 = 6 ∧ ¬ (M.2.1 (lkI C M T).2.toNatClampNeg).1 = T + 1) → ¬ ((st.1 = 7 ∨ st.1 = 8) ∧ ¬ (M.2.1 (lkI C M T).2.toNatClampNeg).1 = T + 1) → ¬ (st.1 = 9 ∧ ¬ (M.2.2 (lkI C M T).2.toNatClampNeg).1 = 0) → MD (d + 3) z_lookAt 321 [(0, vr 0), (1, vi t), (3, vi s)] [] S2 z (Dv Fv) := by
    intro z S2 e f hz hR q9 r3 r4 r7
    obtain ⟨n15, R88, R89, R90, R91, RL⟩ := id hR
    have f79 : z.1 79 = x.1 79 := hz.1.2.1 79 (by decide) (by decide)
    have s13 := sE n15 13 (by omega)
    have s14 := sE n15 14 (by omega)
    have bad8 : ((st.1 = 13 ∧ ¬ (M.2.2 T).2.2.2.2.2.1 = -1) ∨ (st.1 = 14 ∧ (M.2.2 T).2.2.2.2.2.1 = -1)) → ∀ z2, z2 = si z 0 89 8 → Dv Fv none z2 (sadd S2 0 89) := fun c z2 e2 => by
      have rs : rsF C w M T st.1 (lkI C M T).2.toNatClampNeg = 8 := by
        unfold rsF
        rw [if_neg r3, if_neg r4, if_neg r7, if_pos c]
      exact fail z S2 8 z2 hz (by decide) e2 (by rw [RL, rs]; rfl) (by rw [RL]; exact R88) (by rw [RL, rs]; exact fun z => nomatch z)
    have p337 : ¬ (st.1 = 13 ∧ ¬ (M.2.2 T).2.2.2.2.2.1 = -1) → MD (d + 3) z_lookAt 337 [(0, vr 0), (1, vi t), (3, vi s)] [] S2 z (Dv Fv) := fun n13 => sd_lookAt_337 _ _ ⟨fun c => p362 z S2 e f hz hR q9 r3 r4 r7 (fun q => q.elim n13 (fun q => c (s14.mpr q.1))), fun c => ⟨ht, by
      rw [f79, ← eT, m79]
      exact ⟨fun c2 => p362 z S2 e f hz hR q9 r3 r4 r7 (fun q => q.elim n13 (fun q => c2 q.2)), fun c2 z2 e2 => bad8 (Or.inr ⟨s14.mp c, c2⟩) z2 e2⟩⟩⟩
    refine sd_lookAt_321 _ _ ⟨fun c => p337 (fun q => c (s13.mpr q.1)), fun c => ⟨ht, ?_⟩⟩
    rw [f79, ← eT, m79]
    exact ⟨fun c2 z2 e2 => bad8 (Or.inl ⟨s13.mp c, c2⟩) z2 e2, fun c2 => p337 (fun q => q.2 c2)⟩
  have p292 : ∀ (z : gd) (S2 : gS) (e f : Int32), Z z S2 → R z e f → ¬ (st.1 = 6 ∧ ¬ (M.2.1 (lkI C M T).2.toNatClampNeg).1 = T + 1) → ¬ ((st.1 = 7 ∨ st.1 = 8) ∧ ¬ (M.2.1 (lkI C M T).2.toNatClampNeg).1 = T + 1) → MD (d + 3) z_lookAt 292 [(0, vr 0), (1, vi t), (2, vi k), (3, vi s)] [] S2 z (Dv Fv) := by
    intro z S2 e f hz hR r3 r4
    obtain ⟨n15, R88, R89, R90, R91, RL⟩ := id hR
    have f56 : z.1 56 = x.1 56 := hz.1.2.1 56 (by decide) (by decide)
    have f73 : z.1 73 = x.1 73 := hz.1.2.1 73 (by decide) (by decide)
    have s9 := sE n15 9 (by omega)
    refine sd_lookAt_292 _ _ _ ⟨fun c => p321 z S2 e f hz hR (fun q => absurd q c) r3 r4 (fun q => c (s9.mpr q.1)), fun c => ⟨kv, ?_⟩⟩
    have o := s2 (Or.inl (by rw [c]; decide))
    obtain ⟨ob1, ob2⟩ := obj n15 (by have := s9.mp c; omega)
    have l9 := (hM.2.2 _ ob2).2.1
    have e9 := (hM.2.2 _ ob2).1
    have z9 := sta_0 _ (show (M.2.2 (x.1 56 k.toNatClampNeg).toNatClampNeg).1 < 4 by omega)
    rw [← e9] at z9
    rw [f56, f73]
    refine ⟨by rw [vp_in_iff]; omega, fun c2 => p321 z S2 e f hz hR (fun _ => c2) r3 r4 (fun q => q.2 (by rw [ob1]; exact z9.mp c2)), fun c2 z2 e2 => ?_⟩
    have rs : rsF C w M T st.1 (lkI C M T).2.toNatClampNeg = 7 := by
      unfold rsF
      rw [if_neg r3, if_neg r4, if_pos ⟨s9.mp c, fun q => c2 (z9.mpr (by rw [ob1] at q; exact q))⟩]
    exact fail z S2 7 z2 hz (by decide) e2 (by rw [RL, rs]; rfl) (by rw [RL]; exact R88) (by rw [RL, rs]; exact fun z => nomatch z)
  have p267 : ∀ (z : gd) (S2 : gS) (b e f : Int32), Z z S2 → R z e f → ¬ (st.1 = 6 ∧ ¬ (M.2.1 (lkI C M T).2.toNatClampNeg).1 = T + 1) → ((st.1 = 7 ∨ st.1 = 8) → (b = 0 ↔ ¬ (M.2.1 (lkI C M T).2.toNatClampNeg).1 = T + 1)) → MD (d + 3) z_lookAt 267 [(0, vr 0), (1, vi t), (2, vi k), (3, vi s), (4, vi b)] [] S2 z (Dv Fv) := by
    intro z S2 b e f hz hR r3 hb
    obtain ⟨n15, R88, R89, R90, R91, RL⟩ := id hR
    have s7 := sE n15 7 (by omega)
    have s8 := sE n15 8 (by omega)
    have p279 : (st.1 = 7 ∨ st.1 = 8) → MD (d + 3) z_lookAt 279 [(0, vr 0), (1, vi t), (2, vi k), (3, vi s), (4, vi b)] [] S2 z (Dv Fv) := fun c78 => sd_lookAt_279 _ _ _ _ ⟨fun c => p292 z S2 e f hz hR r3 (fun q => c ((hb c78).mpr q.2)), fun c z2 e2 => by
      have rs : rsF C w M T st.1 (lkI C M T).2.toNatClampNeg = 4 := by
        unfold rsF
        rw [if_neg r3, if_pos ⟨c78, (hb c78).mp c⟩]
      exact fail z S2 4 z2 hz (by decide) e2 (by rw [RL, rs]; rfl) (by rw [RL]; exact R88) (by rw [RL, rs]; exact fun z => nomatch z)⟩
    exact sd_lookAt_267 _ _ _ _ ⟨fun c => p279 (Or.inl (s7.mp c)), fun c => ⟨fun c8 => p292 z S2 e f hz hR r3 (fun q => q.1.elim (fun q => c (s7.mpr q)) (fun q => c8 (s8.mpr q))), fun c8 => p279 (Or.inr (s8.mp c8))⟩⟩
  have p246 : ∀ (z : gd) (S2 : gS) (b e f : Int32), Z z S2 → R z e f → ((st.1 = 6 ∨ st.1 = 7 ∨ st.1 = 8) → (b = 0 ↔ ¬ (M.2.1 (lkI C M T).2.toNatClampNeg).1 = T + 1)) → MD (d + 3) z_lookAt 246 [(0, vr 0), (1, vi t), (2, vi k), (3, vi s)] [vi b] S2 z (Dv Fv) := by
    intro z S2 b e f hz hR hb
    obtain ⟨n15, R88, R89, R90, R91, RL⟩ := id hR
    have s6 := sE n15 6 (by omega)
    refine sd_lookAt_246 _ _ _ _ ⟨fun c => p267 z S2 b e f hz hR (fun q => c (s6.mpr q.1)) (fun q => hb (Or.inr q)), fun c => ⟨fun c0 => p267 z S2 b e f hz hR (fun q => c0 ((hb (Or.inl q.1)).mpr q.2)) (fun q => hb (Or.inr q)), fun c0 z2 e2 => ?_⟩⟩
    have rs : rsF C w M T st.1 (lkI C M T).2.toNatClampNeg = 3 := by
      unfold rsF
      rw [if_pos ⟨s6.mp c, (hb (Or.inl (s6.mp c))).mp c0⟩]
    exact fail z S2 3 z2 hz (by decide) e2 (by rw [RL, rs]; rfl) (by rw [RL]; exact R88) (by rw [RL, rs]; exact fun z => nomatch z)
  have p226 : ∀ (z : gd) (S2 : gS) (e f : Int32), Z z S2 → R z e f → (6 ≤ st.1 ∧ st.1 ≤ 8) → MD (d + 3) z_lookAt 226 [(0, vr 0), (1, vi t), (2, vi k), (3, vi s)] [] S2 z (Dv Fv) := by
    intro z S2 e f hz hR q
    have n15 := hR.1
    have sI' := sI n15
    have o := s2 (Or.inl (by omega))
    obtain ⟨ob1, ob2⟩ := obj n15 (by omega)
    obtain ⟨e71, l71, -⟩ := hM.2.1 _ ob2
    have ht1 := hol_t _ (show (M.2.1 (x.1 56 k.toNatClampNeg).toNatClampNeg).1 < 7 by omega) T hT
    rw [← e71, ← tT] at ht1
    have f56 : z.1 56 = x.1 56 := hz.1.2.1 56 (by decide) (by decide)
    have f71 : z.1 71 = x.1 71 := hz.1.2.1 71 (by decide) (by decide)
    refine sd_lookAt_226 _ _ _ ⟨kv, ?_⟩
    rw [f56, f71]
    exact ⟨by rw [vp_in_iff]; omega, fun c => p246 z S2 0 e f hz hR (fun _ => ⟨fun _ q => c (ht1.mpr (by rw [ob1] at q; exact q)), fun _ => rfl⟩), fun c => p246 z S2 1 e f hz hR (fun _ => ⟨fun q => absurd q (by decide), fun q => absurd (by rw [ob1]; exact ht1.mp c) q⟩)⟩
  have p200 : ∀ (z : gd) (S2 : gS), Z z S2 → ((∃ e f, R z e f) ∨ (¬ (z.1 0 89).toInt ≤ 0 ∧ lkQ z (lkM C w M T))) → MD (d + 3) z_lookAt 200 [(0, vr 0), (1, vi t), (2, vi k), (3, vi s)] [] S2 z (Dv Fv) := by
    intro z S2 hz hR
    refine sd_lookAt_200 _ _ _ ⟨hz.2.2.1.2.1, fun c => ?_, fun c => ?_⟩
    · rcases hR with ⟨e, f, hR⟩ | ⟨hR, -⟩
      · have n15 := hR.1
        have s6 := sE n15 6 (by omega)
        have s7 := sE n15 7 (by omega)
        have s8 := sE n15 8 (by omega)
        exact ⟨fun c => p226 z S2 e f hz hR (by have := s6.mp c; omega), fun n6 => ⟨fun c => p226 z S2 e f hz hR (by have := s7.mp c; omega), fun n7 => ⟨fun n8 => p246 z S2 0 e f hz hR (fun q => absurd q (fun q => q.elim (fun q => n6 (s6.mpr q)) (fun q => q.elim (fun q => n7 (s7.mpr q)) (fun q => n8 (s8.mpr q))))), fun c => p226 z S2 e f hz hR (by have := s8.mp c; omega)⟩⟩⟩
      · rw [t_le, k0] at c; exact absurd c hR
    · rcases hR with ⟨e, f, hR⟩ | ⟨hR, L⟩
      · rw [hR.2.2.1] at c; exact absurd (by decide) c
      · exact bad z S2 hz hR L
  have wk : ∀ (z : gd) (S2 : gS) (r : Int32) (Q : List gQ) (F9 : Int32 → gd → gS → Prop), Z z S2 → sQo st.2.1 (some Q) → SUm x r (Q.map (mQp st.2.1)) → (∀ v z2 S3, Z z2 S3 → S3 0 82 → md [82] [84] z z2 → wkM z2 (wkQ (M.2.2 T).2.2.2.2.2.2.2 (fun _ => 0) (Int32.ofNat T) Q) v → F9 v z2 S3) → MD (d + 2) z_worked 0 [(0, vr 0), (1, vi r), (2, vi t)] [] S2 z (Di F9) := by
    intro z S2 r Q F9 hz hq hs hF
    obtain ⟨q1, q2⟩ := hq Q rfl
    obtain ⟨pw, pm, p8⟩ := ns.2.2.2.2.1
    have f49 : z.1 0 49 = x.1 0 49 := hz.1.1 49 (by decide)
    refine ds_workedf (lv := (M.2.2 T).2.2.2.2.2.2.2) (cv := fun _ => 0) (SUm_f hs f49 (hz.1.2.1 51 (by decide) (by decide)) (hz.1.2.1 52 (by decide) (by decide))) (by rw [f49]; exact w6) q1 (fun p hp => ?_) (fun v z2 S3 m9 ss s82 hwk => hF v z2 S3 ?_ s82 m9 (by rw [tT] at hwk; exact hwk))
    · obtain ⟨b1, b2, b3⟩ := q2 p hp
      refine ⟨b1, fun c => ?_, fun c => absurd c b3⟩
      have pl := b2 c
      have sm := pm _ (slN_mem pl)
      have m8 : (8 * t).toInt = 8 * t.toInt := by rw [t_mul (by rw [k8]; omega) (by rw [k8]; omega), k8]
      have eo : (Int32.ofNat (slN st.2.1 p.2.1)).toInt = (slN st.2.1 p.2.1 : Nat) := Int32.toInt_ofNat_of_lt (by omega)
      have es : (8 * t + Int32.ofNat (slN st.2.1 p.2.1)).toInt = 8 * t.toInt + (slN st.2.1 p.2.1 : Nat) := by rw [t_add (by omega) (by omega), m8, eo]
      refine ⟨by rw [vp_in_iff, es]; omega, ?_⟩
      have ei : (8 * t + Int32.ofNat (slN st.2.1 p.2.1)).toNatClampNeg = 8 * T + slN st.2.1 p.2.1 := by rw [t_cl, es, tTi]; omega
      rw [ei, hz.1.2.1 76 (by decide) (by decide)]
      exact lv _ pl
    · have e88 : z2.1 0 88 = z.1 0 88 := m9.1 88 (by decide)
      exact ⟨md_tr hz.1 m9 rfl rfl, ssub_tr hz.2.1 ss, lkS_up ss hz.2.2.1, by rw [e88]; exact hz.2.2.2.1, by rw [e88]; exact hz.2.2.2.2⟩
  have Zf : ∀ (z : gd) (S2 : gS) (f : Nat) (v : Int32) (z2 : gd), (f = 89 ∨ f = 90 ∨ f = 91) → Z z S2 → z2 = si z 0 f v → Z z2 (sadd S2 0 f) := by
    intro z S2 f v z2 hf hz e2
    have m := md_f z f v
    rw [← e2] at m
    have e88 : z2.1 0 88 = z.1 0 88 := m.1 88 (by simp; omega)
    have m2 : md [89, 90, 91] [] z z2 := md_w m (fun i hi => by rw [List.mem_singleton.mp hi]; simp; omega) (fun i hi => nomatch hi)
    exact ⟨md_tr hz.1 m2 rfl rfl, ssub_tr hz.2.1 (ssub_ad _ _ _), lkS_up (ssub_ad _ _ _) hz.2.2.1, by rw [e88]; exact hz.2.2.2.1, by rw [e88]; exact hz.2.2.2.2⟩
  obtain ⟨eE, eeE⟩ : ∃ eE, eE = evO (M.2.2 T).2.2.2.2.2.2.2 (Int32.ofNat T) st.2.2.2.2.2.2.2.2.1 := ⟨_, rfl⟩
  obtain ⟨eF, eeF⟩ : ∃ eF, eF = evO (M.2.2 T).2.2.2.2.2.2.2 (Int32.ofNat T) st.2.2.2.2.2.2.2.2.2 := ⟨_, rfl⟩
  have p160 : ∀ (z : gd) (S2 : gS), Z z S2 → ¬ s = 15 → (lkI C M T).1 = 0 → z.1 0 88 = (lkI C M T).2 → z.1 0 91 = 0 → ((∃ e, eE = some e ∧ z.1 0 89 = 0 ∧ z.1 0 90 = e) ∨ (eE = none ∧ z.1 0 89 = 1)) → MD (d + 3) z_lookAt 160 [(0, vr 0), (1, vi t), (2, vi k), (3, vi s)] [] S2 z (Dv Fv) := by
    intro z S2 hz n15 i0 z88 z91 hE
    have f60 : z.1 60 = x.1 60 := hz.1.2.1 60 (by decide) (by decide)
    refine sd_lookAt_160 _ _ _ ⟨hz.2.2.1.2.1, fun c => ?_, fun c => ⟨kv, ?_⟩⟩
    · rcases hE with ⟨e, -, z89, -⟩ | ⟨e1, z89⟩
      · exact absurd z89 c
      · refine p200 z S2 hz (Or.inr ⟨by rw [z89]; decide, ?_⟩)
        rw [lkM_1 (w2 n15).1 i0 (by rw [esN, ← eeE]; exact e1)]
        exact ⟨z89, z88, fun z => nomatch z⟩
    · obtain ⟨e, e1, z89, z90⟩ : ∃ e, eE = some e ∧ z.1 0 89 = 0 ∧ z.1 0 90 = e := by
        rcases hE with h | ⟨-, h⟩
        · exact h
        · rw [h] at c; exact absurd c (by decide)
      have L3 : ∀ f, eF = some f → lkM C w M T = (rsF C w M T st.1 (lkI C M T).2.toNatClampNeg, (lkI C M T).2, e, f) := fun f hf => by
        rw [lkM_3 (w2 n15).1 i0 (by rw [esN, ← eeE]; exact e1) (by rw [esN, ← eeF]; exact hf), esN]
      rw [f60]
      rcases ev _ _ g60 with ⟨a1, a2⟩ | ⟨a1, Q, a2, a3⟩
      · refine ⟨fun _ => p200 z S2 hz (Or.inl ⟨e, 0, n15, z88, z89, z90, z91, L3 0 (by rw [eeF, a2]; rfl)⟩), fun ne => absurd a1 ne⟩
      · refine ⟨fun c => absurd c a1, fun _ => ⟨kv, wk z S2 _ Q _ hz (by rw [← a2]; exact ns.2.2.2.2.2.2.2.2.2.1) a3 (fun v z2 S3 hz2 s82 m9 hwk z4 e4 => ⟨Or.inr s82, fun z6 e6 => ?_⟩)⟩⟩
        have hz4 := Zf z2 _ 91 _ z4 (Or.inr (Or.inr rfl)) hz2 e4
        have hz6 := Zf z4 _ 89 _ z6 (Or.inl rfl) hz4 e6
        have m4 := md_f z2 91 v
        rw [← e4] at m4
        have m6 := md_f z4 89 (z4.1 0 82)
        rw [← e6] at m6
        have y88 : z6.1 0 88 = (lkI C M T).2 := by rw [m6.1 88 (by decide), m4.1 88 (by decide), m9.1 88 (by decide)]; exact z88
        have y90 : z6.1 0 90 = e := by rw [m6.1 90 (by decide), m4.1 90 (by decide), m9.1 90 (by decide)]; exact z90
        have y91 : z6.1 0 91 = v := by rw [m6.1 91 (by decide), e4, si_get, if_pos ⟨rfl, rfl⟩]
        have y89 : z6.1 0 89 = z2.1 0 82 := by rw [e6, si_get, if_pos ⟨rfl, rfl⟩, m4.1 82 (by decide)]
        rcases hwk with ⟨v9, b1, b2, b3⟩ | ⟨b1, b2⟩
        · exact p200 z6 _ hz6 (Or.inl ⟨e, v, n15, y88, by rw [y89]; exact b3, y90, y91, L3 v (by rw [eeF, a2, b2]; exact b1)⟩)
        · refine p200 z6 _ hz6 (Or.inr ⟨by rw [y89, b2]; decide, ?_⟩)
          rw [lkM_2 (w2 n15).1 i0 (by rw [esN, ← eeE]; exact e1) (by rw [esN, a2]; exact b1)]
          exact ⟨by rw [y89]; exact b2, y88, fun z => nomatch z⟩
  have p127 : ∀ (z : gd) (S2 : gS), Z z S2 → ¬ s = 15 → (lkI C M T).1 = 0 → z.1 0 88 = (lkI C M T).2 → z.1 0 89 = 0 → z.1 0 90 = 0 → z.1 0 91 = 0 → MD (d + 3) z_lookAt 127 [(0, vr 0), (1, vi t), (2, vi k), (3, vi s)] [] S2 z (Dv Fv) := by
    intro z S2 hz n15 i0 z88 z89 z90 z91
    have f59 : z.1 59 = x.1 59 := hz.1.2.1 59 (by decide) (by decide)
    refine sd_lookAt_127 _ _ _ ⟨kv, ?_⟩
    rw [f59]
    rcases ev _ _ g59 with ⟨a1, a2⟩ | ⟨a1, Q, a2, a3⟩
    · exact ⟨fun _ => p160 z S2 hz n15 i0 z88 z91 (Or.inl ⟨0, by rw [eeE, a2]; rfl, z89, z90⟩), fun ne => absurd a1 ne⟩
    · refine ⟨fun c => absurd c a1, fun _ => ⟨kv, wk z S2 _ Q _ hz (by rw [← a2]; exact ns.2.2.2.2.2.2.2.2.1) a3 (fun v z2 S3 hz2 s82 m9 hwk z4 e4 => ⟨Or.inr s82, fun z6 e6 => ?_⟩)⟩⟩
      have hz4 := Zf z2 _ 90 _ z4 (Or.inr (Or.inl rfl)) hz2 e4
      have hz6 := Zf z4 _ 89 _ z6 (Or.inl rfl) hz4 e6
      have m4 := md_f z2 90 v
      rw [← e4] at m4
      have m6 := md_f z4 89 (z4.1 0 82)
      rw [← e6] at m6
      have y88 : z6.1 0 88 = (lkI C M T).2 := by rw [m6.1 88 (by decide), m4.1 88 (by decide), m9.1 88 (by decide)]; exact z88
      have y91 : z6.1 0 91 = 0 := by rw [m6.1 91 (by decide), m4.1 91 (by decide), m9.1 91 (by decide)]; exact z91
      have y90 : z6.1 0 90 = v := by rw [m6.1 90 (by decide), e4, si_get, if_pos ⟨rfl, rfl⟩]
      have y89 : z6.1 0 89 = z2.1 0 82 := by rw [e6, si_get, if_pos ⟨rfl, rfl⟩, m4.1 82 (by decide)]
      refine p160 z6 _ hz6 n15 i0 y88 y91 ?_
      rcases hwk with ⟨v9, b1, b2, b3⟩ | ⟨b1, b2⟩
      · exact Or.inl ⟨v, by rw [eeE, a2, b2]; exact b1, by rw [y89]; exact b3, y90⟩
      · exact Or.inr ⟨by rw [eeE, a2]; exact b1, by rw [y89]; exact b2⟩
  refine sd_lookAt_0 _ ⟨ht, ds_sortOf t ht (by rw [← eT, ← ek]; exact kv) ?_⟩
  rw [← eT, ← es, ← ek]
  intro z4 e4
  refine ⟨kv, fun z6 e6 z7 e7 z8 e8 => ?_⟩
  have m4 := md_f x 89 0
  rw [← e4] at m4
  have f56 : z4.1 56 = x.1 56 := m4.2.1 56 (by decide) (by decide)
  rw [f56] at e6
  have m6 := md_f z4 88 (x.1 56 k.toNatClampNeg)
  rw [← e6] at m6
  have m7 := md_f z6 90 0
  rw [← e7] at m7
  have m8 := md_f z7 91 0
  rw [← e8] at m8
  have m : md [89, 88, 90, 91] [] x z8 := md_tr (md_tr (L3 := [89, 88, 90]) (A3 := []) (md_tr (L3 := [89, 88]) (A3 := []) m4 m6 rfl rfl) m7 rfl rfl) m8 rfl rfl
  have e88 : z8.1 0 88 = x.1 56 k.toNatClampNeg := by rw [m8.1 88 (by decide), m7.1 88 (by decide), e6, si_get, if_pos ⟨rfl, rfl⟩]
  have hz : Z z8 (sadd (sadd (sadd (sadd S 0 89) 0 88) 0 90) 0 91) := ⟨md_w m (by decide) (by decide), fun c j q => Or.inr (Or.inr (Or.inr (Or.inr q))), ⟨Or.inr (Or.inr (Or.inl ⟨rfl, rfl⟩)), Or.inr (Or.inr (Or.inr (Or.inl ⟨rfl, rfl⟩))), Or.inr (Or.inl ⟨rfl, rfl⟩), Or.inl ⟨rfl, rfl⟩⟩, fun q => by rw [e88]; exact ⟨(s1 q).2.1, (s1 q).2.2⟩, fun _ => e88⟩
  have f58 : z8.1 58 = x.1 58 := m.2.1 58 (by decide) (by decide)
  rw [f58]
  have e89 : z8.1 0 89 = 0 := by rw [m8.1 89 (by decide), m7.1 89 (by decide), m6.1 89 (by decide), e4, si_get, if_pos ⟨rfl, rfl⟩]
  have e90 : z8.1 0 90 = 0 := by rw [m8.1 90 (by decide), e7, si_get, if_pos ⟨rfl, rfl⟩]
  have e91 : z8.1 0 91 = 0 := by rw [e8, si_get, if_pos ⟨rfl, rfl⟩]
  refine ⟨fun n15 => ⟨kv, ?_⟩, fun e15 => ?_⟩
  rotate_left
  · refine good z8 _ hz (fun q => by rw [e15] at q; exact absurd q (by decide)) (fun q => by rw [e15] at q; exact absurd q (by decide)) ?_
    rw [lkM_15 (w15 e15), esN]
    exact ⟨e89, by rw [e88]; exact g56, fun _ => ⟨e90, e91⟩⟩
  rcases ev _ _ g58 with ⟨a1, a2⟩ | ⟨a1, Q, a2, a3⟩
  · have hI := lkI_n (C := C) (M := M) (t := T) (by rw [esN]; exact a2)
    rw [esN] at hI
    exact ⟨fun _ => p127 z8 _ hz n15 (by rw [hI]) (by rw [hI, e88]; exact g56) e89 e90 e91, fun ne => absurd a1 ne⟩
  have o4 := nx1 (by rw [a2]; exact fun z => nomatch z)
  have ss := sI n15
  have s04 : 0 ≤ s.toInt ∧ s.toInt ≤ 4 := by omega
  have a2' : (stN C (M.2.2 T).2.2.1).2.2.2.2.2.2.2.1 = some Q := by rw [esN]; exact a2
  obtain ⟨av1, av2, av3, av4⟩ := aV_acc av (by rw [g55, op_16 _ o16]; omega) (by rw [g55, op_16 _ o16]; omega)
  have av5 := av4.resolve_left a1
  have k1 : (1 : Int32).toInt = 1 := rfl
  have bnd : ∀ v : Int32, (0 ≤ v ∧ v ≤ x.1 57 k.toNatClampNeg - 1) ↔ ¬ (v < 0 ∨ st.2.2.2.2.2.1 ≤ v) := fun v => by
    rw [← g57, t_le, t_le, t_lt, t_le, k0, t_sub (by omega) (by omega), k1]
    omega
  refine ⟨fun c => absurd c a1, fun _ => ⟨kv, wk z8 _ _ Q _ hz (by rw [← a2]; exact ns.2.2.2.2.2.2.2.1) a3 (fun v z2 S3 hz2 s82 m9 hwk => ⟨s82, fun c82 => ⟨kv, ds_in _ _ _ ⟨fun c => ⟨kv, fun z3 e3 => ?_⟩, fun c z3 e3 z5 e5 => ?_⟩⟩, fun c82 z3 e3 z5 e5 => ?_⟩)⟩⟩
  · -- a place in a row
    have f56b : z2.1 56 = x.1 56 := hz2.1.2.1 56 (by decide) (by decide)
    have f57b : z2.1 57 = x.1 57 := hz2.1.2.1 57 (by decide) (by decide)
    have c9 := bi_ne.mp c
    rw [f57b] at c9
    have wv : wkQ (M.2.2 T).2.2.2.2.2.2.2 (fun _ => 0) (Int32.ofNat T) Q = some v := by
      rcases hwk with ⟨v9, b1, b2, b3⟩ | ⟨b1, b2⟩
      · rw [b2]; exact b1
      · rw [b2] at c82; exact absurd c82 (by decide)
    have hI := lkI_0 a2' wv (by rw [esN]; exact (bnd v).mp c9)
    rw [esN] at hI
    obtain ⟨c1, c2⟩ := c9
    rw [t_le] at c2
    rw [t_le, k0] at c1
    rw [f56b] at e3
    have m3 := md_f z2 88 (x.1 56 k.toNatClampNeg + v)
    rw [← e3] at m3
    have y88 : z3.1 0 88 = x.1 56 k.toNatClampNeg + v := by rw [e3, si_get, if_pos ⟨rfl, rfl⟩]
    refine p127 z3 _ ⟨md_tr hz2.1 m3 rfl rfl, ssub_tr hz2.2.1 (ssub_ad _ _ _), lkS_up (ssub_ad _ _ _) hz2.2.2.1, fun q => ?_, fun q => absurd (s2 q).2.2 a1⟩ n15 (by rw [hI]) (by rw [hI, y88, g56]) (by rw [m3.1 89 (by decide), m9.1 89 (by decide)]; exact e89) (by rw [m3.1 90 (by decide), m9.1 90 (by decide)]; exact e90) (by rw [m3.1 91 (by decide), m9.1 91 (by decide)]; exact e91)
    rw [t_sub (by omega) (by omega), k1] at c2
    rw [y88, t_add (by omega) (by omega)]
    omega
  · -- outside
    have f57b : z2.1 57 = x.1 57 := hz2.1.2.1 57 (by decide) (by decide)
    have wv : wkQ (M.2.2 T).2.2.2.2.2.2.2 (fun _ => 0) (Int32.ofNat T) Q = some v := by
      rcases hwk with ⟨v9, b1, b2, b3⟩ | ⟨b1, b2⟩
      · rw [b2]; exact b1
      · rw [b2] at c82; exact absurd c82 (by decide)
    have c9 : v < 0 ∨ st.2.2.2.2.2.1 ≤ v := Classical.byContradiction (fun n9 => by
      have := (bnd v).mpr n9
      rw [← f57b] at this
      exact bi_ne.mpr this c)
    have hI := lkI_2 a2' wv (by rw [esN]; exact c9)
    have m3 := md_f z2 89 2
    rw [← e3] at m3
    have m5 := md_f z3 88 (-1)
    rw [← e5] at m5
    have g88 : z5.1 0 88 = -1 := by rw [e5, si_get, if_pos ⟨rfl, rfl⟩]
    have g89 : z5.1 0 89 = 2 := by rw [m5.1 89 (by decide), e3, si_get, if_pos ⟨rfl, rfl⟩]
    refine Dv_i (h z5 _ (md_tr (md_tr (L3 := [82, 88, 89, 90, 91]) (A3 := [84]) hz2.1 m3 rfl rfl) m5 rfl rfl) (ssub_tr hz2.2.1 (ssub_tr (ssub_ad _ _ _) (ssub_ad _ _ _))) (lkS_up (ssub_tr (ssub_ad _ _ _) (ssub_ad _ _ _)) hz2.2.2.1) ⟨fun _ => Or.inl g88, fun q => absurd (s2 q).2.2 a1, fun q => ?_⟩ ?_)
    · rw [g89] at q
      exact absurd q (by decide)
    · rw [lkM_i (w2 n15).1 (by rw [hI]; exact fun z => nomatch z), hI]
      exact ⟨g89, g88, fun z => nomatch z⟩
  · have wv : wkQ (M.2.2 T).2.2.2.2.2.2.2 (fun _ => 0) (Int32.ofNat T) Q = none := by
      rcases hwk with ⟨v9, b1, b2, b3⟩ | ⟨b1, b2⟩
      · rw [b3] at c82; exact absurd (by decide) c82
      · exact b1
    have hI := lkI_1 a2' wv
    have m3 := md_f z2 89 1
    rw [← e3] at m3
    have m5 := md_f z3 88 (-1)
    rw [← e5] at m5
    have g88 : z5.1 0 88 = -1 := by rw [e5, si_get, if_pos ⟨rfl, rfl⟩]
    have g89 : z5.1 0 89 = 1 := by rw [m5.1 89 (by decide), e3, si_get, if_pos ⟨rfl, rfl⟩]
    refine Dv_i (h z5 _ (md_tr (md_tr (L3 := [82, 88, 89, 90, 91]) (A3 := [84]) hz2.1 m3 rfl rfl) m5 rfl rfl) (ssub_tr hz2.2.1 (ssub_tr (ssub_ad _ _ _) (ssub_ad _ _ _))) (lkS_up (ssub_tr (ssub_ad _ _ _) (ssub_ad _ _ _)) hz2.2.2.1) ⟨fun _ => Or.inl g88, fun q => absurd (s2 q).2.2 a1, fun q => ?_⟩ ?_)
    · rw [g89] at q
      exact absurd q (by decide)
    · rw [lkM_i (w2 n15).1 (by rw [hI]; exact fun z => nomatch z), hI]
      exact ⟨g89, g88, fun z => nomatch z⟩
end DLK
end
section
/-! the model: what stays of the machine while one thread goes on -/
section MTL
variable {C : gCo} {M E : gMa} {x y z : gd} {T t s : Nat} {h : gTq} {lv : Nat → Int32}
theorem kn_8 (hN : NC C) (s : Nat) : ∀ k ∈ (stN C s).2.1, k < 8 := fun k hk => by
  unfold stN at hk
  cases e : C.1[s]? with
  | none => rw [e] at hk; exact nomatch hk
  | some st =>
    rw [e] at hk
    obtain ⟨-, pm, p8⟩ := (hN.1 _ st e).2.2.2.2.1
    have hk : k ∈ st.2.1 := hk
    have := pm k hk
    omega
theorem mLt_eq {l : List (Nat × Int32)} (h : mLt x t l) (e80 : y.1 80 = x.1 80) (e81 : y.1 81 = x.1 81) (e82 : y.1 82 = x.1 82) : mLt y t l := by
  unfold mLt
  rw [e80, e81, e82]; exact h
/-- another thread's memory stays -/
theorem mTq_th (hN : NC C) (hz : th3 T x z) (ne : ¬ t = T) (q : mTq x C t h) : mTq z C t h := by
  obtain ⟨a1, a2, a3, a4, a5, a6, a7, a8, a9, b1, b2⟩ := q
  have f := fun c hc => hz.2.1 c t hc ne
  have g : ∀ n, n < 8 → z.1 76 (8 * t + n) = x.1 76 (8 * t + n) := fun n hn => hz.2.2 _ (by omega)
  refine ⟨by rw [f 73 (by omega)]; exact a1, a2, by rw [f 75 (by omega)]; exact a3, by rw [f 74 (by omega)]; exact a4, by rw [f 77 (by omega)]; exact a5, a6, by rw [f 78 (by omega)]; exact a7, by rw [hz.1.2.1 79 (by decide) (by decide)]; exact a8, mLt_eq a9 (hz.1.2.1 80 (by decide) (by decide)) (hz.1.2.1 81 (by decide) (by decide)) (hz.1.2.1 82 (by decide) (by decide)), fun c p hp => ?_, fun k hk c => ?_⟩
  · rw [g _ (kn_8 hN _ _ (slN_mem hp))]; exact b1 c p hp
  · rw [g k hk]; exact b2 k hk c
/-- a thread's memory behind its own steps -/
theorem mTq_own (o : owM z C T (owR C (Int32.ofNat T) s lv)) (z77 : z.1 77 T = 0) (z78 : z.1 78 T = 0) (h3 : h.2.2.2.1 = 0) (h4 : h.2.2.2.2.1 = 0) (h5 : z.1 79 T = h.2.2.2.2.2.1) (h6 : mLt z T h.2.2.2.2.2.2.1) : mTq z C T (thN C T h s lv) := by
  obtain ⟨o1, o2, o3, o4, ⟨o5, o6⟩, -⟩ := o
  refine ⟨o1, ?_, o3, o4, ?_, ?_, ?_, h5, h6, fun c p hp => ?_, o6⟩
  · show (owR C (Int32.ofNat T) s lv).1 ≤ 3
    omega
  · show z.1 77 T = Int32.ofNat h.2.2.2.1
    rw [h3, z77]; rfl
  · show h.2.2.2.1 ≤ 2
    omega
  · show z.1 78 T = h.2.2.2.2.1
    rw [h4, z78]
  · show z.1 76 _ = kvL C _ _ _ p
    unfold kvL
    rw [if_pos ⟨c, hp⟩]
    exact o5 c p hp
/-- cells and locks stay -/
def MMc (y : gd) (M : gMa) : Prop := (∀ c, c < 24 → y.1 70 c = M.1 c) ∧ ∀ l, l < 6 → y.1 71 l = Int32.ofNat (M.2.1 l).1 - 1 ∧ (M.2.1 l).1 ≤ 6 ∧ y.1 72 l = (M.2.1 l).2
theorem MMc_eq (h : MMc x M) (e0 : y.1 70 = x.1 70) (e1 : y.1 71 = x.1 71) (e2 : y.1 72 = x.1 72) : MMc y M := by
  unfold MMc
  rw [e0, e1, e2]; exact h
theorem MMc_th (h : MMc x M) (hz : th3 T x z) : MMc z M := MMc_eq h (hz.1.2.1 70 (by decide) (by decide)) (hz.1.2.1 71 (by decide) (by decide)) (hz.1.2.1 72 (by decide) (by decide))
theorem upf_eq {α : Type} {f : Nat → α} {j : Nat} {v : α} : upf f j v j = v := if_pos rfl
theorem upf_ne {α : Type} {f : Nat → α} {i j : Nat} {v : α} (h : ¬ i = j) : upf f j v i = f i := if_neg h
theorem MK_th3 (h : MK x C) (hz : th3 T x z) : MK z C := MK_md hz.1 rfl rfl h
end MTL
section DTL
variable {d : Nat} {S : gS} {x y : gd} {F : Int32 → gd → gS → Prop} {Fv : gd → gS → Prop} {C : gCo} {E : gMa}
/-- the end of an act: the thread goes on; then one that was started -/
theorem ds_act695 (t c s : Int32) (ht : vp_in t 6) {T K : Nat} (eT : T = t.toNatClampNeg) (cp : CP y) (hK : MK y C) (hN : NC C) (y73 : y.1 73 T = 1) (y74 : (y.1 74 T).toInt = (K : Nat)) (K2 : (K : Int) + 1 < (y.1 0 52).toInt ∧ (y.1 0 52).toInt ≤ 1500) (yq : q0 y T) {lv : Nat → Int32} (hlv : ∀ p, p < (stN C (K + 1)).2.1.length → y.1 76 (8 * T + slN (stN C (K + 1)).2.1 p) = lv p) (mc : MMc y E) (mT : ∀ t' : Nat, t' < 6 → ¬ t' = T → (s = 9 → ¬ t' = c.toNatClampNeg) → mTq y C t' (E.2.2 t')) (e3 : (E.2.2 T).2.2.2.1 = 0) (e4 : (E.2.2 T).2.2.2.2.1 = 0) (e5 : y.1 79 T = (E.2.2 T).2.2.2.2.2.1) (e6 : mLt y T (E.2.2 T).2.2.2.2.2.2.1)
    (hc : s = 9 → vp_in c 6 ∧ ¬ c.toNatClampNeg = T ∧ y.1 73 c.toNatClampNeg = 1 ∧ q0 y c.toNatClampNeg ∧ ∃ (h : gTq) (b : Nat) (lc : Nat → Int32), E.2.2 c.toNatClampNeg = thN C c.toNatClampNeg h b lc ∧ (y.1 74 c.toNatClampNeg).toInt = (b : Nat) ∧ b < C.1.length ∧ (∀ p, p < (stN C b).2.1.length → y.1 76 (8 * c.toNatClampNeg + slN (stN C b).2.1 p) = lc p) ∧ h.2.2.2.1 = 0 ∧ h.2.2.2.2.1 = 0 ∧ y.1 79 c.toNatClampNeg = h.2.2.2.2.2.1 ∧ mLt y c.toNatClampNeg h.2.2.2.2.2.2.1)
    (rt : ∀ t' : Nat, t' < 6 → ¬ t' = T → (s = 9 → ¬ t' = c.toNatClampNeg) → rT y S t') (rlT : rl y S T) (rlc : s = 9 → rl y S c.toNatClampNeg)
    (h : ∀ x' S', RI x' S' → ssub S S' → md hL hA y x' → MM1 x' C (upT E T (thN C T (E.2.2 T) (K + 1) lv)) → Fv x' S') : MD (d + 4) z_doAct 695 [(0, vr 0), (1, vi t), (4, vi s), (5, vi c)] [] S y (Dv Fv) := by
  have k1 : (1 : Int32).toInt = 1 := rfl
  have T6 : T < 6 := by rw [eT]; exact vt ht
  have l52 : (y.1 0 52).toInt = C.1.length := hK.1.1
  refine sd_doAct_695 _ _ _ ⟨ht, ht, fun y3' e3' => ?_⟩
  rw [← eT] at e3'
  have ki : (y.1 74 T + 1).toInt = (K + 1 : Nat) := by
    rw [t_add (by omega) (by omega), k1, y74]; omega
  have kc : (y.1 74 T + 1).toNatClampNeg = K + 1 := by rw [t_cl, ki]; rfl
  have t3 : th3 T y y3' := by rw [e3']; exact th3_si (by decide) _ _
  have a3 : y3'.1 74 T = y.1 74 T + 1 := by rw [e3', si_get, if_pos ⟨rfl, rfl⟩]
  have b73 : y3'.1 73 = y.1 73 := by rw [e3', si_cell (by decide)]
  have b76 : y3'.1 76 = y.1 76 := by rw [e3', si_cell (by decide)]
  have b52 : y3'.1 0 52 = y.1 0 52 := by rw [e3', si_cell (by decide)]
  have bq : q0 y3' T := by rw [e3']; exact q0_si (by decide) yq
  obtain ⟨st1, hst1⟩ : ∃ st1, C.1[K + 1]? = some st1 := ⟨_, List.getElem?_eq_getElem (by omega)⟩
  rw [stN_is hst1] at hlv
  refine ds_own3 t ht (CP_th (th3_th t3) cp) (by rw [← eT, a3, ki]; omega) (fun _ => by rw [← eT, a3, b52, ki]; omega) (by rw [← eT]; exact bq) (MK_th3 hK t3) hN (by rw [← eT, b73]; exact y73) (st0 := st1) (lv0 := lv) (by rw [← eT, a3, kc]; exact hst1) (fun p hp => by rw [← eT, b76]; exact hlv p hp) (fun z S2 tz sz raz w9 z78 ow => ?_)
  rw [← eT] at tz raz w9 z78 ow
  rw [a3, kc] at ow
  have ty : th3 T y z := th3_tr t3 tz
  have rtz : ∀ t' : Nat, t' < 6 → (s = 9 → ¬ t' = c.toNatClampNeg) → rT z S2 t' := by
    intro t' ht' hc'
    by_cases q : t' = T
    · rw [q]; exact ⟨raz, Or.inl w9, rl_th (th3_th ty) sz rlT⟩
    · exact rT_th (th3_th ty) sz q (rt t' ht' q hc')
  have mz : mTq z C T (thN C T (E.2.2 T) (K + 1) lv) := mTq_own ow w9 z78 e3 e4 (by rw [ty.1.2.1 79 (by decide) (by decide)]; exact e5) (mLt_eq e6 (ty.1.2.1 80 (by decide) (by decide)) (ty.1.2.1 81 (by decide) (by decide)) (ty.1.2.1 82 (by decide) (by decide)))
  have mo : ∀ t' : Nat, t' < 6 → ¬ t' = T → (s = 9 → ¬ t' = c.toNatClampNeg) → mTq z C t' (E.2.2 t') := fun t' ht' ne hc' => mTq_th hN ty ne (mT t' ht' ne hc')
  refine ⟨fun n9 => Dv_i (h z S2 ⟨CP_th (th3_th ty) cp, fun t' ht' => rtz t' ht' (fun q => absurd q n9)⟩ sz ty.1 ⟨(MMc_th mc ty).1, (MMc_th mc ty).2, fun t' ht' => ?_⟩), fun e9 => ?_⟩
  · show mTq z C t' (upf E.2.2 T _ t')
    by_cases q : t' = T
    · rw [q, upf_eq]; exact mz
    · rw [upf_ne q]; exact mo t' ht' q (fun z => absurd z n9)
  obtain ⟨c1, c2, c3, c4, hh, b, lc, g1, g2, g3, g4, g5, g6, g7, g8⟩ := hc e9
  obtain ⟨N, eN⟩ : ∃ N, N = c.toNatClampNeg := ⟨_, rfl⟩
  rw [← eN] at c2 c3 c4 g1 g2 g4 g7 g8
  have N6 : N < 6 := by rw [eN]; exact vt c1
  have f := fun q hq => ty.2.1 q N hq c2
  obtain ⟨stb, hstb⟩ : ∃ stb, C.1[b]? = some stb := ⟨_, List.getElem?_eq_getElem g3⟩
  have es := stN_is hstb
  have z74 : z.1 74 N = y.1 74 N := f 74 (by omega)
  have bc : (z.1 74 N).toNatClampNeg = b := by rw [z74, t_cl, g2]; rfl
  refine ds_own3 c c1 (CP_th (th3_th ty) cp) (by rw [← eN, z74, g2]; omega) (fun _ => by rw [← eN, z74, g2, ty.1.1 52 (by decide)]; omega) (by rw [← eN]; unfold q0; rw [f 77 (by omega), f 78 (by omega), f 75 (by omega)]; exact c4) (MK_th3 hK ty) hN (by rw [← eN, f 73 (by omega)]; exact c3) (st0 := stb) (lv0 := lc) (by rw [← eN, bc]; exact hstb) (fun p hp => ?_) (fun u S3 tu su rau wu u78 ou => ?_)
  · have hp' : p < (stN C b).2.1.length := by rw [es]; exact hp
    have k8 := kn_8 hN b _ (slN_mem hp')
    have g4' := g4 p hp'
    rw [es] at k8 g4'
    rw [← eN, ty.2.2 _ (by omega)]
    exact g4'
  rw [← eN] at tu rau wu u78 ou
  rw [bc] at ou
  refine Dv_i (h u S3 ⟨CP_th (th3_th tu) (CP_th (th3_th ty) cp), fun t' ht' => ?_⟩ (ssub_tr sz su) (md_tr ty.1 tu.1 rfl rfl) ⟨(MMc_th (MMc_th mc ty) tu).1, (MMc_th (MMc_th mc ty) tu).2, fun t' ht' => ?_⟩)
  · by_cases q : t' = N
    · rw [q]; exact ⟨rau, Or.inl wu, rl_th (th3_th tu) su (rl_th (th3_th ty) sz (by rw [eN]; exact rlc e9))⟩
    · exact rT_th (th3_th tu) su q (rtz t' ht' (fun _ => by rw [← eN]; exact q))
  · show mTq u C t' (upf E.2.2 T _ t')
    by_cases q : t' = T
    · rw [q, upf_eq]
      exact mTq_th hN tu (fun z => c2 z.symm) mz
    · rw [upf_ne q]
      by_cases q2 : t' = N
      · rw [q2, g1]
        exact mTq_own ou wu u78 g5 g6 (by rw [tu.1.2.1 79 (by decide) (by decide), ty.1.2.1 79 (by decide) (by decide)]; exact g7) (mLt_eq g8 (by rw [tu.1.2.1 80 (by decide) (by decide), ty.1.2.1 80 (by decide) (by decide)]) (by rw [tu.1.2.1 81 (by decide) (by decide), ty.1.2.1 81 (by decide) (by decide)]) (by rw [tu.1.2.1 82 (by decide) (by decide), ty.1.2.1 82 (by decide) (by decide)]))
      · exact mTq_th hN tu q2 (mo t' ht' q (fun _ => by rw [← eN]; exact q2))
end DTL
end
section
/-! the model: what an act answers is kept; the thread goes on -/
section DAC
variable {d : Nat} {S : gS} {x y : gd} {F : Int32 → gd → gS → Prop} {Fv : gd → gS → Prop} {C : gCo} {E : gMa}
/-- the slot that an act sets, and the others -/
theorem aft_slot (hN : NC C) {K p : Nat} {st : gNs} (hst : C.1[K]? = some st) (o4 : st.1 = 0 ∨ (2 ≤ st.1 ∧ st.1 ≤ 4)) (hto : st.2.2.2.1 = some p) : (aftN st).Pairwise (fun a b => b < a) ∧ (∀ s ∈ aftN st, s < 8) ∧ p < (aftN st).length ∧ mNt st = Int32.ofNat (slN (aftN st) p) ∧ ∀ j, j < (aftN st).length → ¬ j = p → j < st.2.1.length ∧ slN (aftN st) j = slN st.2.1 j := by
  have ns := hN.1 _ st hst
  obtain ⟨p', hto', hp⟩ := ns.2.2.2.1 (by omega)
  rw [hto] at hto'
  have ep := Option.some.inj hto'
  rw [← ep] at hp
  obtain ⟨pw, pm, p8⟩ := ns.2.2.2.2.1
  have h61' : mNt st = Int32.ofNat (if p = st.2.1.length then st.2.2.1 else slN st.2.1 p) := by
    unfold mNt
    rw [hto]
    show (if st.1 = 17 ∨ st.1 = 20 then _ else Int32.ofNat (if p = st.2.1.length then st.2.2.1 else slN st.2.1 p)) = _
    rw [if_neg (by omega)]
  rcases hp with hp | ⟨hp, hp8⟩
  · have ea : aftN st = st.2.1 := if_neg (fun z => by rw [hto] at z; have := Option.some.inj z.2; omega)
    rw [ea]
    exact ⟨pw, fun s hs => by have := pm s hs; omega, hp, by rw [h61', if_neg (by omega)], fun j hj _ => ⟨hj, rfl⟩⟩
  · have ea : aftN st = st.2.2.1 :: st.2.1 := if_pos ⟨by omega, by rw [hto, hp]⟩
    rw [ea]
    refine ⟨List.Pairwise.cons pm pw, fun s hs => ?_, by rw [hp]; exact Nat.lt_succ_self _, ?_, fun j hj hne => ?_⟩
    · rcases List.mem_cons.mp hs with e | hs
      · rw [e]; exact hp8
      · have := pm s hs; omega
    · rw [h61', if_pos hp]
      show _ = Int32.ofNat (if p = st.2.1.length then st.2.2.1 else slN st.2.1 p)
      rw [if_pos hp]
    · have hj : j < st.2.1.length + 1 := hj
      refine ⟨by omega, ?_⟩
      show (if j = st.2.1.length then st.2.2.1 else slN st.2.1 j) = _
      rw [if_neg (by omega)]
theorem ds_act667 (t k c s v : Int32) (ht : vp_in t 6) {T K : Nat} (eT : T = t.toNatClampNeg) (eK : k.toInt = (K : Nat)) (cp : CP y) (hK : MK y C) (hN : NC C) (hX : NXc C) {st : gNs} (hst : C.1[K]? = some st) (o16 : st.1 < 16) (K2 : (K : Int) + 1 < (y.1 0 52).toInt ∧ (y.1 0 52).toInt ≤ 1500) (mc : MMc y E) (mT : ∀ t' : Nat, t' < 6 → (s = 9 → ¬ t' = c.toNatClampNeg) → mTq y C t' (E.2.2 t')) (cT : s = 9 → ¬ c.toNatClampNeg = T) (e0 : (E.2.2 T).1 = 1) (e1 : (E.2.2 T).2.1 = 0) (e2 : (E.2.2 T).2.2.1 = K) (e3 : (E.2.2 T).2.2.2.1 = 0) (e4 : (E.2.2 T).2.2.2.2.1 = 0)
    (hc : s = 9 → vp_in c 6 ∧ y.1 73 c.toNatClampNeg = 1 ∧ q0 y c.toNatClampNeg ∧ ∃ (h : gTq) (b : Nat) (lc : Nat → Int32), E.2.2 c.toNatClampNeg = thN C c.toNatClampNeg h b lc ∧ (y.1 74 c.toNatClampNeg).toInt = (b : Nat) ∧ b < C.1.length ∧ (∀ p, p < (stN C b).2.1.length → y.1 76 (8 * c.toNatClampNeg + slN (stN C b).2.1 p) = lc p) ∧ h.2.2.2.1 = 0 ∧ h.2.2.2.2.1 = 0 ∧ y.1 79 c.toNatClampNeg = h.2.2.2.2.2.1 ∧ mLt y c.toNatClampNeg h.2.2.2.2.2.2.1)
    (rt : ∀ t' : Nat, t' < 6 → (s = 9 → ¬ t' = c.toNatClampNeg) → rT y S t') (rlc : s = 9 → rl y S c.toNatClampNeg)
    (h : ∀ x' S', RI x' S' → ssub S S' → md hL hA y x' → MM1 x' C (upT E T (thN C T (E.2.2 T) (K + 1) (toV st (E.2.2 T).2.2.2.2.2.2.2 v))) → Fv x' S') : MD (d + 4) z_doAct 667 [(0, vr 0), (1, vi t), (3, vi k), (4, vi s), (5, vi c), (6, vi v)] [] S y (Dv Fv) := by
  have k8 : (8 : Int32).toInt = 8 := rfl
  have tv := vp_in_iff.mp ht
  have T6 : T < 6 := by rw [eT]; exact vt ht
  have tTi : t.toInt = (T : Nat) := by rw [eT, t_cl]; omega
  have kK : k.toNatClampNeg = K := by rw [t_cl, eK]; rfl
  have kv : vp_in k 1500 := by rw [vp_in_iff]; omega
  have cT' : s = 9 → ¬ T = c.toNatClampNeg := fun z q => cT z q.symm
  obtain ⟨a1, a2, a3, a4, a5, a6, a7, a8, a9, b1, b2⟩ := mT T T6 cT'
  rw [e0] at a1
  rw [e1] at a3
  rw [e2] at a4
  rw [e3] at a5
  rw [e4] at a7
  rw [e0, e2] at b1
  have b1 := b1 (Or.inl rfl)
  rw [stN_is hst] at b1
  have ns := hN.1 _ st hst
  obtain ⟨-, -, -, -, -, -, -, g61, -⟩ := hK.1.2 _ st hst
  obtain ⟨-, -, -, -, nx6, -⟩ := hX _ st hst
  obtain ⟨st1, hst1, hsf⟩ := ns.2.1 (by omega)
  have es1 := stN_is hst1
  have fin : ∀ z : gd, th3 T y z → z.1 73 = y.1 73 → z.1 74 = y.1 74 → z.1 75 = y.1 75 → z.1 77 = y.1 77 → z.1 78 = y.1 78 → (∀ p, p < (aftN st).length → z.1 76 (8 * T + slN (aftN st) p) = toV st (E.2.2 T).2.2.2.2.2.2.2 v p) → MD (d + 4) z_doAct 695 [(0, vr 0), (1, vi t), (4, vi s), (5, vi c)] [] S z (Dv Fv) := by
    intro z tz f73 f74 f75 f77 f78 hl
    have f := fun q (h0 : q ≠ 0) hq => tz.1.2.1 q h0 hq
    have f52 : z.1 0 52 = y.1 0 52 := tz.1.1 52 (by decide)
    have lt : ∀ {n : Nat} {l : List (Nat × Int32)}, mLt y n l → mLt z n l := fun q => mLt_eq q (f 80 (by decide) (by decide)) (f 81 (by decide) (by decide)) (f 82 (by decide) (by decide))
    refine ds_act695 t c s ht eT (CP_th (th3_th tz) cp) (MK_th3 hK tz) hN (by rw [f73]; exact a1) (by rw [f74]; exact a4) (by rw [f52]; exact K2) (by unfold q0; rw [f77, f78, f75]; exact ⟨a5, a7, a3⟩) (fun p hp => ?_) (MMc_th mc tz) (fun t' ht' ne hc' => mTq_th hN tz ne (mT t' ht' hc')) e3 e4 (by rw [f 79 (by decide) (by decide)]; exact a8) (lt a9) (fun e9 => ?_) (fun t' ht' ne hc' => rT_th (th3_th tz) (ssub_rf _) ne (rt t' ht' hc')) (rl_th (th3_th tz) (ssub_rf _) (rt T T6 cT').2.2) (fun e9 => rl_th (th3_th tz) (ssub_rf _) (rlc e9)) (fun x' S' r ss m mm => h x' S' r ss (md_tr tz.1 m rfl rfl) mm)
    · rw [es1] at hp ⊢
      rw [slN_suf hsf hp]
      exact hl p (by have := hsf.length_le; omega)
    · obtain ⟨c1, c3, c4, hh, b, lc, g1, g2, g3, g4, g5, g6, g7, g8⟩ := hc e9
      refine ⟨c1, cT e9, by rw [f73]; exact c3, by unfold q0; rw [f77, f78, f75]; exact c4, hh, b, lc, g1, by rw [f74]; exact g2, g3, fun p hp => ?_, g5, g6, by rw [f 79 (by decide) (by decide)]; exact g7, lt g8⟩
      have q8 := kn_8 hN b _ (slN_mem hp)
      have cne := cT e9
      rw [tz.2.2 _ (by omega)]
      exact g4 p hp
  rw [← kK] at g61
  refine sd_doAct_667 _ _ _ _ _ ⟨kv, ?_⟩
  rw [g61]
  cases hto : st.2.2.2.1 with
  | none =>
    have em : mNt st = -1 := by unfold mNt; rw [hto]
    have ea : aftN st = st.2.1 := if_neg (fun z => by rw [hto] at z; exact nomatch z.2)
    rw [em]
    refine ⟨fun _ => fin y (th3_rf T y) rfl rfl rfl rfl rfl (fun p hp => ?_), fun ne => absurd rfl ne⟩
    rw [ea] at hp ⊢
    unfold toV
    rw [hto]
    exact b1 p hp
  | some p =>
    have o4 : st.1 = 0 ∨ (2 ≤ st.1 ∧ st.1 ≤ 4) := Classical.byContradiction (fun n4 => by
      rw [nx6 (by omega)] at hto
      exact nomatch hto)
    obtain ⟨apw, ap8, app, ap61, apj⟩ := aft_slot hN hst o4 hto
    have sl8 := ap8 _ (slN_mem app)
    have eo : (Int32.ofNat (slN (aftN st) p)).toInt = (slN (aftN st) p : Nat) := Int32.toInt_ofNat_of_lt (by omega)
    have m8 : (8 * t).toInt = 8 * t.toInt := by rw [t_mul (by rw [k8]; omega) (by rw [k8]; omega), k8]
    have ei : (8 * t + Int32.ofNat (slN (aftN st) p)).toInt = 8 * t.toInt + (slN (aftN st) p : Nat) := by rw [t_add (by omega) (by omega), m8, eo]
    have ei' : (8 * t + Int32.ofNat (slN (aftN st) p)).toNatClampNeg = 8 * T + slN (aftN st) p := by rw [t_cl, ei, tTi]; omega
    rw [ap61]
    refine ⟨fun q => ?_, fun ne => ⟨kv, by rw [vp_in_iff, ei]; omega, fun z ez => ?_⟩⟩
    · rw [t_eq, eo, show (-1 : Int32).toInt = -1 from rfl] at q
      omega
    · rw [ei'] at ez
      have tz : th3 T y z := by rw [ez]; exact th3_76 (by omega) _ _
      refine fin z tz (by rw [ez, si_cell (by decide)]) (by rw [ez, si_cell (by decide)]) (by rw [ez, si_cell (by decide)]) (by rw [ez, si_cell (by decide)]) (by rw [ez, si_cell (by decide)]) (fun j hj => ?_)
      unfold toV
      rw [hto, ez, si_get]
      show _ = fup _ p v j
      unfold fup
      by_cases c9 : j = p
      · rw [c9, if_pos ⟨rfl, rfl⟩, if_pos rfl]
      · obtain ⟨j1', j2'⟩ := apj j hj c9
        rw [if_neg (fun z => c9 (slN_inj apw hj app (by have := z.2; omega))), if_neg c9, j2']
        exact b1 j j1'
end DAC
end
section
/-! the machine: small rows; the model's see -/
section PAC
variable {C : gCo} {M : gMa} {w t s c : Nat} {e f : Int32} {wk : Option Nat}
theorem lkI_le : (lkI C M t).1 ≤ 2 := by
  unfold lkI
  split
  · exact Nat.zero_le _
  · split
    · show 1 ≤ 2
      omega
    · split
      · show 2 ≤ 2
        omega
      · exact Nat.zero_le _
theorem rsF_le : rsF C w M t s c ≤ 9 := by
  unfold rsF
  (repeat' split) <;> omega
theorem lkM_le : (lkM C w M t).1 ≤ 9 := by
  unfold lkM
  split
  · exact Nat.zero_le _
  · split
    · show (lkI C M t).1 ≤ 9
      have := lkI_le (C := C) (M := M) (t := t)
      omega
    · split
      · show 1 ≤ 9
        omega
      · split
        · show 1 ≤ 9
          omega
        · exact rsF_le
theorem ef_0 : efM C w M t 0 c e f wk = (M, seM M t c) := by unfold efM; rfl
theorem ef_1 : efM C w M t 1 c e f wk = if w = 0 ∨ suM C c = true then (upC M c e, 0) else (upT M t ((M.2.2 t).1, (M.2.2 t).2.1, (M.2.2 t).2.2.1, (M.2.2 t).2.2.2.1, (M.2.2 t).2.2.2.2.1, (M.2.2 t).2.2.2.2.2.1, (M.2.2 t).2.2.2.2.2.2.1 ++ [(c, e)], (M.2.2 t).2.2.2.2.2.2.2), 0) := by unfold efM; rfl
theorem ef_2 : efM C w M t 2 c e f wk = (upC M c e, M.1 c) := by unfold efM; rfl
theorem ef_3 : efM C w M t 3 c e f wk = (upC M c (M.1 c + e), M.1 c) := by unfold efM; rfl
theorem ef_4 : efM C w M t 4 c e f wk = (upC M c (if M.1 c = e then f else M.1 c), if M.1 c = e then 1 else 0) := by unfold efM; rfl
theorem ef_5 : efM C w M t 5 c e f wk = (upL M c (t + 1, (M.2.1 c).2 + 1), 0) := by unfold efM; rfl
theorem ef_6 : efM C w M t 6 c e f wk = (upL M c (if (M.2.1 c).2 - 1 = 0 then 0 else t + 1, (M.2.1 c).2 - 1), 0) := by unfold efM; rfl
theorem ef_7 : efM C w M t 7 c e f wk = (upT (upL M c (0, 0)) t ((M.2.2 t).1, (M.2.2 t).2.1, (M.2.2 t).2.2.1, 1, (M.2.1 c).2, (M.2.2 t).2.2.2.2.2), 0) := by unfold efM; rfl
theorem ef_13 : efM C w M t 13 c e f wk = (upT M t ((M.2.2 t).1, (M.2.2 t).2.1, (M.2.2 t).2.2.1, (M.2.2 t).2.2.2.1, (M.2.2 t).2.2.2.2.1, (stN C (M.2.2 t).2.2.1).2.2.2.2.1, (M.2.2 t).2.2.2.2.2.2), 0) := by unfold efM; rfl
theorem ef_14 : efM C w M t 14 c e f wk = (upT M t ((M.2.2 t).1, (M.2.2 t).2.1, (M.2.2 t).2.2.1, (M.2.2 t).2.2.2.1, (M.2.2 t).2.2.2.2.1, -1, (M.2.2 t).2.2.2.2.2.2), 0) := by unfold efM; rfl
theorem ef_15 : efM C w M t 15 c e f wk = (upT (upL M c (t + 1, (M.2.2 t).2.2.2.2.1)) t ((M.2.2 t).1, (M.2.2 t).2.1, (M.2.2 t).2.2.1, 0, 0, (M.2.2 t).2.2.2.2.2), 0) := by unfold efM; rfl
theorem ef_o (h : s = 10 ∨ s = 11 ∨ s = 12) : efM C w M t s c e f wk = (M, 0) := by
  rcases h with h | h | h <;> rw [h] <;> unfold efM <;> rfl
theorem acM_F (h : ¬ (lkM C w M t).1 = 0) : acM C w M t wk = upT M t (thF (M.2.2 t) (lkM C w M t).1) := by
  unfold acM
  rw [if_pos h]
theorem acM_7 (h : (lkM C w M t).1 = 0) (h7 : soM C (M.2.2 t) = 7) : acM C w M t wk = (efM C w M t 7 (lkM C w M t).2.1.toNatClampNeg 0 0 wk).1 := by
  unfold acM
  rw [if_neg (fun z => z h), if_pos h7]
theorem acM_is {E : gMa} {v : Int32} (h : (lkM C w M t).1 = 0) (h7 : ¬ soM C (M.2.2 t) = 7) (e9 : efM C w M t (soM C (M.2.2 t)) (lkM C w M t).2.1.toNatClampNeg (lkM C w M t).2.2.1 (lkM C w M t).2.2.2 wk = (E, v)) : acM C w M t wk = upT E t (thN C t (E.2.2 t) ((M.2.2 t).2.2.1 + 1) (toV (stN C (M.2.2 t).2.2.1) (M.2.2 t).2.2.2.2.2.2.2 v)) := by
  unfold acM
  rw [if_neg (fun z => z h), if_neg h7, e9]
end PAC
section DSE
variable {d : Nat} {S : gS} {x y : gd} {F : Int32 → gd → gS → Prop} {Fv : gd → gS → Prop} {C : gCo} {M : gMa}
theorem ds_see3 (t c : Int32) (ht : vp_in t 6) (hc : vp_in c 24) (q : rl x S t.toNatClampNeg) {l : List (Nat × Int32)} (hl : mLt x t.toNatClampNeg l) (h : F (seL l c.toNatClampNeg (x.1 70 c.toNatClampNeg)) x S) : MD d z_see 0 [(0, vr 0), (1, vi t), (2, vi c)] [] S x (Di F) := by
  have k1 : (1 : Int32).toInt = 1 := rfl
  obtain ⟨l1, l2⟩ := hl
  have q8 := q.2.1
  have cb := vp_in_iff.mp hc
  have cc := cl_i cb.1
  obtain ⟨R, eR⟩ : ∃ R, R = seL l c.toNatClampNeg (x.1 70 c.toNatClampNeg) := ⟨_, rfl⟩
  rw [← eR] at h
  have loop : ∀ (n : Nat) (v i : Int32), 0 ≤ i.toInt → (x.1 80 t.toNatClampNeg).toInt - i.toInt ≤ n → seL (l.drop i.toInt.toNat) c.toNatClampNeg v = R → MD d z_see 10 [(0, vr 0), (1, vi t), (2, vi c), (3, vi v), (4, vi i)] [] S x (Di F) := by
    have fin : ∀ (v i : Int32), (x.1 80 t.toNatClampNeg).toInt ≤ i.toInt → seL (l.drop i.toInt.toNat) c.toNatClampNeg v = R → Di F (some (vi v)) x S := fun v i hi hs => by
      rw [List.drop_eq_nil_of_le (by omega)] at hs
      have hs : v = R := hs
      rw [hs]
      exact Di_i h
    intro n
    induction n with
    | zero =>
      intro v i i0 hi hs
      exact sd_see_10 _ _ _ _ ⟨ht, fun _ => fin v i (by omega) hs, fun c => absurd (t_le.mpr (by omega)) c⟩
    | succ n ih =>
      intro v i i0 hi hs
      refine sd_see_10 _ _ _ _ ⟨ht, fun c9 => fin v i (by rw [t_le] at c9; exact c9) hs, fun c9 => ?_⟩
      rw [t_le] at c9
      obtain ⟨a1, a2, a3, a4⟩ := rl_at ht q (i := i) i0 (by omega)
      have i1 : (i + 1).toInt = i.toInt + 1 := by rw [t_add (by omega) (by omega), k1]
      have hi' : i.toInt.toNat < l.length := by omega
      obtain ⟨b1, b2, b3⟩ := l2 i.toInt.toNat _ (List.getElem?_eq_getElem hi')
      rw [List.drop_eq_getElem_cons hi', seL] at hs
      have ea : (10 * t + i).toNatClampNeg = 10 * t.toNatClampNeg + i.toInt.toNat := by rw [(t10 ht i0 (by omega)).2, t_cl i]
      have en : (i + 1).toInt.toNat = i.toInt.toNat + 1 := by omega
      have ec : Int32.ofNat l[i.toInt.toNat].1 = c ↔ l[i.toInt.toNat].1 = c.toNatClampNeg := by
        have e9 : (Int32.ofNat l[i.toInt.toNat].1).toInt = (l[i.toInt.toNat].1 : Nat) := Int32.toInt_ofNat_of_lt (by omega)
        rw [t_eq, e9]
        omega
      refine ⟨a1, a2, fun c9 => ih _ _ (by omega) (by omega) ?_, fun c9 => ⟨a1, a3, ih _ _ (by omega) (by omega) ?_⟩⟩
      · rw [ea, b1] at c9
        rw [if_neg (fun z => c9 (ec.mpr z))] at hs
        rw [en]; exact hs
      · rw [ea, b1] at c9
        rw [if_pos (ec.mp c9)] at hs
        rw [en, ea, b2]; exact hs
  exact sd_see_0 _ _ ⟨hc, loop _ _ 0 (by decide) (Int.self_le_toNat _) eR.symm⟩
theorem MM1_md {L A : List Nat} (m : md L A x y) (hA : [70, 71, 72, 73, 74, 75, 76, 77, 78, 79, 80, 81, 82].all (fun k => !A.elem k) = true) (h : MM1 x C M) : MM1 y C M := by
  have f : ∀ k ∈ [70, 71, 72, 73, 74, 75, 76, 77, 78, 79, 80, 81, 82], y.1 k = x.1 k := fun k hk => m.2.1 k (fun e => by rw [e] at hk; exact absurd hk (by decide)) (all_no hA k hk)
  unfold MM1 mTq mLt mLv at h ⊢
  rw [f 70 (by decide), f 71 (by decide), f 72 (by decide), f 73 (by decide), f 74 (by decide), f 75 (by decide), f 76 (by decide), f 77 (by decide), f 78 (by decide), f 79 (by decide), f 80 (by decide), f 81 (by decide), f 82 (by decide)]
  exact h
end DSE
end
