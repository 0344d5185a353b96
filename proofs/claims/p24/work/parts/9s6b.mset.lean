section
/-! the model: a run's beginning is the machine's -/
section DS3
variable {d : Nat} {S : gS} {x : gd} {F : Int32 → gd → gS → Prop} {Fv : gd → gS → Prop} {C : gCo}
theorem fs_idle {T : Nat} {q : Nat × Nat} (h : C.2.1[T]? = some q) (c : q.2 = 1) : (fsM C).2.2 T = th0 := by
  show (match C.2.1[T]? with | some q => if q.2 = 1 then th0 else thN C T th0 q.1 (fun _ => 0) | none => th0) = th0
  rw [h]
  exact if_pos c
theorem fs_go {T : Nat} {q : Nat × Nat} (h : C.2.1[T]? = some q) (c : ¬ q.2 = 1) : (fsM C).2.2 T = thN C T th0 q.1 (fun _ => 0) := by
  show (match C.2.1[T]? with | some q => if q.2 = 1 then th0 else thN C T th0 q.1 (fun _ => 0) | none => th0) = _
  rw [h]
  exact if_neg c
theorem fs_out {T : Nat} (h : C.2.1.length ≤ T) : (fsM C).2.2 T = th0 := by
  show (match C.2.1[T]? with | some q => if q.2 = 1 then th0 else thN C T th0 q.1 (fun _ => 0) | none => th0) = th0
  rw [List.getElem?_eq_none h]
theorem ds_setTail3 (cp : CP x) (i4 : ∀ j : Nat, j < 6 → iniT x j) (i3 : ∀ j : Nat, j < 6 → iniL x j) (i2 : ∀ j : Nat, j < 24 → x.1 70 j = (fsM C).1 j) (i5 : ∀ j : Nat, j < 48 → x.1 76 j = 0) (hK : MK x C) (hN : NC C) (h : ∀ y S1, RI y S1 → MM1 y C (fsM C) → Fv y S1) : MD 4 z_setFirst 157 [(0, vr 0), (1, vi 0)] [] S x (Dv Fv) := by
  have k0 : (0 : Int32).toInt = 0 := rfl
  have k1 : (1 : Int32).toInt = 1 := rfl
  have b25 := cp.1.2.2.2.2.2.1
  have nT : (x.1 0 25).toInt = C.2.1.length := hK.2.1.1
  have fin : ∀ (y : gd) (S1 : gS) (t : Int32), 0 ≤ t.toInt → RI y S1 → md hL hA x y → (∀ t' : Nat, t' < 6 → mTq y C t' (if (t' : Int) < t.toInt then (fsM C).2.2 t' else th0)) → (x.1 0 25).toInt ≤ t.toInt → Fv y S1 := by
    intro y S1 t t0 ry my hf hle
    refine h y S1 ry ⟨fun c hc => by rw [my.2.1 70 (by decide) (by decide)]; exact i2 c hc, fun l hl => ?_, fun t' ht' => ?_⟩
    · rw [my.2.1 71 (by decide) (by decide), my.2.1 72 (by decide) (by decide), (i3 l hl).1, (i3 l hl).2]
      exact ⟨rfl, Nat.zero_le _, rfl⟩
    · have q := hf t' ht'
      by_cases c : (t' : Int) < t.toInt
      · rw [if_pos c] at q; exact q
      · rw [if_neg c] at q
        rw [fs_out (by omega)]; exact q
  have ri0 : RI x S := by
    refine ⟨cp, fun t ht => ?_⟩
    obtain ⟨a1, a2, a3, a4, a5, a6, a7⟩ := i4 t ht
    refine ⟨⟨by rw [a2]; decide, by rw [a2]; decide, fun q => by rw [a1] at q; exact absurd q (by decide)⟩, Or.inl a4, by rw [a7]; decide, by rw [a7]; decide, fun k hk => ?_⟩
    rw [a7, k0] at hk; omega
  have loop : ∀ (n : Nat) (y : gd) (S1 : gS) (t : Int32), 0 ≤ t.toInt → (x.1 0 25).toInt - t.toInt ≤ n → y.1 0 25 = x.1 0 25 → RI y S1 → md hL hA x y → (∀ t' : Nat, t' < 6 → mTq y C t' (if (t' : Int) < t.toInt then (fsM C).2.2 t' else th0)) → MD 4 z_setFirst 157 [(0, vr 0), (1, vi t)] [] S1 y (Dv Fv) := by
    intro n
    induction n with
    | zero =>
      intro y S1 t t0 hn e25 ry my hf
      exact sd_setFirst_157 _ ⟨fun _ => Dv_i (fin y S1 t t0 ry my hf (by omega)), fun c => absurd (t_le.mpr (by rw [e25]; omega)) c⟩
    | succ n ih =>
      intro y S1 t t0 hn e25 ry my hf
      refine sd_setFirst_157 _ ⟨fun c => Dv_i (fin y S1 t t0 ry my hf (by rw [t_le, e25] at c; exact c)), fun c => ?_⟩
      rw [t_le, e25] at c
      have tv : vp_in t 6 := by rw [vp_in_iff]; omega
      have ct := cl_i t0
      have ti : (t + 1).toInt = t.toInt + 1 := by rw [t_add (by omega) (by omega), k1]
      obtain ⟨T, eT⟩ : ∃ T, T = t.toNatClampNeg := ⟨_, rfl⟩
      rw [← eT] at ct
      have T6 : T < 6 := by omega
      have tl : T < C.2.1.length := by omega
      obtain ⟨q9, hq9⟩ : ∃ q9, C.2.1[T]? = some q9 := ⟨_, List.getElem?_eq_getElem tl⟩
      have hKy : MK y C := MK_md my rfl rfl hK
      obtain ⟨k64, k38⟩ := hKy.2.1.2 T q9 hq9
      obtain ⟨⟨st, s1, s2⟩, q1⟩ := hN.2.1 q9 (List.mem_of_getElem? hq9)
      have mT := hf T T6
      rw [if_neg (by omega)] at mT
      have ext : ∀ (u : gd), mTq u C T ((fsM C).2.2 T) → (∀ t' : Nat, t' < 6 → ¬ t' = T → ∀ hh, mTq y C t' hh → mTq u C t' hh) → ∀ t' : Nat, t' < 6 → mTq u C t' (if (t' : Int) < (t + 1).toInt then (fsM C).2.2 t' else th0) := fun u hu ho t' ht' => by
        by_cases c9 : t' = T
        · rw [c9, if_pos (by omega)]; exact hu
        · have q := ho t' ht' c9 _ (hf t' ht')
          by_cases c8 : (t' : Int) < t.toInt
          · rw [if_pos c8] at q
            rw [if_pos (by omega)]; exact q
          · rw [if_neg c8] at q
            rw [if_neg (by omega)]; exact q
      refine ⟨tv, fun n0 => ih y S1 (t + 1) (by omega) (by omega) e25 ry my (ext y ?_ (fun _ _ _ _ q => q)), fun c0 => ⟨tv, fun y5 e5 => ⟨tv, tv, fun y8 e8 => ?_⟩⟩⟩
      · rw [← eT, k38] at n0
        have : ¬ q9.2 = 0 := fun z => n0 (by rw [z]; rfl)
        rw [fs_idle hq9 (by omega)]; exact mT
      rw [← eT] at c0 e5 e8
      have ni : ¬ q9.2 = 1 := fun z => by
        rw [k38, z] at c0
        exact absurd c0 (by decide)
      have t5 : th3 T y y5 := by rw [e5]; exact th3_si (by decide) _ _
      have t8 : th3 T y5 y8 := by rw [e8]; exact th3_si (by decide) _ _
      have t58 := th3_tr t5 t8
      have bg := ry.1.2.1.2.2.2.2.2 T (by have := t_cl (y.1 0 25); rw [e25] at this; rw [e25]; omega)
      have j2 := ry.1.2.1.2.1
      have a74 : y8.1 74 T = y.1 64 T := by rw [e8, si_get, if_pos ⟨rfl, rfl⟩, e5, si_cell (by decide)]
      have oth : ∀ c9, ¬ c9 = 73 → ¬ c9 = 74 → y8.1 c9 = y.1 c9 := fun c9 n1 n2 => by rw [e8, si_cell n2, e5, si_cell n1]
      have a52 : y8.1 0 52 = y.1 0 52 := t58.1.1 52 (by decide)
      have g73 : y8.1 73 T = 1 := by rw [e8, si_cell (by decide), e5, si_get, if_pos ⟨rfl, rfl⟩]
      have n64 : (y.1 64 T).toNatClampNeg = q9.1 := by rw [t_cl, k64]; rfl
      have hq : q0 y8 T := by
        unfold q0
        rw [oth 77 (by decide) (by decide), oth 78 (by decide) (by decide), oth 75 (by decide) (by decide)]
        exact ⟨mT.2.2.2.2.1, mT.2.2.2.2.2.2.1, mT.2.2.1⟩
      refine ds_own3 (d := 0) (lv0 := fun _ => 0) t tv (CP_th (th3_th t58) ry.1) (by rw [← eT, a74]; exact ⟨bg.1, by omega⟩) (fun _ => by rw [← eT, a74, a52]; exact bg.2) (by rw [← eT]; exact hq) (MK_th3 hKy t58) hN (by rw [← eT]; exact g73) (by rw [← eT, a74, n64]; exact s1) (fun p hp => by rw [s2] at hp; exact absurd hp (Nat.not_lt_zero _)) (fun u S2 tu su ra' w' u78 ow => ?_)
      rw [← eT] at tu ra' w' u78 ow
      rw [a74, n64] at ow
      have tt := th3_tr t58 tu
      have f := fun q (h0 : q ≠ 0) hq => tt.1.2.1 q h0 hq
      refine ih u S2 (t + 1) (by omega) (by omega) (by rw [tt.1.1 25 (by decide)]; exact e25) ⟨CP_th (th3_th tt) ry.1, fun t' ht' => ?_⟩ (md_tr my tt.1 rfl rfl) (ext u ?_ (fun t' ht' ne hh q => mTq_th hN tt ne q))
      · by_cases q : t' = T
        · rw [q]; exact ⟨ra', Or.inl w', rl_th (th3_th tt) su (ry.2 T T6).2.2⟩
        · exact rT_th (th3_th tt) su q (ry.2 t' ht')
      · rw [fs_go hq9 ni]
        exact mTq_own ow w' u78 rfl rfl (by rw [f 79 (by decide) (by decide)]; exact mT.2.2.2.2.2.2.2.1) (mLt_eq mT.2.2.2.2.2.2.2.2.1 (f 80 (by decide) (by decide)) (f 81 (by decide) (by decide)) (f 82 (by decide) (by decide)))
  refine loop 6 x S 0 (by decide) (by rw [k0]; omega) rfl ri0 (md_w (md_rf x) (by decide) (by decide)) (fun t' ht' => ?_)
  rw [if_neg (by rw [k0]; omega)]
  obtain ⟨a1, a2, a3, a4, a5, a6, a7⟩ := i4 t' ht'
  refine ⟨a1, Nat.zero_le _, a3, by rw [a2]; rfl, a4, Nat.zero_le _, a5, a6, ⟨by rw [a7]; rfl, fun j q hj => nomatch hj⟩, fun c => ?_, fun k hk _ => i5 _ (by omega)⟩
  have c : 0 = 1 ∨ 0 = 3 := c
  omega
end DS3
end
section
/-! the model: whether a thread's act can be done -/
section DH3
variable {d : Nat} {S : gS} {x : gd} {F : Int32 → gd → gS → Prop} {Fv : gd → gS → Prop} {C : gCo} {M : gMa}
theorem hol_0 : ∀ h, h < 7 → (Int32.ofNat h - 1 = -1 ↔ h = 0) := by decide +kernel
theorem sta_2 : ∀ h, h < 4 → (Int32.ofNat h ≤ 1 ↔ h ≤ 1) := by decide +kernel
set_option maxHeartbeats 1000000 in
theorem ds_hasAct3 (t : Int32) (ht : vp_in t 6) (ri : RI x S) (hK : MK x C) (hN : NC C) (hX : NXc C) (hM : MM1 x C M) {wa : Nat} (wy : x.1 0 68 = Int32.ofNat wa) (w01 : wa = 0 ∨ wa = 1) (hlt : wa = 0 → ∀ t', t' < 6 → (M.2.2 t').2.2.2.2.2.2.1 = []) (h0 : ¬ canM C wa M t.toNatClampNeg → F 0 x S) (h1 : x.1 73 t.toNatClampNeg = 1 → ¬ x.1 77 t.toNatClampNeg = 1 → canM C wa M t.toNatClampNeg → F 1 x S) : MD (d + 1) z_hasAct 0 [(0, vr 0), (1, vi t)] [] S x (Di F) := by
  have tv := vp_in_iff.mp ht
  obtain ⟨T, eT⟩ : ∃ T, T = t.toNatClampNeg := ⟨_, rfl⟩
  have T6 : T < 6 := by rw [eT]; exact vt ht
  have tT : t = Int32.ofNat T := i32_of (by rw [eT, t_cl]; omega)
  obtain ⟨m73, l73, m75, m74, m77, l77, m78, m79, mlt, mlv⟩ := hM.2.2 T T6
  obtain ⟨b2, b1, b0⟩ := wai_2 _ (show (M.2.2 T).2.2.2.1 < 3 by omega)
  rw [← m77] at b2 b1 b0
  have sta : x.1 73 T = 1 ↔ (M.2.2 T).1 = 1 := by
    rw [m73]
    rcases (show (M.2.2 T).1 = 0 ∨ (M.2.2 T).1 = 1 ∨ (M.2.2 T).1 = 2 ∨ (M.2.2 T).1 = 3 by omega) with e | e | e | e <;> rw [e] <;> decide
  rw [← eT] at h0 h1
  refine sd_hasAct_0 _ ⟨ht, fun c => Di_i (h0 (fun z => c (by rw [← eT]; exact sta.mpr z.1))), fun c1 => ⟨ht, fun c2 => ⟨ht, ?_⟩, fun c => Di_i (h0 (fun z => z.2.1 (b1.mp (by rw [eT]; exact c))))⟩⟩
  rw [← eT] at c1 c2
  have h1 := h1 c1 c2
  obtain ⟨kv, kn, _, av⟩ := RI_step ri T6 c1
  obtain ⟨s1, s2, s3⟩ := srt_of ri T6 c1
  obtain ⟨k, ek⟩ : ∃ k, k = x.1 74 T := ⟨_, rfl⟩
  rw [← ek] at kv kn av s1 s2 s3 m74
  obtain ⟨s, es⟩ : ∃ s, s = srt x T := ⟨_, rfl⟩
  rw [← es] at s1 s2 s3
  have l52 : (x.1 0 52).toInt = C.1.length := hK.1.1
  obtain ⟨K, eKd⟩ : ∃ K, K = (M.2.2 T).2.2.1 := ⟨_, rfl⟩
  rw [← eKd] at m74
  have kst : k.toNatClampNeg = K := by rw [t_cl, m74]; rfl
  obtain ⟨st, hst⟩ : ∃ st, C.1[K]? = some st := ⟨_, List.getElem?_eq_getElem (by omega)⟩
  have esN := stN_is hst
  obtain ⟨g54, g55, g56, -⟩ := hK.1.2 _ st hst
  have ns := hN.1 _ st hst
  obtain ⟨-, -, -, -, -, nx5⟩ := hX _ st hst
  rw [← kst] at g54 g55 g56
  have o16 : st.1 < 16 := by
    have a := ((ri.2 T T6).1.2.2 c1).2
    rw [← ek, g54] at a
    exact (mWh_i st.1 ns.1.1).1.mp a
  have g55 := g55 o16
  obtain ⟨o, eo⟩ : ∃ o, o = soM C (M.2.2 T) := ⟨_, rfl⟩
  have sO : s = Int32.ofNat o ∧ o < 16 ∧ (¬ o = 15 → o = st.1) := by
    rw [eo, es]
    unfold soM srt
    rw [← eKd, esN]
    by_cases c9 : x.1 77 T = 2
    · rw [if_pos c9, if_neg (by have := b2.mp c9; omega)]
      exact ⟨rfl, by omega, fun z => absurd rfl z⟩
    · have w0 : (M.2.2 T).2.2.2.1 = 0 := by
        have a1 : ¬ (M.2.2 T).2.2.2.1 = 2 := fun z => c9 (b2.mpr z)
        have a2 : ¬ (M.2.2 T).2.2.2.1 = 1 := fun z => c2 (b1.mpr z)
        omega
      rw [if_neg c9, if_pos w0, ← ek]
      exact ⟨g55, o16, fun _ => rfl⟩
  obtain ⟨sI, o15, oN⟩ := sO
  have sE : ∀ n : Nat, n < 16 → (s = Int32.ofNat n ↔ o = n) := fun n hn => by
    rw [t_eq, sI, op_16 o o15, op_16 n hn]; omega
  have sT : s.toInt = (o : Nat) := by rw [sI]; exact op_16 o o15
  obtain ⟨B, eB⟩ : ∃ B, B = obM C K := ⟨_, rfl⟩
  have hB : (x.1 56 k.toNatClampNeg).toNatClampNeg = B := by rw [eB, g56]; unfold obM; rw [esN]
  have l80 : x.1 80 T = 0 ↔ (M.2.2 T).2.2.2.2.2.2.1 = [] := by
    rw [t_eq, mlt.1, show (0 : Int32).toInt = 0 from rfl]
    exact ⟨fun z => List.eq_nil_of_length_eq_zero (by omega), fun z => by rw [z]; rfl⟩
  unfold canM at h0 h1
  rw [← eo, ← eKd, ← eB] at h0 h1
  have can1 := sta.mp c1
  have can2 : ¬ (M.2.2 T).2.2.2.1 = 1 := fun z => c2 (b1.mpr z)
  let W : Prop := ¬ (o = 0 ∨ o = 12 ∨ o = 13 ∨ o = 14 ∨ (wa = 1 ∧ o = 1 ∧ suM C B = false)) → (M.2.2 T).2.2.2.2.2.2.1 = []
  have p149 : W → (o = 5 ∨ o = 15) → MD (d + 1) z_hasAct 149 [(0, vr 0), (1, vi t), (2, vi k)] [] S x (Di F) := by
    intro hw q
    have ob := s2 (q.imp (fun q => by omega) (fun q => (sE 15 (by omega)).mpr q))
    have ov : vp_in (x.1 56 k.toNatClampNeg) 6 := by rw [vp_in_iff]; omega
    have B6 : B < 6 := by rw [← hB]; exact vp_lt ov
    obtain ⟨e71, l71, -⟩ := hM.2.1 B B6
    have a1 := hol_0 _ (show (M.2.1 B).1 < 7 by omega)
    have a2 := hol_t _ (show (M.2.1 B).1 < 7 by omega) T T6
    rw [← e71] at a1 a2
    rw [← tT] at a2
    refine sd_hasAct_149 _ _ ⟨kv, ov, ?_⟩
    rw [hB]
    exact ⟨fun c => Di_i (h1 ⟨can1, can2, hw, fun _ => Or.inl (a1.mp c), fun z => by omega⟩), fun c => ⟨kv, ov, fun c9 => Di_i (h0 (fun z => (z.2.2.2.1 q).elim (fun z => c (a1.mpr z)) (fun z => c9 (a2.mpr z)))), fun c9 => Di_i (h1 ⟨can1, can2, hw, fun _ => Or.inr (a2.mp c9), fun z => by omega⟩)⟩⟩
  have p138 : W → MD (d + 1) z_hasAct 138 [(0, vr 0), (1, vi t), (2, vi k), (3, vi s)] [] S x (Di F) := by
    intro hw
    have e5 := sE 5 (by omega)
    have e15 := sE 15 (by omega)
    have e10 := sE 10 (by omega)
    refine sd_hasAct_138 _ _ _ ⟨fun e => p149 hw (Or.inl (e5.mp e)), fun n5 => ⟨fun n15 => ⟨fun n10 => Di_i (h1 ⟨can1, can2, hw, fun z => absurd z (fun z => z.elim (fun z => n5 (e5.mpr z)) (fun z => n15 (e15.mpr z))), fun z => absurd (e10.mpr z) n10⟩), fun e => ⟨kv, ?_⟩⟩, fun e => p149 hw (Or.inr (e15.mp e))⟩⟩
    have o10 := e10.mp e
    have ob := s2 (Or.inl (by omega))
    have ov : vp_in (x.1 56 k.toNatClampNeg) 6 := by rw [vp_in_iff]; omega
    have B6 : B < 6 := by rw [← hB]; exact vp_lt ov
    obtain ⟨n73, nl73, -, -, -, -, -, -, nlt, -⟩ := hM.2.2 B B6
    have a2 := sta_2 _ (show (M.2.2 B).1 < 4 by omega)
    rw [← n73] at a2
    have nl : x.1 80 B = 0 ↔ (M.2.2 B).2.2.2.2.2.2.1 = [] := by
      rw [t_eq, nlt.1, show (0 : Int32).toInt = 0 from rfl]
      exact ⟨fun z => List.eq_nil_of_length_eq_zero (by omega), fun z => by rw [z]; rfl⟩
    refine ⟨fun c => Di_i (h0 (fun z => ?_)), fun _ => ⟨ov, ?_⟩⟩
    · have := (z.2.2.2.2 o10).1
      have bT : B = T := by rw [← hB, c, ← eT]
      rw [bT] at this
      omega
    · rw [hB]
      exact ⟨fun c => Di_i (h0 (fun z => by have := (z.2.2.2.2 o10).1; have := a2.mp c; omega)), fun c => ⟨ov, fun c9 => Di_i (h0 (fun z => c9 (nl.mpr (z.2.2.2.2 o10).2))), fun c9 => Di_i (h1 ⟨can1, can2, hw, fun z => by omega, fun _ => ⟨Classical.byContradiction (fun z => c (a2.mpr (by omega))), nl.mp c9⟩⟩)⟩⟩
  have p124 : ∀ b q : Int32, ((¬ b = 0 ∧ (wa = 0 ∨ (M.2.2 T).2.2.2.2.2.2.1 = [])) ∨ (b = 0 ∧ ¬ (M.2.2 T).2.2.2.2.2.2.1 = [])) → ((q = 0 ∧ (o = 0 ∨ o = 12 ∨ o = 13 ∨ o = 14 ∨ (o = 1 ∧ suM C B = false))) ∨ (¬ q = 0 ∧ ¬ (o = 0 ∨ o = 12 ∨ o = 13 ∨ o = 14 ∨ (o = 1 ∧ suM C B = false)))) → MD (d + 1) z_hasAct 124 [(0, vr 0), (1, vi t), (2, vi k), (3, vi s), (5, vi b)] [vi q] S x (Di F) := by
    intro b q hb hq
    have wl : wa = 0 → W := fun z _ => hlt z T T6
    refine sd_hasAct_124 _ _ _ _ _ ⟨fun c => p138 ?_, fun c => ⟨fun c9 => p138 ?_, fun c9 => Di_i (h0 (fun z => ?_))⟩⟩
    · rcases w01 with z | z
      · exact wl z
      · rcases hq with ⟨-, hq⟩ | ⟨hq, -⟩
        · intro n
          exact absurd (by rcases hq with e | e | e | e | ⟨e, e'⟩; exact Or.inl e; exact Or.inr (Or.inl e); exact Or.inr (Or.inr (Or.inl e)); exact Or.inr (Or.inr (Or.inr (Or.inl e))); exact Or.inr (Or.inr (Or.inr (Or.inr ⟨z, e, e'⟩)))) n
        · exact absurd c hq
    · rcases hb with ⟨-, hb | hb⟩ | ⟨hb, -⟩
      · exact wl hb
      · exact fun _ => hb
      · exact absurd hb c9
    · rcases hb with ⟨hb, -⟩ | ⟨-, hb⟩
      · exact hb c9
      · rcases hq with ⟨hq, -⟩ | ⟨-, hq⟩
        · exact c hq
        · exact hb (z.2.2.1 (fun n => hq (by rcases n with e | e | e | e | ⟨-, e, e'⟩; exact Or.inl e; exact Or.inr (Or.inl e); exact Or.inr (Or.inr (Or.inl e)); exact Or.inr (Or.inr (Or.inr (Or.inl e))); exact Or.inr (Or.inr (Or.inr (Or.inr ⟨e, e'⟩))))))
  have p85 : ∀ a b : Int32, (o = 1 → (a = 0 ↔ suM C B = false)) → ((¬ b = 0 ∧ (wa = 0 ∨ (M.2.2 T).2.2.2.2.2.2.1 = [])) ∨ (b = 0 ∧ ¬ (M.2.2 T).2.2.2.2.2.2.1 = [])) → MD (d + 1) z_hasAct 85 [(0, vr 0), (1, vi t), (2, vi k), (3, vi s), (4, vi a)] [vi b] S x (Di F) := by
    intro a b ha hb
    have e0 := sE 0 (by omega)
    have e12 := sE 12 (by omega)
    have e13 := sE 13 (by omega)
    have e14 := sE 14 (by omega)
    have e1 := sE 1 (by omega)
    refine sd_hasAct_85 _ _ _ _ _ ⟨fun e => p124 _ _ hb (Or.inl ⟨rfl, Or.inl (e0.mp e)⟩), fun n0 => ⟨fun e => p124 _ _ hb (Or.inl ⟨rfl, Or.inr (Or.inl (e12.mp e))⟩), fun n12 => ⟨fun e => p124 _ _ hb (Or.inl ⟨rfl, Or.inr (Or.inr (Or.inl (e13.mp e)))⟩), fun n13 => ⟨fun e => p124 _ _ hb (Or.inl ⟨rfl, Or.inr (Or.inr (Or.inr (Or.inl (e14.mp e))))⟩), fun n14 => ⟨fun n1 => p124 _ _ hb (Or.inr ⟨by decide, fun z => ?_⟩), fun e => ⟨fun c => p124 _ _ hb (Or.inl ⟨rfl, Or.inr (Or.inr (Or.inr (Or.inr ⟨e1.mp e, (ha (e1.mp e)).mp c⟩)))⟩), fun c => p124 _ _ hb (Or.inr ⟨by decide, fun z => ?_⟩)⟩⟩⟩⟩⟩⟩
    · rcases z with z | z | z | z | ⟨z, -⟩
      · exact n0 (e0.mpr z)
      · exact n12 (e12.mpr z)
      · exact n13 (e13.mpr z)
      · exact n14 (e14.mpr z)
      · exact n1 (e1.mpr z)
    · rcases z with z | z | z | z | ⟨z, z'⟩
      · exact n0 (e0.mpr z)
      · exact n12 (e12.mpr z)
      · exact n13 (e13.mpr z)
      · exact n14 (e14.mpr z)
      · exact c ((ha z).mpr z')
  have p62 : ∀ a : Int32, (o = 1 → (a = 0 ↔ suM C B = false)) → MD (d + 1) z_hasAct 62 [(0, vr 0), (1, vi t), (2, vi k), (3, vi s)] [vi a] S x (Di F) := by
    intro a ha
    refine sd_hasAct_62 _ _ _ _ ⟨fun c => p85 _ _ ha (Or.inl ⟨by decide, Or.inl (w01.resolve_right (fun z => by rw [wy, z] at c; exact absurd c (by decide)))⟩), fun c => ⟨ht, ?_⟩⟩
    rw [← eT]
    exact ⟨fun c9 => p85 _ _ ha (Or.inr ⟨rfl, fun z => c9 (l80.mpr z)⟩), fun c9 => p85 _ _ ha (Or.inl ⟨by decide, Or.inr (l80.mp c9)⟩)⟩
  rw [← eT, ← ek]
  refine ds_sortOf t ht (by rw [← eT, ← ek]; exact kv) ?_
  rw [← eT, ← es]
  refine ds_isAccess s (fun n => ⟨fun _ => p62 0 (fun z => absurd (by omega) n), fun q => absurd rfl q⟩) (fun q => ⟨fun q => absurd q (by decide), fun _ => ⟨kv, ?_, ?_⟩⟩)
  · have o := s1 q
    rw [vp_in_iff]; omega
  · have su : o = 1 → x.1 37 B = if suM C B = true then 1 else 0 := fun e1 => by
      have o1 := oN (by omega)
      obtain ⟨b1, b2, -⟩ := nx5 (by omega)
      have cl : B < C.2.2.1.length := by
        rw [eB]; unfold obM; rw [esN, t_cl]; omega
      obtain ⟨q, hq⟩ : ∃ q, C.2.2.1[B]? = some q := ⟨_, List.getElem?_eq_getElem cl⟩
      rw [(hK.2.2.1.2 _ q hq).2]
      unfold suM
      rw [hq]
    rw [hB]
    refine ⟨fun c => p62 0 (fun z => ⟨fun _ => ?_, fun _ => rfl⟩), fun c => p62 1 (fun z => ⟨fun y => absurd y (by decide), fun y => ?_⟩)⟩
    · rw [su z] at c
      cases e9 : suM C B with
      | false => rfl
      | true => rw [e9] at c; exact absurd c (by decide)
    · rw [su z, y] at c
      exact absurd rfl c
end DH3
end
section
/-! the model: choices are noted -/
def opI : Option Nat → Int32
  | none => -1
  | some n => Int32.ofNat n
/-- the choices that stand in the memory -/
def chE (y : gd) (l : List gCh) : Prop := (y.1 0 84).toInt = (l.length : Nat) ∧ ∀ i q, l[i]? = some q → y.1 86 i = Int32.ofNat q.1 ∧ y.1 87 i = opI q.2.1 ∧ y.1 88 i = opI q.2.2
section DC3
variable {d : Nat} {S : gS} {x : gd} {F : Int32 → gd → gS → Prop} {Fv : gd → gS → Prop}
theorem ds_choose3 {cl : List gCh} {q0' : gCh} {y : gd} {S1 : gS} {b : Int} (t l w : Int32) (hb : b ≤ 198) (q : fC x S b y S1) (ho : chO x t l) (hl : chE y cl) (hq : t = Int32.ofNat q0'.1 ∧ l = opI q0'.2.1 ∧ w = opI q0'.2.2) (h : ∀ y' S', fC x S (b + 1) y' S' → chE y' (cl ++ [q0']) → Fv y' S') : MD d z_choose 0 [(0, vr 0), (1, vi t), (2, vi l), (3, vi w)] [] S1 y (Dv Fv) := by
  obtain ⟨q1, q2, q3, q4, q5, q6⟩ := q
  obtain ⟨n, en⟩ : ∃ n, n = y.1 0 84 := ⟨_, rfl⟩
  have nv : vp_in n 200 := by rw [en, vp_in_iff]; omega
  have k1 : (1 : Int32).toInt = 1 := rfl
  obtain ⟨cl1, cl2⟩ := hl
  rw [← en] at q4 q5 cl1
  refine sd_choose_0 _ _ _ ⟨q3, by rw [← en]; exact nv, fun y2 e2 => ?_⟩
  rw [← en] at e2 ⊢
  have f2 : y2.1 0 84 = n := by rw [e2, si_cell (by decide), en]
  refine ⟨Or.inr q3, by rw [f2]; exact nv, fun y4 e4 => ?_⟩
  rw [f2] at e4 ⊢
  have f4 : y4.1 0 84 = n := by rw [e4, si_cell (by decide), f2]
  refine ⟨Or.inr (Or.inr q3), by rw [f4]; exact nv, fun y6 e6 => ?_⟩
  rw [f4] at e6 ⊢
  have f6 : y6.1 0 84 = n := by rw [e6, si_cell (by decide), f4]
  refine ⟨Or.inr (Or.inr (Or.inr q3)), fun y7 e7 => Dv_i (h y7 _ ?_ ?_)⟩
  rotate_left
  · rw [f6] at e7
    have nl : n.toNatClampNeg = cl.length := by rw [t_cl, cl1]; rfl
    have f7 : (y7.1 0 84).toInt = n.toInt + 1 := by rw [e7, si_get, if_pos ⟨rfl, rfl⟩, t_add (by omega) (by omega), k1]
    have g86 : ∀ i, y7.1 86 i = if i = cl.length then t else y.1 86 i := fun i => by rw [e7, si_cell (by decide), e6, si_cell (by decide), e4, si_cell (by decide), e2, si_get, nl]; by_cases z : i = cl.length; rw [if_pos ⟨rfl, z⟩, if_pos z]; rw [if_neg (fun q => z q.2), if_neg z]
    have g87 : ∀ i, y7.1 87 i = if i = cl.length then l else y.1 87 i := fun i => by rw [e7, si_cell (by decide), e6, si_cell (by decide), e4, si_get, nl, e2, si_cell (by decide)]; by_cases z : i = cl.length; rw [if_pos ⟨rfl, z⟩, if_pos z]; rw [if_neg (fun q => z q.2), if_neg z]
    have g88 : ∀ i, y7.1 88 i = if i = cl.length then w else y.1 88 i := fun i => by rw [e7, si_cell (by decide), e6, si_get, nl, e4, si_cell (by decide), e2, si_cell (by decide)]; by_cases z : i = cl.length; rw [if_pos ⟨rfl, z⟩, if_pos z]; rw [if_neg (fun q => z q.2), if_neg z]
    refine ⟨by rw [f7, cl1, List.length_append]; rfl, fun i q hi => ?_⟩
    rw [g86 i, g87 i, g88 i]
    by_cases c : i < cl.length
    · rw [List.getElem?_append_left c] at hi
      rw [if_neg (by omega), if_neg (by omega), if_neg (by omega)]
      exact cl2 i q hi
    · rw [List.getElem?_append_right (by omega)] at hi
      have il := gt_lt hi
      have il : i - cl.length < 1 := il
      have i0 : i - cl.length = 0 := by omega
      rw [i0] at hi
      have hi := Option.some.inj hi
      rw [if_pos (by omega), if_pos (by omega), if_pos (by omega), ← hi]
      exact hq
  rw [f6] at e7
  have m2 := md_a y 86 n.toNatClampNeg t (by decide)
  rw [← e2] at m2
  have m4 := md_a y2 87 n.toNatClampNeg l (by decide)
  rw [← e4] at m4
  have m6 := md_a y4 88 n.toNatClampNeg w (by decide)
  rw [← e6] at m6
  have m7 := md_f y6 84 (n + 1)
  rw [← e7] at m7
  have mm : md [84] [86, 87, 88] y y7 := md_tr (md_tr (L3 := []) (A3 := [86, 87, 88]) (md_tr (L3 := []) (A3 := [86, 87]) m2 m4 rfl rfl) m6 rfl rfl) m7 rfl rfl
  have mx : md [84] [86, 87, 88] x y7 := md_tr q1 mm rfl rfl
  have f7 : (y7.1 0 84).toInt = n.toInt + 1 := by rw [e7, si_get, if_pos ⟨rfl, rfl⟩, t_add (by omega) (by omega), k1]
  have cn := cl_i q4
  refine ⟨mx, ssub_tr q2 (fun c j z => Or.inr (Or.inr (Or.inr (Or.inr z)))), Or.inl ⟨rfl, rfl⟩, by omega, by omega, fun i hi => ?_⟩
  have e73 : y7.1 73 = x.1 73 := mx.2.1 73 (by decide) (by decide)
  have e77 : y7.1 77 = x.1 77 := mx.2.1 77 (by decide) (by decide)
  have e80 : y7.1 80 = x.1 80 := mx.2.1 80 (by decide) (by decide)
  by_cases z : i = n.toNatClampNeg
  · have g86 : y7.1 86 i = t := by rw [z, e7, si_cell (by decide), e6, si_cell (by decide), e4, si_cell (by decide), e2, si_get, if_pos ⟨rfl, rfl⟩]
    have g87 : y7.1 87 i = l := by rw [z, e7, si_cell (by decide), e6, si_cell (by decide), e4, si_get, if_pos ⟨rfl, rfl⟩]
    refine ⟨Or.inr (Or.inr (Or.inr (Or.inl ⟨rfl, z⟩))), Or.inr (Or.inr (Or.inl ⟨rfl, z⟩)), Or.inr (Or.inl ⟨rfl, z⟩), ?_⟩
    rw [g86, g87]
    unfold chO
    rw [e73, e77, e80]
    exact ho
  · have g86 : y7.1 86 i = y.1 86 i := by rw [e7, si_cell (by decide), e6, si_cell (by decide), e4, si_cell (by decide), e2, si_ne 86 i z]
    have g87 : y7.1 87 i = y.1 87 i := by rw [e7, si_cell (by decide), e6, si_cell (by decide), e4, si_ne 87 i z, e2, si_cell (by decide)]
    obtain ⟨a, b', c, o⟩ := q6 i (by rw [← en]; omega)
    refine ⟨Or.inr (Or.inr (Or.inr (Or.inr a))), Or.inr (Or.inr (Or.inr (Or.inr b'))), Or.inr (Or.inr (Or.inr (Or.inr c))), ?_⟩
    rw [g86, g87]
    unfold chO at o ⊢
    rw [mm.2.1 73 (by decide) (by decide), mm.2.1 77 (by decide) (by decide), mm.2.1 80 (by decide) (by decide)]
    exact o
end DC3
end
section
/-! the model: the choices found are the machine's -/
def acT (C : gCo) (w : Nat) (M : gMa) (t : Nat) : List gCh := if canM C w M t then (if soM C (M.2.2 t) = 8 ∧ (stN C (M.2.2 t).2.2.1).2.2.2.2.2.2.1 = false ∧ (M.2.1 (obM C (M.2.2 t).2.2.1)).1 = t + 1 ∧ ¬ waM C M (obM C (M.2.2 t).2.2.1) = [] then (waM C M (obM C (M.2.2 t).2.2.1)).map (fun o => (t, none, some o)) else [(t, none, none)]) else []
def ltP (l : List (Nat × Int32)) (i : Nat) : Bool := (l.take i).all (fun q => !(some q.1 == (l[i]?).map (fun z => z.1)))
def waP (C : gCo) (M : gMa) (l o : Nat) : Bool := (M.2.2 o).2.2.2.1 == 1 && obM C (M.2.2 o).2.2.1 == l
def prM (C : gCo) (w : Nat) (M : gMa) (t : Nat) : List gCh := (List.range t).flatMap (ch1 C w M)
theorem prM_s {C : gCo} {w : Nat} {M : gMa} {t : Nat} : prM C w M (t + 1) = prM C w M t ++ (acT C w M t ++ (((List.range (M.2.2 t).2.2.2.2.2.2.1.length).filter (ltP (M.2.2 t).2.2.2.2.2.2.1)).map (fun i => (t, some i, none)))) := by
  unfold prM
  rw [List.range_succ, List.flatMap_append]
  simp only [List.flatMap_cons, List.flatMap_nil, List.append_nil]
  rfl
theorem ltP_iff {l : List (Nat × Int32)} {i : Nat} {q : Nat × Int32} (h : l[i]? = some q) : ltP l i = true ↔ ∀ j q', j < i → l[j]? = some q' → ¬ q'.1 = q.1 := by
  unfold ltP
  rw [List.all_eq_true, h]
  constructor
  · intro a j q' hj hq e
    have m : q' ∈ l.take i := List.mem_iff_getElem?.mpr ⟨j, by rw [List.getElem?_take, if_pos hj]; exact hq⟩
    have b := a q' m
    simp [e] at b
  · intro a q' m
    obtain ⟨j, hj⟩ := List.mem_iff_getElem?.mp m
    rw [List.getElem?_take] at hj
    by_cases c : j < i
    · rw [if_pos c] at hj
      have b := a j q' c hj
      simp [b]
    · rw [if_neg c] at hj
      exact nomatch hj
theorem fl_no {P : Nat → Bool} {f : Nat → gCh} {n : Nat} (z : P n = false) : ((List.range n ++ [n]).filter P).map f = ((List.range n).filter P).map f := by
  rw [List.filter_append]
  simp [z]
theorem fl_yes {P : Nat → Bool} {f : Nat → gCh} {n : Nat} (z : P n = true) : ((List.range n ++ [n]).filter P).map f = ((List.range n).filter P).map f ++ [f n] := by
  rw [List.filter_append]
  simp [z]
section DF3
variable {d : Nat} {S : gS} {x : gd} {F : Int32 → gd → gS → Prop} {Fv : gd → gS → Prop} {C : gCo} {M : gMa}
set_option maxHeartbeats 1000000 in
theorem ds_find3 (ri : RI x S) (hK : MK x C) (hN : NC C) (hX : NXc C) (hM : MM1 x C M) {wa : Nat} (wy : x.1 0 68 = Int32.ofNat wa) (w01 : wa = 0 ∨ wa = 1) (hlt : wa = 0 → ∀ t', t' < 6 → (M.2.2 t').2.2.2.2.2.2.1 = []) (h : ∀ y S1, fC x S 84 y S1 → chE y (chM C wa M) → Fv y S1) : MD (d + 2) z_findChoices 0 [(0, vr 0)] [] S x (Dv Fv) := by
  have k0 : (0 : Int32).toInt = 0 := rfl
  have k1 : (1 : Int32).toInt = 1 := rfl
  have hT := ri.1.1.2.2.2.2.1
  have nT : (x.1 0 25).toInt = C.2.1.length := hK.2.1.1
  have hT6 := ri.1.1.2.2.2.2.2.1
  have p7 : ∀ (n : Nat) (y : gd) (S1 : gS) (t : Int32), 0 ≤ t.toInt → t.toInt ≤ (x.1 0 25).toInt → (x.1 0 25).toInt - t.toInt ≤ n → fC x S (14 * t.toInt) y S1 → chE y (prM C wa M t.toInt.toNat) → MD (d + 2) z_findChoices 7 [(0, vr 0), (1, vi t)] [] S1 y (Dv Fv) := by
    intro n
    induction n with
    | zero =>
      intro y S1 t t0 t1 hn q hl
      have f25 : y.1 0 25 = x.1 0 25 := q.1.1 25 (by decide)
      exact sd_findChoices_7 _ ⟨fun _ => Dv_i (h y S1 (fC_mono (by omega) q) (by rw [show t.toInt.toNat = C.2.1.length by omega] at hl; exact hl)), fun c => absurd (t_le.mpr (by rw [f25]; omega)) c⟩
    | succ n ih =>
      intro y S1 t t0 t1 hn q hl
      have f25 : y.1 0 25 = x.1 0 25 := q.1.1 25 (by decide)
      refine sd_findChoices_7 _ ⟨fun c => Dv_i (h y S1 (fC_mono (by omega) q) (by rw [t_le, f25] at c; rw [show t.toInt.toNat = C.2.1.length by omega] at hl; exact hl)), fun c => ?_⟩
      rw [t_le, f25] at c
      have ht : vp_in t 6 := by rw [vp_in_iff]; omega
      have i1 : (t + 1).toInt = t.toInt + 1 := by rw [t_add (by omega) (by omega), k1]
      obtain ⟨L, eL⟩ : ∃ L, L = x.1 80 t.toNatClampNeg := ⟨_, rfl⟩
      have rlx := (ri.2 _ (vt ht)).2.2
      have hL8 := rlx.2.1
      have hL0 := rlx.1
      rw [← eL] at hL8 hL0
      obtain ⟨T, eT⟩ : ∃ T, T = t.toNatClampNeg := ⟨_, rfl⟩
      have tTn : t.toInt.toNat = T := by rw [eT, t_cl]
      have tTI : t = Int32.ofNat T := i32_of (by rw [eT, t_cl]; omega)
      have T6 : T < 6 := by omega
      have t1n : (t + 1).toInt.toNat = T + 1 := by omega
      rw [tTn] at hl
      obtain ⟨l, el⟩ : ∃ l, l = (M.2.2 T).2.2.2.2.2.2.1 := ⟨_, rfl⟩
      have mlt := (hM.2.2 T T6).2.2.2.2.2.2.2.2.1
      rw [← el] at mlt
      have lL : L.toInt = (l.length : Nat) := by rw [eL, ← eT]; exact mlt.1
      have nxt : ∀ (y : gd) (S1 : gS), fC x S (14 * t.toInt + 14) y S1 → chE y ((prM C wa M T ++ acT C wa M T) ++ ((List.range l.length).filter (ltP l)).map (fun i => (T, some i, none))) → MD (d + 2) z_findChoices 7 [(0, vr 0), (1, vi (t + 1))] [] S1 y (Dv Fv) := fun y S1 q hc => ih y S1 (t + 1) (by omega) (by omega) (by omega) (fC_mono (by omega) q) (by rw [t1n, prM_s, ← List.append_assoc, ← el]; exact hc)
      -- late writes
      have p144 : ∀ (m : Nat) (y : gd) (S1 : gS) (i : Int32), 0 ≤ i.toInt → i.toInt ≤ L.toInt → L.toInt - i.toInt ≤ m → fC x S (14 * t.toInt + 6 + i.toInt) y S1 → chE y ((prM C wa M T ++ acT C wa M T) ++ ((List.range i.toInt.toNat).filter (ltP l)).map (fun i => (T, some i, none))) → MD (d + 2) z_findChoices 144 [(0, vr 0), (1, vi t), (2, vi i)] [] S1 y (Dv Fv) := by
        intro m
        induction m with
        | zero =>
          intro y S1 i i0 i1' hm q hc
          have f80 : y.1 80 = x.1 80 := q.1.2.1 80 (by decide) (by decide)
          refine sd_findChoices_144 _ _ ⟨ht, ?_⟩
          rw [f80, ← eL]
          exact ⟨fun _ => nxt y S1 (fC_mono (by omega) q) (by rw [show i.toInt.toNat = l.length by omega] at hc; exact hc), fun c => absurd (t_le.mpr (by omega)) c⟩
        | succ m ihm =>
          intro y S1 i i0 i1' hm q hc
          have f80 : y.1 80 = x.1 80 := q.1.2.1 80 (by decide) (by decide)
          refine sd_findChoices_144 _ _ ⟨ht, ?_⟩
          rw [f80, ← eL]
          refine ⟨fun c2 => nxt y S1 (fC_mono (by omega) q) (by rw [t_le] at c2; rw [show i.toInt.toNat = l.length by omega] at hc; exact hc), fun c2 => ?_⟩
          rw [t_le] at c2
          have ii : (i + 1).toInt = i.toInt + 1 := by rw [t_add (by omega) (by omega), k1]
          have riy : RI y S1 := RI_md q.1 rfl rfl q.2.1 ri
          have ry := (riy.2 _ (vt ht)).2.2
          have e80 : y.1 80 t.toNatClampNeg = L := by rw [f80, eL]
          have f81 : y.1 81 = x.1 81 := q.1.2.1 81 (by decide) (by decide)
          have hiL : i.toInt.toNat < l.length := by omega
          obtain ⟨qi, hqi⟩ : ∃ qi, l[i.toInt.toNat]? = some qi := ⟨_, List.getElem?_eq_getElem hiL⟩
          have rs : List.range (i + 1).toInt.toNat = List.range i.toInt.toNat ++ [i.toInt.toNat] := by rw [show (i + 1).toInt.toNat = i.toInt.toNat + 1 by omega, List.range_succ]
          have rno : ltP l i.toInt.toNat = false → ((List.range (i + 1).toInt.toNat).filter (ltP l)).map (fun i => ((T, some i, none) : gCh)) = ((List.range i.toInt.toNat).filter (ltP l)).map (fun i => (T, some i, none)) := fun z => by
            rw [rs]; exact fl_no z
          have ryes : ltP l i.toInt.toNat = true → ((List.range (i + 1).toInt.toNat).filter (ltP l)).map (fun i => ((T, some i, none) : gCh)) = ((List.range i.toInt.toNat).filter (ltP l)).map (fun i => (T, some i, none)) ++ [(T, some i.toInt.toNat, none)] := fun z => by
            rw [rs]; exact fl_yes z
          have cel : ∀ jj : Int32, 0 ≤ jj.toInt → jj.toInt < L.toInt → ∀ q', l[jj.toInt.toNat]? = some q' → y.1 81 (10 * t + jj).toNatClampNeg = Int32.ofNat q'.1 ∧ q'.1 < 24 := fun jj j0 j1 q' hq' => by
            obtain ⟨b1, b2, b3⟩ := mlt.2 _ q' hq'
            rw [f81, (t10 ht j0 (by omega)).2, t_cl jj, ← eT]
            exact ⟨b1, b3⟩
          have lj : ∀ (j : Nat) (may jj : Int32), 0 ≤ jj.toInt → i.toInt - jj.toInt ≤ j → (¬ may = 0 ↔ ∀ j' q', j' < jj.toInt.toNat → l[j']? = some q' → ¬ q'.1 = qi.1) → jj.toInt ≤ i.toInt → MD (d + 2) z_findChoices 159 [(0, vr 0), (1, vi t), (2, vi i), (3, vi may), (4, vi jj)] [] S1 y (Dv Fv) := by
            have last : ∀ may : Int32, (¬ may = 0 ↔ ltP l i.toInt.toNat = true) → ((may = (0 : Int32) → MD (d + 2) z_findChoices 144 [(0, vr 0), (1, vi t), (2, vi (i + 1))] [] S1 y (Dv Fv)) ∧ (¬ (may = (0 : Int32)) → MD (d + 1) z_choose 0 [(0, vr 0), (1, vi t), (2, vi i), (3, vi (-1))] [] S1 y (Dv (fun x3 S3 => MD (d + 2) z_findChoices 144 [(0, vr 0), (1, vi t), (2, vi (i + 1))] [] S3 x3 (Dv Fv))))) := by
              intro may hmay
              refine ⟨fun c0 => ihm y S1 (i + 1) (by omega) (by omega) (by omega) (fC_mono (by omega) q) (by rw [rno (Bool.eq_false_iff.mpr (fun z => hmay.mpr z c0))]; exact hc), fun c0 => ds_choose3 (q0' := (T, some i.toInt.toNat, none)) t i (-1) (by omega) q ⟨by omega, Or.inr ⟨i0, by rw [← eL]; omega⟩⟩ hc ⟨tTI, i32_of (by omega), rfl⟩ (fun y' S' q' hc' => ihm y' S' (i + 1) (by omega) (by omega) (by omega) (fC_mono (by omega) q') (by rw [ryes (hmay.mp c0), ← List.append_assoc]; exact hc'))⟩
            intro j
            induction j with
            | zero =>
              intro may jj j0 hj hmj hji
              exact sd_findChoices_159 _ _ _ _ ⟨fun _ => last may (by rw [ltP_iff hqi, ← show jj.toInt.toNat = i.toInt.toNat by omega]; exact hmj), fun c => absurd (t_le.mpr (by omega)) c⟩
            | succ j ihj =>
              intro may jj j0 hj hmj hji
              refine sd_findChoices_159 _ _ _ _ ⟨fun c3 => last may (by rw [t_le] at c3; rw [ltP_iff hqi, ← show jj.toInt.toNat = i.toInt.toNat by omega]; exact hmj), fun c3 => ?_⟩
              rw [t_le] at c3
              have jn : (jj + 1).toInt = jj.toInt + 1 := by rw [t_add (by omega) (by omega), k1]
              obtain ⟨a1, a2, _, _⟩ := rl_at ht ry (i := jj) j0 (by rw [e80]; omega)
              obtain ⟨b1, b2, _, _⟩ := rl_at ht ry (i := i) i0 (by rw [e80]; omega)
              have hjl : jj.toInt.toNat < l.length := by omega
              obtain ⟨qj, hqj⟩ : ∃ qj, l[jj.toInt.toNat]? = some qj := ⟨_, List.getElem?_eq_getElem hjl⟩
              obtain ⟨ej, lj24⟩ := cel jj j0 (by omega) qj hqj
              obtain ⟨ei, li24⟩ := cel i i0 (by omega) qi hqi
              have jn' : (jj + 1).toInt.toNat = jj.toInt.toNat + 1 := by omega
              have eqc : Int32.ofNat qj.1 = Int32.ofNat qi.1 ↔ qj.1 = qi.1 := by
                have e9 : (Int32.ofNat qj.1).toInt = (qj.1 : Nat) := Int32.toInt_ofNat_of_lt (by omega)
                have e8 : (Int32.ofNat qi.1).toInt = (qi.1 : Nat) := Int32.toInt_ofNat_of_lt (by omega)
                rw [t_eq, e9, e8]; omega
              rw [ej, ei]
              refine ⟨fun c0 => ihj _ _ (by omega) (by omega) ⟨fun z => absurd rfl z, fun z => absurd c0 (hmj.mpr (fun j' q' hj' => z j' q' (by omega)))⟩ (by omega), fun c0 => ⟨a1, a2, b1, b2, fun e0 => ihj _ _ (by omega) (by omega) ⟨fun z => absurd rfl z, fun z => absurd (eqc.mp e0) (z _ qj (by omega) hqj)⟩ (by omega), fun n0 => ihj _ _ (by omega) (by omega) ⟨fun _ j' q' hj' hq' => ?_, fun _ => by decide⟩ (by omega)⟩⟩
              by_cases c9 : j' = jj.toInt.toNat
              · rw [c9, hqj] at hq'
                rw [← Option.some.inj hq']
                exact fun z => n0 (eqc.mpr z)
              · exact hmj.mp c0 j' q' (by omega) hq'
          exact lj i.toInt.toNat 1 0 (by decide) (by rw [k0]; omega) ⟨fun _ j' q' hj' => absurd hj' (by rw [k0]; exact Nat.not_lt_zero _), fun _ => by decide⟩ (by rw [k0]; exact i0)
      have q144 : ∀ (y : gd) (S1 : gS), fC x S (14 * t.toInt + 6) y S1 → chE y (prM C wa M T ++ acT C wa M T) → MD (d + 2) z_findChoices 144 [(0, vr 0), (1, vi t), (2, vi 0)] [] S1 y (Dv Fv) := fun y S1 q hc => p144 L.toInt.toNat y S1 0 (by decide) (by rw [k0]; exact hL0) (by rw [k0]; omega) (fC_mono (by rw [k0]; omega) q) (by rw [k0]; simp; exact hc)
      have riy : RI y S1 := RI_md q.1 rfl rfl q.2.1 ri
      have e73 : y.1 73 = x.1 73 := q.1.2.1 73 (by decide) (by decide)
      have e77 : y.1 77 = x.1 77 := q.1.2.1 77 (by decide) (by decide)
      have My : MM1 y C M := MM1_md q.1 rfl hM
      have Ky : MK y C := MK_md q.1 rfl rfl hK
      refine ds_hasAct3 (M := M) t ht riy Ky hN hX My (wa := wa) (by rw [q.1.1 68 (by decide)]; exact wy) w01 hlt (fun nc => ⟨fun _ => q144 y S1 (fC_mono (by omega) q) (by rw [← eT] at nc; unfold acT; rw [if_neg nc, List.append_nil]; exact hl), fun z => absurd rfl z⟩) (fun g1 g2 can => ⟨fun z => absurd z (by decide), fun _ => ⟨ht, q.2.2.1, ?_⟩⟩)
      rw [← eT] at can g1 g2
      have ho : chO x t (-1) := ⟨by omega, Or.inl ⟨rfl, by rw [← eT, ← e73]; exact g1, by rw [← eT, ← e77]; exact g2⟩⟩
      have p127 : ∀ (z : gd) (S2 : gS), fC x S (14 * t.toInt + 6) z S2 → ∀ V : List Nat, chE z (prM C wa M T ++ V.map (fun o => (T, none, some o))) → (V = [] → acT C wa M T = [(T, none, none)]) → (¬ V = [] → acT C wa M T = V.map (fun o => (T, none, some o))) → MD (d + 2) z_findChoices 127 [(0, vr 0), (1, vi t), (3, vi (y.1 0 84))] [] S2 z (Dv Fv) := by
        intro z S2 qz V hV V0 V1
        have lenV : (z.1 0 84).toInt = (y.1 0 84).toInt + V.length := by rw [hV.1, hl.1, List.length_append, List.length_map]; omega
        refine sd_findChoices_127 _ _ ⟨qz.2.2.1, fun ne => q144 z S2 qz (by rw [V1 (fun z9 => ne (t_eq.mpr (by rw [lenV, z9]; simp)))]; exact hV), fun e => ?_⟩
        have Vn : V = [] := List.eq_nil_of_length_eq_zero (by rw [e] at lenV; omega)
        rw [Vn] at hV
        have hV : chE z (prM C wa M T) := by simpa using hV
        have qz2 : fC x S (14 * t.toInt) z S2 := ⟨qz.1, qz.2.1, qz.2.2.1, qz.2.2.2.1, by rw [e]; exact q.2.2.2.2.1, qz.2.2.2.2.2⟩
        exact ds_choose3 (q0' := (T, none, none)) t (-1) (-1) (by omega) qz2 ho hV ⟨tTI, rfl, rfl⟩ (fun y' S' q' hc' => q144 y' S' (fC_mono (by omega) q') (by rw [V0 Vn]; exact hc'))
      have q127 : ¬ (soM C (M.2.2 T) = 8 ∧ (stN C (M.2.2 T).2.2.1).2.2.2.2.2.2.1 = false ∧ (M.2.1 (obM C (M.2.2 T).2.2.1)).1 = T + 1 ∧ ¬ waM C M (obM C (M.2.2 T).2.2.1) = []) → MD (d + 2) z_findChoices 127 [(0, vr 0), (1, vi t), (3, vi (y.1 0 84))] [] S1 y (Dv Fv) := fun n => p127 y S1 (fC_mono (by omega) q) [] (by simpa using hl) (fun _ => by unfold acT; rw [if_pos can, if_neg n]) (fun z => absurd rfl z)
      obtain ⟨kv, kn, _, _⟩ := RI_step riy T6 g1
      obtain ⟨s1, s2, s3⟩ := srt_of riy T6 g1
      obtain ⟨K, eK⟩ : ∃ K, K = (M.2.2 T).2.2.1 := ⟨_, rfl⟩
      obtain ⟨m73, l73, m75, m74, m77, l77, -⟩ := My.2.2 T T6
      rw [← eK] at m74
      have kK : (y.1 74 T).toNatClampNeg = K := by rw [t_cl, m74]; rfl
      have l52 : (y.1 0 52).toInt = C.1.length := Ky.1.1
      obtain ⟨st, hst⟩ : ∃ st, C.1[K]? = some st := ⟨_, List.getElem?_eq_getElem (by omega)⟩
      have esN := stN_is hst
      obtain ⟨k54, k55, k56, k57, -⟩ := Ky.1.2 _ st hst
      have ns := hN.1 _ st hst
      have o16 : st.1 < 16 := by
        have a := ((riy.2 T T6).1.2.2 g1).2
        rw [kK, k54] at a
        exact (mWh_i st.1 ns.1.1).1.mp a
      obtain ⟨w2, w1', w0'⟩ := wai_2 _ (show (M.2.2 T).2.2.2.1 < 3 by omega)
      rw [← m77] at w2 w1' w0'
      have so8 : srt y T = 8 ↔ soM C (M.2.2 T) = 8 := by
        unfold srt soM
        rw [← eK, esN]
        by_cases c9 : y.1 77 T = 2
        · rw [if_pos c9, if_neg (by have := w2.mp c9; omega)]; decide
        · have z0 : (M.2.2 T).2.2.2.1 = 0 := by
            have a1 : ¬ (M.2.2 T).2.2.2.1 = 2 := fun z => c9 (w2.mpr z)
            have a2 : ¬ (M.2.2 T).2.2.2.1 = 1 := fun z => g2 (w1'.mpr z)
            omega
          rw [if_neg c9, if_pos z0, kK, k55 o16, t_eq, op_16 _ o16, show (8 : Int32).toInt = 8 from rfl]; omega
      rw [← eT]
      refine ds_sortOf t ht (by rw [← eT]; exact kv) ?_
      rw [← eT]
      have st8 : soM C (M.2.2 T) = 8 → st.1 = 8 := fun z => by
        unfold soM at z
        rw [← eK, esN] at z
        by_cases c9 : (M.2.2 T).2.2.2.1 = 0
        · rw [if_pos c9] at z; exact z
        · rw [if_neg c9] at z; exact absurd z (by decide)
      rw [kK, k56, k57]
      obtain ⟨-, -, -, nx4, -⟩ := hX _ st hst
      have flg : st.1 = 8 → (st.2.2.2.2.2.1 = 0 ↔ st.2.2.2.2.2.2.1 = false) := fun z => by
        rw [nx4 z]
        cases st.2.2.2.2.2.2.1 with
        | true => exact ⟨fun z => absurd z (by decide), fun z => nomatch z⟩
        | false => exact ⟨fun _ => rfl, fun _ => rfl⟩
      have obK : obM C (M.2.2 T).2.2.1 = st.2.2.2.2.1.toNatClampNeg := by unfold obM; rw [← eK, esN]
      rw [obK, ← eK, esN] at q127
      refine ⟨fun n8 => q127 (fun z => n8 (so8.mpr z.1)), fun e8 => ⟨kv, fun nf => q127 (fun z => nf ((flg (st8 (so8.mp e8))).mpr z.2.1)), fun f0 => ⟨kv, ?_, ?_⟩⟩⟩
      · have o := s2 (Or.inl (by rw [e8]; decide))
        rw [kK, k56] at o
        rw [vp_in_iff]; omega
      have ob6 := s2 (Or.inl (by rw [e8]; decide))
      rw [kK, k56] at ob6
      have B6 : st.2.2.2.2.1.toNatClampNeg < 6 := by rw [t_cl]; omega
      obtain ⟨e71, l71, -⟩ := My.2.1 _ B6
      have ht1 := hol_t _ (show (M.2.1 st.2.2.2.2.1.toNatClampNeg).1 < 7 by omega) T T6
      rw [← e71, ← tTI] at ht1
      refine ⟨fun nh => q127 (fun z => nh (ht1.mpr z.2.2.1)), fun yh => ?_⟩
      · -- those that it may wake
        have enW : ∀ (z : gd) (S2 : gS), fC x S (14 * t.toInt + 6) z S2 → chE z (prM C wa M T ++ ((List.range C.2.1.length).filter (waP C M st.2.2.2.2.1.toNatClampNeg)).map (fun o => (T, none, some o))) → MD (d + 2) z_findChoices 127 [(0, vr 0), (1, vi t), (3, vi (y.1 0 84))] [] S2 z (Dv Fv) := fun z S2 qz hc => by
          have wm : waM C M st.2.2.2.2.1.toNatClampNeg = (List.range C.2.1.length).filter (waP C M st.2.2.2.2.1.toNatClampNeg) := rfl
          rw [← wm] at hc
          refine p127 z S2 qz _ hc (fun V0 => ?_) (fun V1 => ?_)
          · unfold acT
            rw [if_pos can, obK, if_neg (fun z9 => z9.2.2.2 V0)]
          · unfold acT
            rw [if_pos can, obK, ← eK, esN, if_pos ⟨so8.mp e8, (flg (st8 (so8.mp e8))).mp f0, ht1.mp yh, V1⟩]
        have p72 : ∀ (m : Nat) (z : gd) (S2 : gS) (o : Int32), 0 ≤ o.toInt → o.toInt ≤ (x.1 0 25).toInt → (x.1 0 25).toInt - o.toInt ≤ m → fC x S (14 * t.toInt + o.toInt) z S2 → chE z (prM C wa M T ++ ((List.range o.toInt.toNat).filter (waP C M st.2.2.2.2.1.toNatClampNeg)).map (fun o => (T, none, some o))) → MD (d + 2) z_findChoices 72 [(0, vr 0), (1, vi t), (2, vi (y.1 74 T)), (3, vi (y.1 0 84)), (4, vi o)] [] S2 z (Dv Fv) := by
          intro m
          induction m with
          | zero =>
            intro z S2 o o0 o1 hm qz hc
            have g25 : z.1 0 25 = x.1 0 25 := qz.1.1 25 (by decide)
            exact sd_findChoices_72 _ _ _ _ ⟨fun _ => enW z S2 (fC_mono (by omega) qz) (by rw [show o.toInt.toNat = C.2.1.length by omega] at hc; exact hc), fun c => absurd (t_le.mpr (by rw [g25]; omega)) c⟩
          | succ m ihm =>
            intro z S2 o o0 o1 hm qz hc
            have g25 : z.1 0 25 = x.1 0 25 := qz.1.1 25 (by decide)
            refine sd_findChoices_72 _ _ _ _ ⟨fun c2 => enW z S2 (fC_mono (by omega) qz) (by rw [t_le, g25] at c2; rw [show o.toInt.toNat = C.2.1.length by omega] at hc; exact hc), fun c2 => ?_⟩
            rw [t_le, g25] at c2
            have ov : vp_in o 6 := by rw [vp_in_iff]; omega
            have oi : (o + 1).toInt = o.toInt + 1 := by rw [t_add (by omega) (by omega), k1]
            have riz : RI z S2 := RI_md qz.1 rfl rfl qz.2.1 ri
            have raz := (riz.2 _ (vt ov)).1
            obtain ⟨O, eO⟩ : ∃ O, O = o.toNatClampNeg := ⟨_, rfl⟩
            have oO : o.toInt.toNat = O := by rw [eO, t_cl]
            have oI : o = Int32.ofNat O := i32_of (by omega)
            have O6 : O < 6 := by omega
            have rs : List.range (o + 1).toInt.toNat = List.range o.toInt.toNat ++ [O] := by rw [show (o + 1).toInt.toNat = o.toInt.toNat + 1 by omega, List.range_succ, oO]
            have rno : waP C M st.2.2.2.2.1.toNatClampNeg O = false → ((List.range (o + 1).toInt.toNat).filter (waP C M st.2.2.2.2.1.toNatClampNeg)).map (fun o => ((T, none, some o) : gCh)) = ((List.range o.toInt.toNat).filter (waP C M st.2.2.2.2.1.toNatClampNeg)).map (fun o => (T, none, some o)) := fun z => by
              rw [rs, List.filter_append]
              simp [z]
            have ryes : waP C M st.2.2.2.2.1.toNatClampNeg O = true → ((List.range (o + 1).toInt.toNat).filter (waP C M st.2.2.2.2.1.toNatClampNeg)).map (fun o => ((T, none, some o) : gCh)) = ((List.range o.toInt.toNat).filter (waP C M st.2.2.2.2.1.toNatClampNeg)).map (fun o => (T, none, some o)) ++ [(T, none, some O)] := fun z => by
              rw [rs, List.filter_append]
              simp [z]
            have nx : ∀ (z' : gd) (S' : gS), fC x S (14 * t.toInt + o.toInt + 1) z' S' → chE z' (prM C wa M T ++ ((List.range (o + 1).toInt.toNat).filter (waP C M st.2.2.2.2.1.toNatClampNeg)).map (fun o => (T, none, some o))) → MD (d + 2) z_findChoices 72 [(0, vr 0), (1, vi t), (2, vi (y.1 74 T)), (3, vi (y.1 0 84)), (4, vi (o + 1))] [] S' z' (Dv Fv) := fun z' S' q' hc' => ihm z' S' (o + 1) (by omega) (by omega) (by omega) (fC_mono (by omega) q') hc'
            have Mz : MM1 z C M := MM1_md qz.1 rfl hM
            have Kz : MK z C := MK_md qz.1 rfl rfl hK
            obtain ⟨n73, nl73, -, n74, n77, nl77, -⟩ := Mz.2.2 O O6
            obtain ⟨-, b1, -⟩ := wai_2 _ (show (M.2.2 O).2.2.2.1 < 3 by omega)
            rw [← n77] at b1
            rw [← eO]
            have nof : ¬ ((M.2.2 O).2.2.2.1 = 1 ∧ obM C (M.2.2 O).2.2.1 = st.2.2.2.2.1.toNatClampNeg) → waP C M st.2.2.2.2.1.toNatClampNeg O = false := fun n9 => by
              cases e9 : waP C M st.2.2.2.2.1.toNatClampNeg O with
              | false => rfl
              | true =>
                unfold waP at e9
                simp at e9
                exact absurd e9 n9
            have kz56 : z.1 56 (y.1 74 T).toNatClampNeg = st.2.2.2.2.1 := by rw [kK]; exact (Kz.1.2 _ st hst).2.2.1
            rw [kz56]
            refine ⟨ov, fun n1 => nx z S2 (fC_mono (by omega) qz) (by rw [rno (nof (fun z9 => n1 (b1.mpr z9.1)))]; exact hc), fun w1 => ⟨ov, by rw [← eO] at raz; rw [vp_in_iff]; exact ⟨raz.1, raz.2.1⟩, kv, ?_⟩⟩
            have g1z : z.1 73 O = 1 := by
              rcases (riz.2 O O6).2.1 with z9 | ⟨-, z9, -⟩
              · rw [w1] at z9; exact absurd z9 (by decide)
              · exact z9
            have g5z : z.1 55 (z.1 74 O).toNatClampNeg = 7 := by
              rcases (riz.2 O O6).2.1 with z9 | ⟨-, -, z9⟩
              · rw [w1] at z9; exact absurd z9 (by decide)
              · exact z9
            have avz := (RI_step riz O6 g1z).2.2.2
            rw [g5z] at avz
            have ob : z.1 56 (z.1 74 O).toNatClampNeg = st.2.2.2.2.1 ↔ obM C (M.2.2 O).2.2.1 = st.2.2.2.2.1.toNatClampNeg := by
              have lo : 0 ≤ (z.1 56 (z.1 74 O).toNatClampNeg).toInt := by
                rcases avz.2 with z9 | z9 | z9
                · exact z9.2.2.1
                · exact z9.2.2.1
                · exact absurd z9.1 (by decide)
              have l52z : (z.1 0 52).toInt = C.1.length := Kz.1.1
              have kl : (M.2.2 O).2.2.1 < C.1.length := by
                have := (RI_step riz O6 g1z).2.1
                omega
              obtain ⟨so, hso⟩ : ∃ so, C.1[(M.2.2 O).2.2.1]? = some so := ⟨_, List.getElem?_eq_getElem kl⟩
              obtain ⟨-, -, g56, -⟩ := Kz.1.2 _ so hso
              have ec : (z.1 74 O).toNatClampNeg = (M.2.2 O).2.2.1 := by rw [t_cl, n74]; rfl
              rw [ec, g56] at lo ⊢
              unfold obM
              rw [stN_is hso, t_cl, t_cl, t_eq]
              omega
            refine ⟨fun n9 => nx z S2 (fC_mono (by omega) qz) (by rw [rno (nof (fun z9 => n9 (ob.mpr z9.2)))]; exact hc), fun e9 => ds_choose3 (q0' := (T, none, some O)) t (-1) o (by omega) qz ho hc ⟨tTI, rfl, oI⟩ (fun y' S' q' hc' => nx y' S' q' (by rw [ryes (by unfold waP; simp; exact ⟨b1.mp w1, ob.mp e9⟩), ← List.append_assoc]; exact hc'))⟩
        exact p72 (x.1 0 25).toInt.toNat y S1 0 (by decide) (by rw [k0]; omega) (by rw [k0]; omega) (fC_mono (by rw [k0]; omega) q) (by rw [k0]; simpa using hl)
  refine sd_findChoices_0 (fun y e => ?_)
  have m := md_f x 84 0
  rw [← e] at m
  have e0 : y.1 0 84 = 0 := by rw [e, si_get, if_pos ⟨rfl, rfl⟩]
  refine p7 (x.1 0 25).toInt.toNat y _ 0 (by decide) (by rw [k0]; exact hT) (by rw [k0]; omega) ⟨md_w m (by decide) (by decide), ssub_ad _ _ _, Or.inl ⟨rfl, rfl⟩, by rw [e0]; decide, by rw [e0, k0]; omega, fun i hi => ?_⟩ ⟨by rw [e0]; rfl, fun i q hi => nomatch hi⟩
  rw [e0, k0] at hi
  omega
end DF3
end
section
/-! the machine: what holds of every state -/
def wTq (w : Nat) (h : gTq) : Prop := (¬ h.1 = 3 → h.2.1 = 0) ∧ (h.2.2.2.1 = 0 → h.2.2.2.2.1 = 0) ∧ (¬ h.1 = 1 → h.2.2.2.1 = 0) ∧ (w = 0 → h.2.2.2.2.2.2.1 = [])
def WMw (w : Nat) (M : gMa) : Prop := ∀ t, t < 6 → wTq w (M.2.2 t)
section PIN
variable {C : gCo} {M : gMa} {w t s c n own : Nat} {me e f : Int32} {wk : Option Nat} {lv : Nat → Int32} {h : gTq} {r : gTr}
theorem WMw_WM (q : WMw w M) : WM M := fun t ht => ⟨(q t ht).1, (q t ht).2.1, (q t ht).2.2.1⟩
theorem ow1_num {st : gNs} (q : ow1 me s st lv = .inl r) : ¬ r.1 = 3 → r.2.1 = 0 := by
  unfold ow1 at q
  split at q
  · cases q
    exact fun _ => rfl
  · split at q
    · exact nomatch q
    · split at q
      · cases q
        exact fun z => absurd rfl z
      · split at q
        · cases q
          exact fun z => absurd rfl z
        · exact nomatch q
theorem setP_num : ∀ {n own s : Nat} {lv : Nat → Int32}, setP C me n own s lv = some r → ¬ r.1 = 3 → r.2.1 = 0 := by
  intro n
  induction n with
  | zero => intro own s lv q; exact absurd q (by simp [setP])
  | succ n ih =>
    intro own s lv q
    cases hs : C.1[s]? with
    | none =>
      rw [setP] at q
      simp only [hs] at q
      exact absurd q (by simp)
    | some st =>
      by_cases c1 : st.1 < 16
      · rw [set_act hs c1] at q
        cases q
        exact fun _ => rfl
      · by_cases c2 : st.1 < 20 ∧ 300 ≤ own
        · rw [set_6 hs c1 c2] at q
          cases q
          exact fun z => absurd rfl z
        · cases e1 : ow1 me s st lv with
          | inl r9 =>
            rw [set_l hs c1 c2 e1] at q
            cases q
            exact ow1_num e1
          | inr z =>
            rw [set_r hs c1 c2 e1] at q
            exact ih q
theorem owR_num : ¬ (owR C me s lv).1 = 3 → (owR C me s lv).2.1 = 0 := by
  by_cases q : ∃ r, ∃ n, setP C me n 0 s lv = some r
  · obtain ⟨r, n, q⟩ := q
    rw [owR_is q]
    exact setP_num q
  · have : owR C me s lv = (0, 0, 0, fun _ => 0) := by
      unfold owR
      rw [dif_neg q]
    rw [this]
    exact fun _ => rfl
theorem wT_thN (h3 : h.2.2.2.1 = 0) (h4 : h.2.2.2.2.1 = 0) (h6 : w = 0 → h.2.2.2.2.2.2.1 = []) : wTq w (thN C t h s lv) := ⟨owR_num, fun _ => h4, fun _ => h3, h6⟩
theorem wT_th0 : wTq w th0 := ⟨fun _ => rfl, fun _ => rfl, fun _ => rfl, fun _ => rfl⟩
theorem WMw_fs : WMw w (fsM C) := fun t _ => by
  by_cases q : t < C.2.1.length
  · obtain ⟨q9, hq⟩ : ∃ q9, C.2.1[t]? = some q9 := ⟨_, List.getElem?_eq_getElem q⟩
    by_cases c1 : q9.2 = 1
    · rw [fs_idle hq c1]; exact wT_th0
    · rw [fs_go hq c1]; exact wT_thN rfl rfl (fun _ => rfl)
  · rw [fs_out (by omega)]; exact wT_th0
/-- what an act does to the others keeps it; the thread itself is ready to go on -/
theorem WMw_ef (q : WMw w M) (t6 : t < 6) (h1 : (M.2.2 t).1 = 1) (hso : s = 15 ∨ (M.2.2 t).2.2.2.1 = 0) (h9 : s = 9 → c < 6 → (M.2.2 c).1 = 0) (n9 : s = 9 → ¬ c = t) (n7 : ¬ s = 7) : (∀ t', t' < 6 → ¬ t' = t → wTq w ((efM C w M t s c e f wk).1.2.2 t')) ∧ ((efM C w M t s c e f wk).1.2.2 t).2.2.2.1 = 0 ∧ ((efM C w M t s c e f wk).1.2.2 t).2.2.2.2.1 = 0 ∧ (w = 0 → ((efM C w M t s c e f wk).1.2.2 t).2.2.2.2.2.2.1 = []) := by
  have same : ¬ s = 15 → ∀ E : gMa, E.2.2 = M.2.2 → (∀ t', t' < 6 → ¬ t' = t → wTq w (E.2.2 t')) ∧ (E.2.2 t).2.2.2.1 = 0 ∧ (E.2.2 t).2.2.2.2.1 = 0 ∧ (w = 0 → (E.2.2 t).2.2.2.2.2.2.1 = []) := fun n15 E hE => by
    have w0 := hso.resolve_left n15
    rw [hE]
    exact ⟨fun t' ht' _ => q t' ht', w0, (q t t6).2.1 w0, (q t t6).2.2.2⟩
  have self : ∀ (E : gMa) (hh : gTq), E.2.2 = upf M.2.2 t hh → hh.2.2.2.1 = 0 → hh.2.2.2.2.1 = 0 → (w = 0 → hh.2.2.2.2.2.2.1 = []) → (∀ t', t' < 6 → ¬ t' = t → wTq w (E.2.2 t')) ∧ (E.2.2 t).2.2.2.1 = 0 ∧ (E.2.2 t).2.2.2.2.1 = 0 ∧ (w = 0 → (E.2.2 t).2.2.2.2.2.2.1 = []) := fun E hh hE a1 a2 a3 => by
    rw [hE, upf_eq]
    exact ⟨fun t' ht' ne => by rw [upf_ne ne]; exact q t' ht', a1, a2, a3⟩
  by_cases c0 : s = 0
  · rw [c0, ef_0]; exact same (by omega) _ rfl
  by_cases c1 : s = 1
  · have w0 := hso.resolve_left (by omega)
    rw [c1, ef_1]
    by_cases z : w = 0 ∨ suM C c = true
    · rw [if_pos z]; exact same (by omega) _ rfl
    · rw [if_neg z]
      exact self _ _ rfl w0 ((q t t6).2.1 w0) (fun z9 => absurd (Or.inl z9) z)
  by_cases c2 : s = 2
  · rw [c2, ef_2]; exact same (by omega) _ rfl
  by_cases c3 : s = 3
  · rw [c3, ef_3]; exact same (by omega) _ rfl
  by_cases c4 : s = 4
  · rw [c4, ef_4]; exact same (by omega) _ rfl
  by_cases c5 : s = 5
  · rw [c5, ef_5]; exact same (by omega) _ rfl
  by_cases c6 : s = 6
  · rw [c6, ef_6]; exact same (by omega) _ rfl
  by_cases c8 : s = 8
  · have w0 := hso.resolve_left (by omega)
    rw [c8, ef_8]
    have wt : ∀ t', wkT C M t c wk t' = M.2.2 t' ∨ ((M.2.2 t').2.2.2.1 = 1 ∧ wkT C M t c wk t' = ((M.2.2 t').1, (M.2.2 t').2.1, (M.2.2 t').2.2.1, 2, (M.2.2 t').2.2.2.2)) := fun t' => by
      unfold wkT
      split
      · next z => exact Or.inr ⟨z.2.1, rfl⟩
      · exact Or.inl rfl
    refine ⟨fun t' ht' _ => ?_, ?_⟩
    · show wTq w (wkT C M t c wk t')
      rcases wt t' with z | ⟨z1, z⟩
      · rw [z]; exact q t' ht'
      · rw [z]
        obtain ⟨a1, a2, a3, a4⟩ := q t' ht'
        refine ⟨a1, fun z9 => ?_, fun z9 => ?_, a4⟩
        · exact nomatch z9
        · have := a3 z9
          omega
    · show (wkT C M t c wk t).2.2.2.1 = 0 ∧ (wkT C M t c wk t).2.2.2.2.1 = 0 ∧ (w = 0 → (wkT C M t c wk t).2.2.2.2.2.2.1 = [])
      rcases wt t with z | ⟨z1, -⟩
      · rw [z]; exact ⟨w0, (q t t6).2.1 w0, (q t t6).2.2.2⟩
      · omega
  by_cases c9 : s = 9
  · cases hq : C.2.1[c]? with
    | none =>
      have a : efM C w M t 9 c e f wk = (match C.2.1[c]? with | some q => upT M c (thN C c (M.2.2 c) q.1 (M.2.2 c).2.2.2.2.2.2.2) | none => M, 0) := by unfold efM; rfl
      rw [c9, a, hq]; exact same (by omega) _ rfl
    | some q9 =>
      have w0 := hso.resolve_left (by omega)
      rw [c9, ef_9 hq]
      refine ⟨fun t' ht' _ => ?_, ?_⟩
      · show wTq w (upf M.2.2 c _ t')
        by_cases z : t' = c
        · rw [z, upf_eq]
          rw [z] at ht'
          have z0 := h9 c9 ht'
          have w9 := (q c ht').2.2.1 (by omega)
          exact wT_thN w9 ((q c ht').2.1 w9) (q c ht').2.2.2
        · rw [upf_ne z]; exact q t' ht'
      · show (upf M.2.2 c _ t).2.2.2.1 = 0 ∧ (upf M.2.2 c _ t).2.2.2.2.1 = 0 ∧ (w = 0 → (upf M.2.2 c _ t).2.2.2.2.2.2.1 = [])
        rw [upf_ne (fun z => n9 c9 z.symm)]
        exact ⟨w0, (q t t6).2.1 w0, (q t t6).2.2.2⟩
  by_cases c13 : s = 13
  · have w0 := hso.resolve_left (by omega)
    rw [c13, ef_13]
    exact self _ _ rfl w0 ((q t t6).2.1 w0) (q t t6).2.2.2
  by_cases c14 : s = 14
  · have w0 := hso.resolve_left (by omega)
    rw [c14, ef_14]
    exact self _ _ rfl w0 ((q t t6).2.1 w0) (q t t6).2.2.2
  by_cases c15 : s = 15
  · rw [c15, ef_15]
    exact self _ _ rfl rfl rfl (q t t6).2.2.2
  · have : efM C w M t s c e f wk = (M, 0) := by
      unfold efM
      rw [if_neg c0, if_neg c1, if_neg c2, if_neg c3, if_neg c4, if_neg c5, if_neg c6, if_neg n7, if_neg c8, if_neg c9, if_neg c13, if_neg c14, if_neg c15]
    rw [this]; exact same c15 _ rfl
end PIN
end
