/-! the model: all that the program can do, as the machine says -/
/-- what is told of all states, the other way's left -/
def TKx (z9 : gd) (C : gCo) (nl wn W : Nat) (T : gTy) (y : gd) : Prop := MLo y W (loS C wn nl T T.1.length) ∧ BLo (loS C wn nl T T.1.length) T.1.length ∧ LW3 z9 y W
def TJo (C : gCo) (nl wn : Nat) (A : Nat → gd) (W : Nat) (T : gTy) (y : gd) : Prop := (∀ s p, T.1[s]? = some p → AM C wn p.1 (A s) ∧ MCn C nl p.1 ∧ NBm p.1) ∧ FN3 C wn (fun f => y.1 126 (11 * W + f)) T T.1.length ∧ (y.1 121 W = if T.2 = true then 1 else 0) ∧ ∀ s9 p9, T.1[s9]? = some p9 → 0 < s9 → (y.1 130 (3000 * W + s9)).toInt = (p9.2.1 : Nat) ∧ (y.1 131 (3000 * W + s9)).toInt = (p9.2.2 : Nat)
def TJe (z9 : gd) (C : gCo) (nl wn W : Nat) (T : gTy) (y : gd) : Prop := MLc y W (loS C wn nl T T.1.length) ∧ LW3 z9 y W
/-- a lock that is taken is one of those that there are -/
theorem ob_lt {C : gCo} {nl w : Nat} {M : gMa} (hLk : LkN C nl) (n6 : nl ≤ 6) (t : Nat) (h5 : soM C (M.2.2 t) = 5) (_ : canM C w M t) : obM C (M.2.2 t).2.2.1 < 6 := by
  have w0 : (M.2.2 t).2.2.2.1 = 0 := by
    by_cases w0 : (M.2.2 t).2.2.2.1 = 0
    · exact w0
    · unfold soM at h5; rw [if_neg w0] at h5; omega
  unfold soM at h5
  rw [if_pos w0] at h5
  cases hs : C.1[(M.2.2 t).2.2.1]? with
  | none =>
    unfold stN at h5
    rw [hs] at h5
    exact absurd h5 (by decide)
  | some st =>
    have e := stN_is hs
    rw [e] at h5
    have := hLk _ st hs (by omega) (by omega)
    unfold obM
    rw [e]; omega
/-- what the memory tells of a trying's states -/
def TJ (z9 : gd) (C : gCo) (nl wn : Nat) (A : Nat → gd) (W : Nat) (T : gTy) (y : gd) : Prop := (∀ s p, T.1[s]? = some p → AM C wn p.1 (A s) ∧ MCn C nl p.1 ∧ NBm p.1) ∧ FN3 C wn (fun f => y.1 126 (11 * W + f)) T T.1.length ∧ (y.1 121 W = if T.2 = true then 1 else 0) ∧ (∀ s p, T.1[s]? = some p → 0 < s → (y.1 130 (3000 * W + s)).toInt = (p.2.1 : Nat) ∧ (y.1 131 (3000 * W + s)).toInt = (p.2.2 : Nat)) ∧ TKx z9 C nl wn W T y
theorem TJ_f {z9 : gd} {C : gCo} {nl wn W : Nat} {A : Nat → gd} {T : gTy} {y y' : gd} (e1 : y'.1 121 = y.1 121) (e2 : y'.1 126 = y.1 126) (e3 : y'.1 130 = y.1 130) (e4 : y'.1 131 = y.1 131) (e5 : eqL y y') (h : TJ z9 C nl wn A W T y) : TJ z9 C nl wn A W T y' := by
  obtain ⟨h1, h2, h3, h4, h5, h6, h7⟩ := h
  exact ⟨h1, by rw [e2]; exact h2, by rw [e1]; exact h3, by rw [e3, e4]; exact h4, MLo_f e5 h5, h6, LW2_f e5 h7.1, fun v h1 h2 => by rw [e1]; exact h7.2 v h1 h2⟩
theorem TJ_mi {z9 : gd} {C : gCo} {nl wn W : Nat} {A : Nat → gd} {T : gTy} {y y' : gd} {L B : List Nat} (m : mi L B y y') (hN : [121, 126, 130, 131, 122, 123, 124, 125, 127, 128, 129].all (fun k => !B.elem k) = true) (h : TJ z9 C nl wn A W T y) : TJ z9 C nl wn A W T y' := by
  have g := fun k (h0 : k ≠ 0) hk => m.2 k h0 (all_no hN k hk)
  exact TJ_f (g 121 (by decide) (by decide)) (g 126 (by decide) (by decide)) (g 130 (by decide) (by decide)) (g 131 (by decide) (by decide)) (fun c hc => by rcases hc with e | e | e | e | e | e | e <;> rw [e] <;> exact g _ (by decide) (by decide)) h
/-- rows kept can be sought -/
def hcR (y : gd) (n : Nat) : Prop := hsR y (n : Nat) ∧ chC y n
theorem hcR_f {y y' : gd} {n : Nat} (e1 : y.1 134 = y'.1 134) (e2 : y.1 135 = y'.1 135) (e3 : ∀ s i, s < n → i < 222 → y'.1 133 (240 * s + i) = y.1 133 (240 * s + i)) (h : hcR y n) : hcR y' n := by
  obtain ⟨h1, h2⟩ := h
  refine ⟨by unfold hsR at h1 ⊢; rw [← e1, ← e2]; exact h1, fun s hs => ?_⟩
  obtain ⟨f, hf⟩ := h2 s hs
  refine ⟨f, ?_⟩
  rw [← e1, ← e2, hsO_cg (r := rwZ y' s) (r' := rwZ y s) (fun i hi => e3 s i hs hi)]
  exact hf
theorem hcR_mi {y y' : gd} {n : Nat} {L B : List Nat} (m : mi L B y y') (hN : [133, 134, 135].all (fun k => !B.elem k) = true) (h : hcR y n) : hcR y' n := by
  have g := fun k (h0 : k ≠ 0) hk => m.2 k h0 (all_no hN k hk)
  exact hcR_f (g 134 (by decide) (by decide)).symm (g 135 (by decide) (by decide)).symm (fun s i _ _ => by rw [g 133 (by decide) (by decide)]) h
/-- a state is added to a trying: what the memory tells of it, but the findings -/
theorem TJ_ad {z9 : gd} {C : gCo} {nl wn W k i : Nat} {A A' : Nat → gd} {T : gTy} {y y' y2 : gd} {M : gMa} {v : Int32} (h : TJ z9 C nl wn A W T y) (hA : ∀ s, ¬ s = T.1.length → A' s = A s) (am : AM C wn M (A' T.1.length)) (mc : MCn C nl M) (nb : NBm M) (e121 : y2.1 121 = y.1 121) (e126 : y'.1 126 = y.1 126) (e130 : ∀ s, ¬ s = T.1.length → y2.1 130 (3000 * W + s) = y.1 130 (3000 * W + s)) (e131 : ∀ s, ¬ s = T.1.length → y2.1 131 (3000 * W + s) = y.1 131 (3000 * W + s)) (f130 : (y2.1 130 (3000 * W + T.1.length)).toInt = (k : Nat)) (f131 : (y2.1 131 (3000 * W + T.1.length)).toInt = (i : Nat)) (ev : v.toInt = (T.1.length : Nat)) (fa : FAm y' y2 W v (fD C wn M 11)) (hLk : LkN C nl) (n6 : nl ≤ 6) (h3k : T.1.length < 3000) (h84 : (chM C wn M).length ≤ 84) {n : Int32} (n84 : n.toInt = ((chM C wn M).length : Nat)) (eL : eqL y y') (e121y : y'.1 121 = y.1 121) (lz : LZ2 C wn nl M (loS C wn nl T T.1.length).2.2.2.2.2 n y' y2 W C.2.1.length) : TJ z9 C nl wn A' W (T.1 ++ [(M, k, i)], T.2) y2 := by
  obtain ⟨h1, h2, h3, h4, h5, h6, h7⟩ := h
  have cs : ∀ s p, ((T.1 ++ [(M, k, i)], T.2) : gTy).1[s]? = some p → (¬ s = T.1.length ∧ T.1[s]? = some p) ∨ (s = T.1.length ∧ p = (M, k, i)) := by
    intro s p hp
    have hp : (T.1 ++ [(M, k, i)])[s]? = some p := hp
    by_cases c : s < T.1.length
    · rw [List.getElem?_append_left c] at hp
      exact Or.inl ⟨by omega, hp⟩
    · have hl := gt_lt hp
      rw [List.length_append, List.length_singleton] at hl
      have es : s = T.1.length := by omega
      rw [es, List.getElem?_append_right (Nat.le_refl _), Nat.sub_self] at hp
      exact Or.inr ⟨es, (Option.some.inj hp).symm⟩
  have hl : ((T.1 ++ [(M, k, i)], T.2) : gTy).1.length = T.1.length + 1 := by
    show (T.1 ++ _).length = _
    rw [List.length_append, List.length_singleton]
  have pre : ∀ s, s < T.1.length → ((T.1 ++ [(M, k, i)], T.2) : gTy).1[s]? = T.1[s]? := fun s hs => by
    show (T.1 ++ [(M, k, i)])[s]? = _
    exact List.getElem?_append_left hs
  have last : ((T.1 ++ [(M, k, i)], T.2) : gTy).1[T.1.length]? = some (M, k, i) := by
    show (T.1 ++ [(M, k, i)])[T.1.length]? = _
    rw [List.getElem?_append_right (Nat.le_refl _), Nat.sub_self]; rfl
  have elo : loS C wn nl (T.1 ++ [(M, k, i)], T.2) (T.1.length + 1) = loM C wn nl M (loS C wn nl T T.1.length) := by rw [loS_go last, loS_T pre]
  refine ⟨fun s p hp => ?_, ?_, by rw [e121]; exact h3, fun s p hp s0 => ?_, ?_, ?_, ?_⟩
  · rcases cs s p hp with ⟨c1, c2⟩ | ⟨c1, c2⟩
    · rw [hA s c1]; exact h1 s p c2
    · rw [c1, c2]; exact ⟨am, mc, nb⟩
  · rw [hl]
    refine FN3_next (x7 := fun f => y'.1 126 (11 * W + f)) (p := (M, k, i)) ev ?_ (FN3_T (T := T) (fun s hs => ?_) (by rw [e126]; exact h2)) fa
    · show (T.1 ++ [(M, k, i)])[T.1.length]? = _
      rw [List.getElem?_append_right (Nat.le_refl _), Nat.sub_self]; rfl
    · show (T.1 ++ [(M, k, i)])[s]? = _
      exact List.getElem?_append_left hs
  · rcases cs s p hp with ⟨c1, c2⟩ | ⟨c1, c2⟩
    · rw [e130 s c1, e131 s c1]; exact h4 s p c2 s0
    · rw [c1, c2]; exact ⟨f130, f131⟩
  · rw [hl, elo]
    exact MLo_next h3k h6 h84 (ob_lt hLk n6) n84 (MLo_f eL h5) lz
  · rw [hl, elo]
    exact BLo_next h6 h84
  · exact ⟨LW2_tr (LW2_f eL h7.1) lz.1.2.2.2, fun v v1 v2 => by rw [e121]; exact h7.2 v v1 v2⟩
section TRY3
variable {G : mG} {d D : Nat} {x z a : gd} {F : Int32 → gd → Prop} {Fv : gd → Prop} {C : gCo} {nl wn lim : Nat}
theorem sp_tryAll3 (gc : GC C) (hq2 : NCq C) (hLk : LkN C nl) (n6 : nl ≤ 6) (l24 : C.2.2.1.length ≤ 24) (w01n : wn = 0 ∨ wn = 1) (w l : Int32) (ewn : w = Int32.ofNat wn) (wv : vp_in w 2) (cp : CP z) (hKz : MK z C) (l26 : (z.1 0 26).toInt = (C.2.2.2.1.length : Nat)) (l27 : (z.1 0 27).toInt = (C.2.2.2.2.length : Nat)) (en : (z.1 0 24).toInt = (nl : Nat)) (hw : z.1 0 68 = w) (el : l.toInt = (lim : Nat)) (l1 : 1 ≤ l.toInt) (l3 : l.toInt ≤ 3000) (hD : 7 ≤ D) (h : ∀ (A : Nat → gd) (y : gd), (tryM C wn lim).1.length ≤ 3000 → TI z w.toNatClampNeg A (tryM C wn lim).1.length y → TJo C nl wn A w.toNatClampNeg (tryM C wn lim) y → TJe z C nl wn w.toNatClampNeg (tryM C wn lim) y → Fv y) : MT G D z_tryAll 0 [(0, vr 0), (1, vi w), (2, vi l)] [] z (rv Fv) := by
  obtain ⟨D, rfl⟩ : ∃ D', D = D' + 2 := ⟨D - 2, by omega⟩
  have n6L := n6
  have hN := gc.1
  have hX := gc.2.1
  have l6 := gc.2.2
  have b1n : vp_nar .boolean 1 = 1 := by decide
  have k0 : (0 : Int32).toInt = 0 := rfl
  have k1 : (1 : Int32).toInt = 1 := rfl
  have k24 : (240 : Int32).toInt = 240 := rfl
  have k40 : (4096 : Int32).toInt = 4096 := rfl
  have k3 : (3000 : Int32).toInt = 3000 := rfl
  have nb1 : ¬ vp_nar .boolean 1 = 0 := by decide
  obtain ⟨W, eW⟩ : ∃ W, W = w.toNatClampNeg := ⟨_, rfl⟩
  have W2 : W < 2 := by rw [eW]; exact vp_lt wv
  have wb := vp_in_iff.mp wv
  have cw := cl_i wb.1
  rw [← eW] at h cw
  have e32 : w32 W = w := by
    unfold w32
    by_cases q : W = 0
    · rw [if_pos q]; exact t_eq.mpr (by rw [k0]; omega)
    · rw [if_neg q]; exact t_eq.mpr (by rw [k1]; omega)
  have w01 : w = 0 ∨ w = 1 := by rw [← e32]; exact w32_01 W
  obtain ⟨a0, am0, av0, e68, pa0, st0, b0, mb0, first⟩ := start_exM cp hKz hN hX w01n w ewn w01
  -- a row unpacked
  have unp : ∀ (A : Nat → gd) (M f : Nat) (y : gd) (i : Int32) (Fq : gd → Prop), M ≤ 3000 → f < M → i.toInt = f → TI z W A M y → (∀ y', TI z W A M y' → md [] uA y y' → eqS (Sl (A f)) (A f) y' → Fq y') → MT G (D + 1) z_unpack 0 [(0, vr 0), (1, vr 133), (2, vi (240 * i))] [] y (rv Fq) := by
    intro A M f y i Fq hM hf hi q hq
    have b1 : (240 * i).toInt = 240 * i.toInt := by rw [t_mul (by rw [k24]; omega) (by rw [k24]; omega), k24]
    have cb : (240 * i).toNatClampNeg = 240 * f := by have := cl_i (a := 240 * i) (by omega); omega
    refine sp_unpack (Or.inl rfl) mk_133 ml_133 (240 * i) (by omega) (by omega) (by omega) (fun y' m' r' => ?_)
    rw [cb] at r'
    have q' := TI_mi q (mi_of m') rfl rfl rfl
    obtain ⟨p1, p2⟩ := q.2.2.2.2.2.2.2.2 f hf
    have rr := (q.2.2.2.2.2.2.1 f hf).2
    have av := (q.2.2.2.2.2.2.1 f hf).1.1
    refine hq y' q' m' (un_eq ?_ ?_ (fun t ht => ((av.1).2 t ht).2.2.2.1) (fun k hk => by rw [r' k hk, rr k hk]))
    · exact prE_tr (prE_sy p1) (prE_mi (prE_rf z) q'.1 rfl rfl)
    · rw [q'.1.1 68 (by decide), p2]
  have p320 : ∀ (A : Nat → gd) (T : gTy) (y : gd), T = tryM C wn lim → T.1.length ≤ 3000 → TI z W A T.1.length y → TJ z C nl wn A W T y → MT G (D + 2) z_tryAll 320 [(0, vr 0), (1, vi w)] [] y (rv Fv) := by
    intro A T y eT hM q qj
    subst eT
    exact sg_tryAll_320 _ (sp_sortOutcomes w wv (by rw [← eW]; exact q.2.2.2.1) (by rw [← eW]; have := q.2.2.2.2.1; omega) (fun y' m' => rv_i (h A y' hM (TI_mi q (mi_of m') rfl rfl rfl) ⟨qj.1, by rw [m'.2.1 126 (by decide) (by decide)]; exact qj.2.1, by rw [m'.2.1 121 (by decide) (by decide)]; exact qj.2.2.1, by rw [m'.2.1 130 (by decide) (by decide), m'.2.1 131 (by decide) (by decide)]; exact qj.2.2.2.1⟩ ⟨MLc_of (fun c hc => by rcases hc with e | e | e | e | e | e <;> rw [e] <;> exact m'.2.1 _ (by decide) (by decide)) qj.2.2.2.2.1, LW3_tr qj.2.2.2.2.2.2 (LW3_e (fun c hc => by rcases hc with e | e | e | e | e | e <;> rw [e] <;> exact m'.2.1 _ (by decide) (by decide)))⟩)))
  have p75 : ∀ (n : Nat) (A : Nat → gd) (T : gTy) (y : gd) (f : Int32), 0 ≤ f.toInt → f.toInt ≤ 3000 → 3000 - f.toInt ≤ n → 1 ≤ T.1.length → (T.1.length : Int) ≤ l.toInt → TI z W A T.1.length y → TJ z C nl wn A W T y → (y.1 121 W = 0 → hcR y T.1.length) → bfS C wn lim (3001 - f.toNatClampNeg) f.toNatClampNeg T = tryM C wn lim → MT G (D + 2) z_tryAll 75 [(0, vr 0), (1, vi w), (2, vi l), (4, vi f)] [] y (rv Fv) := by
    intro n
    induction n with
    | zero =>
      intro A T y f f0 f3 hn M1 Ml q qj hs hb
      obtain ⟨M, eM⟩ : ∃ M, M = T.1.length := ⟨_, rfl⟩
      have e120 := q.2.2.1
      have cf0 := cl_i f0
      rw [← eM] at e120 M1 Ml
      refine sg_tryAll_75 _ _ _ ⟨wv, ?_⟩
      rw [← eW, e120]
      exact ⟨fun _ => p320 A T y ((bfS_end (List.getElem?_eq_none (by omega))).symm.trans hb) (by omega) q qj, fun c => absurd (t_le.mpr (by rw [ofN (by omega)]; omega)) c⟩
    | succ n ih =>
      intro A T y f f0 f3 hn M1 Ml q qj hs hb
      obtain ⟨M, eM⟩ : ∃ M, M = T.1.length := ⟨_, rfl⟩
      have e120 := q.2.2.1
      have cf0 := cl_i f0
      rw [← eM] at e120 M1 Ml
      refine sg_tryAll_75 _ _ _ ⟨wv, ?_⟩
      rw [← eW, e120]
      refine ⟨fun c => p320 A T y ((bfS_end (List.getElem?_eq_none (by rw [t_le, ofN (by omega)] at c; omega))).symm.trans hb) (by omega) q qj, fun c => ⟨wv, fun np => p320 A T y ((bfS_p ?_ _ _).symm.trans hb) (by omega) q qj, fun np => ?_⟩⟩
      · apply Classical.byContradiction
        intro c9
        have := qj.2.2.1
        rw [if_neg c9] at this
        exact np this
      rw [t_le, ofN (by omega)] at c
      have hs := hs np
      have cf := cl_i f0
      obtain ⟨fn, efn⟩ : ∃ fn, fn = f.toNatClampNeg := ⟨_, rfl⟩
      rw [← efn] at cf hb
      have fM : fn < T.1.length := by omega
      obtain ⟨p, hp⟩ : ∃ p, T.1[fn]? = some p := ⟨_, List.getElem?_eq_getElem fM⟩
      rw [show 3001 - fn = (3000 - fn) + 1 by omega, bfS_go hp] at hb
      obtain ⟨amf, mcf, nbf⟩ := qj.1 fn p hp
      have fi : (f + 1).toInt = f.toInt + 1 := by rw [t_add (by omega) (by omega), k1]
      have fi1 : (f + 1).toNatClampNeg = fn + 1 := by have := cl_i (a := f + 1) (by omega); omega
      refine unp A T.1.length fn y f _ (by omega) fM (by omega) q (fun y5 q5 m5 eq5 => ?_)
      have avf := (q5.2.2.2.2.2.2.1 fn (by omega)).1.1
      refine MT_up (by omega) (MTv_mono (avf.2.2.2.2.2 G y5 eq5) (fun y6 g6 => ?_))
      have q6 := TI_mi q5 (mi_of g6.2) rfl rfl rfl
      have e84 : y6.1 0 84 = (A fn).1 0 84 := g6.1 0 84 (Or.inr (Or.inl ⟨rfl, rfl⟩))
      have hs6 := hcR_mi (mi_of g6.2) rfl (hcR_mi (mi_of m5) rfl hs)
      have qj6 := TJ_mi (mi_of g6.2) rfl (TJ_mi (mi_of m5) rfl qj)
      have c84 := avf.2.2.2.2.1
      have c840 := avf.2.2.2.1
      obtain ⟨C84, eC⟩ : ∃ C, C = (A fn).1 0 84 := ⟨_, rfl⟩
      have eL := AM_n amf
      rw [e84, ← eC]
      rw [← eC] at c84 c840 eL
      -- the choices of this state
      have p122 : ∀ (m : Nat) (A2 : Nat → gd) (u : gd) (i : Int32), 0 ≤ i.toInt → i.toInt ≤ C84.toInt → C84.toInt - i.toInt ≤ m → ((onS C wn lim fn p.1 i.toNatClampNeg T).1.length : Int) ≤ l.toInt → A2 fn = A fn → TI z W A2 (onS C wn lim fn p.1 i.toNatClampNeg T).1.length u → TJ z C nl wn A2 W (onS C wn lim fn p.1 i.toNatClampNeg T) u → (u.1 121 W = 0 → hcR u (onS C wn lim fn p.1 i.toNatClampNeg T).1.length) → MT G (D + 2) z_tryAll 122 [(0, vr 0), (1, vi w), (2, vi l), (4, vi f), (5, vi C84), (6, vi i)] [] u (rv Fv) := by
        intro m
        induction m with
        | zero =>
          intro A2 u i i0 iC hm ml ea qu quj hu
          have ci := cl_i i0
          have pre := (onS_pre (C := C) (w := wn) (lim := lim) (M := p.1) fM fn i.toNatClampNeg).2
          exact sg_tryAll_122 _ _ _ _ _ ⟨fun _ => ih A2 _ u (f + 1) (by omega) (by omega) (by omega) (by omega) ml qu quj hu (by rw [fi1, show 3001 - (fn + 1) = 3000 - fn by omega, show i.toNatClampNeg = (chM C wn p.1).length by omega]; exact hb), fun c => absurd (t_le.mpr (by omega)) c⟩
        | succ m ihm =>
          intro A2 u i i0 iC hm ml ea qu quj hu
          have ci := cl_i i0
          obtain ⟨j, ej⟩ : ∃ j, j = i.toNatClampNeg := ⟨_, rfl⟩
          obtain ⟨pr1, pre⟩ := onS_pre (C := C) (w := wn) (lim := lim) (M := p.1) fM fn j
          rw [← ej] at ml qu quj hu ci
          obtain ⟨T2, eT2⟩ : ∃ T2, T2 = onS C wn lim fn p.1 j T := ⟨_, rfl⟩
          rw [← eT2] at pr1 pre ml qu quj hu
          have nxt : onS C wn lim fn p.1 (chM C wn p.1).length T = T2 → MT G (D + 2) z_tryAll 75 [(0, vr 0), (1, vi w), (2, vi l), (4, vi (f + 1))] [] u (rv Fv) := fun e9 => ih A2 T2 u (f + 1) (by omega) (by omega) (by omega) (by omega) ml qu quj hu (by rw [fi1, show 3001 - (fn + 1) = 3000 - fn by omega, ← e9]; exact hb)
          refine sg_tryAll_122 _ _ _ _ _ ⟨fun c => nxt (by rw [t_le] at c; rw [eT2, show j = (chM C wn p.1).length by omega]), fun c => ⟨wv, ?_⟩⟩
          rw [t_le] at c
          rw [← eW]
          have e121u := quj.2.2.1
          refine ⟨fun np => nxt (by
            have pt : (onS C wn lim fn p.1 j T).2 = true := by
              apply Classical.byContradiction
              intro c9
              rw [← eT2] at c9
              rw [if_neg c9] at e121u
              exact np e121u
            rw [eT2]
            exact onS_stop pt _ (by omega)), fun np => ?_⟩
          have hu := hu np
          have pf : ¬ (onS C wn lim fn p.1 j T).2 = true := fun z9 => by
            rw [← eT2] at z9
            rw [if_pos z9] at e121u
            rw [e121u] at np
            exact absurd np (by decide)
          have jl : j < (chM C wn p.1).length := by omega
          obtain ⟨ch, hch⟩ : ∃ ch, (chM C wn p.1)[j]? = some ch := ⟨_, List.getElem?_eq_getElem jl⟩
          have hgo := onS_go (lim := lim) (k := fn) pf hch
          rw [← eT2] at hgo
          obtain ⟨M2, eM2⟩ : ∃ M2, M2 = T2.1.length := ⟨_, rfl⟩
          have fm : fn < M2 := by omega
          have m1 : 1 ≤ M2 := by omega
          rw [← eM2] at ml qu hu
          have iv : vp_in i 200 := by rw [vp_in_iff]; omega
          have ii : (i + 1).toInt = i.toInt + 1 := by rw [t_add (by omega) (by omega), k1]
          have ii1 : (i + 1).toNatClampNeg = j + 1 := by have := cl_i (a := i + 1) (by omega); omega
          refine unp A2 M2 fn u f _ (by omega) fm (by omega) qu (fun u4 q4 m4' eq4 => ?_)
          rw [ea] at eq4
          refine MT_up (by omega) (MTv_mono (avf.2.2.2.2.2 G u4 eq4) (fun u5 g5 => ?_))
          have q5' := TI_mi q4 (mi_of g5.2) rfl rfl rfl
          have hu5 := hcR_mi (mi_of g5.2) rfl (hcR_mi (mi_of m4') rfl hu)
          have quj5 := TJ_mi (mi_of g5.2) rfl (TJ_mi (mi_of m4') rfl quj)
          have p5' : u5.1 121 W = 0 := by rw [g5.2.2.1 121 (by decide) (by decide), m4'.2.1 121 (by decide) (by decide)]; exact np
          have lt84 : ((i.toNatClampNeg : Nat) : Int) < ((A fn).1 0 84).toInt := by rw [← eC]; omega
          obtain ⟨b, a', rb, wyb, mmb, trb, am', fb, mb⟩ := st_exM gc w01n amf (i := i.toNatClampNeg) (by rw [← ej]; exact hch)
          have av' := am'.1
          have cmem := List.mem_of_getElem? hch
          have lbI : (C.2.2.1.length : Int) < 2147483648 := by omega
          have mc' : MCn C nl (doM C wn p.1 ch) := MCn_do hN hX hLk lbI l6 mcf amf.2.2.2.1 cmem
          have nb' : NBm (doM C wn p.1 ch) := NBm_do nbf
          obtain ⟨u86, u87, u88, _, _⟩ := avf.2.2.1 i.toNatClampNeg lt84
          have e86 := g5.1 _ _ (Or.inr u86)
          have e87 := g5.1 _ _ (Or.inr u87)
          have e88 := g5.1 _ _ (Or.inr u88)
          have el5 : eqS (Sl (A fn)) (A fn) u5 := eqS_w (Sl_Sm _) g5.1
          rw [e86, e87, e88]
          -- the state come to: is it new?
          have p206 : ∀ v : gd, eqS (Sl b) b v → md rL rA u5 v → MT G (D + 2) z_tryAll 206 [(0, vr 0), (1, vi w), (2, vi l), (4, vi f), (5, vi C84), (6, vi i)] [] v (rv Fv) := by
            intro v ev mv
            have qv := TI_mi q5' (mi_of mv) rfl rfl rfl
            have hv := hcR_mi (mi_of mv) rfl hu5
            have qvj := TJ_mi (mi_of mv) rfl quj5
            have pv0 : v.1 121 W = 0 := by rw [mv.2.1 121 (by decide) (by decide)]; exact p5'
            have kept : ∀ s, s < T2.1.length → ((∀ k, k < 222 → v.1 133 (240 * s + k) = pv b k) ↔ ∃ p9, T2.1[s]? = some p9 ∧ p9.1 = doM C wn p.1 ch) := fun s hs9 => row_kept hN l24 l6 n6 (A := A2) (fun s p9 h9 => ⟨(qvj.1 s p9 h9).1.2.2.1, (qvj.1 s p9 h9).2⟩) (fun s hs8 => (qv.2.2.2.2.2.2.1 s (by omega)).2) mmb mc' nb' (fun t ht => (rb.2 t ht).2.2.2.1) hs9
            have e120 := qv.2.2.1
            have oM := ofN (M := M2) (by omega)
            refine sg_tryAll_206 _ _ _ _ _ (sp_seek3 w wv (m := M2) (by rw [← eW, e120, oM]) (by omega) hv.1 hv.2 (fun t ht => by rw [cA ev (c := 80) (n := 6) (by decide) ht]; exact (rb.2 t ht).2.2.2.1) (fun r v1 mv1 lo alt => ⟨wv, ?_⟩))
            rw [← eW, e120] at alt
            have cM : (Int32.ofNat M2).toNatClampNeg = M2 := by have := cl_i (a := Int32.ofNat M2) (by omega); omega
            have mv1' : mi [136] [133, 134, 135] v v1 := mi_of mv1
            have qv1j := TJ_mi mv1' rfl qvj
            have e120' : v1.1 120 W = Int32.ofNat M2 := by rw [mv1.2.1 120 (by decide) (by decide), e120]
            have e121' : v1.1 121 W = 0 := by rw [mv1.2.1 121 (by decide) (by decide)]; exact pv0
            -- the rows before stay
            have qv1 : TI z W A2 M2 v1 := by
              obtain ⟨t1, t2, t3, t4, t5, t6, t7, t8, t9⟩ := qv
              have g := fun k (h0 : k ≠ 0) hk => mv1.2.1 k h0 hk
              refine ⟨mi_tr t1 (mi_of mv1) rfl rfl, ow_tr t2 (ow_mi (mi_of mv1) rfl), e120', by rw [g 123 (by decide) (by decide)]; exact t4, by rw [g 123 (by decide) (by decide)]; exact t5, ?_, fun s hs2 => ⟨?_, fun k hk => ?_⟩, t8, t9⟩
              · unfold fnd
                rw [g 126 (by decide) (by decide)]
                exact t6
              · have r9 := (t7 s hs2).1
                unfold TN at r9 ⊢
                rw [g 130 (by decide) (by decide), g 131 (by decide) (by decide), g 132 (by decide) (by decide)]
                exact r9
              · rw [lo _ (by omega)]
                exact (t7 s hs2).2 k hk
            rw [← eW, e120']
            have nx : ∀ (A3 : Nat → gd) (T3 : gTy) (u : gd), adS lim fn j T2 (doM C wn p.1 ch) = T3 → (T3.1.length : Int) ≤ l.toInt → A3 fn = A fn → TI z W A3 T3.1.length u → TJ z C nl wn A3 W T3 u → (u.1 121 W = 0 → hcR u T3.1.length) → MT G (D + 2) z_tryAll 122 [(0, vr 0), (1, vi w), (2, vi l), (4, vi f), (5, vi C84), (6, vi (i + 1))] [] u (rv Fv) := fun A3 T3 u eT3 h2 h4 h5 h5j h6 => by
              have e9 : onS C wn lim fn p.1 (i + 1).toNatClampNeg T = T3 := by rw [ii1, hgo]; exact eT3
              exact ihm A3 u (i + 1) (by omega) (by omega) (by omega) (by rw [e9]; exact h2) h4 (by rw [e9]; exact h5) (by rw [e9]; exact h5j) (by rw [e9]; exact h6)
            rcases alt with ⟨er, row, hsn, hcn, hno⟩ | ⟨s9, r0, r1, hso, hco, hyes⟩
            rotate_left
            · have old : ∃ q ∈ T2.1, q.1 = doM C wn p.1 ch := kept_old kept (s := s9) (by omega) (fun k hk => by rw [hyes k hk]; exact pv_eq ev hk)
              refine ⟨fun _ => nx A2 T2 v1 (adS_old old) (by rw [← eM2]; exact ml) ea (by rw [← eM2]; exact qv1) qv1j (fun _ => by rw [← eM2]; exact ⟨hso, hco⟩), fun er => ?_⟩
              rw [er, oM] at r1
              omega
            have new : ¬ ∃ q ∈ T2.1, q.1 = doM C wn p.1 ch := kept_new kept (fun s hs9 h9 => hno s (by omega) (fun k hk => by rw [h9 k hk]; exact (pv_eq ev hk).symm))
            refine ⟨fun ne => absurd er ne, fun _ => ⟨fun nl' => ?_, fun el' => ⟨wv, fun v18 e18 => ?_⟩⟩⟩
            rotate_left
            · -- the limit
              have m18 := md_a v1 121 W (vp_nar .boolean 1) (by decide)
              rw [← e18] at m18
              have e121n : v18.1 121 W = 1 := by rw [e18, si_get, if_pos ⟨rfl, rfl⟩]; exact b1n
              have full : lim ≤ T2.1.length := by
                rw [er] at el'
                have := t_eq.mp el'
                rw [oM] at this
                omega
              obtain ⟨g1, g2, g3, g4, g5k, g6k, g7k⟩ := qv1j
              refine nx A2 (T2.1, true) v18 (adS_full new full) (by show (T2.1.length : Int) ≤ _; rw [← eM2]; exact ml) ea (by show TI z W A2 T2.1.length v18; rw [← eM2]; exact TI_mi qv1 (mi_of m18) rfl rfl rfl) ⟨g1, ?_, ?_, ?_, ?_, ?_, ?_⟩ (fun q9 => ?_)
              · rw [m18.2.1 126 (by decide) (by decide)]; exact FN3_T (T := T2) (fun _ _ => rfl) g2
              · exact e121n
              · rw [m18.2.1 130 (by decide) (by decide), m18.2.1 131 (by decide) (by decide)]; exact g4
              · show MLo v18 W (loS C wn nl (T2.1, true) T2.1.length)
                rw [show loS C wn nl (T2.1, true) T2.1.length = loS C wn nl T2 T2.1.length from loS_T (fun _ _ => rfl)]
                exact MLo_f (fun c hc => by rcases hc with e | e | e | e | e | e | e <;> rw [e] <;> exact m18.2.1 _ (by decide) (by decide)) g5k
              · show BLo (loS C wn nl (T2.1, true) T2.1.length) T2.1.length
                rw [show loS C wn nl (T2.1, true) T2.1.length = loS C wn nl T2 T2.1.length from loS_T (fun _ _ => rfl)]
                exact g6k
              · exact LW3_tr g7k (by rw [e18]; exact LW3_si W2 (Or.inl ⟨by omega, rfl⟩))
              · rw [e121n] at q9
                exact absurd q9 (by decide)
            -- a new state
            have Ml' : (M2 : Int) < l.toInt := by
              by_cases q9 : (M2 : Int) = l.toInt
              · exact absurd (by rw [er]; exact t_eq.mpr (by rw [oM]; exact q9)) nl'
              · omega
            have rv2 := tmul (k := 3000) (K := 3000) (N := 6000) (n := 3000) (i := r) rfl wv (by rw [er, oM]; omega) (by rw [er, oM]; omega) (by omega) (by omega) (by omega)
            have fv2 := tmul (k := 3000) (K := 3000) (N := 6000) (n := 3000) (i := f) rfl wv f0 (by omega) (by omega) (by omega) (by omega)
            rw [← eW, ← efn] at fv2
            rw [← eW, er, cM] at rv2
            rw [er, rv2.2, fv2.2]
            refine ⟨rv2.1, fun v7 e7 => ⟨rv2.1, fun v9 e9 => ⟨fv2.1, rv2.1, fun v12 e12 => ⟨wv, wv, fun v15 e15 => ?_⟩⟩⟩⟩
            have m7 := md_a v1 130 (3000 * W + M2) f (by decide)
            rw [← e7] at m7
            have m9 := md_a v7 131 (3000 * W + M2) i (by decide)
            rw [← e9] at m9
            have m12 := md_a v9 132 (3000 * W + M2) (v9.1 132 (3000 * W + fn) + 1) (by decide)
            rw [← e12] at m12
            have f120 : v12.1 120 W = Int32.ofNat M2 := by rw [m12.2.1 120 (by decide) (by decide), m9.2.1 120 (by decide) (by decide), m7.2.1 120 (by decide) (by decide), e120']
            rw [f120] at e15
            have m15 := md_a v12 120 W (Int32.ofNat M2 + 1) (by decide)
            rw [← e15] at m15
            have MM : md [] [120, 130, 131, 132] v1 v15 := md_tr (md_tr (L3 := []) (A3 := [130, 131, 132]) (md_tr (L3 := []) (A3 := [130, 131]) m7 m9 rfl rfl) m12 rfl rfl) m15 rfl rfl
            have o12 : ow W v1 v15 := by
              refine ow_tr (y := v12) (ow_tr (y := v9) (ow_tr (y := v7) ?_ ?_) ?_) ?_
              · rw [e7]; exact ow_si W2 (Or.inr (Or.inr ⟨Or.inl rfl, M2, by omega, rfl⟩))
              · rw [e9]; exact ow_si W2 (Or.inr (Or.inr ⟨Or.inr (Or.inl rfl), M2, by omega, rfl⟩))
              · rw [e12]; exact ow_si W2 (Or.inr (Or.inr ⟨Or.inr (Or.inr rfl), M2, by omega, rfl⟩))
              · rw [e15]; exact ow_si W2 (Or.inl ⟨Or.inl rfl, rfl⟩)
            have g120 : v15.1 120 W = Int32.ofNat (M2 + 1) := by
              rw [e15, si_get, if_pos ⟨rfl, rfl⟩]
              refine t_eq.mpr ?_
              rw [t_add (by omega) (by omega), oM, k1, ofN (by omega)]; omega
            have h130 : ∀ s : Nat, ¬ s = M2 → v15.1 130 (3000 * W + s) = v1.1 130 (3000 * W + s) := fun s hs2 => by rw [e15, si_cell (by decide), e12, si_cell (by decide), e9, si_cell (by decide), e7, si_ne 130 _ (by omega)]
            have h131 : ∀ s : Nat, ¬ s = M2 → v15.1 131 (3000 * W + s) = v1.1 131 (3000 * W + s) := fun s hs2 => by rw [e15, si_cell (by decide), e12, si_cell (by decide), e9, si_ne 131 _ (by omega), e7, si_cell (by decide)]
            have h132 : ∀ s : Nat, ¬ s = M2 → v15.1 132 (3000 * W + s) = v1.1 132 (3000 * W + s) := fun s hs2 => by rw [e15, si_cell (by decide), e12, si_ne 132 _ (by omega), e9, si_cell (by decide), e7, si_cell (by decide)]
            have i130 : v15.1 130 (3000 * W + M2) = f := by rw [e15, si_cell (by decide), e12, si_cell (by decide), e9, si_cell (by decide), e7, si_get, if_pos ⟨rfl, rfl⟩]
            have i131 : v15.1 131 (3000 * W + M2) = i := by rw [e15, si_cell (by decide), e12, si_cell (by decide), e9, si_get, if_pos ⟨rfl, rfl⟩]
            have i132 : v15.1 132 (3000 * W + M2) = v1.1 132 (3000 * W + fn) + 1 := by rw [e15, si_cell (by decide), e12, si_get, if_pos ⟨rfl, rfl⟩, e9, si_cell (by decide), e7, si_cell (by decide)]
            have j133 : v15.1 133 = v1.1 133 := MM.2.1 133 (by decide) (by decide)
            obtain ⟨A3, eA3⟩ : ∃ A3 : Nat → gd, A3 = fun s => if s = M2 then a' else A2 s := ⟨_, rfl⟩
            have A3n : ∀ s : Nat, ¬ s = M2 → A3 s = A2 s := fun s hs2 => by rw [eA3]; simp only [if_neg hs2]
            have A3m : A3 M2 = a' := by rw [eA3]; simp only [if_pos]
            have eva : eqS (Sl a') a' v := sl_sw mb ev
            -- the chain of far stays small
            have farb : ∀ s : Nat, s < M2 → 0 ≤ (v1.1 132 (3000 * W + s)).toInt ∧ (v1.1 132 (3000 * W + s)).toInt ≤ s := by
              intro s
              induction s using Nat.strongRecOn with
              | ind s ihs =>
                intro hs2
                obtain ⟨_, t2, t3, t4⟩ := (qv1.2.2.2.2.2.2.1 s hs2).1
                refine ⟨t2, ?_⟩
                by_cases q9 : s = 0
                · have := t3 q9; omega
                · obtain ⟨p, p1, p2, p3, _⟩ := t4 (by omega)
                  have := (ihs p p1 (by omega)).2
                  omega
            have ff := farb fn fm
            have j132 : (v15.1 132 (3000 * W + M2)).toInt = (v1.1 132 (3000 * W + fn)).toInt + 1 := by rw [i132, t_add (by omega) (by omega), k1]
            have q15 : TI z W A3 (M2 + 1) v15 := by
              obtain ⟨t1, t2, t3, t4, t5, t6, t7, t8, t9⟩ := qv1
              refine ⟨mi_tr t1 (mi_of MM) rfl rfl, ow_tr t2 o12, g120, by rw [MM.2.1 123 (by decide) (by decide)]; exact t4, by rw [MM.2.1 123 (by decide) (by decide)]; omega, ?_, fun s hs2 => ?_, ?_, fun s hs2 => ?_⟩
              · unfold fnd at t6 ⊢
                rw [MM.2.1 126 (by decide) (by decide)]
                exact fun g hg => (t6 g hg).imp id (fun w => by omega)
              · by_cases q9 : s = M2
                · rw [q9]
                  refine ⟨⟨by rw [A3m]; exact av', by omega, fun z9 => by omega, fun _ => ⟨fn, fm, by rw [i130]; omega, ?_, by rw [i131]; exact i0, ?_, ?_⟩⟩, fun k hk => ?_⟩
                  · rw [h132 fn (by omega)]; exact j132
                  · rw [i131, A3n fn (by omega), ea, ← eC]; omega
                  · rw [i131, A3n fn (by omega), ea, A3m]; exact ⟨b, trb, fb⟩
                  · rw [A3m, j133, row k hk]; exact pv_eq eva hk
                · obtain ⟨⟨u1, u2, u3, u4⟩, u5'⟩ := t7 s (by omega)
                  refine ⟨⟨by rw [A3n s q9]; exact u1, by rw [h132 s q9]; exact u2, by rw [h132 s q9]; exact u3, fun z9 => ?_⟩, fun k hk => by rw [A3n s q9, j133]; exact u5' k hk⟩
                  obtain ⟨p, p1, p2, p3, p4, p5, p6⟩ := u4 z9
                  refine ⟨p, p1, by rw [h130 s q9]; exact p2, by rw [h132 s q9, h132 p (by omega)]; exact p3, by rw [h131 s q9]; exact p4, by rw [h131 s q9, A3n p (by omega)]; exact p5, by rw [h131 s q9, A3n p (by omega), A3n s q9]; exact p6⟩
              · rw [A3n 0 (by omega)]; exact t8
              · by_cases q9 : s = M2
                · rw [q9, A3m]
                  have pz : prE z v := prE_mi (prE_rf z) qv.1 rfl rfl
                  have pav : prE a' v := prE_eqS eva
                  refine ⟨prE_tr pz (prE_sy pav), ?_⟩
                  rw [← cF eva (k := 68) (by decide), qv.1.1 68 (by decide)]
                · rw [A3n s q9]; exact t9 s (by omega)
            have e15s : eqS (Sl a') a' v15 := eqS_mi eva (mi_tr (L3 := [136]) (A3 := [133, 134, 135, 120, 130, 131, 132]) (mi_of mv1) (mi_of MM) rfl rfl) rfl rfl (Sl_Sm a')
            have o15 := q15.2.2.2.1
            have o15b : (v15.1 123 W).toInt ≤ M2 := by rw [MM.2.1 123 (by decide) (by decide)]; exact qv1.2.2.2.2.1
            have eqv15 : eqL v1 v15 := fun c hc => by rcases hc with e | e | e | e | e | e | e <;> rw [e] <;> exact MM.2.1 _ (by decide) (by decide)
            have pa' : prE z a' := by have := (q15.2.2.2.2.2.2.2.2 M2 (by omega)).1; rw [A3m] at this; exact this
            refine sp_look3 hN hX hq2 w01n w (Int32.ofNat M2) wv am' (by rw [pa'.1 26 (by decide)]; exact l26) (by rw [pa'.1 27 (by decide)]; exact l27) e15s (by omega) (M := ((M2 + 1 : Nat) : Int)) (by omega) (by rw [← eW]; exact q15.2.2.2.2.2.1) (by rw [← eW]; exact o15) (by rw [← eW]; omega) (nl := nl) (L := (loS C wn nl T2 T2.1.length).2.2.2.2.2) (by rw [pa'.1 24 (by decide)]; exact en) (by rw [← eW]; exact (MLo_f eqv15 qv1j.2.2.2.2.1).2.2.2.2.2) (by have := qv1j.2.2.2.2.2.1.2.2.2; omega) (loS_so _).1 (loS_so _).2 (by omega) (fun v16 k16 fa16 lz16 => ?_)
            rw [← eW] at k16 fa16 lz16
            obtain ⟨n1, n2, n3, n4, n5, n6⟩ := k16
            have g := fun k (h0 : k ≠ 0) hk => n1.2 k h0 hk
            have hl3 : ((T2.1 ++ [(doM C wn p.1 ch, fn, j)], T2.2) : gTy).1.length = M2 + 1 := by
              show (T2.1 ++ _).length = _
              rw [List.length_append, List.length_singleton, ← eM2]
            refine nx A3 (T2.1 ++ [(doM C wn p.1 ch, fn, j)], T2.2) v16 (adS_new new (by omega)) (by rw [hl3]; omega) (by rw [A3n fn (by omega)]; exact ea) ?_ ?_ (fun _ => ?_)
            rotate_left
            · refine TJ_ad (y' := v15) (v := Int32.ofNat M2) qv1j (fun s hs9 => A3n s (by omega)) (by rw [← eM2, A3m]; exact am') mc' nb' ?_ (MM.2.1 126 (by decide) (by decide)) (fun s hs9 => ?_) (fun s hs9 => ?_) ?_ ?_ (by rw [oM, eM2]) fa16 hLk n6L (by omega) (by have := AM_n am'; have := am'.1.2.2.2.2.1; omega) (AM_n am') eqv15 (MM.2.1 121 (by decide) (by decide)) lz16
              · rw [g 121 (by decide) (by decide), MM.2.1 121 (by decide) (by decide)]
              · rw [g 130 (by decide) (by decide)]; exact h130 s (by omega)
              · rw [g 131 (by decide) (by decide)]; exact h131 s (by omega)
              · rw [← eM2, g 130 (by decide) (by decide), i130]; omega
              · rw [← eM2, g 131 (by decide) (by decide), i131]; omega
            rotate_left
            · rw [hl3]
              obtain ⟨t1, t2, t3, t4, t5, t6, t7, t8, t9⟩ := q15
              refine ⟨mi_tr t1 n1 rfl rfl, ow_tr t2 n3, by rw [g 120 (by decide) (by decide)]; exact t3, n5, by omega, n4, fun s hs2 => ?_, t8, t9⟩
              have r9 := t7 s hs2
              unfold TR TN at r9 ⊢
              rw [g 130 (by decide) (by decide), g 131 (by decide) (by decide), g 132 (by decide) (by decide), g 133 (by decide) (by decide)]
              exact r9
            · rw [hl3]
              refine hcR_f (y := v1) ?_ ?_ (fun s k _ _ => ?_) ⟨by push_cast; exact hsn, hcn⟩
              · rw [g 134 (by decide) (by decide), MM.2.1 134 (by decide) (by decide)]
              · rw [g 135 (by decide) (by decide), MM.2.1 135 (by decide) (by decide)]
              · rw [g 133 (by decide) (by decide), j133]
          refine ⟨iv, fun cl => ⟨iv, iv, ?_⟩, fun cl => ⟨iv, iv, ?_⟩⟩
          · exact MT_up (by omega) (MTv_mono (trb.1 cl G u5 el5) (fun v q9 => p206 v q9.1 q9.2.1))
          · exact MT_up (by omega) (MTv_mono (trb.2 cl G u5 el5) (fun v q9 => p206 v q9.1 q9.2))
      have z00 : (0 : Int32).toNatClampNeg = 0 := rfl
      exact p122 84 A y6 0 (by decide) (by rw [k0]; omega) (by rw [k0]; omega) (by rw [z00]; show (T.1.length : Int) ≤ _; rw [← eM]; exact Ml) rfl (by rw [z00]; exact q6) (by rw [z00]; exact qj6) (fun _ => by rw [z00]; exact hs6)
  -- the beginning
  refine sg_tryAll_0 _ _ (sp_forgetTrying3 (W := W) w wv eW.symm en (fun y1 m1 o1 n120 n121 n123 nf ml1 lw1 => ?_))
  have loop : ∀ (n : Nat) (y : gd) (i : Int32), 0 ≤ i.toInt → i.toInt ≤ 4096 → 4096 - i.toInt ≤ n → md [] [135] y1 y → (∀ k : Nat, (k : Int) < i.toInt → y.1 135 k = -1) → MT G (D + 2) z_tryAll 7 [(0, vr 0), (1, vi w), (2, vi l), (3, vi i)] [] y (rv Fv) := by
    have last : ∀ y : gd, md [] [135] y1 y → (∀ k : Nat, k < 4096 → y.1 135 k = -1) → MT G (D + 1) z_setFirst 0 [(0, vr 0)] [] y (rv (fun x2 => MT G (D + 1) z_seek 0 [(0, vr 0), (1, vi w)] [] x2 (ri (fun r4 x3 => vp_in w 2 ∧ (∀ x6 : gd, x6 = si x3 120 (w : Int32).toNatClampNeg 1 → vp_in (3000 * w) 6000 ∧ (∀ x8 : gd, x8 = si x6 130 (3000 * w : Int32).toNatClampNeg (-1) → vp_in (3000 * w) 6000 ∧ (∀ x10 : gd, x10 = si x8 132 (3000 * w : Int32).toNatClampNeg 0 → MT G (D + 1) z_look 0 [(0, vr 0), (1, vi w), (2, vi 0)] [] x10 (rv (fun x11 => MT G (D + 2) z_tryAll 75 [(0, vr 0), (1, vi w), (2, vi l), (4, vi 0)] [] x11 (rv Fv))))))))))  := by
      intro y my hh
      have mzy : mi [] [120, 121, 122, 123, 124, 125, 126, 127, 128, 135] z y := mi_tr (mi_of m1) (mi_of my) rfl rfl
      have py : prE z y := prE_mi (prE_rf z) mzy rfl rfl
      have wy' : y.1 0 68 = w := by rw [mzy.1 68 (by decide)]; exact hw
      refine MTv_mono (first G (D + 1) y (by omega) py wy') (fun y2 g2 => ?_)
      have e2 : eqS (Sl a0) a0 y2 := sl_sw mb0 g2.1
      have y120 : y2.1 120 W = 0 := by rw [g2.2.2.1 120 (by decide) (by decide), my.2.1 120 (by decide) (by decide)]; exact n120
      have y121 : y2.1 121 W = 0 := by rw [g2.2.2.1 121 (by decide) (by decide), my.2.1 121 (by decide) (by decide)]; exact n121
      have y123 : y2.1 123 W = 0 := by rw [g2.2.2.1 123 (by decide) (by decide), my.2.1 123 (by decide) (by decide)]; exact n123
      have y126 : ∀ f : Nat, f < 11 → y2.1 126 (11 * W + f) = -1 := fun f hf => by rw [g2.2.2.1 126 (by decide) (by decide), my.2.1 126 (by decide) (by decide)]; exact nf f hf
      have y135 : y2.1 135 = y.1 135 := g2.2.2.1 135 (by decide) (by decide)
      refine sp_seek3 w wv (m := 0) (by rw [← eW, y120]; rfl) (by omega) ⟨fun k hk => Or.inl (by rw [y135]; exact hh k hk), fun s hs2 => by omega⟩ (fun s hs2 => absurd hs2 (Nat.not_lt_zero _)) (fun t ht => by rw [cA e2 (c := 80) (n := 6) (by decide) ht]; exact (av0.1.2 t ht).2.2.2.1) (fun r y3 m3 lo alt => ⟨wv, fun y6 e6 => ?_⟩)
      rcases alt with ⟨er, row, hsn, hcn, -⟩ | ⟨s9, r0, _⟩
      rotate_left
      · exact absurd r0 (Nat.not_lt_zero _)
      have bw : (3000 * w).toInt = 3000 * w.toInt := by rw [t_mul (by rw [k3]; omega) (by rw [k3]; omega), k3]
      have bv : vp_in (3000 * w) 6000 := by rw [vp_in_iff]; omega
      have cb : (3000 * w).toNatClampNeg = 3000 * W + 0 := by have := cl_i (a := 3000 * w) (by omega); omega
      rw [cb]
      rw [← eW] at e6
      refine ⟨bv, fun y8 e8 => ⟨bv, fun y10 e10 => ?_⟩⟩
      have m6 := md_a y3 120 W 1 (by decide)
      rw [← e6] at m6
      have m8 := md_a y6 130 (3000 * W + 0) (-1) (by decide)
      rw [← e8] at m8
      have m10 := md_a y8 132 (3000 * W + 0) 0 (by decide)
      rw [← e10] at m10
      have MM : md [] [120, 130, 132] y3 y10 := md_tr (md_tr (L3 := []) (A3 := [120, 130]) m6 m8 rfl rfl) m10 rfl rfl
      have o310 : ow W y3 y10 := by
        refine ow_tr (y := y8) (ow_tr (y := y6) ?_ ?_) ?_
        · rw [e6]; exact ow_si W2 (Or.inl ⟨Or.inl rfl, rfl⟩)
        · rw [e8]; exact ow_si W2 (Or.inr (Or.inr ⟨Or.inl rfl, 0, by omega, rfl⟩))
        · rw [e10]; exact ow_si W2 (Or.inr (Or.inr ⟨Or.inr (Or.inr rfl), 0, by omega, rfl⟩))
      have oz3 : ow W z y3 := ow_tr (ow_tr (ow_tr o1 (ow_mi (mi_of my) rfl)) (ow_mi (mi_of g2.2) rfl)) (ow_mi (mi_of m3) rfl)
      have mz10 : mi tL tA' z y10 := mi_tr (mi_tr (L3 := tL) (A3 := tA') (mi_tr (L3 := tL) (A3 := tA') mzy (mi_of g2.2) rfl rfl) (mi_of m3) rfl rfl) (mi_of MM) rfl rfl
      have h132 : y10.1 132 (3000 * W + 0) = 0 := by rw [e10, si_get, if_pos ⟨rfl, rfl⟩]
      have h120 : y10.1 120 W = Int32.ofNat 1 := by rw [m10.2.1 120 (by decide) (by decide), m8.2.1 120 (by decide) (by decide), e6, si_get, if_pos ⟨rfl, rfl⟩]; rfl
      have h123 : y10.1 123 W = 0 := by rw [MM.2.1 123 (by decide) (by decide), m3.2.1 123 (by decide) (by decide)]; exact y123
      have h126 : fnd y10 W 1 := fun f hf => Or.inl (by rw [MM.2.1 126 (by decide) (by decide), m3.2.1 126 (by decide) (by decide)]; exact y126 f hf)
      have q10 : TI z W (fun _ => a0) 1 y10 := by
        refine ⟨mz10, ow_tr oz3 o310, h120, by rw [h123]; decide, by rw [h123]; decide, h126, fun s hs2 => ⟨⟨av0, ?_, fun _ => ?_, fun z9 => by omega⟩, fun k hk => ?_⟩, by rw [e32]; exact st0, fun s hs2 => ⟨pa0, by rw [hw]; exact e68⟩⟩
        · rw [show s = 0 by omega, h132]; decide
        · rw [show s = 0 by omega, h132]; rfl
        · rw [show s = 0 by omega, MM.2.1 133 (by decide) (by decide)]
          exact (row k hk).trans (pv_eq e2 hk)
      have eL10 : ∀ c, c = 122 ∨ c = 123 ∨ c = 124 ∨ c = 125 ∨ c = 127 ∨ c = 128 ∨ c = 129 → y10.1 c = y1.1 c := fun c hc => by
        rw [show y10.1 c = y3.1 c by rcases hc with e | e | e | e | e | e | e <;> rw [e] <;> exact MM.2.1 _ (by decide) (by decide), show y3.1 c = y2.1 c by rcases hc with e | e | e | e | e | e | e <;> rw [e] <;> exact m3.2.1 _ (by decide) (by decide), show y2.1 c = y.1 c by rcases hc with e | e | e | e | e | e | e <;> rw [e] <;> exact g2.2.2.1 _ (by decide) (by decide)]
        rcases hc with e | e | e | e | e | e | e <;> rw [e] <;> exact my.2.1 _ (by decide) (by decide)
      have ml10 : MLo y10 W (lo0 nl) := MLo_f eL10 ml1
      have n840 := AM_n am0
      have c840 : ((chM C wn (fsM C)).length : Nat) ≤ 84 := by have := am0.1.2.2.2.2.1; omega
      have e121z : ∀ v, v < 2 → ¬ v = W → y10.1 121 v = z.1 121 v := fun v v1 v2 => by
        rw [MM.2.1 121 (by decide) (by decide), m3.2.1 121 (by decide) (by decide), g2.2.2.1 121 (by decide) (by decide), my.2.1 121 (by decide) (by decide)]
        exact lw1.2 v v1 v2
      have e10s : eqS (Sl a0) a0 y10 := eqS_mi e2 (mi_tr (L3 := [136]) (A3 := [133, 134, 135, 120, 130, 132]) (mi_of m3) (mi_of MM) rfl rfl) rfl rfl (Sl_Sm a0)
      refine sp_look3 hN hX hq2 w01n w 0 wv am0 (by rw [pa0.1 26 (by decide)]; exact l26) (by rw [pa0.1 27 (by decide)]; exact l27) e10s (by decide) (M := 1) (by decide) (by rw [← eW]; exact h126) (by rw [← eW, h123]; decide) (by rw [← eW, h123]; decide) (nl := nl) (L := []) (by rw [pa0.1 24 (by decide)]; exact en) (by rw [← eW]; exact ml10.2.2.2.2.2) (by decide) List.Pairwise.nil (fun t ht => by cases ht) (by omega) (fun y11 k11 fa11 lz11 => ?_)
      rw [← eW] at k11 fa11 lz11
      obtain ⟨n1, n2, n3, n4, n5, n6⟩ := k11
      rw [h123, k0] at n6
      have g := fun k (h0 : k ≠ 0) hk => n1.2 k h0 hk
      have e121e : y11.1 121 W = 0 := by rw [g 121 (by decide) (by decide), MM.2.1 121 (by decide) (by decide), m3.2.1 121 (by decide) (by decide)]; exact y121
      have y126' : ∀ f : Nat, f < 11 → y10.1 126 (11 * W + f) = -1 := fun f hf => by rw [MM.2.1 126 (by decide) (by decide), m3.2.1 126 (by decide) (by decide)]; exact y126 f hf
      have one : ∀ (s : Nat) (p : gMa × Nat × Nat), (([(fsM C, 0, 0)], false) : gTy).1[s]? = some p → s = 0 ∧ p = (fsM C, 0, 0) := fun s p hp => by
        cases s with
        | zero => exact ⟨rfl, (Option.some.inj hp).symm⟩
        | succ s => exact nomatch hp
      refine p75 3000 (fun _ => a0) ([(fsM C, 0, 0)], false) y11 0 (by decide) (by decide) (by decide) (Nat.le_refl 1) (by show ((1 : Nat) : Int) ≤ _; omega) ?_ ⟨fun s p hp => ?_, ?_, e121e, fun s p hp s0 => ?_, ?_, ?_, ?_⟩ (fun _ => ?_) rfl
      rotate_left
      · rw [(one s p hp).2]; exact ⟨am0, MCn_fs, NBm_fs⟩
      · exact FN3_next (k := 0) (x7 := fun f => y10.1 126 (11 * W + f)) (p := (fsM C, 0, 0)) rfl rfl (fun f hf => Or.inl ⟨y126' f hf, fun s p hs => absurd hs (Nat.not_lt_zero _)⟩) fa11
      · rw [(one s p hp).1] at s0; exact absurd s0 (Nat.lt_irrefl _)
      · show MLo y11 W (loM C wn nl (fsM C) (lo0 nl))
        exact MLo_next (k := 0) (by omega) ⟨Nat.le_refl _, Nat.le_refl _, Nat.le_refl _, Nat.le_refl _⟩ c840 (ob_lt hLk n6L) n840 ml10 lz11
      · show BLo (loM C wn nl (fsM C) (lo0 nl)) (0 + 1)
        exact BLo_next ⟨Nat.le_refl _, Nat.le_refl _, Nat.le_refl _, Nat.le_refl _⟩ c840
      · exact ⟨LW2_tr (LW2_f (y := y1) eL10 lw1.1) lz11.1.2.2.2, fun v v1 v2 => by rw [g 121 (by decide) (by decide)]; exact e121z v v1 v2⟩
      rotate_left
      · obtain ⟨t1, t2, t3, t4, t5, t6, t7, t8, t9⟩ := q10
        refine ⟨mi_tr t1 n1 rfl rfl, ow_tr t2 n3, by rw [g 120 (by decide) (by decide)]; exact t3, n5, by show _ ≤ ((1 : Nat) : Int); omega, n4, fun s hs2 => ?_, t8, t9⟩
        have r9 := t7 s hs2
        unfold TR TN at r9 ⊢
        rw [g 130 (by decide) (by decide), g 131 (by decide) (by decide), g 132 (by decide) (by decide), g 133 (by decide) (by decide)]
        exact r9
      · refine hcR_f (y := y3) ?_ ?_ (fun s k _ _ => ?_) ⟨hsn, hcn⟩
        · rw [g 134 (by decide) (by decide), MM.2.1 134 (by decide) (by decide)]
        · rw [g 135 (by decide) (by decide), MM.2.1 135 (by decide) (by decide)]
        · rw [g 133 (by decide) (by decide), MM.2.1 133 (by decide) (by decide)]
    intro n
    induction n with
    | zero =>
      intro y i i0 i1 hn my hh
      exact sg_tryAll_7 _ _ _ ⟨fun _ => last y my (fun k hk => hh k (by omega)), fun c => absurd (t_le.mpr (by rw [k40]; omega)) c⟩
    | succ n ih =>
      intro y i i0 i1 hn my hh
      refine sg_tryAll_7 _ _ _ ⟨fun c => last y my (fun k hk => hh k (by rw [t_le, k40] at c; omega)), fun c => ?_⟩
      rw [t_le, k40] at c
      have ci := cl_i i0
      have ii : (i + 1).toInt = i.toInt + 1 := by rw [t_add (by omega) (by omega), k1]
      refine ⟨by rw [vp_in_iff]; omega, fun y13 e13 => ?_⟩
      have m13 := md_a y 135 i.toNatClampNeg (-1) (by decide)
      rw [← e13] at m13
      refine ih y13 (i + 1) (by omega) (by omega) (by omega) (md_tr my m13 rfl rfl) (fun k hk => ?_)
      rw [e13, si_get]
      by_cases q : (135 : Nat) = 135 ∧ k = i.toNatClampNeg
      · rw [if_pos q]
      · rw [if_neg q]; exact hh k (by omega)
  exact loop 4096 y1 0 (by decide) (by decide) (by decide) (md_w (md_rf y1) (by decide) (by decide)) (fun k hk => by rw [k0] at hk; omega)
end TRY3
