section
/-! the model: all that the program can do, as the machine says -/
/-- what the memory tells of a trying's states -/
def TJ (C : gCo) (nl wn : Nat) (A : Nat → gd) (W : Nat) (T : gTy) (y : gd) : Prop := (∀ s p, T.1[s]? = some p → AM C wn p.1 (A s) ∧ MCn C nl p.1 ∧ NBm p.1) ∧ FN3 C wn (fun f => y.1 126 (11 * W + f)) T T.1.length ∧ (y.1 121 W = if T.2 = true then 1 else 0) ∧ ∀ s p, T.1[s]? = some p → 0 < s → (y.1 130 (3000 * W + s)).toInt = (p.2.1 : Nat) ∧ (y.1 131 (3000 * W + s)).toInt = (p.2.2 : Nat)
theorem TJ_f {C : gCo} {nl wn W : Nat} {A : Nat → gd} {T : gTy} {y y' : gd} (e1 : y'.1 121 = y.1 121) (e2 : y'.1 126 = y.1 126) (e3 : y'.1 130 = y.1 130) (e4 : y'.1 131 = y.1 131) (h : TJ C nl wn A W T y) : TJ C nl wn A W T y' := by
  unfold TJ at h ⊢
  rw [e1, e2, e3, e4]
  exact h
theorem TJ_mi {C : gCo} {nl wn W : Nat} {A : Nat → gd} {T : gTy} {y y' : gd} {L B : List Nat} (m : mi L B y y') (hN : [121, 126, 130, 131].all (fun k => !B.elem k) = true) (h : TJ C nl wn A W T y) : TJ C nl wn A W T y' := by
  have g := fun k (h0 : k ≠ 0) hk => m.2.1 k h0 (all_no hN k hk)
  exact TJ_f (g 121 (by decide) (by decide)) (g 126 (by decide) (by decide)) (g 130 (by decide) (by decide)) (g 131 (by decide) (by decide)) h
/-- rows kept can be sought -/
def hcR (y : gd) (n : Nat) : Prop := hsR y (n : Nat) ∧ chC y n
theorem hcR_f {y y' : gd} {n : Nat} (e1 : y.1 134 = y'.1 134) (e2 : y.1 135 = y'.1 135) (e3 : ∀ s i, s < n → i < 222 → y'.1 133 (240 * s + i) = y.1 133 (240 * s + i)) (h : hcR y n) : hcR y' n := by
  obtain ⟨h1, h2⟩ := h
  refine ⟨by unfold hsR at h1 ⊢; rw [← e1, ← e2]; exact h1, fun s hs => ?_⟩
  obtain ⟨f, hf⟩ := h2 s hs
  refine ⟨f, ?_⟩
  rw [← e1, ← e2, hsO_cg (r := rwZ y' s) (r' := rwZ y s) (fun i hi => e3 s i hs hi)]
  exact hf
theorem hcR_mi {y y' : gd} {n : Nat} {L B : List Nat} (m : mi L B y y') (hN : [133, 134, 135].all (fun k => !B.elem k) = true) (h : hcR y n) : hcR y' n := by
  have g := fun k (h0 : k ≠ 0) hk => m.2.1 k h0 (all_no hN k hk)
  exact hcR_f (g 134 (by decide) (by decide)).symm (g 135 (by decide) (by decide)).symm (fun s i _ _ => by rw [g 133 (by decide) (by decide)]) h
/-- a state is added to a trying: what the memory tells of it, but the findings -/
theorem TJ_ad {C : gCo} {nl wn W k i : Nat} {A A' : Nat → gd} {T : gTy} {y y' y2 : gd} {M : gMa} {v : Int32} (h : TJ C nl wn A W T y) (hA : ∀ s, ¬ s = T.1.length → A' s = A s) (am : AM C wn M (A' T.1.length)) (mc : MCn C nl M) (nb : NBm M) (e121 : y2.1 121 = y.1 121) (e126 : y'.1 126 = y.1 126) (e130 : ∀ s, ¬ s = T.1.length → y2.1 130 (3000 * W + s) = y.1 130 (3000 * W + s)) (e131 : ∀ s, ¬ s = T.1.length → y2.1 131 (3000 * W + s) = y.1 131 (3000 * W + s)) (f130 : (y2.1 130 (3000 * W + T.1.length)).toInt = (k : Nat)) (f131 : (y2.1 131 (3000 * W + T.1.length)).toInt = (i : Nat)) (ev : v.toInt = (T.1.length : Nat)) (fa : FAm y' y2 W v (fD C wn M 11)) : TJ C nl wn A' W (T.1 ++ [(M, k, i)], T.2) y2 := by
  obtain ⟨h1, h2, h3, h4⟩ := h
  have cs : ∀ s p, ((T.1 ++ [(M, k, i)], T.2) : gTy).1[s]? = some p → (¬ s = T.1.length ∧ T.1[s]? = some p) ∨ (s = T.1.length ∧ p = (M, k, i)) := by
    intro s p hp
    have hp : (T.1 ++ [(M, k, i)])[s]? = some p := hp
    by_cases c : s < T.1.length
    · rw [List.getElem?_append_left c] at hp
      exact Or.inl ⟨by omega, hp⟩
    · have hl := gt_lt hp
      rw [List.length_append, List.length_singleton] at hl
      have es : s = T.1.length := by omega
      rw [es, List.getElem?_append_right (Nat.le_refl _), Nat.sub_self] at hp
      exact Or.inr ⟨es, (Option.some.inj hp).symm⟩
  have hl : ((T.1 ++ [(M, k, i)], T.2) : gTy).1.length = T.1.length + 1 := by
    show (T.1 ++ _).length = _
    rw [List.length_append, List.length_singleton]
  refine ⟨fun s p hp => ?_, ?_, by rw [e121]; exact h3, fun s p hp s0 => ?_⟩
  · rcases cs s p hp with ⟨c1, c2⟩ | ⟨c1, c2⟩
    · rw [hA s c1]; exact h1 s p c2
    · rw [c1, c2]; exact ⟨am, mc, nb⟩
  · rw [hl]
    refine FN3_next (x7 := fun f => y'.1 126 (11 * W + f)) (p := (M, k, i)) ev ?_ (FN3_T (T := T) (fun s hs => ?_) (by rw [e126]; exact h2)) fa
    · show (T.1 ++ [(M, k, i)])[T.1.length]? = _
      rw [List.getElem?_append_right (Nat.le_refl _), Nat.sub_self]; rfl
    · show (T.1 ++ [(M, k, i)])[s]? = _
      exact List.getElem?_append_left hs
  · rcases cs s p hp with ⟨c1, c2⟩ | ⟨c1, c2⟩
    · rw [e130 s c1, e131 s c1]; exact h4 s p c2 s0
    · rw [c1, c2]; exact ⟨f130, f131⟩
section TRY3
variable {G : mG} {d D : Nat} {x z a : gd} {F : Int32 → gd → Prop} {Fv : gd → Prop} {C : gCo} {nl wn lim : Nat}
theorem sp_tryAll3 (gc : GC C) (hq2 : NCq C) (hLk : LkN C nl) (n6 : nl ≤ 6) (l24 : C.2.2.1.length ≤ 24) (w01n : wn = 0 ∨ wn = 1) (w l : Int32) (ewn : w = Int32.ofNat wn) (wv : vp_in w 2) (cp : CP z) (hKz : MK z C) (l26 : (z.1 0 26).toInt = (C.2.2.2.1.length : Nat)) (l27 : (z.1 0 27).toInt = (C.2.2.2.2.length : Nat)) (hw : z.1 0 68 = w) (el : l.toInt = (lim : Nat)) (l1 : 1 ≤ l.toInt) (l3 : l.toInt ≤ 3000) (hD : 7 ≤ D) (h : ∀ (A : Nat → gd) (y : gd), (tryM C wn lim).1.length ≤ 3000 → TI z w.toNatClampNeg A (tryM C wn lim).1.length y → TJ C nl wn A w.toNatClampNeg (tryM C wn lim) y → Fv y) : MT G D z_tryAll 0 [(0, vr 0), (1, vi w), (2, vi l)] [] z (rv Fv) := by
  obtain ⟨D, rfl⟩ : ∃ D', D = D' + 2 := ⟨D - 2, by omega⟩
  have hN := gc.1
  have hX := gc.2.1
  have l6 := gc.2.2.1
  have b1n : vp_nar .boolean 1 = 1 := by decide
  have k0 : (0 : Int32).toInt = 0 := rfl
  have k1 : (1 : Int32).toInt = 1 := rfl
  have k24 : (240 : Int32).toInt = 240 := rfl
  have k40 : (4096 : Int32).toInt = 4096 := rfl
  have k3 : (3000 : Int32).toInt = 3000 := rfl
  have nb1 : ¬ vp_nar .boolean 1 = 0 := by decide
  obtain ⟨W, eW⟩ : ∃ W, W = w.toNatClampNeg := ⟨_, rfl⟩
  have W2 : W < 2 := by rw [eW]; exact vp_lt wv
  have wb := vp_in_iff.mp wv
  have cw := cl_i wb.1
  rw [← eW] at h cw
  have e32 : w32 W = w := by
    unfold w32
    by_cases q : W = 0
    · rw [if_pos q]; exact t_eq.mpr (by rw [k0]; omega)
    · rw [if_neg q]; exact t_eq.mpr (by rw [k1]; omega)
  have w01 : w = 0 ∨ w = 1 := by rw [← e32]; exact w32_01 W
  obtain ⟨a0, am0, av0, e68, pa0, st0, b0, mb0, first⟩ := start_exM cp hKz hN hX w01n w ewn w01
  -- a row unpacked
  have unp : ∀ (A : Nat → gd) (M f : Nat) (y : gd) (i : Int32) (Fq : gd → Prop), M ≤ 3000 → f < M → i.toInt = f → TI z W A M y → (∀ y', TI z W A M y' → md [] uA y y' → eqS (Sl (A f)) (A f) y' → Fq y') → MT G (D + 1) z_unpack 0 [(0, vr 0), (1, vr 133), (2, vi (240 * i))] [] y (rv Fq) := by
    intro A M f y i Fq hM hf hi q hq
    have b1 : (240 * i).toInt = 240 * i.toInt := by rw [t_mul (by rw [k24]; omega) (by rw [k24]; omega), k24]
    have cb : (240 * i).toNatClampNeg = 240 * f := by have := cl_i (a := 240 * i) (by omega); omega
    refine sp_unpack (Or.inl rfl) mk_133 ml_133 (240 * i) (by omega) (by omega) (by omega) (fun y' m' r' => ?_)
    rw [cb] at r'
    have q' := TI_mi q (mi_of m') rfl rfl rfl
    obtain ⟨p1, p2⟩ := q.2.2.2.2.2.2.2.2 f hf
    have rr := (q.2.2.2.2.2.2.1 f hf).2
    have av := (q.2.2.2.2.2.2.1 f hf).1.1
    refine hq y' q' m' (un_eq ?_ ?_ (fun t ht => ((av.1).2 t ht).2.2.2.1) (fun k hk => by rw [r' k hk, rr k hk]))
    · exact prE_tr (prE_sy p1) (prE_mi (prE_rf z) q'.1 rfl rfl)
    · rw [q'.1.1 68 (by decide), p2]
  have p320 : ∀ (A : Nat → gd) (T : gTy) (y : gd), T = tryM C wn lim → T.1.length ≤ 3000 → TI z W A T.1.length y → TJ C nl wn A W T y → MT G (D + 2) z_tryAll 320 [(0, vr 0), (1, vi w)] [] y (rv Fv) := by
    intro A T y eT hM q qj
    subst eT
    exact sg_tryAll_320 _ (sp_sortOutcomes w wv (by rw [← eW]; exact q.2.2.2.1) (by rw [← eW]; have := q.2.2.2.2.1; omega) (fun y' m' => rv_i (h A y' hM (TI_mi q (mi_of m') rfl rfl rfl) (TJ_mi (mi_of m') rfl qj))))
  have p75 : ∀ (n : Nat) (A : Nat → gd) (T : gTy) (y : gd) (f : Int32), 0 ≤ f.toInt → f.toInt ≤ 3000 → 3000 - f.toInt ≤ n → 1 ≤ T.1.length → (T.1.length : Int) ≤ l.toInt → TI z W A T.1.length y → TJ C nl wn A W T y → (y.1 121 W = 0 → hcR y T.1.length) → bfS C wn lim (3001 - f.toNatClampNeg) f.toNatClampNeg T = tryM C wn lim → MT G (D + 2) z_tryAll 75 [(0, vr 0), (1, vi w), (2, vi l), (4, vi f)] [] y (rv Fv) := by
    intro n
    induction n with
    | zero =>
      intro A T y f f0 f3 hn M1 Ml q qj hs hb
      obtain ⟨M, eM⟩ : ∃ M, M = T.1.length := ⟨_, rfl⟩
      have e120 := q.2.2.1
      have cf0 := cl_i f0
      rw [← eM] at e120 M1 Ml
      refine sg_tryAll_75 _ _ _ ⟨wv, ?_⟩
      rw [← eW, e120]
      exact ⟨fun _ => p320 A T y ((bfS_end (List.getElem?_eq_none (by omega))).symm.trans hb) (by omega) q qj, fun c => absurd (t_le.mpr (by rw [ofN (by omega)]; omega)) c⟩
    | succ n ih =>
      intro A T y f f0 f3 hn M1 Ml q qj hs hb
      obtain ⟨M, eM⟩ : ∃ M, M = T.1.length := ⟨_, rfl⟩
      have e120 := q.2.2.1
      have cf0 := cl_i f0
      rw [← eM] at e120 M1 Ml
      refine sg_tryAll_75 _ _ _ ⟨wv, ?_⟩
      rw [← eW, e120]
      refine ⟨fun c => p320 A T y ((bfS_end (List.getElem?_eq_none (by rw [t_le, ofN (by omega)] at c; omega))).symm.trans hb) (by omega) q qj, fun c => ⟨wv, fun np => p320 A T y ((bfS_p ?_ _ _).symm.trans hb) (by omega) q qj, fun np => ?_⟩⟩
      · apply Classical.byContradiction
        intro c9
        have := qj.2.2.1
        rw [if_neg c9] at this
        exact np this
      rw [t_le, ofN (by omega)] at c
      have hs := hs np
      have cf := cl_i f0
      obtain ⟨fn, efn⟩ : ∃ fn, fn = f.toNatClampNeg := ⟨_, rfl⟩
      rw [← efn] at cf hb
      have fM : fn < T.1.length := by omega
      obtain ⟨p, hp⟩ : ∃ p, T.1[fn]? = some p := ⟨_, List.getElem?_eq_getElem fM⟩
      rw [show 3001 - fn = (3000 - fn) + 1 by omega, bfS_go hp] at hb
      obtain ⟨amf, mcf, nbf⟩ := qj.1 fn p hp
      have fi : (f + 1).toInt = f.toInt + 1 := by rw [t_add (by omega) (by omega), k1]
      have fi1 : (f + 1).toNatClampNeg = fn + 1 := by have := cl_i (a := f + 1) (by omega); omega
      refine unp A T.1.length fn y f _ (by omega) fM (by omega) q (fun y5 q5 m5 eq5 => ?_)
      have avf := (q5.2.2.2.2.2.2.1 fn (by omega)).1.1
      refine MT_up (by omega) (MTv_mono (avf.2.2.2.2.2 G y5 eq5) (fun y6 g6 => ?_))
      have q6 := TI_mi q5 (mi_of g6.2) rfl rfl rfl
      have e84 : y6.1 0 84 = (A fn).1 0 84 := g6.1 0 84 (Or.inr (Or.inl ⟨rfl, rfl⟩))
      have hs6 := hcR_mi (mi_of g6.2) rfl (hcR_mi (mi_of m5) rfl hs)
      have qj6 := TJ_mi (mi_of g6.2) rfl (TJ_mi (mi_of m5) rfl qj)
      have c84 := avf.2.2.2.2.1
      have c840 := avf.2.2.2.1
      obtain ⟨C84, eC⟩ : ∃ C, C = (A fn).1 0 84 := ⟨_, rfl⟩
      have eL := AM_n amf
      rw [e84, ← eC]
      rw [← eC] at c84 c840 eL
      -- the choices of this state
      have p122 : ∀ (m : Nat) (A2 : Nat → gd) (u : gd) (i : Int32), 0 ≤ i.toInt → i.toInt ≤ C84.toInt → C84.toInt - i.toInt ≤ m → ((onS C wn lim fn p.1 i.toNatClampNeg T).1.length : Int) ≤ l.toInt → A2 fn = A fn → TI z W A2 (onS C wn lim fn p.1 i.toNatClampNeg T).1.length u → TJ C nl wn A2 W (onS C wn lim fn p.1 i.toNatClampNeg T) u → (u.1 121 W = 0 → hcR u (onS C wn lim fn p.1 i.toNatClampNeg T).1.length) → MT G (D + 2) z_tryAll 122 [(0, vr 0), (1, vi w), (2, vi l), (4, vi f), (5, vi C84), (6, vi i)] [] u (rv Fv) := by
        intro m
        induction m with
        | zero =>
          intro A2 u i i0 iC hm ml ea qu quj hu
          have ci := cl_i i0
          have pre := (onS_pre (C := C) (w := wn) (lim := lim) (M := p.1) fM fn i.toNatClampNeg).2
          exact sg_tryAll_122 _ _ _ _ _ ⟨fun _ => ih A2 _ u (f + 1) (by omega) (by omega) (by omega) (by omega) ml qu quj hu (by rw [fi1, show 3001 - (fn + 1) = 3000 - fn by omega, show i.toNatClampNeg = (chM C wn p.1).length by omega]; exact hb), fun c => absurd (t_le.mpr (by omega)) c⟩
        | succ m ihm =>
          intro A2 u i i0 iC hm ml ea qu quj hu
          have ci := cl_i i0
          obtain ⟨j, ej⟩ : ∃ j, j = i.toNatClampNeg := ⟨_, rfl⟩
          obtain ⟨pr1, pre⟩ := onS_pre (C := C) (w := wn) (lim := lim) (M := p.1) fM fn j
          rw [← ej] at ml qu quj hu ci
          obtain ⟨T2, eT2⟩ : ∃ T2, T2 = onS C wn lim fn p.1 j T := ⟨_, rfl⟩
          rw [← eT2] at pr1 pre ml qu quj hu
          have nxt : onS C wn lim fn p.1 (chM C wn p.1).length T = T2 → MT G (D + 2) z_tryAll 75 [(0, vr 0), (1, vi w), (2, vi l), (4, vi (f + 1))] [] u (rv Fv) := fun e9 => ih A2 T2 u (f + 1) (by omega) (by omega) (by omega) (by omega) ml qu quj hu (by rw [fi1, show 3001 - (fn + 1) = 3000 - fn by omega, ← e9]; exact hb)
          refine sg_tryAll_122 _ _ _ _ _ ⟨fun c => nxt (by rw [t_le] at c; rw [eT2, show j = (chM C wn p.1).length by omega]), fun c => ⟨wv, ?_⟩⟩
          rw [t_le] at c
          rw [← eW]
          have e121u := quj.2.2.1
          refine ⟨fun np => nxt (by
            have pt : (onS C wn lim fn p.1 j T).2 = true := by
              apply Classical.byContradiction
              intro c9
              rw [← eT2] at c9
              rw [if_neg c9] at e121u
              exact np e121u
            rw [eT2]
            exact onS_stop pt _ (by omega)), fun np => ?_⟩
          have hu := hu np
          have pf : ¬ (onS C wn lim fn p.1 j T).2 = true := fun z9 => by
            rw [← eT2] at z9
            rw [if_pos z9] at e121u
            rw [e121u] at np
            exact absurd np (by decide)
          have jl : j < (chM C wn p.1).length := by omega
          obtain ⟨ch, hch⟩ : ∃ ch, (chM C wn p.1)[j]? = some ch := ⟨_, List.getElem?_eq_getElem jl⟩
          have hgo := onS_go (lim := lim) (k := fn) pf hch
          rw [← eT2] at hgo
          obtain ⟨M2, eM2⟩ : ∃ M2, M2 = T2.1.length := ⟨_, rfl⟩
          have fm : fn < M2 := by omega
          have m1 : 1 ≤ M2 := by omega
          rw [← eM2] at ml qu hu
          have iv : vp_in i 200 := by rw [vp_in_iff]; omega
          have ii : (i + 1).toInt = i.toInt + 1 := by rw [t_add (by omega) (by omega), k1]
          have ii1 : (i + 1).toNatClampNeg = j + 1 := by have := cl_i (a := i + 1) (by omega); omega
          refine unp A2 M2 fn u f _ (by omega) fm (by omega) qu (fun u4 q4 m4' eq4 => ?_)
          rw [ea] at eq4
          refine MT_up (by omega) (MTv_mono (avf.2.2.2.2.2 G u4 eq4) (fun u5 g5 => ?_))
          have q5' := TI_mi q4 (mi_of g5.2) rfl rfl rfl
          have hu5 := hcR_mi (mi_of g5.2) rfl (hcR_mi (mi_of m4') rfl hu)
          have quj5 := TJ_mi (mi_of g5.2) rfl (TJ_mi (mi_of m4') rfl quj)
          have p5' : u5.1 121 W = 0 := by rw [g5.2.2.1 121 (by decide) (by decide), m4'.2.1 121 (by decide) (by decide)]; exact np
          have lt84 : ((i.toNatClampNeg : Nat) : Int) < ((A fn).1 0 84).toInt := by rw [← eC]; omega
          obtain ⟨b, a', rb, wyb, mmb, trb, am', fb, mb⟩ := st_exM gc w01n amf (i := i.toNatClampNeg) (by rw [← ej]; exact hch)
          have av' := am'.1
          have cmem := List.mem_of_getElem? hch
          have lbI : (C.2.2.1.length : Int) < 2147483648 := by omega
          have mc' : MCn C nl (doM C wn p.1 ch) := MCn_do hN hX hLk lbI l6 mcf amf.2.2.2.1 cmem
          have nb' : NBm (doM C wn p.1 ch) := NBm_do nbf
          obtain ⟨u86, u87, u88, _, _⟩ := avf.2.2.1 i.toNatClampNeg lt84
          have e86 := g5.1 _ _ (Or.inr u86)
          have e87 := g5.1 _ _ (Or.inr u87)
          have e88 := g5.1 _ _ (Or.inr u88)
          have el5 : eqS (Sl (A fn)) (A fn) u5 := eqS_w (Sl_Sm _) g5.1
          rw [e86, e87, e88]
          -- the state come to: is it new?
          have p206 : ∀ v : gd, eqS (Sl b) b v → md rL rA u5 v → MT G (D + 2) z_tryAll 206 [(0, vr 0), (1, vi w), (2, vi l), (4, vi f), (5, vi C84), (6, vi i)] [] v (rv Fv) := by
            intro v ev mv
            have qv := TI_mi q5' (mi_of mv) rfl rfl rfl
            have hv := hcR_mi (mi_of mv) rfl hu5
            have qvj := TJ_mi (mi_of mv) rfl quj5
            have pv0 : v.1 121 W = 0 := by rw [mv.2.1 121 (by decide) (by decide)]; exact p5'
            have kept : ∀ s, s < T2.1.length → ((∀ k, k < 222 → v.1 133 (240 * s + k) = pv b k) ↔ ∃ p9, T2.1[s]? = some p9 ∧ p9.1 = doM C wn p.1 ch) := fun s hs9 => row_kept hN l24 l6 n6 (A := A2) (fun s p9 h9 => ⟨(qvj.1 s p9 h9).1.2.2.1, (qvj.1 s p9 h9).2⟩) (fun s hs8 => (qv.2.2.2.2.2.2.1 s (by omega)).2) mmb mc' nb' (fun t ht => (rb.2 t ht).2.2.2.1) hs9
            have e120 := qv.2.2.1
            have oM := ofN (M := M2) (by omega)
            refine sg_tryAll_206 _ _ _ _ _ (sp_seek3 w wv (m := M2) (by rw [← eW, e120, oM]) (by omega) hv.1 hv.2 (fun t ht => by rw [cA ev (c := 80) (n := 6) (by decide) ht]; exact (rb.2 t ht).2.2.2.1) (fun r v1 mv1 lo alt => ⟨wv, ?_⟩))
            rw [← eW, e120] at alt
            have cM : (Int32.ofNat M2).toNatClampNeg = M2 := by have := cl_i (a := Int32.ofNat M2) (by omega); omega
            have mv1' : mi [136] [133, 134, 135] v v1 := mi_of mv1
            have qv1j := TJ_mi mv1' rfl qvj
            have e120' : v1.1 120 W = Int32.ofNat M2 := by rw [mv1.2.1 120 (by decide) (by decide), e120]
            have e121' : v1.1 121 W = 0 := by rw [mv1.2.1 121 (by decide) (by decide)]; exact pv0
            -- the rows before stay
            have qv1 : TI z W A2 M2 v1 := by
              obtain ⟨t1, t2, t3, t4, t5, t6, t7, t8, t9⟩ := qv
              have g := fun k (h0 : k ≠ 0) hk => mv1.2.1 k h0 hk
              refine ⟨mi_tr t1 (mi_of mv1) rfl rfl, ow_tr t2 (ow_mi (mi_of mv1) rfl), e120', by rw [g 123 (by decide) (by decide)]; exact t4, by rw [g 123 (by decide) (by decide)]; exact t5, ?_, fun s hs2 => ⟨?_, fun k hk => ?_⟩, t8, t9⟩
              · unfold fnd
                rw [g 126 (by decide) (by decide)]
                exact t6
              · have r9 := (t7 s hs2).1
                unfold TN at r9 ⊢
                rw [g 130 (by decide) (by decide), g 131 (by decide) (by decide), g 132 (by decide) (by decide)]
                exact r9
              · rw [lo _ (by omega)]
                exact (t7 s hs2).2 k hk
            rw [← eW, e120']
            have nx : ∀ (A3 : Nat → gd) (T3 : gTy) (u : gd), adS lim fn j T2 (doM C wn p.1 ch) = T3 → (T3.1.length : Int) ≤ l.toInt → A3 fn = A fn → TI z W A3 T3.1.length u → TJ C nl wn A3 W T3 u → (u.1 121 W = 0 → hcR u T3.1.length) → MT G (D + 2) z_tryAll 122 [(0, vr 0), (1, vi w), (2, vi l), (4, vi f), (5, vi C84), (6, vi (i + 1))] [] u (rv Fv) := fun A3 T3 u eT3 h2 h4 h5 h5j h6 => by
              have e9 : onS C wn lim fn p.1 (i + 1).toNatClampNeg T = T3 := by rw [ii1, hgo]; exact eT3
              exact ihm A3 u (i + 1) (by omega) (by omega) (by omega) (by rw [e9]; exact h2) h4 (by rw [e9]; exact h5) (by rw [e9]; exact h5j) (by rw [e9]; exact h6)
            rcases alt with ⟨er, row, hsn, hcn, hno⟩ | ⟨s9, r0, r1, hso, hco, hyes⟩
            rotate_left
            · have old : ∃ q ∈ T2.1, q.1 = doM C wn p.1 ch := kept_old kept (s := s9) (by omega) (fun k hk => by rw [hyes k hk]; exact pv_eq ev hk)
              refine ⟨fun _ => nx A2 T2 v1 (adS_old old) (by rw [← eM2]; exact ml) ea (by rw [← eM2]; exact qv1) qv1j (fun _ => by rw [← eM2]; exact ⟨hso, hco⟩), fun er => ?_⟩
              rw [er, oM] at r1
              omega
            have new : ¬ ∃ q ∈ T2.1, q.1 = doM C wn p.1 ch := kept_new kept (fun s hs9 h9 => hno s (by omega) (fun k hk => by rw [h9 k hk]; exact (pv_eq ev hk).symm))
            refine ⟨fun ne => absurd er ne, fun _ => ⟨fun nl' => ?_, fun el' => ⟨wv, fun v18 e18 => ?_⟩⟩⟩
            rotate_left
            · -- the limit
              have m18 := md_a v1 121 W (vp_nar .boolean 1) (by decide)
              rw [← e18] at m18
              have e121n : v18.1 121 W = 1 := by rw [e18, si_get, if_pos ⟨rfl, rfl⟩]; exact b1n
              have full : lim ≤ T2.1.length := by
                rw [er] at el'
                have := t_eq.mp el'
                rw [oM] at this
                omega
              obtain ⟨g1, g2, g3, g4⟩ := qv1j
              refine nx A2 (T2.1, true) v18 (adS_full new full) (by show (T2.1.length : Int) ≤ _; rw [← eM2]; exact ml) ea (by show TI z W A2 T2.1.length v18; rw [← eM2]; exact TI_mi qv1 (mi_of m18) rfl rfl rfl) ⟨g1, ?_, ?_, ?_⟩ (fun q9 => ?_)
              · rw [m18.2.1 126 (by decide) (by decide)]; exact FN3_T (T := T2) (fun _ _ => rfl) g2
              · exact e121n
              · rw [m18.2.1 130 (by decide) (by decide), m18.2.1 131 (by decide) (by decide)]; exact g4
              · rw [e121n] at q9
                exact absurd q9 (by decide)
            -- a new state
            have Ml' : (M2 : Int) < l.toInt := by
              by_cases q9 : (M2 : Int) = l.toInt
              · exact absurd (by rw [er]; exact t_eq.mpr (by rw [oM]; exact q9)) nl'
              · omega
            have rv2 := tmul (k := 3000) (K := 3000) (N := 6000) (n := 3000) (i := r) rfl wv (by rw [er, oM]; omega) (by rw [er, oM]; omega) (by omega) (by omega) (by omega)
            have fv2 := tmul (k := 3000) (K := 3000) (N := 6000) (n := 3000) (i := f) rfl wv f0 (by omega) (by omega) (by omega) (by omega)
            rw [← eW, ← efn] at fv2
            rw [← eW, er, cM] at rv2
            rw [er, rv2.2, fv2.2]
            refine ⟨rv2.1, fun v7 e7 => ⟨rv2.1, fun v9 e9 => ⟨fv2.1, rv2.1, fun v12 e12 => ⟨wv, wv, fun v15 e15 => ?_⟩⟩⟩⟩
            have m7 := md_a v1 130 (3000 * W + M2) f (by decide)
            rw [← e7] at m7
            have m9 := md_a v7 131 (3000 * W + M2) i (by decide)
            rw [← e9] at m9
            have m12 := md_a v9 132 (3000 * W + M2) (v9.1 132 (3000 * W + fn) + 1) (by decide)
            rw [← e12] at m12
            have f120 : v12.1 120 W = Int32.ofNat M2 := by rw [m12.2.1 120 (by decide) (by decide), m9.2.1 120 (by decide) (by decide), m7.2.1 120 (by decide) (by decide), e120']
            rw [f120] at e15
            have m15 := md_a v12 120 W (Int32.ofNat M2 + 1) (by decide)
            rw [← e15] at m15
            have MM : md [] [120, 130, 131, 132] v1 v15 := md_tr (md_tr (L3 := []) (A3 := [130, 131, 132]) (md_tr (L3 := []) (A3 := [130, 131]) m7 m9 rfl rfl) m12 rfl rfl) m15 rfl rfl
            have o12 : ow W v1 v15 := by
              refine ow_tr (y := v12) (ow_tr (y := v9) (ow_tr (y := v7) ?_ ?_) ?_) ?_
              · rw [e7]; exact ow_si W2 (Or.inr (Or.inr ⟨Or.inl rfl, M2, by omega, rfl⟩))
              · rw [e9]; exact ow_si W2 (Or.inr (Or.inr ⟨Or.inr (Or.inl rfl), M2, by omega, rfl⟩))
              · rw [e12]; exact ow_si W2 (Or.inr (Or.inr ⟨Or.inr (Or.inr rfl), M2, by omega, rfl⟩))
              · rw [e15]; exact ow_si W2 (Or.inl ⟨Or.inl rfl, rfl⟩)
            have g120 : v15.1 120 W = Int32.ofNat (M2 + 1) := by
              rw [e15, si_get, if_pos ⟨rfl, rfl⟩]
              refine t_eq.mpr ?_
              rw [t_add (by omega) (by omega), oM, k1, ofN (by omega)]; omega
            have h130 : ∀ s : Nat, ¬ s = M2 → v15.1 130 (3000 * W + s) = v1.1 130 (3000 * W + s) := fun s hs2 => by rw [e15, si_cell (by decide), e12, si_cell (by decide), e9, si_cell (by decide), e7, si_ne 130 _ (by omega)]
            have h131 : ∀ s : Nat, ¬ s = M2 → v15.1 131 (3000 * W + s) = v1.1 131 (3000 * W + s) := fun s hs2 => by rw [e15, si_cell (by decide), e12, si_cell (by decide), e9, si_ne 131 _ (by omega), e7, si_cell (by decide)]
            have h132 : ∀ s : Nat, ¬ s = M2 → v15.1 132 (3000 * W + s) = v1.1 132 (3000 * W + s) := fun s hs2 => by rw [e15, si_cell (by decide), e12, si_ne 132 _ (by omega), e9, si_cell (by decide), e7, si_cell (by decide)]
            have i130 : v15.1 130 (3000 * W + M2) = f := by rw [e15, si_cell (by decide), e12, si_cell (by decide), e9, si_cell (by decide), e7, si_get, if_pos ⟨rfl, rfl⟩]
            have i131 : v15.1 131 (3000 * W + M2) = i := by rw [e15, si_cell (by decide), e12, si_cell (by decide), e9, si_get, if_pos ⟨rfl, rfl⟩]
            have i132 : v15.1 132 (3000 * W + M2) = v1.1 132 (3000 * W + fn) + 1 := by rw [e15, si_cell (by decide), e12, si_get, if_pos ⟨rfl, rfl⟩, e9, si_cell (by decide), e7, si_cell (by decide)]
            have j133 : v15.1 133 = v1.1 133 := MM.2.1 133 (by decide) (by decide)
            obtain ⟨A3, eA3⟩ : ∃ A3 : Nat → gd, A3 = fun s => if s = M2 then a' else A2 s := ⟨_, rfl⟩
            have A3n : ∀ s : Nat, ¬ s = M2 → A3 s = A2 s := fun s hs2 => by rw [eA3]; simp only [if_neg hs2]
            have A3m : A3 M2 = a' := by rw [eA3]; simp only [if_pos]
            have eva : eqS (Sl a') a' v := sl_sw mb ev
            -- the chain of far stays small
            have farb : ∀ s : Nat, s < M2 → 0 ≤ (v1.1 132 (3000 * W + s)).toInt ∧ (v1.1 132 (3000 * W + s)).toInt ≤ s := by
              intro s
              induction s using Nat.strongRecOn with
              | ind s ihs =>
                intro hs2
                obtain ⟨_, t2, t3, t4⟩ := (qv1.2.2.2.2.2.2.1 s hs2).1
                refine ⟨t2, ?_⟩
                by_cases q9 : s = 0
                · have := t3 q9; omega
                · obtain ⟨p, p1, p2, p3, _⟩ := t4 (by omega)
                  have := (ihs p p1 (by omega)).2
                  omega
            have ff := farb fn fm
            have j132 : (v15.1 132 (3000 * W + M2)).toInt = (v1.1 132 (3000 * W + fn)).toInt + 1 := by rw [i132, t_add (by omega) (by omega), k1]
            have q15 : TI z W A3 (M2 + 1) v15 := by
              obtain ⟨t1, t2, t3, t4, t5, t6, t7, t8, t9⟩ := qv1
              refine ⟨mi_tr t1 (mi_of MM) rfl rfl, ow_tr t2 o12, g120, by rw [MM.2.1 123 (by decide) (by decide)]; exact t4, by rw [MM.2.1 123 (by decide) (by decide)]; omega, ?_, fun s hs2 => ?_, ?_, fun s hs2 => ?_⟩
              · unfold fnd at t6 ⊢
                rw [MM.2.1 126 (by decide) (by decide)]
                exact fun g hg => (t6 g hg).imp id (fun w => by omega)
              · by_cases q9 : s = M2
                · rw [q9]
                  refine ⟨⟨by rw [A3m]; exact av', by omega, fun z9 => by omega, fun _ => ⟨fn, fm, by rw [i130]; omega, ?_, by rw [i131]; exact i0, ?_, ?_⟩⟩, fun k hk => ?_⟩
                  · rw [h132 fn (by omega)]; exact j132
                  · rw [i131, A3n fn (by omega), ea, ← eC]; omega
                  · rw [i131, A3n fn (by omega), ea, A3m]; exact ⟨b, trb, fb⟩
                  · rw [A3m, j133, row k hk]; exact pv_eq eva hk
                · obtain ⟨⟨u1, u2, u3, u4⟩, u5'⟩ := t7 s (by omega)
                  refine ⟨⟨by rw [A3n s q9]; exact u1, by rw [h132 s q9]; exact u2, by rw [h132 s q9]; exact u3, fun z9 => ?_⟩, fun k hk => by rw [A3n s q9, j133]; exact u5' k hk⟩
                  obtain ⟨p, p1, p2, p3, p4, p5, p6⟩ := u4 z9
                  refine ⟨p, p1, by rw [h130 s q9]; exact p2, by rw [h132 s q9, h132 p (by omega)]; exact p3, by rw [h131 s q9]; exact p4, by rw [h131 s q9, A3n p (by omega)]; exact p5, by rw [h131 s q9, A3n p (by omega), A3n s q9]; exact p6⟩
              · rw [A3n 0 (by omega)]; exact t8
              · by_cases q9 : s = M2
                · rw [q9, A3m]
                  have pz : prE z v := prE_mi (prE_rf z) qv.1 rfl rfl
                  have pav : prE a' v := prE_eqS eva
                  refine ⟨prE_tr pz (prE_sy pav), ?_⟩
                  rw [← cF eva (k := 68) (by decide), qv.1.1 68 (by decide)]
                · rw [A3n s q9]; exact t9 s (by omega)
            have e15s : eqS (Sl a') a' v15 := eqS_mi eva (mi_tr (L3 := [136]) (A3 := [133, 134, 135, 120, 130, 131, 132]) (mi_of mv1) (mi_of MM) rfl rfl) rfl rfl (Sl_Sm a')
            have o15 := q15.2.2.2.1
            have o15b : (v15.1 123 W).toInt ≤ M2 := by rw [MM.2.1 123 (by decide) (by decide)]; exact qv1.2.2.2.2.1
            have pa' : prE z a' := by have := (q15.2.2.2.2.2.2.2.2 M2 (by omega)).1; rw [A3m] at this; exact this
            refine sp_look3 hN hX hq2 w01n w (Int32.ofNat M2) wv am' (by rw [pa'.1 26 (by decide)]; exact l26) (by rw [pa'.1 27 (by decide)]; exact l27) e15s (by omega) (M := ((M2 + 1 : Nat) : Int)) (by omega) (by rw [← eW]; exact q15.2.2.2.2.2.1) (by rw [← eW]; exact o15) (by rw [← eW]; omega) (by omega) (fun v16 k16 fa16 => ?_)
            rw [← eW] at k16 fa16
            obtain ⟨n1, n2, n3, n4, n5, n6⟩ := k16
            have g := fun k (h0 : k ≠ 0) hk => n1.2.1 k h0 hk
            have hl3 : ((T2.1 ++ [(doM C wn p.1 ch, fn, j)], T2.2) : gTy).1.length = M2 + 1 := by
              show (T2.1 ++ _).length = _
              rw [List.length_append, List.length_singleton, ← eM2]
            refine nx A3 (T2.1 ++ [(doM C wn p.1 ch, fn, j)], T2.2) v16 (adS_new new (by omega)) (by rw [hl3]; omega) (by rw [A3n fn (by omega)]; exact ea) ?_ ?_ (fun _ => ?_)
            rotate_left
            · refine TJ_ad (y' := v15) (v := Int32.ofNat M2) qv1j (fun s hs9 => A3n s (by omega)) (by rw [← eM2, A3m]; exact am') mc' nb' ?_ (MM.2.1 126 (by decide) (by decide)) (fun s hs9 => ?_) (fun s hs9 => ?_) ?_ ?_ (by rw [oM, eM2]) fa16
              · rw [g 121 (by decide) (by decide), MM.2.1 121 (by decide) (by decide)]
              · rw [g 130 (by decide) (by decide)]; exact h130 s (by omega)
              · rw [g 131 (by decide) (by decide)]; exact h131 s (by omega)
              · rw [← eM2, g 130 (by decide) (by decide), i130]; omega
              · rw [← eM2, g 131 (by decide) (by decide), i131]; omega
            rotate_left
            · rw [hl3]
              obtain ⟨t1, t2, t3, t4, t5, t6, t7, t8, t9⟩ := q15
              refine ⟨mi_tr t1 n1 rfl rfl, ow_tr t2 n3, by rw [g 120 (by decide) (by decide)]; exact t3, n5, by omega, n4, fun s hs2 => ?_, t8, t9⟩
              have r9 := t7 s hs2
              unfold TR TN at r9 ⊢
              rw [g 130 (by decide) (by decide), g 131 (by decide) (by decide), g 132 (by decide) (by decide), g 133 (by decide) (by decide)]
              exact r9
            · rw [hl3]
              refine hcR_f (y := v1) ?_ ?_ (fun s k _ _ => ?_) ⟨by push_cast; exact hsn, hcn⟩
              · rw [g 134 (by decide) (by decide), MM.2.1 134 (by decide) (by decide)]
              · rw [g 135 (by decide) (by decide), MM.2.1 135 (by decide) (by decide)]
              · rw [g 133 (by decide) (by decide), j133]
          refine ⟨iv, fun cl => ⟨iv, iv, ?_⟩, fun cl => ⟨iv, iv, ?_⟩⟩
          · exact MT_up (by omega) (MTv_mono (trb.1 cl G u5 el5) (fun v q9 => p206 v q9.1 q9.2.1))
          · exact MT_up (by omega) (MTv_mono (trb.2 cl G u5 el5) (fun v q9 => p206 v q9.1 q9.2))
      have z00 : (0 : Int32).toNatClampNeg = 0 := rfl
      exact p122 84 A y6 0 (by decide) (by rw [k0]; omega) (by rw [k0]; omega) (by rw [z00]; show (T.1.length : Int) ≤ _; rw [← eM]; exact Ml) rfl (by rw [z00]; exact q6) (by rw [z00]; exact qj6) (fun _ => by rw [z00]; exact hs6)
  -- the beginning
  refine sg_tryAll_0 _ _ (sp_forgetTrying w wv (fun y1 m1 o1 n120 n121 n123 nf => ?_))
  rw [← eW] at o1 n120 n121 n123 nf
  have loop : ∀ (n : Nat) (y : gd) (i : Int32), 0 ≤ i.toInt → i.toInt ≤ 4096 → 4096 - i.toInt ≤ n → md [] [135] y1 y → (∀ k : Nat, (k : Int) < i.toInt → y.1 135 k = -1) → MT G (D + 2) z_tryAll 7 [(0, vr 0), (1, vi w), (2, vi l), (3, vi i)] [] y (rv Fv) := by
    have last : ∀ y : gd, md [] [135] y1 y → (∀ k : Nat, k < 4096 → y.1 135 k = -1) → MT G (D + 1) z_setFirst 0 [(0, vr 0)] [] y (rv (fun x2 => MT G (D + 1) z_seek 0 [(0, vr 0), (1, vi w)] [] x2 (ri (fun r4 x3 => vp_in w 2 ∧ (∀ x6 : gd, x6 = si x3 120 (w : Int32).toNatClampNeg 1 → vp_in (3000 * w) 6000 ∧ (∀ x8 : gd, x8 = si x6 130 (3000 * w : Int32).toNatClampNeg (-1) → vp_in (3000 * w) 6000 ∧ (∀ x10 : gd, x10 = si x8 132 (3000 * w : Int32).toNatClampNeg 0 → MT G (D + 1) z_look 0 [(0, vr 0), (1, vi w), (2, vi 0)] [] x10 (rv (fun x11 => MT G (D + 2) z_tryAll 75 [(0, vr 0), (1, vi w), (2, vi l), (4, vi 0)] [] x11 (rv Fv))))))))))  := by
      intro y my hh
      have mzy : mi [] [120, 121, 122, 123, 124, 125, 126, 127, 128, 135] z y := mi_tr (mi_of m1) (mi_of my) rfl rfl
      have py : prE z y := prE_mi (prE_rf z) mzy rfl rfl
      have wy' : y.1 0 68 = w := by rw [mzy.1 68 (by decide)]; exact hw
      refine MTv_mono (first G (D + 1) y (by omega) py wy') (fun y2 g2 => ?_)
      have e2 : eqS (Sl a0) a0 y2 := sl_sw mb0 g2.1
      have y120 : y2.1 120 W = 0 := by rw [g2.2.2.1 120 (by decide) (by decide), my.2.1 120 (by decide) (by decide)]; exact n120
      have y121 : y2.1 121 W = 0 := by rw [g2.2.2.1 121 (by decide) (by decide), my.2.1 121 (by decide) (by decide)]; exact n121
      have y123 : y2.1 123 W = 0 := by rw [g2.2.2.1 123 (by decide) (by decide), my.2.1 123 (by decide) (by decide)]; exact n123
      have y126 : ∀ f : Nat, f < 11 → y2.1 126 (11 * W + f) = -1 := fun f hf => by rw [g2.2.2.1 126 (by decide) (by decide), my.2.1 126 (by decide) (by decide)]; exact nf f hf
      have y135 : y2.1 135 = y.1 135 := g2.2.2.1 135 (by decide) (by decide)
      refine sp_seek3 w wv (m := 0) (by rw [← eW, y120]; rfl) (by omega) ⟨fun k hk => Or.inl (by rw [y135]; exact hh k hk), fun s hs2 => by omega⟩ (fun s hs2 => absurd hs2 (Nat.not_lt_zero _)) (fun t ht => by rw [cA e2 (c := 80) (n := 6) (by decide) ht]; exact (av0.1.2 t ht).2.2.2.1) (fun r y3 m3 lo alt => ⟨wv, fun y6 e6 => ?_⟩)
      rcases alt with ⟨er, row, hsn, hcn, -⟩ | ⟨s9, r0, _⟩
      rotate_left
      · exact absurd r0 (Nat.not_lt_zero _)
      have bw : (3000 * w).toInt = 3000 * w.toInt := by rw [t_mul (by rw [k3]; omega) (by rw [k3]; omega), k3]
      have bv : vp_in (3000 * w) 6000 := by rw [vp_in_iff]; omega
      have cb : (3000 * w).toNatClampNeg = 3000 * W + 0 := by have := cl_i (a := 3000 * w) (by omega); omega
      rw [cb]
      rw [← eW] at e6
      refine ⟨bv, fun y8 e8 => ⟨bv, fun y10 e10 => ?_⟩⟩
      have m6 := md_a y3 120 W 1 (by decide)
      rw [← e6] at m6
      have m8 := md_a y6 130 (3000 * W + 0) (-1) (by decide)
      rw [← e8] at m8
      have m10 := md_a y8 132 (3000 * W + 0) 0 (by decide)
      rw [← e10] at m10
      have MM : md [] [120, 130, 132] y3 y10 := md_tr (md_tr (L3 := []) (A3 := [120, 130]) m6 m8 rfl rfl) m10 rfl rfl
      have o310 : ow W y3 y10 := by
        refine ow_tr (y := y8) (ow_tr (y := y6) ?_ ?_) ?_
        · rw [e6]; exact ow_si W2 (Or.inl ⟨Or.inl rfl, rfl⟩)
        · rw [e8]; exact ow_si W2 (Or.inr (Or.inr ⟨Or.inl rfl, 0, by omega, rfl⟩))
        · rw [e10]; exact ow_si W2 (Or.inr (Or.inr ⟨Or.inr (Or.inr rfl), 0, by omega, rfl⟩))
      have oz3 : ow W z y3 := ow_tr (ow_tr (ow_tr o1 (ow_mi (mi_of my) rfl)) (ow_mi (mi_of g2.2) rfl)) (ow_mi (mi_of m3) rfl)
      have mz10 : mi tL tA' z y10 := mi_tr (mi_tr (L3 := tL) (A3 := tA') (mi_tr (L3 := tL) (A3 := tA') mzy (mi_of g2.2) rfl rfl) (mi_of m3) rfl rfl) (mi_of MM) rfl rfl
      have h132 : y10.1 132 (3000 * W + 0) = 0 := by rw [e10, si_get, if_pos ⟨rfl, rfl⟩]
      have h120 : y10.1 120 W = Int32.ofNat 1 := by rw [m10.2.1 120 (by decide) (by decide), m8.2.1 120 (by decide) (by decide), e6, si_get, if_pos ⟨rfl, rfl⟩]; rfl
      have h123 : y10.1 123 W = 0 := by rw [MM.2.1 123 (by decide) (by decide), m3.2.1 123 (by decide) (by decide)]; exact y123
      have h126 : fnd y10 W 1 := fun f hf => Or.inl (by rw [MM.2.1 126 (by decide) (by decide), m3.2.1 126 (by decide) (by decide)]; exact y126 f hf)
      have q10 : TI z W (fun _ => a0) 1 y10 := by
        refine ⟨mz10, ow_tr oz3 o310, h120, by rw [h123]; decide, by rw [h123]; decide, h126, fun s hs2 => ⟨⟨av0, ?_, fun _ => ?_, fun z9 => by omega⟩, fun k hk => ?_⟩, by rw [e32]; exact st0, fun s hs2 => ⟨pa0, by rw [hw]; exact e68⟩⟩
        · rw [show s = 0 by omega, h132]; decide
        · rw [show s = 0 by omega, h132]; rfl
        · rw [show s = 0 by omega, MM.2.1 133 (by decide) (by decide)]
          exact (row k hk).trans (pv_eq e2 hk)
      have e10s : eqS (Sl a0) a0 y10 := eqS_mi e2 (mi_tr (L3 := [136]) (A3 := [133, 134, 135, 120, 130, 132]) (mi_of m3) (mi_of MM) rfl rfl) rfl rfl (Sl_Sm a0)
      refine sp_look3 hN hX hq2 w01n w 0 wv am0 (by rw [pa0.1 26 (by decide)]; exact l26) (by rw [pa0.1 27 (by decide)]; exact l27) e10s (by decide) (M := 1) (by decide) (by rw [← eW]; exact h126) (by rw [← eW, h123]; decide) (by rw [← eW, h123]; decide) (by omega) (fun y11 k11 fa11 => ?_)
      rw [← eW] at k11 fa11
      obtain ⟨n1, n2, n3, n4, n5, n6⟩ := k11
      rw [h123, k0] at n6
      have g := fun k (h0 : k ≠ 0) hk => n1.2.1 k h0 hk
      have e121e : y11.1 121 W = 0 := by rw [g 121 (by decide) (by decide), MM.2.1 121 (by decide) (by decide), m3.2.1 121 (by decide) (by decide)]; exact y121
      have y126' : ∀ f : Nat, f < 11 → y10.1 126 (11 * W + f) = -1 := fun f hf => by rw [MM.2.1 126 (by decide) (by decide), m3.2.1 126 (by decide) (by decide)]; exact y126 f hf
      have one : ∀ (s : Nat) (p : gMa × Nat × Nat), (([(fsM C, 0, 0)], false) : gTy).1[s]? = some p → s = 0 ∧ p = (fsM C, 0, 0) := fun s p hp => by
        cases s with
        | zero => exact ⟨rfl, (Option.some.inj hp).symm⟩
        | succ s => exact nomatch hp
      refine p75 3000 (fun _ => a0) ([(fsM C, 0, 0)], false) y11 0 (by decide) (by decide) (by decide) (Nat.le_refl 1) (by show ((1 : Nat) : Int) ≤ _; omega) ?_ ⟨fun s p hp => ?_, ?_, e121e, fun s p hp s0 => ?_⟩ (fun _ => ?_) rfl
      rotate_left
      · rw [(one s p hp).2]; exact ⟨am0, MCn_fs, NBm_fs⟩
      · exact FN3_next (k := 0) (x7 := fun f => y10.1 126 (11 * W + f)) (p := (fsM C, 0, 0)) rfl rfl (fun f hf => Or.inl ⟨y126' f hf, fun s p hs => absurd hs (Nat.not_lt_zero _)⟩) fa11
      · rw [(one s p hp).1] at s0; exact absurd s0 (Nat.lt_irrefl _)
      rotate_left
      · obtain ⟨t1, t2, t3, t4, t5, t6, t7, t8, t9⟩ := q10
        refine ⟨mi_tr t1 n1 rfl rfl, ow_tr t2 n3, by rw [g 120 (by decide) (by decide)]; exact t3, n5, by show _ ≤ ((1 : Nat) : Int); omega, n4, fun s hs2 => ?_, t8, t9⟩
        have r9 := t7 s hs2
        unfold TR TN at r9 ⊢
        rw [g 130 (by decide) (by decide), g 131 (by decide) (by decide), g 132 (by decide) (by decide), g 133 (by decide) (by decide)]
        exact r9
      · refine hcR_f (y := y3) ?_ ?_ (fun s k _ _ => ?_) ⟨hsn, hcn⟩
        · rw [g 134 (by decide) (by decide), MM.2.1 134 (by decide) (by decide)]
        · rw [g 135 (by decide) (by decide), MM.2.1 135 (by decide) (by decide)]
        · rw [g 133 (by decide) (by decide), MM.2.1 133 (by decide) (by decide)]
    intro n
    induction n with
    | zero =>
      intro y i i0 i1 hn my hh
      exact sg_tryAll_7 _ _ _ ⟨fun _ => last y my (fun k hk => hh k (by omega)), fun c => absurd (t_le.mpr (by rw [k40]; omega)) c⟩
    | succ n ih =>
      intro y i i0 i1 hn my hh
      refine sg_tryAll_7 _ _ _ ⟨fun c => last y my (fun k hk => hh k (by rw [t_le, k40] at c; omega)), fun c => ?_⟩
      rw [t_le, k40] at c
      have ci := cl_i i0
      have ii : (i + 1).toInt = i.toInt + 1 := by rw [t_add (by omega) (by omega), k1]
      refine ⟨by rw [vp_in_iff]; omega, fun y13 e13 => ?_⟩
      have m13 := md_a y 135 i.toNatClampNeg (-1) (by decide)
      rw [← e13] at m13
      refine ih y13 (i + 1) (by omega) (by omega) (by omega) (md_tr my m13 rfl rfl) (fun k hk => ?_)
      rw [e13, si_get]
      by_cases q : (135 : Nat) = 135 ∧ k = i.toNatClampNeg
      · rw [if_pos q]
      · rw [if_neg q]; exact hh k (by omega)
  exact loop 4096 y1 0 (by decide) (by decide) (by decide) (md_w (md_rf y1) (by decide) (by decide)) (fun k hk => by rw [k0] at hk; omega)
end TRY3
end
section
/-! claims: nothing of a thread in them, and cells that there are -/
def n5N (N : gU) : Prop := ∀ v ∈ N, ¬ v.1 = 53 ∧ (v.1 = 12 → (7, v.2.2, 0) ∈ N)
def n5T (L L' : gU) : Prop := ∃ N, L' = L ++ N ∧ n5N N
section NT5
variable {K V : Nat → Int32} {L L' L2 M N : gU} {o : Bool} {sN : Nat → Nat → Bool}
theorem n5N_app (h : n5N M) (g : n5N N) : n5N (M ++ N) := fun v hv => by
  rcases List.mem_append.mp hv with h1 | h1
  · exact ⟨(h v h1).1, fun e => List.mem_append_left _ ((h v h1).2 e)⟩
  · exact ⟨(g v h1).1, fun e => List.mem_append_right _ ((g v h1).2 e)⟩
theorem n5T_rf : n5T L L := ⟨[], by rw [List.append_nil], fun _ h => by cases h⟩
theorem n5T_tr (h : n5T L L') (g : n5T L' L2) : n5T L L2 := by
  obtain ⟨N, e, h⟩ := h
  obtain ⟨N2, e2, g⟩ := g
  exact ⟨N ++ N2, by rw [e2, e, List.append_assoc], n5N_app h g⟩
theorem n5T_k {k a b : Nat} (h : ¬ k = 53) (h' : ¬ k = 12) : n5T L (L ++ [(k, a, b)]) := ⟨_, rfl, fun v hv => by rw [List.mem_singleton.mp hv]; exact ⟨h, fun e => absurd e h'⟩⟩
theorem n5T_7 {i j : Nat} : n5T L (L ++ [(7, i, 0), (12, j, i)]) := ⟨_, rfl, fun v hv => by
  rcases List.mem_cons.mp hv with e | e
  · rw [e]; exact ⟨by show ¬ 7 = 53; decide, fun z => absurd z (by show ¬ 7 = 12; decide)⟩
  · rw [List.mem_singleton.mp e]; exact ⟨by show ¬ 12 = 53; decide, fun _ => List.mem_cons_self⟩⟩
theorem pt_n5T {w : Int32} {q r : Nat × gU} (h : pt K w q = some r) : n5T q.2 r.2 := by
  obtain ⟨-, -, e⟩ := pt_is h
  rw [e]; exact n5T_rf
abbrev ng5 (rE : Nat → Nat → gU → gOp) : Prop := ∀ s i L q, rE s i L = some q → n5T L q.2
theorem pW_n5T {rE : Nat → Nat → gU → gOp} {th : Nat} (hr : ng5 rE) : ∀ (f j : Nat) (L : gU) (q : Nat × gU), pW rE K th f j L = some q → n5T L q.2 := by
  intro f
  induction f with
  | zero => intro j L q h; exact absurd h (by simp [pW])
  | succ f ih =>
    intro j L q h
    rw [pW] at h
    split at h
    · split at h
      · obtain ⟨z, hz, h2⟩ := Option.bind_eq_some_iff.mp h
        exact n5T_tr (hr _ _ _ _ hz) (n5T_tr (n5T_k (by decide) (by decide)) (ih _ _ _ h2))
      · exact absurd h (by simp)
    · cases Option.some.inj h; exact n5T_rf
theorem pO_n5T {rE : Nat → Nat → gU → gOp} (hr : ng5 rE) (ho : o = true) {i : Nat} {q : Nat × gU} (h32 : ¬ K i = 32) (h : pO rE K o i L = some q) : n5T L q.2 := by
  unfold pO at h
  split at h
  · exact absurd h (by simp)
  · split at h
    · cases Option.some.inj h; exact n5T_k (by decide) (by decide)
    · split at h
      · obtain ⟨z, hz, h2⟩ := Option.bind_eq_some_iff.mp h
        exact n5T_tr (hr _ _ _ _ hz) (pt_n5T h2)
      · split at h
        · split at h
          · split at h
            · cases Option.some.inj h; exact n5T_7
            · exact absurd h (by simp)
          · cases Option.some.inj h; exact n5T_k (by decide) (by decide)
        · exact absurd h (by simp)
theorem pE_n5T (ho : o = true) : ∀ f : Nat, ng5 (pE K o f) := by
  intro f
  induction f with
  | zero => intro s i L q h; exact absurd h (by simp [pE])
  | succ f ih =>
    intro s i L q h
    rw [pE] at h
    split at h
    · rename_i hb
      obtain ⟨z, hz, h2⟩ := Option.bind_eq_some_iff.mp h
      refine n5T_tr ?_ (pW_n5T ih _ _ _ _ h2)
      split at hz
      · split at hz
        · obtain ⟨y, hy, h3⟩ := Option.bind_eq_some_iff.mp hz
          cases Option.some.inj h3
          exact n5T_tr (ih _ _ _ _ hy) (n5T_k (by decide) (by decide))
        · exact absurd hz (by simp)
      · refine pO_n5T ih ho (fun e => ?_) hz
        rw [e] at hb
        rcases hb with z | ⟨-, z⟩ | z | z | z | z
        · exact absurd z (by decide)
        · rw [ho] at z; cases z
        · exact absurd z (by decide)
        · exact absurd z (by decide)
        · exact absurd z (by decide)
        · exact absurd z (by decide)
    · exact absurd h (by simp)
theorem pX_n5T {f i : Nat} {q : Nat × gU} (h : pX K true f i L = some q) : n5T L q.2 := by
  obtain ⟨z, hz, h2⟩ := Option.bind_eq_some_iff.mp h
  refine n5T_tr (pE_n5T rfl f _ _ _ _ hz) ?_
  unfold pan at h2
  cases Option.some.inj h2
  exact n5T_k (by decide) (by decide)
/-- the claims so far -/
def WDc (c : gCd) : Prop := ∃ E S r b l, c = (E, S, [], r, b, l) ∧ E.2.1 = [] ∧ r.1 = [] ∧ ∀ q ∈ l, n5N q.2
variable {c : gCd} {i j n t : Nat} {T : gTd} {E : gV}
theorem WDc_th {q : Nat} (h : WDc c) (hB : PBt K 0 0 q N) (nf : ¬ flt sN T V N E0v) : WDc (cds sN K ([(34, i, j)] ++ N) c) ∧ eqE (exs N E0v) E0v := by
  obtain ⟨E, S, r, b, l, rfl, hE, hr, h3⟩ := h
  obtain ⟨b1, b2, b3⟩ := hB sN T V E0v nf gEe_0 rfl
  obtain ⟨S', e, g⟩ := b3 S [] (b ++ [(S.length, j)], l)
  have b2 : exs N E0v = ([], [], q) := b2
  refine ⟨⟨([], [], q), S' ++ [(21, 0, knw ([], [], q), none, none, false, none, none, none)], rg0, b ++ [(S.length, j)], l, ?_, rfl, rfl, h3⟩, by rw [b2]; exact ⟨rfl, rfl⟩⟩
  rw [cds_app, cds_one, cd_34, e]
  rfl
theorem WDc_cl {u : Nat} (hu : u = 35 ∨ u = 36) (h : WDc c) (hs : sEv true N) (hP : n5N N) : WDc (cds sN K ([(u, i, 0)] ++ (N ++ [(54, 0, 0)])) c) := by
  obtain ⟨E, S, ⟨cu, su, pl, ro, tg, tk⟩, b, l, rfl, hE, hr, h3⟩ := h
  have hr : cu = [] := hr
  subst hr
  have e1 : cdV sN K (E, S, [], ([], su, pl, ro, tg, tk), b, l) (u, i, 0) = (E, S, [], ([], su, u, ro, tg, tk), b, l) := by
    rcases hu with rfl | rfl
    · exact cd_35
    · exact cd_36
  have e2 : cds sN K ([(u, i, 0)] ++ (N ++ [(54, 0, 0)])) (E, S, [], ([], su, pl, ro, tg, tk), b, l) = (E, S, [], ([], su, u, ro, tg, tk), b, l ++ [(u, N)]) := by
    rw [cds_app, cds_one, e1, cds_app, cds_sum (r := ([], su, u, ro, tg, tk)) hs (fun _ => hE), cds_one]
    show cdV sN K (E, S, [], ([] ++ N, su, u, ro, tg, tk), b, l) (54, 0, 0) = _
    rw [List.nil_append]
    unfold cdV
    rw [if_neg (by decide), if_neg (by decide), if_pos rfl, if_pos hE]
  rw [e2]
  refine ⟨_, _, _, _, _, rfl, hE, rfl, fun q hq => ?_⟩
  rcases List.mem_append.mp hq with hq | hq
  · exact h3 q hq
  · rw [List.mem_singleton.mp hq]
    exact hP
theorem WDc_no (h : WDc c) (hN : dul N) (hE : eqE E E0v) : WDc (cds sN K N c) ∧ eqE (exs N E) E0v := by
  rw [cds_no hN]
  refine ⟨h, ?_⟩
  rw [exs_still (fun v hv => by have := hN v hv; omega)]
  exact hE
theorem pD_g {n : gN} {q : gN × Nat × gU} (h : pD K V n i L = some q) : ∃ N, q.2.2 = L ++ N ∧ ∀ sN T V' E c, WDc c → eqE E E0v → ¬ flt sN T V' N E → WDc (cds sN K N c) ∧ eqE (exs N E) E0v := by
  have cell : ∀ t, (pCl K V n.1 i t L).bind (fun q => some ((q.1, n.2), q.2)) = some q → ∃ N, q.2.2 = L ++ N ∧ ∀ sN T V' E c, WDc c → eqE E E0v → ¬ flt sN T V' N E → WDc (cds sN K N c) ∧ eqE (exs N E) E0v := fun t h => by
    obtain ⟨z, hz, e⟩ := Option.bind_eq_some_iff.mp h
    obtain ⟨N, eN, hN⟩ := pCl_f hz
    cases Option.some.inj e
    exact ⟨N, eN, fun sN T V' E c hc hE _ => WDc_no hc hN hE⟩
  have blk : ∀ (t a j : Nat) (v : gN), (pBk (pS K 16) K 0 0 t (L ++ [(34, a, j)])).bind (fun q => some (v, q.2)) = some q → ∃ N, q.2.2 = L ++ N ∧ ∀ sN T V' E c, WDc c → eqE E E0v → ¬ flt sN T V' N E → WDc (cds sN K N c) ∧ eqE (exs N E) E0v := fun t a j v h => by
    obtain ⟨z, hz, e⟩ := Option.bind_eq_some_iff.mp h
    obtain ⟨N, eN, hN⟩ := pBk_f (pS_f 16 (Nat.le_refl _)) hz
    cases Option.some.inj e
    refine ⟨[(34, a, j)] ++ N, by show z.2.2 = _; rw [eN, List.append_assoc], fun sN T V' E c hc hE nf => ?_⟩
    have s34 : still [(34, a, j)] := st_k (by decide)
    obtain ⟨-, nf⟩ := nf_app nf s34
    obtain ⟨r1, r2⟩ := WDc_th (i := a) (j := j) hc hN (fun y => nf ((flt_q hE).mpr y))
    refine ⟨r1, ?_⟩
    rw [exs_app, exs_still s34]
    exact eqE_tr (exs_q hE) r2
  have clm : ∀ (u : Nat) (v : gN), u = 35 ∨ u = 36 → ((pX K true 16 (i + 1) (L ++ [(u, i, 0)])).bind (pt K 67)).bind (fun q => some (v, q)) = some q → ∃ N, q.2.2 = L ++ N ∧ ∀ sN T V' E c, WDc c → eqE E E0v → ¬ flt sN T V' N E → WDc (cds sN K N c) ∧ eqE (exs N E) E0v := fun u v hu h => by
    obtain ⟨z, hz, e⟩ := Option.bind_eq_some_iff.mp h
    obtain ⟨y, hy, h2⟩ := Option.bind_eq_some_iff.mp hz
    obtain ⟨N, eN, hs, hw⟩ := pX_sW hy
    obtain ⟨N', eN', hn5⟩ := pX_n5T hy
    have eNN : N' = N ++ [(54, 0, 0)] := List.append_cancel_left (eN'.symm.trans eN)
    have hn : n5N N := fun v hv => by
      have h9 := hn5 v (by rw [eNN]; exact List.mem_append_left _ hv)
      refine ⟨h9.1, fun e12 => ?_⟩
      have h8 := h9.2 e12
      rw [eNN] at h8
      rcases List.mem_append.mp h8 with h7 | h7
      · exact h7
      · have := congrArg (fun z : Nat × Nat × Nat => z.1) (List.mem_singleton.mp h7)
        exact absurd this (by show ¬ 7 = 54; decide)
    obtain ⟨-, -, e2⟩ := pt_is h2
    cases Option.some.inj e
    refine ⟨[(u, i, 0)] ++ (N ++ [(54, 0, 0)]), ?_, fun sN T V' E c hc hE _ => ⟨WDc_cl hu hc hs hn, ?_⟩⟩
    · show z.2 = _
      rw [e2]
      show y.2 = _
      rw [eN, List.append_assoc]
    · rw [exs_still (still_app (st_k (by omega)) (still_app (sEv_st hs) (st_k (by decide))))]
      exact hE
  unfold pD at h
  split at h
  · split at h
    · exact cell _ h
    · exact absurd h (by simp)
  · split at h
    · exact cell _ h
    · split at h
      · split at h
        · cases Option.some.inj h
          exact ⟨[(33, i + 1, 0)], rfl, fun sN T V' E c hc hE _ => WDc_no hc (dul_one (by decide)) hE⟩
        · exact absurd h (by simp)
      · split at h
        · split at h
          · exact blk _ _ 1 _ h
          · exact absurd h (by simp)
        · split at h
          · split at h
            · exact blk _ _ 0 _ h
            · exact absurd h (by simp)
          · split at h
            · split at h
              · exact clm 35 _ (Or.inl rfl) h
              · exact absurd h (by simp)
            · split at h
              · split at h
                · exact clm 36 _ (Or.inr rfl) h
                · exact absurd h (by simp)
              · exact absurd h (by simp)
theorem pAl_g : ∀ (m : Nat) (n : gN) (i : Nat) (L : gU) (q : gN × Nat × gU), pAl K V m n i L = some q → ∃ N, q.2.2 = L ++ N ∧ ∀ sN T V' E c, WDc c → eqE E E0v → ¬ flt sN T V' N E → WDc (cds sN K N c) := by
  intro m
  induction m with
  | zero => intro n i L q h; exact absurd h (by simp [pAl])
  | succ m ih =>
    intro n i L q h
    rw [pAl] at h
    split at h
    · cases Option.some.inj h
      exact ⟨[], by rw [List.append_nil], fun sN T V' E c hc _ _ => hc⟩
    · obtain ⟨z, hz, h2⟩ := Option.bind_eq_some_iff.mp h
      obtain ⟨M, eM, hM⟩ := pD_g hz
      obtain ⟨N, eN, hN⟩ := ih _ _ _ _ h2
      refine ⟨M ++ N, by rw [eN, eM, List.append_assoc], fun sN T V' E c hc hE nf => ?_⟩
      rw [flt_app] at nf
      obtain ⟨r1, r2⟩ := hM sN T V' E c hc hE (fun y => nf (Or.inl y))
      rw [cds_app]
      exact hN sN T V' _ _ r1 r2 (fun y => nf (Or.inr y))
theorem cod_c {n : gN} (h : pAl K V 701 (0, 0, 0, 0, 0) 0 [] = some (n, j, L)) (nf : ¬ jFl sN K V L) : WDc (cds sN K L cd0) := by
  obtain ⟨N, eN, hN⟩ := pAl_g _ _ _ _ _ h
  have eN : L = N := eN
  rw [← eN] at hN
  exact hN sN _ V E0v cd0 ⟨E0v, [], rg0, [], [], rfl, rfl, rfl, fun q hq => (by cases hq)⟩ ⟨rfl, rfl⟩ (fun y => nf (Or.inr y))
theorem flt_mm : ∀ {L : gU} {E : gV} {v : Nat × Nat × Nat}, ¬ flt sN T V L E → v ∈ L → ∃ E', ¬ fv sN T V E' v := by
  intro L
  induction L with
  | nil => intro E v _ hv; cases hv
  | cons a L ih =>
    intro E v nf hv
    have n1 : ¬ fv sN T V E a := fun z => nf (Or.inl z)
    have n2 : ¬ flt sN T V L (exV E a) := fun z => nf (Or.inr z)
    rcases List.mem_cons.mp hv with e | e
    · rw [e]; exact ⟨E, n1⟩
    · exact ih n2 e
/-- claims, in numbers, but for what is below 0 -/
def NCu (C : gCo) : Prop := ∀ Q, Q ∈ C.2.2.2.1 ∨ Q ∈ C.2.2.2.2 → ∀ p ∈ Q, ¬ p.1 = 3 ∧ (p.1 = 4 → p.2.2.toInt < C.2.2.1.length)
theorem NCu_of {n : gN} (h : pAl K V 701 (0, 0, 0, 0, 0) 0 [] = some (n, j, L)) (nf : ¬ jFl sN K V L) (l24 : (cel K V L).length ≤ 24) : NCu (codN sN V K L) := by
  have hc : celP K V L := pAl_cP 701 _ _ _ _ celP_0 h
  obtain ⟨E, S, r, b, l, ec, -, -, w1, w2, w3⟩ := cod_ok h nf
  obtain ⟨E', S', r', b', l', ec', -, -, w4⟩ := cod_c h nf
  have el : l' = l := by
    have e9 := ec'.symm.trans ec
    exact congrArg (fun z : gCd => z.2.2.2.2.2) e9
  rw [el] at w4
  have e3 : (cds sN K L cd0).2.2.2.2.2 = l := by rw [ec]
  obtain ⟨T, eT⟩ : ∃ T, T = L.filterMap (te1 K V) := ⟨_, rfl⟩
  have nfl : ¬ flt sN T V L E0v := fun z => nf (Or.inr (by rw [← eT]; exact z))
  have cs : (codN sN V K L).2.2.1 = cel K V L := rfl
  -- a cell's number
  have num : ∀ t q, mtP sN T 0 t = some q → ∀ i, i < max q.2.2.1 1 → nmT sN 0 t T + i < (cel K V L).length := fun t q hm i hi => by
    obtain ⟨T1, T2, a1, a2, a3⟩ := nm_first hm
    obtain ⟨p, hp⟩ := hc.2 T1 q T2 (by rw [← eT]; exact a1) a2
    rw [a3]
    exact gt_lt (hp i hi)
  have cl : ∀ u Q, Q ∈ (clF u l).map (nQs sN T V K []) → ∀ p ∈ Q, ¬ p.1 = 3 ∧ (p.1 = 4 → p.2.2.toInt < (cel K V L).length) := fun u Q hQ p hp => by
    obtain ⟨N, hN, e⟩ := List.mem_map.mp hQ
    subst e
    obtain ⟨q, hq, e9⟩ := List.mem_filterMap.mp hN
    have e9 : q.2 = N := by
      split at e9
      · exact Option.some.inj e9
      · exact absurd e9 (by simp)
    obtain ⟨-, z4⟩ := w3 q hq
    have z5 := w4 q hq
    rw [e9] at z4 z5
    obtain ⟨v, hv, e⟩ := List.mem_filterMap.mp hp
    have inL := z4 v hv
    obtain ⟨n53, h12⟩ := z5 v hv
    unfold nQt at e
    split at e
    · cases e; exact ⟨by show ¬ 1 = 3; decide, fun z => absurd z (by show ¬ 1 = 4; decide)⟩
    · split at e
      · cases e; exact ⟨by show ¬ 2 = 3; decide, fun z => absurd z (by show ¬ 2 = 4; decide)⟩
      · split at e
        · next e6 =>
          cases e
          refine ⟨by show ¬ 4 = 3; decide, fun _ => ?_⟩
          obtain ⟨E9, n9⟩ := flt_mm nfl inL
          have pl : plc sN T v.2.1 := Classical.byContradiction (fun z => n9 (Or.inr (Or.inl ⟨e6, z⟩)))
          obtain ⟨q9, hm, -⟩ := pl
          have := num _ _ hm 0 (by omega)
          show (Int32.ofNat (nmT sN 0 v.2.1 T)).toInt < _
          rw [Int32.toInt_ofNat_of_lt (by omega)]
          omega
        · split at e
          · next e12 =>
            cases e
            refine ⟨by show ¬ 4 = 3; decide, fun _ => ?_⟩
            obtain ⟨E9, n9⟩ := flt_mm nfl inL
            obtain ⟨E7, n7⟩ := flt_mm nfl (z4 _ (h12 e12))
            have rw7 : ∃ n, rwc sN T v.2.2 n := Classical.byContradiction (fun z => n7 (Or.inr (Or.inr (Or.inl ⟨rfl, z⟩))))
            obtain ⟨m, hm⟩ := rw7
            have lt : ¬ (m : Int) ≤ (V v.2.1).toInt := fun z => n9 (Or.inr (Or.inr (Or.inr (Or.inl ⟨e12, m, hm, z⟩))))
            obtain ⟨q9, hm1, hm2, hm3⟩ := hm
            have b0 := num _ _ hm1 (m - 1) (by omega)
            have lo := Int32.le_toInt (V v.2.1)
            have ofm : (Int32.ofNat (nmT sN 0 v.2.2 T)).toInt = (nmT sN 0 v.2.2 T : Nat) := Int32.toInt_ofNat_of_lt (by omega)
            show (Int32.ofNat (nmT sN 0 v.2.2 T) + V v.2.1).toInt < _
            rw [t_add (by omega) (by omega), ofm]
            omega
          · split at e
            · cases e; exact ⟨by show ¬ 5 = 3; decide, fun z => absurd z (by show ¬ 5 = 4; decide)⟩
            · split at e
              · cases e; exact ⟨by show ¬ 6 = 3; decide, fun z => absurd z (by show ¬ 6 = 4; decide)⟩
              · exact absurd e (by simp)
  intro Q hQ
  rw [cs]
  unfold codN at hQ
  rw [e3, ← eT] at hQ
  exact hQ.elim (fun z => cl 35 Q z) (fun z => cl 36 Q z)
theorem NCq_of {x : gd} {C : gCo} (hC : CO x) (hK : CK x C) (h : NCu C) : NCq C := by
  have key : ∀ (r : Int32) (Q : List gQ), SUk x r (Q.map cQ) → ∀ p ∈ Q, p.1 = 4 → 0 ≤ p.2.2.toInt := fun r Q hS p hp h4 => by
    obtain ⟨i, hi⟩ := List.mem_iff_getElem?.mp hp
    obtain ⟨s1, s2, s3, -⟩ := hS
    have hl := gt_lt hi
    obtain ⟨e1, e2⟩ := s3 i (cQ p) (by rw [List.getElem?_map, hi]; rfl)
    have c4 : cQ p = (2, p.2.2) := by
      unfold cQ
      rw [if_neg (by omega), if_neg (by omega), if_neg (by omega), if_pos h4]
    rw [c4] at e1 e2
    have cr := t_cl r
    rw [List.length_map] at s2
    have := hC.2.1.2 (r.toNatClampNeg + i) (by omega) e1
    rw [e2] at this
    exact this.1
  intro Q hQ p hp
  obtain ⟨a, b⟩ := h Q hQ p hp
  refine ⟨a, fun h4 => ⟨?_, b h4⟩⟩
  rcases hQ with hQ | hQ
  · obtain ⟨k, hk⟩ := List.mem_iff_getElem?.mp hQ
    exact key _ Q (hK.2.2.2.1.2 k Q hk) p hp h4
  · obtain ⟨k, hk⟩ := List.mem_iff_getElem?.mp hQ
    exact key _ Q (hK.2.2.2.2.2 k Q hk) p hp h4
end NT5
end
section
/-! the model: what stays of a trying; show() -/
def TYc (C : gCo) (wn : Nat) (z : gd) (T : gTy) : Prop := (z.1 120 wn).toInt = (T.1.length : Nat) ∧ T.1.length ≤ 3000 ∧ FN3 C wn (fun f => z.1 126 (11 * wn + f)) T T.1.length ∧ ∀ s p, T.1[s]? = some p → (s = 0 → (z.1 132 (3000 * wn + s)).toInt = 0) ∧ (0 < s → (z.1 130 (3000 * wn + s)).toInt = (p.2.1 : Nat) ∧ (z.1 131 (3000 * wn + s)).toInt = (p.2.2 : Nat) ∧ (z.1 132 (3000 * wn + s)).toInt = (z.1 132 (3000 * wn + p.2.1)).toInt + 1)
section TYC
variable {C : gCo} {wn nl : Nat} {z y : gd} {T : gTy}
theorem FN3_c {x7 y7 : Nat → Int32} {k : Nat} (e : ∀ f, f < 11 → y7 f = x7 f) (h : FN3 C wn x7 T k) : FN3 C wn y7 T k := fun f hf => by rw [e f hf]; exact h f hf
theorem TYc_f (e1 : y.1 120 = z.1 120) (e2 : y.1 126 = z.1 126) (e3 : y.1 130 = z.1 130) (e4 : y.1 131 = z.1 131) (e5 : y.1 132 = z.1 132) (h : TYc C wn z T) : TYc C wn y T := by
  unfold TYc at h ⊢
  rw [e1, e2, e3, e4, e5]
  exact h
theorem TYc_mi {L A : List Nat} (m : mi L A z y) (hA : [120, 126, 130, 131, 132].all (fun k => !A.elem k) = true) (h : TYc C wn z T) : TYc C wn y T := by
  have g := fun k (h0 : k ≠ 0) hk => m.2.1 k h0 (all_no hA k hk)
  exact TYc_f (g 120 (by decide) (by decide)) (g 126 (by decide) (by decide)) (g 130 (by decide) (by decide)) (g 131 (by decide) (by decide)) (g 132 (by decide) (by decide)) h
theorem TYc_ow {W : Nat} (hW : TW C wn T) (hw : wn < 2) (ne : ¬ wn = W) (o : ow W z y) (h : TYc C wn z T) : TYc C wn y T := by
  obtain ⟨o1, -, o3, o4⟩ := o wn hw ne
  obtain ⟨h1, h2, h3, h4⟩ := h
  refine ⟨by rw [o1]; exact h1, h2, FN3_c (fun f hf => o3 f hf) h3, fun s p hp => ?_⟩
  have hs := gt_lt hp
  obtain ⟨a, b⟩ := h4 s p hp
  obtain ⟨e1, e2, e3⟩ := o4 s (by omega)
  refine ⟨fun z0 => by rw [e3]; exact a z0, fun s0 => ?_⟩
  have lt := ((hW s p hp).2 s0).1
  rw [e1, e2, e3, (o4 p.2.1 (by omega)).2.2]
  exact b s0
theorem TYc_of {A : Nat → gd} {z0 : gd} (hM : T.1.length ≤ 3000) (ti : TI z0 wn A T.1.length z) (tj : TJ C nl wn A wn T z) : TYc C wn z T := by
  obtain ⟨-, -, t3, -, -, -, t7, -, -⟩ := ti
  obtain ⟨-, j2, -, j4⟩ := tj
  refine ⟨by rw [t3, ofN hM], hM, j2, fun s p hp => ?_⟩
  obtain ⟨-, -, n3, n4⟩ := (t7 s (gt_lt hp)).1
  refine ⟨n3, fun s0 => ?_⟩
  obtain ⟨b1, b2⟩ := j4 s p hp s0
  obtain ⟨q, q1, q2, q3, -⟩ := n4 s0
  have eq : q = p.2.1 := by omega
  rw [eq] at q3
  exact ⟨b1, b2, q3⟩
theorem MK_mi {w w' : gd} {C : gCo} {L A : List Nat} (m : mi L A w w') (hL : mfL.all (fun k => !L.elem k) = true) (hA : mfA.all (fun k => !A.elem k) = true) (h : MK w C) : MK w' C := MK_f h (fun k hk => m.1 k (all_no hL k hk)) (fun c hc => m.2.1 c (mfA_0 c hc) (all_no hA c hc))
/-- how far a state is -/
theorem TYc_d (hW : TW C wn T) (h : TYc C wn z T) : ∀ n s p, s ≤ n → T.1[s]? = some p → (z.1 132 (3000 * wn + s)).toInt = ((pth T s).length : Nat) := by
  intro n
  induction n with
  | zero =>
    intro s p hs hp
    have e : s = 0 := by omega
    subst e
    exact (h.2.2.2 0 p hp).1 rfl
  | succ n ih =>
    intro s p hs hp
    by_cases s0 : s = 0
    · subst s0
      exact (h.2.2.2 0 p hp).1 rfl
    · obtain ⟨a2, a3, a4⟩ := (h.2.2.2 s p hp).2 (by omega)
      obtain ⟨hl, p', ch, h1, h2, h3⟩ := (hW s p hp).2 (by omega)
      rw [a4, ih p.2.1 p' (by omega) h1, pth_s hW (by omega) hp, List.length_append, List.length_singleton]
      rfl
end TYC
/-! refusals with their number -/
def rfK (k : Int32) (z z' : gd) : Prop := mi [0] [] z z' ∧ z'.1 0 0 = k
section RFK
variable {G : mG} {d D : Nat} {z : gd} {F : Int32 → gd → Prop}
theorem sc_refk {y : gd} (b k : Int32) (hy : z0 z y) (hk : 0 < k.toInt) (h0 : b = 0 → F 0 y) (h1 : ¬ b = 0 → ∀ y', rfK k z y' → F 1 y') : MT G d z_refuses 0 [(0, vr 0), (1, vi b), (2, vi k)] [] y (ri F) :=
  sp_refuses b k hy.2 hk h0 (fun c => h1 c _ ⟨mi_tr hy.1 (mi_of (md_f y 0 k)) rfl rfl, by rw [si_get, if_pos ⟨rfl, rfl⟩]⟩)
theorem sc_noRunk {y : gd} (hy : z0 z y) (h0 : ¬ y.1 0 67 = 0 → F 0 y) (h1 : y.1 0 67 = 0 → ∀ y', rfK 1 z y' → F 1 y') : MT G (d + 1) z_noRun 0 [(0, vr 0)] [] y (ri F) := by
  refine sg_noRun_0 ⟨fun c => sg_noRun_13 _ (sc_refk _ _ hy (by decide) (fun _ => ⟨gbool_0, ri_i (h0 c)⟩) (fun q => absurd rfl q)), fun c => sg_noRun_13 _ (sc_refk _ _ hy (by decide) (fun q => absurd q (by decide)) (fun _ y' m => ⟨gbool_1, ri_i (h1 c y' m)⟩))⟩
end RFK
/-- there is a way to show it -/
def shG (C : gCo) (Tw : Nat → gTy) (z : gd) (w f : Int32) : Prop := ∃ wn s : Nat, (wn = 0 ∨ wn = 1) ∧ w = Int32.ofNat wn ∧ 0 ≤ f.toInt ∧ f.toInt < 11 ∧ ¬ z.1 119 wn = 0 ∧ fsF C wn (Tw wn) f.toInt.toNat s ∧ (pth (Tw wn) s).length ≤ 400
theorem fsF_u {C : gCo} {w f s s' : Nat} {T : gTy} (h : fsF C w T f s) (g : fsF C w T f s') : s = s' := by
  obtain ⟨p, a1, a2, a3⟩ := h
  obtain ⟨p', b1, b2, b3⟩ := g
  apply Classical.byContradiction
  intro ne
  by_cases lt : s < s'
  · exact b3 s p lt a1 a2
  · exact a3 s' p' (by omega) b1 b2
section TSW
variable {G : mG} {d D : Nat} {x z a : gd} {F : Int32 → gd → Prop} {Fv : gd → Prop} {C : gCo}
theorem wn_eq {w : Int32} {wn wn' : Nat} (h1 : wn = 0 ∨ wn = 1) (h2 : wn' = 0 ∨ wn' = 1) (e1 : w = Int32.ofNat wn) (e2 : w = Int32.ofNat wn') : wn = wn' := by
  rcases h1 with rfl | rfl <;> rcases h2 with rfl | rfl
  · rfl
  · rw [e1] at e2; exact absurd e2 (by decide)
  · rw [e1] at e2; exact absurd e2 (by decide)
  · rfl
theorem sc_show {Tw : Nat → gTy} (q : MI z) (gc : GC C) (hK : ¬ z.1 0 66 = 0 → MK z C) (w f : Int32) (hT : ∀ wn, (wn = 0 ∨ wn = 1) → ¬ z.1 119 wn = 0 → TYc C wn z (Tw wn) ∧ TW C wn (Tw wn)) (hD : 8 ≤ D) (h01 : ¬ ((w = 0 ∨ w = 1) ∧ 0 ≤ f.toInt ∧ f.toInt < 11) → ∀ z', rfK 1 z z' → F 0 z') (h02 : ((w = 0 ∨ w = 1) ∧ 0 ≤ f.toInt ∧ f.toInt < 11) → ¬ shG C Tw z w f → ∀ z', rfK 2 z z' → F 0 z') (h1 : ∀ (wn s : Nat) z', (wn = 0 ∨ wn = 1) → w = Int32.ofNat wn → 0 ≤ f.toInt → f.toInt < 11 → ¬ z.1 119 wn = 0 → fsF C wn (Tw wn) f.toInt.toNat s → (pth (Tw wn) s).length ≤ 400 → HistC C wn z' → mi (0 :: 67 :: 68 :: dL) (138 :: dA) z z' → z'.1 0 0 = 0 → z'.1 0 67 = 1 → (z'.1 0 94).toInt = ((pth (Tw wn) s).length : Nat) → (∀ k v, (pth (Tw wn) s)[k]? = some v → c96 z' k = v) → F (z'.1 0 94) z') : MT G D z_show 0 [(0, vr 0), (1, vi w), (2, vi f)] [] z (ri F) := by
  obtain ⟨D, rfl⟩ : ∃ D', D = D' + 1 := ⟨D - 1, by omega⟩
  have k0 : (0 : Int32).toInt = 0 := rfl
  have k1 : (1 : Int32).toInt = 1 := rfl
  have km1 : (-1 : Int32).toInt = -1 := rfl
  have k4 : (400 : Int32).toInt = 400 := rfl
  refine sg_show_0 _ _ (fun y e => ?_)
  have hy := z0_s e
  have no : ∀ wn : Nat, (wn = 0 ∨ wn = 1) → w = Int32.ofNat wn → 0 ≤ f.toInt → f.toInt < 11 → ¬ shG C Tw z w f → ∀ y', rfK 2 z y' → ri F (some (vi 0)) y' := fun wn w01 ew f0 f1 hn y' m => ri_i (h02 ⟨by rcases w01 with e9 | e9 <;> rw [ew, e9]; exact Or.inl rfl; exact Or.inr rfl, f0, f1⟩ hn y' m)
  have qy := (MI_0 hy.1 q).1
  have g119 : y.1 119 = z.1 119 := hy.1.2.1 119 (by decide) (by simp)
  have p75 : ∀ wn : Nat, (wn = 0 ∨ wn = 1) → w = Int32.ofNat wn → vp_in w 2 → 0 ≤ f.toInt → f.toInt < 11 → ∀ s b : Int32, (b = 0 → ¬ y.1 119 wn = 0 ∧ ∃ S : Nat, s.toInt = (S : Nat) ∧ fsF C wn (Tw wn) f.toInt.toNat S) → (¬ b = 0 → ¬ shG C Tw z w f) → MT G (D + 1) z_show 75 [(0, vr 0), (1, vi w), (3, vi s)] [vi b, vr 0] y (ri F) := by
    intro wn w01 ew wv f0 f1 s b hb hb2
    refine sg_show_75 _ _ _ (sc_refk b 2 hy (by decide) (fun b0 => ⟨fun q => absurd rfl q, fun _ => ?_⟩) (fun nb y' m => ⟨fun _ => no wn w01 ew f0 f1 (hb2 nb) y' m, fun q => absurd q (by decide)⟩))
    obtain ⟨tr, S, es, hfs⟩ := hb b0
    obtain ⟨W, eW⟩ : ∃ W, W = w.toNatClampNeg := ⟨_, rfl⟩
    have eWn : W = wn := by rw [eW, ew]; rcases w01 with e9 | e9 <;> rw [e9] <;> rfl
    have tz : ¬ z.1 119 wn = 0 := by rw [← g119]; exact tr
    obtain ⟨tyz, hTW⟩ := hT wn w01 tz
    obtain ⟨T, eT⟩ : ∃ T, T = Tw wn := ⟨_, rfl⟩
    have h1 := fun z' => h1 wn S z' w01 ew f0 f1 tz hfs
    rw [← eT] at tyz hTW hfs h1
    have ty : TYc C wn y T := TYc_mi hy.1 rfl tyz
    obtain ⟨p9, hp9, -⟩ := id hfs
    have hc : ¬ y.1 0 66 = 0 := (qy.2.2.2 wn (by omega) tr).1
    have cp := qy.2.1 hc
    have hKz := hK (by rw [← hy.1.1 66 (by decide)]; exact hc)
    have b3 := ty.2.1
    have sS := gt_lt hp9
    have ix : ∀ (c : Int32) (c' : Nat), c.toInt = (c' : Nat) → c' < T.1.length → vp_in (3000 * w + c) 6000 ∧ (3000 * w + c).toNatClampNeg = 3000 * wn + c' := fun c c' ec c1 => by
      have := tmul (k := 3000) (K := 3000) (N := 6000) (n := 3000) (i := c) rfl wv (by omega) (by omega) (by omega) (by omega) (by omega)
      have cc := t_cl c
      rw [← eW, eWn] at this
      rw [show c.toNatClampNeg = c' by omega] at this
      exact this
    obtain ⟨sv, se⟩ := ix s S es sS
    have dS := TYc_d hTW ty S S p9 (Nat.le_refl _) hp9
    obtain ⟨N, eN⟩ : ∃ N, N = y.1 132 (3000 * w + s).toNatClampNeg := ⟨_, rfl⟩
    have dN : N.toInt = ((pth T S).length : Nat) := by rw [eN, se]; exact dS
    rw [← eN]
    -- the run gone again
    have loop : (pth T S).length ≤ 400 → ∀ (m : Nat) (u : gd) (k : Nat) (i : Int32), i.toInt = (k : Nat) → k ≤ (pth T S).length → (pth T S).length - k ≤ m → HistC C wn u → (u.1 0 94).toInt = (k : Nat) → (∀ j v, (pth T S)[j]? = some v → (u.1 138 j).toInt = (v : Nat)) → (∀ j v, j < k → (pth T S)[j]? = some v → c96 u j = v) → u.1 0 67 = 1 → mi (67 :: 68 :: dL) (138 :: dA) y u → MT G (D + 1) z_show 186 [(0, vr 0), (4, vi N), (5, vi i)] [] u (ri F) := by
      intro N4
      have end' : ∀ (u : gd) (k : Nat), k = (pth T S).length → HistC C wn u → (u.1 0 94).toInt = (k : Nat) → (∀ j v, j < k → (pth T S)[j]? = some v → c96 u j = v) → u.1 0 67 = 1 → mi (67 :: 68 :: dL) (138 :: dA) y u → ri F (some (vi (u.1 0 94))) u := fun u k ek hu u94 u96 u67 mu => ri_i (h1 u N4 hu (mi_tr hy.1 mu rfl rfl) (by rw [mu.1 0 (by decide)]; exact hy.2) u67 (by rw [u94, ek]) (fun j v hj => u96 j v (by rw [ek]; exact gt_lt hj) hj))
      intro m
      induction m with
      | zero =>
        intro u k i ei hk hm hu u94 u138 u96 u67 mu
        exact sg_show_186 _ _ ⟨fun _ => end' u k (by omega) hu u94 u96 u67 mu, fun c => absurd (t_le.mpr (by omega)) c⟩
      | succ m ih =>
        intro u k i ei hk hm hu u94 u138 u96 u67 mu
        refine sg_show_186 _ _ ⟨fun c => end' u k (by rw [t_le] at c; omega) hu u94 u96 u67 mu, fun c => ?_⟩
        rw [t_le] at c
        have kl : k < (pth T S).length := by omega
        have ci : i.toNatClampNeg = k := by rw [t_cl, ei]; rfl
        refine ⟨by rw [vp_in_iff]; omega, ?_⟩
        rw [ci]
        have hg := List.getElem?_eq_getElem kl
        obtain ⟨v, ev⟩ : ∃ v, v = (pth T S)[k] := ⟨_, rfl⟩
        rw [← ev] at hg
        have e138 := u138 k v hg
        -- the choice is one of those that there are
        obtain ⟨c9, hc9⟩ : ∃ c9 : Nat → Nat, ∀ j v, (pth T S)[j]? = some v → c9 j = v := ⟨fun j => ((pth T S)[j]?).getD 0, fun j v hj => congrArg (fun z : Option Nat => z.getD 0) hj⟩
        obtain ⟨-, r2⟩ := pth_run hTW S S p9 (Nat.le_refl _) hp9 c9 hc9
        have rE : runM C wn c9 k = runM C wn (c96 u) k := runM_cg (fun j hj => by
          have hgj := List.getElem?_eq_getElem (show j < (pth T S).length by omega)
          rw [hc9 j _ hgj, u96 j _ hj hgj])
        have lt := r2 k kl
        rw [hc9 k v hg, rE] at lt
        have e84 := HistC_n hu
        have ek : (u.1 0 94).toInt.toNat = k := by rw [u94]; rfl
        rw [ek] at e84
        have ii : (i + 1).toInt = ((k + 1 : Nat) : Int) := by rw [t_add (by omega) (by omega), k1, ei]; rfl
        refine sc_more gc hu (by omega) _ (by omega) (by omega) (by omega) (fun u' hu' df => ?_)
        obtain ⟨mm, e94, e96, e96b⟩ := df
        have cu : (u.1 0 94).toNatClampNeg = k := by rw [t_cl]; exact ek
        rw [cu] at e96 e96b
        refine ih u' (k + 1) (i + 1) ii kl (by omega) hu' (by rw [e94, u94]; push_cast; rfl) (fun j v hj => by rw [mm.2.1 138 (by decide) (by decide)]; exact u138 j v hj) (fun j v9 hj hv => ?_) (by rw [mm.1 67 (by decide)]; exact u67) (mi_tr mu mm rfl rfl)
        show (u'.1 96 j).toNatClampNeg = v9
        by_cases cj : j = k
        · rw [cj, e96, t_cl]
          rw [cj, hg] at hv
          have hv := Option.some.inj hv
          rw [e138, hv]; rfl
        · rw [e96b j cj]
          exact u96 j v9 (by omega) hv
    -- the way back to the first state
    have back : (pth T S).length ≤ 400 → ∀ (n : Nat) (u : gd) (c i : Int32) (U : Nat) (pU : gMa × Nat × Nat) (r : List Nat), i.toInt = (n : Int) - 1 → c.toInt = (U : Nat) → T.1[U]? = some pU → (pth T U).length = n → pth T S = pth T U ++ r → mi [] [138] y u → (∀ j v, r[j]? = some v → (u.1 138 (n + j)).toInt = (v : Nat)) → MT G (D + 1) z_show 135 [(0, vr 0), (1, vi w), (3, vi c), (4, vi N), (5, vi i)] [] u (ri F) := by
      intro N4 n
      induction n with
      | zero =>
        intro u c i U pU r ei ec hU hl hr mu hu
        have e0 : pth T U = [] := List.eq_nil_of_length_eq_zero hl
        rw [e0, List.nil_append] at hr
        refine sg_show_135 _ _ _ _ ⟨fun _ => ?_, fun cc => absurd (t_lt.mpr (by rw [k0]; omega)) cc⟩
        rw [ew]
        refine sc_startRun gc (CP_mi mu rfl rfl cp) (MK_mi mu rfl rfl (MK_mi hy.1 rfl rfl hKz)) w01 (by omega) (fun u' hh sf => ?_)
        obtain ⟨mm, f94, -, f67, f68⟩ := sf
        refine loop N4 (pth T S).length u' 0 0 rfl (Nat.zero_le _) (by omega) hh (by rw [f94]; rfl) (fun j v hj => ?_) (fun j v hj => absurd hj (Nat.not_lt_zero _)) f67 (mi_tr mu mm rfl rfl)
        rw [mm.2.1 138 (by decide) (by decide)]
        rw [hr] at hj
        have := hu j v hj
        rw [Nat.zero_add] at this
        exact this
      | succ n ih =>
        intro u c i U pU r ei ec hU hl hr mu hu
        have hlen : (pth T S).length = (n + 1) + r.length := by rw [hr, List.length_append, hl]
        have U0 : 0 < U := by
          apply Classical.byContradiction
          intro c9
          rw [show U = 0 by omega, pth_0] at hl
          cases hl
        have UL := gt_lt hU
        obtain ⟨a2, a3, a4⟩ := (ty.2.2.2 U pU hU).2 U0
        obtain ⟨hlt, p', ch, g1, g2, g3⟩ := (hTW U pU hU).2 U0
        have ps := pth_s hTW U0 hU
        push_cast at ei
        refine sg_show_135 _ _ _ _ ⟨fun cc => ?_, fun cc => ?_⟩
        · rw [t_lt, k0] at cc; exfalso; omega
        obtain ⟨cv, ce⟩ := ix c U ec UL
        have ci : i.toNatClampNeg = n := by rw [t_cl, ei]; omega
        have lv : vp_in i 400 := by rw [vp_in_iff]; omega
        refine ⟨cv, lv, fun v ev => ⟨cv, ?_⟩⟩
        rw [ce, ci] at ev
        rw [ce]
        have mv := md_a u 138 n (u.1 131 (3000 * wn + U)) (by decide)
        rw [← ev] at mv
        have g130 : v.1 130 = y.1 130 := by rw [mv.2.1 130 (by decide) (by decide), mu.2.1 130 (by decide) (by decide)]
        have g131 : u.1 131 = y.1 131 := mu.2.1 131 (by decide) (by decide)
        rw [g131] at ev
        rw [g130]
        obtain ⟨j9, ej⟩ : ∃ j, j = i + (-1) := ⟨_, rfl⟩
        have ji : j9.toInt = (n : Int) - 1 := by rw [ej, t_add (by rw [km1]; omega) (by rw [km1]; omega), km1]; omega
        rw [← ej]
        clear ej
        have hl' : (pth T pU.2.1).length = n := by rw [ps, List.length_append, List.length_singleton] at hl; omega
        refine ih v _ j9 pU.2.1 p' (pU.2.2 :: r) ji a2 g1 hl' (by rw [hr, ps, List.append_assoc]; rfl) (mi_tr mu (mi_of mv) rfl rfl) (fun j v9 hj => ?_)
        cases j with
        | zero =>
          have hj : pU.2.2 = v9 := Option.some.inj hj
          rw [Nat.add_zero, ev, si_get, if_pos ⟨rfl, rfl⟩, ← hj]
          exact a3
        | succ j =>
          have hj : r[j]? = some v9 := hj
          have := hu j v9 hj
          rw [ev, si_ne 138 _ (by omega), show n + (j + 1) = n + 1 + j by omega]
          exact this
    have p106 : ∀ b : Int32, (b = 0 → (pth T S).length ≤ 400) → (¬ b = 0 → ¬ (pth T S).length ≤ 400) → MT G (D + 1) z_show 106 [(0, vr 0), (1, vi w), (3, vi s)] [vi b, vr 0] y (ri F) := by
      intro b hb hb2
      refine sg_show_106 _ _ _ (sc_refk b 2 hy (by decide) (fun b0 => ⟨fun _ => ⟨sv, ?_⟩, fun q => absurd rfl q⟩) (fun nb y' m => ⟨fun q => absurd q (by decide), fun _ => no wn w01 ew f0 f1 (fun hg => hb2 nb ?_) y' m⟩))
      · rw [← eN]
        have N4 := hb b0
        obtain ⟨j, ej⟩ : ∃ j, j = N - 1 := ⟨_, rfl⟩
        have ji : j.toInt = ((pth T S).length : Int) - 1 := by rw [ej, t_sub (by rw [k1]; omega) (by rw [k1]; omega), k1, dN]
        rw [← ej]
        exact back N4 (pth T S).length y s j S p9 [] ji es hp9 rfl (List.append_nil _).symm ⟨fun _ _ => rfl, fun _ _ _ => rfl, fun _ => rfl⟩ (fun j v hj => nomatch hj)
      · obtain ⟨wn', s', a1, a2, -, -, -, a6, a7⟩ := hg
        have e1 := wn_eq a1 w01 a2 ew
        rw [e1, ← eT] at a6 a7
        rw [fsF_u hfs a6]; exact a7
    exact ⟨sv, fun c => p106 0 (fun _ => by rw [t_le, k4] at c; omega) (fun z => absurd rfl z), fun c => p106 1 (fun q => absurd q (by decide)) (fun _ z9 => c (t_le.mpr (by rw [k4]; omega)))⟩
  have p63 : ∀ wn : Nat, (wn = 0 ∨ wn = 1) → w = Int32.ofNat wn → vp_in w 2 → 0 ≤ f.toInt → f.toInt < 11 → ∀ s : Int32, (s = -1 → ¬ shG C Tw z w f) → (¬ s = -1 → ¬ y.1 119 wn = 0 ∧ ∃ S : Nat, s.toInt = (S : Nat) ∧ fsF C wn (Tw wn) f.toInt.toNat S) → MT G (D + 1) z_show 63 [(0, vr 0), (1, vi w)] [vi s] y (ri F) := fun wn w01 ew wv f0 f1 s hs hs2 => sg_show_63 _ _ ⟨fun ne => p75 wn w01 ew wv f0 f1 s 0 (fun _ => hs2 ne) (fun z => absurd rfl z), fun e9 => p75 wn w01 ew wv f0 f1 s 1 (fun q => absurd q (by decide)) (fun _ => hs e9)⟩
  have p30 : ∀ b : Int32, (b = 0 → (vp_in w 2 ∧ (w = 0 ∨ w = 1)) ∧ 0 ≤ f.toInt ∧ f.toInt < 11) → (¬ b = 0 → ¬ ((w = 0 ∨ w = 1) ∧ 0 ≤ f.toInt ∧ f.toInt < 11)) → MT G (D + 1) z_show 30 [(0, vr 0), (1, vi w), (2, vi f)] [vi b, vr 0] y (ri F) := by
    intro b hb hb2
    refine sg_show_30 _ _ _ (sc_refk b 1 hy (by decide) (fun b0 => ⟨fun _ => ?_, fun q => absurd rfl q⟩) (fun nb y' m => ⟨fun q => absurd q (by decide), fun _ => ri_i (h01 (hb2 nb) y' m)⟩))
    obtain ⟨⟨wv, hw⟩, f0, f1⟩ := hb b0
    obtain ⟨wn, w01, ew, ewn⟩ := w_nat hw
    obtain ⟨fv, fe⟩ := t11 wv f0 f1
    rw [ewn]
    refine ⟨wv, fun t0 => p63 wn w01 ew wv f0 f1 _ (fun _ hg => ?_) (fun z => absurd rfl z), fun tr => ⟨fv, p63 wn w01 ew wv f0 f1 _ (fun e1 hg => ?_) (fun ne => ⟨tr, ?_⟩)⟩⟩
    · obtain ⟨wn', s', a1, a2, -, -, a5, -⟩ := hg
      rw [wn_eq a1 w01 a2 ew, ← g119] at a5
      exact a5 t0
    · rw [fe, ewn] at e1
      obtain ⟨wn', s', a1, a2, -, -, -, ⟨p9, c1, c2, -⟩, -⟩ := hg
      have e2 := wn_eq a1 w01 a2 ew
      rw [e2] at c1 c2
      have ty : TYc C wn y (Tw wn) := TYc_mi hy.1 rfl (hT wn w01 (by rw [← g119]; exact tr)).1
      have cf := t_cl f
      rcases ty.2.2.1 f.toInt.toNat (by omega) with ⟨-, g2⟩ | ⟨s9, p8, -, g2, -⟩
      · exact g2 s' p9 (gt_lt c1) c1 c2
      · have g2 : (y.1 126 (11 * wn + f.toNatClampNeg)).toInt = (s9 : Nat) := g2
        rw [e1, km1] at g2; omega
    · rw [fe, ewn] at ne ⊢
      have ty : TYc C wn y (Tw wn) := TYc_mi hy.1 rfl (hT wn w01 (by rw [← g119]; exact tr)).1
      rcases ty.2.2.1 f.toInt.toNat (by omega) with ⟨g1, -⟩ | ⟨s9, p8, g1, g2, g3, g4, g5⟩
      · exact absurd g1 ne
      · exact ⟨s9, g2, p8, g3, g4, g5⟩
  refine sp_in _ _ _ ⟨fun c1 => p30 1 (fun q => absurd q (by decide)) (fun _ hg => ?_), fun c1 => sp_in _ _ _ ⟨fun c2 => p30 0 (fun _ => ⟨w_in (bi_ne.mp c1), f_in (bi_ne.mp c2)⟩) (fun z => absurd rfl z), fun c2 => p30 1 (fun q => absurd q (by decide)) (fun _ hg => ?_)⟩⟩
  · refine bi_eq.mp c1 ?_
    rcases hg.1 with e9 | e9 <;> rw [e9]
    · exact ⟨by decide, by decide⟩
    · exact ⟨by decide, by decide⟩
  · refine bi_eq.mp c2 ⟨t_le.mpr (by rw [k0]; exact hg.2.1), t_le.mpr ?_⟩
    have k10 : (10 : Int32).toInt = 10 := rfl
    have := hg.2.2
    rw [k10]; omega
end TSW
end
section
/-! the model: attempt() -/
section TAT
variable {G : mG} {d D : Nat} {x z a : gd} {F : Int32 → gd → Prop} {Fv : gd → Prop} {C : gCo} {nl wr : Nat}
theorem sc_attempt (q : MI z) (gc : GC C) (hK : ¬ z.1 0 66 = 0 → MK z C ∧ NCq C ∧ LkN C nl ∧ nl ≤ 6 ∧ C.2.2.1.length ≤ 24 ∧ (z.1 0 26).toInt = (C.2.2.2.1.length : Nat) ∧ (z.1 0 27).toInt = (C.2.2.2.2.length : Nat)) (hH : ¬ z.1 0 67 = 0 → HistC C wr z) (w l : Int32) (hD : 8 ≤ D) (h01 : z.1 0 66 = 0 → ∀ z', rfK 1 z z' → F 0 z') (h02 : ¬ z.1 0 66 = 0 → ¬ ((w = 0 ∨ w = 1) ∧ 1 ≤ l.toInt ∧ l.toInt ≤ 3000) → ∀ z', rfK 2 z z' → F 0 z') (h1 : ∀ (wn lim : Nat) z', (wn = 0 ∨ wn = 1) → w = Int32.ofNat wn → l.toInt = (lim : Nat) → 1 ≤ lim → lim ≤ 3000 → ¬ z.1 0 66 = 0 → PM z z' → z'.1 0 0 = 0 → (z'.1 0 67 = z.1 0 67 ∧ z'.1 0 94 = z.1 0 94 ∧ z'.1 96 = z.1 96 ∧ (¬ z.1 0 67 = 0 → HistC C wr z')) → TYc C wn z' (tryM C wn lim) → ¬ z'.1 119 wn = 0 → (∀ w', ¬ w' = wn → z'.1 119 w' = z.1 119 w') → ow wn z z' → F (z'.1 120 w.toNatClampNeg) z') : MT G D z_attempt 0 [(0, vr 0), (1, vi w), (2, vi l)] [] z (ri F) := by
  obtain ⟨D, rfl⟩ : ∃ D', D = D' + 1 := ⟨D - 1, by omega⟩
  have k0 : (0 : Int32).toInt = 0 := rfl
  have k1 : (1 : Int32).toInt = 1 := rfl
  have k3 : (3000 : Int32).toInt = 3000 := rfl
  have z0' : (0 : Int32).toNatClampNeg = 0 := rfl
  refine sg_attempt_0 _ _ (fun y e => ?_)
  have hy := z0_s e
  have b1n : ¬ vp_nar .boolean 1 = 0 := by decide
  have y66 : y.1 0 66 = z.1 0 66 := hy.1.1 66 (by decide)
  have y67 : y.1 0 67 = z.1 0 67 := hy.1.1 67 (by decide)
  have hHy : ¬ y.1 0 67 = 0 → HistC C wr y := fun h9 => HistC_0 hy.1 (hH (by rw [← y67]; exact h9))
  have qy := (MI_0 hy.1 q).1
  have y2 : y.1 0 2 = z.1 0 2 := hy.1.1 2 (by decide)
  have p51 : ¬ y.1 0 66 = 0 → ∀ b : Int32, (b = 0 → (vp_in w 2 ∧ (w = 0 ∨ w = 1)) ∧ 1 ≤ l.toInt ∧ l.toInt ≤ 3000) → (¬ b = 0 → ¬ ((w = 0 ∨ w = 1) ∧ 1 ≤ l.toInt ∧ l.toInt ≤ 3000)) → MT G (D + 1) z_attempt 51 [(0, vr 0), (1, vi w), (2, vi l)] [vi b, vr 0] y (ri F) := by
    intro hc b hb hb2
    refine sg_attempt_51 _ _ _ (sc_refk b 2 hy (by decide) (fun b0 => ⟨fun _ => ?_, fun q => absurd rfl q⟩) (fun nb y' m => ⟨fun q => absurd q (by decide), fun _ => ri_i (h02 (by rw [← y66]; exact hc) (hb2 nb) y' m)⟩))
    obtain ⟨⟨wv, w01⟩, l1, l3⟩ := hb b0
    obtain ⟨wn, w01n, ew, ewn⟩ := w_nat w01
    obtain ⟨lim, elm⟩ : ∃ lim : Nat, l.toInt = lim := ⟨l.toInt.toNat, by omega⟩
    have hcz : ¬ z.1 0 66 = 0 := by rw [← y66]; exact hc
    obtain ⟨hKz, hq2, hLk, n6, l24, l26, l27⟩ := hK hcz
    have h1 := fun z' => h1 wn lim z' w01n ew elm (by omega) (by omega) hcz
    obtain ⟨W, eW⟩ : ∃ W, W = w.toNatClampNeg := ⟨_, rfl⟩
    have W2 : W < 2 := by rw [eW]; exact vp_lt wv
    have eWn : W = wn := by rw [eW]; exact ewn
    have cp := qy.2.1 hc
    -- the trying itself; u: behind the state kept
    have p81 : ∀ u : gd, mi [136] [136] y u → (¬ y.1 0 67 = 0 → ∀ i : Nat, i < 222 → u.1 136 i = pv y i) → MT G (D + 1) z_attempt 81 [(0, vr 0), (1, vi w), (2, vi l), (3, vi (y.1 0 68))] [] u (ri F) := by
      intro u mu ru
      refine sg_attempt_81 _ _ _ (fun u1 e1 => ?_)
      have m1 := md_f u 68 w
      rw [← e1] at m1
      have h168 : u1.1 0 68 = w := by rw [e1, si_get, if_pos ⟨rfl, rfl⟩]
      have myu1 : mi [68, 136] [136] y u1 := mi_tr mu (mi_of m1) rfl rfl
      refine sp_tryAll3 gc hq2 hLk n6 l24 w01n w l ew wv (CP_mi myu1 rfl rfl cp) (MK_mi myu1 rfl rfl (MK_mi hy.1 rfl rfl hKz)) (by rw [myu1.1 26 (by decide), hy.1.1 26 (by decide)]; exact l26) (by rw [myu1.1 27 (by decide), hy.1.1 27 (by decide)]; exact l27) h168 elm l1 l3 (by omega) (fun A v hM ti tj => ⟨wv, fun v4 e4 v5 e5 => ?_⟩)
      rw [← eW] at ti tj e4
      obtain ⟨M, eM⟩ : ∃ M, M = (tryM C wn lim).1.length := ⟨_, rfl⟩
      have tyc0 : TYc C wn v (tryM C wn lim) := by rw [eWn] at ti tj; exact TYc_of hM ti tj
      rw [← eM] at hM ti
      have m4 := md_a v 119 W (vp_nar .boolean 1) (by decide)
      rw [← e4] at m4
      have m5 := md_f v4 68 (y.1 0 68)
      rw [← e5] at m5
      have h5 : v5.1 0 68 = y.1 0 68 := by rw [e5, si_get, if_pos ⟨rfl, rfl⟩]
      have mv5 : mi [68] [119] v v5 := mi_tr (mi_of m4) (mi_of m5) rfl rfl
      have my5 : mi (68 :: tL) (119 :: 136 :: tA') y v5 := mi_tr (mi_tr (L3 := 68 :: tL) (A3 := 136 :: tA') myu1 ti.1 rfl rfl) mv5 rfl rfl
      have pr5 : prE y v5 := prE_mi (prE_rf y) my5 rfl rfl
      have tyW : TY v5 W := TY_mi mv5 rfl rfl (TY_TI hM ti)
      have tyc5 : TYc C wn v5 (tryM C wn lim) := TYc_mi mv5 rfl tyc0
      have e119w : ¬ v5.1 119 wn = 0 := by rw [m5.2.1 119 (by decide) (by decide), e4, ← eWn, si_get, if_pos ⟨rfl, rfl⟩]; exact b1n
      have g119 : y.1 119 = z.1 119 := hy.1.2.1 119 (by decide) (by simp)
      have v0 : v5.1 0 0 = 0 := by rw [my5.1 0 (by decide)]; exact hy.2
      have owz : ow wn z y := ow_mi hy.1 rfl
      have ow5 : ow W y v5 := ow_tr (ow_tr (ow_mi myu1 rfl) ti.2.1) (ow_mi mv5 rfl)
      have e119 : ∀ w' : Nat, ¬ w' = W → v5.1 119 w' = y.1 119 w' := fun w' hw' => by
        rw [m5.2.1 119 (by decide) (by decide), e4, si_ne 119 w' hw', ti.1.2.1 119 (by decide) (by decide), myu1.2.1 119 (by decide) (by decide)]
      have tys : ∀ w' : Nat, w' < 2 → ¬ v5.1 119 w' = 0 → ¬ v5.1 0 66 = 0 ∧ TY v5 w' := by
        intro w' hw' hn
        refine ⟨by rw [my5.1 66 (by decide)]; exact hc, ?_⟩
        by_cases q9 : w' = W
        · rw [q9]; exact tyW
        · rw [e119 w' q9] at hn
          exact TY_ow hw' q9 ow5 pr5 (qy.2.2.2 w' hw' hn).2
      have g5 : G0 v5 := G0_mi my5 rfl rfl qy.1
      have cp5 : CP v5 := CP_mi my5 rfl rfl cp
      have o119 : ∀ w', ¬ w' = wn → v5.1 119 w' = z.1 119 w' := fun w' hw' => by rw [← g119]; exact e119 w' (by rw [eWn]; exact hw')
      have owy : ow wn z v5 := ow_tr owz (by rw [← eWn]; exact ow5)
      refine ⟨fun n67 => ⟨wv, ri_i (h1 v5 (PM_0 hy.1 ⟨⟨g5, fun _ => cp5, fun q9 => absurd n67 q9, tys⟩, my5.1 2 (by decide), fun k hk => my5.1 k (all_no (M := mfL) rfl k hk), fun c hc => my5.2.1 c (mfA_0 c hc) (all_no (M := mfA) rfl c hc)⟩) v0 ⟨by rw [my5.1 67 (by decide)]; exact y67, by rw [my5.1 94 (by decide)]; exact hy.1.1 94 (by decide), by rw [my5.2.1 96 (by decide) (by decide)]; exact hy.1.2.1 96 (by decide) (by simp), fun h9 => absurd (show z.1 0 67 = 0 by rw [← y67, ← my5.1 67 (by decide)]; exact n67) h9⟩ tyc5 e119w o119 owy)⟩, fun h67 => ?_⟩
      rw [my5.1 67 (by decide)] at h67
      obtain ⟨s, n, q1, q2, q3, q4, q5, q6, q7⟩ := (hHy h67).1
      have av := (q2 n (Nat.le_refl _)).1
      have el : eqS (Sl (s n)) (s n) y := eqS_w (Sl_Sm _) q4
      have r136 : ∀ i : Nat, i < 222 → v5.1 136 (0 + i) = pv (s n) i := fun i hi => by
        rw [Nat.zero_add, m5.2.1 136 (by decide) (by decide), m4.2.1 136 (by decide) (by decide), ti.1.2.1 136 (by decide) (by decide), m1.2.1 136 (by decide) (by decide), ru h67 i hi]
        exact pv_eq el hi
      refine sp_unpack (Or.inr rfl) mk_136 ml_136 0 (by decide) (by decide) (by decide) (fun v8 m8 r8 => ?_)
      rw [z0'] at r8
      have e8 : eqS (Sl (s n)) (s n) v8 := by
        refine un_eq ?_ ?_ (fun t ht => (av.1.2 t ht).2.2.2.1) (fun i hi => by rw [r8 i hi, r136 i hi])
        · exact prE_tr (prE_eqS el) (prE_mi pr5 (mi_of m8) rfl rfl)
        · rw [m8.1 68 (by decide), h5, cF el (by decide)]
      refine MT_up (by omega) (MTv_mono (av.2.2.2.2.2 G v8 e8) (fun v9 g9 => ⟨wv, ri_i ?_⟩))
      have m59 : mi [82, 84, 88, 89, 90, 91, 92, 93] [70, 71, 72, 73, 74, 75, 76, 77, 78, 79, 80, 81, 82, 84, 86, 87, 88] v5 v9 := mi_tr (mi_of m8) (mi_of g9.2) rfl rfl
      have my9 : mi (68 :: tL) (119 :: 136 :: tA') y v9 := mi_tr my5 m59 rfl rfl
      have h9 : v9.1 0 68 = y.1 0 68 := by rw [m59.1 68 (by decide)]; exact h5
      have c9 : c96 v9 = c96 y := by unfold c96; rw [my9.2.1 96 (by decide) (by decide)]
      have histc : HistC C wr v9 := ⟨⟨s, n, by rw [my9.1 94 (by decide)]; exact q1, by rw [c9]; exact q2, by rw [c9, my9.2.1 96 (by decide) (by decide)]; exact q3, g9.1, by rw [h9]; exact St_pr (prE_mi (prE_rf y) my9 rfl rfl) q5, by rw [h9]; exact q6, HA_mi my9 rfl rfl q7⟩, MJq_mi my9 rfl rfl (hHy h67).2⟩
      have hist : Hist v9 := HistC_H histc
      refine h1 v9 (PM_0 hy.1 ⟨⟨G0_mi my9 rfl rfl qy.1, fun _ => CP_mi my9 rfl rfl cp, fun _ => ⟨by rw [my9.1 66 (by decide)]; exact hc, hist⟩, fun w' hw' hn => ?_⟩, my9.1 2 (by decide), fun k hk => my9.1 k (all_no (M := mfL) rfl k hk), fun c hc => my9.2.1 c (mfA_0 c hc) (all_no (M := mfA) rfl c hc)⟩) (by rw [m59.1 0 (by decide)]; exact v0) ⟨by rw [my9.1 67 (by decide)]; exact y67, by rw [my9.1 94 (by decide)]; exact hy.1.1 94 (by decide), by rw [my9.2.1 96 (by decide) (by decide)]; exact hy.1.2.1 96 (by decide) (by simp), fun _ => histc⟩ (TYc_mi m59 rfl tyc5) (by rw [m59.2.1 119 (by decide) (by decide)]; exact e119w) (fun w' hw' => by rw [m59.2.1 119 (by decide) (by decide)]; exact o119 w' hw') (ow_tr owy (ow_mi m59 rfl))
      rw [m59.2.1 119 (by decide) (by decide)] at hn
      exact ⟨by rw [my9.1 66 (by decide)]; exact hc, TY_mi m59 rfl rfl (tys w' hw' hn).2⟩
    refine ⟨fun n67 => p81 y ⟨fun _ _ => rfl, fun _ _ _ => rfl, fun _ => rfl⟩ (fun q => absurd n67 q), fun h67 => ?_⟩
    obtain ⟨s, n, q1, q2, q3, q4, q5, q6, q7⟩ := (hHy h67).1
    refine sp_pack (Or.inr rfl) mk_136 ml_136 0 (by decide) (by decide) (by decide) (fun t ht => by rw [cA q4 (c := 80) (n := 6) (by decide) ht]; exact ((q2 n (Nat.le_refl _)).1.1.2 t ht).2.2.2.1) (fun u mu _ ru _ => p81 u (mi_of mu) (fun _ i hi => ?_))
    have := ru i hi
    rw [z0', Nat.zero_add] at this
    exact this
  have p18 : ∀ b : Int32, (b = 0 → ¬ y.1 0 66 = 0) → (¬ b = 0 → y.1 0 66 = 0) → MT G (D + 1) z_attempt 18 [(0, vr 0), (1, vi w), (2, vi l)] [vi b, vr 0] y (ri F) := by
    intro b hb hb9
    refine sg_attempt_18 _ _ _ (sc_refk b 1 hy (by decide) (fun b0 => ⟨fun q => absurd rfl q, fun _ => sp_in _ _ _ ⟨fun c1 => p51 (hb b0) 1 (fun q => absurd q (by decide)) (fun _ z9 => ?_), fun c1 => sp_in _ _ _ ⟨fun c2 => p51 (hb b0) 0 (fun _ => ⟨w_in (bi_ne.mp c1), ?_⟩) (fun z9 => absurd rfl z9), fun c2 => p51 (hb b0) 1 (fun q => absurd q (by decide)) (fun _ z9 => ?_)⟩⟩⟩) (fun nb y' m => ⟨fun _ => ri_i (h01 (by rw [← y66]; exact hb9 nb) y' m), fun q => absurd q (by decide)⟩))
    · refine bi_eq.mp c1 ?_
      rcases z9.1 with e9 | e9 <;> rw [e9]
      · exact ⟨by decide, by decide⟩
      · exact ⟨by decide, by decide⟩
    rotate_left
    · exact bi_eq.mp c2 ⟨t_le.mpr (by rw [k1]; exact z9.2.1), t_le.mpr (by rw [k3]; exact z9.2.2)⟩
    obtain ⟨a1, a2⟩ := bi_ne.mp c2
    rw [t_le, k1] at a1
    rw [t_le, k3] at a2
    exact ⟨a1, a2⟩
  exact ⟨fun c => p18 0 (fun _ => c) (fun z9 => absurd rfl z9), fun c => p18 1 (fun q => absurd q (by decide)) (fun _ => c)⟩
end TAT
end
section
/-! the model: what calls that only look leave -/
def rdM (C : gCo) (wr : Nat) (z z' : gd) : Prop := PM z z' ∧ (z'.1 0 67 = z.1 0 67 ∧ z'.1 0 94 = z.1 0 94 ∧ z'.1 96 = z.1 96) ∧ z'.1 119 = z.1 119 ∧ (HistC C wr z → HistC C wr z') ∧ ∀ w T, TYc C w z T → TYc C w z' T
section RDM
variable {C : gCo} {wr : Nat} {z y u : gd}
theorem rd_mi {L A : List Nat} (m : mi L A z y) (hL : stL.all (fun k => !L.elem k) = true) (hA : (101 :: 102 :: 105 :: stA).all (fun k => !A.elem k) = true) (q : MI z) : rdM C wr z y := ⟨PM_mi m hL (all_sub hA rfl) q, ⟨m.1 67 (all_no hL 67 (by decide)), m.1 94 (all_no hL 94 (by decide)), m.2.1 96 (by decide) (all_no hA 96 (by decide))⟩, m.2.1 119 (by decide) (all_no hA 119 (by decide)), fun h => HistC_mi m (all_sub hL rfl) (all_sub hA rfl) h, fun w T h => TYc_mi m (all_sub hA rfl) h⟩
theorem rd_0 (m : mi [0] [] z y) (q : MI z) : rdM C wr z y := rd_mi m rfl rfl q
theorem rd_o {L A : List Nat} (m : mi L A z y) (hL : stL.all (fun k => !L.elem k) = true) (hA : [2, 6, 7, 8, 36, 37, 38, 51, 52, 54, 55, 56, 57, 58, 59, 60, 61, 62, 64, 65, 66, 70, 71, 72, 73, 74, 75, 76, 77, 78, 79, 80, 81, 82, 86, 87, 88, 96, 98, 99, 100, 101, 102, 103, 105, 106, 107, 119, 120, 123, 126, 130, 131, 132].all (fun k => !A.elem k) = true) (o : oA y) (q : MI z) : rdM C wr z y := ⟨MI_o m hL (all_sub hA rfl) o q, ⟨m.1 67 (all_no hL 67 (by decide)), m.1 94 (all_no hL 94 (by decide)), m.2.1 96 (by decide) (all_no hA 96 (by decide))⟩, m.2.1 119 (by decide) (all_no hA 119 (by decide)), fun h => HistC_mi m (all_sub hL rfl) (all_sub hA rfl) h, fun w T h => TYc_mi m (all_sub hA rfl) h⟩
theorem rd_tr (m : mi [0] [] z y) (p : rdM C wr y u) : rdM C wr z u := by
  obtain ⟨p1, ⟨p2, p3, p4⟩, p5, p6, p7⟩ := p
  refine ⟨PM_0 m p1, ⟨?_, ?_, ?_⟩, ?_, fun h => p6 (HistC_0 m h), fun w T h => p7 w T (TYc_mi m rfl h)⟩
  · rw [p2, m.1 67 (by decide)]
  · rw [p3, m.1 94 (by decide)]
  · rw [p4, m.2.1 96 (by decide) (by simp)]
  · rw [p5, m.2.1 119 (by decide) (by simp)]
end RDM
section RDX
variable {G : mG} {d D : Nat} {x z a : gd} {F : Int32 → gd → Prop} {Fv : gd → Prop} {C : gCo} {wr : Nat}
theorem sr_fault2 (q : MI z) (w : Int32) (h : ∀ r z', rdM C wr z z' → F r z') : MT G (D + 1) z_fault_ 0 [(0, vr 0), (1, vi w)] [] z (ri F) := by
  refine sg_fault__0 _ (fun y e => ?_)
  have hy := z0_s e
  have p20 : ∀ b : Int32, MT G (D + 1) z_fault_ 20 [(0, vr 0), (1, vi w)] [vi b, vr 0] y (ri F) := fun b => sg_fault__20 _ _ (sp_ref b 1 hy (by decide) (fun _ => ⟨fun _ => ⟨fun _ => ri_i (h _ y (rd_0 hy.1 q)), fun _ => ri_i (h _ y (rd_0 hy.1 q))⟩, fun q => absurd rfl q⟩) (fun _ y' m => ⟨fun q => absurd q (by decide), fun _ => ri_i (h _ y' (rd_0 m q))⟩))
  exact sp_in _ _ _ ⟨fun _ => p20 0, fun _ => p20 1⟩
theorem sr_count (q : MI z) (w : Int32) (h : ∀ r z', rdM C wr z z' → ((¬ (0 ≤ w.toInt ∧ w.toInt ≤ 4) → z'.1 0 0 = 1) ∧ ((0 ≤ w.toInt ∧ w.toInt ≤ 4) → z'.1 0 0 = 0 ∧ cntM z w r)) → F r z') : MT G (D + 1) z_count 0 [(0, vr 0), (1, vi w)] [] z (ri F) := by
  have k0 : (0 : Int32).toInt = 0 := rfl
  have k1 : (1 : Int32).toInt = 1 := rfl
  have k2 : (2 : Int32).toInt = 2 := rfl
  have k3 : (3 : Int32).toInt = 3 := rfl
  have k4 : (4 : Int32).toInt = 4 := rfl
  refine sg_count_0 _ (fun y e => ?_)
  have hy := z0_s e
  have f := fun k (hk : ¬ k = 0) => hy.1.1 k (fun z => hk (List.mem_singleton.mp z))
  have ok : (0 ≤ w.toInt ∧ w.toInt ≤ 4) → ∀ r, cntM z w r → ri F (some (vi r)) y := fun hw r hr => ri_i (h _ y (rd_0 hy.1 q) ⟨fun z => absurd hw z, fun _ => ⟨hy.2, hr⟩⟩)
  have p20 : ∀ b : Int32, (b = 0 → 0 ≤ w.toInt ∧ w.toInt ≤ 4) → (¬ b = 0 → ¬ (0 ≤ w.toInt ∧ w.toInt ≤ 4)) → MT G (D + 1) z_count 20 [(0, vr 0), (1, vi w)] [vi b, vr 0] y (ri F) := by
    intro b hb hb2
    refine sg_count_20 _ _ (sp_refuses b 1 hy.2 (by decide) (fun c => ⟨fun _ => ?_, fun q => absurd rfl q⟩) (fun c => ⟨fun q => absurd q (by decide), fun _ => ri_i (h _ _ (rd_0 (mi_tr hy.1 (mi_of (md_f y 0 1)) rfl rfl) q) ⟨fun _ => by rw [si_get, if_pos ⟨rfl, rfl⟩], fun z => absurd z (hb2 c)⟩)⟩))
    have hw := hb c
    rw [f 23 (by decide), f 24 (by decide), f 25 (by decide), f 26 (by decide), f 27 (by decide)]
    refine ⟨fun n0 => ⟨fun n1 => ⟨fun n2 => ⟨fun n3 => ok hw _ ?_, fun e3 => ok hw _ (Or.inr (Or.inr (Or.inr (Or.inl ⟨e3, rfl⟩))))⟩, fun e2 => ok hw _ (Or.inr (Or.inr (Or.inl ⟨e2, rfl⟩)))⟩, fun e1 => ok hw _ (Or.inr (Or.inl ⟨e1, rfl⟩))⟩, fun e0 => ok hw _ (Or.inl ⟨e0, rfl⟩)⟩
    refine Or.inr (Or.inr (Or.inr (Or.inr ⟨?_, rfl⟩)))
    rw [t_eq, k0] at n0
    rw [t_eq, k1] at n1
    rw [t_eq, k2] at n2
    rw [t_eq, k3] at n3
    rw [t_eq, k4]
    omega
  refine sp_in _ _ _ ⟨fun c => p20 0 (fun _ => ?_) (fun z => absurd rfl z), fun c => p20 1 (fun z => absurd z (by decide)) (fun _ z => ?_)⟩
  · obtain ⟨c1, c2⟩ := bi_ne.mp c
    rw [t_le, k0] at c1
    rw [t_le, k4] at c2
    exact ⟨c1, c2⟩
  · refine bi_eq.mp c ⟨t_le.mpr ?_, t_le.mpr ?_⟩
    · rw [k0]; exact z.1
    · rw [k4]; exact z.2
theorem sr_lock (q : MI z) (l w : Int32) (hD : 3 ≤ D) (h : ∀ r z', rdM C wr z z' → F r z') : MT G D z_lock 0 [(0, vr 0), (1, vi l), (2, vi w)] [] z (ri F) := by
  obtain ⟨D, rfl⟩ : ∃ D', D = D' + 2 := ⟨D - 2, by omega⟩
  have k0 : (0 : Int32).toInt = 0 := rfl
  have k1 : (1 : Int32).toInt = 1 := rfl
  refine sg_lock_0 _ _ (fun y e => ?_)
  have hy := z0_s e
  have no : ∀ y', mi [0] [] z y' → ri F (some (vi 0)) y' := fun y' m => ri_i (h 0 y' (rd_0 m q))
  have ok : ∀ r, ri F (some (vi r)) y := fun r => ri_i (h r y (rd_0 hy.1 q))
  have qy := (MI_0 hy.1 q).1
  refine sp_noRun hy (fun hr => ⟨fun q => absurd rfl q, fun _ => ?_⟩) (fun y' m => ⟨fun _ => no y' m, fun q => absurd q (by decide)⟩)
  obtain ⟨cp, _, rt⟩ := RS_of qy hr
  have g := cp.1
  have g6 := g.2.2.2.2.2.1
  have g24 := g.2.2.2.1
  have p55 : vp_in l 6 → ∀ (n : Nat) (s t : Int32), 0 ≤ t.toInt → (y.1 0 25).toInt - t.toInt ≤ n → MT G (D + 2) z_lock 55 [(0, vr 0), (1, vi l), (2, vi w), (3, vi s), (4, vi t)] [] y (ri F) := by
    intro lv n
    induction n with
    | zero =>
      intro s t t0 hn
      exact sg_lock_55 _ _ _ _ ⟨fun _ => ⟨fun _ => ⟨fun _ => ok _, fun _ => ⟨lv, ok _⟩⟩, fun _ => ⟨lv, ok _⟩⟩, fun c => absurd (t_le.mpr (by omega)) c⟩
    | succ n ih =>
      intro s t t0 hn
      refine sg_lock_55 _ _ _ _ ⟨fun _ => ⟨fun _ => ⟨fun _ => ok _, fun _ => ⟨lv, ok _⟩⟩, fun _ => ⟨lv, ok _⟩⟩, fun c => ?_⟩
      rw [t_le] at c
      have tv : vp_in t 6 := by rw [vp_in_iff]; omega
      have ti : (t + 1).toInt = t.toInt + 1 := by rw [t_add (by omega) (by omega), k1]
      have r := rt _ (vt tv)
      have p97 : ∀ v : Int32, MT G (D + 2) z_lock 97 [(0, vr 0), (1, vi l), (2, vi w), (4, vi t)] [vi v, vi s] y (ri F) := fun v => sg_lock_97 _ _ _ _ _ (sp_one _ (fun r => ih _ _ (by omega) (by omega)))
      exact ⟨tv, fun _ => p97 _, fun _ => ⟨tv, by rw [vp_in_iff]; exact ⟨r.1, r.2.1⟩, fun _ => p97 _, fun _ => p97 _⟩⟩
  have p41 : ∀ b : Int32, (b = 0 → 0 ≤ l.toInt ∧ l.toInt < (y.1 0 24).toInt) → MT G (D + 2) z_lock 41 [(0, vr 0), (1, vi l), (2, vi w)] [vi b, vr 0] y (ri F) := fun b hb => sg_lock_41 _ _ _ (sp_ref b 2 hy (by decide) (fun b0 => ⟨fun _ => p55 (by rw [vp_in_iff]; have := hb b0; omega) 6 0 0 (by decide) (by rw [k0]; omega), fun q => absurd rfl q⟩) (fun _ y' m => ⟨fun q => absurd q (by decide), fun _ => no y' m⟩))
  exact sp_in _ _ _ ⟨fun _ => p41 1 (fun q => absurd q (by decide)), fun c1 => sp_in _ _ _ ⟨fun _ => p41 0 (fun _ => in_lt (bi_ne.mp c1) g.2.2.1), fun _ => p41 1 (fun q => absurd q (by decide))⟩⟩
theorem sr_thread (q : MI z) (t w : Int32) (hD : 3 ≤ D) (h : ∀ r z', rdM C wr z z' → F r z') : MT G D z_thread 0 [(0, vr 0), (1, vi t), (2, vi w)] [] z (ri F) := by
  obtain ⟨D, rfl⟩ : ∃ D', D = D' + 2 := ⟨D - 2, by omega⟩
  refine sg_thread_0 _ _ (fun y e => ?_)
  have hy := z0_s e
  have no : ∀ y', mi [0] [] z y' → ri F (some (vi 0)) y' := fun y' m => ri_i (h 0 y' (rd_0 m q))
  have ok : ∀ r, ri F (some (vi r)) y := fun r => ri_i (h r y (rd_0 hy.1 q))
  have qy := (MI_0 hy.1 q).1
  refine sp_noRun hy (fun hr => ⟨fun q => absurd rfl q, fun _ => ?_⟩) (fun y' m => ⟨fun _ => no y' m, fun q => absurd q (by decide)⟩)
  obtain ⟨cp, _, rt⟩ := RS_of qy hr
  have g := cp.1
  have g6 := g.2.2.2.2.2.1
  have p41 : ∀ b : Int32, (b = 0 → 0 ≤ t.toInt ∧ t.toInt < (y.1 0 25).toInt) → MT G (D + 2) z_thread 41 [(0, vr 0), (1, vi t), (2, vi w)] [vi b, vr 0] y (ri F) := by
    intro b hb
    refine sg_thread_41 _ _ _ (sp_ref b 2 hy (by decide) (fun b0 => ⟨fun _ => ?_, fun q => absurd rfl q⟩) (fun _ y' m => ⟨fun q => absurd q (by decide), fun _ => no y' m⟩))
    have tv : vp_in t 6 := by rw [vp_in_iff]; have := hb b0; omega
    have r := rt _ (vt tv)
    have av : vp_in (y.1 74 t.toNatClampNeg) 1500 := by rw [vp_in_iff]; exact ⟨r.1, r.2.1⟩
    exact ⟨fun _ => ⟨fun _ => ⟨fun _ => ⟨fun _ => ⟨tv, fun _ => ok _, fun _ => ⟨tv, av, ok _⟩⟩, fun _ => sp_knownOf t tv av (fun r => sp_ones _ (fun r => ok _))⟩, fun _ => ⟨tv, ok _⟩⟩, fun _ => ⟨tv, ok _⟩⟩, fun _ => ⟨tv, ok _⟩⟩
  exact sp_in _ _ _ ⟨fun _ => p41 1 (fun q => absurd q (by decide)), fun c1 => sp_in _ _ _ ⟨fun _ => p41 0 (fun _ => in_lt (bi_ne.mp c1) g.2.2.2.2.1), fun _ => p41 1 (fun q => absurd q (by decide))⟩⟩
theorem sr_tried (q : MI z) (w v : Int32) (hD : 3 ≤ D) (h : ∀ r z', rdM C wr z z' → F r z') : MT G D z_tried 0 [(0, vr 0), (1, vi w), (2, vi v)] [] z (ri F) := by
  obtain ⟨D, rfl⟩ : ∃ D', D = D' + 1 := ⟨D - 1, by omega⟩
  refine sg_tried_0 _ _ (fun y e => ?_)
  have hy := z0_s e
  have no : ∀ y', mi [0] [] z y' → ri F (some (vi 0)) y' := fun y' m => ri_i (h 0 y' (rd_0 m q))
  have ok : ∀ r, ri F (some (vi r)) y := fun r => ri_i (h r y (rd_0 hy.1 q))
  have p42 : vp_in w 2 → ∀ b : Int32, MT G (D + 1) z_tried 42 [(0, vr 0), (1, vi w), (2, vi v)] [vi b, vr 0] y (ri F) := fun wv b => sg_tried_42 _ _ _ (sp_ref b 2 hy (by decide) (fun _ => ⟨fun q => absurd rfl q, fun _ => ⟨wv, fun _ => ⟨fun _ => ⟨fun _ => ⟨fun _ => ⟨fun _ => ⟨fun _ => ⟨wv, ok _⟩, fun _ => ⟨wv, ok _⟩⟩, fun _ => ⟨wv, ok _⟩⟩, fun _ => ⟨wv, ok _⟩⟩, fun _ => ⟨wv, sp_one _ (fun r => ok r)⟩⟩, fun _ => ⟨wv, ok _⟩⟩, fun _ => ok _⟩⟩) (fun _ y' m => ⟨fun _ => no y' m, fun q => absurd q (by decide)⟩))
  have p20 : ∀ b : Int32, (b = 0 → vp_in w 2) → MT G (D + 1) z_tried 20 [(0, vr 0), (1, vi w), (2, vi v)] [vi b, vr 0] y (ri F) := fun b hb => sg_tried_20 _ _ _ (sp_ref b 1 hy (by decide) (fun b0 => ⟨fun q => absurd rfl q, fun _ => sp_in _ _ _ ⟨fun _ => p42 (hb b0) _, fun _ => p42 (hb b0) _⟩⟩) (fun _ y' m => ⟨fun _ => no y' m, fun q => absurd q (by decide)⟩))
  exact sp_in _ _ _ ⟨fun c => p20 0 (fun _ => (w_in (bi_ne.mp c)).1), fun _ => p20 1 (fun q => absurd q (by decide))⟩
theorem sr_outcome (q : MI z) (w i c : Int32) (hD : 3 ≤ D) (h : ∀ r z', rdM C wr z z' → F r z') : MT G D z_outcome 0 [(0, vr 0), (1, vi w), (2, vi i), (3, vi c)] [] z (ri F) := by
  obtain ⟨D, rfl⟩ : ∃ D', D = D' + 1 := ⟨D - 1, by omega⟩
  refine sg_outcome_0 _ _ _ (fun y e => ?_)
  have hy := z0_s e
  have no : ∀ y', mi [0] [] z y' → ri F (some (vi 0)) y' := fun y' m => ri_i (h 0 y' (rd_0 m q))
  have ok : ∀ r, ri F (some (vi r)) y := fun r => ri_i (h r y (rd_0 hy.1 q))
  have qy := (MI_0 hy.1 q).1
  have p72 : ∀ b : Int32, (b = 0 → vp_in w 2 ∧ (0 ≤ i.toInt ∧ i.toInt < 3000) ∧ 0 ≤ c.toInt ∧ c.toInt < 24) → MT G (D + 1) z_outcome 72 [(0, vr 0), (1, vi w), (2, vi i), (3, vi c)] [vi b, vr 0] y (ri F) := fun b hb => sg_outcome_72 _ _ _ _ (sp_ref b 2 hy (by decide) (fun b0 => ⟨fun _ => ⟨t72 (hb b0).1 (hb b0).2.1.1 (hb b0).2.1.2 (hb b0).2.2.1 (hb b0).2.2.2, ok _⟩, fun q => absurd rfl q⟩) (fun _ y' m => ⟨fun q => absurd q (by decide), fun _ => no y' m⟩))
  have p20 : ∀ b : Int32, (b = 0 → vp_in w 2) → MT G (D + 1) z_outcome 20 [(0, vr 0), (1, vi w), (2, vi i), (3, vi c)] [vi b, vr 0] y (ri F) := by
    intro b hb
    refine sg_outcome_20 _ _ _ _ (sp_ref b 1 hy (by decide) (fun b0 => ⟨fun q => absurd rfl q, fun _ => ?_⟩) (fun _ y' m => ⟨fun _ => no y' m, fun q => absurd q (by decide)⟩))
    have wv := hb b0
    refine ⟨wv, fun _ => p72 1 (fun q => absurd q (by decide)), fun tr => ⟨wv, ?_⟩⟩
    obtain ⟨hc, A, t1, t2, t3, t4, t5, _⟩ := qy.2.2.2 _ (vp_lt wv) tr
    have g := (qy.2.1 hc).1
    refine sp_in _ _ _ ⟨fun _ => p72 1 (fun q => absurd q (by decide)), fun c1 => sp_in _ _ _ ⟨fun c2 => p72 0 (fun _ => ?_), fun _ => p72 1 (fun q => absurd q (by decide))⟩⟩
    have a1 := in_lt (bi_ne.mp c1) t4
    have a2 := in_lt (bi_ne.mp c2) g.1
    have g2 := g.2.1
    exact ⟨wv, ⟨a1.1, by omega⟩, a2.1, by omega⟩
  exact sp_in _ _ _ ⟨fun cc => p20 0 (fun _ => (w_in (bi_ne.mp cc)).1), fun _ => p20 1 (fun q => absurd q (by decide))⟩
theorem sr_common (q : MI z) (w c : Int32) (hD : 3 ≤ D) (h : ∀ r z', rdM C wr z z' → F r z') : MT G D z_common 0 [(0, vr 0), (1, vi w), (2, vi c)] [] z (ri F) := by
  obtain ⟨D, rfl⟩ : ∃ D', D = D' + 1 := ⟨D - 1, by omega⟩
  have k0 : (0 : Int32).toInt = 0 := rfl
  refine sg_common_0 _ _ (fun y e => ?_)
  have hy := z0_s e
  have no : ∀ y', mi [0] [] z y' → ri F (some (vi 0)) y' := fun y' m => ri_i (h 0 y' (rd_0 m q))
  have ok : ∀ r, ri F (some (vi r)) y := fun r => ri_i (h r y (rd_0 hy.1 q))
  have qy := (MI_0 hy.1 q).1
  have p47 : vp_in w 2 → ∀ b : Int32, (b = 0 → (0 : Int32) ≤ c ∧ c ≤ y.1 0 23 - 1) → MT G (D + 1) z_common 47 [(0, vr 0), (1, vi w), (2, vi c)] [vi b, vr 0] y (ri F) := by
    intro wv b hb
    refine sg_common_47 _ _ _ (sp_ref b 2 hy (by decide) (fun b0 => ⟨fun _ => ⟨wv, fun _ => ok _, fun tr => ⟨?_, ok _⟩⟩, fun q => absurd rfl q⟩) (fun _ y' m => ⟨fun q => absurd q (by decide), fun _ => no y' m⟩))
    obtain ⟨hc, _⟩ := qy.2.2.2 _ (vp_lt wv) tr
    have g := (qy.2.1 hc).1
    have a2 := in_lt (hb b0) g.1
    have g2 := g.2.1
    exact (tmul (k := 24) (K := 24) (N := 48) (n := 24) rfl wv a2.1 (by omega) (by omega) (by omega) (by omega)).1
  have p20 : ∀ b : Int32, (b = 0 → vp_in w 2) → MT G (D + 1) z_common 20 [(0, vr 0), (1, vi w), (2, vi c)] [vi b, vr 0] y (ri F) := fun b hb => sg_common_20 _ _ _ (sp_ref b 1 hy (by decide) (fun b0 => ⟨fun q => absurd rfl q, fun _ => sp_in _ _ _ ⟨fun c2 => p47 (hb b0) 0 (fun _ => bi_ne.mp c2), fun _ => p47 (hb b0) 1 (fun q => absurd q (by decide))⟩⟩) (fun _ y' m => ⟨fun _ => no y' m, fun q => absurd q (by decide)⟩))
  exact sp_in _ _ _ ⟨fun cc => p20 0 (fun _ => (w_in (bi_ne.mp cc)).1), fun _ => p20 1 (fun q => absurd q (by decide))⟩
theorem sr_alike (q : MI z) (h : ∀ r z', rdM C wr z z' → F r z') : MT G d z_alike 0 [(0, vr 0)] [] z (ri F) := by
  have k0 : (0 : Int32).toInt = 0 := rfl
  have k1 : (1 : Int32).toInt = 1 := rfl
  have k24 : (24 : Int32).toInt = 24 := rfl
  have k72 : (72000 : Int32).toInt = 72000 := rfl
  have z0' : (0 : Int32).toNatClampNeg = 0 := rfl
  have v0 : vp_in 0 2 := vp_in_iff.mpr (by decide)
  have v1 : vp_in 1 2 := vp_in_iff.mpr (by decide)
  refine sg_alike_0 (fun y e => ?_)
  have hy := z0_s e
  have ok : ∀ r, ri F (some (vi r)) y := fun r => ri_i (h r y (rd_0 hy.1 q))
  have qy := (MI_0 hy.1 q).1
  refine ⟨v0, fun _ => ok _, fun tr => ⟨v1, fun _ => ok _, fun _ => ⟨v0, fun _ => ok _, fun _ => ⟨v1, fun _ => ⟨v0, v1, fun _ => ?_, fun _ => ok _⟩, fun _ => ok _⟩⟩⟩⟩
  obtain ⟨hc, A, t1, t2, t3, t4, t5, _⟩ := qy.2.2.2 _ (vp_lt v0) tr
  obtain ⟨O, eO⟩ : ∃ O, O = y.1 123 (0 : Int32).toNatClampNeg := ⟨_, rfl⟩
  rw [← eO] at t4 t5
  have bO : (24 * O).toInt = 24 * O.toInt := by rw [t_mul (by rw [k24]; omega) (by rw [k24]; omega), k24]
  have loop : ∀ (n : Nat) (i : Int32), 0 ≤ i.toInt → 72000 - i.toInt ≤ n → MT G d z_alike 62 [(0, vr 0), (1, vi i)] [] y (ri F) := by
    intro n
    induction n with
    | zero =>
      intro i i0 hn
      refine sg_alike_62 _ ⟨v0, ?_⟩
      rw [← eO]
      exact ⟨fun _ => ok _, fun c => absurd (t_le.mpr (by omega)) c⟩
    | succ n ih =>
      intro i i0 hn
      refine sg_alike_62 _ ⟨v0, ?_⟩
      rw [← eO]
      refine ⟨fun _ => ok _, fun c => ?_⟩
      rw [t_le, bO] at c
      have ii : (i + 1).toInt = i.toInt + 1 := by rw [t_add (by omega) (by omega), k1]
      exact ⟨by rw [vp_in_iff]; omega, by rw [vp_in_iff, t_add (by omega) (by omega), k72]; omega, fun _ => ih _ (by omega) (by omega), fun _ => ok _⟩
  exact loop 72000 0 (by decide) (by decide)
theorem sr_ring (q : MI z) (w : Int32) (hD : 3 ≤ D) (h : ∀ r z', rdM C wr z z' → F r z') : MT G D z_ring 0 [(0, vr 0), (1, vi w)] [] z (ri F) := by
  obtain ⟨D, rfl⟩ : ∃ D', D = D' + 1 := ⟨D - 1, by omega⟩
  have k0 : (0 : Int32).toInt = 0 := rfl
  have k1 : (1 : Int32).toInt = 1 := rfl
  have k6 : (6 : Int32).toInt = 6 := rfl
  have k36 : (36 : Int32).toInt = 36 := rfl
  refine sg_ring_0 _ (fun y e => ?_)
  have hy := z0_s e
  have no : ∀ y', mi [0] [] z y' → ri F (some (vi 0)) y' := fun y' m => ri_i (h 0 y' (rd_0 m q))
  have qy := (MI_0 hy.1 q).1
  have p20 : ∀ b : Int32, (b = 0 → vp_in w 2) → MT G (D + 1) z_ring 20 [(0, vr 0), (1, vi w)] [vi b, vr 0] y (ri F) := by
    intro b hb
    refine sg_ring_20 _ _ (sp_ref b 1 hy (by decide) (fun b0 => ⟨fun q => absurd rfl q, fun _ => ⟨hb b0, fun tr => ?_, fun _ => no y hy.1⟩⟩) (fun _ y' m => ⟨fun _ => no y' m, fun q => absurd q (by decide)⟩))
    have wv := hb b0
    have wb := vp_in_iff.mp wv
    obtain ⟨hc, _⟩ := qy.2.2.2 _ (vp_lt wv) tr
    have g := (qy.2.1 hc).1
    have g6 := g.2.2.2.1
    have g60 := g.2.2.1
    obtain ⟨N, eN⟩ : ∃ N, N = y.1 0 24 := ⟨_, rfl⟩
    rw [← eN] at g6 g60
    have fin : ∀ (u : gd) (r : Int32), mi [] [139] y u → ri F (some (vi r)) u := fun u r mu => ri_i (h r u (by
      have p := rd_mi (C := C) (wr := wr) mu rfl rfl qy
      exact rd_tr hy.1 p))
    have f24 : ∀ u : gd, mi [] [139] y u → u.1 0 24 = N := fun u mu => by rw [mu.1 24 (by decide), eN]
    have st : ∀ (u u2 : gd) (j : Nat) (v : Int32), mi [] [139] y u → u2 = si u 139 j v → mi [] [139] y u2 := fun u u2 j v mu e2 => by
      have m := md_a u 139 j v (by decide)
      rw [← e2] at m
      exact mi_tr mu (mi_of m) rfl rfl
    have p42 : ∀ (n : Nat) (u : gd) (r l : Int32), mi [] [139] y u → 0 ≤ l.toInt → N.toInt - l.toInt ≤ n → MT G (D + 1) z_ring 42 [(0, vr 0), (1, vi w), (2, vi r), (3, vi l)] [] u (ri F) := by
      intro n
      induction n with
      | zero =>
        intro u r l mu l0 hn
        exact sg_ring_42 _ _ _ ⟨fun _ => fin u r mu, fun c => absurd (t_le.mpr (by rw [f24 u mu]; omega)) c⟩
      | succ n ih =>
        intro u r l mu l0 hn
        refine sg_ring_42 _ _ _ ⟨fun _ => fin u r mu, fun c => ?_⟩
        rw [t_le, f24 u mu] at c
        have lv : vp_in l 6 := by rw [vp_in_iff]; omega
        have li : (l + 1).toInt = l.toInt + 1 := by rw [t_add (by omega) (by omega), k1]
        have p79 : ∀ (m : Nat) (u : gd) (k : Int32), mi [] [139] y u → 1 ≤ k.toInt → N.toInt + 1 - k.toInt ≤ m → MT G (D + 1) z_ring 79 [(0, vr 0), (1, vi w), (2, vi r), (3, vi l), (4, vi k)] [] u (ri F) := by
          have last : ∀ u : gd, mi [] [139] y u → vp_in l 6 ∧ (((u.1 139 l.toNatClampNeg) ≤ (0 : Int32) → MT G (D + 1) z_ring 42 [(0, vr 0), (1, vi w), (2, vi r), (3, vi (l + 1))] [] u (ri F)) ∧ (¬ ((u.1 139 l.toNatClampNeg) ≤ (0 : Int32)) → ((r = (0 : Int32) → vp_in l 6 ∧ MT G (D + 1) z_ring 42 [(0, vr 0), (1, vi w), (2, vi (u.1 139 l.toNatClampNeg)), (3, vi (l + 1))] [] u (ri F)) ∧ (¬ (r = (0 : Int32)) → vp_in l 6 ∧ ((r ≤ (u.1 139 l.toNatClampNeg) → MT G (D + 1) z_ring 42 [(0, vr 0), (1, vi w), (2, vi r), (3, vi (l + 1))] [] u (ri F)) ∧ (¬ (r ≤ (u.1 139 l.toNatClampNeg)) → vp_in l 6 ∧ MT G (D + 1) z_ring 42 [(0, vr 0), (1, vi w), (2, vi (u.1 139 l.toNatClampNeg)), (3, vi (l + 1))] [] u (ri F))))))) := by
            intro u mu
            have nx : ∀ r : Int32, MT G (D + 1) z_ring 42 [(0, vr 0), (1, vi w), (2, vi r), (3, vi (l + 1))] [] u (ri F) := fun r => ih u r (l + 1) mu (by omega) (by omega)
            exact ⟨lv, fun _ => nx _, fun _ => ⟨fun _ => ⟨lv, nx _⟩, fun _ => ⟨lv, fun _ => nx _, fun _ => ⟨lv, nx _⟩⟩⟩⟩
          intro m
          induction m with
          | zero =>
            intro u k mu k1' hm
            exact sg_ring_79 _ _ _ _ ⟨fun _ => last u mu, fun q => absurd (t_lt.mpr (by rw [f24 u mu]; omega)) q⟩
          | succ m ihm =>
            intro u k mu k1' hm
            refine sg_ring_79 _ _ _ _ ⟨fun _ => last u mu, fun q => ?_⟩
            rw [t_lt, f24 u mu] at q
            have ki : (k + 1).toInt = k.toInt + 1 := by rw [t_add (by omega) (by omega), k1]
            have p91 : ∀ (p : Nat) (u : gd) (i : Int32), mi [] [139] y u → 0 ≤ i.toInt → N.toInt - i.toInt ≤ p → MT G (D + 1) z_ring 91 [(0, vr 0), (1, vi w), (2, vi r), (3, vi l), (4, vi k), (5, vi i)] [] u (ri F) := by
              intro p
              induction p with
              | zero =>
                intro u i mu i0 hp
                exact sg_ring_91 _ _ _ _ _ ⟨fun _ => ihm u (k + 1) mu (by omega) (by omega), fun q => absurd (t_le.mpr (by rw [f24 u mu]; omega)) q⟩
              | succ p ihp =>
                intro u i mu i0 hp
                refine sg_ring_91 _ _ _ _ _ ⟨fun _ => ihm u (k + 1) mu (by omega) (by omega), fun q2 => ?_⟩
                rw [t_le, f24 u mu] at q2
                have iv : vp_in i 6 := by rw [vp_in_iff]; omega
                have ii : (i + 1).toInt = i.toInt + 1 := by rw [t_add (by omega) (by omega), k1]
                have p144 : ∀ (s : Nat) (u : gd) (v j : Int32), mi [] [139] y u → 0 ≤ j.toInt → N.toInt - j.toInt ≤ s → MT G (D + 1) z_ring 144 [(0, vr 0), (1, vi w), (2, vi r), (3, vi l), (4, vi k), (5, vi i), (6, vi v), (7, vi j)] [] u (ri F) := by
                  intro s
                  induction s with
                  | zero =>
                    intro u v j mu j0 hs
                    exact sg_ring_144 _ _ _ _ _ _ _ ⟨fun _ => ihp u (i + 1) mu (by omega) (by omega), fun q => absurd (t_le.mpr (by rw [f24 u mu]; omega)) q⟩
                  | succ s ihs =>
                    intro u v j mu j0 hs
                    refine sg_ring_144 _ _ _ _ _ _ _ ⟨fun _ => ihp u (i + 1) mu (by omega) (by omega), fun q3 => ⟨fun _ => ihp u (i + 1) mu (by omega) (by omega), fun _ => ?_⟩⟩
                    rw [t_le, f24 u mu] at q3
                    have jv : vp_in j 6 := by rw [vp_in_iff]; omega
                    have ji : (j + 1).toInt = j.toInt + 1 := by rw [t_add (by omega) (by omega), k1]
                    have a1 : (36 * w).toInt = 36 * w.toInt := by rw [t_mul (by rw [k36]; omega) (by rw [k36]; omega), k36]
                    have a2 : (6 * i).toInt = 6 * i.toInt := by rw [t_mul (by rw [k6]; omega) (by rw [k6]; omega), k6]
                    have a3 : (36 * w + 6 * i).toInt = 36 * w.toInt + 6 * i.toInt := by rw [t_add (by omega) (by omega), a1, a2]
                    refine ⟨by rw [vp_in_iff, t_add (by omega) (by omega), a3]; omega, fun _ => ihs u v (j + 1) mu (by omega) (by omega), fun _ => ⟨jv, fun _ => ihs u v (j + 1) mu (by omega) (by omega), fun _ => ⟨jv, fun u8 e8 => ihs u8 v (j + 1) (st u u8 _ _ mu e8) (by omega) (by omega)⟩⟩⟩
                have go : ∀ v : Int32, MT G (D + 1) z_ring 144 [(0, vr 0), (1, vi w), (2, vi r), (3, vi l), (4, vi k), (5, vi i), (6, vi v), (7, vi 0)] [] u (ri F) := fun v => p144 6 u v 0 mu (by decide) (by rw [k0]; omega)
                exact ⟨fun _ => ⟨iv, fun _ => go _, fun _ => go _⟩, fun _ => ⟨fun _ => go _, fun _ => go _⟩⟩
            exact p91 6 u 0 mu (by decide) (by rw [k0]; omega)
        have p53 : ∀ (m : Nat) (u : gd) (k : Int32), mi [] [139] y u → 0 ≤ k.toInt → N.toInt - k.toInt ≤ m → MT G (D + 1) z_ring 53 [(0, vr 0), (1, vi w), (2, vi r), (3, vi l), (4, vi k)] [] u (ri F) := by
          intro m
          induction m with
          | zero =>
            intro u k mu k0' hm
            exact sg_ring_53 _ _ _ _ ⟨fun _ => p79 6 u 1 mu (by decide) (by rw [k1]; omega), fun q => absurd (t_le.mpr (by rw [f24 u mu]; omega)) q⟩
          | succ m ihm =>
            intro u k mu k0' hm
            refine sg_ring_53 _ _ _ _ ⟨fun _ => p79 6 u 1 mu (by decide) (by rw [k1]; omega), fun q => ?_⟩
            rw [t_le, f24 u mu] at q
            have ki : (k + 1).toInt = k.toInt + 1 := by rw [t_add (by omega) (by omega), k1]
            exact ⟨by rw [vp_in_iff]; omega, fun u3 e3 => ihm u3 (k + 1) (st u u3 _ _ mu e3) (by omega) (by omega)⟩
        exact p53 6 u 0 mu (by decide) (by rw [k0]; omega)
    exact p42 6 y 0 0 ⟨fun _ _ => rfl, fun _ _ _ => rfl, fun _ => rfl⟩ (by decide) (by rw [k0]; omega)
  exact sp_in _ _ _ ⟨fun cc => p20 0 (fun _ => (w_in (bi_ne.mp cc)).1), fun _ => p20 1 (fun q => absurd q (by decide))⟩
theorem sr_linear (q : MI z) (k : Int32) (hD : 5 ≤ D) (h : ∀ r z', rdM C wr z z' → F r z') : MT G D z_linear 0 [(0, vr 0), (1, vi k)] [] z (ri F) := by
  obtain ⟨D, rfl⟩ : ∃ D', D = D' + 2 := ⟨D - 2, by omega⟩
  have k1 : (1 : Int32).toInt = 1 := rfl
  refine sg_linear_0 _ (fun y e => ?_)
  have hy := z0_s e
  have no : ∀ y', mi [0] [] z y' → ri F (some (vi 0)) y' := fun y' m => ri_i (h 0 y' (rd_0 m q))
  have qy := (MI_0 hy.1 q).1
  refine sp_noRun hy (fun hr => ⟨fun q => absurd rfl q, fun _ => ?_⟩) (fun y' m => ⟨fun _ => no y' m, fun q => absurd q (by decide)⟩)
  obtain ⟨hc, s, n, q1, q2, q3, q4, q5, q6, ha⟩ := qy.2.2.1 hr
  have end' : ∀ (r : Int32) (u : gd), mi [107, 116] [109, 110, 111, 112, 113, 114, 115, 116, 118] y u → oA u → ri F (some (vi r)) u := fun r u m o => ri_i (h r u (by
    have p := rd_o (C := C) (wr := wr) m rfl rfl o qy
    exact rd_tr hy.1 p))
  have p57 : ∀ (c : Int32), c.toInt ≤ 400 → ∀ (m : Nat) (u : gd) (i : Int32), mi [107, 116] [109, 110, 111, 112, 113, 114, 115, 116, 118] y u → oA u → 0 ≤ i.toInt → c.toInt + 1 - i.toInt ≤ m → MT G (D + 2) z_linear 57 [(0, vr 0), (1, vi k), (2, vi c), (3, vi i)] [] u (ri F) := by
    intro c c4 m
    induction m with
    | zero =>
      intro u i mu ou i0 hm
      exact sg_linear_57 _ _ _ ⟨fun _ => end' _ u mu ou, fun q => absurd (t_lt.mpr (by omega)) q⟩
    | succ m ih =>
      intro u i mu ou i0 hm
      refine sg_linear_57 _ _ _ ⟨fun _ => end' _ u mu ou, fun q => ?_⟩
      rw [t_lt] at q
      have ii : (i + 1).toInt = i.toInt + 1 := by rw [t_add (by omega) (by omega), k1]
      refine sp_takeCalls (HA_mi mu rfl rfl ha) ou i (fun r v mv ov v0 v1 _ => sp_isLinear k v0 v1 (by omega) (fun r2 w mw => ?_))
      have ow' : oA w := oA_md mw (by decide) ov
      have myw : mi [107, 116] [109, 110, 111, 112, 113, 114, 115, 116, 118] y w := mi_tr (mi_tr (L3 := [107, 116]) (A3 := [109, 110, 111, 112, 113, 114, 115, 116, 118]) mu mv rfl rfl) (mi_of mw) rfl rfl
      exact ⟨fun _ => ih w (i + 1) myw ow' (by omega) (by omega), fun _ => end' _ w myw ow'⟩
  have p27 : ∀ b : Int32, MT G (D + 2) z_linear 27 [(0, vr 0), (1, vi k)] [vi b, vr 0] y (ri F) := by
    intro b
    refine sg_linear_27 _ _ (sp_ref b 2 hy (by decide) (fun _ => ⟨fun _ => ?_, fun q => absurd rfl q⟩) (fun _ y' m => ⟨fun q => absurd q (by decide), fun _ => no y' m⟩))
    refine sp_takeCalls ha qy.1.2.2.2.2.2 1000 (fun r v mv ov v0 v1 r4 => ⟨fun _ => ?_, fun _ => ?_⟩)
    · exact p57 r r4 _ v 1 (mi_w mv (by decide) (by decide)) ov (by decide) (Int.self_le_toNat _)
    · exact end' _ v (mi_w mv (by decide) (by decide)) ov
  exact sp_in _ _ _ ⟨fun _ => p27 0, fun _ => p27 1⟩
end RDX
end
section
/-! the model: begin, go, draw, again with the numbers of their refusals -/
section MFK
variable {G : mG} {d D : Nat} {x z a : gd} {F : Int32 → gd → Prop} {Fv : gd → Prop} {C : gCo} {w : Nat}
theorem sk_begin (q : MI z) (l : Int32) (gc : ¬ z.1 0 66 = 0 → MK z C ∧ GC C) (hD : 7 ≤ D) (h01 : z.1 0 66 = 0 → ∀ z', rfK 1 z z' → F 0 z') (h02 : ¬ z.1 0 66 = 0 → ¬ (l = 0 ∨ l = 1) → ∀ z', rfK 2 z z' → F 0 z') (h1 : ∀ (w : Nat) z', ¬ z.1 0 66 = 0 → l = Int32.ofNat w → HistC C w z' → mi rnL rnA z z' → z'.1 0 0 = 0 → z'.1 0 67 = 1 → z'.1 0 94 = 0 → F (z'.1 0 84) z') : MT G D z_begin 0 [(0, vr 0), (1, vi l)] [] z (ri F) := by
  obtain ⟨D, rfl⟩ : ∃ D', D = D' + 1 := ⟨D - 1, by omega⟩
  have k0 : (0 : Int32).toInt = 0 := rfl
  have k1 : (1 : Int32).toInt = 1 := rfl
  refine sg_begin_0 _ (fun y e => ?_)
  have hy := z0_s e
  have e66 : y.1 0 66 = z.1 0 66 := hy.1.1 66 (by decide)
  have p40 : ¬ z.1 0 66 = 0 → ∀ b : Int32, (b = 0 → l = 0 ∨ l = 1) → (¬ b = 0 → ¬ (l = 0 ∨ l = 1)) → MT G (D + 1) z_begin 40 [(0, vr 0), (1, vi l)] [vi b, vr 0] y (ri F) := by
    intro c b hb hb2
    refine sg_begin_40 _ _ (sc_refk b 2 hy (by decide) (fun b0 => ⟨fun _ => ?_, fun q => absurd rfl q⟩) (fun nb y' m => ⟨fun q => absurd q (by decide), fun _ => ri_i (h02 c (hb2 nb) y' m)⟩))
    have qy := (MI_0 hy.1 q).1
    obtain ⟨hK, gC⟩ := gc c
    have hKy : MK y C := MK_f hK (fun k hk => hy.1.1 k (fun z9 => by rw [List.mem_singleton.mp z9] at hk; exact absurd hk (by decide))) (fun c9 hc9 => hy.1.2.1 c9 (mfA_0 c9 hc9) (by simp))
    obtain ⟨w, w01, ew⟩ : ∃ w : Nat, (w = 0 ∨ w = 1) ∧ l = Int32.ofNat w := by
      rcases hb b0 with e | e
      · exact ⟨0, Or.inl rfl, e⟩
      · exact ⟨1, Or.inr rfl, e⟩
    rw [ew]
    refine sc_startRun gC (qy.2.1 (by rw [e66]; exact c)) hKy w01 (by omega) (fun z' hh sf => ri_i ?_)
    obtain ⟨m, f94, ha, f67, f68⟩ := sf
    exact h1 w z' c ew hh (mi_tr hy.1 m rfl rfl) (by rw [m.1 0 (by decide)]; exact hy.2) f67 f94
  have p18 : ∀ b : Int32, (b = 0 → ¬ z.1 0 66 = 0) → (¬ b = 0 → ¬ ¬ z.1 0 66 = 0) → MT G (D + 1) z_begin 18 [(0, vr 0), (1, vi l)] [vi b, vr 0] y (ri F) := by
    intro b hb hb2
    refine sg_begin_18 _ _ (sc_refk b 1 hy (by decide) (fun b0 => ⟨fun q => absurd rfl q, fun _ => sp_in _ _ _ ⟨fun c => p40 (hb b0) 0 (fun _ => ?_) (fun z => absurd rfl z), fun c => p40 (hb b0) 1 (fun q => absurd q (by decide)) (fun _ z => ?_)⟩⟩) (fun nb y' m => ⟨fun _ => ri_i (h01 (Classical.not_not.mp (hb2 nb)) y' m), fun q => absurd q (by decide)⟩))
    · obtain ⟨c1, c2⟩ := bi_ne.mp c
      rw [t_le, k0] at c1
      rw [t_le, k1] at c2
      rw [t_eq, t_eq, k0, k1]
      omega
    · refine bi_eq.mp c ?_
      rcases z with z | z <;> rw [z] <;> decide
  rw [e66]
  exact ⟨fun c => p18 0 (fun _ => c) (fun z => absurd rfl z), fun c => p18 1 (fun q => absurd q (by decide)) (fun _ z => z c)⟩
theorem sk_go (q : MI z) (gc : GC C) (hH : ¬ z.1 0 67 = 0 → ∃ w, HistC C w z) (i : Int32) (hD : 7 ≤ D) (h01 : ¬ (¬ z.1 0 67 = 0 ∧ (z.1 0 94).toInt < 400) → ∀ z', rfK 1 z z' → F 0 z') (h02 : (¬ z.1 0 67 = 0 ∧ (z.1 0 94).toInt < 400) → ¬ (0 ≤ i.toInt ∧ i.toInt < (z.1 0 84).toInt) → ∀ z', rfK 2 z z' → F 0 z') (h1 : ∀ (w : Nat) z', ¬ z.1 0 67 = 0 → (z.1 0 94).toInt < 400 → 0 ≤ i.toInt → i.toInt < (z.1 0 84).toInt → HistC C w z → HistC C w z' → mi rnL rnA z z' → z'.1 0 0 = 0 → z'.1 0 67 = z.1 0 67 → (z'.1 0 94).toInt = (z.1 0 94).toInt + 1 → c96 z' (z.1 0 94).toInt.toNat = i.toNatClampNeg → rwE (c96 z') (c96 z) (z.1 0 94).toInt.toNat → F (z'.1 0 84) z') : MT G D z_go 0 [(0, vr 0), (1, vi i)] [] z (ri F) := by
  obtain ⟨D, rfl⟩ : ∃ D', D = D' + 2 := ⟨D - 2, by omega⟩
  have k0 : (0 : Int32).toInt = 0 := rfl
  have k1 : (1 : Int32).toInt = 1 := rfl
  have k4 : (400 : Int32).toInt = 400 := rfl
  refine sg_go_0 _ (fun y e => ?_)
  have hy := z0_s e
  have e67 : y.1 0 67 = z.1 0 67 := hy.1.1 67 (by decide)
  have e84 : y.1 0 84 = z.1 0 84 := hy.1.1 84 (by decide)
  have e94 : y.1 0 94 = z.1 0 94 := hy.1.1 94 (by decide)
  have e96 : y.1 96 = z.1 96 := hy.1.2.1 96 (by decide) (by simp)
  refine sc_noRunk hy (fun hr => ⟨fun q => absurd rfl q, fun _ => ?_⟩) (fun c y' m => ⟨fun _ => ri_i (h01 (fun z9 => z9.1 (by rw [← e67]; exact c)) y' m), fun q => absurd q (by decide)⟩)
  rw [e67] at hr
  obtain ⟨w, hh⟩ := hH hr
  obtain ⟨b1, b2, b3⟩ := HistC_b hh
  have hhy := HistC_0 hy.1 hh
  have p55 : ¬ y.1 0 94 = 400 → ∀ b : Int32, (b = 0 → 0 ≤ i.toInt ∧ i.toInt < (y.1 0 84).toInt) → (¬ b = 0 → ¬ (0 ≤ i.toInt ∧ i.toInt < (y.1 0 84).toInt)) → MT G (D + 2) z_go 55 [(0, vr 0), (1, vi i)] [vi b, vr 0] y (ri F) := by
    intro n4 b hb hb2
    refine sg_go_55 _ _ (sc_refk b 2 hy (by decide) (fun b0 => ⟨fun _ => ?_, fun q => absurd rfl q⟩) (fun nb y' m => ⟨fun q => absurd q (by decide), fun _ => ri_i (h02 ⟨hr, by have n5 := n4; rw [t_eq, k4, e94] at n5; omega⟩ (fun z9 => hb2 nb (by rw [e84]; exact z9)) y' m)⟩))
    rw [t_eq, k4, e94] at n4
    obtain ⟨g1, g2⟩ := hb b0
    refine sc_more gc hhy (by rw [e94]; omega) i g1 g2 (by omega) (fun z' hh' df => ri_i ?_)
    obtain ⟨m, d94, d96, d96b⟩ := df
    rw [e94] at d94 d96 d96b
    refine h1 w z' hr (by omega) g1 (by rw [← e84]; exact g2) hh hh' (mi_tr hy.1 m rfl rfl) (by rw [m.1 0 (by decide)]; exact hy.2) (by rw [m.1 67 (by decide)]; exact e67) d94 ?_ (fun k hk => ?_)
    · show (z'.1 96 _).toNatClampNeg = _
      rw [t_cl] at d96
      rw [d96]
    · show (z'.1 96 k).toNatClampNeg = (z.1 96 k).toNatClampNeg
      rw [d96b k (by rw [t_cl]; omega), e96]
  have p28 : ∀ b : Int32, (b = 0 → ¬ y.1 0 94 = 400) → (¬ b = 0 → y.1 0 94 = 400) → MT G (D + 2) z_go 28 [(0, vr 0), (1, vi i)] [vi b, vr 0] y (ri F) := by
    intro b hb hb2
    refine sg_go_28 _ _ (sc_refk b 1 hy (by decide) (fun b0 => ⟨fun q => absurd rfl q, fun _ => sp_in _ _ _ ⟨fun c => p55 (hb b0) 0 (fun _ => ?_) (fun z => absurd rfl z), fun c => p55 (hb b0) 1 (fun q => absurd q (by decide)) (fun _ z9 => ?_)⟩⟩) (fun nb y' m => ⟨fun _ => ri_i (h01 (fun z9 => ?_) y' m), fun q => absurd q (by decide)⟩))
    · obtain ⟨c1, c2⟩ := bi_ne.mp c
      rw [t_le, k0] at c1
      rw [t_le, t_sub (by rw [e84]; omega) (by rw [e84]; omega), k1] at c2
      omega
    · refine bi_eq.mp c ⟨t_le.mpr (by rw [k0]; exact z9.1), t_le.mpr ?_⟩
      rw [t_sub (by rw [e84]; omega) (by rw [e84]; omega), k1]
      omega
    · have := hb2 nb
      rw [e94] at this
      rw [this, k4] at z9
      omega
  exact ⟨fun c => p28 0 (fun _ => c) (fun z => absurd rfl z), fun c => p28 1 (fun q => absurd q (by decide)) (fun _ => c)⟩
theorem sk_draw (q : MI z) (gc : GC C) (hH : ¬ z.1 0 67 = 0 → ∃ w, HistC C w z) (s n : Int32) (hD : 7 ≤ D) (h01 : z.1 0 67 = 0 → ∀ z', rfK 1 z z' → F 0 z') (h02 : ¬ z.1 0 67 = 0 → ¬ (0 ≤ n.toInt ∧ n.toInt ≤ 400) → ∀ z', rfK 2 z z' → F 0 z') (h1 : ∀ (w : Nat) r z', ¬ z.1 0 67 = 0 → 0 ≤ n.toInt → n.toInt ≤ 400 → HistC C w z → HistC C w z' → mi rnL rnA z z' → z'.1 0 0 = 0 → z'.1 0 67 = z.1 0 67 → (z'.1 0 94).toInt = ((drS C w n.toInt.toNat s (c96 z) (z.1 0 94).toInt.toNat).2 : Nat) → rwE (c96 z') (drS C w n.toInt.toNat s (c96 z) (z.1 0 94).toInt.toNat).1 (drS C w n.toInt.toNat s (c96 z) (z.1 0 94).toInt.toNat).2 → r.toInt = ((drS C w n.toInt.toNat s (c96 z) (z.1 0 94).toInt.toNat).2 : Int) - (z.1 0 94).toInt → F r z') : MT G D z_draw 0 [(0, vr 0), (1, vi s), (2, vi n)] [] z (ri F) := by
  obtain ⟨D, rfl⟩ : ∃ D', D = D' + 2 := ⟨D - 2, by omega⟩
  have k0 : (0 : Int32).toInt = 0 := rfl
  have k1 : (1 : Int32).toInt = 1 := rfl
  have k4 : (400 : Int32).toInt = 400 := rfl
  refine sg_draw_0 _ _ (fun y e => ?_)
  have hy := z0_s e
  have e67 : y.1 0 67 = z.1 0 67 := hy.1.1 67 (by decide)
  have e94 : y.1 0 94 = z.1 0 94 := hy.1.1 94 (by decide)
  have e96 : y.1 96 = z.1 96 := hy.1.2.1 96 (by decide) (by simp)
  refine sc_noRunk hy (fun hr => ⟨fun q => absurd rfl q, fun _ => ?_⟩) (fun c y' m => ⟨fun _ => ri_i (h01 (by rw [← e67]; exact c) y' m), fun q => absurd q (by decide)⟩)
  rw [e67] at hr
  obtain ⟨w, hh⟩ := hH hr
  have hhy := HistC_0 hy.1 hh
  have cy : c96 y = c96 z := by unfold c96; rw [e96]
  obtain ⟨R, eR⟩ : ∃ R, R = drS C w n.toInt.toNat s (c96 z) (z.1 0 94).toInt.toNat := ⟨_, rfl⟩
  have loop : 0 ≤ n.toInt → n.toInt ≤ 400 → ∀ (m : Nat) (u : gd) (v i : Int32) (c : Nat → Nat) (k : Nat), HistC C w u → mi dL dA y u → 0 ≤ i.toInt → i.toInt + m = n.toInt → (u.1 0 94).toInt = (k : Nat) → (k : Int) = (z.1 0 94).toInt + i.toInt → rwE (c96 u) c k → drS C w m v c k = R → MT G (D + 2) z_draw 43 [(0, vr 0), (2, vi n), (3, vi v), (4, vi i)] [] u (ri F) := by
    intro n0 n4
    have end' : ∀ (u : gd) (i : Int32) (c : Nat → Nat) (k : Nat), HistC C w u → mi dL dA y u → (u.1 0 94).toInt = (k : Nat) → (k : Int) = (z.1 0 94).toInt + i.toInt → rwE (c96 u) c k → (c, k) = R → ri F (some (vi i)) u := fun u i c k hu mu h94 hk9 hc hR => ri_i (by
      have e1 : c = R.1 := by rw [← hR]
      have e2 : k = R.2 := by rw [← hR]
      refine h1 w i u hr n0 n4 hh hu (mi_tr hy.1 mu rfl rfl) (by rw [mu.1 0 (by decide)]; exact hy.2) (by rw [mu.1 67 (by decide)]; exact e67) (by rw [← eR, ← e2]; exact h94) ?_ (by rw [← eR, ← e2]; omega)
      rw [← eR, ← e2, ← e1]; exact hc)
    intro m
    induction m with
    | zero =>
      intro u v i c k hu mu i0 hm h94 hk9 hc hR
      exact sg_draw_43 _ _ _ ⟨fun _ => end' u i c k hu mu h94 hk9 hc hR, fun c9 => absurd (t_le.mpr (by omega)) c9⟩
    | succ m ih =>
      intro u v i c k hu mu i0 hm h94 hk9 hc hR
      have rE : runM C w (c96 u) k = runM C w c k := runM_cg hc
      have e84 := HistC_n hu
      have ek : (u.1 0 94).toInt.toNat = k := by rw [h94]; rfl
      rw [ek, rE] at e84
      obtain ⟨b1, b2, b3⟩ := HistC_b hu
      rw [drS] at hR
      refine sg_draw_43 _ _ _ ⟨fun c9 => ?_, fun _ => ⟨fun c9 => ?_, fun c1 => ⟨fun c9 => ?_, fun c2 => ⟨fun z9 => c1 (by rw [z9]; decide), ?_⟩⟩⟩⟩
      · rw [t_le] at c9; exfalso; push_cast at hm; omega
      · rw [t_le, k0] at c9
        rw [if_pos (Or.inl (by omega))] at hR
        exact end' u i c k hu mu h94 hk9 hc hR
      · rw [t_le, k4] at c9
        rw [if_pos (Or.inr (by omega))] at hR
        exact end' u i c k hu mu h94 hk9 hc hR
      · rw [t_le, k0] at c1
        rw [t_le, k4] at c2
        rw [if_neg (by omega)] at hR
        obtain ⟨V, eV⟩ : ∃ V, V = v * 1103515245 + 12345 := ⟨_, rfl⟩
        rw [← eV]
        have hv : drV v = V := by rw [eV]; unfold drV; rfl
        rw [hv] at hR
        clear hv eV
        obtain ⟨a1, a2⟩ := t_and (V >>> (16 &&& 31 : Int32))
        have er := t_rem2 a1 (c := u.1 0 84) (by omega)
        obtain ⟨g1, g2⟩ := t_rem a1 (c := u.1 0 84) (by omega)
        have l84 : (u.1 0 84).toInt.toNat = (chM C w (runM C w c k)).length := by rw [e84]; rfl
        have hd : (V >>> (16 &&& 31 : Int32) &&& 32767).toNatClampNeg % (u.1 0 84).toInt.toNat = drI V (chM C w (runM C w c k)).length := by rw [l84]; unfold drI; rfl
        rw [hd] at er
        clear hd
        refine sc_more gc hu (by omega) _ g1 g2 (by omega) (fun u' hu' df => ?_)
        obtain ⟨mm, d94, d96, d96b⟩ := df
        have ii : (i + 1).toInt = i.toInt + 1 := by rw [t_add (by omega) (by omega), k1]
        refine ih u' _ _ _ (k + 1) hu' (mi_tr mu mm rfl rfl) (by omega) (by push_cast at hm; omega) (by rw [d94, h94]; push_cast; rfl) (by push_cast; omega) (fun j hj => ?_) hR
        have ck : (u.1 0 94).toNatClampNeg = k := by rw [t_cl]; exact ek
        rw [ck] at d96 d96b
        show (u'.1 96 j).toNatClampNeg = upf c k _ j
        by_cases cj : j = k
        · rw [cj, upf_eq, d96, t_cl, er]; rfl
        · rw [upf_ne cj, d96b j cj]; exact hc j (by omega)
  have p29 : ∀ b : Int32, (b = 0 → 0 ≤ n.toInt ∧ n.toInt ≤ 400) → (¬ b = 0 → ¬ (0 ≤ n.toInt ∧ n.toInt ≤ 400)) → MT G (D + 2) z_draw 29 [(0, vr 0), (1, vi s), (2, vi n)] [vi b, vr 0] y (ri F) := fun b hb hb2 => by
    obtain ⟨b1, b2, b3⟩ := HistC_b hh
    exact sg_draw_29 _ _ _ (sc_refk b 2 hy (by decide) (fun b0 => ⟨fun _ => loop (hb b0).1 (hb b0).2 n.toInt.toNat y s 0 (c96 z) (z.1 0 94).toInt.toNat hhy ⟨fun _ _ => rfl, fun _ _ _ => rfl, fun _ => rfl⟩ (by decide) (by have := (hb b0).1; rw [k0]; omega) (by rw [e94]; omega) (by rw [k0]; omega) (fun j _ => by rw [cy]) eR.symm, fun q => absurd rfl q⟩) (fun nb y' m => ⟨fun q => absurd q (by decide), fun _ => ri_i (h02 hr (hb2 nb) y' m)⟩))
  refine sp_in _ _ _ ⟨fun c => p29 0 (fun _ => ?_) (fun z => absurd rfl z), fun c => p29 1 (fun q => absurd q (by decide)) (fun _ z9 => ?_)⟩
  · obtain ⟨c1, c2⟩ := bi_ne.mp c
    rw [t_le, k0] at c1
    rw [t_le, k4] at c2
    exact ⟨c1, c2⟩
  · exact bi_eq.mp c ⟨t_le.mpr (by rw [k0]; exact z9.1), t_le.mpr (by rw [k4]; exact z9.2)⟩
theorem sk_again (q : MI z) (hH : ¬ z.1 0 67 = 0 → ∃ w, HistC C w z) (n : Int32) (hD : 7 ≤ D) (h01 : z.1 0 67 = 0 → ∀ z', rfK 1 z z' → F 0 z') (h02 : ¬ z.1 0 67 = 0 → ¬ (0 ≤ n.toInt ∧ n.toInt ≤ (z.1 0 94).toInt) → ∀ z', rfK 2 z z' → F 0 z') (h1 : ∀ (w : Nat) z', ¬ z.1 0 67 = 0 → 0 ≤ n.toInt → n.toInt ≤ (z.1 0 94).toInt → HistC C w z → HistC C w z' → mi rnL rnA z z' → z'.1 0 0 = 0 → z'.1 0 67 = 1 → (z'.1 0 94).toInt = n.toInt → c96 z' = c96 z → F (z'.1 0 84) z') : MT G D z_again 0 [(0, vr 0), (1, vi n)] [] z (ri F) := by
  obtain ⟨D, rfl⟩ : ∃ D', D = D' + 2 := ⟨D - 2, by omega⟩
  have k0 : (0 : Int32).toInt = 0 := rfl
  have k1 : (1 : Int32).toInt = 1 := rfl
  refine sg_again_0 _ (fun y e => ?_)
  have hy := z0_s e
  have e67 : y.1 0 67 = z.1 0 67 := hy.1.1 67 (by decide)
  have e94 : y.1 0 94 = z.1 0 94 := hy.1.1 94 (by decide)
  have e96 : y.1 96 = z.1 96 := hy.1.2.1 96 (by decide) (by simp)
  have cy : c96 y = c96 z := by unfold c96; rw [e96]
  refine sc_noRunk hy (fun hr => ⟨fun q => absurd rfl q, fun _ => ?_⟩) (fun c y' m => ⟨fun _ => ri_i (h01 (by rw [← e67]; exact c) y' m), fun q => absurd q (by decide)⟩)
  rw [e67] at hr
  obtain ⟨w, hh⟩ := hH hr
  have hhy := HistC_0 hy.1 hh
  obtain ⟨⟨s, N, q1, q2, q3, q4, q5, q6, q7⟩, -, -, gc⟩ := hhy
  have q8 := q7.2.2.1
  have loop : 0 ≤ n.toInt → n.toInt ≤ (y.1 0 94).toInt → ∀ (m : Nat) (u : gd) (i : Int32), 0 ≤ i.toInt → i.toInt + m = n.toInt → i.toInt ≤ (N : Int) → eqS (Sm (s i.toNatClampNeg)) (s i.toNatClampNeg) u → (MJo u (joM C w (c96 y) i.toNatClampNeg) ∧ MJc (suC C) u (joM C w (c96 y) i.toNatClampNeg)) → HA u → (u.1 0 94).toInt = i.toInt → u.1 96 = y.1 96 → u.1 0 68 = y.1 0 68 → u.1 0 67 = 1 → mi (67 :: 68 :: dL) dA y u → MT G (D + 2) z_again 49 [(0, vr 0), (1, vi n), (2, vi i)] [] u (ri F) := by
    intro n0 hn
    have end' : ∀ (u : gd) (i : Int32), 0 ≤ i.toInt → i.toInt = n.toInt → i.toInt ≤ (N : Int) → eqS (Sm (s i.toNatClampNeg)) (s i.toNatClampNeg) u → (MJo u (joM C w (c96 y) i.toNatClampNeg) ∧ MJc (suC C) u (joM C w (c96 y) i.toNatClampNeg)) → HA u → (u.1 0 94).toInt = i.toInt → u.1 96 = y.1 96 → u.1 0 68 = y.1 0 68 → u.1 0 67 = 1 → mi (67 :: 68 :: dL) dA y u → ri F (some (vi (u.1 0 84))) u := by
      intro u i i0 ein iN eu uj hu u94 u96 u68 u67 mu
      have ci := cl_i i0
      have cu : c96 u = c96 y := by unfold c96; rw [u96]
      have hist : HistC C w u := ⟨⟨s, i.toNatClampNeg, by omega, by rw [cu]; exact fun k hk => q2 k (by omega), by rw [cu, u96]; exact fun k hk => q3 k (by omega), eu, by rw [u68]; exact St_pr (prE_mi (prE_rf y) mu rfl rfl) q5, by rw [u68]; exact q6, hu⟩, by unfold MJq; rw [cu, u94, show i.toInt.toNat = i.toNatClampNeg from rfl]; exact ⟨uj.1, uj.2, gc⟩⟩
      exact ri_i (h1 w u hr n0 (by rw [← e94]; exact hn) hh hist (mi_tr hy.1 mu rfl rfl) (by rw [mu.1 0 (by decide)]; exact hy.2) u67 (by omega) (by rw [cu, cy]))
    intro m
    induction m with
    | zero =>
      intro u i i0 hm iN eu uj hu u94 u96 u68 u67 mu
      exact sg_again_49 _ _ ⟨fun _ => end' u i i0 (by omega) iN eu uj hu u94 u96 u68 u67 mu, fun c => absurd (t_le.mpr (by omega)) c⟩
    | succ m ih =>
      intro u i i0 hm iN eu uj hu u94 u96 u68 u67 mu
      have ci := cl_i i0
      push_cast at hm
      refine sg_again_49 _ _ ⟨fun c => ?_, fun c => ?_⟩
      · rw [t_le] at c; exfalso; omega
      rw [t_le] at c
      refine ⟨by rw [vp_in_iff]; omega, ?_⟩
      rw [u96]
      obtain ⟨b1, b2, b3⟩ := q3 i.toNatClampNeg (by omega)
      have am := q2 i.toNatClampNeg (by omega)
      have en := AM_n am
      have cb := cl_i b1
      have b2' : (y.1 96 i.toNatClampNeg).toNatClampNeg < (chM C w (runM C w (c96 y) i.toNatClampNeg)).length := b2
      have ii : (i + 1).toInt = i.toInt + 1 := by rw [t_add (by omega) (by omega), k1]
      have ci1 : (i + 1).toNatClampNeg = i.toNatClampNeg + 1 := by have := cl_i (a := i + 1) (by omega); omega
      obtain ⟨ch, hch, lk, f1, f2, f3, f4⟩ := b3
      have hci := List.mem_of_getElem? hch
      refine sp_doChoice9 am.1 _ b1 (by omega) lk f1 f2 f3 f4 uj.1 uj.2 (fun cn => WFe_of gc (fun k hk => (q3 k (by omega)).2.1) hci cn) (suC_is eu am.2.1 gc.2.2.2.2.2) am.2.1 gc.2.1 am.2.2.1 (am.2.2.2.2.2.2 _ ch hch).2.2 (fun cn => ch_wk gc hci cn) gc.2.2.1 eu hu (by omega) (by omega) (fun u' eu' hu' df jm mc => ?_)
      obtain ⟨mm, d94, d96, d96b⟩ := df
      have cu : (u.1 0 94).toNatClampNeg = i.toNatClampNeg := by have := cl_i (a := u.1 0 94) (by omega); omega
      rw [cu, ← u96] at d96
      rw [cu] at d96b
      refine ih u' (i + 1) (by omega) (by omega) (by omega) (by rw [ci1]; exact eu') ?_ hu' (by omega) ?_ (by rw [mm.1 68 (by decide)]; exact u68) (by rw [mm.1 67 (by decide)]; exact u67) (mi_tr mu mm rfl rfl)
      · rw [ci1, joM_s hch]
        refine ⟨MJo_next uj.1 jm ?_, mc⟩
        by_cases c9 : ch.2.1 = none
        · exact Or.inr ⟨_, deM_a c9⟩
        · exact Or.inl (deM_l c9)
      funext j
      by_cases w : j = i.toNatClampNeg
      · rw [w, d96, u96]
      · rw [d96b j w, u96]
  have p30 : ∀ b : Int32, (b = 0 → 0 ≤ n.toInt ∧ n.toInt ≤ (y.1 0 94).toInt) → (¬ b = 0 → ¬ (0 ≤ n.toInt ∧ n.toInt ≤ (y.1 0 94).toInt)) → MT G (D + 2) z_again 30 [(0, vr 0), (1, vi n)] [vi b, vr 0] y (ri F) := by
    intro b hb hb2
    refine sg_again_30 _ _ (sc_refk b 2 hy (by decide) (fun b0 => ⟨fun _ => ?_, fun q => absurd rfl q⟩) (fun nb y' m => ⟨fun q => absurd q (by decide), fun _ => ri_i (h02 hr (fun z9 => hb2 nb (by rw [e94]; exact z9)) y' m)⟩))
    obtain ⟨n0, n1⟩ := hb b0
    refine q5 G (D + 1) y _ (by omega) (prE_rf y) (fun u eu sf => ?_)
    obtain ⟨mm, f94, hu, f67, f68⟩ := sf
    have z96 : (u.1 0 96).toInt = 0 := by
      have h1 := hu.1
      have h2 := hu.2.1
      rw [f94, k0] at h2
      omega
    exact loop n0 n1 n.toInt.toNat u 0 (by decide) (by rw [k0]; omega) (by rw [k0]; omega) eu ⟨⟨by rw [z96]; rfl, fun a e hae => (jo_nil hae).elim⟩, MJc_0 hu z96⟩ hu (by rw [f94]) (mm.2.1 96 (by decide) (by decide)) f68 f67 (mi_w mm (by decide) (by decide))
  refine sp_in _ _ _ ⟨fun c => p30 0 (fun _ => ?_) (fun z => absurd rfl z), fun c => p30 1 (fun q => absurd q (by decide)) (fun _ z9 => ?_)⟩
  · obtain ⟨c1, c2⟩ := bi_ne.mp c
    rw [t_le, k0] at c1
    rw [t_le] at c2
    exact ⟨c1, c2⟩
  · exact bi_eq.mp c ⟨t_le.mpr (by rw [k0]; exact z9.1), t_le.mpr z9.2⟩
end MFK
section KDW
variable {G : kG} {q : kP} {d : Nat} {x y z : gd} {F : Int32 → gd → Prop} {Fv : gd → Prop} {P : Option gv → gd → Prop} {X : String → gd → Prop} {C : gCo} {w n : Nat} {c c' : Nat → Nat}
theorem kk_draw (hq : kV q) (hH : HOI x q) (hK : ¬ x.1 0 10 = 0 → CK x C ∧ GC C ∧ NX3 C) (hR : ¬ x.1 0 10 = 0 → KRun C w n c x) (l1 l2 : Int32) (hS : x.1 0 10 = 0 → X iSE x) (hA : ¬ x.1 0 10 = 0 → ¬ (0 ≤ l2.toInt ∧ l2.toInt ≤ 400) → X iAE x) (hP : ∀ r y, ¬ x.1 0 10 = 0 → 0 ≤ l2.toInt → l2.toInt ≤ 400 → HOI y q → fm sRn x y → KRun C w (drS C w l2.toInt.toNat l1 c n).2 (drS C w l2.toInt.toNat l1 c n).1 y → y.1 0 10 = x.1 0 10 → r.toInt = ((drS C w l2.toInt.toNat l1 c n).2 : Int) - n → P (some (vi r)) y) : KE G q (d + 7) zk_X11_draw 0 [(0, vr 0), (1, vi l1), (2, vi l2)] [] x P X := by
  have k1 : (1 : Int32).toInt = 1 := rfl
  have k0 : (0 : Int32).toInt = 0 := rfl
  have k4 : (400 : Int32).toInt = 400 := rfl
  refine kg_X11_draw_0 hq l1 l2 (kh_run hq hH hS (fun c9 _ => ⟨fun cc => kg_X11_draw_15 hq (hA c9 (fun z9 => ?_)), fun c0 => ⟨fun c4 => ?_, fun cc => kg_X11_draw_15 hq (hA c9 (fun z9 => ?_))⟩⟩))
  · rw [t_lt, k0] at cc; omega
  · rw [t_lt, k0] at c0
    rw [t_le, k4] at c4
    obtain ⟨hKx, gc, hX3⟩ := hK c9
    have hr := hR c9
    obtain ⟨R, eR⟩ : ∃ R, R = drS C w l2.toInt.toNat l1 c n := ⟨_, rfl⟩
    obtain ⟨n0, en0⟩ : ∃ n0, n0 = n := ⟨_, rfl⟩
    have loop : ∀ (m : Nat) (l3 l4 l5 : Int32) (y : gd) (c : Nat → Nat) (n : Nat), 0 ≤ l5.toInt → l5.toInt + m = l2.toInt → (l4.toInt = l5.toInt ∧ (n : Int) = (n0 : Int) + l4.toInt) → fm sRn x y → KRun C w n c y → y.1 0 10 = x.1 0 10 → drS C w m l3 c n = R → KE G q (d + 7) zk_X11_draw 33 [(0, vr 0), (2, vi l2), (3, vi l3), (4, vi l4), (5, vi l5)] [] y P X := by
      have done : ∀ (r : Int32) (y : gd) (c : Nat → Nat) (n : Nat), (n : Int) = (n0 : Int) + r.toInt → fm sRn x y → KRun C w n c y → y.1 0 10 = x.1 0 10 → (c, n) = R → P (some (vi r)) y := fun r y c n en fy hy h10 hR9 => by
        have e1 : c = R.1 := by rw [← hR9]
        have e2 : n = R.2 := by rw [← hR9]
        refine hP r y c9 (by omega) c4 (HOI_run fy hy.1 hH) fy ?_ h10 (by rw [← eR, ← e2, ← en0]; omega)
        rw [← eR, ← e1, ← e2]; exact hy
      intro m
      induction m with
      | zero =>
        intro l3 l4 l5 y c n l50 hm hk9 fy hy h10 hR9
        refine kg_X11_draw_33 hq l2 l3 l4 l5 ⟨fun _ => done _ y c n hk9.2 fy hy h10 hR9, fun cc => ?_⟩
        exfalso; rw [t_le] at cc; omega
      | succ m ih =>
        intro l3 l4 l5 y c n l50 hm hk9 fy hy h10 hR9
        push_cast at hm
        have hn := hy.2.2.2.1
        have e13 : (y.1 120 13).toInt = ((chM C w (runM C w c n)).length : Nat) := hy.2.1.2.2.1
        have l84 := hy.1.2.1.1.2
        have n4 := hy.1.2.2.1.2.2
        rw [drS] at hR9
        refine kg_X11_draw_33 hq l2 l3 l4 l5 ⟨fun cc => ?_, fun _ => ⟨fun cc => ?_, fun c1 => ⟨fun cc => ?_, fun c2 => ⟨fun z9 => c1 (by rw [z9]; decide), ?_⟩⟩⟩⟩
        · exfalso; rw [t_le] at cc; omega
        · rw [t_le, k0] at cc
          rw [if_pos (Or.inl (by omega))] at hR9
          exact done _ y c n hk9.2 fy hy h10 hR9
        · rw [t_le, k4, hn] at cc
          rw [if_pos (Or.inr (by omega))] at hR9
          exact done _ y c n hk9.2 fy hy h10 hR9
        · rw [t_le, k0] at c1
          rw [t_le, k4, hn] at c2
          rw [if_neg (by omega)] at hR9
          obtain ⟨V, eV⟩ : ∃ V, V = l3 * 1103515245 + 12345 := ⟨_, rfl⟩
          rw [← eV]
          have hv : drV l3 = V := by rw [eV]; unfold drV; rfl
          rw [hv] at hR9
          clear hv eV
          rw [shr16 V]
          obtain ⟨a1, a2⟩ := t_and (V >>> (16 &&& 31 : Int32))
          have er := t_rem2 a1 (c := y.1 120 13) (by omega)
          obtain ⟨g1, g2⟩ := t_rem a1 (c := y.1 120 13) (by omega)
          have ll : (y.1 120 13).toInt.toNat = (chM C w (runM C w c n)).length := by rw [e13]; rfl
          have hd : (V >>> (16 &&& 31 : Int32) &&& 32767).toNatClampNeg % (y.1 120 13).toInt.toNat = drI V (chM C w (runM C w c n)).length := by rw [ll]; unfold drI; rfl
          rw [hd] at er
          clear hd
          obtain ⟨I, eI⟩ : ∃ I, I = drI V (chM C w (runM C w c n)).length := ⟨_, rfl⟩
          rw [← eI] at er hR9
          have hy' : KRun C w n (upf c n I) y := KRun_cg (fun k hk => by rw [upf_ne (by omega)]) hy
          have eM : runM C w (upf c n I) n = runM C w c n := runM_cg (fun k hk => by rw [upf_ne (by omega)])
          have i1 : (l5 + 1).toInt = l5.toInt + 1 := by rw [t_add (by rw [k1]; omega) (by rw [k1]; omega), k1]
          have i4 : (l4 + 1).toInt = l4.toInt + 1 := by rw [t_add (by rw [k1]; omega) (by rw [k1]; omega), k1]
          refine kh_doChoice hq (CK_f hKx (fun c k hc => fy c k (by unfold sRn; omega))) gc hX3 hy' _ er (by rw [eM]; omega) (by omega) (by rw [upf_eq]) (fun z fz hz _ z10 => ih _ _ _ z _ (n + 1) (by omega) (by omega) ⟨by rw [i1, i4]; omega, by rw [i4]; push_cast; omega⟩ (fm_tr fy fz) hz (by rw [z10]; exact h10) hR9)
    exact loop l2.toInt.toNat _ _ _ x c n (by decide) (by rw [k0]; omega) ⟨rfl, by rw [k0, en0]; omega⟩ (fm_rf _ _) hr rfl eR.symm
  · rw [t_le, k4] at cc; omega
end KDW
end
section
/-! the class: its calls -/
section KFA
variable {G : kG} {q q0 q1 : kP} {d : Nat} {x x0 y z : gd} {o : Nat} {F : Int32 → gd → Prop} {Fv : gd → Prop} {P : Option gv → gd → Prop} {X : String → gd → Prop}
/-- the text, whether it is compiled, and the counts stay -/
def KF (x y : gd) : Prop := y.1 20 1 = x.1 20 1 ∧ y.1 0 9 = x.1 0 9 ∧ (∀ k, y.1 21 k = x.1 21 k) ∧ ∀ c k, (60 ≤ c ∧ c < 90 ∧ ¬ (c = 60 ∧ k = 5) ∧ c ≠ 65) → y.1 c k = x.1 c k
theorem KF_rf : KF x x := ⟨rfl, rfl, fun _ => rfl, fun _ _ _ => rfl⟩
theorem KF_tr (h : KF x y) (g : KF y z) : KF x z := ⟨g.1.trans h.1, g.2.1.trans h.2.1, fun k => (g.2.2.1 k).trans (h.2.2.1 k), fun c k hk => (g.2.2.2 c k hk).trans (h.2.2.2 c k hk)⟩
theorem KF_fm {S : Nat → Nat → Prop} (f : fm S x y) (hS : ∀ c k, S c k → ¬ ((c = 20 ∧ k = 1) ∨ (c = 0 ∧ k = 9) ∨ c = 21 ∨ (60 ≤ c ∧ c < 90 ∧ ¬ (c = 60 ∧ k = 5) ∧ c ≠ 65))) : KF x y := ⟨f _ _ (fun z => hS _ _ z (Or.inl ⟨rfl, rfl⟩)), f _ _ (fun z => hS _ _ z (Or.inr (Or.inl ⟨rfl, rfl⟩))), fun k => f _ _ (fun z => hS _ _ z (Or.inr (Or.inr (Or.inl rfl)))), fun c k hc => f _ _ (fun z => hS _ _ z (Or.inr (Or.inr (Or.inr hc))))⟩
theorem rn_20 (f : fm sRn x y) : KF x y := KF_fm f (fun c k q => by unfold sRn at q; omega)
theorem rn_Lk {c k : Nat} (h : sLk 120 c k) : sRn c k := by unfold sLk at h; unfold sRn; omega
/-- what count answers -/
def cntK (x : gd) (l r : Int32) : Prop := (x.1 0 9 = 0 ∧ r = 0) ∨ (¬ x.1 0 9 = 0 ∧ ((l = 0 ∧ r = x.1 60 6) ∨ (l = 1 ∧ r = x.1 60 9) ∨ (l = 2 ∧ r = x.1 60 10) ∨ (l = 3 ∧ r = x.1 60 14) ∨ (l = 4 ∧ r = x.1 60 16)))
theorem kz_count (hq : kV q) (hH : HOI x q) (l : Int32) (hO : ¬ (0 ≤ l.toInt ∧ l.toInt ≤ 4) → X iOE x) (hP : (0 ≤ l.toInt ∧ l.toInt ≤ 4) → ∀ r y, HOI y q → y = x → cntK x l r → P (some (vi r)) y) : KE G q (d + 7) zk_X11_count 0 [(0, vr 0), (1, vi l)] [] x P X := by
  have k0 : (0 : Int32).toInt = 0 := rfl
  have k1 : (1 : Int32).toInt = 1 := rfl
  have k2 : (2 : Int32).toInt = 2 := rfl
  have k3 : (3 : Int32).toInt = 3 := rfl
  have k4 : (4 : Int32).toInt = 4 := rfl
  have k5 : (5 : Int32).toInt = 5 := rfl
  refine kg_X11_count_0 hq l (kg_X11_needWhat_0 hq l 5 ⟨fun c => kg_X11_needWhat_9 hq (hO ?_), fun c => ⟨fun c5 => rv_i ?_, fun c5 => kg_X11_needWhat_9 hq (hO ?_)⟩⟩)
  · rw [t_lt, k0] at c; omega
  · rw [t_lt, k0] at c
    rw [t_lt, k5] at c5
    have ok : 0 ≤ l.toInt ∧ l.toInt ≤ 4 := by omega
    refine ⟨fun c9 => ⟨fun e => hP ok _ x hH rfl (Or.inr ⟨c9, Or.inl ⟨e, rfl⟩⟩), fun e => hP ok _ x hH rfl (Or.inr ⟨c9, Or.inr (Or.inl ⟨e, rfl⟩)⟩), fun e => hP ok _ x hH rfl (Or.inr ⟨c9, Or.inr (Or.inr (Or.inl ⟨e, rfl⟩))⟩), fun e => hP ok _ x hH rfl (Or.inr ⟨c9, Or.inr (Or.inr (Or.inr (Or.inl ⟨e, rfl⟩)))⟩), fun e => hP ok _ x hH rfl (Or.inr ⟨c9, Or.inr (Or.inr (Or.inr (Or.inr ⟨?_, rfl⟩)))⟩)⟩, fun c9 => hP ok _ x hH rfl (Or.inl ⟨c9, rfl⟩)⟩
    have n0 := e 0 (by decide)
    have n1 := e 1 (by decide)
    have n2 := e 2 (by decide)
    have n3 := e 3 (by decide)
    rw [t_eq, k0] at n0
    rw [t_eq, k1] at n1
    rw [t_eq, k2] at n2
    rw [t_eq, k3] at n3
    rw [t_eq, k4]
    omega
  · rw [t_lt, k5] at c5; omega
/-- n bytes more: those of l2, the lowest first -/
def FBk (l2 : Int64) (j : Nat) : Int32 := vp_nar .byte (((((l2 : Int64).toUInt64 >>> ((8 * Int32.ofNat j : Int32).toInt64.toUInt64 &&& Int64.toUInt64 63)).toInt64 : Int64).toInt32 : Int32).toInt8.toInt32)
def FBc (x : gd) (l2 : Int64) (n : Nat) (y : gd) : Prop := (∀ p, p < (x.1 20 1).toNatClampNeg → y.1 21 p = x.1 21 p) ∧ ∀ j, j < n → y.1 21 ((x.1 20 1).toNatClampNeg + j) = FBk l2 j
end KFA
end
section
/-! the class: calls that make something; the compiling -/
/-- cells whose data the ops touch -/
def xtch (o : gop) : List Nat := match o with
  | .inl a => [a.1]
  | .inr (.inl _) => []
  | .inr (.inr (.inl a)) => [a.1]
  | .inr (.inr (.inr _)) => (List.range 14).map gcl
theorem xops_same {l : List gop} {x : gd} {c : Nat} (h : c ∉ l.flatMap xtch) : (xops x l).1 c = x.1 c := by
  induction l generalizing x with
  | nil => rfl
  | cons o r ih =>
    rw [List.flatMap_cons] at h
    show (xops (xop x o) r).1 c = _
    rw [ih (fun q => h (List.mem_append_right _ q))]
    have h0 : c ∉ xtch o := fun q => h (List.mem_append_left _ q)
    rcases o with a | a | a | a
    · exact if_neg (fun e => h0 (List.mem_singleton.mpr e))
    · rfl
    · funext k
      show (si x a.1 a.2.1 a.2.2).1 c k = _
      rw [si_get, if_neg (fun e => h0 (List.mem_singleton.mpr e.1))]
    · exact if_neg (fun e => h0 (isG_m e))
theorem fm_new {S : Nat → Nat → Prop} {x : gd} {b : Nat} {l : List gop} (h : ∀ c ∈ b :: l.flatMap xtch, ∀ k, S c k) : fm S x (xops (znew x b) l) := by
  intro c k hc
  rw [xops_same (fun z => hc (h c (List.mem_cons_of_mem _ z) k)), zn_get, if_neg]
  intro e
  exact hc (h c (by rw [e]; exact List.mem_cons_self) k)
section KBG
variable {G : kG} {q q0 q1 : kP} {d : Nat} {x x0 y z : gd} {o : Nat} {P : Option gv → gd → kP → Prop} {X : String → gd → kP → Prop}
theorem k08_n (h : (kf q).1 0 8 = none) : q.hi = false := by
  have h : (if q.hi = true then some 180 else none) = (none : Option Nat) := h
  by_cases e : q.hi = true
  · rw [if_pos e] at h; cases h
  · cases hh : q.hi
    · rfl
    · exact absurd hh e
theorem k08_s {c : Nat} (h : (kf q).1 0 8 = some c) : q.hi = true := by
  have h : (if q.hi = true then some 180 else none) = some c := h
  by_cases e : q.hi = true
  · exact e
  · rw [if_neg e] at h; cases h
theorem k08_t (h : q.hi = true) : (kf q).1 0 8 = some 180 := by
  show (if q.hi = true then some 180 else none) = _
  rw [if_pos h]
theorem k07_n (h : (kf q).1 0 7 = none) : q.ex = false := by
  have h : (if q.ex = true then some 200 else none) = (none : Option Nat) := h
  by_cases e : q.ex = true
  · rw [if_pos e] at h; cases h
  · cases hh : q.ex
    · rfl
    · exact absurd hh e
theorem k07_s {c : Nat} (h : (kf q).1 0 7 = some c) : q.ex = true := by
  have h : (if q.ex = true then some 200 else none) = some c := h
  by_cases e : q.ex = true
  · exact e
  · rw [if_neg e] at h; cases h
theorem k07_t (h : q.ex = true) : (kf q).1 0 7 = some 200 := by
  show (if q.ex = true then some 200 else none) = _
  rw [if_pos h]
theorem k7_n0 (h : (kf q).1 7 0 = none) : q.t0 = false := by
  have h : (if q.t0 = true then some 260 else none) = (none : Option Nat) := h
  by_cases e : q.t0 = true
  · rw [if_pos e] at h; cases h
  · cases hh : q.t0
    · rfl
    · exact absurd hh e
theorem k7_n1 (h : (kf q).1 7 1 = none) : q.t1 = false := by
  have h : (if q.t1 = true then some 280 else none) = (none : Option Nat) := h
  by_cases e : q.t1 = true
  · rw [if_pos e] at h; cases h
  · cases hh : q.t1
    · rfl
    · exact absurd hh e
theorem k7_le {n : Nat} (hl : kle q q1) (h : (kf q).1 7 n = some o) : (kf q1).1 7 n = some o := by
  have h : kR q 7 n = some o := h
  show kR q1 7 n = some o
  unfold kR at h ⊢
  rw [if_neg (by omega), if_neg (by omega), if_pos rfl] at h ⊢
  by_cases e0 : n = 0
  · rw [if_pos e0] at h ⊢
    by_cases e : q.t0 = true
    · rw [if_pos e] at h; rw [if_pos (hl.2.1.2.2.1 e)]; exact h
    · rw [if_neg e] at h; cases h
  · rw [if_neg e0] at h ⊢
    by_cases e1 : n = 1
    · rw [if_pos e1] at h ⊢
      by_cases e : q.t1 = true
      · rw [if_pos e] at h; rw [if_pos (hl.2.1.2.2.2 e)]; exact h
      · rw [if_neg e] at h; cases h
    · rw [if_neg e1] at h; cases h
theorem HOI_Tn (hO : o = 260 ∨ o = 280) (f : fm (fun c k => o ≤ c ∧ c ≤ o + 14) x y) (z0 : y.1 o 0 = 0) (z3 : y.1 o 3 = 0) (hl : kle q q1) (hu1 : kU q1) (h : HOI x q) : HOI y q1 := by
  obtain ⟨h1, h2, h3, h4⟩ := h
  have hc : agC x y := fun c k hc => f c k (by omega)
  refine ⟨?_, fun h9 => ?_, fun h10 => ?_, fun p hp => ?_⟩
  · unfold kL at h1 ⊢; rw [f 20 1 (by omega)]; exact h1
  · rw [f 0 9 (by omega)] at h9; exact CO_fm (h2 h9) hc
  · rw [f 0 10 (by omega)] at h10
    exact RUN_o hc (fun c k a b => f c k (by omega)) (h3 h10)
  · by_cases e : p = o
    · subst e
      refine ⟨⟨?_, Or.inl z0⟩, fun _ => z0⟩
      unfold TO
      rw [z3]
      have k0 : (0 : Int32).toInt = 0 := rfl
      rw [k0]
      exact ⟨⟨by omega, by omega, oN_U hu1 p⟩, fun i hi => by omega⟩
    · obtain ⟨⟨t1, t2⟩, t3⟩ := h4 p hp
      have g0 : ∀ k, y.1 p k = x.1 p k := fun k => f p k (by omega)
      have ff : fm (fun c k => ¬ (p ≤ c ∧ c ≤ p + 14)) x y := fun c k hk => f c k (by omega)
      refine ⟨⟨TO_le hu1 hl (TO_fm ff (by omega) (fun k => by omega) t1), ?_⟩, fun hn => ?_⟩
      · rw [g0]
        rcases t2 with e2 | ⟨a, b⟩
        · exact Or.inl e2
        · exact Or.inr ⟨TZ_fm ff (by omega) (fun c k hc => by omega) a, CO_fm b hc⟩
      · rw [g0]; exact t3 (fun e3 => hn (kle_T hl e3))
/-- what the judging and the answer leave alone -/
theorem OT_j (f : fm (fun c k => c = 43 ∨ (c = 40 ∧ k = 11) ∨ c = 0) x y) (h : OT x0 x) : OT y y := by
  have e : ∀ c, c ≠ 43 → c ≠ 40 → c ≠ 0 → y.1 c = x.1 c := fun c a b c0 => funext fun k => f c k (by omega)
  have e6 : y.1 40 6 = x.1 40 6 := f _ _ (by omega)
  have e8 : y.1 40 8 = x.1 40 8 := f _ _ (by omega)
  have e10 : y.1 40 10 = x.1 40 10 := f _ _ (by omega)
  obtain ⟨h1, h2, h3, h4, h5, -, h7⟩ := h
  have E20 := e 20 (by omega) (by omega) (by omega)
  have E23 := e 23 (by omega) (by omega) (by omega)
  have E24 := e 24 (by omega) (by omega) (by omega)
  have E26 := e 26 (by omega) (by omega) (by omega)
  have E27 := e 27 (by omega) (by omega) (by omega)
  have E42 := e 42 (by omega) (by omega) (by omega)
  have E44 := e 44 (by omega) (by omega) (by omega)
  have E45 := e 45 (by omega) (by omega) (by omega)
  have E46 := e 46 (by omega) (by omega) (by omega)
  have E48 := e 48 (by omega) (by omega) (by omega)
  have E50 := e 50 (by omega) (by omega) (by omega)
  have E60 := e 60 (by omega) (by omega) (by omega)
  have E62 := e 62 (by omega) (by omega) (by omega)
  have E63 := e 63 (by omega) (by omega) (by omega)
  have E72 := e 72 (by omega) (by omega) (by omega)
  have E80 := e 80 (by omega) (by omega) (by omega)
  have E81 := e 81 (by omega) (by omega) (by omega)
  have E83 := e 83 (by omega) (by omega) (by omega)
  have E84 := e 84 (by omega) (by omega) (by omega)
  have E85 := e 85 (by omega) (by omega) (by omega)
  have E100 := e 100 (by omega) (by omega) (by omega)
  have E109 := e 109 (by omega) (by omega) (by omega)
  have E111 := e 111 (by omega) (by omega) (by omega)
  have E112 := e 112 (by omega) (by omega) (by omega)
  have E113 := e 113 (by omega) (by omega) (by omega)
  refine ⟨?_, ?_, ?_, ?_, ?_, fm_rf _ _, ?_⟩
  · unfold SU SV RB kT kL kTw US PQ BU nx mt at h1 ⊢
    simp only [E20, E23, E24, E26, E27, E42, E60, E62, E63, E100] at h1 ⊢
    exact h1
  · unfold FR at h2 ⊢
    simp only [E42, E100]
    exact h2
  · unfold RI0 KN OPs OP1 NM CD SA TS BU tk nx om ssm sop stg at h3 ⊢
    simp only [E20, E23, E24, E26, E27, E42, E44, E45, E46, E48, E50, E60, E62, E63, E72, E80, E81, E83, E84, E85, E100, E109, E111, E112, E113, e6, e8, e10] at h3 ⊢
    exact h3
  · unfold SCs SC sop stg ssm om at h4 ⊢
    simp only [E80, E81, E84, E100, E112] at h4 ⊢
    exact h4
  · rw [E100]; exact h5
  · show 2 * (y.1 80 9).toInt ≤ (y.1 100 4).toInt
    rw [E80, E100]; exact h7
theorem JM_j {j : Nat} (f : fm (fun c k => c = 0) x y) (h : JM x j) : JM y j := by
  unfold JM at h ⊢
  rw [f 42 j (by omega), f 43 j (by omega), f 40 8 (by omega), f 40 10 (by omega), f 40 6 (by omega), f 27 j (by omega), f 43 (j - 2) (by omega), f 46 _ (by omega)]
  exact h
/-- while a text is compiled -/
def Bs (x : gd) (q : kP) (y : gd) : Prop := fm sCm x y ∧ kL y ∧ y.1 0 10 = 0 ∧ ((∀ o, kiT q o → y.1 o 0 = 0) ∧ ∀ o, (o = 260 ∨ o = 280) → ¬ kiT q o → y.1 o 0 = x.1 o 0) ∧ y.1 20 1 = x.1 20 1
theorem Bs_st (f : fm (fun c k => ((20 ≤ c ∧ c < 120) ∧ ¬ (c = 20 ∧ k = 1)) ∨ (c = 0 ∧ ¬ k = 10)) y z) (h : Bs x q y) : Bs x q z := by
  obtain ⟨h1, h2, h3, ⟨h4, h5⟩, h6⟩ := h
  refine ⟨fm_tr h1 (fm_w f (fun c k q => by unfold sCm; omega)), ?_, ?_, ⟨fun o ho => ?_, fun o hO hn => ?_⟩, ?_⟩
  · unfold kL at h2 ⊢; rw [f 20 1 (by omega)]; exact h2
  · rw [f 0 10 (by omega)]; exact h3
  · have := iT_O ho
    rw [f o 0 (by omega)]; exact h4 o ho
  · rw [f o 0 (by omega)]; exact h5 o hO hn
  · rw [f 20 1 (by omega)]; exact h6
/-- what the linking asks for -/
def LPre (z : gd) : Prop := ∃ x0 y0, OT x0 y0 ∧ fm (fun c k => c = 43 ∨ (c = 40 ∧ k = 11) ∨ c = 0) y0 z ∧ ∀ j : Nat, (j : Int) < mt z → JM z j
theorem LPre_0 (f : fm (fun c k => c = 0) y z) (h : LPre y) : LPre z := by
  obtain ⟨a, b, h1, h2, h3⟩ := h
  refine ⟨a, b, h1, fm_tr h2 (fm_w f (fun c k q => Or.inr (Or.inr q))), fun j hj => JM_j f (h3 j ?_)⟩
  have e : mt z = mt y := by unfold mt; rw [f 20 7 (by omega)]
  rw [← e]; exact hj
/-! what compile makes of a text -/
def ctK (x : gd) (e j : Nat) : Int32 := if j ≤ e then kc (x.1 23 j) else 0
def ctV (x : gd) (e j : Nat) : Int32 := if j ≤ e ∧ kc (x.1 23 j) = 2 then x.1 27 j else 0
noncomputable def smkB (x : gd) (a b : Nat) : Bool := @decide (smk x a b) (Classical.propDecidable _)
theorem smkB_is {a b : Nat} : smkB x a b = true ↔ smk x a b := by
  unfold smkB
  exact @decide_eq_true_iff _ (Classical.propDecidable _)
theorem smk_s {a b : Nat} (h : smk x a b) : smk x b a := ⟨h.1.symm, h.2.1.symm, fun i hi => (h.2.2 i (by rw [h.2.1]; exact hi)).symm⟩
theorem smk_t {a b c : Nat} (h : smk x a b) (g : smk x b c) : smk x a c := ⟨h.1.trans g.1, h.2.1.trans g.2.1, fun i hi => (h.2.2 i hi).trans (g.2.2 i (by rw [← h.2.1]; exact hi))⟩
theorem KA_ct {b : Nat → Int32} {N e : Nat} (h : KCUT b N x e) : KA (ctK x e) (ctV x e) (smkB x) e x := by
  obtain ⟨⟨t0, t1, t2, t3, t4, t5⟩, -⟩ := h
  have ck : ∀ j, j ≤ e → ctK x e j = kc (x.1 23 j) := fun j hj => by unfold ctK; rw [if_pos hj]
  refine ⟨fun j hj => (ck j hj).symm, fun j hj k2 => ?_, fun a b _ _ _ _ => smkB_is.symm, t0, ?_⟩
  · rw [ck j hj] at k2
    unfold ctV
    rw [if_pos ⟨hj, k2⟩]
  · rw [ck e (Nat.le_refl _)]; exact t5
/-- compiled, and how many of each, and the code in numbers: as the text says -/
def CCf (x y : gd) : Prop := ∃ (z : gd) (e : Nat), KCUT (kby x) (kln x) z e ∧ (∀ k, z.1 21 k = x.1 21 k) ∧ (∀ k, y.1 21 k = x.1 21 k) ∧ ((∃ n j L, pAl (ctK z e) (ctV z e) 701 (0, 0, 0, 0, 0) 0 [] = some (n, j, L) ∧ ¬ jFl (smkB z) (ctK z e) (ctV z e) L ∧ ¬ y.1 0 9 = 0 ∧ CNk y n ∧ CK y (codN (smkB z) (ctV z e) (ctK z e) L)) ∨ ((∀ n j L, pAl (ctK z e) (ctV z e) 701 (0, 0, 0, 0, 0) 0 [] = some (n, j, L) → jFl (smkB z) (ctK z e) (ctV z e) L) ∧ y.1 0 9 = 0))
theorem LPk_f {sN : Nat → Nat → Bool} {V K : Nat → Int32} {L : gU} (f : fm (fun c _ => c = 0) y z) (h : LPk sN V K L y) : LPk sN V K L z := by
  obtain ⟨h1, h2, h3, h4, ⟨n, h5, h6⟩, h7, h8⟩ := h
  have e42 : z.1 42 = y.1 42 := by funext k; exact f 42 k (by omega)
  have e43 : z.1 43 = y.1 43 := by funext k; exact f 43 k (by omega)
  have em : mt z = mt y := by unfold mt; rw [f 20 7 (by omega)]
  refine ⟨CCp_eq (fun c k q => f c k (by unfold ccS at q; omega)) h1, TBk_f h2 (fun c k q => f c k (by omega)), fun j hj => ?_, fun j hj => by rw [f 27 j (by omega)]; exact h4 j hj, ⟨n, by rw [e42]; exact h5, by rw [em]; exact h6⟩, h7, by rw [em]; exact h8⟩
  rw [e42, e43]
  exact h3 j (by rw [← em]; exact hj)
theorem TBk_j {T : gTd} (h : TBk x T) (g : fm (fun c k => c = 43 ∨ (c = 40 ∧ k = 11)) x y) : TBk y T := by
  unfold TBk at h ⊢
  rw [g 40 6 (by omega), g 40 8 (by omega), g 40 10 (by omega), g 60 6 (by omega)]
  obtain ⟨⟨a1, a2, a3⟩, ⟨b1, b2⟩, c1, c2⟩ := h
  exact ⟨⟨a1, a2, fun i q hq => by rw [g 44 _ (by omega), g 46 _ (by omega), g 45 _ (by omega)]; exact a3 i q hq⟩, ⟨b1, fun i q hq => by rw [g 48 _ (by omega)]; exact b2 i q hq⟩, c1, fun i q hq => by rw [g 50 _ (by omega)]; exact c2 i q hq⟩
theorem te_srt {K V : Nat → Int32} {v : Nat × Nat × Nat} {q : Nat × Nat × Nat × Nat} (h : te1 K V v = some q) : q.2.1 = 0 ∨ q.2.1 = 1 ∨ q.2.1 = 2 := by
  unfold te1 at h
  split at h
  · cases Option.some.inj h; exact Or.inl rfl
  · split at h
    · cases Option.some.inj h; exact Or.inl rfl
    · split at h
      · cases Option.some.inj h; exact Or.inr (Or.inl rfl)
      · split at h
        · cases Option.some.inj h; exact Or.inr (Or.inr rfl)
        · exact absurd h (by simp)
theorem HBs_ex {sN : Nat → Nat → Bool} {j : Nat} {w : Int32} : ∀ {L : gU} {E : gV}, HBs sN L E j w → ∃ v E', HB sN E' v j w := by
  intro L
  induction L with
  | nil => intro E h; exact h.elim
  | cons v L ih =>
    intro E h
    rcases h with h | h
    · exact ⟨v, E, h⟩
    · exact ih h
theorem HB_u {sN : Nat → Nat → Bool} {v : Nat × Nat × Nat} {E : gV} {j : Nat} {w : Int32} (h : HB sN E v j w) : w = 1 ∨ w = 2 ∨ w = 3 ∨ w = 4 ∨ w = 5 ∨ w = 6 ∨ w = 7 ∨ w = 8 ∨ w = 9 ∨ w = 10 ∨ w = 11 ∨ w = 12 ∨ w = 13 := by
  unfold HB at h
  rcases h with ⟨-, h, -⟩ | ⟨-, h, -⟩ | ⟨-, h, -⟩ | ⟨-, h, -⟩ | ⟨-, h, -⟩ | ⟨-, h, -⟩ | ⟨-, -, h⟩ | ⟨-, h, -⟩ | ⟨-, h, -⟩ | ⟨-, h, -⟩ | ⟨-, h, -⟩ | ⟨-, h, -⟩ | ⟨-, h, -⟩ | ⟨-, h, -⟩ | ⟨-, h, -⟩
  · rw [h]; decide
  · rw [h]; decide
  · rw [h]; decide
  · rw [h]; decide
  · rw [h]; decide
  · rw [h]; decide
  · rcases h with h | h | h <;> rw [h] <;> decide
  · rw [h]; decide
  · rw [h]; decide
  · rw [h]; decide
  · rw [h]; decide
  · rw [h]; decide
  · rw [h]; decide
  · rw [h]; decide
  · rw [h]; decide
theorem CNk_k {n : gN} (h : CNk x n) (g : ∀ k, (k = 6 ∨ k = 9 ∨ k = 10 ∨ k = 14 ∨ k = 16) → y.1 60 k = x.1 60 k) : CNk y n := by
  unfold CNk at h ⊢
  rw [g 6 (by omega), g 9 (by omega), g 10 (by omega), g 14 (by omega), g 16 (by omega)]
  exact h
/-- while compiled is not yet said, l telling the fault; when it is said -/
def CCv (x y : gd) (l : Int32) : Prop := ∃ (z : gd) (e : Nat), KCUT (kby x) (kln x) z e ∧ (∀ k, z.1 21 k = x.1 21 k) ∧ (∀ k, y.1 21 k = x.1 21 k) ∧ ((∃ n j L, pAl (ctK z e) (ctV z e) 701 (0, 0, 0, 0, 0) 0 [] = some (n, j, L) ∧ ¬ jFl (smkB z) (ctK z e) (ctV z e) L ∧ l = 0 ∧ CNk y n ∧ LPk (smkB z) (ctV z e) (ctK z e) L y) ∨ ((∀ n j L, pAl (ctK z e) (ctV z e) 701 (0, 0, 0, 0, 0) 0 [] = some (n, j, L) → jFl (smkB z) (ctK z e) (ctV z e) L) ∧ ¬ l = 0))
/-- before it is linked -/
def CCz (x y : gd) : Prop := ∃ (z : gd) (e : Nat), KCUT (kby x) (kln x) z e ∧ (∀ k, z.1 21 k = x.1 21 k) ∧ (∀ k, y.1 21 k = x.1 21 k) ∧ ((∃ n j L, pAl (ctK z e) (ctV z e) 701 (0, 0, 0, 0, 0) 0 [] = some (n, j, L) ∧ ¬ jFl (smkB z) (ctK z e) (ctV z e) L ∧ ¬ y.1 0 9 = 0 ∧ CNk y n ∧ LPk (smkB z) (ctV z e) (ctK z e) L y) ∨ ((∀ n j L, pAl (ctK z e) (ctV z e) 701 (0, 0, 0, 0, 0) 0 [] = some (n, j, L) → jFl (smkB z) (ctK z e) (ctV z e) L) ∧ y.1 0 9 = 0))
theorem CCz_f (h : CCz x y) (h9 : y.1 0 9 = 0) : CCf x y := by
  obtain ⟨a, e, h1, h2, h3, h4⟩ := h
  exact ⟨a, e, h1, h2, h3, h4.elim (fun ⟨n, j, L, g1, g2, g3, g4⟩ => absurd h9 g3) Or.inr⟩
theorem CCz_lk (h : CCz x y) (h9 : ¬ y.1 0 9 = 0) (f : fm (fun c _ => c = 85 ∨ c = 86 ∨ c = 62 ∨ c = 63) y z) (l1 : ∀ j : Nat, (j : Int) < ssm y → LK1 y z j) (l2 : ∀ i : Nat, (i : Int) < (y.1 60 3).toInt → LK2 y z i) : CCf x z := by
  obtain ⟨a, e, h1, h2, h3, h4⟩ := h
  refine ⟨a, e, h1, h2, fun k => by rw [f 21 k (by omega)]; exact h3 k, ?_⟩
  rw [f 0 9 (by omega)]
  rcases h4 with ⟨n, j, L, g1, g2, g3, g4, g5⟩ | ⟨-, g⟩
  · obtain ⟨N9, eN, -, srt, -, -⟩ := pAl_dT 701 _ _ _ _ g1
    have eN : L = N9 := eN
    rw [← eN] at srt
    exact Or.inl ⟨n, j, L, g1, g2, g3, CNk_k g4 (fun k hk => f _ _ (by omega)), CK_of (fun a b z => smkB_is.mpr (smk_s (smkB_is.mp z))) (fun a b c z1 z2 => smkB_is.mpr (smk_t (smkB_is.mp z1) (smkB_is.mp z2))) g2 srt g5 (cod_ok g1 g2) f l1 l2⟩
  · exact absurd g h9
theorem CCz_st (f : fm (fun c k => c = 0 ∧ ¬ k = 9) y z) (h : CCz x y) : CCz x z := by
  obtain ⟨a, e, h1, h2, h3, h4⟩ := h
  refine ⟨a, e, h1, h2, fun k => by rw [f 21 k (by omega)]; exact h3 k, ?_⟩
  rw [f 0 9 (by omega)]
  exact h4.imp (fun ⟨n, j, L, g1, g2, g3, g4, g5⟩ => ⟨n, j, L, g1, g2, g3, CNk_k g4 (fun k hk => f _ _ (by omega)), LPk_f (fm_w f (fun c k q => q.1)) g5⟩) id
theorem CCv_z {l : Int32} (f : fm (fun c k => c = 0 ∧ k = 9) y z) (h9 : z.1 0 9 = 0 ↔ ¬ l = 0) (h : CCv x y l) : CCz x z := by
  obtain ⟨a, e, h1, h2, h3, h4⟩ := h
  refine ⟨a, e, h1, h2, fun k => by rw [f 21 k (by omega)]; exact h3 k, ?_⟩
  exact h4.imp (fun ⟨n, j, L, g1, g2, g3, g4, g5⟩ => ⟨n, j, L, g1, g2, fun z0 => h9.mp z0 g3, CNk_k g4 (fun k hk => f _ _ (by omega)), LPk_f (fm_w f (fun c k q => q.1)) g5⟩) (fun ⟨g1, g2⟩ => ⟨g1, h9.mpr g2⟩)
end KBG
end
section
/-! the class: attempt() -/
/-- what a trying changes, with what is made for it -/
def sAt (o c k : Nat) : Prop := (180 ≤ c ∧ c < 260) ∨ (o ≤ c ∧ c ≤ o + 14) ∨ 300 ≤ c ∨ (c = 60 ∧ k = 5) ∨ c = 65
section KAT
variable {G : kG} {q : kP} {d : Nat} {x y z : gd} {o : Nat} {P : Option gv → gd → kP → Prop} {X : String → gd → kP → Prop} {C : gCo} {nl : Nat}
theorem kh_attempt (hu : kU q) (hH : HOI x q) (l1 l2 : Int32) (hK : ¬ x.1 0 9 = 0 → CK x C ∧ NC C ∧ NXc C ∧ NX3 C ∧ LkN C nl ∧ NCq C ∧ (x.1 60 9).toInt = (nl : Nat)) (hS : x.1 0 9 = 0 → X iSE x q) (hA : ¬ x.1 0 9 = 0 → ¬ ((l1 = 0 ∨ l1 = 1) ∧ 1 ≤ l2.toInt ∧ l2.toInt ≤ 3000) → X iAE x q) (hP : ∀ (w lim : Nat) y q1, (w = 0 ∨ w = 1) → l1 = Int32.ofNat w → l2.toInt = (lim : Nat) → 1 ≤ lim → lim ≤ 3000 → ¬ x.1 0 9 = 0 → kU q1 → kle q q1 → HOI y q1 → KF x y → fm (sAt (260 + 20 * w)) x y → TR3 C w y (260 + 20 * w) (tryM C w lim) → P (some (vi (y.1 (260 + 20 * w) 0))) y q1) : KM G q (d + 7) zk_X11_attempt 0 [(0, vr 0), (1, vi l1), (2, vi l2)] [] x P X := by
  have k1 : (1 : Int32).toInt = 1 := rfl
  have k3 : (3000 : Int32).toInt = 3000 := rfl
  refine kg_X11_attempt_0 hu l1 l2 (kf_comp hu.1 hH hS (fun c9 hC => kf_way hu.1 l1 (fun z => hA c9 (fun z2 => z z2.1)) (fun hw => ?_)))
  obtain ⟨hKx, hN, hXc, hX3, hLk, hq2, en⟩ := hK c9
  have hv := way_in hw
  obtain ⟨w, w01, ew, ewn⟩ := w_nat hw
  refine ⟨fun c => kg_X11_attempt_20 hu (hA c9 (fun z => ?_)), fun c1 => ⟨fun c3 => ?_, fun c => kg_X11_attempt_20 hu (hA c9 (fun z => ?_))⟩⟩
  · rw [t_lt, k1] at c; omega
  rotate_left
  · rw [t_le, k3] at c; omega
  rw [t_lt, k1] at c1
  rw [t_le, k3] at c3
  obtain ⟨lim, el⟩ : ∃ lim : Nat, l2.toInt = lim := ⟨l2.toInt.toNat, by omega⟩
  have b1 : 1 ≤ lim := by omega
  have b3 : lim ≤ 3000 := by omega
  have hP := fun y q1 => hP w lim y q1 w01 ew el b1 b3 c9
  clear hA hS hK
  have p75 : ∀ (q1 : kP) (y : gd), kU q1 → kle q q1 → HOI y q1 → CO y → q1.ex = true → (kf q1).1 7 w = some (260 + 20 * w) → KF x y → fm (sAt (260 + 20 * w)) x y → KM G q1 (d + 7) zk_X11_attempt 75 [(0, vr 0), (1, vi l1), (2, vi l2)] [] y P X := by
    intro q1 y hu1 hl1 hH1 hC1 he eo elf fy
    have ho := k7_T eo
    have ac : agC x y := fun c k hc => fy c k (by unfold sAt; omega)
    refine kg_X11_attempt_75 hu1 l1 l2 (fun u1 e1 => ⟨hv, fun u3 e3 => ⟨260 + 20 * w, by rw [e3, ewn, eo], ho, by rw [e1, k07_t he], he, ?_⟩⟩)
    rw [ew]
    refine kx_explore3 hu1 he ho hC1 (CK_f hKx ac) hN hXc hX3 hLk hq2 (by rw [ac 60 9 (by omega)]; exact en) w01 l2 el b1 b3 (fun z q7 hu7 hl7 et7 fz hz ht hJ hT hF => ⟨by rw [← ew]; exact hv, fun u9 e9 => ⟨260 + 20 * w, by rw [e9, ← ew, ewn, k7_le hl7 eo], kle_T hl7 ho, ?_⟩⟩)
    exact hP z q7 hu7 (kle_tr hl1 hl7) (HOI_ex hl7 hu7 ho fz hz ht hC1 hH1) (KF_tr elf (KF_fm fz (fun c k q => by unfold sEx at q; omega))) (fm_tr fy (fm_w fz (fun c k q => by unfold sEx at q; unfold sAt; omega))) (TR3_of hT hF)
  have p53 : ∀ (q1 : kP) (y : gd), kU q1 → kle q q1 → HOI y q1 → CO y → q1.ex = true → KF x y → fm (sAt (260 + 20 * w)) x y → KM G q1 (d + 7) zk_X11_attempt 53 [(0, vr 0), (1, vi l1), (2, vi l2)] [] y P X := by
    intro q1 y hu1 hl1 hH1 hC1 he elf fy
    refine kg_X11_attempt_53 hu1 l1 l2 ⟨hv, fun u2 e2 => ⟨fun hn => ⟨hv, fun i0 => ?_, fun i1 => ?_⟩, fun c4 h4 => ?_⟩⟩
    · have w0 : w = 0 := by rw [i0] at ewn; exact ewn.symm
      rw [i0, hn] at e2
      refine ⟨k7_n0 e2.symm, fun q5 x6 e5 e6 hu5 hl5 => ?_⟩
      have f6 : fm (fun c k => 260 ≤ c ∧ c ≤ 260 + 14) y x6 := by
        rw [e6]
        exact fm_new (fun c hc k => (by decide +kernel : ∀ c ∈ 260 :: ops_260.flatMap xtch, 260 ≤ c ∧ c ≤ 260 + 14) c hc)
      refine p75 q5 x6 hu5 (kle_tr hl1 hl5) (HOI_Tn (Or.inl rfl) f6 (by rw [e6]; rfl) (by rw [e6]; rfl) hl5 hu5 hH1) (CO_fm hC1 (fun c k hc => f6 c k (by omega))) (hl5.2.1.2.1 he) ?_ (KF_tr elf (KF_fm f6 (fun c k q => by omega))) (fm_tr fy (fm_w f6 (fun c k q => by unfold sAt; omega)))
      rw [w0, e5]; rfl
    · have w1 : w = 1 := by rw [i1] at ewn; exact ewn.symm
      rw [i1, hn] at e2
      refine ⟨k7_n1 e2.symm, fun q5 x6 e5 e6 hu5 hl5 => ?_⟩
      have f6 : fm (fun c k => 280 ≤ c ∧ c ≤ 280 + 14) y x6 := by
        rw [e6]
        exact fm_new (fun c hc k => (by decide +kernel : ∀ c ∈ 280 :: ops_280.flatMap xtch, 280 ≤ c ∧ c ≤ 280 + 14) c hc)
      refine p75 q5 x6 hu5 (kle_tr hl1 hl5) (HOI_Tn (Or.inr rfl) f6 (by rw [e6]; rfl) (by rw [e6]; rfl) hl5 hu5 hH1) (CO_fm hC1 (fun c k hc => f6 c k (by omega))) (hl5.2.1.2.1 he) ?_ (KF_tr elf (KF_fm f6 (fun c k q => by omega))) (fm_tr fy (fm_w f6 (fun c k q => by unfold sAt; omega)))
      rw [w1, e5]; rfl
    · rw [h4, ewn] at e2
      have eo := (k7_w e2.symm).2
      exact p75 q1 y hu1 hl1 hH1 hC1 he (by rw [← e2, eo]) elf fy
  intro u5 e5
  refine ⟨fun hn => ⟨k07_n (by rw [← e5, hn]), fun q8 x9 e8 e9 hu8 hl8 => ?_⟩, fun c7 h7 => p53 q x hu (kle_rf q) hH hC (k07_s (e5.symm.trans h7)) KF_rf (fm_rf _ _)⟩
  have f9 : fm sNw x x9 := by
    rw [e9]
    refine fm_new (fun c hc k => ?_)
    exact (by decide +kernel : ∀ c ∈ 200 :: ops_200.flatMap xtch, (180 ≤ c ∧ c < 260) ∨ 300 ≤ c) c hc
  exact p53 q8 x9 hu8 hl8 (HOI_mk hl8 hu8 f9 hH) (CO_fm hC (fun c k hc => f9 c k (by unfold sNw; omega))) (by rw [e8]; rfl) (KF_fm f9 (fun c k q => by unfold sNw at q; omega)) (fm_w f9 (fun c k q => by unfold sNw at q; unfold sAt; omega))
end KAT
end
section
/-! the class: what other calls leave of a run, of a trying -/
section KFR
variable {x y : gd} {q : kP} {o : Nat} {C : gCo} {T : gTy} {w n : Nat} {c : Nat → Nat}
theorem KRun_f (hK : CK x C) (hc : agC x y) (f : ∀ c k, 120 ≤ c → c < 180 → y.1 c k = x.1 c k) (r : KRun C w n c x) : KRun C w n c y := by
  obtain ⟨r1, ⟨r2, r3, r4⟩, ⟨r5, r6⟩, r7, r8, r9⟩ := r
  refine ⟨RUN_o hc f r1, ⟨KMm_ag (Or.inl rfl) r1.1 hK (hc 60 6 (by omega)) (hc 60 9 (by omega)) (hc 60 13 (by omega)) (fun k hk => f _ _ (by omega) (by omega)) (fun k => f _ _ (by omega) (by omega)) r2, r3, kchL_ag (f _ _ (by omega) (by omega)) (fun c k h => f _ _ (by omega) (by omega)) r4⟩, ⟨r5, by rw [f _ _ (by omega) (by omega)]; exact r6⟩, by rw [f _ _ (by omega) (by omega)]; exact r7, fun k hk => by rw [f 162 k (by omega) (by omega)]; exact r8 k hk, KJA_f (fun c k hc => f c k (by omega) (by omega)) r9⟩
/-- a trying leaves the run -/
theorem KRun_at (hO : o = 260 ∨ o = 280) (hK : CK x C) (f : fm (sAt o) x y) (r : KRun C w n c x) : KRun C w n c y := KRun_f hK (fun c k hc => f c k (by unfold sAt; omega)) (fun c k h1 h2 => f c k (by unfold sAt; omega)) r
/-- a run leaves the tryings -/
theorem TR3_rn (hO : o = 260 ∨ o = 280) (f : fm sRn x y) (h : TR3 C w x o T) : TR3 C w y o T := TR3_f (f _ _ (by unfold sRn; omega)) (f _ _ (by unfold sRn; omega)) (fun c k hc => f _ _ (by unfold sRn; omega)) h
/-- one way's trying leaves the other's -/
theorem TR3_at {p : Nat} (hO : o = 260 ∨ o = 280) (hp : p = 260 ∨ p = 280) (ne : ¬ o = p) (f : fm (sAt p) x y) (h : TR3 C w x o T) : TR3 C w y o T := TR3_f (f _ _ (by unfold sAt; omega)) (f _ _ (by unfold sAt; omega)) (fun c k hc => f _ _ (by unfold sAt; omega)) h
end KFR
end
section
/-! the uses' tokens are names, or wholes; names are told in order -/
def oZ (K : Nat → Int32) (v : Nat × Nat × Nat) : Prop := (v.1 ∈ [3, 6, 7, 22, 23, 24, 25, 26, 31, 32, 33, 34] → K v.2.1 = 1) ∧ (v.1 = 27 → K v.2.1 = 1 ∧ K v.2.2 = 1) ∧ (v.1 ∈ [65, 66, 67] → K v.2.2 = 1) ∧ (v.1 = 12 → K v.2.1 = 2 ∧ K v.2.2 = 1) ∧ (v.1 ∈ [32, 70] → K v.2.2 = 2)
def eZ (K : Nat → Int32) (L L' : gU) : Prop := ∃ N, L' = L ++ N ∧ ∀ v ∈ N, oZ K v
section EZL
variable {K V : Nat → Int32} {L L' L2 : gU} {o : Bool}
theorem oZ_n {k a b : Nat} (h : ¬ k ∈ [3, 6, 7, 22, 23, 24, 25, 26, 31, 32, 33, 34] ∧ ¬ k = 27 ∧ ¬ k ∈ [65, 66, 67] ∧ ¬ k = 12 ∧ ¬ k ∈ [32, 70]) : oZ K (k, a, b) := ⟨fun c => absurd c h.1, fun c => absurd c h.2.1, fun c => absurd c h.2.2.1, fun c => absurd c h.2.2.2.1, fun c => absurd c h.2.2.2.2⟩
theorem oZ_1 {k a b : Nat} (h : ¬ k = 27 ∧ ¬ k ∈ [65, 66, 67] ∧ ¬ k = 12 ∧ ¬ k ∈ [32, 70]) (h1 : K a = 1) : oZ K (k, a, b) := ⟨fun _ => h1, fun c => absurd c h.1, fun c => absurd c h.2.1, fun c => absurd c h.2.2.1, fun c => absurd c h.2.2.2⟩
theorem oZ_2 {k a b : Nat} (h : ¬ k ∈ [3, 6, 7, 22, 23, 24, 25, 26, 31, 32, 33, 34] ∧ ¬ k = 27 ∧ ¬ k = 12 ∧ ¬ k ∈ [32, 70]) (h1 : K b = 1) : oZ K (k, a, b) := ⟨fun c => absurd c h.1, fun c => absurd c h.2.1, fun _ => h1, fun c => absurd c h.2.2.1, fun c => absurd c h.2.2.2⟩
theorem oZ_w {k a b : Nat} (h : ¬ k ∈ [3, 6, 7, 22, 23, 24, 25, 26, 31, 32, 33, 34] ∧ ¬ k = 27 ∧ ¬ k ∈ [65, 66, 67] ∧ ¬ k = 12) (h1 : K b = 2) : oZ K (k, a, b) := ⟨fun c => absurd c h.1, fun c => absurd c h.2.1, fun c => absurd c h.2.2.1, fun c => absurd c h.2.2.2, fun _ => h1⟩
theorem oZ_27 {a b : Nat} (h1 : K a = 1) (h2 : K b = 1) : oZ K (27, a, b) := ⟨fun c => absurd c (show ¬ 27 ∈ [3, 6, 7, 22, 23, 24, 25, 26, 31, 32, 33, 34] by decide), fun _ => ⟨h1, h2⟩, fun c => absurd c (show ¬ 27 ∈ [65, 66, 67] by decide), fun c => absurd c (show ¬ 27 = 12 by decide), fun c => absurd c (show ¬ 27 ∈ [32, 70] by decide)⟩
theorem oZ_12 {a b : Nat} (h1 : K a = 2) (h2 : K b = 1) : oZ K (12, a, b) := ⟨fun c => absurd c (show ¬ 12 ∈ [3, 6, 7, 22, 23, 24, 25, 26, 31, 32, 33, 34] by decide), fun c => absurd c (show ¬ 12 = 27 by decide), fun c => absurd c (show ¬ 12 ∈ [65, 66, 67] by decide), fun _ => ⟨h1, h2⟩, fun c => absurd c (show ¬ 12 ∈ [32, 70] by decide)⟩
theorem oZ_32 {a b : Nat} (h1 : K a = 1) (h2 : K b = 2) : oZ K (32, a, b) := ⟨fun _ => h1, fun c => absurd c (show ¬ 32 = 27 by decide), fun c => absurd c (show ¬ 32 ∈ [65, 66, 67] by decide), fun c => absurd c (show ¬ 32 = 12 by decide), fun _ => h2⟩
theorem eZ_rf : eZ K L L := ⟨[], by rw [List.append_nil], fun _ h => by cases h⟩
theorem eZ_tr (h : eZ K L L') (g : eZ K L' L2) : eZ K L L2 := by
  obtain ⟨N, e, h⟩ := h
  obtain ⟨N2, e2, g⟩ := g
  exact ⟨N ++ N2, by rw [e2, e, List.append_assoc], fun v hv => (List.mem_append.mp hv).elim (h v) (g v)⟩
theorem eZ_v {v : Nat × Nat × Nat} (h : oZ K v) : eZ K L (L ++ [v]) := ⟨_, rfl, fun w hw => by rw [List.mem_singleton.mp hw]; exact h⟩
theorem pt_oZ {w : Int32} {q r : Nat × gU} (h : pt K w q = some r) : eZ K q.2 r.2 := by
  obtain ⟨-, -, e⟩ := pt_is h
  rw [e]; exact eZ_rf
theorem pan_oZ {v : Nat × Nat × Nat} {q r : Nat × gU} (hv : oZ K v) (h : pan v q = some r) : eZ K q.2 r.2 := by
  unfold pan at h
  cases Option.some.inj h
  exact eZ_v hv
abbrev nkz (K : Nat → Int32) (rE : Nat → Nat → gU → gOp) : Prop := ∀ s i L q, rE s i L = some q → eZ K L q.2
theorem pW_oZ {rE : Nat → Nat → gU → gOp} {th : Nat} (hr : nkz K rE) : ∀ (f j : Nat) (L : gU) (q : Nat × gU), pW rE K th f j L = some q → eZ K L q.2 := by
  intro f
  induction f with
  | zero => intro j L q h; exact absurd h (by simp [pW])
  | succ f ih =>
    intro j L q h
    rw [pW] at h
    split at h
    · split at h
      · obtain ⟨z, hz, h2⟩ := Option.bind_eq_some_iff.mp h
        exact eZ_tr (hr _ _ _ _ hz) (eZ_tr (eZ_v (oZ_n (by decide))) (ih _ _ _ h2))
      · exact absurd h (by simp)
    · cases Option.some.inj h; exact eZ_rf
theorem pO_oZ {rE : Nat → Nat → gU → gOp} (hr : nkz K rE) {i : Nat} {q : Nat × gU} (h : pO rE K o i L = some q) : eZ K L q.2 := by
  unfold pO at h
  split at h
  · exact absurd h (by simp)
  · split at h
    · cases Option.some.inj h; exact eZ_v (oZ_n (by decide))
    · split at h
      · cases Option.some.inj h; exact eZ_v (oZ_n (by decide))
      · split at h
        · obtain ⟨z, hz, h2⟩ := Option.bind_eq_some_iff.mp h
          exact eZ_tr (hr _ _ _ _ hz) (pt_oZ h2)
        · split at h
          · next k1 =>
            split at h
            · split at h
              · split at h
                · next c =>
                  cases Option.some.inj h
                  have := eZ_tr (eZ_v (L := L) (v := (7, i, 0)) (oZ_1 (by decide) k1)) (eZ_v (v := (12, i + 2, i)) (oZ_12 c.2.1.1 k1))
                  rw [List.append_assoc] at this
                  exact this
                · exact absurd h (by simp)
              · cases Option.some.inj h; exact eZ_v (oZ_1 (by decide) k1)
            · cases Option.some.inj h; exact eZ_v (oZ_1 (by decide) k1)
          · exact absurd h (by simp)
theorem pE_oZ : ∀ f : Nat, nkz K (pE K o f) := by
  intro f
  induction f with
  | zero => intro s i L q h; exact absurd h (by simp [pE])
  | succ f ih =>
    intro s i L q h
    rw [pE] at h
    split at h
    · obtain ⟨z, hz, h2⟩ := Option.bind_eq_some_iff.mp h
      refine eZ_tr ?_ (pW_oZ ih _ _ _ _ h2)
      split at hz
      · split at hz
        · obtain ⟨y, hy, h3⟩ := Option.bind_eq_some_iff.mp hz
          cases Option.some.inj h3
          exact eZ_tr (ih _ _ _ _ hy) (eZ_v (oZ_n (by decide)))
        · exact absurd hz (by simp)
      · exact pO_oZ ih hz
    · exact absurd h (by simp)
theorem pX_oZ {f i : Nat} {q : Nat × gU} (h : pX K o f i L = some q) : eZ K L q.2 := by
  obtain ⟨z, hz, h2⟩ := Option.bind_eq_some_iff.mp h
  exact eZ_tr (pE_oZ f _ _ _ _ hz) (pan_oZ (oZ_n (k := 54) (by decide)) h2)
theorem pXq_oZ {f : Nat} {r q : Nat × gU} (h : pXq K f r = some q) : eZ K r.2 q.2 := pX_oZ h
theorem pP_oZ {f i : Nat} {q : Nat × gU} (h : pP K f i L = some q) : eZ K L q.2 := by
  unfold pP at h
  split at h
  · next k1 =>
    split at h
    · split at h
      · obtain ⟨z, hz, h2⟩ := Option.bind_eq_some_iff.mp h
        exact eZ_tr (eZ_tr (eZ_v (oZ_1 (by decide) k1.1)) (pX_oZ hz)) (pt_oZ h2)
      · exact absurd h (by simp)
    · cases Option.some.inj h; exact eZ_v (oZ_1 (by decide) k1.1)
  · exact absurd h (by simp)
theorem pme_oZ {t : Option Nat} (ht : ∀ t0, t = some t0 → K t0 = 1) : eZ K L (L ++ pme t) := by
  cases t with
  | none => rw [pme, List.append_nil]; exact eZ_rf
  | some t => exact eZ_v (oZ_1 (by decide) (ht t rfl))
theorem pma_oZ {t : Option Nat} (ht : ∀ t0, t = some t0 → K t0 = 1) : eZ K L (L ++ pma t) := by
  cases t with
  | none => rw [pma, List.append_nil]; exact eZ_rf
  | some t => exact eZ_v (oZ_1 (by decide) (ht t rfl))
theorem pal_oZ {t : Option Nat} {i : Nat} (ht : ∀ t0, t = some t0 → K t0 = 1) (k1 : K i = 1) : eZ K L (L ++ [pal t i]) := by
  cases t with
  | none => exact eZ_v (oZ_1 (by decide) k1)
  | some t => exact eZ_v (oZ_27 (ht t rfl) k1)
theorem pR_oZ {f i : Nat} {t : Option Nat} {q : Nat × gU} (ht : ∀ t0, t = some t0 → K t0 = 1) (h : pR K f t i L = some q) : eZ K L q.2 := by
  unfold pR at h
  split at h
  · split at h
    · obtain ⟨z4, hz4, h4⟩ := Option.bind_eq_some_iff.mp h
      obtain ⟨z3, hz3, h3⟩ := Option.bind_eq_some_iff.mp hz4
      obtain ⟨z2, hz2, h2⟩ := Option.bind_eq_some_iff.mp hz3
      obtain ⟨z5, hz5, h5⟩ := Option.bind_eq_some_iff.mp h4
      have d : eZ K z5.2 q.2 := pan_oZ (oZ_n (by decide)) h5
      have a : eZ K L z4.2 := eZ_tr (eZ_tr (eZ_tr (pme_oZ ht) (pP_oZ hz2)) (pt_oZ h2)) (pXq_oZ h3)
      split at hz5
      · obtain ⟨z6, hz6, h6⟩ := Option.bind_eq_some_iff.mp hz5
        exact eZ_tr (eZ_tr (eZ_tr a (pt_oZ hz6)) (pXq_oZ h6)) d
      · cases Option.some.inj hz5; exact eZ_tr a d
    · exact absurd h (by simp)
  · split at h
    · obtain ⟨z, hz, h2⟩ := Option.bind_eq_some_iff.mp h
      exact eZ_tr (eZ_tr (pme_oZ ht) (pP_oZ hz)) (pan_oZ (oZ_n (by decide)) h2)
    · split at h
      · next k1 =>
        split at h
        · cases Option.some.inj h; exact pal_oZ ht k1.1
        · exact absurd h (by simp)
      · obtain ⟨z, hz, h2⟩ := Option.bind_eq_some_iff.mp h
        exact eZ_tr (eZ_tr (pma_oZ ht) (pX_oZ hz)) (pan_oZ (oZ_n (by decide)) h2)
abbrev nkx (K : Nat → Int32) (rS : Nat → Nat → gU → gTs) : Prop := ∀ c i L q, rS c i L = some q → eZ K L q.2.2
theorem pBl_oZ {rS : Nat → Nat → gU → gTs} {z : Nat} (hr : nkx K rS) : ∀ (n c i : Nat) (L : gU) (q : Nat × Nat × gU), pBl rS K z n c i L = some q → eZ K L q.2.2 := by
  intro n
  induction n with
  | zero => intro c i L q h; exact absurd h (by simp [pBl])
  | succ n ih =>
    intro c i L q h
    rw [pBl] at h
    split at h
    · split at h
      · cases Option.some.inj h; exact eZ_v (oZ_n (by decide))
      · exact absurd h (by simp)
    · obtain ⟨y, hy, h2⟩ := Option.bind_eq_some_iff.mp h
      exact eZ_tr (hr _ _ _ _ hy) (ih _ _ _ _ h2)
theorem pBk_oZ {rS : Nat → Nat → gU → gTs} {z : Nat} (hr : nkx K rS) {c i : Nat} {q : Nat × Nat × gU} (h : pBk rS K z c i L = some q) : eZ K L q.2.2 := by
  unfold pBk at h
  split at h
  · exact eZ_tr (eZ_v (oZ_n (by decide))) (pBl_oZ hr _ _ _ _ _ h)
  · exact absurd h (by simp)
theorem pEl_oZ {rS : Nat → Nat → gU → gTs} (hr : nkx K rS) {q r : Nat × Nat × gU} (h : pEl rS K q = some r) : eZ K q.2.2 r.2.2 := by
  unfold pEl at h
  split at h
  · split at h
    · split at h
      · exact eZ_tr (eZ_v (oZ_n (by decide))) (hr _ _ _ _ h)
      · exact eZ_tr (eZ_v (oZ_n (by decide))) (pBk_oZ hr h)
    · exact absurd h (by simp)
  · cases Option.some.inj h; exact eZ_rf
theorem pup_oZ {c : Nat} {v : Nat × Nat × Nat} {r : gOp} {q : Nat × Nat × gU} (hv : oZ K v) (h : pup c v r = some q) : ∃ z, r = some z ∧ eZ K z.2 q.2.2 := by
  unfold pup at h
  obtain ⟨z, hz, e⟩ := Option.bind_eq_some_iff.mp h
  cases Option.some.inj e
  exact ⟨z, hz, eZ_v hv⟩
theorem pS1_oZ {f c i : Nat} {q : Nat × Nat × gU} (h : pS1 K f c i L = some q) : eZ K L q.2.2 := by
  have nn0 : ∀ t0 : Nat, (none : Option Nat) = some t0 → K t0 = 1 := fun t0 e => by cases e
  unfold pS1 at h
  split at h
  · split at h
    · next k1 =>
      obtain ⟨z, h, g⟩ := pup_oZ (oZ_1 (k := 22) (by decide) k1.1.1) h
      obtain ⟨y, hy, h2⟩ := Option.bind_eq_some_iff.mp h
      exact eZ_tr (eZ_tr (eZ_tr (eZ_v (oZ_1 (by decide) k1.1.1)) (pR_oZ nn0 hy)) (pt_oZ h2)) g
    · exact absurd h (by simp)
  · split at h
    · next k1 =>
      split at h
      · split at h
        · obtain ⟨z, h, g⟩ := pup_oZ (oZ_n (k := 78) (by decide)) h
          obtain ⟨y5, hy5, h5⟩ := Option.bind_eq_some_iff.mp h
          obtain ⟨y4, hy4, h4⟩ := Option.bind_eq_some_iff.mp hy5
          obtain ⟨y3, hy3, h3⟩ := Option.bind_eq_some_iff.mp hy4
          obtain ⟨y2, hy2, h2⟩ := Option.bind_eq_some_iff.mp hy3
          exact eZ_tr (eZ_tr (eZ_tr (eZ_tr (eZ_tr (eZ_tr (eZ_v (oZ_1 (by decide) k1)) (pX_oZ hy2)) (pt_oZ h2)) (pt_oZ h3)) (pXq_oZ h4)) (pt_oZ h5)) g
        · exact absurd h (by simp)
      · split at h
        · obtain ⟨z, h, g⟩ := pup_oZ (oZ_n (k := 77) (by decide)) h
          obtain ⟨y2, hy2, h2⟩ := Option.bind_eq_some_iff.mp h
          exact eZ_tr (eZ_tr (pR_oZ (fun t0 e => by cases e; exact k1) hy2) (pt_oZ h2)) g
        · exact absurd h (by simp)
    · split at h
      · obtain ⟨z, h, g⟩ := pup_oZ (oZ_n (k := 68) (by decide)) h
        have := pt_oZ h
        exact eZ_tr this g
      · split at h
        · obtain ⟨z, h, g⟩ := pup_oZ (oZ_n (k := 69) (by decide)) h
          obtain ⟨y2, hy2, h2⟩ := Option.bind_eq_some_iff.mp h
          exact eZ_tr (eZ_tr (pX_oZ hy2) (pt_oZ h2)) g
        · split at h
          · split at h
            · next k2 =>
              obtain ⟨z, h, g⟩ := pup_oZ (oZ_w (k := 70) (by decide) k2.1.1) h
              obtain ⟨y2, hy2, h2⟩ := Option.bind_eq_some_iff.mp h
              exact eZ_tr (eZ_tr (pX_oZ hy2) (pt_oZ h2)) g
            · exact absurd h (by simp)
          · split at h
            · split at h
              · next k2 =>
                obtain ⟨z, h, g⟩ := pup_oZ (oZ_2 (k := 66) (by decide) k2.1) h
                have := pt_oZ h
                exact eZ_tr this g
              · exact absurd h (by simp)
            · split at h
              · split at h
                · next k2 =>
                  obtain ⟨z, h, g⟩ := pup_oZ (oZ_2 (k := 67) (by decide) k2.1) h
                  have := pt_oZ h
                  exact eZ_tr this g
                · exact absurd h (by simp)
              · exact absurd h (by simp)
theorem pfi_oZ {q r : Nat × Nat × gU} (h : pfi q = some r) : eZ K q.2.2 r.2.2 := by
  unfold pfi at h
  cases Option.some.inj h
  exact eZ_v (oZ_n (by decide))
theorem pS_oZ : ∀ f : Nat, nkx K (pS K f) := by
  intro f
  induction f with
  | zero => intro c i L q h; exact absurd h (by simp [pS])
  | succ f ih =>
    intro c i L q h
    rw [pS] at h
    split at h
    · exact absurd h (by simp)
    · split at h
      · obtain ⟨z, hz, h2⟩ := Option.bind_eq_some_iff.mp h
        obtain ⟨x, hx, h4⟩ := Option.bind_eq_some_iff.mp h2
        obtain ⟨y, hy, h3⟩ := Option.bind_eq_some_iff.mp hx
        exact eZ_tr (eZ_tr (eZ_tr (eZ_tr (pX_oZ hz) (eZ_v (oZ_n (by decide)))) (pBk_oZ ih hy)) (pEl_oZ ih h3)) (pfi_oZ h4)
      · split at h
        · obtain ⟨z, hz, h2⟩ := Option.bind_eq_some_iff.mp h
          exact eZ_tr (eZ_tr (pX_oZ hz) (eZ_v (oZ_n (by decide)))) (pBk_oZ ih h2)
        · split at h
          · split at h
            · next k2 => exact eZ_tr (eZ_v (oZ_2 (by decide) k2.1)) (pBk_oZ ih h)
            · exact absurd h (by simp)
          · exact pS1_oZ h
theorem pCv_oZ {q r : Nat × gU} (h : pCv K q = some r) : eZ K q.2 r.2 := by
  unfold pCv at h
  split at h
  · split at h
    · split at h
      · split at h
        · cases Option.some.inj h; exact eZ_v (oZ_n (by decide))
        · exact absurd h (by simp)
      · split at h
        · cases Option.some.inj h; exact eZ_v (oZ_n (by decide))
        · exact absurd h (by simp)
    · exact absurd h (by simp)
  · cases Option.some.inj h; exact eZ_v (oZ_n (by decide))
theorem pCl_oZ {n i t : Nat} {q : Nat × Nat × gU} (h : pCl K V n i t L = some q) : eZ K L q.2.2 := by
  unfold pCl at h
  split at h
  · next c =>
    split at h
    · split at h
      · next c2 =>
        obtain ⟨z, hz, e⟩ := Option.bind_eq_some_iff.mp h
        obtain ⟨y, hy, h2⟩ := Option.bind_eq_some_iff.mp hz
        cases Option.some.inj e
        exact eZ_tr (eZ_v (oZ_32 c.2.1.1 c2.2.2.1.1)) (eZ_tr (pCv_oZ hy) (eZ_tr (pt_oZ h2) (eZ_v (oZ_n (by decide)))))
      · exact absurd h (by simp)
    · obtain ⟨z, hz, e⟩ := Option.bind_eq_some_iff.mp h
      obtain ⟨y, hy, h2⟩ := Option.bind_eq_some_iff.mp hz
      cases Option.some.inj e
      exact eZ_tr (eZ_v (oZ_1 (by decide) c.2.1.1)) (eZ_tr (pCv_oZ hy) (eZ_tr (pt_oZ h2) (eZ_v (oZ_n (by decide)))))
  · exact absurd h (by simp)
theorem pD_oZ {n : gN} {i : Nat} {q : gN × Nat × gU} (h : pD K V n i L = some q) : eZ K L q.2.2 := by
  have cell : ∀ t, (pCl K V n.1 i t L).bind (fun q => some ((q.1, n.2), q.2)) = some q → eZ K L q.2.2 := fun t h => by
    obtain ⟨z, hz, e⟩ := Option.bind_eq_some_iff.mp h
    cases Option.some.inj e
    exact pCl_oZ hz
  have blk : ∀ (t j b : Nat) (v : gN), K t = 1 → (pBk (pS K 16) K 0 0 j (L ++ [(34, t, b)])).bind (fun q => some (v, q.2)) = some q → eZ K L q.2.2 := fun t j b v k1 h => by
    obtain ⟨z, hz, e⟩ := Option.bind_eq_some_iff.mp h
    cases Option.some.inj e
    exact eZ_tr (eZ_v (oZ_1 (by decide) k1)) (pBk_oZ (pS_oZ 16) hz)
  have clm : ∀ (k : Nat) (v : gN), (k = 35 ∨ k = 36) → ((pX K true 16 (i + 1) (L ++ [(k, i, 0)])).bind (pt K 67)).bind (fun q => some (v, q)) = some q → eZ K L q.2.2 := fun k v hk h => by
    obtain ⟨z, hz, e⟩ := Option.bind_eq_some_iff.mp h
    obtain ⟨y, hy, h2⟩ := Option.bind_eq_some_iff.mp hz
    cases Option.some.inj e
    refine eZ_tr (eZ_v ?_) (eZ_tr (pX_oZ hy) (pt_oZ h2))
    rcases hk with e | e <;> rw [e] <;> exact oZ_n (by decide)
  unfold pD at h
  split at h
  · split at h
    · exact cell _ h
    · exact absurd h (by simp)
  · split at h
    · exact cell _ h
    · split at h
      · split at h
        · next d =>
          cases Option.some.inj h
          exact eZ_v (oZ_1 (by decide) d.2.2.1.1)
        · exact absurd h (by simp)
      · split at h
        · split at h
          · next d => exact blk _ _ _ _ d.2.2.2.1 h
          · exact absurd h (by simp)
        · split at h
          · split at h
            · next d => exact blk _ _ _ _ d.2.2.1 h
            · exact absurd h (by simp)
          · split at h
            · split at h
              · exact clm _ _ (Or.inl rfl) h
              · exact absurd h (by simp)
            · split at h
              · split at h
                · exact clm _ _ (Or.inr rfl) h
                · exact absurd h (by simp)
              · exact absurd h (by simp)
theorem pAl_oZ : ∀ (m : Nat) (n : gN) (i : Nat) (L : gU) (q : gN × Nat × gU), pAl K V m n i L = some q → eZ K L q.2.2 := by
  intro m
  induction m with
  | zero => intro n i L q h; exact absurd h (by simp [pAl])
  | succ m ih =>
    intro n i L q h
    rw [pAl] at h
    split at h
    · cases Option.some.inj h; exact eZ_rf
    · obtain ⟨z, hz, h2⟩ := Option.bind_eq_some_iff.mp h
      exact eZ_tr (pD_oZ hz) (ih _ _ _ _ h2)
end EZL
end
section
/-! events' tokens: words, signs and wholes where they count -/
def oY (K : Nat → Int32) (v : Nat × Nat × Nat) : Prop := (v.1 ∈ [50, 51, 66, 67, 68, 69, 70, 74, 83] → ¬ K v.2.1 = 0) ∧ (v.1 ∈ [52, 80, 81] → K v.2.1 = 2)
def eY (K : Nat → Int32) (L L' : gU) : Prop := ∃ N, L' = L ++ N ∧ ∀ v ∈ N, oY K v
section EYL
variable {K V : Nat → Int32} {L L' L2 : gU} {o : Bool}
theorem oY_n {k a b : Nat} (h : ¬ k ∈ [50, 51, 66, 67, 68, 69, 70, 74, 83] ∧ ¬ k ∈ [52, 80, 81]) : oY K (k, a, b) := ⟨fun c => absurd c h.1, fun c => absurd c h.2⟩
theorem oY_a {k a b : Nat} (h : ¬ k ∈ [52, 80, 81]) (h1 : ¬ K a = 0) : oY K (k, a, b) := ⟨fun _ => h1, fun c => absurd c h⟩
theorem oY_b {k a b : Nat} (h : ¬ k ∈ [50, 51, 66, 67, 68, 69, 70, 74, 83]) (h1 : K a = 2) : oY K (k, a, b) := ⟨fun c => absurd c h, fun _ => h1⟩
theorem eY_rf : eY K L L := ⟨[], by rw [List.append_nil], fun _ h => by cases h⟩
theorem eY_tr (h : eY K L L') (g : eY K L' L2) : eY K L L2 := by
  obtain ⟨N, e, h⟩ := h
  obtain ⟨N2, e2, g⟩ := g
  exact ⟨N ++ N2, by rw [e2, e, List.append_assoc], fun v hv => (List.mem_append.mp hv).elim (h v) (g v)⟩
theorem eY_v {v : Nat × Nat × Nat} (h : oY K v) : eY K L (L ++ [v]) := ⟨_, rfl, fun w hw => by rw [List.mem_singleton.mp hw]; exact h⟩
theorem pt_oY {w : Int32} {q r : Nat × gU} (h : pt K w q = some r) : eY K q.2 r.2 := by
  obtain ⟨-, -, e⟩ := pt_is h
  rw [e]; exact eY_rf
theorem pan_oY {v : Nat × Nat × Nat} {q r : Nat × gU} (hv : oY K v) (h : pan v q = some r) : eY K q.2 r.2 := by
  unfold pan at h
  cases Option.some.inj h
  exact eY_v hv
abbrev nky (K : Nat → Int32) (rE : Nat → Nat → gU → gOp) : Prop := ∀ s i L q, rE s i L = some q → eY K L q.2
theorem pW_oY {rE : Nat → Nat → gU → gOp} {th : Nat} (hr : nky K rE) : ∀ (f j : Nat) (L : gU) (q : Nat × gU), pW rE K th f j L = some q → eY K L q.2 := by
  intro f
  induction f with
  | zero => intro j L q h; exact absurd h (by simp [pW])
  | succ f ih =>
    intro j L q h
    rw [pW] at h
    split at h
    · next cc =>
      split at h
      · obtain ⟨z, hz, h2⟩ := Option.bind_eq_some_iff.mp h
        exact eY_tr (hr _ _ _ _ hz) (eY_tr (eY_v (oY_a (by decide) (fun z => by rw [z] at cc; exact absurd cc (by show ¬ th < 0; omega)))) (ih _ _ _ h2))
      · exact absurd h (by simp)
    · cases Option.some.inj h; exact eY_rf
theorem pO_oY {rE : Nat → Nat → gU → gOp} (hr : nky K rE) {i : Nat} {q : Nat × gU} (h : pO rE K o i L = some q) : eY K L q.2 := by
  unfold pO at h
  split at h
  · exact absurd h (by simp)
  · split at h
    · next cc => cases Option.some.inj h; exact eY_v (oY_b (by decide) cc)
    · split at h
      · cases Option.some.inj h; exact eY_v (oY_n (by decide))
      · split at h
        · obtain ⟨z, hz, h2⟩ := Option.bind_eq_some_iff.mp h
          exact eY_tr (hr _ _ _ _ hz) (pt_oY h2)
        · split at h
          · next k1 =>
            split at h
            · split at h
              · split at h
                · next c =>
                  cases Option.some.inj h
                  have := eY_tr (K := K) (eY_v (L := L) (v := (7, i, 0)) (oY_n (by decide))) (eY_v (v := (12, i + 2, i)) (oY_n (k := 12) (by decide)))
                  rw [List.append_assoc] at this
                  exact this
                · exact absurd h (by simp)
              · cases Option.some.inj h; exact eY_v (oY_n (by decide))
            · cases Option.some.inj h; exact eY_v (oY_n (by decide))
          · exact absurd h (by simp)
theorem pE_oY : ∀ f : Nat, nky K (pE K o f) := by
  intro f
  induction f with
  | zero => intro s i L q h; exact absurd h (by simp [pE])
  | succ f ih =>
    intro s i L q h
    rw [pE] at h
    split at h
    · obtain ⟨z, hz, h2⟩ := Option.bind_eq_some_iff.mp h
      refine eY_tr ?_ (pW_oY ih _ _ _ _ h2)
      split at hz
      · next cc =>
        split at hz
        · obtain ⟨y, hy, h3⟩ := Option.bind_eq_some_iff.mp hz
          cases Option.some.inj h3
          exact eY_tr (ih _ _ _ _ hy) (eY_v (oY_a (by decide) (by rcases cc with e | e <;> rw [e] <;> decide)))
        · exact absurd hz (by simp)
      · exact pO_oY ih hz
    · exact absurd h (by simp)
theorem pX_oY {f i : Nat} {q : Nat × gU} (h : pX K o f i L = some q) : eY K L q.2 := by
  obtain ⟨z, hz, h2⟩ := Option.bind_eq_some_iff.mp h
  exact eY_tr (pE_oY f _ _ _ _ hz) (pan_oY (oY_n (k := 54) (by decide)) h2)
theorem pXq_oY {f : Nat} {r q : Nat × gU} (h : pXq K f r = some q) : eY K r.2 q.2 := pX_oY h
theorem pP_oY {f i : Nat} {q : Nat × gU} (h : pP K f i L = some q) : eY K L q.2 := by
  unfold pP at h
  split at h
  · next k1 =>
    split at h
    · split at h
      · obtain ⟨z, hz, h2⟩ := Option.bind_eq_some_iff.mp h
        exact eY_tr (eY_tr (eY_v (oY_n (by decide))) (pX_oY hz)) (pt_oY h2)
      · exact absurd h (by simp)
    · cases Option.some.inj h; exact eY_v (oY_n (by decide))
  · exact absurd h (by simp)
theorem pme_oY {t : Option Nat} (ht : ∀ t0, t = some t0 → K t0 = 1) : eY K L (L ++ pme t) := by
  cases t with
  | none => rw [pme, List.append_nil]; exact eY_rf
  | some t => exact eY_v (oY_n (by decide))
theorem pma_oY {t : Option Nat} (ht : ∀ t0, t = some t0 → K t0 = 1) : eY K L (L ++ pma t) := by
  cases t with
  | none => rw [pma, List.append_nil]; exact eY_rf
  | some t => exact eY_v (oY_n (by decide))
theorem pal_oY {t : Option Nat} {i : Nat} (ht : ∀ t0, t = some t0 → K t0 = 1) (k1 : K i = 1) : eY K L (L ++ [pal t i]) := by
  cases t with
  | none => exact eY_v (oY_n (by decide))
  | some t => exact eY_v (oY_n (k := 27) (by decide))
theorem pR_oY {f i : Nat} {t : Option Nat} {q : Nat × gU} (ht : ∀ t0, t = some t0 → K t0 = 1) (h : pR K f t i L = some q) : eY K L q.2 := by
  unfold pR at h
  split at h
  · next cc =>
    split at h
    · obtain ⟨z4, hz4, h4⟩ := Option.bind_eq_some_iff.mp h
      obtain ⟨z3, hz3, h3⟩ := Option.bind_eq_some_iff.mp hz4
      obtain ⟨z2, hz2, h2⟩ := Option.bind_eq_some_iff.mp hz3
      obtain ⟨z5, hz5, h5⟩ := Option.bind_eq_some_iff.mp h4
      have d : eY K z5.2 q.2 := pan_oY (oY_a (by decide) (by rcases cc with e | e | e <;> rw [e] <;> decide)) h5
      have a : eY K L z4.2 := eY_tr (eY_tr (eY_tr (pme_oY ht) (pP_oY hz2)) (pt_oY h2)) (pXq_oY h3)
      split at hz5
      · obtain ⟨z6, hz6, h6⟩ := Option.bind_eq_some_iff.mp hz5
        exact eY_tr (eY_tr (eY_tr a (pt_oY hz6)) (pXq_oY h6)) d
      · cases Option.some.inj hz5; exact eY_tr a d
    · exact absurd h (by simp)
  · split at h
    · obtain ⟨z, hz, h2⟩ := Option.bind_eq_some_iff.mp h
      exact eY_tr (eY_tr (pme_oY ht) (pP_oY hz)) (pan_oY (oY_n (by decide)) h2)
    · split at h
      · next k1 =>
        split at h
        · cases Option.some.inj h; exact pal_oY ht k1.1
        · exact absurd h (by simp)
      · obtain ⟨z, hz, h2⟩ := Option.bind_eq_some_iff.mp h
        exact eY_tr (eY_tr (pma_oY ht) (pX_oY hz)) (pan_oY (oY_n (by decide)) h2)
abbrev nkw (K : Nat → Int32) (rS : Nat → Nat → gU → gTs) : Prop := ∀ c i L q, rS c i L = some q → eY K L q.2.2
theorem pBl_oY {rS : Nat → Nat → gU → gTs} {z : Nat} (hr : nkw K rS) : ∀ (n c i : Nat) (L : gU) (q : Nat × Nat × gU), pBl rS K z n c i L = some q → eY K L q.2.2 := by
  intro n
  induction n with
  | zero => intro c i L q h; exact absurd h (by simp [pBl])
  | succ n ih =>
    intro c i L q h
    rw [pBl] at h
    split at h
    · split at h
      · cases Option.some.inj h; exact eY_v (oY_n (by decide))
      · exact absurd h (by simp)
    · obtain ⟨y, hy, h2⟩ := Option.bind_eq_some_iff.mp h
      exact eY_tr (hr _ _ _ _ hy) (ih _ _ _ _ h2)
theorem pBk_oY {rS : Nat → Nat → gU → gTs} {z : Nat} (hr : nkw K rS) {c i : Nat} {q : Nat × Nat × gU} (h : pBk rS K z c i L = some q) : eY K L q.2.2 := by
  unfold pBk at h
  split at h
  · exact eY_tr (eY_v (oY_n (by decide))) (pBl_oY hr _ _ _ _ _ h)
  · exact absurd h (by simp)
theorem pEl_oY {rS : Nat → Nat → gU → gTs} (hr : nkw K rS) {q r : Nat × Nat × gU} (h : pEl rS K q = some r) : eY K q.2.2 r.2.2 := by
  unfold pEl at h
  split at h
  · split at h
    · split at h
      · exact eY_tr (eY_v (oY_n (by decide))) (hr _ _ _ _ h)
      · exact eY_tr (eY_v (oY_n (by decide))) (pBk_oY hr h)
    · exact absurd h (by simp)
  · cases Option.some.inj h; exact eY_rf
theorem pup_oY {c : Nat} {v : Nat × Nat × Nat} {r : gOp} {q : Nat × Nat × gU} (hv : oY K v) (h : pup c v r = some q) : ∃ z, r = some z ∧ eY K z.2 q.2.2 := by
  unfold pup at h
  obtain ⟨z, hz, e⟩ := Option.bind_eq_some_iff.mp h
  cases Option.some.inj e
  exact ⟨z, hz, eY_v hv⟩
theorem pS1_oY {f c i : Nat} {q : Nat × Nat × gU} (h : pS1 K f c i L = some q) : eY K L q.2.2 := by
  have nn0 : ∀ t0 : Nat, (none : Option Nat) = some t0 → K t0 = 1 := fun t0 e => by cases e
  unfold pS1 at h
  split at h
  · split at h
    · next k1 =>
      obtain ⟨z, h, g⟩ := pup_oY (oY_n (k := 22) (by decide)) h
      obtain ⟨y, hy, h2⟩ := Option.bind_eq_some_iff.mp h
      exact eY_tr (eY_tr (eY_tr (eY_v (oY_n (by decide))) (pR_oY nn0 hy)) (pt_oY h2)) g
    · exact absurd h (by simp)
  · split at h
    · next k1 =>
      split at h
      · split at h
        · obtain ⟨z, h, g⟩ := pup_oY (oY_n (k := 78) (by decide)) h
          obtain ⟨y5, hy5, h5⟩ := Option.bind_eq_some_iff.mp h
          obtain ⟨y4, hy4, h4⟩ := Option.bind_eq_some_iff.mp hy5
          obtain ⟨y3, hy3, h3⟩ := Option.bind_eq_some_iff.mp hy4
          obtain ⟨y2, hy2, h2⟩ := Option.bind_eq_some_iff.mp hy3
          exact eY_tr (eY_tr (eY_tr (eY_tr (eY_tr (eY_tr (eY_v (oY_n (by decide))) (pX_oY hy2)) (pt_oY h2)) (pt_oY h3)) (pXq_oY h4)) (pt_oY h5)) g
        · exact absurd h (by simp)
      · split at h
        · obtain ⟨z, h, g⟩ := pup_oY (oY_n (k := 77) (by decide)) h
          obtain ⟨y2, hy2, h2⟩ := Option.bind_eq_some_iff.mp h
          exact eY_tr (eY_tr (pR_oY (fun t0 e => by cases e; exact k1) hy2) (pt_oY h2)) g
        · exact absurd h (by simp)
    · split at h
      · next cc =>
        obtain ⟨z, h, g⟩ := pup_oY (oY_a (K := K) (k := 68) (by decide) (by rcases cc with e | e | e <;> rw [e] <;> decide)) h
        have := pt_oY h
        exact eY_tr this g
      · split at h
        · next cc =>
          obtain ⟨z, h, g⟩ := pup_oY (oY_a (K := K) (k := 69) (by decide) (by rcases cc with e | e <;> rw [e] <;> decide)) h
          obtain ⟨y2, hy2, h2⟩ := Option.bind_eq_some_iff.mp h
          exact eY_tr (eY_tr (pX_oY hy2) (pt_oY h2)) g
        · split at h
          · next cc =>
            split at h
            · next k2 =>
              obtain ⟨z, h, g⟩ := pup_oY (oY_a (K := K) (k := 70) (by decide) (by rw [cc]; decide)) h
              obtain ⟨y2, hy2, h2⟩ := Option.bind_eq_some_iff.mp h
              exact eY_tr (eY_tr (pX_oY hy2) (pt_oY h2)) g
            · exact absurd h (by simp)
          · split at h
            · next cc =>
              split at h
              · next k2 =>
                obtain ⟨z, h, g⟩ := pup_oY (oY_a (K := K) (k := 66) (by decide) (by rcases cc with e | e | e | e | e <;> rw [e] <;> decide)) h
                have := pt_oY h
                exact eY_tr this g
              · exact absurd h (by simp)
            · split at h
              · next cc =>
                split at h
                · next k2 =>
                  obtain ⟨z, h, g⟩ := pup_oY (oY_a (K := K) (k := 67) (by decide) (by rcases cc with e | e <;> rw [e] <;> decide)) h
                  have := pt_oY h
                  exact eY_tr this g
                · exact absurd h (by simp)
              · exact absurd h (by simp)
theorem pfi_oY {q r : Nat × Nat × gU} (h : pfi q = some r) : eY K q.2.2 r.2.2 := by
  unfold pfi at h
  cases Option.some.inj h
  exact eY_v (oY_n (by decide))
theorem pS_oY : ∀ f : Nat, nkw K (pS K f) := by
  intro f
  induction f with
  | zero => intro c i L q h; exact absurd h (by simp [pS])
  | succ f ih =>
    intro c i L q h
    rw [pS] at h
    split at h
    · exact absurd h (by simp)
    · split at h
      · obtain ⟨z, hz, h2⟩ := Option.bind_eq_some_iff.mp h
        obtain ⟨x, hx, h4⟩ := Option.bind_eq_some_iff.mp h2
        obtain ⟨y, hy, h3⟩ := Option.bind_eq_some_iff.mp hx
        exact eY_tr (eY_tr (eY_tr (eY_tr (pX_oY hz) (eY_v (oY_n (by decide)))) (pBk_oY ih hy)) (pEl_oY ih h3)) (pfi_oY h4)
      · split at h
        · obtain ⟨z, hz, h2⟩ := Option.bind_eq_some_iff.mp h
          exact eY_tr (eY_tr (pX_oY hz) (eY_v (oY_n (by decide)))) (pBk_oY ih h2)
        · split at h
          · split at h
            · next k2 => exact eY_tr (eY_v (oY_n (by decide))) (pBk_oY ih h)
            · exact absurd h (by simp)
          · exact pS1_oY h
theorem pCv_oY {q r : Nat × gU} (h : pCv K q = some r) : eY K q.2 r.2 := by
  unfold pCv at h
  split at h
  · split at h
    · split at h
      · split at h
        · next cc => cases Option.some.inj h; exact eY_v (oY_b (by decide) cc.2.1)
        · exact absurd h (by simp)
      · split at h
        · next cc => cases Option.some.inj h; exact eY_v (oY_b (by decide) cc.1)
        · exact absurd h (by simp)
    · exact absurd h (by simp)
  · cases Option.some.inj h; exact eY_v (oY_n (by decide))
theorem pCl_oY {n i t : Nat} {q : Nat × Nat × gU} (hi : ¬ K i = 0) (h : pCl K V n i t L = some q) : eY K L q.2.2 := by
  unfold pCl at h
  split at h
  · next c =>
    split at h
    · split at h
      · next c2 =>
        obtain ⟨z, hz, e⟩ := Option.bind_eq_some_iff.mp h
        obtain ⟨y, hy, h2⟩ := Option.bind_eq_some_iff.mp hz
        cases Option.some.inj e
        exact eY_tr (eY_v (oY_n (k := 32) (by decide))) (eY_tr (pCv_oY hy) (eY_tr (pt_oY h2) (eY_v (oY_a (by decide) hi))))
      · exact absurd h (by simp)
    · obtain ⟨z, hz, e⟩ := Option.bind_eq_some_iff.mp h
      obtain ⟨y, hy, h2⟩ := Option.bind_eq_some_iff.mp hz
      cases Option.some.inj e
      exact eY_tr (eY_v (oY_n (by decide))) (eY_tr (pCv_oY hy) (eY_tr (pt_oY h2) (eY_v (oY_a (by decide) hi))))
  · exact absurd h (by simp)
theorem pD_oY {n : gN} {i : Nat} {q : gN × Nat × gU} (h : pD K V n i L = some q) : eY K L q.2.2 := by
  have cell : ∀ t, ¬ K i = 0 → (pCl K V n.1 i t L).bind (fun q => some ((q.1, n.2), q.2)) = some q → eY K L q.2.2 := fun t hi h => by
    obtain ⟨z, hz, e⟩ := Option.bind_eq_some_iff.mp h
    cases Option.some.inj e
    exact pCl_oY hi hz
  have blk : ∀ (t j b : Nat) (v : gN), K t = 1 → (pBk (pS K 16) K 0 0 j (L ++ [(34, t, b)])).bind (fun q => some (v, q.2)) = some q → eY K L q.2.2 := fun t j b v k1 h => by
    obtain ⟨z, hz, e⟩ := Option.bind_eq_some_iff.mp h
    cases Option.some.inj e
    exact eY_tr (eY_v (oY_n (by decide))) (pBk_oY (pS_oY 16) hz)
  have clm : ∀ (k : Nat) (v : gN), (k = 35 ∨ k = 36) → ((pX K true 16 (i + 1) (L ++ [(k, i, 0)])).bind (pt K 67)).bind (fun q => some (v, q)) = some q → eY K L q.2.2 := fun k v hk h => by
    obtain ⟨z, hz, e⟩ := Option.bind_eq_some_iff.mp h
    obtain ⟨y, hy, h2⟩ := Option.bind_eq_some_iff.mp hz
    cases Option.some.inj e
    refine eY_tr (eY_v ?_) (eY_tr (pX_oY hy) (pt_oY h2))
    rcases hk with e | e <;> rw [e] <;> exact oY_n (by decide)
  unfold pD at h
  split at h
  · next cc =>
    split at h
    · exact cell _ (by rw [cc]; decide) h
    · exact absurd h (by simp)
  · split at h
    · next cc => exact cell _ (by rw [cc]; decide) h
    · split at h
      · split at h
        · next d =>
          cases Option.some.inj h
          exact eY_v (oY_n (by decide))
        · exact absurd h (by simp)
      · split at h
        · split at h
          · next d => exact blk _ _ _ _ d.2.2.2.1 h
          · exact absurd h (by simp)
        · split at h
          · split at h
            · next d => exact blk _ _ _ _ d.2.2.1 h
            · exact absurd h (by simp)
          · split at h
            · split at h
              · exact clm _ _ (Or.inl rfl) h
              · exact absurd h (by simp)
            · split at h
              · split at h
                · exact clm _ _ (Or.inr rfl) h
                · exact absurd h (by simp)
              · exact absurd h (by simp)
theorem pAl_oY : ∀ (m : Nat) (n : gN) (i : Nat) (L : gU) (q : gN × Nat × gU), pAl K V m n i L = some q → eY K L q.2.2 := by
  intro m
  induction m with
  | zero => intro n i L q h; exact absurd h (by simp [pAl])
  | succ m ih =>
    intro n i L q h
    rw [pAl] at h
    split at h
    · cases Option.some.inj h; exact eY_rf
    · obtain ⟨z, hz, h2⟩ := Option.bind_eq_some_iff.mp h
      exact eY_tr (pD_oY hz) (ih _ _ _ _ h2)
end EYL
end
section
/-! what is read depends on the tokens up to the last alone -/
def aG (K K' : Nat → Int32) (e : Nat) : Prop := (∀ j, j ≤ e → K j = K' j) ∧ ∀ j, j ≤ e → j < 700 → ¬ K j = 0 → ¬ K j = 3 → j + 1 ≤ e
def cX {α : Type} (e : Nat) (p : α → Nat) (f f' : Option α) : Prop := f = f' ∧ ∀ q, f = some q → p q ≤ e
section CNG
variable {K K' V V' : Nat → Int32} {e : Nat} {α β : Type} {p : α → Nat} {r : β → Nat}
theorem cX_b {f f' : Option α} {g g' : α → Option β} (h : cX e p f f') (k : ∀ q, p q ≤ e → cX e r (g q) (g' q)) : cX e r (f.bind g) (f'.bind g') := by
  obtain ⟨h1, h2⟩ := h
  rw [← h1]
  cases f with
  | none => exact ⟨rfl, fun q hq => by cases hq⟩
  | some q => exact k q (h2 q rfl)
theorem cX_s {q : α} (h : p q ≤ e) : cX e p (some q) (some q) := ⟨rfl, fun z hz => by cases hz; exact h⟩
theorem cX_n : cX e p (none : Option α) none := ⟨rfl, fun q hq => by cases hq⟩
theorem cX_i {c c' : Prop} [Decidable c] [Decidable c'] {f f' g g' : Option α} (hc : c ↔ c') (h1 : c → cX e p f f') (h2 : ¬ c → cX e p g g') : cX e p (if c then f else g) (if c' then f' else g') := by
  by_cases h : c
  · rw [if_pos h, if_pos (hc.mp h)]; exact h1 h
  · rw [if_neg h, if_neg (fun z => h (hc.mpr z))]; exact h2 h
abbrev o1 (q : Nat × gU) : Nat := q.1
abbrev o2 (q : Nat × Nat × gU) : Nat := q.2.1
abbrev o3 (q : gN × Nat × gU) : Nat := q.2.1
theorem aG_k (h : aG K K' e) {j : Nat} (hj : j ≤ e) (w : Int32) : K j = w ↔ K' j = w := by rw [h.1 j hj]
theorem aG_n (h : aG K K' e) {j : Nat} (hj : j ≤ e) (h7 : j < 700) {w : Int32} (k : K j = w) (hw : ¬ w = 0 ∧ ¬ w = 3) : j + 1 ≤ e := h.2 j hj h7 (by rw [k]; exact hw.1) (by rw [k]; exact hw.2)
theorem pt_c (h : aG K K' e) (w : Int32) (hw : ¬ w = 0 ∧ ¬ w = 3) {q : Nat × gU} (hq : q.1 ≤ e) : cX e o1 (pt K w q) (pt K' w q) := by
  unfold pt
  exact cX_i (and_congr (aG_k h hq w) Iff.rfl) (fun c => cX_s (aG_n h hq c.2 c.1 hw)) (fun _ => cX_n)
theorem pan_c {v : Nat × Nat × Nat} {q : Nat × gU} (hq : q.1 ≤ e) : cX e o1 (pan v q) (pan v q) := cX_s hq
abbrev cgo (e : Nat) (f f' : Nat → Nat → gU → gOp) : Prop := ∀ s i L, i ≤ e → cX e o1 (f s i L) (f' s i L)
theorem pst_n {k : Int32} {t : Nat} (h : t < pst k) : ¬ k = 0 ∧ ¬ k = 3 := ⟨fun z => by rw [z] at h; exact absurd h (by show ¬ t < 0; omega), fun z => by rw [z] at h; exact absurd h (by show ¬ t < 0; omega)⟩
theorem pW_c (h : aG K K' e) {rE rE' : Nat → Nat → gU → gOp} (hr : cgo e rE rE') {th : Nat} : ∀ (f j : Nat) (L : gU), j ≤ e → cX e o1 (pW rE K th f j L) (pW rE' K' th f j L) := by
  intro f
  induction f with
  | zero => intro j L _; exact cX_n
  | succ f ih =>
    intro j L hj
    rw [pW, pW, ← h.1 j hj]
    refine cX_i Iff.rfl (fun c => cX_i Iff.rfl (fun c7 => ?_) (fun _ => cX_n)) (fun _ => cX_s hj)
    obtain ⟨n0, n3⟩ := pst_n c
    exact cX_b (hr _ _ _ (h.2 j hj c7 n0 n3)) (fun q hq => ih _ _ hq)
theorem pO_c (h : aG K K' e) {rE rE' : Nat → Nat → gU → gOp} (hr : cgo e rE rE') {o : Bool} {i : Nat} {L : gU} (hi : i ≤ e) : cX e o1 (pO rE K o i L) (pO rE' K' o i L) := by
  unfold pO
  refine cX_i Iff.rfl (fun _ => cX_n) (fun c7 => ?_)
  have c7 : i < 700 := by omega
  refine cX_i (aG_k h hi 2) (fun k => cX_s (aG_n h hi c7 k (by decide))) (fun _ => ?_)
  refine cX_i (aG_k h hi 32) (fun k => cX_s (aG_n h hi c7 k (by decide))) (fun _ => ?_)
  refine cX_i (aG_k h hi 61) (fun k => cX_b (hr _ _ _ (aG_n h hi c7 k (by decide))) (fun q hq => pt_c h 62 (by decide) hq)) (fun _ => ?_)
  refine cX_i (aG_k h hi 1) (fun k => ?_) (fun _ => cX_n)
  have e1 := aG_n h hi c7 k (by decide)
  refine cX_i Iff.rfl (fun _ => ?_) (fun _ => cX_s e1)
  refine cX_i (aG_k h e1 65) (fun k65 => ?_) (fun _ => cX_s e1)
  have key : ∀ {P : Prop}, i + 1 < 700 → ((K (i + 2) = 2 ∧ i + 2 < 700) → P) → (K (i + 2) = 2 ∧ i + 2 < 700) → P := fun _ g k => g k
  have e2 : i + 1 < 700 → i + 2 ≤ e := fun c => aG_n h e1 c k65 (by decide)
  have e3 : i + 1 < 700 → (K (i + 2) = 2 ∧ i + 2 < 700) → i + 3 ≤ e := fun c k2 => aG_n h (e2 c) k2.2 k2.1 (by decide)
  refine cX_i ⟨fun ⟨a, b, c, d⟩ => ⟨a, ⟨(aG_k h (e2 a) 2).mp b.1, b.2⟩, (aG_k h (e3 a b) 66).mp c, d⟩, fun ⟨a, b, c, d⟩ => ?_⟩ (fun ⟨a, b, c, d⟩ => cX_s (aG_n h (e3 a b) d c (by decide))) (fun _ => cX_n)
  have b' : K (i + 2) = 2 ∧ i + 2 < 700 := ⟨(aG_k h (e2 a) 2).mpr b.1, b.2⟩
  exact ⟨a, b', (aG_k h (e3 a b') 66).mpr c, d⟩
theorem pE_c (h : aG K K' e) {o : Bool} : ∀ f : Nat, cgo e (pE K o f) (pE K' o f) := by
  intro f
  induction f with
  | zero => intro s i L _; exact cX_n
  | succ f ih =>
    intro s i L hi
    rw [pE, pE, ← h.1 i hi]
    refine cX_i Iff.rfl (fun c => cX_b (p := o1) ?_ (fun q hq => pW_c h ih _ _ _ hq)) (fun _ => cX_n)
    refine cX_i Iff.rfl (fun k => cX_i Iff.rfl (fun c7 => cX_b (ih _ _ _ ?_) (fun q hq => cX_s hq)) (fun _ => cX_n)) (fun _ => pO_c h ih hi)
    rcases k with k | k
    · exact aG_n h hi c7 k (by decide)
    · exact aG_n h hi c7 k (by decide)
theorem pX_c (h : aG K K' e) {o : Bool} {f i : Nat} {L : gU} (hi : i ≤ e) : cX e o1 (pX K o f i L) (pX K' o f i L) := cX_b (pE_c h f 0 i L hi) (fun q hq => pan_c hq)
theorem pXq_c (h : aG K K' e) {f : Nat} {q : Nat × gU} (hq : q.1 ≤ e) : cX e o1 (pXq K f q) (pXq K' f q) := pX_c h hq
theorem pP_c (h : aG K K' e) {f i : Nat} {L : gU} (hi : i ≤ e) : cX e o1 (pP K f i L) (pP K' f i L) := by
  unfold pP
  refine cX_i (and_congr (aG_k h hi 1) Iff.rfl) (fun c => ?_) (fun _ => cX_n)
  have e1 := aG_n h hi c.2 c.1 (by decide)
  refine cX_i (aG_k h e1 65) (fun k => cX_i Iff.rfl (fun c7 => cX_b (pX_c h (aG_n h e1 c7 k (by decide))) (fun q hq => pt_c h 66 (by decide) hq)) (fun _ => cX_n)) (fun _ => cX_s e1)
theorem pR_c (h : aG K K' e) {f i : Nat} {t : Option Nat} {L : gU} (hi : i ≤ e) : cX e o1 (pR K f t i L) (pR K' f t i L) := by
  by_cases h7 : 700 ≤ i
  · rw [pR_7 h7, pR_7 h7]; exact cX_n
  have c7 : i < 700 := by omega
  unfold pR
  rw [← h.1 i hi]
  refine cX_i Iff.rfl (fun k => cX_i Iff.rfl (fun _ => ?_) (fun _ => cX_n)) (fun _ => ?_)
  · have e1 : i + 1 ≤ e := by
      rcases k with k | k | k
      · exact aG_n h hi c7 k (by decide)
      · exact aG_n h hi c7 k (by decide)
      · exact aG_n h hi c7 k (by decide)
    refine cX_b (cX_b (cX_b (pP_c h e1) (fun q hq => pt_c h 68 (by decide) hq)) (fun q hq => pXq_c h hq)) (fun q hq => cX_b (p := o1) (cX_i Iff.rfl (fun _ => cX_b (pt_c h 68 (by decide) hq) (fun q hq => pXq_c h hq)) (fun _ => cX_s hq)) (fun q hq => pan_c hq))
  · by_cases k1 : K i = 1
    · have e1 := aG_n h hi c7 k1 (by decide)
      rw [← h.1 (i + 1) e1]
      refine cX_i Iff.rfl (fun _ => cX_b (pP_c h hi) (fun q hq => pan_c hq)) (fun _ => cX_i Iff.rfl (fun _ => cX_i Iff.rfl (fun _ => cX_s e1) (fun _ => cX_n)) (fun _ => cX_b (pX_c h hi) (fun q hq => pan_c hq)))
    · rw [if_neg (fun z => k1 z.1), if_neg (fun z => k1 z.1), if_neg (fun z => k1 z.1), if_neg (fun z => k1 z.1)]
      exact cX_b (pX_c h hi) (fun q hq => pan_c hq)
abbrev cgs (e : Nat) (f f' : Nat → Nat → gU → gTs) : Prop := ∀ c i L, i ≤ e → cX e o2 (f c i L) (f' c i L)
theorem pBl_c (h : aG K K' e) {rS rS' : Nat → Nat → gU → gTs} (hr : cgs e rS rS') {z : Nat} : ∀ (n c i : Nat) (L : gU), i ≤ e → cX e o2 (pBl rS K z n c i L) (pBl rS' K' z n c i L) := by
  intro n
  induction n with
  | zero => intro c i L _; exact cX_n
  | succ n ih =>
    intro c i L hi
    rw [pBl, pBl]
    exact cX_i (aG_k h hi 64) (fun k => cX_i Iff.rfl (fun c7 => cX_s (aG_n h hi c7 k (by decide))) (fun _ => cX_n)) (fun _ => cX_b (hr _ _ _ hi) (fun q hq => ih _ _ _ hq))
theorem pBk_c (h : aG K K' e) {rS rS' : Nat → Nat → gU → gTs} (hr : cgs e rS rS') {z c i : Nat} {L : gU} (hi : i ≤ e) : cX e o2 (pBk rS K z c i L) (pBk rS' K' z c i L) := by
  unfold pBk
  exact cX_i (and_congr (aG_k h hi 63) Iff.rfl) (fun k => pBl_c h hr _ _ _ _ (aG_n h hi k.2 k.1 (by decide))) (fun _ => cX_n)
theorem pEl_c (h : aG K K' e) {rS rS' : Nat → Nat → gU → gTs} (hr : cgs e rS rS') {q : Nat × Nat × gU} (hq : q.2.1 ≤ e) : cX e o2 (pEl rS K q) (pEl rS' K' q) := by
  unfold pEl
  refine cX_i (aG_k h hq 18) (fun k => cX_i Iff.rfl (fun c7 => ?_) (fun _ => cX_n)) (fun _ => cX_s hq)
  have e1 := aG_n h hq c7 k (by decide)
  exact cX_i (aG_k h e1 24) (fun _ => hr _ _ _ e1) (fun _ => pBk_c h hr e1)
theorem pup_c {c : Nat} {v : Nat × Nat × Nat} {f f' : gOp} (h : cX e o1 f f') : cX e o2 (pup c v f) (pup c v f') := cX_b h (fun q hq => cX_s hq)
theorem pS1_c (h : aG K K' e) {f c i : Nat} {L : gU} (hi : i ≤ e) (c7 : i < 700) : cX e o2 (pS1 K f c i L) (pS1 K' f c i L) := by
  unfold pS1
  refine cX_i (aG_k h hi 26) (fun k => ?_) (fun _ => cX_i (aG_k h hi 1) (fun k => ?_) (fun _ => ?_))
  · have e1 := aG_n h hi c7 k (by decide)
    have e2 : (K (i + 1) = 1 ∧ i + 1 < 700) → i + 2 ≤ e := fun z => aG_n h e1 z.2 z.1 (by decide)
    refine cX_i ⟨fun ⟨a, b, d⟩ => ⟨⟨(aG_k h e1 1).mp a.1, a.2⟩, b, (aG_k h (e2 a) 50).mp d.1, d.2⟩, fun ⟨a, b, d⟩ => ?_⟩ (fun ⟨a, b, d⟩ => pup_c (cX_b (pR_c h (aG_n h (e2 a) d.2 d.1 (by decide))) (fun q hq => pt_c h 67 (by decide) hq))) (fun _ => cX_n)
    have a' : K (i + 1) = 1 ∧ i + 1 < 700 := ⟨(aG_k h e1 1).mpr a.1, a.2⟩
    exact ⟨a', b, (aG_k h (e2 a') 50).mpr d.1, d.2⟩
  · have e1 := aG_n h hi c7 k (by decide)
    refine cX_i (aG_k h e1 65) (fun k65 => cX_i Iff.rfl (fun c8 => pup_c ?_) (fun _ => cX_n)) (fun _ => cX_i (and_congr (aG_k h e1 50) Iff.rfl) (fun k50 => pup_c (cX_b (pR_c h (aG_n h e1 k50.2 k50.1 (by decide))) (fun q hq => pt_c h 67 (by decide) hq))) (fun _ => cX_n))
    exact cX_b (cX_b (cX_b (cX_b (pX_c h (aG_n h e1 c8 k65 (by decide))) (fun q hq => pt_c h 66 (by decide) hq)) (fun q hq => pt_c h 50 (by decide) hq)) (fun q hq => pXq_c h hq)) (fun q hq => pt_c h 67 (by decide) hq)
  · have up : ∀ {w : Int32}, K i = w → (¬ w = 0 ∧ ¬ w = 3) → i + 1 ≤ e := fun k hw => aG_n h hi c7 k hw
    rw [← h.1 i hi]
    refine cX_i Iff.rfl (fun k => pup_c (pt_c h 67 (by decide) ?_)) (fun _ => cX_i Iff.rfl (fun k => pup_c (cX_b (pX_c h ?_) (fun q hq => pt_c h 67 (by decide) hq))) (fun _ => cX_i Iff.rfl (fun k => ?_) (fun _ => cX_i Iff.rfl (fun k => ?_) (fun _ => cX_i Iff.rfl (fun k => ?_) (fun _ => cX_n)))))
    · rcases k with k | k | k <;> exact up k (by decide)
    · rcases k with k | k <;> exact up k (by decide)
    · have e1 := up k (by decide)
      have e2 : (K (i + 1) = 2 ∧ i + 1 < 700) → i + 2 ≤ e := fun z => aG_n h e1 z.2 z.1 (by decide)
      refine cX_i ⟨fun ⟨a, d⟩ => ⟨⟨(aG_k h e1 2).mp a.1, a.2⟩, (aG_k h (e2 a) 68).mp d.1, d.2⟩, fun ⟨a, d⟩ => ?_⟩ (fun ⟨a, d⟩ => pup_c (cX_b (pX_c h (aG_n h (e2 a) d.2 d.1 (by decide))) (fun q hq => pt_c h 67 (by decide) hq))) (fun _ => cX_n)
      have a' : K (i + 1) = 2 ∧ i + 1 < 700 := ⟨(aG_k h e1 2).mpr a.1, a.2⟩
      exact ⟨a', (aG_k h (e2 a') 68).mpr d.1, d.2⟩
    · have e1 : i + 1 ≤ e := by rcases k with k | k | k | k | k <;> exact up k (by decide)
      exact cX_i (and_congr (aG_k h e1 1) Iff.rfl) (fun a => pup_c (pt_c h 67 (by decide) (aG_n h e1 a.2 a.1 (by decide)))) (fun _ => cX_n)
    · have e1 : i + 1 ≤ e := by rcases k with k | k <;> exact up k (by decide)
      exact cX_i (and_congr (aG_k h e1 1) Iff.rfl) (fun a => pup_c (pt_c h 67 (by decide) (aG_n h e1 a.2 a.1 (by decide)))) (fun _ => cX_n)
theorem pS_c (h : aG K K' e) : ∀ f : Nat, cgs e (pS K f) (pS K' f) := by
  intro f
  induction f with
  | zero => intro c i L _; exact cX_n
  | succ f ih =>
    intro c i L hi
    rw [pS, pS]
    refine cX_i Iff.rfl (fun _ => cX_n) (fun c7 => ?_)
    have c7 : i < 700 := by omega
    refine cX_i (aG_k h hi 24) (fun k => ?_) (fun _ => cX_i (aG_k h hi 41) (fun k => ?_) (fun _ => cX_i (aG_k h hi 27) (fun k => ?_) (fun _ => pS1_c h hi c7)))
    · exact cX_b (pX_c h (aG_n h hi c7 k (by decide))) (fun q hq => cX_b (p := o2) (cX_b (pBk_c h ih hq) (fun q hq => pEl_c h ih hq)) (fun q hq => cX_s hq))
    · exact cX_b (pX_c h (aG_n h hi c7 k (by decide))) (fun q hq => pBk_c h ih hq)
    · have e1 := aG_n h hi c7 k (by decide)
      exact cX_i (and_congr (aG_k h e1 1) Iff.rfl) (fun a => pBk_c h ih (aG_n h e1 a.2 a.1 (by decide))) (fun _ => cX_n)
theorem pCv_c (h : aG K K' e) {q : Nat × gU} (hq : q.1 ≤ e) : cX e o1 (pCv K q) (pCv K' q) := by
  unfold pCv
  refine cX_i (aG_k h hq 50) (fun k => cX_i Iff.rfl (fun c7 => ?_) (fun _ => cX_n)) (fun _ => cX_s hq)
  have e1 := aG_n h hq c7 k (by decide)
  refine cX_i (aG_k h e1 58) (fun k58 => ?_) (fun _ => cX_i (and_congr (aG_k h e1 2) Iff.rfl) (fun k2 => cX_s (aG_n h e1 k2.2 k2.1 (by decide))) (fun _ => cX_n))
  have e2 : q.1 + 1 < 700 → q.1 + 2 ≤ e := fun z => aG_n h e1 z k58 (by decide)
  exact cX_i ⟨fun ⟨a, b, d⟩ => ⟨a, (aG_k h (e2 a) 2).mp b, d⟩, fun ⟨a, b, d⟩ => ⟨a, (aG_k h (e2 a) 2).mpr b, d⟩⟩ (fun ⟨a, b, d⟩ => cX_s (aG_n h (e2 a) d b (by decide))) (fun _ => cX_n)
theorem prz_c (h : aG K K' e) (hV : ∀ j, j ≤ e → K j = 2 → V j = V' j) {w : Nat} (hw : w ≤ e) : prz K V w = prz K' V' w := by
  unfold prz
  by_cases k : K w = 2
  · rw [h.1 w hw] at k
    rw [← hV w hw (by rw [h.1 w hw]; exact k), h.1 w hw]
  · rw [if_neg (fun z => k z.1), if_neg (fun z => k (by rw [h.1 w hw]; exact z.1))]
theorem pCl_c (h : aG K K' e) (hV : ∀ j, j ≤ e → K j = 2 → V j = V' j) {n i t : Nat} {L : gU} (ht : t - 1 ≤ e) (ht1 : 1 ≤ t) : cX e o2 (pCl K V n i t L) (pCl K' V' n i t L) := by
  have et : (K (t - 1) = 17 ∧ t - 1 < 700) → t ≤ e := fun z => by
    have := aG_n h ht z.2 z.1 (by decide)
    omega
  have e1 : (K (t - 1) = 17 ∧ t - 1 < 700) → (K t = 1 ∧ t < 700) → t + 1 ≤ e := fun a b => aG_n h (et a) b.2 b.1 (by decide)
  unfold pCl
  refine cX_i ⟨fun ⟨a, b, c⟩ => ⟨⟨(aG_k h ht 17).mp a.1, a.2⟩, ⟨(aG_k h (et a) 1).mp b.1, b.2⟩, c⟩, fun ⟨a, b, c⟩ => ?_⟩ (fun ⟨a, b, c⟩ => ?_) (fun _ => cX_n)
  · have a' : K (t - 1) = 17 ∧ t - 1 < 700 := ⟨(aG_k h ht 17).mpr a.1, a.2⟩
    exact ⟨a', ⟨(aG_k h (et a') 1).mpr b.1, b.2⟩, c⟩
  have e1 := e1 a b
  refine cX_i (aG_k h e1 65) (fun k65 => ?_) (fun _ => cX_b (cX_b (pCv_c h e1) (fun q hq => pt_c h 67 (by decide) hq)) (fun q hq => cX_s hq))
  by_cases c7 : t + 1 < 700
  · have e2 := aG_n h e1 c7 k65 (by decide)
    have ep := prz_c h hV e2
    have e3 : (K (t + 2) = 2 ∧ t + 2 < 700) → t + 3 ≤ e := fun z => aG_n h e2 z.2 z.1 (by decide)
    rw [← ep]
    refine cX_i ⟨fun ⟨a, b, c, d⟩ => ⟨a, b, ⟨(aG_k h e2 2).mp c.1, c.2⟩, (aG_k h (e3 c) 66).mp d.1, d.2⟩, fun ⟨a, b, c, d⟩ => ?_⟩ (fun ⟨a, b, c, d⟩ => cX_b (cX_b (pCv_c h (aG_n h (e3 c) d.2 d.1 (by decide))) (fun q hq => pt_c h 67 (by decide) hq)) (fun q hq => cX_s hq)) (fun _ => cX_n)
    have c' : K (t + 2) = 2 ∧ t + 2 < 700 := ⟨(aG_k h e2 2).mpr c.1, c.2⟩
    exact ⟨a, b, c', (aG_k h (e3 c') 66).mpr d.1, d.2⟩
  · rw [if_neg (fun z => c7 z.1), if_neg (fun z => c7 z.1)]
    exact cX_n
theorem pD_c (h : aG K K' e) (hV : ∀ j, j ≤ e → K j = 2 → V j = V' j) {n : gN} {i : Nat} {L : gU} (hi : i ≤ e) : cX e o3 (pD K V n i L) (pD K' V' n i L) := by
  have up : ∀ {w : Int32}, K i = w → (¬ w = 0 ∧ ¬ w = 3) → i < 700 → i + 1 ≤ e := fun k hw c7 => aG_n h hi c7 k hw
  unfold pD
  refine cX_i (aG_k h hi 34) (fun k => cX_i Iff.rfl (fun c7 => ?_) (fun _ => cX_n)) (fun _ => cX_i (aG_k h hi 17) (fun k => ?_) (fun _ => cX_i (aG_k h hi 27) (fun k => ?_) (fun _ => cX_i (aG_k h hi 23) (fun k => ?_) (fun _ => cX_i (aG_k h hi 37) (fun k => ?_) (fun _ => cX_i (aG_k h hi 11) (fun k => ?_) (fun _ => cX_i (aG_k h hi 21) (fun k => ?_) (fun _ => cX_n)))))))
  · exact cX_b (pCl_c h hV (by have := up k (by decide) c7; omega) (by omega)) (fun q hq => cX_s hq)
  · exact cX_b (pCl_c h hV (by omega) (by omega)) (fun q hq => cX_s hq)
  · have e1 : i < 700 → i + 1 ≤ e := up k (by decide)
    have e2 : i < 700 → (K (i + 1) = 1 ∧ i + 1 < 700) → i + 2 ≤ e := fun a b => aG_n h (e1 a) b.2 b.1 (by decide)
    refine cX_i ⟨fun ⟨m, a, b, d⟩ => ⟨m, a, ⟨(aG_k h (e1 a) 1).mp b.1, b.2⟩, (aG_k h (e2 a b) 67).mp d.1, d.2⟩, fun ⟨m, a, b, d⟩ => ?_⟩ (fun ⟨m, a, b, d⟩ => cX_s (aG_n h (e2 a b) d.2 d.1 (by decide))) (fun _ => cX_n)
    have b' : K (i + 1) = 1 ∧ i + 1 < 700 := ⟨(aG_k h (e1 a) 1).mpr b.1, b.2⟩
    exact ⟨m, a, b', (aG_k h (e2 a b') 67).mpr d.1, d.2⟩
  · have e1 : i < 700 → i + 1 ≤ e := up k (by decide)
    have e2 : i < 700 → (K (i + 1) = 37 ∧ i + 1 < 700) → i + 2 ≤ e := fun a b => aG_n h (e1 a) b.2 b.1 (by decide)
    refine cX_i ⟨fun ⟨m, a, b, d⟩ => ⟨m, a, ⟨(aG_k h (e1 a) 37).mp b.1, b.2⟩, (aG_k h (e2 a b) 1).mp d.1, d.2⟩, fun ⟨m, a, b, d⟩ => ?_⟩ (fun ⟨m, a, b, d⟩ => cX_b (pBk_c h (pS_c h 16) (aG_n h (e2 a b) d.2 d.1 (by decide))) (fun q hq => cX_s hq)) (fun _ => cX_n)
    have b' : K (i + 1) = 37 ∧ i + 1 < 700 := ⟨(aG_k h (e1 a) 37).mpr b.1, b.2⟩
    exact ⟨m, a, b', (aG_k h (e2 a b') 1).mpr d.1, d.2⟩
  · have e1 : i < 700 → i + 1 ≤ e := up k (by decide)
    refine cX_i ⟨fun ⟨m, a, d⟩ => ⟨m, a, (aG_k h (e1 a) 1).mp d.1, d.2⟩, fun ⟨m, a, d⟩ => ⟨m, a, (aG_k h (e1 a) 1).mpr d.1, d.2⟩⟩ (fun ⟨m, a, d⟩ => cX_b (pBk_c h (pS_c h 16) (aG_n h (e1 a) d.2 d.1 (by decide))) (fun q hq => cX_s hq)) (fun _ => cX_n)
  · exact cX_i Iff.rfl (fun c => cX_b (cX_b (pX_c h (up k (by decide) c.2)) (fun q hq => pt_c h 67 (by decide) hq)) (fun q hq => cX_s hq)) (fun _ => cX_n)
  · exact cX_i Iff.rfl (fun c => cX_b (cX_b (pX_c h (up k (by decide) c.2)) (fun q hq => pt_c h 67 (by decide) hq)) (fun q hq => cX_s hq)) (fun _ => cX_n)
theorem pAl_c (h : aG K K' e) (hV : ∀ j, j ≤ e → K j = 2 → V j = V' j) : ∀ (m : Nat) (n : gN) (i : Nat) (L : gU), i ≤ e → cX e o3 (pAl K V m n i L) (pAl K' V' m n i L) := by
  intro m
  induction m with
  | zero => intro n i L _; exact cX_n
  | succ m ih =>
    intro n i L hi
    rw [pAl, pAl]
    exact cX_i (aG_k h hi 0) (fun _ => cX_s hi) (fun _ => cX_b (pD_c h hV hi) (fun q hq => ih _ _ _ hq))
end CNG
/-! and so whether there is a fault -/
theorem fM_c {α β : Type} {f g : α → Option β} : ∀ {l : List α}, (∀ a ∈ l, f a = g a) → l.filterMap f = l.filterMap g := by
  intro l
  induction l with
  | nil => intro _; rfl
  | cons a l ih =>
    intro h
    rw [List.filterMap_cons, List.filterMap_cons, h a List.mem_cons_self, ih (fun z hz => h z (List.mem_cons_of_mem _ hz))]
section CNJ
variable {K K' V V' : Nat → Int32} {sN sN' : Nat → Nat → Bool} {e : Nat}
/-- a name that both know -/
def gdN (K' : Nat → Int32) (t : Nat) : Prop := K' t = 1
theorem kfi_c (hs : ∀ a b, gdN K' a → gdN K' b → sN a b = sN' a b) {t : Nat} (ht : gdN K' t) : ∀ {l : gK}, (∀ k ∈ l, gdN K' k.1) → kfi sN l t = kfi sN' l t := by
  intro l
  induction l with
  | nil => intro _; rfl
  | cons k l ih =>
    intro hl
    show (if sN k.1 t = true then some l.length else kfi sN l t) = (if sN' k.1 t = true then some l.length else kfi sN' l t)
    rw [hs _ _ (hl k List.mem_cons_self) ht, ih (fun z hz => hl z (List.mem_cons_of_mem _ hz))]
theorem mtP_c (hs : ∀ a b, gdN K' a → gdN K' b → sN a b = sN' a b) {t w : Nat} (ht : gdN K' t) : ∀ {T : gTd}, (∀ q ∈ T, gdN K' q.1) → mtP sN T w t = mtP sN' T w t := by
  intro T
  unfold mtP
  induction T with
  | nil => intro _; rfl
  | cons q T ih =>
    intro hT
    rw [List.find?_cons, List.find?_cons, hs _ _ (hT q List.mem_cons_self) ht, ih (fun z hz => hT z (List.mem_cons_of_mem _ hz))]
theorem plc_c (hs : ∀ a b, gdN K' a → gdN K' b → sN a b = sN' a b) {T : gTd} (hT : ∀ q ∈ T, gdN K' q.1) {t : Nat} (ht : gdN K' t) : plc sN T t ↔ plc sN' T t := by unfold plc; rw [mtP_c hs ht hT]
theorem rwc_c (hs : ∀ a b, gdN K' a → gdN K' b → sN a b = sN' a b) {T : gTd} (hT : ∀ q ∈ T, gdN K' q.1) {t n : Nat} (ht : gdN K' t) : rwc sN T t n ↔ rwc sN' T t n := by unfold rwc; rw [mtP_c hs ht hT]
theorem fv_c (hs : ∀ a b, gdN K' a → gdN K' b → sN a b = sN' a b) (hV : ∀ j, K' j = 2 → V j = V' j) {T : gTd} (hT : ∀ q ∈ T, gdN K' q.1) {E : gV} (hE : ∀ k ∈ E.1, gdN K' k.1) {v : Nat × Nat × Nat} (hv : oZ K' v) : fv sN T V E v ↔ fv sN' T V' E v := by
  obtain ⟨o1, o2, o3, o4, o5⟩ := hv
  have k1 : v.1 ∈ [3, 6, 7, 22, 23, 24, 25, 26, 31, 32, 33, 34] → kfi sN E.1 v.2.1 = kfi sN' E.1 v.2.1 := fun z => kfi_c hs (o1 z) hE
  have p1 : v.1 ∈ [3, 6, 7, 22, 23, 24, 25, 26, 31, 32, 33, 34] → (plc sN T v.2.1 ↔ plc sN' T v.2.1) := fun z => plc_c hs hT (o1 z)
  unfold fv
  refine or_congr (and_congr_right (fun c => ?_)) (or_congr (and_congr_right (fun c => ?_)) (or_congr (and_congr_right (fun c => ?_)) (or_congr (and_congr_right (fun c => ?_)) (or_congr (and_congr_right (fun c => ?_)) (or_congr (and_congr_right (fun c => ?_)) (or_congr (and_congr_right (fun c => ?_)) (or_congr (and_congr_right (fun c => ?_)) (or_congr (and_congr_right (fun c => ?_)) (or_congr (and_congr_right (fun c => ?_)) (or_congr (and_congr_right (fun c => ?_)) (or_congr (and_congr_right (fun c => ?_)) (and_congr_right (fun c => ?_)))))))))))))
  · rw [k1 (by rw [c]; decide)]
  · rw [p1 (by rw [c]; decide)]
  · exact not_congr (exists_congr (fun n => rwc_c hs hT (o1 (by rw [c]; decide))))
  · obtain ⟨z1, z2⟩ := o4 c
    exact exists_congr (fun n => by rw [rwc_c hs hT z2, hV _ z1])
  · have z := o1 (by rw [c]; decide)
    exact ⟨fun ⟨k, hk, h⟩ => ⟨k, hk, by rw [← hs _ _ (hE k (List.mem_of_mem_take hk)) z]; exact h⟩, fun ⟨k, hk, h⟩ => ⟨k, hk, by rw [hs _ _ (hE k (List.mem_of_mem_take hk)) z]; exact h⟩⟩
  · rw [k1 (by rw [c]; decide), p1 (by rw [c]; decide)]
  · rw [k1 (by rw [c]; decide), p1 (by rw [c]; decide)]
  · rw [k1 (by rw [c]; decide)]
  · obtain ⟨z1, z2⟩ := o2 c
    rw [kfi_c hs z1 hE, kfi_c hs z2 hE, plc_c hs hT z2]
  · obtain ⟨z1, z2⟩ := o2 c
    rw [kfi_c hs z1 hE, plc_c hs hT z1]
  · have z := o3 (by rcases c with c | c <;> rw [c] <;> decide)
    rw [mtP_c hs z hT]
  · have z := o3 (by rw [c]; decide)
    rw [mtP_c hs z hT]
  · have z := o5 (by rw [c]; decide)
    rw [hV _ z]
theorem exV_g {E : gV} (hE : ∀ k ∈ E.1, gdN K' k.1) {v : Nat × Nat × Nat} (hv : v.1 = 22 → K' v.2.1 = 1) : ∀ k ∈ (exV E v).1, gdN K' k.1 := by
  unfold exV
  split
  · exact hE
  · split
    · intro k hk
      exact hE k (List.mem_of_mem_drop hk)
    · split
      · next c =>
        intro k hk
        rcases List.mem_cons.mp hk with z | z
        · rw [z]; exact hv c
        · exact hE k z
      · exact hE
theorem flt_c (hs : ∀ a b, gdN K' a → gdN K' b → sN a b = sN' a b) (hV : ∀ j, K' j = 2 → V j = V' j) {T : gTd} (hT : ∀ q ∈ T, gdN K' q.1) : ∀ {L : gU} {E : gV}, (∀ v ∈ L, oZ K' v) → (∀ k ∈ E.1, gdN K' k.1) → (flt sN T V L E ↔ flt sN' T V' L E) := by
  intro L
  induction L with
  | nil => intro E _ _; exact Iff.rfl
  | cons v L ih =>
    intro E hL hE
    have hv := hL v List.mem_cons_self
    exact or_congr (fv_c hs hV hT hE hv) (ih (fun w hw => hL w (List.mem_cons_of_mem _ hw)) (exV_g hE (fun c => hv.1 (by rw [c]; decide))))
theorem jT_c (hs : ∀ a b, gdN K' a → gdN K' b → sN a b = sN' a b) (hV : ∀ j, K' j = 2 → V j = V' j) {T : gTd} (hT : ∀ q ∈ T, gdN K' q.1) (hT2 : ∀ q ∈ T, 0 < q.2.2.1 → K' q.2.2.2 = 2) : jT sN V T ↔ jT sN' V' T := by
  unfold jT
  refine exists_congr (fun j => exists_congr (fun q => and_congr_right (fun hq => ?_)))
  have hm := List.mem_of_getElem? hq
  unfold tw
  refine or_congr (exists_congr (fun j' => exists_congr (fun q' => and_congr_right (fun _ => and_congr_right (fun hq' => ?_))))) (and_congr_right (fun c => ?_))
  · rw [hs _ _ (hT q' (List.mem_of_getElem? hq')) (hT q hm)]
  · rw [hV _ (hT2 q hm c)]
theorem jFl_c (h : ∀ j, K' j = 1 ∨ K' j = 2 → K j = K' j) (hs : ∀ a b, gdN K' a → gdN K' b → sN a b = sN' a b) (hV : ∀ j, K' j = 2 → V j = V' j) {L : gU} (hL : ∀ v ∈ L, oZ K' v) : jFl sN K V L ↔ jFl sN' K' V' L := by
  have eT : L.filterMap (te1 K V) = L.filterMap (te1 K' V') := by
    refine fM_c (fun v hv => ?_)
    unfold te1
    by_cases c : v.1 = 32
    · have z := (hL v hv).2.2.2.2 (by rw [c]; decide)
      have ep : prz K V v.2.2 = prz K' V' v.2.2 := by
        unfold prz
        rw [h _ (Or.inr z), hV _ z]
      rw [ep]
    · rw [if_neg c, if_neg c]
  have hT : ∀ q ∈ L.filterMap (te1 K' V'), gdN K' q.1 ∧ (0 < q.2.2.1 → K' q.2.2.2 = 2) := fun q hq => by
    obtain ⟨v, hv, ev⟩ := te_mem hq
    obtain ⟨g1, g2, g3⟩ := te_is ev
    refine ⟨?_, fun c => ?_⟩
    · show K' q.1 = 1
      rw [g2]
      exact (hL v hv).1 (by rcases g1 with g | g | g | g <;> rw [g] <;> decide)
    · obtain ⟨z1, z2⟩ := g3 c
      rw [z2]
      exact (hL v hv).2.2.2.2 (by rw [z1]; decide)
  unfold jFl
  rw [eT]
  exact or_congr (jT_c hs hV (fun q hq => (hT q hq).1) (fun q hq => (hT q hq).2)) (flt_c hs hV (fun q hq => (hT q hq).1) hL (fun k hk => by cases hk))
end CNJ
end
section
/-! the code in numbers depends on the text's tokens alone -/
section CDC
variable {K K' V V' : Nat → Int32} {sN sN' : Nat → Nat → Bool} {L N : gU} {c : gCd} {v : Nat × Nat × Nat} {E : gV} {tk i w t : Nat} {tg : Option Nat} {T : gTd} {S : List gSt}
theorem ite_c {α : Type} {p : Prop} [Decidable p] {a a' b b' : α} (h1 : p → a = a') (h2 : ¬ p → b = b') : (if p then a else b) = (if p then a' else b') := by
  by_cases h : p
  · rw [if_pos h, if_pos h, h1 h]
  · rw [if_neg h, if_neg h, h2 h]
theorem ite_q {α : Type} {P : α → Prop} {p : Prop} [Decidable p] {a b : α} (h1 : p → P a) (h2 : ¬ p → P b) : P (if p then a else b) := by
  by_cases h : p
  · rw [if_pos h]; exact h1 h
  · rw [if_neg h]; exact h2 h
theorem toL_c (hs : ∀ a b, gdN K' a → gdN K' b → sN a b = sN' a b) (ht : ∀ a, tg = some a → gdN K' a) {ks : gK} (hk : ∀ k ∈ ks, gdN K' k.1) : toL sN ks tg = toL sN' ks tg := by
  cases tg with
  | none => rfl
  | some a => exact kfi_c hs (ht a rfl) hk
theorem cSe_cg (e : toL sN c.1.1 tg = toL sN' c.1.1 tg) : cSe sN c tg tk N = cSe sN' c tg tk N := by
  unfold cSe
  rw [e]
theorem cAl_c (e : toL sN c.1.1 tg = toL sN' c.1.1 tg) (k : kfi sN c.1.1 i = kfi sN' c.1.1 i) : cAl sN c tg tk i = cAl sN' c tg tk i := by
  unfold cAl
  rw [k]
  cases kfi sN' c.1.1 i with
  | some p => exact cSe_cg e
  | none => exact congrArg (fun o => cEm c (0, tk, knw c.1, o, some i, false, none, none, none)) e
theorem cXc_c (e : toL sN c.1.1 c.2.2.2.1.2.2.2.2.1 = toL sN' c.1.1 c.2.2.2.1.2.2.2.2.1) (hK : K i = K' i) : cXc sN K c i = cXc sN' K' c i := by
  unfold cXc
  rw [e, hK]
theorem cdV_c (hs : ∀ a b, gdN K' a → gdN K' b → sN a b = sN' a b) (hK : ∀ j, ¬ K' j = 0 → K j = K' j) (hz : oZ K' v) (hy : oY K' v) (hE : ∀ k ∈ c.1.1, gdN K' k.1) (ht : ∀ a, c.2.2.2.1.2.2.2.2.1 = some a → gdN K' a) : cdV sN K c v = cdV sN' K' c v := by
  have e := toL_c hs ht hE
  unfold cdV
  refine ite_c (fun _ => rfl) (fun _ => ite_c (fun _ => rfl) (fun _ => ite_c (fun _ => rfl) (fun _ => ite_c (fun _ => rfl) (fun _ => ite_c (fun _ => rfl) (fun _ => ite_c (fun _ => rfl) (fun _ => ite_c (fun _ => rfl) (fun _ => ite_c (fun _ => rfl) (fun _ => ?_))))))))
  refine ite_c (fun h => cAl_c e (kfi_c hs (hz.1 (by rw [h]; decide)) hE)) (fun _ => ?_)
  refine ite_c (fun h => cAl_c (toL_c hs (fun a z => by cases Option.some.inj z; exact (hz.2.1 h).1) hE) (kfi_c hs (hz.2.1 h).2 hE)) (fun _ => ?_)
  refine ite_c (fun _ => cSe_cg e) (fun _ => ?_)
  refine ite_c (fun _ => by rw [e]) (fun _ => ?_)
  refine ite_c (fun h => cXc_c e (hK _ (hy.1 (by rw [h]; decide)))) (fun _ => ?_)
  refine ite_c (fun _ => rfl) (fun _ => ite_c (fun _ => rfl) (fun _ => ite_c (fun _ => rfl) (fun _ => ite_c (fun _ => rfl) (fun _ => ite_c (fun _ => rfl) (fun _ => ?_)))))
  refine ite_c (fun h => by rw [hK _ (hy.1 (by rcases h with h | h <;> rw [h] <;> decide))]) (fun _ => ?_)
  refine ite_c (fun h => by rw [hK _ (hy.1 (by rw [h]; decide))]) (fun _ => ?_)
  refine ite_c (fun h => by rw [hK _ (hy.1 (by rw [h]; decide))]) (fun _ => ?_)
  rfl
/-- names kept in the code so far -/
def gI (K' : Nat → Int32) (c : gCd) : Prop := (∀ k ∈ c.1.1, gdN K' k.1) ∧ (∀ a, c.2.2.2.1.2.2.2.2.1 = some a → gdN K' a) ∧ ∀ st ∈ c.2.1, ∀ k ∈ st.2.2.1.1, gdN K' k.1
theorem gS_add {st : gSt} (h : ∀ st ∈ S, ∀ k ∈ st.2.2.1.1, gdN K' k.1) (g : ∀ k ∈ st.2.2.1.1, gdN K' k.1) : ∀ s ∈ S ++ [st], ∀ k ∈ s.2.2.1.1, gdN K' k.1 := fun s hs => (List.mem_append.mp hs).elim (h s) (fun hs => by rw [List.mem_singleton.mp hs]; exact g)
theorem gS_to {j n : Nat} (h : ∀ st ∈ S, ∀ k ∈ st.2.2.1.1, gdN K' k.1) : ∀ s ∈ cTo S j n, ∀ k ∈ s.2.2.1.1, gdN K' k.1 := fun s hs => by
  unfold cTo at hs
  obtain ⟨i, hi, e⟩ := List.mem_mapIdx.mp hs
  rw [← e]
  have g := h _ (List.getElem_mem hi)
  refine ite_q (P := fun s : gSt => ∀ k ∈ s.2.2.1.1, gdN K' k.1) (fun _ => g) (fun _ => g)
theorem gI_em {st : gSt} (h : gI K' c) (g : ∀ k ∈ st.2.2.1.1, gdN K' k.1) : gI K' (cEm c st) := ⟨h.1, fun a z => (by cases z), gS_add h.2.2 g⟩
theorem gI_pu {st : gSt} (h : gI K' c) (g : ∀ k ∈ st.2.2.1.1, gdN K' k.1) : gI K' (cPu c st) := ⟨h.1, fun a z => (by cases z), gS_add h.2.2 g⟩
theorem gI_se (h : gI K' c) : gI K' (cSe sN c tg tk N) := by
  unfold cSe
  cases toL sN c.1.1 tg with
  | some p => exact gI_em h h.1
  | none => exact gI_em h h.1
theorem gI_al (h : gI K' c) : gI K' (cAl sN c tg tk i) := by
  unfold cAl
  cases kfi sN c.1.1 i with
  | some p => exact gI_se h
  | none => exact gI_em h h.1
theorem gI_xc (h : gI K' c) : gI K' (cXc sN K c i) := by
  unfold cXc
  exact ite_q (P := gI K') (fun _ => gI_em h h.1) (fun _ => gI_em h h.1)
theorem gI_cl {z : Nat} (h : gI K' c) : gI K' (cCl c z) := by
  unfold cCl
  refine ite_q (P := gI K') (fun _ => ⟨h.1, h.2.1, gS_add h.2.2 h.1⟩) (fun _ => ite_q (P := gI K') (fun _ => ⟨h.1, h.2.1, gS_to (gS_add h.2.2 h.1)⟩) (fun _ => ite_q (P := gI K') (fun _ => ⟨h.1, h.2.1, gS_add h.2.2 h.1⟩) (fun _ => h)))
theorem cdV_I (hz : oZ K' v) (h : gI K' c) : gI K' (cdV sN K c v) := by
  have hx : gI K' (exV c.1 v, c.2) := ⟨exV_g h.1 (fun e => hz.1 (by rw [e]; decide)), h.2⟩
  unfold cdV
  refine ite_q (P := gI K') (fun _ => h) (fun _ => ite_q (P := gI K') (fun _ => ite_q (P := gI K') (fun _ => h) (fun _ => h)) (fun _ => ite_q (P := gI K') (fun _ => ite_q (P := gI K') (fun _ => h) (fun _ => h)) (fun _ => ?_)))
  refine ite_q (P := gI K') (fun _ => hx) (fun _ => ite_q (P := gI K') (fun _ => gI_cl hx) (fun _ => ite_q (P := gI K') (fun _ => hx) (fun _ => ?_)))
  refine ite_q (P := gI K') (fun _ => ⟨h.1, fun a z => (by cases z), h.2.2⟩) (fun _ => ?_)
  refine ite_q (P := gI K') (fun e => ⟨h.1, fun a z => by cases Option.some.inj z; exact hz.1 (by rcases e with e | e <;> rw [e] <;> decide), h.2.2⟩) (fun _ => ?_)
  refine ite_q (P := gI K') (fun _ => gI_al h) (fun _ => ite_q (P := gI K') (fun _ => gI_al h) (fun _ => ite_q (P := gI K') (fun _ => gI_se h) (fun _ => ?_)))
  refine ite_q (P := gI K') (fun _ => gI_em h h.1) (fun _ => ite_q (P := gI K') (fun _ => gI_xc h) (fun _ => ite_q (P := gI K') (fun _ => gI_em h h.1) (fun _ => ?_)))
  refine ite_q (P := gI K') (fun _ => gI_pu h h.1) (fun _ => ite_q (P := gI K') (fun _ => gI_pu h h.1) (fun _ => ?_))
  refine ite_q (P := gI K') (fun _ => ⟨h.1, h.2.1, gS_to (gS_add h.2.2 h.1)⟩) (fun _ => ite_q (P := gI K') (fun _ => ⟨h.1, h.2.1, gS_to h.2.2⟩) (fun _ => ?_))
  refine ite_q (P := gI K') (fun _ => gI_em h h.1) (fun _ => ite_q (P := gI K') (fun _ => gI_em h h.1) (fun _ => ite_q (P := gI K') (fun _ => gI_em h h.1) (fun _ => ite_q (P := gI K') (fun _ => gI_em h h.1) (fun _ => ?_))))
  refine ite_q (P := gI K') (fun _ => ⟨fun k hk => (by cases hk), fun a z => (by cases z), h.2.2⟩) (fun _ => ite_q (P := gI K') (fun _ => h) (fun _ => h))
theorem cds_c (hs : ∀ a b, gdN K' a → gdN K' b → sN a b = sN' a b) (hK : ∀ j, ¬ K' j = 0 → K j = K' j) : ∀ {L : gU} {c : gCd}, (∀ v ∈ L, oZ K' v ∧ oY K' v) → gI K' c → cds sN K L c = cds sN' K' L c ∧ gI K' (cds sN' K' L c) := by
  intro L
  induction L with
  | nil => intro c _ h; exact ⟨rfl, h⟩
  | cons v L ih =>
    intro c hL h
    obtain ⟨hz, hy⟩ := hL v List.mem_cons_self
    rw [cds_cons, cds_cons, cdV_c hs hK hz hy h.1 h.2.1]
    exact ih (fun u hu => hL u (List.mem_cons_of_mem _ hu)) (cdV_I hz h)
theorem nmT_c (hs : ∀ a b, gdN K' a → gdN K' b → sN a b = sN' a b) (ht : gdN K' t) : ∀ {T : gTd}, (∀ q ∈ T, gdN K' q.1) → nmT sN w t T = nmT sN' w t T := by
  intro T
  induction T with
  | nil => intro _; rfl
  | cons q T ih =>
    intro hT
    rw [nmT, nmT, hs _ _ (hT q List.mem_cons_self) ht, ih (fun z hz => hT z (List.mem_cons_of_mem _ hz))]
theorem nQs_c (hs : ∀ a b, gdN K' a → gdN K' b → sN a b = sN' a b) (hK : ∀ j, ¬ K' j = 0 → K j = K' j) (hV : ∀ j, K' j = 2 → V j = V' j) (hT : ∀ q ∈ T, gdN K' q.1) {ks : gK} (hk : ∀ k ∈ ks, gdN K' k.1) (hN : ∀ v ∈ N, sVv K' v) : nQs sN T V K ks N = nQs sN' T V' K' ks N := by
  unfold nQs
  refine fm_cg (fun v hv => ?_)
  obtain ⟨h50, h51, h52, hn, h12⟩ := hN v hv
  unfold nQt
  refine ite_c (fun h => by rw [hV _ (h52 h)]) (fun _ => ite_c (fun _ => rfl) (fun _ => ?_))
  refine ite_c (fun h => by rw [kfi_c hs (hn (Or.inl h)) hk]) (fun _ => ?_)
  refine ite_c (fun h => by rw [nmT_c hs (hn (Or.inr (Or.inl h))) hT]) (fun _ => ?_)
  refine ite_c (fun h => by rw [nmT_c hs (h12 h).2 hT, hV _ (h12 h).1]) (fun _ => ?_)
  refine ite_c (fun h => by rw [hK _ (by rcases h50 h with e | e <;> rw [e] <;> decide)]) (fun _ => ?_)
  refine ite_c (fun h => by rw [hK _ (fun z => h51 h (by rw [z]; rfl))]) (fun _ => rfl)
theorem oQs_c (hs : ∀ a b, gdN K' a → gdN K' b → sN a b = sN' a b) (hK : ∀ j, ¬ K' j = 0 → K j = K' j) (hV : ∀ j, K' j = 2 → V j = V' j) (hT : ∀ q ∈ T, gdN K' q.1) {ks : gK} (hk : ∀ k ∈ ks, gdN K' k.1) {o : Option gU} (ho : sOo sN' K' E o) : o.map (nQs sN T V K ks) = o.map (nQs sN' T V' K' ks) := by
  cases o with
  | none => rfl
  | some N => exact congrArg some (nQs_c hs hK hV hT hk (ho N rfl).2.1)
theorem nStp_c (hs : ∀ a b, gdN K' a → gdN K' b → sN a b = sN' a b) (hK : ∀ j, ¬ K' j = 0 → K j = K' j) (hV : ∀ j, K' j = 2 → V j = V' j) (hT : ∀ q ∈ T, gdN K' q.1) {st : gSt} (hk : ∀ k ∈ st.2.2.1.1, gdN K' k.1) (h : stLk sN' K' E st) : nStp sN T V K st = nStp sN' T V' K' st := by
  obtain ⟨q1, ⟨q2, q2'⟩, q3, q4, q5, q5', q6, q7, q8, q9, so0, so1, so2⟩ := h
  have e1 : mOf sN T V st = mOf sN' T V' st := by
    unfold mOf
    by_cases c10 : st.1 ≤ 10
    · obtain ⟨t, et, kt⟩ := q4 c10
      rw [et]
      show (if st.1 ≤ 4 then Int32.ofNat (nmT sN 0 t T) else if st.1 ≤ 8 then Int32.ofNat (nmT sN 1 t T) else if st.1 ≤ 10 then Int32.ofNat (nmT sN 2 t T) else V t) = (if st.1 ≤ 4 then Int32.ofNat (nmT sN' 0 t T) else if st.1 ≤ 8 then Int32.ofNat (nmT sN' 1 t T) else if st.1 ≤ 10 then Int32.ofNat (nmT sN' 2 t T) else V' t)
      rw [nmT_c hs kt hT, nmT_c hs kt hT, nmT_c hs kt hT, if_pos c10, if_pos c10]
    · by_cases c13 : st.1 = 13
      · obtain ⟨t, et, kt⟩ := q5 c13
        rw [et]
        show (if st.1 ≤ 4 then Int32.ofNat (nmT sN 0 t T) else if st.1 ≤ 8 then Int32.ofNat (nmT sN 1 t T) else if st.1 ≤ 10 then Int32.ofNat (nmT sN 2 t T) else V t) = (if st.1 ≤ 4 then Int32.ofNat (nmT sN' 0 t T) else if st.1 ≤ 8 then Int32.ofNat (nmT sN' 1 t T) else if st.1 ≤ 10 then Int32.ofNat (nmT sN' 2 t T) else V' t)
        rw [if_neg (by omega), if_neg (by omega), if_neg (by omega), if_neg (by omega), if_neg (by omega), if_neg (by omega), hV _ kt]
      · rw [q5' (by omega) c13]
  have e2 : mSz sN T st = mSz sN' T st := by
    unfold mSz
    by_cases c4 : st.1 ≤ 4
    · obtain ⟨t, et, kt⟩ := q4 (by omega)
      rw [et]
      show (if _ then (if st.1 ≤ 4 then Int32.ofNat (rsT sN T t) else 1) else 0) = (if _ then (if st.1 ≤ 4 then Int32.ofNat (rsT sN' T t) else 1) else 0)
      unfold rsT
      rw [mtP_c hs kt hT]
    · rw [if_neg c4, if_neg c4]
  unfold nStp
  rw [e1, e2, oQs_c hs hK hV hT hk so0, oQs_c hs hK hV hT hk so1, oQs_c hs hK hV hT hk so2.1]
theorem ces_c (hK : ∀ j, ¬ K' j = 0 → K j = K' j) (hV : ∀ j, K' j = 2 → V j = V' j) : ∀ {L : gU} {d : Nat × Int32 × List (Int32 × Bool)}, (∀ v ∈ L, oZ K' v ∧ oY K' v) → ces K V L d = ces K' V' L d := by
  intro L
  induction L with
  | nil => intro d _; rfl
  | cons v L ih =>
    intro d hL
    obtain ⟨hz, hy⟩ := hL v List.mem_cons_self
    show ces K V L (ceV K V d v) = ces K' V' L (ceV K' V' d v)
    have e : ceV K V d v = ceV K' V' d v := by
      unfold ceV
      refine ite_c (fun _ => rfl) (fun _ => ?_)
      refine ite_c (fun h => ?_) (fun _ => ?_)
      · have z := hz.2.2.2.2 (by rw [h]; decide)
        have ep : prz K V v.2.2 = prz K' V' v.2.2 := by
          unfold prz
          rw [hK _ (by rw [z]; decide), hV _ z]
        rw [ep]
      · refine ite_c (fun h => by rw [hV _ (hy.2 (by rw [h]; decide))]) (fun _ => ite_c (fun h => by rw [hV _ (hy.2 (by rw [h]; decide))]) (fun _ => ite_c (fun _ => rfl) (fun _ => ite_c (fun h => by rw [hK _ (hy.1 (by rw [h]; decide))]) (fun _ => rfl))))
    rw [e]
    exact ih (fun u hu => hL u (List.mem_cons_of_mem _ hu))
theorem codN_c (hs : ∀ a b, gdN K' a → gdN K' b → sN a b = sN' a b) (hK : ∀ j, ¬ K' j = 0 → K j = K' j) (hV : ∀ j, K' j = 2 → V j = V' j) (hL : ∀ v ∈ L, oZ K' v ∧ oY K' v) (hw : WC sN' K' (fun v => v ∈ L) (cds sN' K' L cd0)) : codN sN V K L = codN sN' V' K' L := by
  obtain ⟨ec, gi⟩ := cds_c (c := cd0) hs hK hL ⟨fun k hk => (by cases hk), fun a z => (by cases z), fun st hst => by cases hst⟩
  have eT : L.filterMap (te1 K V) = L.filterMap (te1 K' V') := by
    refine fM_c (fun v hv => ?_)
    unfold te1
    by_cases c : v.1 = 32
    · have z := (hL v hv).1.2.2.2.2 (by rw [c]; decide)
      have ep : prz K V v.2.2 = prz K' V' v.2.2 := by
        unfold prz
        rw [hK _ (by rw [z]; decide), hV _ z]
      rw [ep]
    · rw [if_neg c, if_neg c]
  have hT : ∀ q ∈ L.filterMap (te1 K' V'), gdN K' q.1 := fun q hq => by
    obtain ⟨v, hv, ev⟩ := te_mem hq
    obtain ⟨g1, g2, -⟩ := te_is ev
    show K' q.1 = 1
    rw [g2]
    exact (hL v hv).1.1 (by rcases g1 with g | g | g | g <;> rw [g] <;> decide)
  obtain ⟨E, S, r, b, l, e, -, -, w1, w2, w3⟩ := hw
  have e1 : (cds sN' K' L cd0).2.1 = S := by rw [e]
  have e3 : (cds sN' K' L cd0).2.2.2.2.2 = l := by rw [e]
  have gs := gi.2.2
  rw [e1] at gs
  have cl : ∀ u, (clF u l).map (nQs sN (L.filterMap (te1 K' V')) V K []) = (clF u l).map (nQs sN' (L.filterMap (te1 K' V')) V' K' []) := fun u => List.map_congr_left (fun N hN => by
    obtain ⟨q, hq, e9⟩ := List.mem_filterMap.mp hN
    have e9 : q.2 = N := by
      split at e9
      · exact Option.some.inj e9
      · exact absurd e9 (by simp)
    obtain ⟨z1, -⟩ := w3 q hq
    rw [e9] at z1
    exact nQs_c hs hK hV hT (fun k hk => by cases hk) z1.2.1)
  have st : S.map (nStp sN (L.filterMap (te1 K' V')) V K) = S.map (nStp sN' (L.filterMap (te1 K' V')) V' K') := List.map_congr_left (fun s hs9 => by
    obtain ⟨j, hj, ej⟩ := List.getElem_of_mem hs9
    obtain ⟨-, E0, hL0, -⟩ := w1 j s (by rw [List.getElem?_eq_getElem hj, ej])
    exact nStp_c hs hK hV hT (gs s hs9) hL0)
  have ce : cel K V L = cel K' V' L := by
    unfold cel
    rw [ces_c hK hV hL]
  unfold codN
  rw [ec, eT, e1, e3, st, ce, cl, cl]
end CDC
end
section
/-! class and model: the same text is compiled alike -/
section JNT
variable {b b' : Nat → Int32} {n e : Nat} {K V : Nat → Int32} {P Z : Nat → Nat} {x y z w m w' : gd}
theorem sgk_n1 (c d : Int32) : ¬ sgk c d = 1 := by
  unfold sgk
  repeat' (first | apply ite_n | decide)
theorem lxs_c (h : ∀ p, p < n → b p = b' p) : ∀ (f : Nat) (r : Bool) (p : Nat), lxs b n f r p = lxs b' n f r p := by
  intro f
  induction f with
  | zero => intro r p; rfl
  | succ f ih =>
    intro r p
    rw [lxs, lxs]
    by_cases c : n ≤ p
    · rw [if_pos c, if_pos c]
    · have e2 : (if p + 1 < n then b (p + 1) else 0) = (if p + 1 < n then b' (p + 1) else 0) := by
        by_cases d : p + 1 < n
        · rw [if_pos d, if_pos d, h _ d]
        · rw [if_neg d, if_neg d]
      rw [if_neg c, if_neg c, h p (by omega), e2, ih, ih, ih]
theorem RUNq_c (h : ∀ p, p < n → b p = b' p) {q : Int32 → Prop} {p k : Nat} (g : RUNq q b n p k) : RUNq q b' n p k := by
  obtain ⟨g1, g2, g3⟩ := g
  exact ⟨g1, fun i hi => by rw [← h _ (by omega)]; exact g2 i hi, fun z => g3 ⟨z.1, by rw [h _ z.1]; exact z.2⟩⟩
theorem WD_c (h : ∀ p, p < n → b p = b' p) {p k v : Nat} (hp : p + k ≤ n) : WD b p k v ↔ WD b' p k v := by
  unfold WD
  refine and_congr_right (fun _ => ⟨fun g i hi => by rw [← h _ (by omega)]; exact g i hi, fun g i hi => by rw [h _ (by omega)]; exact g i hi⟩)
theorem whv_c (h : ∀ p, p < n → b p = b' p) {p : Nat} : ∀ {k : Nat}, p + k ≤ n → whv b p k = whv b' p k := by
  intro k
  induction k with
  | zero => intro _; rfl
  | succ k ih =>
    intro hk
    rw [whv, whv, ih (by omega), h _ (by omega)]
theorem TOK_c (h : ∀ p, p < n → b p = b' p) {p k : Nat} {c v : Int32} (g : TOK b n p c k v) : TOK b' n p c k v := by
  have cb : cby1 b n (p + 1) = cby1 b' n (p + 1) := by
    unfold cby1
    by_cases d : p + 1 < n
    · rw [if_pos d, if_pos d, h _ d]
    · rw [if_neg d, if_neg d]
  rcases g with g | ⟨g1, g2, g3, g4⟩ | ⟨g1, g2, g3⟩ | ⟨g1, g2, g3, g4⟩
  · exact Or.inl g
  · refine Or.inr (Or.inl ⟨g1, by rw [← h p g1]; exact g2, RUNq_c h g3, ?_⟩)
    rcases g4 with ⟨v, g5, g6, g7⟩ | ⟨g5, g6⟩
    · exact Or.inl ⟨v, g5, (WD_c h g3.1).mp g6, g7⟩
    · exact Or.inr ⟨fun v hv z => g5 v hv ((WD_c h g3.1).mpr z), g6⟩
  · refine Or.inr (Or.inr (Or.inl ⟨g1, by rw [← h p g1]; exact g2, ?_⟩))
    rcases g3 with ⟨g4, g5, g6, g7, g8⟩ | ⟨g4, q, g5, g6⟩
    · have := g5.1
      exact Or.inl ⟨g4, RUNq_c h g5, g6, fun i hi => by rw [← h _ (by omega)]; exact g7 i hi, by rw [g8, whv_c h g5.1]⟩
    · have := g5.1
      refine Or.inr ⟨g4, q, RUNq_c h g5, g6.imp id (fun ⟨i, hi, z⟩ => ⟨i, hi, by rw [← h _ (by omega)]; exact z⟩)⟩
  · rw [cb, h p g1] at g3 g4
    exact Or.inr (Or.inr (Or.inr ⟨g1, by rw [← h p g1]; exact g2, g3, g4⟩))
theorem TSq_c (h : ∀ p, p < n → b p = b' p) (g : TSq b n e K P Z V) : TSq b' n e K P Z V := by
  have el : lx b n = lx b' n := by funext p; unfold lx; exact lxs_c h _ _ _
  obtain ⟨g1, g2, g3, g4, g5, g6⟩ := g
  rw [el] at g2
  refine ⟨g1, g2, fun j hj => ?_, fun j hj => TOK_c h (g4 j hj), g5, g6⟩
  rw [← el]; exact g3 j hj
theorem TOK_1 {p k : Nat} {v : Int32} (g : TOK b n p 1 k v) : p + k ≤ n := by
  rcases g with ⟨-, g⟩ | ⟨-, -, g, -⟩ | ⟨-, -, ⟨g, -⟩ | ⟨g, -⟩⟩ | ⟨-, -, g, -⟩
  · exact absurd g (by decide)
  · exact g.1
  · exact absurd g (by decide)
  · exact absurd g (by decide)
  · exfalso
    have := sgk_n1 (b p) (cby1 b n (p + 1))
    exact this g.symm
theorem hsh_c {p p' : Nat} : ∀ {k : Nat}, (∀ i, i < k → b (p + i) = b (p' + i)) → hsh b p k = hsh b p' k := by
  intro k
  induction k with
  | zero => intro _; rfl
  | succ k ih =>
    intro h
    rw [hsh, hsh, ih (fun i hi => h i (by omega)), h k (by omega)]
/-- the same text -/
def TXs (x w : gd) : Prop := x.1 20 1 = w.1 0 2 ∧ ∀ p, p < (x.1 20 1).toNatClampNeg → x.1 21 p = w.1 2 p
/-- what every compiled code is like -/
def gdC (C : gCo) : Prop := NC C ∧ NX2 C ∧ NX3 C ∧ NCu C
/-- what the law's loop keeps: the same text, compiled alike, the same counts -/
def JR (x w : gd) : Prop := TXs x w ∧ ((x.1 0 9 = 0 ∧ w.1 0 66 = 0 ∧ z5 w) ∨ (¬ x.1 0 9 = 0 ∧ w.1 0 66 = 1 ∧ x.1 60 6 = w.1 0 23 ∧ x.1 60 9 = w.1 0 24 ∧ x.1 60 10 = w.1 0 25 ∧ x.1 60 14 = w.1 0 26 ∧ x.1 60 16 = w.1 0 27 ∧ ∃ C, CK x C ∧ MK w C ∧ gdC C))
theorem clq {a c : Int32} {k : Nat} (h : a.toInt = (k : Nat)) (g : c.toNatClampNeg = k) (h0 : 0 ≤ c.toInt) : a = c := by
  have u := t_cl c
  rw [t_eq]
  omega
theorem JR_comp (hT : TXs x w) (hC : CCf x y) (e20 : y.1 20 1 = x.1 20 1) (hM : MCf w w') (e02 : w'.1 0 2 = w.1 0 2) (hcp : ¬ w'.1 0 66 = 0 → CP w') : JR y w' := by
  obtain ⟨z, e, hK, z21, y21, hc⟩ := hC
  obtain ⟨m, e', ts, m2, w2, htk, hm⟩ := hM
  obtain ⟨t1, t2⟩ := hT
  have en : kln x = tln w := by unfold kln tln; rw [t1]
  have eb : ∀ p, p < tln w → kby x p = tby w p := fun p hp => by
    unfold kby tby
    rw [t2 p (by rw [← en] at hp; exact hp)]
  obtain ⟨hts, hmany, hhash, hkT⟩ := hK
  have hts0 := hts
  rw [en] at hts
  obtain ⟨ee, hu⟩ := TSq_u (TSq_c eb hts) ts
  rw [← ee] at ts
  obtain ⟨-, -, -, q4, q5, q6⟩ := hts
  have e700 := ts.1
  have ck : ∀ j, j ≤ e → ctK z e j = kc (z.1 23 j) := fun j hj => by unfold ctK; rw [if_pos hj]
  have kk : ∀ j, j ≤ e → m.1 5 j = ctK z e j := fun j hj => by rw [ck j hj]; exact (hu j hj).2.1.symm
  have aGG : aG (m.1 5) (ctK z e) e := by
    refine ⟨kk, fun j hj h7 h0 h3 => ?_⟩
    by_cases c : j = e
    · rw [c, kk e (Nat.le_refl _), ck e (Nat.le_refl _)] at h0 h3
      rcases q6 with g | g | g
      · exact absurd g h0
      · exact absurd g h3
      · omega
    · omega
  have hV : ∀ j, j ≤ e → m.1 5 j = 2 → m.1 7 j = ctV z e j := fun j hj k2 => by
    have k2' : kc (z.1 23 j) = 2 := by rw [← ck j hj, ← kk j hj]; exact k2
    unfold ctV
    rw [if_pos ⟨hj, k2'⟩]
    exact ((hu j hj).2.2.2 k2').symm
  have epA := (pAl_c aGG hV 701 (0, 0, 0, 0, 0) 0 [] (Nat.zero_le _)).1
  have le1 : ∀ j, ctK z e j = 1 ∨ ctK z e j = 2 → j ≤ e := fun j hj => by
    by_cases c : j ≤ e
    · exact c
    · unfold ctK at hj
      rw [if_neg c] at hj
      rcases hj with g | g <;> exact absurd g (by decide)
  -- names alike
  have hs : ∀ a c, gdN (ctK z e) a → gdN (ctK z e) c → smB m a c = smkB z a c := by
    intro a c ha hc9
    have ha : ctK z e a = 1 := ha
    have hc9 : ctK z e c = 1 := hc9
    have la := le1 a (Or.inl ha)
    have lc := le1 c (Or.inl hc9)
    have ka : kc (z.1 23 a) = 1 := by rw [← ck a la]; exact ha
    have kc' : kc (z.1 23 c) = 1 := by rw [← ck c lc]; exact hc9
    obtain ⟨pa, -, za, -⟩ := hu a la
    obtain ⟨pc, -, zc, -⟩ := hu c lc
    have za := za (by show ¬ kc (z.1 23 a) = 3; rw [ka]; decide) (by show ¬ kc (z.1 23 a) = 0; rw [ka]; decide)
    have zc := zc (by show ¬ kc (z.1 23 c) = 3; rw [kc']; decide) (by show ¬ kc (z.1 23 c) = 0; rw [kc']; decide)
    have ba := q4 a la
    have bc := q4 c lc
    have ba : TOK (kby x) (tln w) (kP' z a) (kc (z.1 23 a)) (kZ' z a) (z.1 27 a) := ba
    have bc : TOK (kby x) (tln w) (kP' z c) (kc (z.1 23 c)) (kZ' z c) (z.1 27 c) := bc
    rw [ka] at ba
    rw [kc'] at bc
    have ba := TOK_1 ba
    have bc := TOK_1 bc
    have na : z.1 23 a = 2 := kc_i (c := 2) (by rw [ka]; decide) (by decide)
    have nc : z.1 23 c = 2 := kc_i (c := 2) (by rw [kc']; decide) (by decide)
    have many : ∀ j, j ≤ e → z.1 23 j = 2 → (j : Int) < (z.1 20 7).toInt := fun j hj h2 => by
      rcases hmany with ⟨g1, g2⟩ | ⟨g1, g2⟩
      · by_cases c : j = e
        · rw [c, g1] at h2
          exact absurd h2 (by decide)
        · omega
      · omega
    obtain ⟨-, N, eN, hN, hw, -⟩ := hkT
    have wa := (hw a (by have := many a la na; omega)).1
    have wc := (hw c (by have := many c lc nc; omega)).1
    have ta := htk a (by omega)
    have tc := htk c (by omega)
    have ua := t_cl (z.1 26 a)
    have uc := t_cl (z.1 26 c)
    have va := t_cl (m.1 8 a)
    have vc := t_cl (m.1 8 c)
    have za : (z.1 26 a).toNatClampNeg = (m.1 8 a).toNatClampNeg := za
    have zc : (z.1 26 c).toNatClampNeg = (m.1 8 c).toNatClampNeg := zc
    have pa : (z.1 24 a).toNatClampNeg = (m.1 6 a).toNatClampNeg := pa
    have pc : (z.1 24 c).toNatClampNeg = (m.1 6 c).toNatClampNeg := pc
    have ba : (z.1 24 a).toNatClampNeg + (z.1 26 a).toNatClampNeg ≤ tln w := ba
    have bc : (z.1 24 c).toNatClampNeg + (z.1 26 c).toNatClampNeg ≤ tln w := bc
    have sz : z.1 26 a = z.1 26 c ↔ m.1 8 a = m.1 8 c := by
      rw [t_eq, t_eq]; omega
    have by' : ∀ p, p < tln w → z.1 21 p = m.1 2 p := fun p hp => by rw [z21, m2]; exact t2 p (by rw [← en] at hp; exact hp)
    have key : smx m a c ↔ smk z a c := by
      unfold smx smk
      constructor
      · rintro ⟨g1, g2⟩
        have s1 := sz.mpr g1
        have g2' : ∀ i, i < (z.1 26 a).toNatClampNeg → z.1 21 ((z.1 24 a).toNatClampNeg + i) = z.1 21 ((z.1 24 c).toNatClampNeg + i) := fun i hi => by
          rw [by' _ (by omega), by' _ (by rw [s1] at hi; omega), pa, pc]
          exact g2 i (by omega)
        refine ⟨?_, s1, g2'⟩
        rw [hhash a la na, hhash c lc nc]
        have ez : kZ' z a = kZ' z c := by show (z.1 26 a).toNatClampNeg = (z.1 26 c).toNatClampNeg; rw [s1]
        rw [← ez]
        exact hsh_c (fun i hi => by unfold kby; rw [← z21, ← z21]; exact congrArg (· &&& 255) (g2' i hi))
      · rintro ⟨-, g1, g2⟩
        refine ⟨sz.mp g1, fun i hi => ?_⟩
        rw [← pa, ← pc, ← by' _ (by omega), ← by' _ (by rw [g1] at za; omega)]
        exact g2 i (by omega)
    have kb : smB m a c = true ↔ smkB z a c = true := by rw [smB_is, smkB_is]; exact key
    cases h1 : smB m a c <;> cases h2 : smkB z a c
    · rfl
    · exact absurd (kb.mpr h2) (by rw [h1]; decide)
    · exact absurd (kb.mp h1) (by rw [h2]; decide)
    · rfl
  have hjf : ∀ n j L, pAl (ctK z e) (ctV z e) 701 (0, 0, 0, 0, 0) 0 [] = some (n, j, L) → (jFl (smB m) (m.1 5) (m.1 7) L ↔ jFl (smkB z) (ctK z e) (ctV z e) L) := fun n j L hp => by
    obtain ⟨N, eN, hN⟩ := pAl_oZ 701 _ _ _ _ hp
    have eN : L = N := eN
    rw [← eN] at hN
    exact jFl_c (fun j hj => kk j (le1 j hj)) hs (fun j hj => hV j (le1 j (Or.inr hj)) (by rw [kk j (le1 j (Or.inr hj))]; exact hj)) hN
  have htx : TXs y w' := ⟨by rw [e20, e02]; exact t1, fun p hp => by rw [y21, w2]; exact t2 p (by rw [← e20]; exact hp)⟩
  refine ⟨htx, ?_⟩
  rw [epA] at hm
  rcases hc with ⟨n, j, L, c1, c2, c3, c4, c5⟩ | ⟨c1, c2⟩
  · rcases hm with ⟨n', j', L', m1, m3, m4, m5, m6⟩ | ⟨m1, -⟩
    · rw [c1] at m1
      have en' : n = n' := congrArg (fun q : gN × Nat × gU => q.1) (Option.some.inj m1)
      have eL' : L = L' := congrArg (fun q : gN × Nat × gU => q.2.2) (Option.some.inj m1)
      rw [← eL'] at m6
      have hw := cod_ok c1 c2
      have ec : codN (smB m) (m.1 7) (m.1 5) L = codN (smkB z) (ctV z e) (ctK z e) L := by
        obtain ⟨N, eN, hN⟩ := pAl_oZ 701 _ _ _ _ c1
        have eN : L = N := eN
        rw [← eN] at hN
        obtain ⟨N2, eN2, hN2⟩ := pAl_oY 701 _ _ _ _ c1
        have eN2 : L = N2 := eN2
        rw [← eN2] at hN2
        refine codN_c hs (fun j hj => ?_) (fun j hj => ?_) (fun v hv => ⟨hN v hv, hN2 v hv⟩) hw
        · by_cases cj : j ≤ e
          · exact kk j cj
          · unfold ctK at hj
            rw [if_neg cj] at hj
            exact absurd rfl hj
        · have lj := le1 j (Or.inr hj)
          exact hV j lj (by rw [kk j lj]; exact hj)
      have mk := MCo_MK m6
      rw [ec] at mk
      obtain ⟨⟨g1, g1', g2, -, g3, -, g4, -, g5, -⟩, -⟩ := hcp (by rw [m4]; decide)
      have l24 : (cel (ctK z e) (ctV z e) L).length ≤ 24 := by
        have e9 : (w'.1 0 23).toInt = ((cel (ctK z e) (ctV z e) L).length : Nat) := mk.2.2.1.1
        omega
      obtain ⟨n1, n2, n3, n4, n5⟩ := c4
      rw [← en'] at m5
      refine Or.inr ⟨c3, m4, clq n1 (congrArg (fun q : gN => q.1) m5) g1, clq n2 (congrArg (fun q : gN => q.2.1) m5) g2, clq n3 (congrArg (fun q : gN => q.2.2.1) m5) g3, clq n4 (congrArg (fun q : gN => q.2.2.2.1) m5) g4, clq n5 (congrArg (fun q : gN => q.2.2.2.2) m5) g5, _, c5, mk, NC_of hw, NX2_of hw, NX3_of (pAl_cP 701 _ _ _ _ celP_0 c1) l24 hw, NCu_of c1 c2 l24⟩
    · exact absurd ((hjf n j L c1).mp (m1 n j L c1)) c2
  · rcases hm with ⟨n', j', L', m1, m3, m4, m5, -⟩ | ⟨-, m4, m5⟩
    · exact absurd ((hjf n' j' L' m1).mpr (c1 n' j' L' m1)) m3
    · exact Or.inl ⟨c2, m4, m5⟩
end JNT
end
section
/-! the bytes that feed adds are the same on both sides -/
section BYT
variable {x y w w' : gd}
theorem bv8 (l : BitVec 64) (s : Nat) (hs : s ≤ 56) : (l >>> s).setWidth 8 = (l.sshiftRight s).setWidth 8 := by
  apply BitVec.eq_of_getLsbD_eq
  intro i hi
  rw [BitVec.getLsbD_setWidth, BitVec.getLsbD_setWidth, BitVec.getLsbD_ushiftRight, BitVec.getLsbD_sshiftRight]
  have h1 : ¬ 64 ≤ i := by omega
  have h2 : s + i < 64 := by omega
  simp [h1, h2]
theorem nar8 (a : Int64) : a.toInt32.toInt8.toBitVec = a.toBitVec.setWidth 8 := by
  apply BitVec.eq_of_getLsbD_eq
  intro i hi
  have e : a.toInt32.toInt8.toBitVec = (a.toBitVec.signExtend 32).signExtend 8 := rfl
  rw [e, BitVec.getLsbD_signExtend, BitVec.getLsbD_signExtend, BitVec.getLsbD_setWidth]
  have h1 : i < 32 := by omega
  have h2 : i < 64 := by omega
  simp [hi, h1, h2]
theorem FB_same {l : Int64} {j : Nat} (hj : j < 8) : FBk l j = FBw l j := by
  have key : ∀ (s : Nat) (hs : s ≤ 56) (u : UInt64) (v : Int64), (l.toUInt64 >>> u).toBitVec = l.toBitVec >>> s → (l >>> v).toBitVec = l.toBitVec.sshiftRight s → ((l.toUInt64 >>> u).toInt64).toInt32.toInt8 = (l >>> v).toInt32.toInt8 := by
    intro s hs u v h1 h2
    apply Int8.toBitVec_inj.mp
    rw [nar8, nar8]
    show (l.toUInt64 >>> u).toBitVec.setWidth 8 = _
    rw [h1, h2]
    exact bv8 _ s hs
  unfold FBk FBw
  have c : j = 0 ∨ j = 1 ∨ j = 2 ∨ j = 3 ∨ j = 4 ∨ j = 5 ∨ j = 6 ∨ j = 7 := by omega
  rcases c with rfl | rfl | rfl | rfl | rfl | rfl | rfl | rfl
  · refine congrArg (fun a : Int8 => vp_nar .byte a.toInt32) (key 0 (by omega) _ _ ?_ ?_)
    · rfl
    · rfl
  · refine congrArg (fun a : Int8 => vp_nar .byte a.toInt32) (key 8 (by omega) _ _ ?_ ?_)
    · rfl
    · rfl
  · refine congrArg (fun a : Int8 => vp_nar .byte a.toInt32) (key 16 (by omega) _ _ ?_ ?_)
    · rfl
    · rfl
  · refine congrArg (fun a : Int8 => vp_nar .byte a.toInt32) (key 24 (by omega) _ _ ?_ ?_)
    · rfl
    · rfl
  · refine congrArg (fun a : Int8 => vp_nar .byte a.toInt32) (key 32 (by omega) _ _ ?_ ?_)
    · rfl
    · rfl
  · refine congrArg (fun a : Int8 => vp_nar .byte a.toInt32) (key 40 (by omega) _ _ ?_ ?_)
    · rfl
    · rfl
  · refine congrArg (fun a : Int8 => vp_nar .byte a.toInt32) (key 48 (by omega) _ _ ?_ ?_)
    · rfl
    · rfl
  · refine congrArg (fun a : Int8 => vp_nar .byte a.toInt32) (key 56 (by omega) _ _ ?_ ?_)
    · rfl
    · rfl
theorem JR_feed (h : JR x w) {n : Int32} {l : Int64} (hn : 1 ≤ n.toInt ∧ n.toInt ≤ 8 ∧ (x.1 20 1).toInt + n.toInt ≤ 3000) (hL : 0 ≤ (x.1 20 1).toInt) (e1 : (y.1 20 1).toInt = (x.1 20 1).toInt + n.toInt) (e9 : y.1 0 9 = 0) (fb : FBc x l n.toInt.toNat y) (e2 : w'.1 0 2 = w.1 0 2 + n) (fm' : FBm w l n.toNatClampNeg w') (e66 : w'.1 0 66 = 0) (hz : z5 w') : JR y w' := by
  obtain ⟨⟨t1, t2⟩, -⟩ := h
  have u1 := t_cl (x.1 20 1)
  have u2 := t_cl (y.1 20 1)
  have u3 := t_cl n
  refine ⟨⟨?_, fun p hp => ?_⟩, Or.inl ⟨e9, e66, hz⟩⟩
  · rw [t_eq, e1, e2, ← t1, t_add (by omega) (by omega)]
  · have t1' : (x.1 20 1).toNatClampNeg = (w.1 0 2).toNatClampNeg := by rw [t1]
    by_cases c : p < (x.1 20 1).toNatClampNeg
    · rw [fb.1 p c, fm'.1 p (by omega)]
      exact t2 p c
    · obtain ⟨j, ej⟩ : ∃ j, p = (x.1 20 1).toNatClampNeg + j := ⟨p - (x.1 20 1).toNatClampNeg, by omega⟩
      have hj : j < n.toInt.toNat := by omega
      rw [ej, fb.2 j hj, t1', fm'.2 j (by omega)]
      exact FB_same (by omega)
theorem JR_wipe (e1 : y.1 20 1 = 0) (e9 : y.1 0 9 = 0) (e2 : w'.1 0 2 = 0) (e66 : w'.1 0 66 = 0) (hz : z5 w') : JR y w' := by
  refine ⟨⟨by rw [e1, e2], fun p hp => ?_⟩, Or.inl ⟨e9, e66, hz⟩⟩
  rw [e1] at hp
  exact absurd hp (Nat.not_lt_zero _)
end BYT
end
section
/-! the class: calls that only look, calls that forget -/
def sRd (c k : Nat) : Prop := (c = 120 ∧ k = 14) ∨ (180 ≤ c ∧ c < 260) ∨ 300 ≤ c ∨ (c = 60 ∧ k = 5) ∨ c = 65
def KRd (x y : gd) : Prop := fm sRd x y
def ZR (y : gd) : Prop := y.1 0 10 = 0 ∧ ∀ o, (o = 260 ∨ o = 280) → y.1 o 0 = 0
section KRX
variable {x y z : gd} {q : kP} {C : gCo} {w n o : Nat} {c : Nat → Nat} {T : gTy}
theorem KR_rf : KRd x x := fm_rf _ _
theorem KR_KF (f : KRd x y) : KF x y := KF_fm f (fun c k q => by unfold sRd at q; omega)
theorem ZR_of (h10 : y.1 0 10 = 0) (hz : ∀ o, kiT q o → y.1 o 0 = 0) (hh : HOI y q) : ZR y := ⟨h10, fun o hO => by
  by_cases k : kiT q o
  · exact hz o k
  · exact (hh.2.2.2 o hO).2 k⟩
theorem KRun_rd (f : KRd x y) (hK : CK x C) (hR : RUN y) (r : KRun C w n c x) : KRun C w n c y := by
  obtain ⟨r1, ⟨r2, r3, r4⟩, ⟨r5, r6⟩, r7, r8, r9⟩ := r
  have g : ∀ c k, ¬ sRd c k → y.1 c k = x.1 c k := f
  refine ⟨hR, ⟨KMm_ag (Or.inl rfl) r1.1 hK (g _ _ (by unfold sRd; omega)) (g _ _ (by unfold sRd; omega)) (g _ _ (by unfold sRd; omega)) (fun k hk => g _ _ (by unfold sRd; omega)) (fun k => g _ _ (by unfold sRd; omega)) r2, r3, kchL_ag (g _ _ (by unfold sRd; omega)) (fun c k h => g _ _ (by unfold sRd; omega)) r4⟩, ⟨r5, by rw [g _ _ (by unfold sRd; omega)]; exact r6⟩, by rw [g _ _ (by unfold sRd; omega)]; exact r7, fun k hk => by rw [g 162 k (by unfold sRd; omega)]; exact r8 k hk, KJA_f (fun c k hc => g c k (by unfold sRd; omega)) r9⟩
theorem TR3_rd (hO : o = 260 ∨ o = 280) (f : KRd x y) (h : TR3 C w x o T) : TR3 C w y o T := by
  have g : ∀ c k, ¬ sRd c k → y.1 c k = x.1 c k := f
  exact TR3_f (g _ _ (by unfold sRd; omega)) (g _ _ (by unfold sRd; omega)) (fun c k hc => g _ _ (by unfold sRd; omega)) h
end KRX
section KFR8
variable {G : kG} {q q0 q1 : kP} {d : Nat} {x x0 y z : gd} {o : Nat} {F : Int32 → gd → Prop} {Fv : gd → Prop} {P : Option gv → gd → Prop} {X : String → gd → Prop}
theorem kr_fault (hq : kV q) (hH : HOI x q) (l : Int32) (hO : X iOE x) (hP : ∀ r y, HOI y q → KRd x y → P (some (vi r)) y) : KE G q (d + 6) zk_X11_fault 0 [(0, vr 0), (1, vi l)] [] x P X := by
  have p19 : KE G q (d + 6) zk_X11_fault 19 [(0, vr 0), (1, vi l)] [] x P X := kg_X11_fault_19 hq l ⟨fun _ => hP _ x hH KR_rf, fun _ => hP _ x hH KR_rf⟩
  exact kg_X11_fault_0 hq l ⟨fun _ => p19, fun _ => ⟨fun _ => p19, fun _ => hO⟩⟩
theorem kr_lock (hq : kV q) (hH : HOI x q) (l1 l2 : Int32) (hS : X iSE x) (hO : X iOE x) (hP : ∀ r y, HOI y q → KRd x y → P (some (vi r)) y) : KE G q (d + 7) zk_X11_lock 0 [(0, vr 0), (1, vi l1), (2, vi l2)] [] x P X := by
  have hm : kiM q 120 := Or.inl rfl
  exact kg_X11_lock_0 hq l1 l2 (kz_run hq hH hS (fun hR => kz_ix hq l1 _ hO (fun h0 h1 => kz_what hq l2 3 hO ⟨fun _ => kp_holder hq hm hR.1.1 hR.1.2.1 l1 h0 h1 (fun r => hP r x hH KR_rf), fun _ => kp_often hq hm hR.1.1 hR.1.2.1 l1 h0 h1 (fun r => hP r x hH KR_rf), fun _ => kp_waiters hq hm hR.1.1 hR.1.2.1 l1 (fun r r14 => hP r14 x hH KR_rf)⟩)))
theorem kr_thread (hq : kV q) (hH : HOI x q) (l1 l2 : Int32) (hS : X iSE x) (hO : X iOE x) (hP : ∀ r y, HOI y q → KRd x y → P (some (vi r)) y) : KE G q (d + 7) zk_X11_thread 0 [(0, vr 0), (1, vi l1), (2, vi l2)] [] x P X := by
  have hm : kiM q 120 := Or.inl rfl
  refine kg_X11_thread_0 hq l1 l2 (kz_run hq hH hS (fun hR => kz_ix hq l1 _ hO (fun h0 h1 => kz_what hq l2 5 hO ?_)))
  have hT : ((l1.toInt.toNat : Nat) : Int) < (x.1 60 10).toInt := by omega
  have eT : l1.toInt = ((l1.toInt.toNat : Nat) : Int) := by omega
  have hT6 := MM_6 hR.1.1 hT
  have hA := (hR.1.2.2 _ hT).1
  exact ⟨fun _ => kp_get hq hm hR.1.1 hR.1.2.1 l1 0 (K := 0) eT rfl hT6 (by omega) (hP _ x hH KR_rf), fun _ => kp_get hq hm hR.1.1 hR.1.2.1 l1 1 (K := 1) eT rfl hT6 (by omega) (hP _ x hH KR_rf), fun _ => kp_get hq hm hR.1.1 hR.1.2.1 l1 7 (K := 7) eT rfl hT6 (by omega) (hP _ x hH KR_rf), fun _ => kp_known hq hm hR.1.1 hR.1.2.1 l1 eT hT6 hA (fun r _ _ => hP r x hH KR_rf), fun _ => kp_lineOf hq hm hR.1.1 hR.1.2.1 l1 eT hT6 hA (fun r => hP r x hH KR_rf)⟩
theorem kr_tried (hq : kV q) (hH : HOI x q) (l1 l2 : Int32) (hA : X iAE x) (hO : X iOE x) (hP : ∀ r y, HOI y q → KRd x y → P (some (vi r)) y) : KE G q (d + 7) zk_X11_tried 0 [(0, vr 0), (1, vi l1), (2, vi l2)] [] x P X := by
  have here : ∀ r, P (some (vi r)) x := fun r => hP r x hH KR_rf
  exact kg_X11_tried_0 hq l1 l2 (kz_way hq l1 hA (fun hw => kz_what hq l2 6 hO (kz_was hq hH l1 hw ⟨fun c => absurd rfl c, fun _ => here _⟩ (fun o e7 ho hz ht hC hp => ⟨fun _ => ⟨way_in hw, fun u7 e => ⟨o, by rw [e, e7], ho, fun _ => here _, fun _ => ⟨fun _ => here _, fun _ => here _⟩, fun _ => here _, fun _ => here _, fun _ => here _, fun _ => here _⟩⟩, fun _ => here _⟩))))
theorem kr_outcome (hq : kV q) (hH : HOI x q) (l1 l2 l3 : Int32) (hA : X iAE x) (hO : X iOE x) (hP : ∀ r y, HOI y q → KRd x y → P (some (vi r)) y) : KE G q (d + 7) zk_X11_outcome 0 [(0, vr 0), (1, vi l1), (2, vi l2), (3, vi l3)] [] x P X := by
  have here : ∀ r, P (some (vi r)) x := fun r => hP r x hH KR_rf
  have k0 : (0 : Int32).toInt = 0 := rfl
  refine kg_X11_outcome_0 hq l1 l2 l3 (kz_way hq l1 hA (fun hw => kz_was hq hH l1 hw ⟨fun _ => kg_X11_outcome_26 hq l1 l2 l3 _ _ (kz_ix hq l2 0 hO (fun h0 h1 => ?_)), fun c => absurd rfl c⟩ (fun o e7 ho hz ht hC hp => ⟨fun c => absurd c (by decide), fun _ => ⟨way_in hw, fun u6 e6 => ⟨o, by rw [e6, e7], ho, kg_X11_outcome_26 hq l1 l2 l3 _ _ (kz_ix hq l2 _ hO (fun h0 h1 => kz_ix hq l3 _ hO (fun g0 g1 => ⟨way_in hw, fun u4 e4 => ⟨o, by rw [e4, e7], ho, kt_valueOf hq ho l2 l3 ht ⟨h0, h1⟩ (by have := hC.1.1; omega) (fun r => here r)⟩⟩)))⟩⟩⟩)))
  rw [k0] at h1; omega
theorem kr_common (hq : kV q) (hH : HOI x q) (l1 l2 : Int32) (hA : X iAE x) (hO : X iOE x) (hP : ∀ r y, HOI y q → KRd x y → P (some (vi r)) y) : KE G q (d + 7) zk_X11_common 0 [(0, vr 0), (1, vi l1), (2, vi l2)] [] x P X := by
  have here : ∀ r, P (some (vi r)) x := fun r => hP r x hH KR_rf
  refine kg_X11_common_0 hq l1 l2 (kz_way hq l1 hA (fun hw => ?_))
  have p23 : ∀ s0 : Int32, s0.toInt ≤ 24 → KE G q (d + 7) zk_X11_common 23 [(0, vr 0), (1, vi l1), (2, vi l2)] [vi s0, vi l2] x P X := fun s0 hs0 => kg_X11_common_23 hq l1 l2 s0 l2 (kz_ix hq l2 s0 hO (fun g0 g1 => kz_was hq hH l1 hw ⟨fun _ => here _, fun c => absurd rfl c⟩ (fun o e7 ho hz ht hC hp => ⟨fun c => absurd c (by decide), fun _ => ⟨way_in hw, fun u6 e6 => ⟨o, by rw [e6, e7], ho, by rw [vp_in_iff]; omega, here _⟩⟩⟩)))
  exact ⟨fun _ => p23 _ (by decide), fun c => p23 _ (hH.2.1 c).1.1.2⟩
theorem kr_ring (hq : kV q) (hH : HOI x q) (l1 : Int32) (hA : X iAE x) (hP : ∀ r y, HOI y q → KRd x y → P (some (vi r)) y) : KE G q (d + 7) zk_X11_ring 0 [(0, vr 0), (1, vi l1)] [] x P X := by
  have here : ∀ r, P (some (vi r)) x := fun r => hP r x hH KR_rf
  exact kg_X11_ring_0 hq l1 (kz_way hq l1 hA (fun hw => kz_was hq hH l1 hw ⟨fun _ => here _, fun c => absurd rfl c⟩ (fun o e7 ho hz ht hC hp => ⟨fun c => absurd c (by decide), fun _ => ⟨way_in hw, fun u6 e6 => ⟨o, by rw [e6, e7], ho, kt_ring hq ho (fun r => here r)⟩⟩⟩)))
theorem kr_alike (hq : kV q) (hH : HOI x q) (hP : ∀ r y, HOI y q → KRd x y → P (some (vi r)) y) : KT G q (d + 2) zk_X11_alike 0 [(0, vr 0)] [] x P := by
  have here : ∀ r, P (some (vi r)) x := fun r => hP r x hH KR_rf
  refine kg_X11_alike_0 hq (kz_was hq hH 0 (Or.inl rfl) ⟨fun _ => here _, fun c => absurd rfl c⟩ (fun o e0 ho hz ht hC hp => ⟨fun c => absurd c (by decide), fun _ => kz_was hq hH 1 (Or.inr rfl) ⟨fun _ => here _, fun c => absurd rfl c⟩ (fun o2 e1 ho2 hz2 ht2 hC2 hp2 => ⟨fun c => absurd c (by decide), fun _ => ⟨way_in (Or.inl rfl), fun u8 e8 => ⟨o, by rw [e8, e0], ho, fun _ => here _, fun _ => ⟨way_in (Or.inr rfl), fun u13 e13 => ⟨o2, by rw [e13, e1], ho2, fun _ => ⟨way_in (Or.inl rfl), fun u18 e18 => ⟨way_in (Or.inr rfl), fun u20 e20 => ⟨o2, by rw [e20, e1], ho2, o, by rw [e18, e0], ho, ?_⟩⟩⟩, fun _ => here _⟩⟩⟩⟩⟩)⟩))
  exact kt_same hq ho ho2 _ hC.1.1.2 ht ht2 (fun r _ => ⟨fun _ => here _, fun _ => here _⟩)
theorem kr_wipe (hq : kV q) (hH : HOI x q) (hP : ∀ y, HOI y q → (y.1 20 1 = 0 ∧ y.1 0 9 = 0) ∧ ZR y → P (some (vi (x.1 20 1))) y) : KT G q (d + 1) zk_X11_wipe 0 [(0, vr 0)] [] x P := by
  refine kg_X11_wipe_0 hq (fun x1 e1 => kz_forget hq (fun y f h9 h10 hz hf => ?_))
  have hh : HOI y q := by
    have f1 : fm sCm x x1 := by rw [e1]; exact fm_si (fm_rf _ _) (by unfold sCm; omega)
    have e20 : y.1 20 1 = 0 := by rw [f 20 1 (by unfold sFo; omega), e1, si_get, if_pos ⟨rfl, rfl⟩]
    refine HOI_z (fm_tr f1 (fm_w f (fun c k => fo_cm))) ?_ (fun e => absurd h9 e) h10 hz hH (fun o hO hn => ?_)
    · unfold kL; rw [e20]; decide
    · rw [hf o hO hn, e1, si_get, if_neg (by omega)]
  · exact hP y hh ⟨⟨by rw [f 20 1 (by unfold sFo; omega), e1, si_get, if_pos ⟨rfl, rfl⟩], h9⟩, ZR_of h10 hz hh⟩
theorem kr_feed (hq : kV q) (hH : HOI x q) (l1 : Int32) (l2 : Int64) (hA : ¬ (1 ≤ l1.toInt ∧ l1.toInt ≤ 8 ∧ (x.1 20 1).toInt + l1.toInt ≤ 3000) → X iAE x) (hP : (1 ≤ l1.toInt ∧ l1.toInt ≤ 8 ∧ (x.1 20 1).toInt + l1.toInt ≤ 3000) → ∀ y, HOI y q → ((y.1 20 1).toInt = (x.1 20 1).toInt + l1.toInt ∧ y.1 0 9 = 0 ∧ FBc x l2 l1.toInt.toNat y) ∧ ZR y → P (some (vi (y.1 20 1))) y) : KE G q (d + 7) zk_X11_feed 0 [(0, vr 0), (1, vi l1), (2, vl l2)] [] x P X := by
  have k1 : (1 : Int32).toInt = 1 := rfl
  have k8 : (8 : Int32).toInt = 8 := rfl
  have k3 : (3000 : Int32).toInt = 3000 := rfl
  have bL := hH.1
  unfold kL at bL
  refine kg_X11_feed_0 hq l1 l2 ⟨fun c => kg_X11_feed_11 hq (hA ?_), fun c1 => ⟨fun c8 => ⟨fun c3 => ?_, fun c3 => hA ?_⟩, fun c8 => kg_X11_feed_11 hq (hA ?_)⟩⟩
  · rw [t_lt, k1] at c; omega
  · rw [t_lt, k1] at c1
    rw [t_le, k8] at c8
    rw [t_le, k3, t_add (by omega) (by omega)] at c3
    have hok : 1 ≤ l1.toInt ∧ l1.toInt ≤ 8 ∧ (x.1 20 1).toInt + l1.toInt ≤ 3000 := by omega
    have loop : ∀ (n k : Nat) (i : Int32) (y : gd), i.toInt = k → (k : Int) ≤ l1.toInt → l1.toInt - k ≤ n → fm (fun c k => c = 21 ∨ (c = 20 ∧ k = 1)) x y → kL y → (y.1 20 1).toInt = (x.1 20 1).toInt + k ∧ FBc x l2 k y → KE G q (d + 7) zk_X11_feed 49 [(0, vr 0), (1, vi l1), (2, vl l2), (4, vi i)] [] y P X := by
      intro n
      have fin : ∀ (k : Nat) (y : gd), (k : Int) = l1.toInt → fm (fun c k => c = 21 ∨ (c = 20 ∧ k = 1)) x y → kL y → (y.1 20 1).toInt = (x.1 20 1).toInt + k ∧ FBc x l2 k y → KT G q (d + 6) zk_X11_forgetAll 0 [(0, vr 0)] [] y (rv (fun x2 => P (some (vi (x2.1 20 1))) x2)) := by
        intro k y ek fy hL el
        refine kz_forget hq (fun z f h9 h10 hz hf => ?_)
        have hh : HOI z q := by
          have f1 : fm sCm x y := fm_w fy (fun c k q => by unfold sCm; omega)
          refine HOI_z (fm_tr f1 (fm_w f (fun c k => fo_cm))) ?_ (fun e => absurd h9 e) h10 hz hH (fun o hO hn => ?_)
          · unfold kL at hL ⊢; rw [f 20 1 (by unfold sFo; omega)]; exact hL
          · rw [hf o hO hn, fy o 0 (by omega)]
        · refine hP hok z hh ⟨⟨by rw [f 20 1 (by unfold sFo; omega), el.1, ek], h9, ?_⟩, ZR_of h10 hz hh⟩
          have ekn : l1.toInt.toNat = k := by omega
          rw [ekn]
          exact ⟨fun p hp => by rw [f 21 p (by unfold sFo; omega)]; exact el.2.1 p hp, fun j hj => by rw [f 21 _ (by unfold sFo; omega)]; exact el.2.2 j hj⟩
      induction n with
      | zero =>
        intro k i y ei hk hn fy hL el
        refine kg_X11_feed_49 hq l1 l2 i ⟨fun c => fin k y (by omega) fy hL el, fun c => ?_⟩
        rw [t_le] at c; omega
      | succ n ih =>
        intro k i y ei hk hn fy hL el
        refine kg_X11_feed_49 hq l1 l2 i ⟨fun c => fin k y (by rw [t_le] at c; omega) fy hL el, fun c => ?_⟩
        rw [t_le] at c
        have k3' : (3000 : Int32).toInt = 3000 := rfl
        have hL0 := hL
        unfold kL at hL0
        have e1 := el.1
        have ub := t_cl (x.1 20 1)
        have uy := t_cl (y.1 20 1)
        refine kg_X9_addByte_0 hq _ ⟨fun c2 => ?_, fun c2 => ⟨by rw [vp_in_iff]; omega, fun x3 e3 x4 e4 => rv_i (ih (k + 1) _ x4 (by rw [t_add (by rw [k1]; omega) (by rw [k1]; omega), k1, ei]; rfl) (by push_cast; omega) (by push_cast; omega) (fm_tr fy ?_) ?_ ⟨?_, fun p hp => ?_, fun j hj => ?_⟩)⟩⟩
        · exfalso; rw [t_le, k3'] at c2; omega
        · rw [e4, e3]; exact fm_si (fm_si (fm_rf _ _) (Or.inl rfl)) (Or.inr ⟨rfl, rfl⟩)
        · have e : x4.1 20 1 = y.1 20 1 + 1 := by rw [e4, e3]; (simp only [si_get, sfl_get, Nat.reduceEqDiff, eq_self, and_false, false_and, and_true, true_and, if_true, if_false, reduceIte, reduceCtorEq])
          unfold kL
          rw [e, t_add (by rw [k1]; omega) (by rw [k1]; omega), k1]
          omega
        · have e : x4.1 20 1 = y.1 20 1 + 1 := by rw [e4, e3]; (simp only [si_get, sfl_get, Nat.reduceEqDiff, eq_self, and_false, false_and, and_true, true_and, if_true, if_false, reduceIte, reduceCtorEq])
          rw [e, t_add (by rw [k1]; omega) (by rw [k1]; omega), k1]
          push_cast; omega
        · rw [e4, si_cell (by decide), e3, si_get, if_neg (fun z => ?_)]
          · exact el.2.1 p hp
          · have := z.2
            omega
        · have ey : (y.1 20 1).toNatClampNeg = (x.1 20 1).toNatClampNeg + k := by omega
          rw [e4, si_cell (by decide), e3, si_get, ey]
          by_cases cj : j = k
          · rw [if_pos ⟨rfl, by rw [cj]⟩]
            have ek : i = Int32.ofNat j := by
              rw [t_eq, ei, cj]
              have : (k : Int) < 8 := by omega
              exact (Int32.toInt_ofNat_of_lt (by omega)).symm
            rw [ek]
            rfl
          · rw [if_neg (fun z => cj (by have := z.2; omega))]
            exact el.2.2 j (by omega)
    exact loop 8 0 _ x rfl (by omega) (by omega) (fm_rf _ _) hH.1 ⟨by push_cast; omega, fun p hp => rfl, fun j hj => absurd hj (Nat.not_lt_zero _)⟩
  · rw [t_lt, k1] at c1
    rw [t_le, k8] at c8
    rw [t_le, k3, t_add (by omega) (by omega)] at c3
    omega
  · rw [t_le, k8] at c8; omega
end KFR8
section KFR9
variable {G : kG} {q q0 q1 : kP} {d : Nat} {x x0 y z : gd} {o : Nat} {P : Option gv → gd → kP → Prop} {X : String → gd → kP → Prop}
theorem kr_linear (hu : kU q) (hH : HOI x q) (l : Int32) (hS : X iSE x q) (hA : X iAE x q) (hP : ∀ r y q1, kU q1 → kle q q1 → HOI y q1 → KRd x y → P (some (vi r)) y q1) : KM G q (d + 18) zk_X11_linear 0 [(0, vr 0), (1, vi l)] [] x P X := by
  have p56 : ∀ (q1 : kP) (y : gd), kU q1 → kle q q1 → HOI y q1 → JN y → q1.hi = true → KRd x y → KM G q1 (d + 18) zk_X11_linear 56 [(0, vr 0), (1, vi l)] [] y P X := by
    intro q1 y hu1 hl1 hH1 hJ hh el
    refine kg_X11_linear_56 (d := d + 11) hu1 l (fun u1 e1 => ⟨by rw [e1, k08_t hh], hh, kh_take (d := d + 16) hu1.1 hh hJ (fun z fz hc u3 e3 => ⟨by rw [e3, k08_t hh], hh, kh_fewest hu1.1 hh l hc.1 (fun r w fw => ?_)⟩)⟩)
    have f : fm sNw y w := fm_tr (fm_w fz (fun c k q => by unfold sHi at q; unfold sNw; omega)) (fm_w fw (fun c k q => by unfold sHl at q; unfold sNw; omega))
    have hw := HOI_mk (kle_rf q1) hu1 f hH1
    have e20 : KRd x w := fm_tr el (fm_w f (fun c k q => by unfold sNw at q; unfold sRd; omega))
    exact ⟨fun _ => hP _ w q1 hu1 hl1 hw e20, fun _ => hP _ w q1 hu1 hl1 hw e20⟩
  refine kg_X11_linear_0 (d := d + 11) hu l (kz_run hu.1 hH hS (fun hR => ⟨fun _ => kg_X11_linear_13 hu hA, fun _ => ⟨fun _ => ⟨fun _ u5 e5 => ⟨fun hn => ⟨k08_n (by rw [← e5, hn]), fun q8 x9 e8 e9 hu8 hl8 => ?_⟩, fun c7 h7 => p56 q x hu (kle_rf q) hH hR.2.2 (k08_s (e5.symm.trans h7)) KR_rf⟩, fun _ => hP _ x q hu (kle_rf q) hH KR_rf⟩, fun _ => kg_X11_linear_13 hu hA⟩⟩))
  have f9 : fm sNw x x9 := by
    rw [e9]
    refine fm_new (fun c hc k => ?_)
    have := (by decide +kernel : ∀ c ∈ 180 :: ops_180.flatMap xtch, (180 ≤ c ∧ c < 260) ∨ 300 ≤ c) c hc
    exact this
  exact p56 q8 x9 hu8 hl8 (HOI_mk hl8 hu8 f9 hH) (JN_o (fun c k a b => f9 c k (by unfold sNw; omega)) hR.2.2) (by rw [e8]; rfl) (fm_w f9 (fun c k q => by unfold sNw at q; unfold sRd; omega))
theorem kr_compile (hu : kU q) (hH : HOI x q) (hP : ∀ r y q1, (q1 = q ∨ q1 = kTh q) → kU q1 → HOI y q1 → y.1 20 1 = x.1 20 1 → CCf x y → ZR y → P (some (vi r)) y q1) : KM G q (d + 14) zk_X11_compile 0 [(0, vr 0)] [] x P X := by
  have hfin : ∀ (r : Int32) (y : gd) (q1 : kP), (q1 = q ∨ q1 = kTh q) → Bs x q y → (¬ y.1 0 9 = 0 → CO y) → CCf x y → P (some (vi r)) y q1 := by
    intro r y q1 h1 hB hC hcf
    obtain ⟨b1, b2, b3, ⟨b4, b5⟩, b6⟩ := hB
    have hh : HOI y q := HOI_z b1 b2 hC b3 b4 hH b5
    rcases h1 with e | e
    · subst e; exact hP r y _ (Or.inl rfl) hu hh b6 hcf (ZR_of b3 b4 hh)
    · subst e; exact hP r y _ (Or.inr rfl) (kTh_U hu) (HOI_th hh) b6 hcf (ZR_of b3 b4 hh)
  have p116 : ∀ (q1 : kP) (y : gd) (l1 s0 : Int32), (q1 = q ∨ q1 = kTh q) → kU q1 → Bs x q y → (¬ y.1 0 9 = 0 → LPre y) → CCz x y → KM G q1 (d + 14) zk_X11_compile 116 [(0, vr 0), (1, vi l1)] [vi s0, vr 0] y P X := by
    intro q1 y l1 s0 h1 hu1 hB hL hZ
    refine kg_X11_compile_116 (d := d + 13) hu1 l1 s0 (fun x1 e1 => ?_)
    have f1 : fm (fun c k => c = 0 ∧ k = 12) y x1 := by rw [e1]; exact fm_si (fm_rf _ _) ⟨rfl, rfl⟩
    have hB1 : Bs x q x1 := Bs_st (fm_w f1 (fun c k q => by omega)) hB
    have e9 : x1.1 0 9 = y.1 0 9 := f1 _ _ (by omega)
    refine ⟨fun c => ?_, fun c => hfin _ x1 q1 h1 hB1 (fun e => absurd c e) (CCz_f (CCz_st (fm_w f1 (fun c k q => by omega)) hZ) c)⟩
    have c9 := c
    rw [e9] at c
    obtain ⟨a, b, o1, o2, o3⟩ := LPre_0 (fm_w f1 (fun c k q => q.1)) (hL c)
    refine kf_link hu1.1 (OT_j o2 o1) o3 (fun w hC fw lk1 lk2 => ?_)
    exact hfin _ w q1 h1 (Bs_st (fm_w fw (fun c k q => by omega)) hB1) (fun _ => hC) (CCz_lk (CCz_st (fm_w f1 (fun c k q => by omega)) hZ) c9 fw lk1 lk2)
  have p92 : ∀ (q1 : kP) (y : gd) (l1 l2 s0 : Int32), (q1 = q ∨ q1 = kTh q) → kU q1 → Bs x q y → (¬ y.1 0 9 = 0 → LPre y) → (y.1 0 9 = 0 → vp_in l2 702) → CCz x y → KM G q1 (d + 14) zk_X11_compile 92 [(0, vr 0), (1, vi l1), (2, vi l2)] [vi s0, vr 0] y P X := by
    intro q1 y l1 l2 s0 h1 hu1 hB hL hv hZ
    refine kg_X11_compile_92 (d := d + 13) hu1 l1 l2 s0 (fun x1 e1 => ?_)
    have f1 : fm (fun c k => c = 0 ∧ k = 11) y x1 := by rw [e1]; exact fm_si (fm_rf _ _) ⟨rfl, rfl⟩
    have hB1 : Bs x q x1 := Bs_st (fm_w f1 (fun c k q => by omega)) hB
    have e9 : x1.1 0 9 = y.1 0 9 := f1 _ _ (by omega)
    have hL1 : ¬ x1.1 0 9 = 0 → LPre x1 := fun c => LPre_0 (fm_w f1 (fun c k q => q.1)) (hL (by rw [← e9]; exact c))
    have hZ1 := CCz_st (fm_w f1 (fun c k q => by omega)) hZ
    exact ⟨fun c => ⟨hv (by rw [← e9]; exact c), p116 q1 x1 l1 _ h1 hu1 hB1 hL1 hZ1⟩, fun c => p116 q1 x1 l1 _ h1 hu1 hB1 hL1 hZ1⟩
  have p58 : ∀ (q1 : kP) (y : gd) (l1 l2 : Int32), (q1 = q ∨ q1 = kTh q) → kU q1 → Bs x q y → (l1 = 0 → LPre y) → (¬ l1 = 0 → vp_in l2 702) → CCv x y l1 → KM G q1 (d + 14) zk_X11_compile 58 [(0, vr 0), (1, vi l1), (2, vi l2)] [] y P X := by
    intro q1 y l1 l2 h1 hu1 hB hL hv hZ
    have p68 : ∀ s0 : Int32, gbool s0 → (s0 = 0 ↔ ¬ l1 = 0) → (¬ s0 = 0 → LPre y) → (s0 = 0 → vp_in l2 702) → KM G q1 (d + 14) zk_X11_compile 68 [(0, vr 0), (1, vi l1), (2, vi l2)] [vi s0, vr 0] y P X := by
      intro s0 g hs9 hL0 hv0
      refine kg_X11_compile_68 (d := d + 13) hu1 l1 l2 s0 ⟨g, fun x1 e1 => ?_⟩
      have f1 : fm (fun c k => c = 0 ∧ k = 9) y x1 := by rw [e1]; exact fm_si (fm_rf _ _) ⟨rfl, rfl⟩
      have hB1 : Bs x q x1 := Bs_st (fm_w f1 (fun c k q => by omega)) hB
      have e9 : x1.1 0 9 = s0 := by rw [e1, si_get, if_pos ⟨rfl, rfl⟩]
      have hL1 : ¬ x1.1 0 9 = 0 → LPre x1 := fun c => LPre_0 (fm_w f1 (fun c k q => q.1)) (hL0 (by rw [← e9]; exact c))
      have hv1 : x1.1 0 9 = 0 → vp_in l2 702 := fun c => hv0 (by rw [← e9]; exact c)
      have hZ1 : CCz x x1 := CCv_z f1 (by rw [e9]; exact hs9) hZ
      exact ⟨fun c => ⟨hv1 c, p92 q1 x1 l1 l2 _ h1 hu1 hB1 hL1 hv1 hZ1⟩, fun c => p92 q1 x1 l1 l2 _ h1 hu1 hB1 hL1 hv1 hZ1⟩
    refine kg_X11_compile_58 (d := d + 13) hu1 l1 l2 ⟨fun c => p68 0 gbool_0 ⟨fun _ => c, fun _ => rfl⟩ (fun e => absurd rfl e) (fun _ => hv c), fun c => p68 1 gbool_1 ⟨fun e => absurd e (by decide), fun e => absurd c e⟩ (fun _ => hL c) (fun e => absurd e (by decide))⟩
  refine kg_X11_compile_0 (d := d + 13) hu (kz_forget hu.1 (fun x1 f1 e9 e10 hz hf => ?_))
  have hB1 : Bs x q x1 := by
    have e20 : x1.1 20 1 = x.1 20 1 := f1 _ _ (by unfold sFo; omega)
    refine ⟨fm_w f1 (fun c k => fo_cm), ?_, e10, ⟨hz, hf⟩, e20⟩
    have := hH.1
    unfold kL at this ⊢; rw [e20]; exact this
  have e21 : ∀ k, x1.1 21 k = x.1 21 k := fun k => f1 _ _ (by unfold sFo; omega)
  have eb : kby x1 = kby x := by funext p; unfold kby; rw [e21]
  have el1 : kln x1 = kln x := by unfold kln; rw [hB1.2.2.2.2]
  refine kf_cut (d := d + 3) hu.1 hB1.2.1 (fun x2 e f2 hK => ?_)
  rw [eb, el1] at hK
  have hT2 : kT x2 := hK.2.2.2
  have hB2 : Bs x q x2 := Bs_st (fm_w f2 (fun c k q => by unfold skC at q; omega)) hB1
  have z21 : ∀ k, x2.1 21 k = x.1 21 k := fun k => by rw [f2 21 k (by unfold skC; omega)]; exact e21 k
  have hKA := KA_ct hK
  obtain ⟨W, eW⟩ : ∃ W, W = pAl (ctK x2 e) (ctV x2 e) 701 (0, 0, 0, 0, 0) 0 [] := ⟨_, rfl⟩
  refine kh_readAll (d := d) hu.1 hT2 hKA (fun no y fy vy hn => ⟨rfl, ?_⟩) eW (fun y n L hOT hW hk0 hAy hny hHA hHB hTb hCn hCc => ?_)
  · have hBy : Bs x q y := Bs_st (fm_w fy (fun c k q => by unfold sR at q; omega)) hB2
    refine kg_X11_compile_42 (d := d + 13) (kTh_U hu) (kg_X7_tokenHere_0 (kTh_U hu).1 (ri_i ?_))
    refine p58 (kTh q) y _ _ (Or.inr rfl) (kTh_U hu) hBy (fun e => absurd e hn) (fun _ => vy) ⟨x2, e, hK, z21, fun k => by rw [fy 21 k (by unfold sR; omega)]; exact z21 k, Or.inr ⟨fun n j L e2 => ?_, hn⟩⟩
    rw [← eW, no] at e2
    exact absurd e2 (by simp)
  · have hBy : Bs x q y := Bs_st (fm_w hOT.2.2.2.2.2.1 (fun c k q => by unfold sR at q; omega)) hB2
    have hkT : kT y := hOT.1.1.1
    have hnx : 0 ≤ nx y := hOT.1.1.2.1
    have hnm : nx y ≤ mt y := hOT.1.1.2.2.2
    have hUS : US y := hOT.1.2.1
    have hFR := hOT.2.1
    have cy := nn_is hnx
    have hmt : (y.1 20 7).toInt ≤ 701 := by
      obtain ⟨-, n, hn, hn2, -⟩ := hkT
      omega
    have y21 : ∀ k, y.1 21 k = x.1 21 k := fun k => by rw [hOT.2.2.2.2.2.1 21 k (by unfold sR; omega)]; exact z21 k
    rw [eW] at hW
    obtain ⟨N9, eN, hok, srt, hbd, -⟩ := pAl_dT 701 _ _ _ _ hW
    have eN : L = N9 := eN
    rw [← eN] at hok srt hbd
    have hT1 : ∀ q ∈ L.filterMap (te1 (ctK x2 e) (ctV x2 e)), ctK x2 e q.1 = 1 ∧ q.1 < nn y := fun q hq => by
      obtain ⟨v, hv, ev⟩ := te_mem hq
      obtain ⟨g1, g2, -⟩ := te_is ev
      refine ⟨?_, (hbd q hq).2⟩
      rw [g2]
      exact (hok v hv).1 (by rcases g1 with g | g | g | g <;> rw [g] <;> decide)
    have hcf := CF_is (sN := smkB x2) (R := smk y) (Vx := y.1 27) (U := y.1 42) (fun a b z => smkB_is.mpr (smk_s (smkB_is.mp z))) (fun a b c z1 z2 => smkB_is.mpr (smk_t (smkB_is.mp z1) (smkB_is.mp z2))) rfl srt hok hT1 (fun a b ha hb ka kb => hAy.2.2.1 a b (by omega) (by omega) ka kb) (fun j hj k2 => hAy.2.1 j (by omega) k2) hHA hHB
    have lt9 : ∀ j : Nat, (j : Int) < (y.1 20 7).toInt → ¬ y.1 42 j = 0 → j < nn y := fun j hj h0 => by
      by_cases c : (j : Int) < nx y
      · omega
      · by_cases heq : (j : Int) = nx y
        · unfold FR at hFR
          have ej : (y.1 100 4).toNatClampNeg = j := by rw [t_cl]; show (nx y).toNat = j; omega
          rw [ej] at hFR
          exact absurd hFR h0
        · exact absurd (hUS.1 j (by omega) (by omega)) h0
    have hmy : mt y = (y.1 20 7).toInt := rfl
    refine kf_judge (d := d + 9) hu.1 hkT hOT.2.2.1.2.1 hTb (fun q hq => ?_) (fun j hj h0 => ?_) (fun j hj h12 => ?_) (fun r z fz hr0 hr1 hr2 hr3 => ?_)
    · obtain ⟨v, -, ev⟩ := te_mem hq
      exact te_srt ev
    · obtain ⟨v, E', hb⟩ := HBs_ex (hHB j (lt9 j hj h0) h0)
      exact HB_u hb
    · have hlt := lt9 j hj (by rw [h12]; decide)
      exact hUS.2 j (by omega) h12
    · have hBz : Bs x q z := Bs_st (fm_w fz (fun c k q => by omega)) hBy
      have emt : mt z = mt y := by unfold mt; rw [fz 20 7 (by omega)]
      have key : r = 0 ↔ ¬ jFl (smkB x2) (ctK x2 e) (ctV x2 e) L := by
        rw [hr2, ← hcf]
        refine ⟨fun g ⟨j, h1, h2⟩ => g ⟨j, by omega, h2⟩, fun g ⟨j, h1, h2⟩ => g ⟨j, lt9 j h1 (CF_n0 h2), h2⟩⟩
      refine p58 q z r _ (Or.inl rfl) hu hBz (fun e => ⟨x2, y, hOT, fm_w fz (fun c k q => by omega), fun j hj => hr0 e j (by rw [emt] at hj; exact hj)⟩) (fun e => ?_) ⟨x2, e, hK, z21, fun k => by rw [fz 21 k (by omega)]; exact y21 k, ?_⟩
      · have ht := hr1 e
        unfold tk at ht
        obtain ⟨-, n, hn, hn2, -⟩ := hkT
        rw [vp_in_iff]; omega
      · by_cases c0 : r = 0
        · refine Or.inl ⟨n, nn y, L, hW, key.mp c0, c0, CNk_k hCn (fun k hk => fz _ _ (by omega)), CCp_eq (fun c k q => fz c k (by unfold ccS at q; omega)) hCc, TBk_j hTb fz, fun j hj => ?_, fun j hj => ?_, ⟨nn y, ?_, ?_⟩, ?_, by rw [emt]; exact hmt⟩
          · have e42 : z.1 42 = y.1 42 := by funext k; exact fz 42 k (by omega)
            have hj' : (j : Int) < (y.1 20 7).toInt := by rw [emt] at hj; exact hj
            refine ⟨?_, fun z9 => ?_⟩
            · have sm : smk y = smk x2 := smk_e (fun c k q1 q2 => hOT.2.2.2.2.2.1 c k (by unfold sR; omega))
              have er : (fun a b => smkB x2 a b = true) = smk y := by
                funext a b
                rw [sm]
                exact propext smkB_is
              rw [er, e42]
              exact hr3 c0 j hj'
            · have := (hr0 c0 j hj').1
              rw [z9] at this
              revert this
              decide
          · have le : j ≤ e := by
              by_cases cc : j ≤ e
              · exact cc
              · unfold ctK at hj
                rw [if_neg cc] at hj
                exact absurd hj (by decide)
            rw [fz 27 j (by omega)]
            exact hAy.2.1 j le hj
          · have e42 : z.1 42 = y.1 42 := by funext k; exact fz 42 k (by omega)
            rw [e42]; exact hHA
          · rw [emt]; omega
          · have a := tPs_800 (sN := smkB x2) (E := E0v) hW
            have b := hAy.2.2.2.1
            omega
        · refine Or.inr ⟨fun n' j' L' e2 => ?_, c0⟩
          rw [hW] at e2
          have e3 : L = L' := congrArg (fun q : gN × Nat × gU => q.2.2) (Option.some.inj e2)
          rw [← e3]
          exact Classical.byContradiction (fun z => c0 (key.mpr z))
end KFR9
end
section
/-! class and model together: runs and tryings alike -/
def JC (C : gCo) (x w : gd) : Prop := (¬ x.1 0 9 = 0 ∧ w.1 0 66 = 1 ∧ x.1 60 6 = w.1 0 23 ∧ x.1 60 9 = w.1 0 24 ∧ x.1 60 10 = w.1 0 25 ∧ x.1 60 14 = w.1 0 26 ∧ x.1 60 16 = w.1 0 27) ∧ CK x C ∧ MK w C ∧ gdC C
def RNw (C : gCo) (wr n : Nat) (x w : gd) : Prop := (x.1 0 10 = 0 ∧ w.1 0 67 = 0) ∨ (¬ x.1 0 10 = 0 ∧ ¬ w.1 0 67 = 0 ∧ KRun C wr n (c96 w) x ∧ HistC C wr w ∧ (w.1 0 94).toInt = (n : Nat))
def TRw (C : gCo) (lm : Nat → Nat) (x w : gd) : Prop := ∀ wn, (wn = 0 ∨ wn = 1) → (x.1 (260 + 20 * wn) 0 = 0 ∧ w.1 119 wn = 0) ∨ (¬ x.1 (260 + 20 * wn) 0 = 0 ∧ ¬ w.1 119 wn = 0 ∧ TR3 C wn x (260 + 20 * wn) (tryM C wn (lm wn)) ∧ TYc C wn w (tryM C wn (lm wn)))
def ZM (w : gd) : Prop := w.1 0 67 = 0 ∧ w.1 119 0 = 0 ∧ w.1 119 1 = 0
def JH (C : gCo) (wr n : Nat) (lm : Nat → Nat) (x w : gd) : Prop := TXs x w ∧ (((x.1 0 9 = 0 ∧ w.1 0 66 = 0 ∧ z5 w) ∧ ZR x ∧ ZM w ∧ C = ([], [], [], [], [])) ∨ (JC C x w ∧ RNw C wr n x w ∧ TRw C lm x w))
def JR3 (x w : gd) : Prop := ∃ (C : gCo) (wr n : Nat) (lm : Nat → Nat), JH C wr n lm x w
section JN3
variable {C : gCo} {wr n : Nat} {lm : Nat → Nat} {x y w w' : gd} {q : kP} {l l1 l2 : Int32}
theorem GC_0 : GC (([], [], [], [], []) : gCo) := by
  refine ⟨⟨fun j st h => ?_, fun q h => ?_, fun Q h => ?_⟩, fun j st h => ?_, Nat.zero_le _, fun s st h => absurd (gt_lt h) (Nat.not_lt_zero _), fun s st h => absurd (gt_lt h) (Nat.not_lt_zero _), Nat.zero_le _⟩
  · exact absurd (gt_lt h) (Nat.not_lt_zero _)
  · cases h
  · rcases h with h | h <;> cases h
  · exact absurd (gt_lt h) (Nat.not_lt_zero _)
theorem NX3_0 : NX3 (([], [], [], [], []) : gCo) := fun j st h => absurd (gt_lt h) (Nat.not_lt_zero _)
theorem JC_C (hC : CO x) (h : JC C x w) : GC C ∧ NX3 C ∧ LkN C (x.1 60 9).toInt.toNat ∧ NCq C ∧ (x.1 60 9).toInt = ((x.1 60 9).toInt.toNat : Nat) ∧ (x.1 60 9).toInt.toNat ≤ 6 ∧ C.2.2.1.length ≤ 24 ∧ (w.1 0 26).toInt = (C.2.2.2.1.length : Nat) ∧ (w.1 0 27).toInt = (C.2.2.2.2.length : Nat) := by
  obtain ⟨⟨a1, a2, a3, a4, a5, a6, a7⟩, k1, k2, g1, g2, g3, g4⟩ := h
  have c6 := hC.1.1
  have c9 := hC.1.2.1
  have c10 := hC.1.2.2.1
  have e6 : (x.1 60 6).toInt = (C.2.2.1.length : Nat) := k1.2.2.1.1
  have e10 : (x.1 60 10).toInt = (C.2.1.length : Nat) := k1.2.1.1
  have e14 : (x.1 60 14).toInt = (C.2.2.2.1.length : Nat) := k1.2.2.2.1.1
  have e16 : (x.1 60 16).toInt = (C.2.2.2.2.length : Nat) := k1.2.2.2.2.1
  have en : (x.1 60 9).toInt = ((x.1 60 9).toInt.toNat : Nat) := by omega
  exact ⟨⟨g1, NXc_of hC k1 g1 g2, by omega, JUf_of hC k1 g1⟩, g3, LkN_of hC k1 g1 en, NCq_of hC k1 g4, en, by omega, by omega, by rw [← a6]; exact e14, by rw [← a7]; exact e16⟩
theorem JH_gc (h : JH C wr n lm x w) (hH : HOI x q) : GC C ∧ NX3 C := by
  obtain ⟨-, ⟨-, -, -, e⟩ | ⟨j, -, -⟩⟩ := h
  · rw [e]; exact ⟨GC_0, NX3_0⟩
  · have := JC_C (hH.2.1 j.1.1) j
    exact ⟨this.1, this.2.1⟩
theorem JH_9 (h : JH C wr n lm x w) : x.1 0 9 = 0 ↔ w.1 0 66 = 0 := by
  obtain ⟨-, ⟨a, -⟩ | ⟨j, -⟩⟩ := h
  · exact ⟨fun _ => a.2.1, fun _ => a.1⟩
  · exact ⟨fun z => absurd z j.1.1, fun z => absurd (z.symm.trans j.1.2.1) (by decide)⟩
theorem JH_10 (h : JH C wr n lm x w) : x.1 0 10 = 0 ↔ w.1 0 67 = 0 := by
  obtain ⟨-, ⟨-, z, m, -⟩ | ⟨-, r, -⟩⟩ := h
  · exact ⟨fun _ => m.1, fun _ => z.1⟩
  · rcases r with ⟨a, b⟩ | ⟨a, b, -⟩
    · exact ⟨fun _ => b, fun _ => a⟩
    · exact ⟨fun z => absurd z a, fun z => absurd z b⟩
theorem JH_K (h : JH C wr n lm x w) (h9 : ¬ x.1 0 9 = 0) : JC C x w := by
  obtain ⟨-, ⟨a, -⟩ | ⟨j, -⟩⟩ := h
  · exact absurd a.1 h9
  · exact j
theorem JH_R (h : JH C wr n lm x w) (h10 : ¬ x.1 0 10 = 0) : JC C x w ∧ KRun C wr n (c96 w) x ∧ HistC C wr w ∧ (w.1 0 94).toInt = (n : Nat) := by
  obtain ⟨-, ⟨-, z, -⟩ | ⟨j, r, -⟩⟩ := h
  · exact absurd z.1 h10
  · rcases r with ⟨a, -⟩ | ⟨-, -, r⟩
    · exact absurd a h10
    · exact ⟨j, r⟩
/-- as many choices -/
theorem JH_84 (h : JH C wr n lm x w) (h10 : ¬ x.1 0 10 = 0) : x.1 120 13 = w.1 0 84 := by
  obtain ⟨-, r, hh, e94⟩ := JH_R h h10
  have e1 : (x.1 120 13).toInt = ((chM C wr (runM C wr (c96 w) n)).length : Nat) := r.2.1.2.2.1
  have e2 := HistC_n hh
  have en : (w.1 0 94).toInt.toNat = n := by rw [e94]; rfl
  rw [en] at e2
  rw [t_eq, e1, e2]
theorem JH_wr {wr' : Nat} (h : HistC C wr w) (g : HistC C wr' w) : wr' = wr := by
  obtain ⟨_, _, _, _, _, _, _, ⟨a1, a2⟩, _⟩ := h.1
  obtain ⟨_, _, _, _, _, _, _, ⟨b1, b2⟩, _⟩ := g.1
  exact wn_eq b1 a1 b2 a2
theorem JH_T (h : JH C wr n lm x w) : ∀ wn, (wn = 0 ∨ wn = 1) → (x.1 (260 + 20 * wn) 0 = 0 ↔ w.1 119 wn = 0) ∧ (¬ x.1 (260 + 20 * wn) 0 = 0 → JC C x w ∧ TR3 C wn x (260 + 20 * wn) (tryM C wn (lm wn)) ∧ TYc C wn w (tryM C wn (lm wn))) := by
  intro wn w01
  obtain ⟨-, ⟨-, z, m, -⟩ | ⟨j, -, t⟩⟩ := h
  · have e1 := z.2 (260 + 20 * wn) (by omega)
    have e2 : w.1 119 wn = 0 := by rcases w01 with e | e <;> rw [e]; exact m.2.1; exact m.2.2
    exact ⟨⟨fun _ => e2, fun _ => e1⟩, fun z9 => absurd e1 z9⟩
  · rcases t wn w01 with ⟨a, b⟩ | ⟨a, b, c⟩
    · exact ⟨⟨fun _ => b, fun _ => a⟩, fun z9 => absurd a z9⟩
    · exact ⟨⟨fun z9 => absurd z9 a, fun z9 => absurd z9 b⟩, fun _ => ⟨j, c⟩⟩
theorem TXs_k (h : TXs x w) (k : KF x y) (p : PM w w') : TXs y w' := by
  obtain ⟨h1, h2⟩ := h
  obtain ⟨k1, k2, k3, k4⟩ := k
  obtain ⟨-, p1, p2, p3⟩ := p
  exact ⟨by rw [k1, p1]; exact h1, fun q hq => by rw [k3, p3 2 (by decide)]; exact h2 q (by rw [← k1]; exact hq)⟩
theorem JC_k (h : JC C x w) (k : KF x y) (p : PM w w') : JC C y w' := by
  obtain ⟨k1, k2, k3, k4⟩ := k
  obtain ⟨-, p1, p2, p3⟩ := p
  obtain ⟨a, c1, c2, c3⟩ := h
  refine ⟨?_, CK_f c1 k4, MK_f c2 p2 p3, c3⟩
  rw [k2, k4 60 6 (by omega), k4 60 9 (by omega), k4 60 10 (by omega), k4 60 14 (by omega), k4 60 16 (by omega), p2 23 (by decide), p2 24 (by decide), p2 25 (by decide), p2 26 (by decide), p2 27 (by decide), p2 66 (by decide)]
  exact a
theorem z5_k (h : z5 w) (p : PM w w') : z5 w' := by
  obtain ⟨-, p1, p2, p3⟩ := p
  unfold z5 at h ⊢
  rw [p2 23 (by decide), p2 24 (by decide), p2 25 (by decide), p2 26 (by decide), p2 27 (by decide)]
  exact h
/-- calls that only look -/
theorem JQ_rd (h : JH C wr n lm x w) (hH : HOI y q) (k : KRd x y) (m : rdM C wr w w') : JR3 y w' := by
  have g : ∀ c k, ¬ sRd c k → y.1 c k = x.1 c k := k
  have kf := KR_KF k
  obtain ⟨p, ⟨m67, m94, m96⟩, m119, mh, mt⟩ := m
  have e10 : y.1 0 10 = x.1 0 10 := g _ _ (by unfold sRd; omega)
  have eo : ∀ o, (o = 260 ∨ o = 280) → y.1 o 0 = x.1 o 0 := fun o hO => g _ _ (by unfold sRd; omega)
  have ec : c96 w' = c96 w := by unfold c96; rw [m96]
  refine ⟨C, wr, n, lm, TXs_k h.1 kf p, ?_⟩
  rcases h.2 with ⟨⟨a1, a2, a3⟩, z, m, e⟩ | ⟨j, r, t⟩
  · refine Or.inl ⟨⟨by rw [kf.2.1]; exact a1, ?_, z5_k a3 p⟩, ⟨by rw [e10]; exact z.1, fun o hO => by rw [eo o hO]; exact z.2 o hO⟩, ⟨by rw [m67]; exact m.1, by rw [m119]; exact m.2.1, by rw [m119]; exact m.2.2⟩, e⟩
    rw [p.2.2.1 66 (by decide)]; exact a2
  · refine Or.inr ⟨JC_k j kf p, ?_, fun wn w01 => ?_⟩
    · rcases r with ⟨r1, r2⟩ | ⟨r1, r2, r3, r4, r5⟩
      · exact Or.inl ⟨by rw [e10]; exact r1, by rw [m67]; exact r2⟩
      · have y10 : ¬ y.1 0 10 = 0 := by rw [e10]; exact r1
        exact Or.inr ⟨y10, by rw [m67]; exact r2, by rw [ec]; exact KRun_rd k j.2.1 (hH.2.2.1 y10) r3, mh r4, by rw [m94]; exact r5⟩
    · rcases t wn w01 with ⟨t1, t2⟩ | ⟨t1, t2, t3, t4⟩
      · exact Or.inl ⟨by rw [eo _ (by omega)]; exact t1, by rw [m119]; exact t2⟩
      · exact Or.inr ⟨by rw [eo _ (by omega)]; exact t1, by rw [m119]; exact t2, TR3_rd (by omega) k t3, mt wn _ t4⟩
/-- calls that make a run, or do choices -/
theorem JQ_run {wr' n' : Nat} (h : JH C wr n lm x w) (h9 : ¬ x.1 0 9 = 0) (f : fm sRn x y) (p : PM w w') (e119 : w'.1 119 = w.1 119) (ty : ∀ wn T, TYc C wn w T → TYc C wn w' T) (r : KRun C wr' n' (c96 w') y) (h10 : ¬ y.1 0 10 = 0) (hh : HistC C wr' w') (h67 : ¬ w'.1 0 67 = 0) (h94 : (w'.1 0 94).toInt = (n' : Nat)) : JR3 y w' := by
  have kf := rn_20 f
  have eo : ∀ o, (o = 260 ∨ o = 280) → y.1 o 0 = x.1 o 0 := fun o hO => f _ _ (by unfold sRn; omega)
  refine ⟨C, wr', n', lm, TXs_k h.1 kf p, Or.inr ?_⟩
  rcases h.2 with ⟨⟨a1, -⟩, -⟩ | ⟨j, -, t⟩
  · exact absurd a1 h9
  · refine ⟨JC_k j kf p, Or.inr ⟨h10, h67, r, hh, h94⟩, fun wn w01 => ?_⟩
    rcases t wn w01 with ⟨t1, t2⟩ | ⟨t1, t2, t3, t4⟩
    · exact Or.inl ⟨by rw [eo _ (by omega)]; exact t1, by rw [e119]; exact t2⟩
    · exact Or.inr ⟨by rw [eo _ (by omega)]; exact t1, by rw [e119]; exact t2, TR3_rn (by omega) f t3, ty wn _ t4⟩
/-- what the model's calls leave: refused, or a run -/
def rnM (C : gCo) (wr n : Nat) (w w' : gd) : Prop := PM w w' ∧ w'.1 119 = w.1 119 ∧ (∀ wn T, TYc C wn w T → TYc C wn w' T) ∧ HistC C wr w' ∧ ¬ w'.1 0 67 = 0 ∧ (w'.1 0 94).toInt = (n : Nat)
theorem rnM_of {L A : List Nat} {wr' n' : Nat} (m : mi L A w w') (hA : [119, 120, 126, 130, 131, 132].all (fun k => !A.elem k) = true) (p : PM w w') (hh : HistC C wr' w') (h67 : ¬ w'.1 0 67 = 0) (h94 : (w'.1 0 94).toInt = (n' : Nat)) : rnM C wr' n' w w' := ⟨p, m.2.1 119 (by decide) (all_no hA 119 (by decide)), fun wn T h => TYc_mi m (all_sub hA rfl) h, hh, h67, h94⟩
/-! how a call answers: two ways to refuse, or an answer -/
def ansK (E1 E2 : Prop) (S : Int32 → gd → Prop) (x : gd) (r9 : Int32) (y : gd) : Prop := (E1 ∧ r9 = 1 ∧ KRd x y) ∨ (E2 ∧ r9 = 2 ∧ KRd x y) ∨ (¬ E1 ∧ ¬ E2 ∧ r9 = 0 ∧ ∃ r : Int32, y.2 299 (0 : Int32).toNatClampNeg = r.toInt64 ∧ S r y)
def ansM (C : gCo) (wr : Nat) (E1 E2 : Prop) (S : Int32 → gd → Prop) (w : gd) (r : Int32) (w' : gd) : Prop := MI w' ∧ ((E1 ∧ w'.1 0 0 = 1 ∧ rdM C wr w w') ∨ (E2 ∧ w'.1 0 0 = 2 ∧ rdM C wr w w') ∨ (¬ E1 ∧ ¬ E2 ∧ w'.1 0 0 = 0 ∧ S r w'))
def ansE (r9 r : Int32) (y w' : gd) : Prop := (r9 = 0 ∧ w'.1 0 0 = 0 ∧ y.2 299 (0 : Int32).toNatClampNeg = r.toInt64) ∨ (¬ r9 = 0 ∧ w'.1 0 0 = r9)
theorem ans_eq {E1 E2 E1' E2' : Prop} {S S' : Int32 → gd → Prop} {r9 r : Int32} (h : JH C wr n lm x w) (hH : HOI y q) (e1 : E1 ↔ E1') (e2 : E2 ↔ E2') (e3 : E1 → ¬ E2) (k : ansK E1 E2 S x r9 y) (m : ansM C wr E1' E2' S' w r w') (js : ¬ E1 → ¬ E2 → ∀ r', S r' y → S' r w' → JR3 y w' ∧ r' = r) : JR3 y w' ∧ ansE r9 r y w' := by
  obtain ⟨-, m⟩ := m
  rcases k with ⟨k1, k2, k3⟩ | ⟨k1, k2, k3⟩ | ⟨k1, k2, k3, r', k4, k5⟩
  · rcases m with ⟨m1, m2, m3⟩ | ⟨m1, m2, m3⟩ | ⟨m1, m2, m3, m4⟩
    · exact ⟨JQ_rd h hH k3 m3, Or.inr ⟨by rw [k2]; decide, by rw [m2, k2]⟩⟩
    · exact absurd (e2.mpr m1) (e3 k1)
    · exact absurd (e1.mp k1) m1
  · rcases m with ⟨m1, m2, m3⟩ | ⟨m1, m2, m3⟩ | ⟨m1, m2, m3, m4⟩
    · exact absurd k1 (e3 (e1.mpr m1))
    · exact ⟨JQ_rd h hH k3 m3, Or.inr ⟨by rw [k2]; decide, by rw [m2, k2]⟩⟩
    · exact absurd (e2.mp k1) m2
  · rcases m with ⟨m1, m2, m3⟩ | ⟨m1, m2, m3⟩ | ⟨m1, m2, m3, m4⟩
    · exact absurd (e1.mpr m1) k1
    · exact absurd (e2.mpr m1) k2
    · obtain ⟨j1, j2⟩ := js k1 k2 r' k5 m4
      exact ⟨j1, Or.inl ⟨k3, m3, by rw [k4, j2]⟩⟩
theorem JR3_84 (h : JR3 y w') (h10 : ¬ y.1 0 10 = 0) : y.1 120 13 = w'.1 0 84 := by
  obtain ⟨C, wr, n, lm, h⟩ := h
  exact JH_84 h h10
theorem JR3_94 (h : JR3 y w') (h10 : ¬ y.1 0 10 = 0) : y.1 160 2 = w'.1 0 94 := by
  obtain ⟨C, wr, n, lm, h⟩ := h
  obtain ⟨-, r, -, e⟩ := JH_R h h10
  rw [t_eq, e]
  exact r.2.2.2.1
theorem w_01 {wn : Nat} (h : wn = 0 ∨ wn = 1) (e : l = Int32.ofNat wn) : l = 0 ∨ l = 1 := by
  rcases h with rfl | rfl
  · exact Or.inl e
  · exact Or.inr e
/-! choices -/
abbrev e1Ch (x : gd) : Prop := x.1 0 10 = 0
def sCh (x : gd) (r : Int32) (y : gd) : Prop := r = x.1 120 13 ∧ KRd x y
abbrev f1Ch (w : gd) : Prop := w.1 0 67 = 0
def tCh (C : gCo) (wr : Nat) (w : gd) (r : Int32) (w' : gd) : Prop := r = w.1 0 84 ∧ rdM C wr w w'
theorem ja_choices {r9 r : Int32} (h : JH C wr n lm x w) (hH : HOI y q) (k : ansK (e1Ch x) False (sCh x) x r9 y) (m : ansM C wr (f1Ch w) False (tCh C wr w) w r w') : JR3 y w' ∧ ansE r9 r y w' :=
  ans_eq h hH (JH_10 h) Iff.rfl (fun _ z => z) k m (fun c _ r' s t => ⟨JQ_rd h hH s.2 t.2, by rw [s.1, t.1, JH_84 h c]⟩)
/-! begin -/
abbrev e1Bg (x : gd) : Prop := x.1 0 9 = 0
abbrev e2Bg (x : gd) (l : Int32) : Prop := ¬ x.1 0 9 = 0 ∧ ¬ (l = 0 ∨ l = 1)
def sBg (C : gCo) (x : gd) (l r : Int32) (y : gd) : Prop := r = y.1 120 13 ∧ ∃ wn : Nat, (wn = 0 ∨ wn = 1) ∧ l = Int32.ofNat wn ∧ fm sRn x y ∧ (∀ c, KRun C wn 0 c y) ∧ y.1 0 10 = 1
abbrev f1Bg (w : gd) : Prop := w.1 0 66 = 0
abbrev f2Bg (w : gd) (l : Int32) : Prop := ¬ w.1 0 66 = 0 ∧ ¬ (l = 0 ∨ l = 1)
def tBg (C : gCo) (w : gd) (l r : Int32) (w' : gd) : Prop := r = w'.1 0 84 ∧ ∃ wn : Nat, (wn = 0 ∨ wn = 1) ∧ l = Int32.ofNat wn ∧ rnM C wn 0 w w'
theorem ja_begin {r9 r : Int32} (h : JH C wr n lm x w) (hH : HOI y q) (k : ansK (e1Bg x) (e2Bg x l) (sBg C x l) x r9 y) (m : ansM C wr (f1Bg w) (f2Bg w l) (tBg C w l) w r w') : JR3 y w' ∧ ansE r9 r y w' := by
  have e9 := JH_9 h
  refine ans_eq h hH e9 ⟨fun z => ⟨fun a => z.1 (e9.mpr a), z.2⟩, fun z => ⟨fun a => z.1 (e9.mp a), z.2⟩⟩ (fun a z => z.1 a) k m (fun c _ r' s t => ?_)
  obtain ⟨s1, wn, k2, k3, k4, k5, k6⟩ := s
  obtain ⟨t1, wn', m2, m3, m4⟩ := t
  have e := wn_eq m2 k2 m3 k3
  subst e
  obtain ⟨p, e119, ty, hh, h67, h94⟩ := m4
  have y10 : ¬ y.1 0 10 = 0 := by rw [k6]; decide
  have j := JQ_run h c k4 p e119 ty (k5 _) y10 hh h67 h94
  exact ⟨j, by rw [s1, t1, JR3_84 j y10]⟩
/-! go -/
abbrev okGo (n : Nat) (x : gd) : Prop := ¬ x.1 0 10 = 0 ∧ n < 400
abbrev e1Go (n : Nat) (x : gd) : Prop := ¬ okGo n x
abbrev e2Go (n : Nat) (x : gd) (l : Int32) : Prop := okGo n x ∧ ¬ (0 ≤ l.toInt ∧ l.toInt < (x.1 120 13).toInt)
def sGo (C : gCo) (wr n : Nat) (c : Nat → Nat) (x : gd) (l r : Int32) (y : gd) : Prop := r = y.1 120 13 ∧ fm sRn x y ∧ KRun C wr (n + 1) (upf c n l.toNatClampNeg) y ∧ y.1 0 10 = x.1 0 10
abbrev okGm (w : gd) : Prop := ¬ w.1 0 67 = 0 ∧ (w.1 0 94).toInt < 400
abbrev f1Go (w : gd) : Prop := ¬ okGm w
abbrev f2Go (w : gd) (l : Int32) : Prop := okGm w ∧ ¬ (0 ≤ l.toInt ∧ l.toInt < (w.1 0 84).toInt)
def tGo (C : gCo) (wr n : Nat) (w : gd) (l r : Int32) (w' : gd) : Prop := r = w'.1 0 84 ∧ rnM C wr (n + 1) w w' ∧ c96 w' n = l.toNatClampNeg ∧ rwE (c96 w') (c96 w) n
theorem ja_go {r9 r : Int32} (h : JH C wr n lm x w) (hH : HOI y q) (k : ansK (e1Go n x) (e2Go n x l) (sGo C wr n (c96 w) x l) x r9 y) (m : ansM C wr (f1Go w) (f2Go w l) (tGo C wr n w l) w r w') : JR3 y w' ∧ ansE r9 r y w' := by
  have co : okGo n x ↔ okGm w := by
    by_cases c : x.1 0 10 = 0
    · exact ⟨fun z => absurd c z.1, fun z => absurd ((JH_10 h).mp c) z.1⟩
    · have e94 := (JH_R h c).2.2.2
      have c' : ¬ w.1 0 67 = 0 := fun z => c ((JH_10 h).mpr z)
      exact ⟨fun z => ⟨c', by have := z.2; omega⟩, fun z => ⟨c, by have := z.2; omega⟩⟩
  refine ans_eq h hH ⟨fun a b => a (co.mpr b), fun a b => a (co.mp b)⟩ ⟨fun z => ⟨co.mp z.1, by rw [← JH_84 h z.1.1]; exact z.2⟩, fun z => ⟨co.mpr z.1, by rw [JH_84 h (co.mpr z.1).1]; exact z.2⟩⟩ (fun a z => a z.1) k m (fun c _ r' s t => ?_)
  have c := Classical.not_not.mp c
  obtain ⟨s1, k2, k3, k4⟩ := s
  obtain ⟨t1, m2, m3, m4⟩ := t
  obtain ⟨p, e119, ty, hh, h67, h94⟩ := m2
  have y10 : ¬ y.1 0 10 = 0 := by rw [k4]; exact c.1
  have j := JQ_run h (JH_R h c.1).1.1.1 k2 p e119 ty (KRun_cg (fun j hj => by
    by_cases cj : j = n
    · rw [cj, upf_eq, m3]
    · rw [upf_ne cj, m4 j (by omega)]) k3) y10 hh h67 h94
  exact ⟨j, by rw [s1, t1, JR3_84 j y10]⟩
/-! draw -/
abbrev e2Dr (x : gd) (l2 : Int32) : Prop := ¬ x.1 0 10 = 0 ∧ ¬ (0 ≤ l2.toInt ∧ l2.toInt ≤ 400)
def sDr (C : gCo) (wr n : Nat) (c : Nat → Nat) (x : gd) (l1 l2 r : Int32) (y : gd) : Prop := r.toInt = ((drS C wr l2.toInt.toNat l1 c n).2 : Int) - n ∧ fm sRn x y ∧ KRun C wr (drS C wr l2.toInt.toNat l1 c n).2 (drS C wr l2.toInt.toNat l1 c n).1 y ∧ y.1 0 10 = x.1 0 10
abbrev f2Dr (w : gd) (l2 : Int32) : Prop := ¬ w.1 0 67 = 0 ∧ ¬ (0 ≤ l2.toInt ∧ l2.toInt ≤ 400)
def tDr (C : gCo) (wr n : Nat) (w : gd) (l1 l2 r : Int32) (w' : gd) : Prop := r.toInt = ((drS C wr l2.toInt.toNat l1 (c96 w) n).2 : Int) - n ∧ rnM C wr (drS C wr l2.toInt.toNat l1 (c96 w) n).2 w w' ∧ rwE (c96 w') (drS C wr l2.toInt.toNat l1 (c96 w) n).1 (drS C wr l2.toInt.toNat l1 (c96 w) n).2
theorem ja_draw {r9 r : Int32} (h : JH C wr n lm x w) (hH : HOI y q) (k : ansK (e1Ch x) (e2Dr x l2) (sDr C wr n (c96 w) x l1 l2) x r9 y) (m : ansM C wr (f1Ch w) (f2Dr w l2) (tDr C wr n w l1 l2) w r w') : JR3 y w' ∧ ansE r9 r y w' := by
  have e9 := JH_10 h
  refine ans_eq h hH e9 ⟨fun z => ⟨fun a => z.1 (e9.mpr a), z.2⟩, fun z => ⟨fun a => z.1 (e9.mp a), z.2⟩⟩ (fun a z => z.1 a) k m (fun c _ r' s t => ?_)
  obtain ⟨s1, k2, k3, k4⟩ := s
  obtain ⟨t1, m2, m3⟩ := t
  obtain ⟨p, e119, ty, hh, h67, h94⟩ := m2
  exact ⟨JQ_run h (JH_R h c).1.1.1 k2 p e119 ty (KRun_cg (fun j hj => (m3 j hj).symm) k3) (by rw [k4]; exact c) hh h67 h94, by rw [t_eq, s1, t1]⟩
/-! again -/
abbrev e2Ag (n : Nat) (x : gd) (l : Int32) : Prop := ¬ x.1 0 10 = 0 ∧ ¬ (0 ≤ l.toInt ∧ l.toInt ≤ (n : Nat))
def sAg (C : gCo) (wr : Nat) (c : Nat → Nat) (x : gd) (l r : Int32) (y : gd) : Prop := r = y.1 120 13 ∧ fm sRn x y ∧ KRun C wr l.toInt.toNat c y ∧ y.1 0 10 = 1
abbrev f2Ag (w : gd) (l : Int32) : Prop := ¬ w.1 0 67 = 0 ∧ ¬ (0 ≤ l.toInt ∧ l.toInt ≤ (w.1 0 94).toInt)
def tAg (C : gCo) (wr : Nat) (w : gd) (l r : Int32) (w' : gd) : Prop := r = w'.1 0 84 ∧ rnM C wr l.toInt.toNat w w' ∧ c96 w' = c96 w
theorem ja_again {r9 r : Int32} (h : JH C wr n lm x w) (hH : HOI y q) (k : ansK (e1Ch x) (e2Ag n x l) (sAg C wr (c96 w) x l) x r9 y) (m : ansM C wr (f1Ch w) (f2Ag w l) (tAg C wr w l) w r w') : JR3 y w' ∧ ansE r9 r y w' := by
  have e9 := JH_10 h
  refine ans_eq h hH e9 ⟨fun z => ⟨fun a => z.1 (e9.mpr a), by rw [(JH_R h z.1).2.2.2]; exact z.2⟩, fun z => ⟨fun a => z.1 (e9.mp a), by rw [← (JH_R h (fun a => z.1 (e9.mp a))).2.2.2]; exact z.2⟩⟩ (fun a z => z.1 a) k m (fun c _ r' s t => ?_)
  obtain ⟨s1, k2, k3, k4⟩ := s
  obtain ⟨t1, m2, m3⟩ := t
  obtain ⟨p, e119, ty, hh, h67, h94⟩ := m2
  have y10 : ¬ y.1 0 10 = 0 := by rw [k4]; decide
  have j := JQ_run h (JH_R h c).1.1.1 k2 p e119 ty (by rw [m3]; exact k3) y10 hh h67 h94
  exact ⟨j, by rw [s1, t1, JR3_84 j y10]⟩
/-! show -/
abbrev e1Sh (l1 l2 : Int32) : Prop := ¬ ((l1 = 0 ∨ l1 = 1) ∧ 0 ≤ l2.toInt ∧ l2.toInt < 11)
def shK (C : gCo) (Tw : Nat → gTy) (x : gd) (l1 l2 : Int32) : Prop := ∃ wn s : Nat, (wn = 0 ∨ wn = 1) ∧ l1 = Int32.ofNat wn ∧ 0 ≤ l2.toInt ∧ l2.toInt < 11 ∧ ¬ x.1 (260 + 20 * wn) 0 = 0 ∧ fsF C wn (Tw wn) l2.toInt.toNat s ∧ (pth (Tw wn) s).length ≤ 400
noncomputable abbrev twM (C : gCo) (lm : Nat → Nat) : Nat → gTy := fun v => tryM C v (lm v)
abbrev e2Sh (C : gCo) (lm : Nat → Nat) (x : gd) (l1 l2 : Int32) : Prop := ((l1 = 0 ∨ l1 = 1) ∧ 0 ≤ l2.toInt ∧ l2.toInt < 11) ∧ ¬ shK C (twM C lm) x l1 l2
def sSh (C : gCo) (lm : Nat → Nat) (x : gd) (l1 l2 r : Int32) (y : gd) : Prop := r = y.1 160 2 ∧ ∃ wn s : Nat, ((wn = 0 ∨ wn = 1) ∧ l1 = Int32.ofNat wn ∧ ¬ x.1 (260 + 20 * wn) 0 = 0 ∧ fsF C wn (twM C lm wn) l2.toInt.toNat s) ∧ fm sRn x y ∧ (∀ c, (∀ k v, (pth (twM C lm wn) s)[k]? = some v → c k = v) → KRun C wn (pth (twM C lm wn) s).length c y) ∧ y.1 0 10 = 1
abbrev f2Sh (C : gCo) (lm : Nat → Nat) (w : gd) (l1 l2 : Int32) : Prop := ((l1 = 0 ∨ l1 = 1) ∧ 0 ≤ l2.toInt ∧ l2.toInt < 11) ∧ ¬ shG C (twM C lm) w l1 l2
def tSh (C : gCo) (lm : Nat → Nat) (w : gd) (l1 l2 r : Int32) (w' : gd) : Prop := r = w'.1 0 94 ∧ ∃ wn s : Nat, ((wn = 0 ∨ wn = 1) ∧ l1 = Int32.ofNat wn ∧ ¬ w.1 119 wn = 0 ∧ fsF C wn (twM C lm wn) l2.toInt.toNat s) ∧ rnM C wn (pth (twM C lm wn) s).length w w' ∧ ∀ k v, (pth (twM C lm wn) s)[k]? = some v → c96 w' k = v
theorem ja_show {r9 r : Int32} (h : JH C wr n lm x w) (hH : HOI y q) (k : ansK (e1Sh l1 l2) (e2Sh C lm x l1 l2) (sSh C lm x l1 l2) x r9 y) (m : ansM C wr (e1Sh l1 l2) (f2Sh C lm w l1 l2) (tSh C lm w l1 l2) w r w') : JR3 y w' ∧ ansE r9 r y w' := by
  have tt := JH_T h
  have co : shK C (twM C lm) x l1 l2 ↔ shG C (twM C lm) w l1 l2 := ⟨fun ⟨wn, s, a1, a2, a3, a4, a5, a6⟩ => ⟨wn, s, a1, a2, a3, a4, fun z => a5 ((tt wn a1).1.mpr z), a6⟩, fun ⟨wn, s, a1, a2, a3, a4, a5, a6⟩ => ⟨wn, s, a1, a2, a3, a4, fun z => a5 ((tt wn a1).1.mp z), a6⟩⟩
  refine ans_eq h hH Iff.rfl ⟨fun z => ⟨z.1, fun a => z.2 (co.mpr a)⟩, fun z => ⟨z.1, fun a => z.2 (co.mp a)⟩⟩ (fun a z => a z.1) k m (fun c _ r' s t => ?_)
  obtain ⟨s1, wn, s, ⟨a1, a2, a5, a6⟩, k2, k3, k4⟩ := s
  obtain ⟨t1, wn', s', ⟨b1, b2, b5, b6⟩, m2, m3⟩ := t
  have e := wn_eq b1 a1 b2 a2
  subst e
  have e2 := fsF_u b6 a6
  subst e2
  obtain ⟨p, e119, ty, hh, h67, h94⟩ := m2
  have y10 : ¬ y.1 0 10 = 0 := by rw [k4]; decide
  have j := JQ_run h ((tt _ a1).2 a5).1.1.1 k2 p e119 ty (k3 _ m3) y10 hh h67 h94
  exact ⟨j, by rw [s1, t1, JR3_94 j y10]⟩
/-- a trying has its first state -/
theorem bfS_pre {w lim : Nat} : ∀ f s (T : gTy), T.1.length ≤ (bfS C w lim f s T).1.length := by
  intro f
  induction f with
  | zero => intro s T; exact Nat.le_refl _
  | succ f ih =>
    intro s T
    cases hs : T.1[s]? with
    | none => rw [bfS_end hs]; exact Nat.le_refl _
    | some p =>
      rw [bfS_go hs]
      have a := (onS_pre (C := C) (w := w) (lim := lim) (M := p.1) (gt_lt hs) s (chM C w p.1).length).2
      exact Nat.le_trans a (ih _ _)
theorem tryM_1 {w lim : Nat} : 1 ≤ (tryM C w lim).1.length := bfS_pre 3001 0 ([(fsM C, 0, 0)], false)
/-! attempt -/
abbrev e2At (x : gd) (l1 l2 : Int32) : Prop := ¬ x.1 0 9 = 0 ∧ ¬ ((l1 = 0 ∨ l1 = 1) ∧ 1 ≤ l2.toInt ∧ l2.toInt ≤ 3000)
def sAq (C : gCo) (x : gd) (l1 l2 r : Int32) (y : gd) : Prop := ∃ wn lim : Nat, ((wn = 0 ∨ wn = 1) ∧ l1 = Int32.ofNat wn ∧ l2.toInt = (lim : Nat)) ∧ r = y.1 (260 + 20 * wn) 0 ∧ KF x y ∧ fm (sAt (260 + 20 * wn)) x y ∧ TR3 C wn y (260 + 20 * wn) (tryM C wn lim)
abbrev f2At (w : gd) (l1 l2 : Int32) : Prop := ¬ w.1 0 66 = 0 ∧ ¬ ((l1 = 0 ∨ l1 = 1) ∧ 1 ≤ l2.toInt ∧ l2.toInt ≤ 3000)
def tAq (C : gCo) (wr : Nat) (w : gd) (l1 l2 r : Int32) (w' : gd) : Prop := ∃ wn lim : Nat, ((wn = 0 ∨ wn = 1) ∧ l1 = Int32.ofNat wn ∧ l2.toInt = (lim : Nat)) ∧ r = w'.1 120 wn ∧ PM w w' ∧ (w'.1 0 67 = w.1 0 67 ∧ w'.1 0 94 = w.1 0 94 ∧ w'.1 96 = w.1 96 ∧ (¬ w.1 0 67 = 0 → HistC C wr w')) ∧ TYc C wn w' (tryM C wn lim) ∧ ¬ w'.1 119 wn = 0 ∧ (∀ v, ¬ v = wn → w'.1 119 v = w.1 119 v) ∧ ow wn w w'
theorem ja_attempt {r9 r : Int32} (h : JH C wr n lm x w) (hH : HOI y q) (k : ansK (e1Bg x) (e2At x l1 l2) (sAq C x l1 l2) x r9 y) (m : ansM C wr (f1Bg w) (f2At w l1 l2) (tAq C wr w l1 l2) w r w') : JR3 y w' ∧ ansE r9 r y w' := by
  have e9 := JH_9 h
  refine ans_eq h hH e9 ⟨fun z => ⟨fun a => z.1 (e9.mpr a), z.2⟩, fun z => ⟨fun a => z.1 (e9.mp a), z.2⟩⟩ (fun a z => z.1 a) k m (fun c _ r' s t => ?_)
  obtain ⟨wn, lim, ⟨a1, a2, a3⟩, s1, k2, k3, k4⟩ := s
  obtain ⟨wn', lim', ⟨b1, b2, b3⟩, t1, p, ⟨m67, m94, m96, mh⟩, mt, mf, mo, ow9⟩ := t
  have e := wn_eq b1 a1 b2 a2
  subst e
  have e2 : lim' = lim := by omega
  subst e2
  have ec : c96 w' = c96 w := by unfold c96; rw [m96]
  have e10 : y.1 0 10 = x.1 0 10 := k3 _ _ (by unfold sAt; omega)
  refine ⟨⟨C, wr, n, upf lm wn' lim', TXs_k h.1 k2 p, Or.inr ?_⟩, by rw [s1, t1, t_eq, k4.1.1, mt.1]⟩
  rcases h.2 with ⟨⟨c1, -⟩, -⟩ | ⟨j, r, t⟩
  · exact absurd c1 c
  · refine ⟨JC_k j k2 p, ?_, fun v v01 => ?_⟩
    · rcases r with ⟨r1, r2⟩ | ⟨r1, r2, r3, r4, r5⟩
      · exact Or.inl ⟨by rw [e10]; exact r1, by rw [m67]; exact r2⟩
      · exact Or.inr ⟨by rw [e10]; exact r1, by rw [m67]; exact r2, by rw [ec]; exact KRun_at (by omega) j.2.1 k3 r3, mh r2, by rw [m94]; exact r5⟩
    · by_cases cv : v = wn'
      · rw [cv, upf_eq]
        refine Or.inr ⟨fun z9 => ?_, mf, k4, mt⟩
        have e9 := k4.1.1
        rw [z9] at e9
        have k0 : (0 : Int32).toInt = 0 := rfl
        have := tryM_1 (C := C) (w := wn') (lim := lim')
        omega
      · rw [upf_ne cv]
        have eo : y.1 (260 + 20 * v) 0 = x.1 (260 + 20 * v) 0 := k3 _ _ (by unfold sAt; omega)
        rcases t v v01 with ⟨t1, t2⟩ | ⟨t1, t2, t3, t4⟩
        · exact Or.inl ⟨by rw [eo]; exact t1, by rw [mo v cv]; exact t2⟩
        · exact Or.inr ⟨by rw [eo]; exact t1, by rw [mo v cv]; exact t2, TR3_at (by omega) (by omega) (by omega) k3 t3, TYc_ow TW_try (by omega) cv ow9 t4⟩
/-- calls that forget -/
theorem JR3_z (h : JR x w) (z : ZR x) (m : ZM w) : JR3 x w := by
  obtain ⟨h1, h2⟩ := h
  rcases h2 with h2 | ⟨a1, a2, a3, a4, a5, a6, a7, C, c1, c2, c3⟩
  · exact ⟨_, 0, 0, fun _ => 0, h1, Or.inl ⟨h2, z, m, rfl⟩⟩
  · refine ⟨C, 0, 0, fun _ => 0, h1, Or.inr ⟨⟨⟨a1, a2, a3, a4, a5, a6, a7⟩, c1, c2, c3⟩, Or.inl ⟨z.1, m.1⟩, fun wn w01 => Or.inl ⟨z.2 _ (by omega), ?_⟩⟩⟩
    rcases w01 with e | e <;> rw [e]
    · exact m.2.1
    · exact m.2.2
theorem JH_J (h : JH C wr n lm x w) : JR x w := by
  obtain ⟨h1, h2⟩ := h
  refine ⟨h1, ?_⟩
  rcases h2 with ⟨a, -⟩ | ⟨⟨a, b⟩, -⟩
  · exact Or.inl a
  · obtain ⟨a1, a2, a3, a4, a5, a6, a7⟩ := a
    exact Or.inr ⟨a1, a2, a3, a4, a5, a6, a7, C, b⟩
theorem JR3_x {x1 : gd} (e : x1.1 = x.1) (h : JR3 x w) : JR3 x1 w := by
  obtain ⟨C, wr, n, lm, h⟩ := h
  obtain ⟨x1a, x1b⟩ := x1
  have e : x1a = x.1 := e
  subst e
  exact ⟨C, wr, n, lm, h⟩
end JN3
end
section
/-! the calls of class and model, with what both hold and what they answer -/
section SMC
variable {G : mG} {d D : Nat} {x w : gd} {F : Int32 → gd → Prop} {C : gCo} {wr n : Nat} {lm : Nat → Nat} {q : kP}
theorem HistC_w (h : HistC C wr w) : wr = 0 ∨ wr = 1 := by
  obtain ⟨_, _, _, _, _, _, _, ⟨a1, _⟩, _⟩ := h.1
  exact a1
theorem JH_M (h : JH C wr n lm x w) (h67 : ¬ w.1 0 67 = 0) : ¬ w.1 0 66 = 0 ∧ HistC C wr w ∧ (w.1 0 94).toInt = (n : Nat) := by
  have r := JH_R h (fun z => h67 ((JH_10 h).mp z))
  exact ⟨fun z => r.1.1.1 ((JH_9 h).mpr z), r.2.2⟩
theorem an_1 {E1 E2 : Prop} {S : Int32 → gd → Prop} {w' : gd} {r : Int32} (hm : MI w) (e : E1) (m : rfK 1 w w') : ansM C wr E1 E2 S w r w' := ⟨(MI_0 m.1 hm).1, Or.inl ⟨e, m.2, rd_0 m.1 hm⟩⟩
theorem an_2 {E1 E2 : Prop} {S : Int32 → gd → Prop} {w' : gd} {r : Int32} (hm : MI w) (e : E2) (m : rfK 2 w w') : ansM C wr E1 E2 S w r w' := ⟨(MI_0 m.1 hm).1, Or.inr (Or.inl ⟨e, m.2, rd_0 m.1 hm⟩)⟩
theorem an_3 {E1 E2 : Prop} {S : Int32 → gd → Prop} {w' : gd} {r : Int32} (p : MI w') (e1 : ¬ E1) (e2 : ¬ E2) (e0 : w'.1 0 0 = 0) (s : S r w') : ansM C wr E1 E2 S w r w' := ⟨p, Or.inr (Or.inr ⟨e1, e2, e0, s⟩)⟩
theorem ma_choices (hm : MI w) (hD : 3 ≤ D) (hF : ∀ r w', ansM C wr (f1Ch w) False (tCh C wr w) w r w' → F r w') : MT G D z_choices 0 [(0, vr 0)] [] w (ri F) := by
  obtain ⟨D, rfl⟩ : ∃ D', D = D' + 2 := ⟨D - 2, by omega⟩
  refine sg_choices_0 (fun y e => ?_)
  have hy := z0_s e
  have e67 : y.1 0 67 = w.1 0 67 := hy.1.1 67 (by decide)
  have e84 : y.1 0 84 = w.1 0 84 := hy.1.1 84 (by decide)
  exact sc_noRunk hy (fun c => ⟨fun _ => ri_i (hF _ y (an_3 (MI_0 hy.1 hm).1 (show ¬ w.1 0 67 = 0 by rw [← e67]; exact c) (fun z => z) hy.2 ⟨e84, rd_0 hy.1 hm⟩)), fun q => absurd rfl q⟩) (fun c y' m => ⟨fun q => absurd q (by decide), fun _ => ri_i (hF _ y' (an_1 hm (show w.1 0 67 = 0 by rw [← e67]; exact c) m))⟩)
theorem ma_begin (h : JH C wr n lm x w) (hH : HOI x q) (hm : MI w) (l : Int32) (hD : 7 ≤ D) (hF : ∀ r w', ansM C wr (f1Bg w) (f2Bg w l) (tBg C w l) w r w' → F r w') : MT G D z_begin 0 [(0, vr 0), (1, vi l)] [] w (ri F) :=
  sk_begin hm l (fun h9 => ⟨(JH_K h (fun z => h9 ((JH_9 h).mp z))).2.2.1, (JH_gc h hH).1⟩) hD (fun e w' m => hF _ w' (an_1 hm e m)) (fun e1 e2 w' m => hF _ w' (an_2 hm ⟨e1, e2⟩ m)) (fun wn w' hc ew hh m e0 e67 e94 => by
    have p := PM_run hm hc m (HistC_H hh)
    exact hF _ w' (an_3 p.1 hc (fun z => z.2 (w_01 (HistC_w hh) ew)) e0 ⟨rfl, wn, HistC_w hh, ew, rnM_of m rfl p hh (by rw [e67]; decide) (by rw [e94]; rfl)⟩))
theorem ma_go (h : JH C wr n lm x w) (hH : HOI x q) (hm : MI w) (l : Int32) (hD : 7 ≤ D) (hF : ∀ r w', ansM C wr (f1Go w) (f2Go w l) (tGo C wr n w l) w r w' → F r w') : MT G D z_go 0 [(0, vr 0), (1, vi l)] [] w (ri F) :=
  sk_go hm (JH_gc h hH).1 (fun h67 => ⟨wr, (JH_M h h67).2.1⟩) l hD (fun e w' m => hF _ w' (an_1 hm e m)) (fun e1 e2 w' m => hF _ w' (an_2 hm ⟨e1, e2⟩ m)) (fun w9 w' h67 h4 l0 l1 hw hh m e0 e67 e94 ec rw' => by
    obtain ⟨hc, hh0, en⟩ := JH_M h h67
    have e9 := JH_wr hh0 hw
    subst e9
    have p := PM_run hm hc m (HistC_H hh)
    have et : (w.1 0 94).toInt.toNat = n := by rw [en]; rfl
    rw [et] at ec rw'
    exact hF _ w' (an_3 p.1 (fun z => z ⟨h67, h4⟩) (fun z => z.2 ⟨l0, l1⟩) e0 ⟨rfl, rnM_of m rfl p hh (by rw [e67]; exact h67) (by rw [e94, en]; push_cast; rfl), ec, rw'⟩))
theorem ma_draw (h : JH C wr n lm x w) (hH : HOI x q) (hm : MI w) (l1 l2 : Int32) (hD : 7 ≤ D) (hF : ∀ r w', ansM C wr (f1Ch w) (f2Dr w l2) (tDr C wr n w l1 l2) w r w' → F r w') : MT G D z_draw 0 [(0, vr 0), (1, vi l1), (2, vi l2)] [] w (ri F) :=
  sk_draw hm (JH_gc h hH).1 (fun h67 => ⟨wr, (JH_M h h67).2.1⟩) l1 l2 hD (fun e w' m => hF _ w' (an_1 hm e m)) (fun e1 e2 w' m => hF _ w' (an_2 hm ⟨e1, e2⟩ m)) (fun w9 r w' h67 n0 n4 hw hh m e0 e67 e94 rw' er => by
    obtain ⟨hc, hh0, en⟩ := JH_M h h67
    have e9 := JH_wr hh0 hw
    subst e9
    have p := PM_run hm hc m (HistC_H hh)
    have et : (w.1 0 94).toInt.toNat = n := by rw [en]; rfl
    rw [et] at e94 rw' er
    exact hF _ w' (an_3 p.1 h67 (fun z => z.2 ⟨n0, n4⟩) e0 ⟨by rw [er, en], rnM_of m rfl p hh (by rw [e67]; exact h67) e94, rw'⟩))
theorem ma_again (h : JH C wr n lm x w) (hm : MI w) (l : Int32) (hD : 7 ≤ D) (hF : ∀ r w', ansM C wr (f1Ch w) (f2Ag w l) (tAg C wr w l) w r w' → F r w') : MT G D z_again 0 [(0, vr 0), (1, vi l)] [] w (ri F) :=
  sk_again hm (fun h67 => ⟨wr, (JH_M h h67).2.1⟩) l hD (fun e w' m => hF _ w' (an_1 hm e m)) (fun e1 e2 w' m => hF _ w' (an_2 hm ⟨e1, e2⟩ m)) (fun w9 w' h67 n0 n4 hw hh m e0 e67 e94 ec => by
    obtain ⟨hc, hh0, en⟩ := JH_M h h67
    have e9 := JH_wr hh0 hw
    subst e9
    have p := PM_run hm hc m (HistC_H hh)
    exact hF _ w' (an_3 p.1 h67 (fun z => z.2 ⟨n0, n4⟩) e0 ⟨rfl, rnM_of m rfl p hh (by rw [e67]; decide) (by rw [e94]; omega), ec⟩))
theorem ma_show (h : JH C wr n lm x w) (hH : HOI x q) (hm : MI w) (l1 l2 : Int32) (hD : 8 ≤ D) (hF : ∀ r w', ansM C wr (e1Sh l1 l2) (f2Sh C lm w l1 l2) (tSh C lm w l1 l2) w r w' → F r w') : MT G D z_show 0 [(0, vr 0), (1, vi l1), (2, vi l2)] [] w (ri F) :=
  sc_show (Tw := twM C lm) hm (JH_gc h hH).1 (fun h9 => (JH_K h (fun z => h9 ((JH_9 h).mp z))).2.2.1) l1 l2 (fun v v01 hv => ⟨((JH_T h v v01).2 (fun z => hv ((JH_T h v v01).1.mp z))).2.2, TW_try⟩) hD (fun e w' m => hF _ w' (an_1 hm e m)) (fun e1 e2 w' m => hF _ w' (an_2 hm ⟨e1, e2⟩ m)) (fun v s w' v01 ev f0 f1 hv hfs l4 hh m e0 e67 e94 hp => by
    have hc : ¬ w.1 0 66 = 0 := (hm.2.2.2 v (by omega) hv).1
    have p := MI_new m rfl rfl hc (HistC_H hh) hm
    exact hF _ w' (an_3 p.1 (fun z => z ⟨w_01 v01 ev, f0, f1⟩) (fun z => z.2 ⟨v, s, v01, ev, f0, f1, hv, hfs, l4⟩) e0 ⟨rfl, v, s, ⟨v01, ev, hv, hfs⟩, rnM_of m rfl p hh (by rw [e67]; decide) e94, hp⟩))
theorem ma_attempt (h : JH C wr n lm x w) (hH : HOI x q) (hm : MI w) (l1 l2 : Int32) (hD : 8 ≤ D) (hF : ∀ r w', ansM C wr (f1Bg w) (f2At w l1 l2) (tAq C wr w l1 l2) w r w' → F r w') : MT G D z_attempt 0 [(0, vr 0), (1, vi l1), (2, vi l2)] [] w (ri F) :=
  sc_attempt (nl := (x.1 60 9).toInt.toNat) (wr := wr) hm (JH_gc h hH).1 (fun h9 => by
    have h9x : ¬ x.1 0 9 = 0 := fun z => h9 ((JH_9 h).mp z)
    have j := JH_K h h9x
    obtain ⟨-, -, a3, a4, -, a6, a7, a8, a9⟩ := JC_C (hH.2.1 h9x) j
    exact ⟨j.2.2.1, a4, a3, a6, a7, a8, a9⟩) (fun h67 => (JH_M h h67).2.1) l1 l2 hD (fun e w' m => hF _ w' (an_1 hm e m)) (fun e1 e2 w' m => hF _ w' (an_2 hm ⟨e1, e2⟩ m)) (fun wn lim w' w01 ew el b1 b3 hc p e0 hr ty h119 ho how => by
    have e9 : l1.toNatClampNeg = wn := by rcases w01 with e | e <;> rw [ew, e] <;> rfl
    exact hF _ w' (an_3 p.1 hc (fun z => z.2 ⟨w_01 w01 ew, by omega, by omega⟩) e0 ⟨wn, lim, ⟨w01, ew, el⟩, by rw [e9], p, hr, ty, h119, ho, how⟩))
end SMC
section KQC
variable {G : kG} {q : kP} {d : Nat} {x w : gd} {P : Option gv → gd → Prop} {X : String → gd → Prop} {C : gCo} {wr n : Nat} {lm : Nat → Nat}
theorem ka_choices (hq : kV q) (hH : HOI x q) (hX1 : e1Ch x → X iSE x) (hP : ¬ e1Ch x → ¬ False → ∀ r y, HOI y q → sCh x r y → P (some (vi r)) y) : KE G q (d + 7) zk_X11_choices 0 [(0, vr 0)] [] x P X :=
  kh_choices hq hH hX1 (fun h10 => hP h10 (fun z => z) _ x hH ⟨rfl, KR_rf⟩)
theorem ka_begin (h : JH C wr n lm x w) (hq : kV q) (hH : HOI x q) (l1 : Int32) (hX1 : e1Bg x → X iSE x) (hX2 : e2Bg x l1 → X iAE x) (hP : ¬ e1Bg x → ¬ e2Bg x l1 → ∀ r y, HOI y q → sBg C x l1 r y → P (some (vi r)) y) : KE G q (d + 7) zk_X11_begin 0 [(0, vr 0), (1, vi l1)] [] x P X :=
  kh_beginP (C := C) hq hH l1 (fun h9 => ⟨(JH_K h h9).2.1, (JH_gc h hH).1⟩) hX1 (fun a hn => hX2 ⟨a, hn⟩) (fun wn y h9 ew hy f hr h10 => hP h9 (fun z => z.2 (w_01 (hr (fun _ => 0)).2.2.1.1 ew)) _ y hy ⟨rfl, wn, (hr (fun _ => 0)).2.2.1.1, ew, f, hr, h10⟩)
theorem ka_go (h : JH C wr n lm x w) (hq : kV q) (hH : HOI x q) (l1 : Int32) (hX1 : e1Go n x → X iSE x) (hX2 : e2Go n x l1 → X iOE x) (hP : ¬ e1Go n x → ¬ e2Go n x l1 → ∀ r y, HOI y q → sGo C wr n (c96 w) x l1 r y → P (some (vi r)) y) : KE G q (d + 7) zk_X11_go 0 [(0, vr 0), (1, vi l1)] [] x P X :=
  kh_go hq hH (fun h10 => ⟨(JH_R h h10).1.2.1, JH_gc h hH⟩) (fun h10 => (JH_R h h10).2.1) l1 hX1 (fun a b hn => hX2 ⟨⟨a, b⟩, hn⟩) (fun y h10 n4 l0 l9 hy f hr e10 => hP (fun z => z ⟨h10, n4⟩) (fun z => z.2 ⟨l0, l9⟩) _ y hy ⟨rfl, f, hr, e10⟩)
theorem ka_draw (h : JH C wr n lm x w) (hq : kV q) (hH : HOI x q) (l1 l2 : Int32) (hX1 : e1Ch x → X iSE x) (hX2 : e2Dr x l2 → X iAE x) (hP : ¬ e1Ch x → ¬ e2Dr x l2 → ∀ r y, HOI y q → sDr C wr n (c96 w) x l1 l2 r y → P (some (vi r)) y) : KE G q (d + 7) zk_X11_draw 0 [(0, vr 0), (1, vi l1), (2, vi l2)] [] x P X :=
  kk_draw hq hH (fun h10 => ⟨(JH_R h h10).1.2.1, JH_gc h hH⟩) (fun h10 => (JH_R h h10).2.1) l1 l2 hX1 (fun a hn => hX2 ⟨a, hn⟩) (fun r y h10 l0 l4 hy f hr e10 er => hP h10 (fun z => z.2 ⟨l0, l4⟩) r y hy ⟨er, f, hr, e10⟩)
theorem ka_again (h : JH C wr n lm x w) (hq : kV q) (hH : HOI x q) (l1 : Int32) (hX1 : e1Ch x → X iSE x) (hX2 : e2Ag n x l1 → X iAE x) (hP : ¬ e1Ch x → ¬ e2Ag n x l1 → ∀ r y, HOI y q → sAg C wr (c96 w) x l1 r y → P (some (vi r)) y) : KE G q (d + 7) zk_X11_again 0 [(0, vr 0), (1, vi l1)] [] x P X :=
  kh_again hq hH (fun h10 => ⟨(JH_R h h10).1.2.1, JH_gc h hH⟩) (fun h10 => (JH_R h h10).2.1) l1 hX1 (fun a hn => hX2 ⟨a, hn⟩) (fun y h10 l0 l4 hy f hr e10 => hP h10 (fun z => z.2 ⟨l0, l4⟩) _ y hy ⟨rfl, f, hr, e10⟩)
theorem ka_show (h : JH C wr n lm x w) (hq : kV q) (hH : HOI x q) (l1 l2 : Int32) (hX1 : e1Sh l1 l2 → X iAE x) (hX2 : e2Sh C lm x l1 l2 → X iSE x) (hP : ¬ e1Sh l1 l2 → ¬ e2Sh C lm x l1 l2 → ∀ r y, HOI y q → sSh C lm x l1 l2 r y → P (some (vi r)) y) : KE G q (d + 7) zk_X11_show 0 [(0, vr 0), (1, vi l1), (2, vi l2)] [] x P X :=
  kh_show (C := C) (Tw := twM C lm) hq hH l1 l2 (fun v v01 hv => ⟨⟨((JH_T h v v01).2 hv).1.2.1, JH_gc h hH⟩, ((JH_T h v v01).2 hv).2.1, TW_try⟩) hX1 (fun v v01 ev f0 f1 hor => hX2 ⟨⟨w_01 v01 ev, f0, f1⟩, fun ⟨wn, s, a1, a2, a3, a4, a5, a6, a7⟩ => by
    have e := wn_eq a1 v01 a2 ev
    subst e
    rcases hor with z | ⟨-, z⟩
    · exact a5 z
    · have := z s a6
      omega⟩) (fun v s y v01 ev f0 f1 nz hfs l4 hy f hr h10 => by
    obtain ⟨c9, hc9⟩ : ∃ c9 : Nat → Nat, ∀ k v', (pth (twM C lm v) s)[k]? = some v' → c9 k = v' := ⟨fun k => ((pth (twM C lm v) s)[k]?).getD 0, fun k v' hk => congrArg (fun z : Option Nat => z.getD 0) hk⟩
    have e2 := (hr c9 hc9).2.2.2.1
    have er : Int32.ofNat (pth (twM C lm v) s).length = y.1 160 2 := (i32_of e2).symm
    exact hP (fun z => z ⟨w_01 v01 ev, f0, f1⟩) (fun z => z.2 ⟨v, s, v01, ev, f0, f1, nz, hfs, l4⟩) _ y hy ⟨er, v, s, ⟨v01, ev, nz, hfs⟩, f, hr, h10⟩)
end KQC
section KQM
variable {G : kG} {q : kP} {d : Nat} {x w : gd} {P : Option gv → gd → kP → Prop} {X : String → gd → kP → Prop} {C : gCo} {wr n : Nat} {lm : Nat → Nat}
theorem ka_attempt (h : JH C wr n lm x w) (hu : kU q) (hH : HOI x q) (l1 l2 : Int32) (hX1 : e1Bg x → X iSE x q) (hX2 : e2At x l1 l2 → X iAE x q) (hP : ¬ e1Bg x → ¬ e2At x l1 l2 → ∀ r y q1, kU q1 → kle q q1 → HOI y q1 → sAq C x l1 l2 r y → P (some (vi r)) y q1) : KM G q (d + 7) zk_X11_attempt 0 [(0, vr 0), (1, vi l1), (2, vi l2)] [] x P X :=
  kh_attempt (C := C) (nl := (x.1 60 9).toInt.toNat) hu hH l1 l2 (fun h9 => by
    have j := JH_K h h9
    obtain ⟨a1, a2, a3, a4, a5, -⟩ := JC_C (hH.2.1 h9) j
    exact ⟨j.2.1, a1.1, a1.2.1, a2, a3, a4, a5⟩) hX1 (fun a hn => hX2 ⟨a, hn⟩) (fun wn lim y q1 w01 ew el b1 b3 h9 hu1 hl1 hy kf f tr => hP h9 (fun z => z.2 ⟨w_01 w01 ew, by omega, by omega⟩) _ y q1 hu1 hl1 hy ⟨wn, lim, ⟨w01, ew, el⟩, rfl, kf, f, tr⟩)
end KQM
end
section
/-! calls that read the run's state: cell, seen -/
section RST
variable {G : mG} {d D : Nat} {x z w a : gd} {F : Int32 → gd → Prop} {C : gCo} {M : gMa} {wr n : Nat} {lm : Nat → Nat} {q : kP}
theorem MM1_eq (hN : NC C) (e : eqS (Sl a) a z) (h : MM1 a C M) : MM1 z C M := by
  obtain ⟨h1, h2, h3⟩ := h
  refine ⟨fun c hc => by rw [cA e (c := 70) (n := 24) (by decide) hc]; exact h1 c hc, fun l hl => by rw [cA e (c := 71) (n := 6) (by decide) hl, cA e (c := 72) (n := 6) (by decide) hl]; exact h2 l hl, fun t ht => ?_⟩
  obtain ⟨q0, q0', q1, q2, q3, q3', q4, q5, ⟨q6, q6'⟩, q7, q7'⟩ := h3 t ht
  have f := fun c (hc : (c, 6) ∈ coreL) => cA e hc ht
  refine ⟨by rw [f 73 (by decide)]; exact q0, q0', by rw [f 75 (by decide)]; exact q1, by rw [f 74 (by decide)]; exact q2, by rw [f 77 (by decide)]; exact q3, q3', by rw [f 78 (by decide)]; exact q4, by rw [f 79 (by decide)]; exact q5, ⟨by rw [f 80 (by decide)]; exact q6, fun j q hj => ?_⟩, fun hu p hp => ?_, fun k hk hn => ?_⟩
  · have hl := gt_lt hj
    have s : ∀ c, (c = 81 ∨ c = 82) → z.1 c (10 * t + j) = a.1 c (10 * t + j) := fun c hc => e c _ (Or.inr ⟨hc, t, j, ht, by omega, rfl⟩)
    rw [s 81 (Or.inl rfl), s 82 (Or.inr rfl)]; exact q6' j q hj
  · have s8 := stN_8 hN _ (slN_mem hp)
    rw [cA e (c := 76) (n := 48) (by decide) (by omega)]; exact q7 hu p hp
  · rw [cA e (c := 76) (n := 48) (by decide) (by omega)]; exact q7' k hk hn
theorem HistC_MM (hN : NC C) (h : HistC C wr w) (e94 : (w.1 0 94).toInt = (n : Nat)) : MM1 w C (runM C wr (c96 w) n) ∧ ∀ t, t < 6 → (w.1 80 t).toInt ≤ 8 := by
  obtain ⟨s, n', q1, q2, q3, q4, -⟩ := h.1
  have en : n' = n := by omega
  rw [en] at q4
  have am := q2 n (by omega)
  have el := eqS_w (Sl_Sm _) q4
  exact ⟨MM1_eq hN el am.2.2.1, fun t ht => by rw [cA el (c := 80) (n := 6) (by decide) ht]; exact (am.1.1.2 t ht).2.2.2.1⟩
theorem sp_see3 (t c : Int32) (ht : vp_in t 6) (hc : vp_in c 24) (q8 : (x.1 80 t.toNatClampNeg).toInt ≤ 8) {l : List (Nat × Int32)} (hl : mLt x t.toNatClampNeg l) (h : F (seL l c.toNatClampNeg (x.1 70 c.toNatClampNeg)) x) : MT G d z_see 0 [(0, vr 0), (1, vi t), (2, vi c)] [] x (ri F) := by
  have k1 : (1 : Int32).toInt = 1 := rfl
  obtain ⟨l1, l2⟩ := hl
  have cb := vp_in_iff.mp hc
  have cc := cl_i cb.1
  obtain ⟨R, eR⟩ : ∃ R, R = seL l c.toNatClampNeg (x.1 70 c.toNatClampNeg) := ⟨_, rfl⟩
  rw [← eR] at h
  have loop : ∀ (n : Nat) (v i : Int32), 0 ≤ i.toInt → (x.1 80 t.toNatClampNeg).toInt - i.toInt ≤ n → seL (l.drop i.toInt.toNat) c.toNatClampNeg v = R → MT G d z_see 10 [(0, vr 0), (1, vi t), (2, vi c), (3, vi v), (4, vi i)] [] x (ri F) := by
    have fin : ∀ (v i : Int32), (x.1 80 t.toNatClampNeg).toInt ≤ i.toInt → seL (l.drop i.toInt.toNat) c.toNatClampNeg v = R → ri F (some (vi v)) x := fun v i hi hs => by
      rw [List.drop_eq_nil_of_le (by omega)] at hs
      have hs : v = R := hs
      rw [hs]
      exact ri_i h
    intro n
    induction n with
    | zero =>
      intro v i i0 hi hs
      exact sg_see_10 _ _ _ _ ⟨ht, fun _ => fin v i (by omega) hs, fun c => absurd (t_le.mpr (by omega)) c⟩
    | succ n ih =>
      intro v i i0 hi hs
      refine sg_see_10 _ _ _ _ ⟨ht, fun c9 => fin v i (by rw [t_le] at c9; exact c9) hs, fun c9 => ?_⟩
      rw [t_le] at c9
      have a1 := (t10 ht (i := i) i0 (by omega)).1
      have i1 : (i + 1).toInt = i.toInt + 1 := by rw [t_add (by omega) (by omega), k1]
      have hi' : i.toInt.toNat < l.length := by omega
      obtain ⟨b1, b2, b3⟩ := l2 i.toInt.toNat _ (List.getElem?_eq_getElem hi')
      rw [List.drop_eq_getElem_cons hi', seL] at hs
      have ea : (10 * t + i).toNatClampNeg = 10 * t.toNatClampNeg + i.toInt.toNat := by rw [(t10 ht i0 (by omega)).2, t_cl i]
      have en : (i + 1).toInt.toNat = i.toInt.toNat + 1 := by omega
      have ec : Int32.ofNat l[i.toInt.toNat].1 = c ↔ l[i.toInt.toNat].1 = c.toNatClampNeg := by
        have e9 : (Int32.ofNat l[i.toInt.toNat].1).toInt = (l[i.toInt.toNat].1 : Nat) := Int32.toInt_ofNat_of_lt (by omega)
        rw [t_eq, e9]
        omega
      refine ⟨a1, fun c9 => ih _ _ (by omega) (by omega) ?_, fun c9 => ⟨a1, ih _ _ (by omega) (by omega) ?_⟩⟩
      · rw [ea, b1] at c9
        rw [if_neg (fun z => c9 (ec.mpr z))] at hs
        rw [en]; exact hs
      · rw [ea, b1] at c9
        rw [if_pos (ec.mp c9)] at hs
        rw [en, ea, b2]; exact hs
  exact sg_see_0 _ _ ⟨hc, loop _ _ 0 (by decide) (Int.self_le_toNat _) eR.symm⟩
abbrev e2Ce (x : gd) (l : Int32) : Prop := ¬ x.1 0 10 = 0 ∧ ¬ (0 ≤ l.toInt ∧ l.toInt < (x.1 60 6).toInt)
def sCe (C : gCo) (wr n : Nat) (c : Nat → Nat) (x : gd) (l r : Int32) (y : gd) : Prop := r = (runM C wr c n).1 l.toInt.toNat ∧ KRd x y
abbrev f2Ce (w : gd) (l : Int32) : Prop := ¬ w.1 0 67 = 0 ∧ ¬ (0 ≤ l.toInt ∧ l.toInt < (w.1 0 23).toInt)
def tCe (C : gCo) (wr n : Nat) (w : gd) (l r : Int32) (w' : gd) : Prop := r = (runM C wr (c96 w) n).1 l.toInt.toNat ∧ rdM C wr w w'
abbrev e2Se (x : gd) (l1 l2 : Int32) : Prop := ¬ x.1 0 10 = 0 ∧ ¬ ((0 ≤ l1.toInt ∧ l1.toInt < (x.1 60 10).toInt) ∧ 0 ≤ l2.toInt ∧ l2.toInt < (x.1 60 6).toInt)
def sSe (C : gCo) (wr n : Nat) (c : Nat → Nat) (x : gd) (l1 l2 r : Int32) (y : gd) : Prop := r = seM (runM C wr c n) l1.toInt.toNat l2.toInt.toNat ∧ KRd x y
abbrev f2Se (w : gd) (l1 l2 : Int32) : Prop := ¬ w.1 0 67 = 0 ∧ ¬ ((0 ≤ l1.toInt ∧ l1.toInt < (w.1 0 25).toInt) ∧ 0 ≤ l2.toInt ∧ l2.toInt < (w.1 0 23).toInt)
def tSe (C : gCo) (wr n : Nat) (w : gd) (l1 l2 r : Int32) (w' : gd) : Prop := r = seM (runM C wr (c96 w) n) l1.toInt.toNat l2.toInt.toNat ∧ rdM C wr w w'
theorem in_ge {v n : Int32} (h : ¬ ((0 : Int32) ≤ v ∧ v ≤ n - 1)) (n0 : 0 ≤ n.toInt) : ¬ (0 ≤ v.toInt ∧ v.toInt < n.toInt) := fun z => by
  have k0 : (0 : Int32).toInt = 0 := rfl
  have k1 : (1 : Int32).toInt = 1 := rfl
  have nb := Int32.toInt_lt n
  refine h ⟨t_le.mpr (by rw [k0]; exact z.1), t_le.mpr ?_⟩
  rw [t_sub (by rw [k1]; omega) (by rw [k1]; omega), k1]
  omega
theorem ma_cell (h : JH C wr n lm x w) (hH : HOI x q) (hm : MI w) (l : Int32) (hD : 3 ≤ D) (hF : ∀ r w', ansM C wr (f1Ch w) (f2Ce w l) (tCe C wr n w l) w r w' → F r w') : MT G D z_cell 0 [(0, vr 0), (1, vi l)] [] w (ri F) := by
  obtain ⟨D, rfl⟩ : ∃ D', D = D' + 2 := ⟨D - 2, by omega⟩
  refine sg_cell_0 _ (fun y e => ?_)
  have hy := z0_s e
  have e67 : y.1 0 67 = w.1 0 67 := hy.1.1 67 (by decide)
  have e23 : y.1 0 23 = w.1 0 23 := hy.1.1 23 (by decide)
  have e70 : y.1 70 = w.1 70 := hy.1.2.1 70 (by decide) (by simp)
  have qy := (MI_0 hy.1 hm).1
  refine sc_noRunk hy (fun hr => ⟨fun q => absurd rfl q, fun _ => ?_⟩) (fun c y' m => ⟨fun _ => ri_i (hF _ y' (an_1 hm (show w.1 0 67 = 0 by rw [← e67]; exact c) m)), fun q => absurd q (by decide)⟩)
  obtain ⟨cp, _, _⟩ := RS_of qy hr
  have g := cp.1
  rw [e67] at hr
  obtain ⟨hc, hh, e94⟩ := JH_M h hr
  have mm := (HistC_MM (JH_gc h hH).1.1 hh e94).1
  have p32 : ∀ b : Int32, (b = 0 → 0 ≤ l.toInt ∧ l.toInt < (y.1 0 23).toInt) → (¬ b = 0 → ¬ (0 ≤ l.toInt ∧ l.toInt < (y.1 0 23).toInt)) → MT G (D + 2) z_cell 32 [(0, vr 0), (1, vi l)] [vi b, vr 0] y (ri F) := fun b hb hb2 => sg_cell_32 _ _ (sc_refk b 2 hy (by decide) (fun b0 => ⟨fun _ => ⟨by rw [vp_in_iff]; have := hb b0; have := g.2.1; omega, ri_i (hF _ y (an_3 qy hr (fun z => z.2 (by rw [← e23]; exact hb b0)) hy.2 ⟨by
    rw [e70, t_cl]
    exact mm.1 _ (by have := hb b0; have := g.2.1; omega), rd_0 hy.1 hm⟩))⟩, fun q => absurd rfl q⟩) (fun nb y' m => ⟨fun q => absurd q (by decide), fun _ => ri_i (hF _ y' (an_2 hm ⟨hr, by rw [← e23]; exact hb2 nb⟩ m))⟩))
  exact sp_in _ _ _ ⟨fun cc => p32 0 (fun _ => in_lt (bi_ne.mp cc) g.1) (fun z => absurd rfl z), fun cc => p32 1 (fun q => absurd q (by decide)) (fun _ => in_ge (bi_eq.mp cc) g.1)⟩
theorem ma_seen (h : JH C wr n lm x w) (hH : HOI x q) (hm : MI w) (t c : Int32) (hD : 3 ≤ D) (hF : ∀ r w', ansM C wr (f1Ch w) (f2Se w t c) (tSe C wr n w t c) w r w' → F r w') : MT G D z_seen 0 [(0, vr 0), (1, vi t), (2, vi c)] [] w (ri F) := by
  obtain ⟨D, rfl⟩ : ∃ D', D = D' + 2 := ⟨D - 2, by omega⟩
  refine sg_seen_0 _ _ (fun y e => ?_)
  have hy := z0_s e
  have e67 : y.1 0 67 = w.1 0 67 := hy.1.1 67 (by decide)
  have e23 : y.1 0 23 = w.1 0 23 := hy.1.1 23 (by decide)
  have e25 : y.1 0 25 = w.1 0 25 := hy.1.1 25 (by decide)
  have qy := (MI_0 hy.1 hm).1
  refine sc_noRunk hy (fun hr => ⟨fun q => absurd rfl q, fun _ => ?_⟩) (fun c y' m => ⟨fun _ => ri_i (hF _ y' (an_1 hm (show w.1 0 67 = 0 by rw [← e67]; exact c) m)), fun q => absurd q (by decide)⟩)
  obtain ⟨cp, _, _⟩ := RS_of qy hr
  have g := cp.1
  rw [e67] at hr
  obtain ⟨hc, hh, e94⟩ := JH_M h hr
  obtain ⟨mm, m8⟩ := HistC_MM (JH_gc h hH).1.1 (HistC_0 hy.1 hh) (n := n) (by rw [hy.1.1 94 (by decide)]; exact e94)
  have cy : c96 y = c96 w := by unfold c96; rw [hy.1.2.1 96 (by decide) (by simp)]
  rw [cy] at mm
  have p46 : ∀ b : Int32, (b = 0 → (0 ≤ t.toInt ∧ t.toInt < (y.1 0 25).toInt) ∧ 0 ≤ c.toInt ∧ c.toInt < (y.1 0 23).toInt) → (¬ b = 0 → ¬ ((0 ≤ t.toInt ∧ t.toInt < (y.1 0 25).toInt) ∧ 0 ≤ c.toInt ∧ c.toInt < (y.1 0 23).toInt)) → MT G (D + 2) z_seen 46 [(0, vr 0), (1, vi t), (2, vi c)] [vi b, vr 0] y (ri F) := fun b hb hb2 => sg_seen_46 _ _ _ (sc_refk b 2 hy (by decide) (fun b0 => ⟨fun _ => by
    obtain ⟨b1, b2⟩ := hb b0
    have g2 := g.2.1
    have g6 := g.2.2.2.2.2.1
    have tv : vp_in t 6 := by rw [vp_in_iff]; omega
    have tq := mm.2.2 _ (vt tv)
    refine sp_see3 t c tv (by rw [vp_in_iff]; omega) (m8 _ (vt tv)) tq.2.2.2.2.2.2.2.2.1 (ri_i (hF _ y (an_3 qy hr (fun z => z.2 (by rw [← e23, ← e25]; exact hb b0)) hy.2 ⟨?_, rd_0 hy.1 hm⟩)))
    unfold seM
    rw [mm.1 c.toNatClampNeg (by have := t_cl c; omega), t_cl, t_cl], fun q => absurd rfl q⟩) (fun nb y' m => ⟨fun q => absurd q (by decide), fun _ => ri_i (hF _ y' (an_2 hm ⟨hr, by rw [← e23, ← e25]; exact hb2 nb⟩ m))⟩))
  exact sp_in _ _ _ ⟨fun c1 => p46 1 (fun q => absurd q (by decide)) (fun _ z => in_ge (bi_eq.mp c1) g.2.2.2.2.1 z.1), fun c1 => sp_in _ _ _ ⟨fun c2 => p46 0 (fun _ => ⟨in_lt (bi_ne.mp c1) g.2.2.2.2.1, in_lt (bi_ne.mp c2) g.1⟩) (fun z => absurd rfl z), fun c2 => p46 1 (fun q => absurd q (by decide)) (fun _ z => in_ge (bi_eq.mp c2) g.1 z.2)⟩⟩
end RST
section KRS
variable {G : kG} {q : kP} {d : Nat} {x y w w' : gd} {P : Option gv → gd → Prop} {X : String → gd → Prop} {C : gCo} {wr n : Nat} {lm : Nat → Nat}
theorem ka_cell (h : JH C wr n lm x w) (hq : kV q) (hH : HOI x q) (l1 : Int32) (hX1 : e1Ch x → X iSE x) (hX2 : e2Ce x l1 → X iOE x) (hP : ¬ e1Ch x → ¬ e2Ce x l1 → ∀ r y, HOI y q → sCe C wr n (c96 w) x l1 r y → P (some (vi r)) y) : KE G q (d + 7) zk_X11_cell 0 [(0, vr 0), (1, vi l1)] [] x P X :=
  kg_X11_cell_0 hq l1 (kh_run hq hH hX1 (fun h10 hR => kh_ix hq l1 _ (fun hn => hX2 ⟨h10, hn⟩) (fun l0 l9 => ⟨by have := hR.1.1.1.1; rw [vp_in_iff]; omega, hP h10 (fun z => z.2 ⟨l0, l9⟩) _ x hH ⟨by
    have g := (JH_R h h10).2.1.2.1.1.1.1 l1.toInt.toNat (by omega)
    rw [t_cl]
    exact g, KR_rf⟩⟩)))
theorem ka_seen (h : JH C wr n lm x w) (hq : kV q) (hH : HOI x q) (l1 l2 : Int32) (hX1 : e1Ch x → X iSE x) (hX2 : e2Se x l1 l2 → X iOE x) (hP : ¬ e1Ch x → ¬ e2Se x l1 l2 → ∀ r y, HOI y q → sSe C wr n (c96 w) x l1 l2 r y → P (some (vi r)) y) : KE G q (d + 7) zk_X11_seen 0 [(0, vr 0), (1, vi l1), (2, vi l2)] [] x P X := by
  refine kg_X11_seen_0 hq l1 l2 (kh_run hq hH hX1 (fun h10 hR => kh_ix hq l1 _ (fun hn => hX2 ⟨h10, fun z => hn z.1⟩) (fun l0 l9 => kh_ix hq l2 _ (fun hn => hX2 ⟨h10, fun z => hn z.2⟩) (fun g0 g9 => ?_))))
  obtain ⟨j, r, -, -⟩ := JH_R h h10
  have e10 : (x.1 60 10).toInt = (C.2.1.length : Nat) := j.2.1.2.1.1
  exact kh_seenBy hq (Or.inl rfl) hR.1 j.2.1 r.2.1.1 l1 l2 (T := l1.toInt.toNat) (c' := l2.toInt.toNat) (by omega) (by omega) (by omega) (by omega) (hP h10 (fun z => z.2 ⟨⟨l0, l9⟩, g0, g9⟩) _ x hH ⟨rfl, KR_rf⟩)
theorem ja_cell {l r9 r : Int32} (h : JH C wr n lm x w) (hH : HOI y q) (k : ansK (e1Ch x) (e2Ce x l) (sCe C wr n (c96 w) x l) x r9 y) (m : ansM C wr (f1Ch w) (f2Ce w l) (tCe C wr n w l) w r w') : JR3 y w' ∧ ansE r9 r y w' := by
  have e9 := JH_10 h
  refine ans_eq h hH e9 ⟨fun z => ⟨fun a => z.1 (e9.mpr a), by rw [← (JH_R h z.1).1.1.2.2.1]; exact z.2⟩, fun z => ⟨fun a => z.1 (e9.mp a), by rw [(JH_R h (fun a => z.1 (e9.mp a))).1.1.2.2.1]; exact z.2⟩⟩ (fun a z => z.1 a) k m (fun c _ r' s t => ⟨JQ_rd h hH s.2 t.2, s.1.trans t.1.symm⟩)
theorem ja_seen {l1 l2 r9 r : Int32} (h : JH C wr n lm x w) (hH : HOI y q) (k : ansK (e1Ch x) (e2Se x l1 l2) (sSe C wr n (c96 w) x l1 l2) x r9 y) (m : ansM C wr (f1Ch w) (f2Se w l1 l2) (tSe C wr n w l1 l2) w r w') : JR3 y w' ∧ ansE r9 r y w' := by
  have e9 := JH_10 h
  refine ans_eq h hH e9 ⟨fun z => ⟨fun a => z.1 (e9.mpr a), by rw [← (JH_R h z.1).1.1.2.2.1, ← (JH_R h z.1).1.1.2.2.2.2.1]; exact z.2⟩, fun z => ⟨fun a => z.1 (e9.mp a), by rw [(JH_R h (fun a => z.1 (e9.mp a))).1.1.2.2.1, (JH_R h (fun a => z.1 (e9.mp a))).1.1.2.2.2.2.1]; exact z.2⟩⟩ (fun a z => z.1 a) k m (fun c _ r' s t => ⟨JQ_rd h hH s.2 t.2, s.1.trans t.1.symm⟩)
end KRS
end
section
/-! finding: how far the first state is that shows it -/
def fdV (tr : Nat → Prop) (C : gCo) (lm : Nat → Nat) (l1 l2 r : Int32) : Prop := ∃ wn : Nat, (wn = 0 ∨ wn = 1) ∧ l1 = Int32.ofNat wn ∧ ((∃ s, tr wn ∧ fsF C wn (twM C lm wn) l2.toInt.toNat s ∧ r.toInt = ((pth (twM C lm wn) s).length : Nat)) ∨ ((∀ s, tr wn → ¬ fsF C wn (twM C lm wn) l2.toInt.toNat s) ∧ r = -1))
def sFi (C : gCo) (lm : Nat → Nat) (x : gd) (l1 l2 r : Int32) (y : gd) : Prop := fdV (fun v => ¬ x.1 (260 + 20 * v) 0 = 0) C lm l1 l2 r ∧ KRd x y
def tFi (C : gCo) (lm : Nat → Nat) (wr : Nat) (w : gd) (l1 l2 r : Int32) (w' : gd) : Prop := fdV (fun v => ¬ w.1 119 v = 0) C lm l1 l2 r ∧ rdM C wr w w'
theorem fdV_eq {tr tr' : Nat → Prop} {C : gCo} {lm : Nat → Nat} {l1 l2 r r' : Int32} (e : ∀ v, (v = 0 ∨ v = 1) → (tr v ↔ tr' v)) (h : fdV tr C lm l1 l2 r) (g : fdV tr' C lm l1 l2 r') : r = r' := by
  obtain ⟨wn, a1, a2, a3⟩ := h
  obtain ⟨wn', b1, b2, b3⟩ := g
  have ew := wn_eq b1 a1 b2 a2
  subst ew
  rcases a3 with ⟨s, c1, c2, c3⟩ | ⟨c1, c2⟩
  · rcases b3 with ⟨s', d1, d2, d3⟩ | ⟨d1, -⟩
    · have := fsF_u c2 d2
      subst this
      rw [t_eq, c3, d3]
    · exact absurd c2 (d1 s ((e _ a1).mp c1))
  · rcases b3 with ⟨s', d1, d2, d3⟩ | ⟨d1, d2⟩
    · exact absurd d2 (c1 s' ((e _ a1).mpr d1))
    · rw [c2, d2]
section KFI
variable {G : kG} {q : kP} {d : Nat} {x y w w' : gd} {P : Option gv → gd → Prop} {X : String → gd → Prop} {C : gCo} {wr n : Nat} {lm : Nat → Nat}
theorem ja_finding {l1 l2 r9 r : Int32} (h : JH C wr n lm x w) (hH : HOI y q) (k : ansK (e1Sh l1 l2) False (sFi C lm x l1 l2) x r9 y) (m : ansM C wr (e1Sh l1 l2) False (tFi C lm wr w l1 l2) w r w') : JR3 y w' ∧ ansE r9 r y w' :=
  ans_eq h hH Iff.rfl Iff.rfl (fun _ z => z) k m (fun c _ r' s t => ⟨JQ_rd h hH s.2 t.2, fdV_eq (fun v v01 => ⟨fun a b => a ((JH_T h v v01).1.mpr b), fun a b => a ((JH_T h v v01).1.mp b)⟩) s.1 t.1⟩)
theorem ka_finding (h : JH C wr n lm x w) (hq : kV q) (hH : HOI x q) (l1 l2 : Int32) (hX1 : e1Sh l1 l2 → X iAE x) (hP : ¬ e1Sh l1 l2 → ¬ False → ∀ r y, HOI y q → sFi C lm x l1 l2 r y → P (some (vi r)) y) : KE G q (d + 7) zk_X11_finding 0 [(0, vr 0), (1, vi l1), (2, vi l2)] [] x P X := by
  refine kg_X11_finding_0 hq l1 l2 (kf_way hq l1 (fun z => hX1 (fun z2 => z z2.1)) (fun hw => kh_fnd hq l2 (fun z => hX1 (fun z2 => z z2.2)) (fun f0 f11 => ?_)))
  obtain ⟨v, w01, ew, ewn⟩ := w_nat hw
  have ok : ¬ e1Sh l1 l2 := fun z => z ⟨hw, f0, f11⟩
  have hP := hP ok (fun z => z)
  refine kg_X11_firstState_0 hq l1 l2 (kh_was (w := v) hq hH l1 w01 ew (fun c0 => ⟨fun _ => ?_, fun c => absurd rfl c⟩) (fun e7 ho hz hC nz => ⟨fun c => absurd c (by decide), fun _ => ⟨way_in hw, fun u5 e5 => ⟨260 + 20 * v, by rw [e5, ewn, e7], ho, by rw [vp_in_iff]; omega, ?_⟩⟩⟩))
  · exact ri_i ⟨fun c => absurd rfl c, fun _ => hP _ x hH ⟨⟨v, w01, ew, Or.inr ⟨fun s t => absurd c0 t, rfl⟩⟩, KR_rf⟩⟩
  obtain ⟨-, ⟨⟨t0, -⟩, hPA, hFN⟩, -⟩ := (JH_T h v w01).2 nz
  have F2 : l2.toNatClampNeg = l2.toInt.toNat := rfl
  have b3 := hz.1.2
  rw [F2]
  rcases hFN l2.toInt.toNat (by omega) with ⟨g1, g2⟩ | ⟨s, p, g1, g2, g3, g4, g5⟩
  · rw [g1]
    refine ri_i ⟨fun c => absurd rfl c, fun _ => hP _ x hH ⟨⟨v, w01, ew, Or.inr ⟨fun s _ hs => ?_, rfl⟩⟩, KR_rf⟩⟩
    obtain ⟨p, a1, a2, -⟩ := hs
    exact g2 s p (gt_lt a1) a1 a2
  · obtain ⟨r, er⟩ : ∃ r, r = x.1 (260 + 20 * v + 7) l2.toInt.toNat := ⟨_, rfl⟩
    rw [← er] at g2 ⊢
    have rS : r.toNatClampNeg = s := by rw [t_cl, g2]; rfl
    have sl := gt_lt g3
    refine ri_i ⟨fun c => ⟨way_in hw, fun u7 e => ⟨260 + 20 * v, by rw [e, ewn, e7], ho, by rw [vp_in_iff]; omega, ?_⟩⟩, fun c => ?_⟩
    · rw [rS]
      exact hP _ x hH ⟨⟨v, w01, ew, Or.inl ⟨s, nz, ⟨p, g3, g4, g5⟩, PA_d TW_try hPA s s p (Nat.le_refl _) g3⟩⟩, KR_rf⟩
    · rw [c, tm1] at g2; omega
end KFI
section MFI
variable {G : mG} {d D : Nat} {x w : gd} {F : Int32 → gd → Prop} {C : gCo} {wr n : Nat} {lm : Nat → Nat} {q : kP}
theorem ma_finding (h : JH C wr n lm x w) (hH : HOI x q) (hm : MI w) (l1 l2 : Int32) (hD : 3 ≤ D) (hF : ∀ r w', ansM C wr (e1Sh l1 l2) False (tFi C lm wr w l1 l2) w r w' → F r w') : MT G D z_finding 0 [(0, vr 0), (1, vi l1), (2, vi l2)] [] w (ri F) := by
  obtain ⟨D, rfl⟩ : ∃ D', D = D' + 1 := ⟨D - 1, by omega⟩
  have km1 : (-1 : Int32).toInt = -1 := rfl
  refine sg_finding_0 _ _ (fun y e => ?_)
  have hy := z0_s e
  have qy := (MI_0 hy.1 hm).1
  have g119 : y.1 119 = w.1 119 := hy.1.2.1 119 (by decide) (by simp)
  have p63 : ∀ v : Nat, (v = 0 ∨ v = 1) → l1 = Int32.ofNat v → vp_in l1 2 → 0 ≤ l2.toInt → l2.toInt < 11 → ∀ s : Int32, (s = -1 → ∀ S, ¬ w.1 119 v = 0 → ¬ fsF C v (twM C lm v) l2.toInt.toNat S) → (¬ s = -1 → ¬ w.1 119 v = 0 ∧ ∃ S : Nat, s.toInt = (S : Nat) ∧ fsF C v (twM C lm v) l2.toInt.toNat S) → MT G (D + 1) z_finding 63 [(0, vr 0), (1, vi l1)] [vi s] y (ri F) := by
    intro v w01 ew wv f0 f1 s h1 h2
    have ok : ¬ e1Sh l1 l2 := fun z => z ⟨w_01 w01 ew, f0, f1⟩
    refine sg_finding_63 _ _ ⟨fun ne => ?_, fun e1 => ri_i (hF _ y (an_3 qy ok (fun z => z) hy.2 ⟨⟨v, w01, ew, Or.inr ⟨h1 e1, rfl⟩⟩, rd_0 hy.1 hm⟩))⟩
    obtain ⟨tr, S, es, hfs⟩ := h2 ne
    have tyw := ((JH_T h v w01).2 (fun z => tr ((JH_T h v w01).1.mp z))).2.2
    have ty : TYc C v y (twM C lm v) := TYc_mi hy.1 rfl tyw
    obtain ⟨p9, hp9, -⟩ := id hfs
    have sS := gt_lt hp9
    have b3 := ty.2.1
    have tm := tmul (k := 3000) (K := 3000) (N := 6000) (n := 3000) (i := s) rfl wv (by omega) (by omega) (by omega) (by omega) (by omega)
    have e9 : l1.toNatClampNeg = v := by rcases w01 with e | e <;> rw [ew, e] <;> rfl
    have cs : s.toNatClampNeg = S := by rw [t_cl, es]; rfl
    refine ⟨tm.1, ri_i (hF _ y (an_3 qy ok (fun z => z) hy.2 ⟨⟨v, w01, ew, Or.inl ⟨S, tr, hfs, ?_⟩⟩, rd_0 hy.1 hm⟩))⟩
    rw [tm.2, e9, cs]
    exact TYc_d TW_try ty S S p9 (Nat.le_refl _) hp9
  have p30 : ∀ b : Int32, (b = 0 → (vp_in l1 2 ∧ (l1 = 0 ∨ l1 = 1)) ∧ 0 ≤ l2.toInt ∧ l2.toInt < 11) → (¬ b = 0 → e1Sh l1 l2) → MT G (D + 1) z_finding 30 [(0, vr 0), (1, vi l1), (2, vi l2)] [vi b, vr 0] y (ri F) := by
    intro b hb hb2
    refine sg_finding_30 _ _ _ (sc_refk b 1 hy (by decide) (fun b0 => ⟨fun _ => ?_, fun q => absurd rfl q⟩) (fun nb y' m => ⟨fun q => absurd q (by decide), fun _ => ri_i (hF _ y' (an_1 hm (hb2 nb) m))⟩))
    obtain ⟨⟨wv, hw⟩, f0, f1⟩ := hb b0
    obtain ⟨v, w01, ew, ewn⟩ := w_nat hw
    obtain ⟨fv, fe⟩ := t11 wv f0 f1
    rw [ewn, g119]
    refine ⟨wv, fun t0 => p63 v w01 ew wv f0 f1 _ (fun _ S t => absurd t0 t) (fun z => absurd rfl z), fun tr => ⟨fv, ?_⟩⟩
    have tyw := ((JH_T h v w01).2 (fun z => tr ((JH_T h v w01).1.mp z))).2.2
    have ty : TYc C v y (twM C lm v) := TYc_mi hy.1 rfl tyw
    have cf : l2.toNatClampNeg = l2.toInt.toNat := rfl
    rw [fe, ewn, cf]
    refine p63 v w01 ew wv f0 f1 _ (fun e1 S _ hS => ?_) (fun ne => ⟨tr, ?_⟩)
    · rcases ty.2.2.1 l2.toInt.toNat (by omega) with ⟨-, g2⟩ | ⟨s9, p8, -, g2, -⟩
      · obtain ⟨p, a1, a2, -⟩ := hS
        exact g2 S p (gt_lt a1) a1 a2
      · have g2 : (y.1 126 (11 * v + l2.toInt.toNat)).toInt = (s9 : Nat) := g2
        rw [e1, km1] at g2; omega
    · rcases ty.2.2.1 l2.toInt.toNat (by omega) with ⟨g1, -⟩ | ⟨s9, p8, g1, g2, g3, g4, g5⟩
      · exact absurd g1 ne
      · exact ⟨s9, g2, p8, g3, g4, g5⟩
  refine sp_in _ _ _ ⟨fun c1 => p30 1 (fun q => absurd q (by decide)) (fun _ hg => ?_), fun c1 => sp_in _ _ _ ⟨fun c2 => p30 0 (fun _ => ⟨w_in (bi_ne.mp c1), f_in (bi_ne.mp c2)⟩) (fun z => absurd rfl z), fun c2 => p30 1 (fun q => absurd q (by decide)) (fun _ hg => ?_)⟩⟩
  · refine bi_eq.mp c1 ?_
    rcases hg.1 with e9 | e9 <;> rw [e9]
    · exact ⟨by decide, by decide⟩
    · exact ⟨by decide, by decide⟩
  · have k0 : (0 : Int32).toInt = 0 := rfl
    have k10 : (10 : Int32).toInt = 10 := rfl
    refine bi_eq.mp c2 ⟨t_le.mpr (by rw [k0]; exact hg.2.1), t_le.mpr ?_⟩
    have := hg.2.2
    rw [k10]; omega
end MFI
end
section
/-! local: a local that is known -/
def lowc (sl : List Nat) (k : Nat) : Nat := (sl.filter (fun s => decide (s < k))).length
def knL (C : gCo) (h : gTq) : Nat := if h.1 = 1 ∨ h.1 = 3 then (stN C h.2.2.1).2.1.length else 0
section LOC
variable {sl r : List Nat} {a k : Nat}
theorem lowc_c : lowc (a :: r) k = lowc r k + (if a < k then 1 else 0) := by
  unfold lowc
  by_cases c : a < k
  · rw [List.filter_cons_of_pos (by simpa using c), List.length_cons, if_pos c]
  · rw [List.filter_cons_of_neg (by simpa using c), if_neg c]; rfl
theorem lowc_s : ∀ {sl : List Nat}, sl.Pairwise (fun a b => b < a) → ∀ k, lowc sl (k + 1) = lowc sl k + (if k ∈ sl then 1 else 0) := by
  intro sl
  induction sl with
  | nil => intro _ k; rw [if_neg (by simp)]; rfl
  | cons a r ih =>
    intro h k
    obtain ⟨h1, h2⟩ := List.pairwise_cons.mp h
    rw [lowc_c, lowc_c, ih h2 k]
    by_cases c : a = k
    · rw [if_pos (show a < k + 1 by omega), if_neg (show ¬ a < k by omega), if_neg (fun z => by have := h1 k z; omega), if_pos (by rw [c]; exact List.mem_cons_self)]
    · have e : (k ∈ a :: r) ↔ k ∈ r := ⟨fun z => (List.mem_cons.mp z).resolve_left (fun z => c z.symm), fun z => List.mem_cons_of_mem _ z⟩
      by_cases d : k ∈ r
      · rw [if_pos d, if_pos (e.mpr d)]
        have := h1 k d
        rw [if_neg (by omega), if_neg (by omega)]
      · rw [if_neg d, if_neg (fun z => d (e.mp z))]
        by_cases f : a < k
        · rw [if_pos (by omega), if_pos f]
        · rw [if_neg (by omega), if_neg f]
theorem lowc_in : ∀ {sl : List Nat}, sl.Pairwise (fun a b => b < a) → ∀ {k : Nat}, k ∈ sl → lowc sl k < sl.length ∧ slN sl (lowc sl k) = k := by
  intro sl
  induction sl with
  | nil => intro _ k hk; cases hk
  | cons a r ih =>
    intro h k hk
    obtain ⟨h1, h2⟩ := List.pairwise_cons.mp h
    rw [lowc_c]
    by_cases c : a = k
    · have e : lowc r k = r.length := by
        unfold lowc
        rw [List.filter_eq_self.mpr (fun b hb => by have := h1 b hb; simpa using (show b < k by omega))]
      rw [if_neg (by omega), e, Nat.add_zero]
      exact ⟨Nat.lt_succ_self _, by rw [slN, if_pos rfl, c]⟩
    · have hk' := (List.mem_cons.mp hk).resolve_left (fun z => c z.symm)
      have := h1 k hk'
      obtain ⟨i1, i2⟩ := ih h2 hk'
      rw [if_neg (by omega), Nat.add_zero]
      exact ⟨Nat.lt_succ_of_lt i1, by rw [slN, if_neg (by omega)]; exact i2⟩
theorem lowc_8 (h : ∀ s ∈ sl, s < 8) : lowc sl 8 = sl.length := by
  unfold lowc
  rw [List.filter_eq_self.mpr (fun b hb => by simpa using h b hb)]
theorem lowc_0 : lowc sl 0 = 0 := by
  unfold lowc
  rw [List.filter_eq_nil_iff.mpr (fun b _ => by simp)]
  rfl
theorem lowc_le (h : sl.Pairwise (fun a b => b < a)) : ∀ k, lowc sl k ≤ k := by
  intro k
  induction k with
  | zero => rw [lowc_0]; exact Nat.le_refl _
  | succ k ih =>
    rw [lowc_s h k]
    split <;> omega
end LOC
theorem st_4 : ∀ a, a < 4 → ∀ b, b < 4 → ((Int32.ofNat a = Int32.ofNat b) ↔ a = b) := by decide +kernel
abbrev inL (nt : Int) (kn : Nat → Nat) (l1 l2 : Int32) : Prop := (0 ≤ l1.toInt ∧ l1.toInt < nt) ∧ 0 ≤ l2.toInt ∧ l2.toInt < (kn l1.toInt.toNat : Nat)
abbrev e2Lo (C : gCo) (wr n : Nat) (c : Nat → Nat) (x : gd) (l1 l2 : Int32) : Prop := ¬ x.1 0 10 = 0 ∧ ¬ inL (x.1 60 10).toInt (fun t => knL C ((runM C wr c n).2.2 t)) l1 l2
def sLo (C : gCo) (wr n : Nat) (c : Nat → Nat) (x : gd) (l1 l2 r : Int32) (y : gd) : Prop := r = ((runM C wr c n).2.2 l1.toInt.toNat).2.2.2.2.2.2.2 l2.toInt.toNat ∧ KRd x y
abbrev f2Lo (C : gCo) (wr n : Nat) (w : gd) (l1 l2 : Int32) : Prop := ¬ w.1 0 67 = 0 ∧ ¬ inL (w.1 0 25).toInt (fun t => knL C ((runM C wr (c96 w) n).2.2 t)) l1 l2
def tLo (C : gCo) (wr n : Nat) (w : gd) (l1 l2 r : Int32) (w' : gd) : Prop := r = ((runM C wr (c96 w) n).2.2 l1.toInt.toNat).2.2.2.2.2.2.2 l2.toInt.toNat ∧ rdM C wr w w'
section KLO
variable {G : kG} {q : kP} {d : Nat} {x y w w' : gd} {P : Option gv → gd → Prop} {X : String → gd → Prop} {C : gCo} {wr n : Nat} {lm : Nat → Nat}
/-- a thread stands at a step that there is -/
theorem JH_st (h : JH C wr n lm x w) (hH : HOI x q) (h10 : ¬ x.1 0 10 = 0) {t : Nat} (ht : (t : Int) < (x.1 60 10).toInt) : ∃ st, C.1[((runM C wr (c96 w) n).2.2 t).2.2.1]? = some st ∧ stN C ((runM C wr (c96 w) n).2.2 t).2.2.1 = st := by
  obtain ⟨j, r, -, -⟩ := JH_R h h10
  have hR := hH.2.2.1 h10
  have ta := (hR.1.2.2 t ht).1.1
  have e10 : (x.1 60 10).toInt = (C.2.1.length : Nat) := j.2.1.2.1.1
  have kq := r.2.1.1.2 t (by omega)
  have e2 := kq.2.2.1
  have el : (x.1 80 9).toInt = (C.1.length : Nat) := j.2.1.1.1
  have ss : ssm x = (x.1 80 9).toInt := rfl
  have hl : ((runM C wr (c96 w) n).2.2 t).2.2.1 < C.1.length := by omega
  have hg := List.getElem?_eq_getElem hl
  exact ⟨_, hg, by unfold stN; rw [hg]; rfl⟩
theorem ka_local (h : JH C wr n lm x w) (hq : kV q) (hH : HOI x q) (l1 l2 : Int32) (hX1 : e1Ch x → X iSE x) (hX2 : e2Lo C wr n (c96 w) x l1 l2 → X iOE x) (hP : ¬ e1Ch x → ¬ e2Lo C wr n (c96 w) x l1 l2 → ∀ r y, HOI y q → sLo C wr n (c96 w) x l1 l2 r y → P (some (vi r)) y) : KE G q (d + 7) zk_X11_local 0 [(0, vr 0), (1, vi l1), (2, vi l2)] [] x P X := by
  have hm : kiM q 120 := Or.inl rfl
  have k8 : (8 : Int32).toInt = 8 := rfl
  refine kg_X11_local_0 hq l1 l2 (kh_run hq hH hX1 (fun h10 hR => kh_ix hq l1 _ (fun hn => hX2 ⟨h10, fun z => hn z.1⟩) (fun l0 l9 => ?_)))
  have hT : ((l1.toInt.toNat : Nat) : Int) < (x.1 60 10).toInt := by omega
  have eT : l1.toInt = ((l1.toInt.toNat : Nat) : Int) := by omega
  have hT6 := MM_6 hR.1.1 hT
  have hA := (hR.1.2.2 _ hT).1
  obtain ⟨st, hs, es⟩ := JH_st h hH h10 hT
  obtain ⟨j, r, -, -⟩ := JH_R h h10
  have e10 : (x.1 60 10).toInt = (C.2.1.length : Nat) := j.2.1.2.1.1
  obtain ⟨H, eH⟩ : ∃ H, H = (runM C wr (c96 w) n).2.2 l1.toInt.toNat := ⟨_, rfl⟩
  have kq := r.2.1.1.2 l1.toInt.toNat (by omega)
  rw [← eH] at kq hs es
  obtain ⟨⟨q0, q0'⟩, -, q2, -, -, -, -, qv, ql⟩ := kq
  have e83 : (x.1 83 H.2.2.1).toInt = (st.2.1.length : Nat) := (j.2.1.1.2 _ st hs).2.1
  have s13 : (rg x 120 l1.toInt.toNat 0 = 1 ∨ rg x 120 l1.toInt.toNat 0 = 3) ↔ (H.1 = 1 ∨ H.1 = 3) := by
    rw [q0]
    exact or_congr (st_4 _ (by omega) 1 (by decide)) (st_4 _ (by omega) 3 (by decide))
  refine kh_known hq hm hR.1.1 hR.1.2.1 l1 eT hT6 hA (fun r9 r0 r8 a1 a2 => ?_)
  have er : r9.toInt = (knL C H : Nat) := by
    unfold knL
    by_cases c : H.1 = 1 ∨ H.1 = 3
    · have e2 : (rg x 120 l1.toInt.toNat 2).toInt.toNat = H.2.2.1 := by rw [q2]; rfl
      rw [a1 (s13.mpr c), if_pos c, es, e2]; exact e83
    · rw [a2 (fun z => c (s13.mp z)), if_neg c]; rfl
  have inq : inL (x.1 60 10).toInt (fun t => knL C ((runM C wr (c96 w) n).2.2 t)) l1 l2 ↔ ((0 ≤ l1.toInt ∧ l1.toInt < (x.1 60 10).toInt) ∧ 0 ≤ l2.toInt ∧ l2.toInt < (knL C H : Nat)) := by
    rw [eH]
  refine kh_ix hq l2 r9 (fun hn => hX2 ⟨h10, fun z => hn ?_⟩) (fun g0 g9 => ?_)
  · have := (inq.mp z).2
    rw [er]; exact this
  rw [er] at g9
  have c13 : H.1 = 1 ∨ H.1 = 3 := by
    apply Classical.byContradiction
    intro c
    unfold knL at g9
    rw [if_neg c] at g9
    omega
  have gl : l2.toInt < (st.2.1.length : Nat) := by
    unfold knL at g9
    rw [if_pos c13, es] at g9
    exact g9
  have g13 := ql c13
  rw [es] at g13
  refine kp_get hq hm hR.1.1 hR.1.2.1 l1 (8 + l2) (K := 8 + l2.toInt.toNat) eT ?_ hT6 (by omega) (hP h10 (fun z => z.2 (inq.mpr ⟨⟨l0, l9⟩, g0, g9⟩)) _ x hH ⟨?_, KR_rf⟩)
  · rw [t_add (by rw [k8]; omega) (by rw [k8]; omega), k8]; omega
  · rw [← eH]
    exact qv l2.toInt.toNat (by omega)
theorem ja_local {l1 l2 r9 r : Int32} (h : JH C wr n lm x w) (hH : HOI y q) (k : ansK (e1Ch x) (e2Lo C wr n (c96 w) x l1 l2) (sLo C wr n (c96 w) x l1 l2) x r9 y) (m : ansM C wr (f1Ch w) (f2Lo C wr n w l1 l2) (tLo C wr n w l1 l2) w r w') : JR3 y w' ∧ ansE r9 r y w' := by
  have e9 := JH_10 h
  refine ans_eq h hH e9 ⟨fun z => ⟨fun a => z.1 (e9.mpr a), by rw [← (JH_R h z.1).1.1.2.2.2.2.1]; exact z.2⟩, fun z => ⟨fun a => z.1 (e9.mp a), by rw [(JH_R h (fun a => z.1 (e9.mp a))).1.1.2.2.2.2.1]; exact z.2⟩⟩ (fun a z => z.1 a) k m (fun c _ r' s t => ⟨JQ_rd h hH s.2 t.2, s.1.trans t.1.symm⟩)
end KLO
section MLO
variable {G : mG} {d D : Nat} {x w : gd} {F : Int32 → gd → Prop} {C : gCo} {wr n : Nat} {lm : Nat → Nat} {q : kP}
theorem ma_local (h : JH C wr n lm x w) (hH : HOI x q) (hm : MI w) (t i : Int32) (hD : 3 ≤ D) (hF : ∀ r w', ansM C wr (f1Ch w) (f2Lo C wr n w t i) (tLo C wr n w t i) w r w' → F r w') : MT G D z_local 0 [(0, vr 0), (1, vi t), (2, vi i)] [] w (ri F) := by
  obtain ⟨D, rfl⟩ : ∃ D', D = D' + 2 := ⟨D - 2, by omega⟩
  have k0 : (0 : Int32).toInt = 0 := rfl
  have k1 : (1 : Int32).toInt = 1 := rfl
  have k8 : (8 : Int32).toInt = 8 := rfl
  refine sg_local_0 _ _ (fun y e => ?_)
  have hy := z0_s e
  have e67 : y.1 0 67 = w.1 0 67 := hy.1.1 67 (by decide)
  have e25 : y.1 0 25 = w.1 0 25 := hy.1.1 25 (by decide)
  have qy := (MI_0 hy.1 hm).1
  refine sc_noRunk hy (fun hr => ⟨fun q => absurd rfl q, fun _ => ?_⟩) (fun c y' m => ⟨fun _ => ri_i (hF _ y' (an_1 hm (show w.1 0 67 = 0 by rw [← e67]; exact c) m)), fun q => absurd q (by decide)⟩)
  obtain ⟨cp, _, rt⟩ := RS_of qy hr
  have g := cp.1
  have g6 := g.2.2.2.2.2.1
  rw [e67] at hr
  have h10 : ¬ x.1 0 10 = 0 := fun z => hr ((JH_10 h).mp z)
  obtain ⟨hc, hh, e94⟩ := JH_M h hr
  have gc := (JH_gc h hH).1
  obtain ⟨mm, m8⟩ := HistC_MM gc.1 (HistC_0 hy.1 hh) (n := n) (by rw [hy.1.1 94 (by decide)]; exact e94)
  have cy : c96 y = c96 w := by unfold c96; rw [hy.1.2.1 96 (by decide) (by simp)]
  rw [cy] at mm
  have hKy : MK y C := MK_mi hy.1 rfl rfl (JH_R h h10).1.2.2.1
  have jn : x.1 60 10 = w.1 0 25 := (JH_R h h10).1.1.2.2.2.2.1
  -- the locals of a thread that there is
  have main : 0 ≤ t.toInt → t.toInt < (y.1 0 25).toInt → MT G (D + 1) z_knownOf 0 [(0, vr 0), (1, vi t)] [] y (ri (fun r4 x3 => MT G (D + 2) z_local 53 [(0, vr 0), (1, vi t), (2, vi i), (3, vi r4), (4, vi 0), (5, vi 0)] [] x3 (ri F))) := by
    intro t0 t1
    have tv : vp_in t 6 := by rw [vp_in_iff]; omega
    have ct := t_cl t
    have t6 : t.toInt.toNat < 6 := by omega
    obtain ⟨H, eH⟩ : ∃ H, H = (runM C wr (c96 w) n).2.2 t.toInt.toNat := ⟨_, rfl⟩
    obtain ⟨st, hs, es⟩ := JH_st h hH h10 (t := t.toInt.toNat) (by rw [jn, ← e25]; omega)
    have tq := mm.2.2 t.toInt.toNat t6
    rw [← eH] at hs es tq
    obtain ⟨q0, q0', -, q2, -, -, -, -, -, q7, -⟩ := tq
    obtain ⟨np, nl, n8⟩ := (gc.1.1 _ st hs).2.2.2.2.1
    have s8 : ∀ s ∈ st.2.1, s < 8 := fun s hs9 => by have := nl s hs9; omega
    have e62 : y.1 62 H.2.2.1 = kmN st.2.1 := (hKy.1.2 _ st hs).2.2.2.2.2.2.2.2
    have inq : inL (w.1 0 25).toInt (fun t => knL C ((runM C wr (c96 w) n).2.2 t)) t i ↔ ((0 ≤ t.toInt ∧ t.toInt < (w.1 0 25).toInt) ∧ 0 ≤ i.toInt ∧ i.toInt < (knL C H : Nat)) := by
      rw [eH]
    -- over the slots
    obtain ⟨sl, esl⟩ : ∃ sl : List Nat, sl = (if H.1 = 1 ∨ H.1 = 3 then st.2.1 else []) := ⟨_, rfl⟩
    have slp : sl.Pairwise (fun a b => b < a) := by rw [esl]; split; exact np; exact List.Pairwise.nil
    have sl8 : ∀ s ∈ sl, s < 8 := by rw [esl]; split; exact s8; exact fun s hs9 => nomatch hs9
    have kl : knL C H = sl.length := by
      unfold knL
      rw [esl, es]
      split
      · rfl
      · rfl
    have loop : ∀ (m k : Nat) (s : Int32), 8 - k ≤ m → k ≤ 8 → s.toInt = (lowc sl k : Nat) → ¬ (0 ≤ i.toInt ∧ i.toInt < (lowc sl k : Nat)) → MT G (D + 2) z_local 53 [(0, vr 0), (1, vi t), (2, vi i), (3, vi (kmN sl)), (4, vi s), (5, vi (Int32.ofNat k))] [] y (ri F) := by
      intro m
      have last : ∀ k : Nat, k = 8 → ¬ (0 ≤ i.toInt ∧ i.toInt < (lowc sl k : Nat)) → MT G (D + 1) z_refuses 0 [(0, vr 0), (1, vi 1), (2, vi 2)] [] y (ri (fun r3 x2 => ri F (some (vi 0)) x2)) := fun k ek hn => sc_refk 1 2 hy (by decide) (fun q => absurd q (by decide)) (fun _ y' m => ri_i (hF _ y' (an_2 hm ⟨hr, fun z => hn (by
        rw [ek, lowc_8 sl8, ← kl]
        exact (inq.mp z).2)⟩ m)))
      have ok : ∀ k, k ≤ 8 → (Int32.ofNat k).toInt = (k : Nat) := fun k hk => Int32.toInt_ofNat_of_lt (by omega)
      induction m with
      | zero =>
        intro k s hk hk8 hs9 hn
        exact sg_local_53 _ _ _ _ _ ⟨fun _ => last k (by omega) hn, fun c => absurd (t_le.mpr (by rw [k8, ok k hk8]; omega)) c⟩
      | succ m ih =>
        intro k s hk hk8 hs9 hn
        refine sg_local_53 _ _ _ _ _ ⟨fun c => last k (by rw [t_le, k8, ok k hk8] at c; omega) hn, fun c => ?_⟩
        rw [t_le, k8, ok k hk8] at c
        have kl8 : k < 8 := by omega
        have e1 : Int32.ofNat k + 1 = Int32.ofNat (k + 1) := by
          rw [t_eq, t_add (by rw [ok k hk8]; omega) (by rw [ok k hk8]; omega), ok k hk8, ok (k + 1) (by omega), k1]
          push_cast; rfl
        have lb : lowc sl k ≤ 8 := by
          unfold lowc
          have h1 := List.length_filter_le (fun s => decide (s < k)) sl
          have h2 : sl.length ≤ 8 := by rw [← lowc_8 sl8]; exact lowc_le slp 8
          omega
        have bit := km_bit sl8 k kl8
        rw [e1, bit]
        have step := lowc_s slp k
        by_cases ck : k ∈ sl
        · rw [if_pos ck] at step ⊢
          refine ⟨fun z => absurd rfl z, fun _ => ⟨fun ne => ih (k + 1) (s + 1) (by omega) (by omega) ?_ ?_, fun eq => ⟨?_, ?_⟩⟩⟩
          · rw [t_add (by rw [k1]; omega) (by rw [k1]; omega), k1, hs9, step]; push_cast; rfl
          · intro z
            rw [step] at z
            have : i.toInt = (lowc sl k : Nat) := by
              have := z.2
              push_cast at this
              omega
            exact ne (t_eq.mpr (by rw [hs9, this]))
          · have m9 : (8 * t).toInt = 8 * t.toInt := by rw [t_mul (by rw [k8]; omega) (by rw [k8]; omega), k8]
            rw [vp_in_iff, t_add (by rw [ok k hk8]; omega) (by rw [ok k hk8]; omega), m9, ok k hk8]; omega
          · obtain ⟨i1, i2⟩ := lowc_in slp ck
            have ei : i.toInt = (lowc sl k : Nat) := by rw [← eq]; exact hs9
            have m9 : (8 * t).toInt = 8 * t.toInt := by rw [t_mul (by rw [k8]; omega) (by rw [k8]; omega), k8]
            have m10 : (8 * t + Int32.ofNat k).toNatClampNeg = 8 * t.toInt.toNat + k := by
              rw [t_cl, t_add (by rw [ok k hk8]; omega) (by rw [ok k hk8]; omega), m9, ok k hk8]; omega
            have c13 : H.1 = 1 ∨ H.1 = 3 := by
              apply Classical.byContradiction
              intro z
              rw [esl, if_neg z] at ck
              cases ck
            have eS : sl = st.2.1 := by rw [esl, if_pos c13]
            refine ri_i (hF _ y (an_3 qy hr (fun z => z.2 (inq.mpr ⟨⟨t0, by rw [← e25]; exact t1⟩, by omega, by rw [kl]; omega⟩)) hy.2 ⟨?_, rd_0 hy.1 hm⟩))
            rw [m10, ← eH]
            have v := q7 c13 i.toInt.toNat (by rw [es, ← eS]; omega)
            rw [es, ← eS, show i.toInt.toNat = lowc sl k by omega, i2] at v
            rw [v, show i.toInt.toNat = lowc sl k by omega]
        · rw [if_neg ck] at step ⊢
          refine ⟨fun _ => ih (k + 1) s (by omega) (by omega) (by rw [hs9, step]; rfl) (by rw [step]; exact hn), fun z => absurd z (by decide)⟩
    have fin := loop 8 0 0 (by omega) (by omega) (by rw [lowc_0]; rfl) (by rw [lowc_0]; intro z; have := z.2; omega)
    have v74 : vp_in (y.1 74 t.toNatClampNeg) 1500 := by rw [vp_in_iff]; exact ⟨(rt _ (vt tv)).1, (rt _ (vt tv)).2.1⟩
    have e74 : (y.1 74 t.toNatClampNeg).toNatClampNeg = H.2.2.1 := by rw [ct, t_cl, q2]; rfl
    have e73 : y.1 73 t.toNatClampNeg = Int32.ofNat H.1 := by rw [ct]; exact q0
    have s4 := fun b hb => st_4 H.1 (by omega) b hb
    refine sg_knownOf_0 _ ⟨tv, fun c => ⟨tv, v74, ri_i ?_⟩, fun c => ⟨tv, fun c3 => ri_i ?_, fun c3 => ⟨tv, v74, ri_i ?_⟩⟩⟩
    · rw [e73] at c
      have c1 : H.1 = 1 := (s4 1 (by decide)).mp c
      rw [e74, e62]
      rw [esl, if_pos (Or.inl c1)] at fin
      exact fin
    · rw [e73] at c c3
      rw [esl, if_neg (fun z => by
        rcases z with z | z
        · exact c ((s4 1 (by decide)).mpr z)
        · exact c3 ((s4 3 (by decide)).mpr z))] at fin
      exact fin
    · rw [e73] at c3
      have c1 : H.1 = 3 := (s4 3 (by decide)).mp c3
      rw [e74, e62]
      rw [esl, if_pos (Or.inr c1)] at fin
      exact fin
  have p32 : ∀ b : Int32, (b = 0 → 0 ≤ t.toInt ∧ t.toInt < (y.1 0 25).toInt) → (¬ b = 0 → ¬ (0 ≤ t.toInt ∧ t.toInt < (y.1 0 25).toInt)) → MT G (D + 2) z_local 32 [(0, vr 0), (1, vi t), (2, vi i)] [vi b, vr 0] y (ri F) := by
    intro b hb hb2
    exact sg_local_32 _ _ _ (sc_refk b 2 hy (by decide) (fun b0 => ⟨fun _ => main (hb b0).1 (hb b0).2, fun q => absurd rfl q⟩) (fun nb y' m => ⟨fun q => absurd q (by decide), fun _ => ri_i (hF _ y' (an_2 hm ⟨hr, fun z => hb2 nb (by rw [e25]; exact z.1)⟩ m))⟩))
  exact sp_in _ _ _ ⟨fun c1 => p32 0 (fun _ => in_lt (bi_ne.mp c1) g.2.2.2.2.1) (fun z => absurd rfl z), fun c1 => p32 1 (fun q => absurd q (by decide)) (fun _ => in_ge (bi_eq.mp c1) g.2.2.2.2.1)⟩
end MLO
end
section
/-! choice: what a choice is -/
noncomputable def chVal (C : gCo) (w : Nat) (M : gMa) (ch : gCh) (k : Int32) : Int32 :=
  if k = 0 then Int32.ofNat ch.1
  else if k = 1 then (if ch.2.1 = none then 0 else 1)
  else if k = 2 then (if ch.2.1 = none then Int32.ofNat (soM C (M.2.2 ch.1)) else 1)
  else if k = 3 then (if ch.2.1 = none then (lkM C w M ch.1).2.1 else Int32.ofNat (((M.2.2 ch.1).2.2.2.2.2.2.1[ch.2.1.getD 0]?).getD (0, 0)).1)
  else opI ch.2.2
abbrev inCh (nc : Int) (l1 l2 : Int32) : Prop := (0 ≤ l1.toInt ∧ l1.toInt < nc) ∧ 0 ≤ l2.toInt ∧ l2.toInt < 5
abbrev e2Ci (x : gd) (l1 l2 : Int32) : Prop := ¬ x.1 0 10 = 0 ∧ ¬ inCh (x.1 120 13).toInt l1 l2
def chR (C : gCo) (wr n : Nat) (c : Nat → Nat) (l1 l2 r : Int32) : Prop := ∃ ch, (chM C wr (runM C wr c n))[l1.toInt.toNat]? = some ch ∧ r = chVal C wr (runM C wr c n) ch l2
def sCi (C : gCo) (wr n : Nat) (c : Nat → Nat) (x : gd) (l1 l2 r : Int32) (y : gd) : Prop := chR C wr n c l1 l2 r ∧ KRd x y
abbrev f2Ci (w : gd) (l1 l2 : Int32) : Prop := ¬ w.1 0 67 = 0 ∧ ¬ inCh (w.1 0 84).toInt l1 l2
def tCi (C : gCo) (wr n : Nat) (w : gd) (l1 l2 r : Int32) (w' : gd) : Prop := chR C wr n (c96 w) l1 l2 r ∧ rdM C wr w w'
theorem chR_eq {C : gCo} {wr n : Nat} {c : Nat → Nat} {l1 l2 r r' : Int32} (h : chR C wr n c l1 l2 r) (g : chR C wr n c l1 l2 r') : r = r' := by
  obtain ⟨ch, a1, a2⟩ := h
  obtain ⟨ch', b1, b2⟩ := g
  rw [a1] at b1
  rw [a2, b2, Option.some.inj b1]
section PCH
variable {C : gCo} {w T : Nat} {M : gMa} {ch : gCh}
theorem lkI_m1 (h : ¬ (lkI C M T).1 = 0) : (lkI C M T).2 = -1 := by
  unfold lkI at h ⊢
  split
  · next e => rw [e] at h; exact absurd rfl h
  · next Q e =>
    simp only [e] at h
    split
    · rfl
    · next v e2 =>
      simp only [e2] at h
      split
      · rfl
      · next c => rw [if_neg c] at h; exact absurd rfl h
theorem lkM_0 (h : (M.2.2 T).2.2.2.1 = 0) : (lkM C w M T).2.1 = (lkI C M T).2 := by
  unfold lkM
  rw [if_neg (fun z => z h)]
  by_cases c : ¬ (lkI C M T).1 = 0
  · rw [if_pos c]
  · rw [if_neg c]
    split
    · rfl
    · split
      · rfl
      · rfl
theorem lkM_w (h : ¬ (M.2.2 T).2.2.2.1 = 0) : (lkM C w M T).2.1 = (stN C (M.2.2 T).2.2.1).2.2.2.2.1 := by
  unfold lkM
  rw [if_pos h]
theorem lkI_no (h : (stN C (M.2.2 T).2.2.1).2.2.2.2.2.2.2.1 = none) : (lkI C M T).2 = (stN C (M.2.2 T).2.2.1).2.2.2.2.1 := by
  unfold lkI
  rw [h]
theorem ch_lt (h : ch ∈ chM C w M) : ¬ ch.2.1 = none → ch.2.2 = none := by
  unfold chM at h
  obtain ⟨t, ht, h⟩ := List.mem_flatMap.mp h
  unfold ch1 at h
  rcases List.mem_append.mp h with h | h
  · by_cases c : canM C w M t
    · rw [if_pos c] at h
      by_cases c8 : soM C (M.2.2 t) = 8 ∧ (stN C (M.2.2 t).2.2.1).2.2.2.2.2.2.1 = false ∧ (M.2.1 (obM C (M.2.2 t).2.2.1)).1 = t + 1 ∧ ¬ waM C M (obM C (M.2.2 t).2.2.1) = []
      · rw [if_pos c8] at h
        obtain ⟨u, hu, e⟩ := List.mem_map.mp h
        subst e
        exact fun z => absurd rfl z
      · rw [if_neg c8] at h
        cases List.mem_singleton.mp h
        exact fun z => absurd rfl z
    · rw [if_neg c] at h; cases h
  · obtain ⟨u, hu, e⟩ := List.mem_map.mp h
    subst e
    exact fun _ => rfl
end PCH
section KCI
variable {G : kG} {q : kP} {d : Nat} {x y w w' : gd} {Fv : gd → Prop} {P : Option gv → gd → Prop} {X : String → gd → Prop} {C : gCo} {wr n : Nat} {lm : Nat → Nat}
theorem kh_what (hq : kV q) (l n : Int32) (hO : ¬ (0 ≤ l.toInt ∧ l.toInt < n.toInt) → X iOE x) (h : 0 ≤ l.toInt → l.toInt < n.toInt → Fv x) : KE G q (d + 6) zk_X11_needWhat 0 [(0, vi l), (1, vi n)] [] x (rv Fv) X := by
  have k0 : (0 : Int32).toInt = 0 := rfl
  refine kg_X11_needWhat_0 hq l n ⟨fun c => kg_X11_needWhat_9 hq (hO ?_), fun c => ⟨fun c2 => rv_i (h ?_ ?_), fun c2 => kg_X11_needWhat_9 hq (hO ?_)⟩⟩
  · rw [t_lt, k0] at c; omega
  · rw [t_lt, k0] at c; omega
  · rw [t_lt] at c2; exact c2
  · rw [t_lt] at c2; omega
theorem kch_4 {x : gd} {o I : Nat} {ch : gCh} (h : kch x o I ch) : x.1 (o + 13) I = opI ch.2.2 := by
  obtain ⟨-, -, -, h4, h5⟩ := h
  cases e : ch.2.2 with
  | none => exact h4 e
  | some k => exact h5 k e
theorem ka_choice (h : JH C wr n lm x w) (hq : kV q) (hH : HOI x q) (l1 l2 : Int32) (hX1 : e1Ch x → X iSE x) (hX2 : e2Ci x l1 l2 → X iOE x) (hP : ¬ e1Ch x → ¬ e2Ci x l1 l2 → ∀ r y, HOI y q → sCi C wr n (c96 w) x l1 l2 r y → P (some (vi r)) y) : KE G q (d + 7) zk_X11_choice 0 [(0, vr 0), (1, vi l1), (2, vi l2)] [] x P X := by
  have hm : kiM q 120 := Or.inl rfl
  have k5 : (5 : Int32).toInt = 5 := rfl
  refine kg_X11_choice_0 hq l1 l2 (kh_run hq hH hX1 (fun h10 hR => kh_ix hq l1 _ (fun hn => hX2 ⟨h10, fun z => hn z.1⟩) (fun l0 l9 => kh_what hq l2 5 (fun hn => hX2 ⟨h10, fun z => hn (by rw [k5]; exact z.2)⟩) (fun g0 g9 => ?_))))
  rw [k5] at g9
  obtain ⟨j, r, -, -⟩ := JH_R h h10
  have gc := JH_gc h hH
  obtain ⟨M, eM⟩ : ∃ M, M = runM C wr (c96 w) n := ⟨_, rfl⟩
  have hP := hP h10 (fun z => z.2 ⟨⟨l0, l9⟩, g0, g9⟩)
  unfold sCi chR at hP
  rw [← eM] at hP
  obtain ⟨-, ⟨r2, r3, r4⟩, -⟩ := r
  rw [← eM] at r2 r3 r4
  have len := r4.1
  have len : (x.1 120 13).toInt = ((chM C wr M).length : Nat) := len
  have hl : l1.toInt.toNat < (chM C wr M).length := by omega
  obtain ⟨ch, hch⟩ : ∃ ch, (chM C wr M)[l1.toInt.toNat]? = some ch := ⟨_, List.getElem?_eq_getElem hl⟩
  have kc := r4.2 _ _ hch
  have cm := List.mem_of_getElem? hch
  obtain ⟨i1, i2, i3⟩ := ch_in cm
  have b84 := hR.2.1.1
  have v84 : vp_in l1 84 := by rw [vp_in_iff]; omega
  have e131 : x.1 131 l1.toInt.toNat = Int32.ofNat ch.1 := kc.1
  have e133 : x.1 133 l1.toInt.toNat = opI ch.2.2 := kch_4 kc
  have e132n : ch.2.1 = none → x.1 132 l1.toInt.toNat = -1 := kc.2.1
  have e132s : ∀ j, ch.2.1 = some j → x.1 132 l1.toInt.toNat = Int32.ofNat j := kc.2.2.1
  have e10 : (x.1 60 10).toInt = (C.2.1.length : Nat) := j.2.1.2.1.1
  have hT6 := MM_6 hR.1.1 (t := ch.1) (by omega)
  have hA := (hR.1.2.2 ch.1 (by omega)).1
  have gT := r2.2 ch.1 i1
  have eT : (x.1 131 l1.toInt.toNat).toInt = (ch.1 : Nat) := by rw [e131]; exact Int32.toInt_ofNat_of_lt (by omega)
  have q7 := gT.2.2.2.2.2.2.1
  have lt8 := hA.2.1
  have late : ∀ jj, ch.2.1 = some jj → jj < 8 ∧ ¬ x.1 132 l1.toInt.toNat = -1 ∧ (x.1 132 l1.toInt.toNat).toInt = (jj : Nat) := fun jj hj => by
    have h8 := i3 jj hj
    have : jj < 8 := by omega
    have e9 := e132s jj hj
    have e8 : (Int32.ofNat jj).toInt = (jj : Nat) := Int32.toInt_ofNat_of_lt (by omega)
    refine ⟨this, fun z => ?_, by rw [e9]; exact e8⟩
    rw [e9] at z
    rw [z, tm1] at e8
    omega
  have nn : ¬ x.1 132 l1.toInt.toNat = -1 ↔ ¬ ch.2.1 = none := ⟨fun a b => a (e132n b), fun a => by
    cases hc : ch.2.1 with
    | none => exact absurd hc a
    | some jj => exact (late jj hc).2.1⟩
  have here : ∀ r, r = chVal C wr M ch l2 → P (some (vi r)) x := fun r er => hP r x hH ⟨⟨ch, hch, er⟩, KR_rf⟩
  have n1 : ∀ {a b : Int32}, ¬ a = b → l2 = a → ¬ l2 = b := fun h e z => h (e.symm.trans z)
  rw [t_cl]
  refine ⟨v84, v84, fun c => here _ ?_, fun c => ⟨fun z => here _ ?_, fun z => here _ ?_⟩, fun c => ⟨fun z => here _ ?_, fun z => ?_⟩, fun c => ⟨fun z => ?_, fun z => ?_⟩, fun c => ⟨v84, here _ ?_⟩⟩
  · unfold chVal; rw [if_pos c]; exact e131
  · unfold chVal; rw [if_neg (n1 (by decide) c), if_pos c, if_neg (nn.mp z)]
  · unfold chVal; rw [if_neg (n1 (by decide) c), if_pos c, if_pos (Classical.not_not.mp (fun a => nn.mpr a z))]
  · unfold chVal; rw [if_neg (n1 (by decide) c), if_neg (n1 (by decide) c), if_pos c, if_neg (nn.mp z)]
  · have cn : ch.2.1 = none := Classical.not_not.mp (fun a => nn.mpr a z)
    have ev : chVal C wr M ch l2 = Int32.ofNat (soM C (M.2.2 ch.1)) := by unfold chVal; rw [if_neg (n1 (by decide) c), if_neg (n1 (by decide) c), if_pos c, if_pos cn]
    obtain ⟨st, s1, s2, s3, s4, s5, kn, ns⟩ := kst_at hR.1 j.2.1 gc.1.1 i1 gT
    have w3 := kst_w3 hR.1 j.2.1 gc.1.1 i1 gT
    refine kp_sortOf hq hm hR.1.1 hR.1.2.1 _ eT hT6 hA (fun c3 => here _ ?_) (fun c3 => here _ ?_)
    · rw [ev, s3]
      unfold soM
      rw [if_pos (w3.mp c3), s2]
      exact kn.1
    · rw [ev]
      unfold soM
      rw [if_neg (fun z9 => c3 (w3.mpr z9))]
      rfl
  · obtain ⟨jj, hj⟩ : ∃ jj, ch.2.1 = some jj := by
      cases hc : ch.2.1 with
      | none => exact absurd hc (nn.mp z)
      | some jj => exact ⟨jj, rfl⟩
    obtain ⟨j8, -, ej⟩ := late jj hj
    have h8 := i3 jj hj
    have hg := List.getElem?_eq_getElem h8
    have qq := (q7.2 jj _ hg).1
    refine kp_lateCell hq hm hR.1.1 hR.1.2.1 _ _ eT hT6 ej j8 (here _ ?_)
    unfold chVal
    rw [if_neg (n1 (by decide) c), if_neg (n1 (by decide) c), if_neg (n1 (by decide) c), if_pos c, if_neg (nn.mp z), hj]
    show _ = Int32.ofNat (((M.2.2 ch.1).2.2.2.2.2.2.1[jj]?).getD (0, 0)).1
    rw [hg]
    exact i32_of qq
  · have cn : ch.2.1 = none := Classical.not_not.mp (fun a => nn.mpr a z)
    have ev : chVal C wr M ch l2 = (lkM C wr M ch.1).2.1 := by unfold chVal; rw [if_neg (n1 (by decide) c), if_neg (n1 (by decide) c), if_neg (n1 (by decide) c), if_pos c, if_pos cn]
    obtain ⟨st, s1, s2, s3, s4, s5, kn, ns⟩ := kst_at hR.1 j.2.1 gc.1.1 i1 gT
    have u1 := (i2 cn).1
    have tg := (hR.1.2.2 ch.1 (by omega)).2 (by rw [gT.1.1, u1]; rfl)
    rw [s3] at tg
    have o16 : st.1 < 16 := by have := tg.1; omega
    refine kh_objectOf hq hm hR.1 j.2.1 gc.1.1 r2 _ eT i1 u1 (fun r9 y9 fy a1 a2 => ?_)
    have fk : KRd x y9 := fm_w fy (fun c k q => by unfold sLk at q; unfold sRd; omega)
    refine hP r9 y9 (HOI_run (fm_w fy (fun c k => rn_Lk)) (RUN_Lk fy hR) hH) ⟨⟨ch, hch, ?_⟩, fk⟩
    rw [ev]
    by_cases so : soM C (M.2.2 ch.1) ≤ 4
    · have w0 : (M.2.2 ch.1).2.2.2.1 = 0 := by
        apply Classical.byContradiction
        intro z9
        unfold soM at so
        rw [if_neg z9] at so
        omega
      rw [lkM_0 w0]
      rcases a1 so with ⟨-, b2, -⟩ | ⟨b1, b2⟩
      · exact b2
      · rw [b2, lkI_m1 b1]
    · have r9e : r9 = st.2.2.2.2.1 := by
        rcases a2 so with b | b
        · rw [b, s2]
        · rw [s2] at b; omega
      by_cases w0 : (M.2.2 ch.1).2.2.2.1 = 0
      · have ix : st.2.2.2.2.2.2.2.1 = none := by
          apply Classical.byContradiction
          intro z9
          have := (gc.1.2.1 _ st s1).1 z9
          unfold soM at so
          rw [if_pos w0, s2] at so
          omega
        rw [lkM_0 w0, lkI_no (by rw [s2]; exact ix), s2]; exact r9e
      · rw [lkM_w w0, s2]; exact r9e
  · unfold chVal
    rw [if_neg (c 0 (by decide)), if_neg (c 1 (by decide)), if_neg (c 2 (by decide)), if_neg (c 3 (by decide))]
    exact e133
theorem ja_choice {l1 l2 r9 r : Int32} (h : JH C wr n lm x w) (hH : HOI y q) (k : ansK (e1Ch x) (e2Ci x l1 l2) (sCi C wr n (c96 w) x l1 l2) x r9 y) (m : ansM C wr (f1Ch w) (f2Ci w l1 l2) (tCi C wr n w l1 l2) w r w') : JR3 y w' ∧ ansE r9 r y w' := by
  have e9 := JH_10 h
  refine ans_eq h hH e9 ⟨fun z => ⟨fun a => z.1 (e9.mpr a), by rw [← JH_84 h z.1]; exact z.2⟩, fun z => ⟨fun a => z.1 (e9.mp a), by rw [JH_84 h (fun a => z.1 (e9.mp a))]; exact z.2⟩⟩ (fun a z => z.1 a) k m (fun c _ r' s t => ⟨JQ_rd h hH s.2 t.2, chR_eq s.1 t.1⟩)
end KCI
section MCI
variable {G : mG} {d D : Nat} {x w : gd} {F : Int32 → gd → Prop} {C : gCo} {wr n : Nat} {lm : Nat → Nat} {q : kP}
theorem ma_choice (h : JH C wr n lm x w) (hH : HOI x q) (hm : MI w) (i k : Int32) (hD : 4 ≤ D) (hF : ∀ r w', ansM C wr (f1Ch w) (f2Ci w i k) (tCi C wr n w i k) w r w' → F r w') : MT G D z_choice 0 [(0, vr 0), (1, vi i), (2, vi k)] [] w (ri F) := by
  obtain ⟨D, rfl⟩ : ∃ D', D = D' + 2 := ⟨D - 2, by omega⟩
  have k0 : (0 : Int32).toInt = 0 := rfl
  refine sg_choice_0 _ _ (fun y e => ?_)
  have hy := z0_s e
  have e67 : y.1 0 67 = w.1 0 67 := hy.1.1 67 (by decide)
  have qy := (MI_0 hy.1 hm).1
  refine sc_noRunk hy (fun hr => ⟨fun q => absurd rfl q, fun _ => ?_⟩) (fun c y' m => ⟨fun _ => ri_i (hF _ y' (an_1 hm (show w.1 0 67 = 0 by rw [← e67]; exact c) m)), fun q => absurd q (by decide)⟩)
  have hc := (qy.2.2.1 hr).1
  rw [e67] at hr
  obtain ⟨-, hh, e94⟩ := JH_M h hr
  have gc := (JH_gc h hH).1
  have w01 := HistC_w hh
  have e84w : y.1 0 84 = w.1 0 84 := hy.1.1 84 (by decide)
  obtain ⟨⟨s, n', q1, q2, q3, q4, q5, q6, q7⟩, hJ9⟩ := HistC_0 hy.1 hh
  have cy : c96 y = c96 w := by unfold c96; rw [hy.1.2.1 96 (by decide) (by simp)]
  have en : n' = n := by rw [hy.1.1 94 (by decide), e94] at q1; omega
  subst en
  have am := q2 n' (Nat.le_refl _)
  rw [cy] at am
  obtain ⟨M, eM⟩ : ∃ M, M = runM C wr (c96 w) n' := ⟨_, rfl⟩
  rw [← eM] at am
  have hF := hF
  unfold tCi chR at hF
  rw [← eM] at hF
  have av := am.1
  have e84 : y.1 0 84 = (s n').1 0 84 := q4 0 84 (Or.inr (Or.inl ⟨rfl, rfl⟩))
  have c0 := av.2.2.2.1
  have c84 := av.2.2.2.2.1
  have len := AM_n am
  have p41 : ∀ b : Int32, (b = 0 → inCh (y.1 0 84).toInt i k) → (¬ b = 0 → ¬ inCh (y.1 0 84).toInt i k) → MT G (D + 2) z_choice 41 [(0, vr 0), (1, vi i), (2, vi k)] [vi b, vr 0] y (ri F) := by
    intro b hb hb2
    refine sg_choice_41 _ _ _ (sc_refk b 2 hy (by decide) (fun b0 => ⟨fun _ => ?_, fun q => absurd rfl q⟩) (fun nb y' m => ⟨fun q => absurd q (by decide), fun _ => ri_i (hF _ y' (an_2 hm ⟨hr, by rw [← e84w]; exact hb2 nb⟩ m))⟩))
    have hin := hb b0
    have nE2 : ¬ f2Ci w i k := fun z => z.2 (by rw [← e84w]; exact hin)
    obtain ⟨hi, hk⟩ := hin
    rw [e84] at hi
    have ci := cl_i hi.1
    have iv : vp_in i 200 := by rw [vp_in_iff]; omega
    have hl : i.toInt.toNat < (chM C wr M).length := by omega
    obtain ⟨ch, hch⟩ : ∃ ch, (chM C wr M)[i.toInt.toNat]? = some ch := ⟨_, List.getElem?_eq_getElem hl⟩
    have cm := List.mem_of_getElem? hch
    obtain ⟨j1, j2, j3⟩ := ch_in cm
    obtain ⟨m86, m87, m88⟩ := am.2.2.2.2.2.2 _ _ hch
    obtain ⟨u86, u87, u88, ⟨t0, t6⟩, co⟩ := av.2.2.1 i.toNatClampNeg (by omega)
    have e86 := q4 _ _ (Or.inr u86)
    have e87 := q4 _ _ (Or.inr u87)
    have e88 := q4 _ _ (Or.inr u88)
    rw [t_cl] at e86 e87 e88
    rw [m86] at e86
    rw [m87] at e87
    rw [m88] at e88
    have lt6 : ch.1 < 6 := by have := gc.2.2.1; omega
    have e6 : (Int32.ofNat ch.1).toInt = (ch.1 : Nat) := Int32.toInt_ofNat_of_lt (by omega)
    have tv : vp_in (Int32.ofNat ch.1) 6 := by rw [vp_in_iff]; omega
    have ct : (Int32.ofNat ch.1).toNatClampNeg = ch.1 := by rw [t_cl, e6]; rfl
    have rr := (av.1.2 ch.1 lt6)
    have a74 : vp_in (y.1 74 (Int32.ofNat ch.1).toNatClampNeg) 1500 := by
      rw [ct, cA q4 (c := 74) (n := 6) (by decide) lt6, vp_in_iff]
      exact ⟨rr.1.1, rr.1.2.1⟩
    have lq := (am.2.2.1.2.2 ch.1 lt6).2.2.2.2.2.2.2.2.1
    have op8 : ∀ jj, jj < 9 → ¬ Int32.ofNat jj = -1 := by decide +kernel
    have lt9 : ∀ jj, ch.2.1 = some jj → jj < 8 := fun jj hj => by
      have := j3 jj hj
      have := lq.1
      have := rr.2.2.2.1
      omega
    have nn : y.1 87 i.toInt.toNat = -1 ↔ ch.2.1 = none := by
      rw [e87]
      cases hcc : ch.2.1 with
      | none => exact ⟨fun _ => rfl, fun _ => rfl⟩
      | some jj => exact ⟨fun z => absurd z (op8 jj (by have := lt9 jj hcc; omega)), fun z => nomatch z⟩
    have ok : ∀ r, r = chVal C wr M ch k → ri F (some (vi r)) y := fun r er => ri_i (hF _ y (an_3 qy hr nE2 hy.2 ⟨⟨ch, hch, er⟩, rd_0 hy.1 hm⟩))
    have n1 : ∀ {a b : Int32}, ¬ a = b → k = a → ¬ k = b := fun h e z => h (e.symm.trans z)
    rw [t_cl]
    refine ⟨iv, iv, fun n0 => ⟨fun c => ?_, fun c => ?_⟩, fun z0' => ok _ ?_⟩
    · have cn := nn.mp c
      refine ⟨fun n3 => ⟨fun n1' => ⟨fun n2 => ⟨iv, ok _ ?_⟩, fun e2 => ?_⟩, fun e1 => ok _ ?_⟩, fun e3 => ?_⟩
      · unfold chVal; rw [if_neg n0, if_neg n1', if_neg n2, if_neg n3]; exact e88
      · have u1 := (j2 cn).1
        have h1 : (s n').1 73 ch.1 = 1 := by rw [(am.2.2.1.2.2 ch.1 lt6).1, u1]; rfl
        have h2 : ¬ (s n').1 77 ch.1 = 1 := fun z => (j2 cn).2.1 (by
          have e77 := (am.2.2.1.2.2 ch.1 lt6).2.2.2.2.1
          have l77 := (am.2.2.1.2.2 ch.1 lt6).2.2.2.2.2.1
          rw [e77] at z
          exact (wai_2 _ (by omega)).2.1.mp z)
        rw [e86]
        refine sp_sortOf _ tv a74 ?_
        rw [ct, srt_eq (eqS_w (Sl_Sm _) q4) av.1 lt6, (srt_so gc.1 am lt6 h1 h2).1]
        exact ok _ (by unfold chVal; rw [if_neg n0, if_neg (n1 (by decide) e2), if_pos e2, if_pos cn])
      · unfold chVal; rw [if_neg n0, if_pos e1, if_pos cn]
      · have u1 := (j2 cn).1
        have h1 : (s n').1 73 ch.1 = 1 := by rw [(am.2.2.1.2.2 ch.1 lt6).1, u1]; rfl
        have h2 : ¬ (s n').1 77 ch.1 = 1 := fun z => (j2 cn).2.1 (by
          have e77 := (am.2.2.1.2.2 ch.1 lt6).2.2.2.2.1
          have l77 := (am.2.2.1.2.2 ch.1 lt6).2.2.2.2.2.1
          rw [e77] at z
          exact (wai_2 _ (by omega)).2.1.mp z)
        rw [e86]
        refine sp_lookAt3 gc.1 gc.2.1 w01 am q4 _ tv (by rw [ct]; exact h1) (by rw [ct]; exact h2) (by omega) (fun y' x' e' m' _ _ _ _ v88 => ri_i (hF _ y' ?_))
        rw [ct] at v88
        have mm := mi_of m'
        have cy' : c96 y' = c96 y := by unfold c96; rw [mm.2.1 96 (by decide) (by decide)]
        have histc : HistC C wr y' := ⟨⟨s, n', by rw [mm.1 94 (by decide)]; exact q1, by rw [cy']; exact q2, by rw [cy', mm.2.1 96 (by decide) (by decide)]; exact q3, e', by rw [mm.1 68 (by decide)]; exact St_pr (prE_mi (prE_rf y) mm rfl rfl) q5, by rw [mm.1 68 (by decide)]; exact q6, HA_mi mm rfl rfl q7⟩, MJq_mi mm rfl rfl hJ9⟩
        have p := MI_new mm rfl rfl hc (HistC_H histc) qy
        refine an_3 p.1 hr nE2 (by rw [mm.1 0 (by decide)]; exact hy.2) ⟨⟨ch, hch, ?_⟩, rd_tr hy.1 ⟨p, ⟨mm.1 67 (by decide), mm.1 94 (by decide), mm.2.1 96 (by decide) (by decide)⟩, mm.2.1 119 (by decide) (by decide), fun _ => histc, fun w T h => TYc_mi mm rfl h⟩⟩
        rw [v88]
        unfold chVal
        rw [if_neg n0, if_neg (n1 (by decide) e3), if_neg (n1 (by decide) e3), if_pos e3, if_pos cn]
    · have cs : ¬ ch.2.1 = none := fun z => c (nn.mpr z)
      obtain ⟨jj, hj⟩ : ∃ jj, ch.2.1 = some jj := by
        cases hcc : ch.2.1 with
        | none => exact absurd hcc cs
        | some jj => exact ⟨jj, rfl⟩
      have h8 := lt9 jj hj
      have ej : y.1 87 i.toInt.toNat = Int32.ofNat jj := by rw [e87, hj]; rfl
      have ejj : (Int32.ofNat jj).toInt = (jj : Nat) := Int32.toInt_ofNat_of_lt (by omega)
      refine ⟨fun e1 => ok _ ?_, fun n1' => ⟨fun n2 => ⟨fun n3 => ok _ ?_, fun e3 => ?_⟩, fun e2 => ok _ ?_⟩⟩
      · unfold chVal; rw [if_neg n0, if_pos e1, if_neg cs]
      · unfold chVal; rw [if_neg n0, if_neg n1', if_neg n2, if_neg n3, ch_lt cm cs]; rfl
      · rw [e86, ej]
        obtain ⟨ta, tb⟩ := t10 tv (i := Int32.ofNat jj) (by omega) (by omega)
        refine ⟨ta, ok _ ?_⟩
        rw [tb, ct, t_cl, ejj]
        have hg := List.getElem?_eq_getElem (j3 jj hj)
        have b1 := (lq.2 jj _ hg).1
        have ey : y.1 81 (10 * ch.1 + jj) = (s n').1 81 (10 * ch.1 + jj) := q4 81 _ (Or.inr (Or.inr (Or.inr ⟨Or.inl rfl, ch.1, jj, lt6, by rw [lq.1]; have := j3 jj hj; omega, rfl⟩)))
        unfold chVal
        rw [if_neg n0, if_neg n1', if_neg n2, if_pos e3, if_neg cs, hj]
        show y.1 81 (10 * ch.1 + ((jj : Nat) : Int).toNat) = Int32.ofNat (((M.2.2 ch.1).2.2.2.2.2.2.1[jj]?).getD (0, 0)).1
        rw [hg, Int.toNat_natCast, ey]
        exact b1
      · unfold chVal; rw [if_neg n0, if_neg n1', if_pos e2, if_neg cs]
    · unfold chVal; rw [if_pos z0', e86]
  refine sp_in _ _ _ ⟨fun c1 => p41 1 (fun q => absurd q (by decide)) (fun _ z => in_ge (bi_eq.mp c1) (by rw [e84]; exact c0) z.1), fun c1 => sp_in _ _ _ ⟨fun c2 => p41 0 (fun _ => ⟨in_lt (bi_ne.mp c1) (by rw [e84]; exact c0), ?_⟩) (fun z => absurd rfl z), fun c2 => p41 1 (fun q => absurd q (by decide)) (fun _ z => ?_)⟩⟩
  · obtain ⟨a1, a2⟩ := bi_ne.mp c2
    have k4 : (4 : Int32).toInt = 4 := rfl
    rw [t_le, k0] at a1
    rw [t_le, k4] at a2
    omega
  · have k4 : (4 : Int32).toInt = 4 := rfl
    have := z.2
    exact bi_eq.mp c2 ⟨t_le.mpr (by rw [k0]; exact z.2.1), t_le.mpr (by rw [k4]; omega)⟩
end MCI
end
