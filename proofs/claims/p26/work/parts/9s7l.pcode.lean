section
/-! what else a compiled program is like -/
section PCD
variable {x : gd} {C : gCo} {nl : Nat}
theorem so_of (hK : CK x C) (hN : NC C) {s : Nat} {st : gNs} (hs : C.1[s]? = some st) : (s : Int) < ssm x ∧ sop x s = (st.1 : Nat) := by
  have n22 := (hN.1 s st hs).1.1
  obtain ⟨k81, -⟩ := hK.1.2 s st hs
  refine ⟨?_, ?_⟩
  · have := gt_lt hs
    have e : (x.1 80 9).toInt = C.1.length := hK.1.1
    show (s : Int) < (x.1 80 9).toInt
    omega
  · show (x.1 81 s).toInt = _
    rw [k81]
    exact Int32.toInt_ofNat_of_lt (by omega)
/-- locks that there are -/
theorem LkN_of (hC : CO x) (hK : CK x C) (hN : NC C) (en : (x.1 60 9).toInt = (nl : Nat)) : LkN C nl := by
  intro s st hs h5 h8
  obtain ⟨l, so⟩ := so_of hK hN hs
  obtain ⟨k81, -, -, -, k85, -⟩ := hK.1.2 s st hs
  have a := (hC.2.2.2.1 s l).1.2.1 (by omega) (by omega)
  rw [k85 (by omega)] at a
  rw [t_cl]
  omega
theorem NXc_of (hC : CO x) (hK : CK x C) (hN : NC C) (h2 : NX2 C) : NXc C := by
  intro s st hs
  obtain ⟨a1, a2, a3, a4, a5⟩ := h2 s st hs
  refine ⟨a1, a2, a3, a4, a5, fun h4 => ?_⟩
  obtain ⟨l, so⟩ := so_of hK hN hs
  obtain ⟨k81, -, -, -, k85, k86, -⟩ := hK.1.2 s st hs
  have nC : (x.1 60 6).toInt = C.2.2.1.length := hK.2.2.1.1
  have b := (hC.2.2.2.1 s l).1.1 (by omega)
  rw [k85 (by omega)] at b
  refine ⟨by omega, by omega, fun hx => ?_⟩
  rw [k86 h4 hx] at b
  omega
end PCD
end
section
/-! the model: a state's next, before and behind the finding of its choices -/
theorem st_exM {C : gCo} {w i : Nat} {M : gMa} {a : gd} {ch : gCh} (gc : GC C) (w01 : w = 0 ∨ w = 1) (h : AM C w M a) (hch : (chM C w M)[i]? = some ch) : ∃ b a', RI b (Sl b) ∧ wy01 b ∧ MM1 b C (doM C w M ch) ∧ Tr a i b ∧ AM C w (doM C w M ch) a' ∧ fcA b a' ∧ md [84] [86, 87, 88] b a' := by
  obtain ⟨hN, hX, l6⟩ := gc
  obtain ⟨⟨ri, wy, chv, c0, c84, fa⟩, hK, hM, hI, w68, hE⟩ := h
  have hi : (i : Int) < (a.1 0 84).toInt := by have := gt_lt hch; rw [hE.1]; omega
  obtain ⟨_, _, _, ⟨t0, t6⟩, co⟩ := chv i hi
  have tv : vp_in (a.1 86 i) 6 := by rw [vp_in_iff]; exact ⟨t0, t6⟩
  obtain ⟨e86, e87, e88⟩ := hE.2 i ch hch
  have cm := List.mem_of_getElem? hch
  obtain ⟨i1, i2, i3⟩ := ch_in cm
  have hI' := MIv_do hX l6 hI cm
  have ct : (a.1 86 i).toNatClampNeg = ch.1 := by
    rw [e86, t_cl, Int32.toInt_ofNat_of_lt (by omega)]; rfl
  have st : ∃ b, RI b (Sl b) ∧ wy01 b ∧ MK b C ∧ MM1 b C (doM C w M ch) ∧ b.1 0 68 = Int32.ofNat w ∧ Tr a i b := by
    by_cases c : a.1 87 i = -1
    · have g := co.resolve_right (fun z => by rw [c] at z; exact absurd z.1 (by decide))
      have cn : ch.2.1 = none := by
        cases h9 : ch.2.1 with
        | none => rfl
        | some j =>
          have j8 : j < 9 := by
            have := i3 j h9
            have q := (ri.2 ch.1 (by omega)).2.2.2.1
            have := (hM.2.2 ch.1 (by omega)).2.2.2.2.2.2.2.2.1.1
            omega
          rw [h9] at e87
          rw [e87] at c
          have c : Int32.ofNat j = -1 := c
          have : ∀ n, n < 9 → ¬ Int32.ofNat n = -1 := by decide +kernel
          exact absurd c (this j j8)
      have dE : doM C w M ch = acM C w M ch.1 ch.2.2 := by unfold doM; rw [cn]
      obtain ⟨o, b, S', ⟨eo, rb, ss, as', ap, mb⟩, m, q⟩ := ds_doAct3 (d := 0) (wk := ch.2.2) (Fv := fun y S1 => RI y S1 ∧ ssub (Sl a) S1 ∧ acS S1 ∧ acP (srt a (a.1 86 i).toNatClampNeg) y ∧ MM1 y C (acM C w M (a.1 86 i).toNatClampNeg ch.2.2)) (a.1 86 i) (a.1 88 i) tv ri g.2.1 g.2.2 hK hN hX hM (WMw_WM hI.1) w68 w01 (by
        cases h9 : ch.2.2 with
        | none => rw [h9] at e88; exact Or.inl ⟨rfl, e88⟩
        | some k =>
          rw [h9] at e88
          have k6 := (i2 cn).2.2 k h9
          unfold waM at k6
          have := List.mem_range.mp (List.mem_filter.mp k6).1
          exact Or.inr ⟨k, rfl, by omega, e88⟩) (fun y S1 h1 h2 h3 h4 h5 => ⟨h1, h2, h3, h4, h5⟩)
      rw [ct] at mb
      refine ⟨b, RI_Sl rb, by unfold wy01; rw [m.1 68 (by decide)]; exact wy, MK_md m rfl rfl hK, by rw [dE]; exact mb, by rw [m.1 68 (by decide)]; exact w68, fun _ G z e => MT_mono (q G z e) (fun o2 z' w => ?_), fun n => absurd c n⟩
      rw [w.1, eo]
      refine rv_i ⟨eqS_w (Sl_in rb) w.2.1, w.2.2, ?_⟩
      unfold acP
      rw [w.2.1 0 88 (Or.inr as'.1), w.2.1 0 89 (Or.inr as'.2.1)]
      exact ap
    · have g := co.resolve_left (fun z => c z.1)
      obtain ⟨j, hj⟩ : ∃ j, ch.2.1 = some j := by
        cases h9 : ch.2.1 with
        | none => rw [h9] at e87; exact absurd e87 c
        | some j => exact ⟨j, rfl⟩
      rw [hj] at e87
      have e87 : a.1 87 i = Int32.ofNat j := e87
      have dE : doM C w M ch = laM M ch.1 j := by unfold doM; rw [hj]
      have j8 : j < 9 := by
        have := i3 j hj
        have q := (ri.2 ch.1 (by omega)).2.2.2.1
        have := (hM.2.2 ch.1 (by omega)).2.2.2.2.2.2.2.2.1.1
        omega
      have ej : (a.1 87 i).toInt.toNat = j := by rw [e87, Int32.toInt_ofNat_of_lt (by omega)]; rfl
      obtain ⟨o, b, S', ⟨eo, rb, ss, mb, mm⟩, m, q⟩ := ds_doLate3 (d := 4) (C := C) (M := M) (Fv := fun y S1 => RI y S1 ∧ ssub (Sl a) S1 ∧ md [] [70, 80, 81, 82] a y ∧ MM1 y C (laM M (a.1 86 i).toNatClampNeg (a.1 87 i).toInt.toNat)) (a.1 86 i) (a.1 87 i) tv ri g.1 g.2 hM (fun y S1 h1 h2 h3 h4 => ⟨h1, h2, h3, h4⟩)
      rw [ct, ej] at mm
      refine ⟨b, RI_Sl rb, by unfold wy01; rw [m.1 68 (by decide)]; exact wy, MK_md m rfl rfl hK, by rw [dE]; exact mm, by rw [m.1 68 (by decide)]; exact w68, fun n => absurd n c, fun _ G z e => MT_mono (q G z e) (fun o2 z' w => ?_)⟩
      rw [w.1, eo]
      exact rv_i ⟨eqS_w (Sl_in rb) w.2.1, w.2.2⟩
  obtain ⟨b, h1, h2, hKb, hMb, wb, h3⟩ := st
  obtain ⟨a', g1, g2, g3, g4⟩ := fc_exM h1 h2 hKb hN hX hMb wb w01 (fun z t ht => (hI'.1 t ht).2.2.2 z)
  exact ⟨b, a', h1, h2, hMb, h3, ⟨g1, MK_md g3 rfl rfl hKb, MM1_md g3 rfl hMb, hI', by rw [g3.1 68 (by decide)]; exact wb, g4⟩, g2, g3⟩
end
section
/-! the model: a row is kept just where the state is -/
section MKP
variable {y b : gd} {A : Nat → gd} {C : gCo} {M : gMa} {T : gTy} {nl s : Nat}
theorem row_kept (hN : NC C) (l24 : C.2.2.1.length ≤ 24) (l6 : C.2.1.length ≤ 6) (n6 : nl ≤ 6) (hA : ∀ s p, T.1[s]? = some p → MM1 (A s) C p.1 ∧ MCn C nl p.1 ∧ NBm p.1) (hrow : ∀ s, s < T.1.length → ∀ i, i < 222 → y.1 133 (240 * s + i) = pv (A s) i) (hb : MM1 b C M) (mc : MCn C nl M) (nb : NBm M) (l8 : ∀ t, t < 6 → (b.1 80 t).toInt ≤ 8) (hs : s < T.1.length) : (∀ i, i < 222 → y.1 133 (240 * s + i) = pv b i) ↔ ∃ p, T.1[s]? = some p ∧ p.1 = M := by
  have hg := List.getElem?_eq_getElem hs
  obtain ⟨a1, a2, a3⟩ := hA s _ hg
  constructor
  · intro h
    exact ⟨_, hg, (rows_one hN l24 l6 n6 hb a1 mc a2 nb a3 l8 (fun i hi => by rw [← h i hi, hrow s hs i hi])).symm⟩
  · rintro ⟨p, h1, h2⟩ i hi
    rw [hrow s hs i hi]
    rw [hg] at h1
    have e := Option.some.inj h1
    rw [e, h2] at a1
    exact rows_same a1 hb i hi
/-- sought and not found: it is new; found: it is not -/
theorem kept_new (h : ∀ s, s < T.1.length → ((∀ i, i < 222 → y.1 133 (240 * s + i) = pv b i) ↔ ∃ p, T.1[s]? = some p ∧ p.1 = M)) (hn : ∀ s, s < T.1.length → ¬ ∀ i, i < 222 → y.1 133 (240 * s + i) = pv b i) : ¬ ∃ q ∈ T.1, q.1 = M := by
  rintro ⟨q, q1, q2⟩
  obtain ⟨s, hs⟩ := List.mem_iff_getElem?.mp q1
  exact hn s (gt_lt hs) ((h s (gt_lt hs)).mpr ⟨q, hs, q2⟩)
theorem kept_old (h : ∀ s, s < T.1.length → ((∀ i, i < 222 → y.1 133 (240 * s + i) = pv b i) ↔ ∃ p, T.1[s]? = some p ∧ p.1 = M)) (hs : s < T.1.length) (hr : ∀ i, i < 222 → y.1 133 (240 * s + i) = pv b i) : ∃ q ∈ T.1, q.1 = M := by
  obtain ⟨p, h1, h2⟩ := (h s hs).mp hr
  exact ⟨p, List.mem_of_getElem? h1, h2⟩
end MKP
end
section
/-! the model: all that the program can do, as the machine says -/
/-- what the memory tells of a trying's states -/
def TJ (C : gCo) (nl wn : Nat) (A : Nat → gd) (W : Nat) (T : gTy) (y : gd) : Prop := (∀ s p, T.1[s]? = some p → AM C wn p.1 (A s) ∧ MCn C nl p.1 ∧ NBm p.1) ∧ FN3 C wn (fun f => y.1 126 (11 * W + f)) T T.1.length ∧ (y.1 121 W = if T.2 = true then 1 else 0) ∧ ∀ s p, T.1[s]? = some p → 0 < s → (y.1 130 (3000 * W + s)).toInt = (p.2.1 : Nat) ∧ (y.1 131 (3000 * W + s)).toInt = (p.2.2 : Nat)
theorem TJ_f {C : gCo} {nl wn W : Nat} {A : Nat → gd} {T : gTy} {y y' : gd} (e1 : y'.1 121 = y.1 121) (e2 : y'.1 126 = y.1 126) (e3 : y'.1 130 = y.1 130) (e4 : y'.1 131 = y.1 131) (h : TJ C nl wn A W T y) : TJ C nl wn A W T y' := by
  unfold TJ at h ⊢
  rw [e1, e2, e3, e4]
  exact h
theorem TJ_mi {C : gCo} {nl wn W : Nat} {A : Nat → gd} {T : gTy} {y y' : gd} {L B : List Nat} (m : mi L B y y') (hN : [121, 126, 130, 131].all (fun k => !B.elem k) = true) (h : TJ C nl wn A W T y) : TJ C nl wn A W T y' := by
  have g := fun k (h0 : k ≠ 0) hk => m.2 k h0 (all_no hN k hk)
  exact TJ_f (g 121 (by decide) (by decide)) (g 126 (by decide) (by decide)) (g 130 (by decide) (by decide)) (g 131 (by decide) (by decide)) h
/-- rows kept can be sought -/
def hcR (y : gd) (n : Nat) : Prop := hsR y (n : Nat) ∧ chC y n
theorem hcR_f {y y' : gd} {n : Nat} (e1 : y.1 134 = y'.1 134) (e2 : y.1 135 = y'.1 135) (e3 : ∀ s i, s < n → i < 222 → y'.1 133 (240 * s + i) = y.1 133 (240 * s + i)) (h : hcR y n) : hcR y' n := by
  obtain ⟨h1, h2⟩ := h
  refine ⟨by unfold hsR at h1 ⊢; rw [← e1, ← e2]; exact h1, fun s hs => ?_⟩
  obtain ⟨f, hf⟩ := h2 s hs
  refine ⟨f, ?_⟩
  rw [← e1, ← e2, hsO_cg (r := rwZ y' s) (r' := rwZ y s) (fun i hi => e3 s i hs hi)]
  exact hf
theorem hcR_mi {y y' : gd} {n : Nat} {L B : List Nat} (m : mi L B y y') (hN : [133, 134, 135].all (fun k => !B.elem k) = true) (h : hcR y n) : hcR y' n := by
  have g := fun k (h0 : k ≠ 0) hk => m.2 k h0 (all_no hN k hk)
  exact hcR_f (g 134 (by decide) (by decide)).symm (g 135 (by decide) (by decide)).symm (fun s i _ _ => by rw [g 133 (by decide) (by decide)]) h
/-- a state is added to a trying: what the memory tells of it, but the findings -/
theorem TJ_ad {C : gCo} {nl wn W k i : Nat} {A A' : Nat → gd} {T : gTy} {y y' y2 : gd} {M : gMa} {v : Int32} (h : TJ C nl wn A W T y) (hA : ∀ s, ¬ s = T.1.length → A' s = A s) (am : AM C wn M (A' T.1.length)) (mc : MCn C nl M) (nb : NBm M) (e121 : y2.1 121 = y.1 121) (e126 : y'.1 126 = y.1 126) (e130 : ∀ s, ¬ s = T.1.length → y2.1 130 (3000 * W + s) = y.1 130 (3000 * W + s)) (e131 : ∀ s, ¬ s = T.1.length → y2.1 131 (3000 * W + s) = y.1 131 (3000 * W + s)) (f130 : (y2.1 130 (3000 * W + T.1.length)).toInt = (k : Nat)) (f131 : (y2.1 131 (3000 * W + T.1.length)).toInt = (i : Nat)) (ev : v.toInt = (T.1.length : Nat)) (fa : FAm y' y2 W v (fD C wn M 11)) : TJ C nl wn A' W (T.1 ++ [(M, k, i)], T.2) y2 := by
  obtain ⟨h1, h2, h3, h4⟩ := h
  have cs : ∀ s p, ((T.1 ++ [(M, k, i)], T.2) : gTy).1[s]? = some p → (¬ s = T.1.length ∧ T.1[s]? = some p) ∨ (s = T.1.length ∧ p = (M, k, i)) := by
    intro s p hp
    have hp : (T.1 ++ [(M, k, i)])[s]? = some p := hp
    by_cases c : s < T.1.length
    · rw [List.getElem?_append_left c] at hp
      exact Or.inl ⟨by omega, hp⟩
    · have hl := gt_lt hp
      rw [List.length_append, List.length_singleton] at hl
      have es : s = T.1.length := by omega
      rw [es, List.getElem?_append_right (Nat.le_refl _), Nat.sub_self] at hp
      exact Or.inr ⟨es, (Option.some.inj hp).symm⟩
  have hl : ((T.1 ++ [(M, k, i)], T.2) : gTy).1.length = T.1.length + 1 := by
    show (T.1 ++ _).length = _
    rw [List.length_append, List.length_singleton]
  refine ⟨fun s p hp => ?_, ?_, by rw [e121]; exact h3, fun s p hp s0 => ?_⟩
  · rcases cs s p hp with ⟨c1, c2⟩ | ⟨c1, c2⟩
    · rw [hA s c1]; exact h1 s p c2
    · rw [c1, c2]; exact ⟨am, mc, nb⟩
  · rw [hl]
    refine FN3_next (x7 := fun f => y'.1 126 (11 * W + f)) (p := (M, k, i)) ev ?_ (FN3_T (T := T) (fun s hs => ?_) (by rw [e126]; exact h2)) fa
    · show (T.1 ++ [(M, k, i)])[T.1.length]? = _
      rw [List.getElem?_append_right (Nat.le_refl _), Nat.sub_self]; rfl
    · show (T.1 ++ [(M, k, i)])[s]? = _
      exact List.getElem?_append_left hs
  · rcases cs s p hp with ⟨c1, c2⟩ | ⟨c1, c2⟩
    · rw [e130 s c1, e131 s c1]; exact h4 s p c2 s0
    · rw [c1, c2]; exact ⟨f130, f131⟩
section TRY3
variable {G : mG} {d D : Nat} {x z a : gd} {F : Int32 → gd → Prop} {Fv : gd → Prop} {C : gCo} {nl wn lim : Nat}
theorem sp_tryAll3 (gc : GC C) (hq2 : NCq C) (hLk : LkN C nl) (n6 : nl ≤ 6) (l24 : C.2.2.1.length ≤ 24) (w01n : wn = 0 ∨ wn = 1) (w l : Int32) (ewn : w = Int32.ofNat wn) (wv : vp_in w 2) (cp : CP z) (hKz : MK z C) (l26 : (z.1 0 26).toInt = (C.2.2.2.1.length : Nat)) (l27 : (z.1 0 27).toInt = (C.2.2.2.2.length : Nat)) (hw : z.1 0 68 = w) (el : l.toInt = (lim : Nat)) (l1 : 1 ≤ l.toInt) (l3 : l.toInt ≤ 3000) (hD : 7 ≤ D) (h : ∀ (A : Nat → gd) (y : gd), (tryM C wn lim).1.length ≤ 3000 → TI z w.toNatClampNeg A (tryM C wn lim).1.length y → TJ C nl wn A w.toNatClampNeg (tryM C wn lim) y → Fv y) : MT G D z_tryAll 0 [(0, vr 0), (1, vi w), (2, vi l)] [] z (rv Fv) := by
  obtain ⟨D, rfl⟩ : ∃ D', D = D' + 2 := ⟨D - 2, by omega⟩
  have hN := gc.1
  have hX := gc.2.1
  have l6 := gc.2.2
  have b1n : vp_nar .boolean 1 = 1 := by decide
  have k0 : (0 : Int32).toInt = 0 := rfl
  have k1 : (1 : Int32).toInt = 1 := rfl
  have k24 : (240 : Int32).toInt = 240 := rfl
  have k40 : (4096 : Int32).toInt = 4096 := rfl
  have k3 : (3000 : Int32).toInt = 3000 := rfl
  have nb1 : ¬ vp_nar .boolean 1 = 0 := by decide
  obtain ⟨W, eW⟩ : ∃ W, W = w.toNatClampNeg := ⟨_, rfl⟩
  have W2 : W < 2 := by rw [eW]; exact vp_lt wv
  have wb := vp_in_iff.mp wv
  have cw := cl_i wb.1
  rw [← eW] at h cw
  have e32 : w32 W = w := by
    unfold w32
    by_cases q : W = 0
    · rw [if_pos q]; exact t_eq.mpr (by rw [k0]; omega)
    · rw [if_neg q]; exact t_eq.mpr (by rw [k1]; omega)
  have w01 : w = 0 ∨ w = 1 := by rw [← e32]; exact w32_01 W
  obtain ⟨a0, am0, av0, e68, pa0, st0, b0, mb0, first⟩ := start_exM cp hKz hN hX w01n w ewn w01
  -- a row unpacked
  have unp : ∀ (A : Nat → gd) (M f : Nat) (y : gd) (i : Int32) (Fq : gd → Prop), M ≤ 3000 → f < M → i.toInt = f → TI z W A M y → (∀ y', TI z W A M y' → md [] uA y y' → eqS (Sl (A f)) (A f) y' → Fq y') → MT G (D + 1) z_unpack 0 [(0, vr 0), (1, vr 133), (2, vi (240 * i))] [] y (rv Fq) := by
    intro A M f y i Fq hM hf hi q hq
    have b1 : (240 * i).toInt = 240 * i.toInt := by rw [t_mul (by rw [k24]; omega) (by rw [k24]; omega), k24]
    have cb : (240 * i).toNatClampNeg = 240 * f := by have := cl_i (a := 240 * i) (by omega); omega
    refine sp_unpack (Or.inl rfl) mk_133 ml_133 (240 * i) (by omega) (by omega) (by omega) (fun y' m' r' => ?_)
    rw [cb] at r'
    have q' := TI_mi q (mi_of m') rfl rfl rfl
    obtain ⟨p1, p2⟩ := q.2.2.2.2.2.2.2.2 f hf
    have rr := (q.2.2.2.2.2.2.1 f hf).2
    have av := (q.2.2.2.2.2.2.1 f hf).1.1
    refine hq y' q' m' (un_eq ?_ ?_ (fun t ht => ((av.1).2 t ht).2.2.2.1) (fun k hk => by rw [r' k hk, rr k hk]))
    · exact prE_tr (prE_sy p1) (prE_mi (prE_rf z) q'.1 rfl rfl)
    · rw [q'.1.1 68 (by decide), p2]
  have p320 : ∀ (A : Nat → gd) (T : gTy) (y : gd), T = tryM C wn lim → T.1.length ≤ 3000 → TI z W A T.1.length y → TJ C nl wn A W T y → MT G (D + 2) z_tryAll 320 [(0, vr 0), (1, vi w)] [] y (rv Fv) := by
    intro A T y eT hM q qj
    subst eT
    exact sg_tryAll_320 _ (sp_sortOutcomes w wv (by rw [← eW]; exact q.2.2.2.1) (by rw [← eW]; have := q.2.2.2.2.1; omega) (fun y' m' => rv_i (h A y' hM (TI_mi q (mi_of m') rfl rfl rfl) (TJ_mi (mi_of m') rfl qj))))
  have p75 : ∀ (n : Nat) (A : Nat → gd) (T : gTy) (y : gd) (f : Int32), 0 ≤ f.toInt → f.toInt ≤ 3000 → 3000 - f.toInt ≤ n → 1 ≤ T.1.length → (T.1.length : Int) ≤ l.toInt → TI z W A T.1.length y → TJ C nl wn A W T y → (y.1 121 W = 0 → hcR y T.1.length) → bfS C wn lim (3001 - f.toNatClampNeg) f.toNatClampNeg T = tryM C wn lim → MT G (D + 2) z_tryAll 75 [(0, vr 0), (1, vi w), (2, vi l), (4, vi f)] [] y (rv Fv) := by
    intro n
    induction n with
    | zero =>
      intro A T y f f0 f3 hn M1 Ml q qj hs hb
      obtain ⟨M, eM⟩ : ∃ M, M = T.1.length := ⟨_, rfl⟩
      have e120 := q.2.2.1
      have cf0 := cl_i f0
      rw [← eM] at e120 M1 Ml
      refine sg_tryAll_75 _ _ _ ⟨wv, ?_⟩
      rw [← eW, e120]
      exact ⟨fun _ => p320 A T y ((bfS_end (List.getElem?_eq_none (by omega))).symm.trans hb) (by omega) q qj, fun c => absurd (t_le.mpr (by rw [ofN (by omega)]; omega)) c⟩
    | succ n ih =>
      intro A T y f f0 f3 hn M1 Ml q qj hs hb
      obtain ⟨M, eM⟩ : ∃ M, M = T.1.length := ⟨_, rfl⟩
      have e120 := q.2.2.1
      have cf0 := cl_i f0
      rw [← eM] at e120 M1 Ml
      refine sg_tryAll_75 _ _ _ ⟨wv, ?_⟩
      rw [← eW, e120]
      refine ⟨fun c => p320 A T y ((bfS_end (List.getElem?_eq_none (by rw [t_le, ofN (by omega)] at c; omega))).symm.trans hb) (by omega) q qj, fun c => ⟨wv, fun np => p320 A T y ((bfS_p ?_ _ _).symm.trans hb) (by omega) q qj, fun np => ?_⟩⟩
      · apply Classical.byContradiction
        intro c9
        have := qj.2.2.1
        rw [if_neg c9] at this
        exact np this
      rw [t_le, ofN (by omega)] at c
      have hs := hs np
      have cf := cl_i f0
      obtain ⟨fn, efn⟩ : ∃ fn, fn = f.toNatClampNeg := ⟨_, rfl⟩
      rw [← efn] at cf hb
      have fM : fn < T.1.length := by omega
      obtain ⟨p, hp⟩ : ∃ p, T.1[fn]? = some p := ⟨_, List.getElem?_eq_getElem fM⟩
      rw [show 3001 - fn = (3000 - fn) + 1 by omega, bfS_go hp] at hb
      obtain ⟨amf, mcf, nbf⟩ := qj.1 fn p hp
      have fi : (f + 1).toInt = f.toInt + 1 := by rw [t_add (by omega) (by omega), k1]
      have fi1 : (f + 1).toNatClampNeg = fn + 1 := by have := cl_i (a := f + 1) (by omega); omega
      refine unp A T.1.length fn y f _ (by omega) fM (by omega) q (fun y5 q5 m5 eq5 => ?_)
      have avf := (q5.2.2.2.2.2.2.1 fn (by omega)).1.1
      refine MT_up (by omega) (MTv_mono (avf.2.2.2.2.2 G y5 eq5) (fun y6 g6 => ?_))
      have q6 := TI_mi q5 (mi_of g6.2) rfl rfl rfl
      have e84 : y6.1 0 84 = (A fn).1 0 84 := g6.1 0 84 (Or.inr (Or.inl ⟨rfl, rfl⟩))
      have hs6 := hcR_mi (mi_of g6.2) rfl (hcR_mi (mi_of m5) rfl hs)
      have qj6 := TJ_mi (mi_of g6.2) rfl (TJ_mi (mi_of m5) rfl qj)
      have c84 := avf.2.2.2.2.1
      have c840 := avf.2.2.2.1
      obtain ⟨C84, eC⟩ : ∃ C, C = (A fn).1 0 84 := ⟨_, rfl⟩
      have eL := AM_n amf
      rw [e84, ← eC]
      rw [← eC] at c84 c840 eL
      -- the choices of this state
      have p122 : ∀ (m : Nat) (A2 : Nat → gd) (u : gd) (i : Int32), 0 ≤ i.toInt → i.toInt ≤ C84.toInt → C84.toInt - i.toInt ≤ m → ((onS C wn lim fn p.1 i.toNatClampNeg T).1.length : Int) ≤ l.toInt → A2 fn = A fn → TI z W A2 (onS C wn lim fn p.1 i.toNatClampNeg T).1.length u → TJ C nl wn A2 W (onS C wn lim fn p.1 i.toNatClampNeg T) u → (u.1 121 W = 0 → hcR u (onS C wn lim fn p.1 i.toNatClampNeg T).1.length) → MT G (D + 2) z_tryAll 122 [(0, vr 0), (1, vi w), (2, vi l), (4, vi f), (5, vi C84), (6, vi i)] [] u (rv Fv) := by
        intro m
        induction m with
        | zero =>
          intro A2 u i i0 iC hm ml ea qu quj hu
          have ci := cl_i i0
          have pre := (onS_pre (C := C) (w := wn) (lim := lim) (M := p.1) fM fn i.toNatClampNeg).2
          exact sg_tryAll_122 _ _ _ _ _ ⟨fun _ => ih A2 _ u (f + 1) (by omega) (by omega) (by omega) (by omega) ml qu quj hu (by rw [fi1, show 3001 - (fn + 1) = 3000 - fn by omega, show i.toNatClampNeg = (chM C wn p.1).length by omega]; exact hb), fun c => absurd (t_le.mpr (by omega)) c⟩
        | succ m ihm =>
          intro A2 u i i0 iC hm ml ea qu quj hu
          have ci := cl_i i0
          obtain ⟨j, ej⟩ : ∃ j, j = i.toNatClampNeg := ⟨_, rfl⟩
          obtain ⟨pr1, pre⟩ := onS_pre (C := C) (w := wn) (lim := lim) (M := p.1) fM fn j
          rw [← ej] at ml qu quj hu ci
          obtain ⟨T2, eT2⟩ : ∃ T2, T2 = onS C wn lim fn p.1 j T := ⟨_, rfl⟩
          rw [← eT2] at pr1 pre ml qu quj hu
          have nxt : onS C wn lim fn p.1 (chM C wn p.1).length T = T2 → MT G (D + 2) z_tryAll 75 [(0, vr 0), (1, vi w), (2, vi l), (4, vi (f + 1))] [] u (rv Fv) := fun e9 => ih A2 T2 u (f + 1) (by omega) (by omega) (by omega) (by omega) ml qu quj hu (by rw [fi1, show 3001 - (fn + 1) = 3000 - fn by omega, ← e9]; exact hb)
          refine sg_tryAll_122 _ _ _ _ _ ⟨fun c => nxt (by rw [t_le] at c; rw [eT2, show j = (chM C wn p.1).length by omega]), fun c => ⟨wv, ?_⟩⟩
          rw [t_le] at c
          rw [← eW]
          have e121u := quj.2.2.1
          refine ⟨fun np => nxt (by
            have pt : (onS C wn lim fn p.1 j T).2 = true := by
              apply Classical.byContradiction
              intro c9
              rw [← eT2] at c9
              rw [if_neg c9] at e121u
              exact np e121u
            rw [eT2]
            exact onS_stop pt _ (by omega)), fun np => ?_⟩
          have hu := hu np
          have pf : ¬ (onS C wn lim fn p.1 j T).2 = true := fun z9 => by
            rw [← eT2] at z9
            rw [if_pos z9] at e121u
            rw [e121u] at np
            exact absurd np (by decide)
          have jl : j < (chM C wn p.1).length := by omega
          obtain ⟨ch, hch⟩ : ∃ ch, (chM C wn p.1)[j]? = some ch := ⟨_, List.getElem?_eq_getElem jl⟩
          have hgo := onS_go (lim := lim) (k := fn) pf hch
          rw [← eT2] at hgo
          obtain ⟨M2, eM2⟩ : ∃ M2, M2 = T2.1.length := ⟨_, rfl⟩
          have fm : fn < M2 := by omega
          have m1 : 1 ≤ M2 := by omega
          rw [← eM2] at ml qu hu
          have iv : vp_in i 200 := by rw [vp_in_iff]; omega
          have ii : (i + 1).toInt = i.toInt + 1 := by rw [t_add (by omega) (by omega), k1]
          have ii1 : (i + 1).toNatClampNeg = j + 1 := by have := cl_i (a := i + 1) (by omega); omega
          refine unp A2 M2 fn u f _ (by omega) fm (by omega) qu (fun u4 q4 m4' eq4 => ?_)
          rw [ea] at eq4
          refine MT_up (by omega) (MTv_mono (avf.2.2.2.2.2 G u4 eq4) (fun u5 g5 => ?_))
          have q5' := TI_mi q4 (mi_of g5.2) rfl rfl rfl
          have hu5 := hcR_mi (mi_of g5.2) rfl (hcR_mi (mi_of m4') rfl hu)
          have quj5 := TJ_mi (mi_of g5.2) rfl (TJ_mi (mi_of m4') rfl quj)
          have p5' : u5.1 121 W = 0 := by rw [g5.2.2.1 121 (by decide) (by decide), m4'.2.1 121 (by decide) (by decide)]; exact np
          have lt84 : ((i.toNatClampNeg : Nat) : Int) < ((A fn).1 0 84).toInt := by rw [← eC]; omega
          obtain ⟨b, a', rb, wyb, mmb, trb, am', fb, mb⟩ := st_exM gc w01n amf (i := i.toNatClampNeg) (by rw [← ej]; exact hch)
          have av' := am'.1
          have cmem := List.mem_of_getElem? hch
          have lbI : (C.2.2.1.length : Int) < 2147483648 := by omega
          have mc' : MCn C nl (doM C wn p.1 ch) := MCn_do hN hX hLk lbI l6 mcf amf.2.2.2.1 cmem
          have nb' : NBm (doM C wn p.1 ch) := NBm_do nbf
          obtain ⟨u86, u87, u88, _, _⟩ := avf.2.2.1 i.toNatClampNeg lt84
          have e86 := g5.1 _ _ (Or.inr u86)
          have e87 := g5.1 _ _ (Or.inr u87)
          have e88 := g5.1 _ _ (Or.inr u88)
          have el5 : eqS (Sl (A fn)) (A fn) u5 := eqS_w (Sl_Sm _) g5.1
          rw [e86, e87, e88]
          -- the state come to: is it new?
          have p206 : ∀ v : gd, eqS (Sl b) b v → md rL rA u5 v → MT G (D + 2) z_tryAll 206 [(0, vr 0), (1, vi w), (2, vi l), (4, vi f), (5, vi C84), (6, vi i)] [] v (rv Fv) := by
            intro v ev mv
            have qv := TI_mi q5' (mi_of mv) rfl rfl rfl
            have hv := hcR_mi (mi_of mv) rfl hu5
            have qvj := TJ_mi (mi_of mv) rfl quj5
            have pv0 : v.1 121 W = 0 := by rw [mv.2.1 121 (by decide) (by decide)]; exact p5'
            have kept : ∀ s, s < T2.1.length → ((∀ k, k < 222 → v.1 133 (240 * s + k) = pv b k) ↔ ∃ p9, T2.1[s]? = some p9 ∧ p9.1 = doM C wn p.1 ch) := fun s hs9 => row_kept hN l24 l6 n6 (A := A2) (fun s p9 h9 => ⟨(qvj.1 s p9 h9).1.2.2.1, (qvj.1 s p9 h9).2⟩) (fun s hs8 => (qv.2.2.2.2.2.2.1 s (by omega)).2) mmb mc' nb' (fun t ht => (rb.2 t ht).2.2.2.1) hs9
            have e120 := qv.2.2.1
            have oM := ofN (M := M2) (by omega)
            refine sg_tryAll_206 _ _ _ _ _ (sp_seek3 w wv (m := M2) (by rw [← eW, e120, oM]) (by omega) hv.1 hv.2 (fun t ht => by rw [cA ev (c := 80) (n := 6) (by decide) ht]; exact (rb.2 t ht).2.2.2.1) (fun r v1 mv1 lo alt => ⟨wv, ?_⟩))
            rw [← eW, e120] at alt
            have cM : (Int32.ofNat M2).toNatClampNeg = M2 := by have := cl_i (a := Int32.ofNat M2) (by omega); omega
            have mv1' : mi [136] [133, 134, 135] v v1 := mi_of mv1
            have qv1j := TJ_mi mv1' rfl qvj
            have e120' : v1.1 120 W = Int32.ofNat M2 := by rw [mv1.2.1 120 (by decide) (by decide), e120]
            have e121' : v1.1 121 W = 0 := by rw [mv1.2.1 121 (by decide) (by decide)]; exact pv0
            -- the rows before stay
            have qv1 : TI z W A2 M2 v1 := by
              obtain ⟨t1, t2, t3, t4, t5, t6, t7, t8, t9⟩ := qv
              have g := fun k (h0 : k ≠ 0) hk => mv1.2.1 k h0 hk
              refine ⟨mi_tr t1 (mi_of mv1) rfl rfl, ow_tr t2 (ow_mi (mi_of mv1) rfl), e120', by rw [g 123 (by decide) (by decide)]; exact t4, by rw [g 123 (by decide) (by decide)]; exact t5, ?_, fun s hs2 => ⟨?_, fun k hk => ?_⟩, t8, t9⟩
              · unfold fnd
                rw [g 126 (by decide) (by decide)]
                exact t6
              · have r9 := (t7 s hs2).1
                unfold TN at r9 ⊢
                rw [g 130 (by decide) (by decide), g 131 (by decide) (by decide), g 132 (by decide) (by decide)]
                exact r9
              · rw [lo _ (by omega)]
                exact (t7 s hs2).2 k hk
            rw [← eW, e120']
            have nx : ∀ (A3 : Nat → gd) (T3 : gTy) (u : gd), adS lim fn j T2 (doM C wn p.1 ch) = T3 → (T3.1.length : Int) ≤ l.toInt → A3 fn = A fn → TI z W A3 T3.1.length u → TJ C nl wn A3 W T3 u → (u.1 121 W = 0 → hcR u T3.1.length) → MT G (D + 2) z_tryAll 122 [(0, vr 0), (1, vi w), (2, vi l), (4, vi f), (5, vi C84), (6, vi (i + 1))] [] u (rv Fv) := fun A3 T3 u eT3 h2 h4 h5 h5j h6 => by
              have e9 : onS C wn lim fn p.1 (i + 1).toNatClampNeg T = T3 := by rw [ii1, hgo]; exact eT3
              exact ihm A3 u (i + 1) (by omega) (by omega) (by omega) (by rw [e9]; exact h2) h4 (by rw [e9]; exact h5) (by rw [e9]; exact h5j) (by rw [e9]; exact h6)
            rcases alt with ⟨er, row, hsn, hcn, hno⟩ | ⟨s9, r0, r1, hso, hco, hyes⟩
            rotate_left
            · have old : ∃ q ∈ T2.1, q.1 = doM C wn p.1 ch := kept_old kept (s := s9) (by omega) (fun k hk => by rw [hyes k hk]; exact pv_eq ev hk)
              refine ⟨fun _ => nx A2 T2 v1 (adS_old old) (by rw [← eM2]; exact ml) ea (by rw [← eM2]; exact qv1) qv1j (fun _ => by rw [← eM2]; exact ⟨hso, hco⟩), fun er => ?_⟩
              rw [er, oM] at r1
              omega
            have new : ¬ ∃ q ∈ T2.1, q.1 = doM C wn p.1 ch := kept_new kept (fun s hs9 h9 => hno s (by omega) (fun k hk => by rw [h9 k hk]; exact (pv_eq ev hk).symm))
            refine ⟨fun ne => absurd er ne, fun _ => ⟨fun nl' => ?_, fun el' => ⟨wv, fun v18 e18 => ?_⟩⟩⟩
            rotate_left
            · -- the limit
              have m18 := md_a v1 121 W (vp_nar .boolean 1) (by decide)
              rw [← e18] at m18
              have e121n : v18.1 121 W = 1 := by rw [e18, si_get, if_pos ⟨rfl, rfl⟩]; exact b1n
              have full : lim ≤ T2.1.length := by
                rw [er] at el'
                have := t_eq.mp el'
                rw [oM] at this
                omega
              obtain ⟨g1, g2, g3, g4⟩ := qv1j
              refine nx A2 (T2.1, true) v18 (adS_full new full) (by show (T2.1.length : Int) ≤ _; rw [← eM2]; exact ml) ea (by show TI z W A2 T2.1.length v18; rw [← eM2]; exact TI_mi qv1 (mi_of m18) rfl rfl rfl) ⟨g1, ?_, ?_, ?_⟩ (fun q9 => ?_)
              · rw [m18.2.1 126 (by decide) (by decide)]; exact FN3_T (T := T2) (fun _ _ => rfl) g2
              · exact e121n
              · rw [m18.2.1 130 (by decide) (by decide), m18.2.1 131 (by decide) (by decide)]; exact g4
              · rw [e121n] at q9
                exact absurd q9 (by decide)
            -- a new state
            have Ml' : (M2 : Int) < l.toInt := by
              by_cases q9 : (M2 : Int) = l.toInt
              · exact absurd (by rw [er]; exact t_eq.mpr (by rw [oM]; exact q9)) nl'
              · omega
            have rv2 := tmul (k := 3000) (K := 3000) (N := 6000) (n := 3000) (i := r) rfl wv (by rw [er, oM]; omega) (by rw [er, oM]; omega) (by omega) (by omega) (by omega)
            have fv2 := tmul (k := 3000) (K := 3000) (N := 6000) (n := 3000) (i := f) rfl wv f0 (by omega) (by omega) (by omega) (by omega)
            rw [← eW, ← efn] at fv2
            rw [← eW, er, cM] at rv2
            rw [er, rv2.2, fv2.2]
            refine ⟨rv2.1, fun v7 e7 => ⟨rv2.1, fun v9 e9 => ⟨fv2.1, rv2.1, fun v12 e12 => ⟨wv, wv, fun v15 e15 => ?_⟩⟩⟩⟩
            have m7 := md_a v1 130 (3000 * W + M2) f (by decide)
            rw [← e7] at m7
            have m9 := md_a v7 131 (3000 * W + M2) i (by decide)
            rw [← e9] at m9
            have m12 := md_a v9 132 (3000 * W + M2) (v9.1 132 (3000 * W + fn) + 1) (by decide)
            rw [← e12] at m12
            have f120 : v12.1 120 W = Int32.ofNat M2 := by rw [m12.2.1 120 (by decide) (by decide), m9.2.1 120 (by decide) (by decide), m7.2.1 120 (by decide) (by decide), e120']
            rw [f120] at e15
            have m15 := md_a v12 120 W (Int32.ofNat M2 + 1) (by decide)
            rw [← e15] at m15
            have MM : md [] [120, 130, 131, 132] v1 v15 := md_tr (md_tr (L3 := []) (A3 := [130, 131, 132]) (md_tr (L3 := []) (A3 := [130, 131]) m7 m9 rfl rfl) m12 rfl rfl) m15 rfl rfl
            have o12 : ow W v1 v15 := by
              refine ow_tr (y := v12) (ow_tr (y := v9) (ow_tr (y := v7) ?_ ?_) ?_) ?_
              · rw [e7]; exact ow_si W2 (Or.inr (Or.inr ⟨Or.inl rfl, M2, by omega, rfl⟩))
              · rw [e9]; exact ow_si W2 (Or.inr (Or.inr ⟨Or.inr (Or.inl rfl), M2, by omega, rfl⟩))
              · rw [e12]; exact ow_si W2 (Or.inr (Or.inr ⟨Or.inr (Or.inr rfl), M2, by omega, rfl⟩))
              · rw [e15]; exact ow_si W2 (Or.inl ⟨Or.inl rfl, rfl⟩)
            have g120 : v15.1 120 W = Int32.ofNat (M2 + 1) := by
              rw [e15, si_get, if_pos ⟨rfl, rfl⟩]
              refine t_eq.mpr ?_
              rw [t_add (by omega) (by omega), oM, k1, ofN (by omega)]; omega
            have h130 : ∀ s : Nat, ¬ s = M2 → v15.1 130 (3000 * W + s) = v1.1 130 (3000 * W + s) := fun s hs2 => by rw [e15, si_cell (by decide), e12, si_cell (by decide), e9, si_cell (by decide), e7, si_ne 130 _ (by omega)]
            have h131 : ∀ s : Nat, ¬ s = M2 → v15.1 131 (3000 * W + s) = v1.1 131 (3000 * W + s) := fun s hs2 => by rw [e15, si_cell (by decide), e12, si_cell (by decide), e9, si_ne 131 _ (by omega), e7, si_cell (by decide)]
            have h132 : ∀ s : Nat, ¬ s = M2 → v15.1 132 (3000 * W + s) = v1.1 132 (3000 * W + s) := fun s hs2 => by rw [e15, si_cell (by decide), e12, si_ne 132 _ (by omega), e9, si_cell (by decide), e7, si_cell (by decide)]
            have i130 : v15.1 130 (3000 * W + M2) = f := by rw [e15, si_cell (by decide), e12, si_cell (by decide), e9, si_cell (by decide), e7, si_get, if_pos ⟨rfl, rfl⟩]
            have i131 : v15.1 131 (3000 * W + M2) = i := by rw [e15, si_cell (by decide), e12, si_cell (by decide), e9, si_get, if_pos ⟨rfl, rfl⟩]
            have i132 : v15.1 132 (3000 * W + M2) = v1.1 132 (3000 * W + fn) + 1 := by rw [e15, si_cell (by decide), e12, si_get, if_pos ⟨rfl, rfl⟩, e9, si_cell (by decide), e7, si_cell (by decide)]
            have j133 : v15.1 133 = v1.1 133 := MM.2.1 133 (by decide) (by decide)
            obtain ⟨A3, eA3⟩ : ∃ A3 : Nat → gd, A3 = fun s => if s = M2 then a' else A2 s := ⟨_, rfl⟩
            have A3n : ∀ s : Nat, ¬ s = M2 → A3 s = A2 s := fun s hs2 => by rw [eA3]; simp only [if_neg hs2]
            have A3m : A3 M2 = a' := by rw [eA3]; simp only [if_pos]
            have eva : eqS (Sl a') a' v := sl_sw mb ev
            -- the chain of far stays small
            have farb : ∀ s : Nat, s < M2 → 0 ≤ (v1.1 132 (3000 * W + s)).toInt ∧ (v1.1 132 (3000 * W + s)).toInt ≤ s := by
              intro s
              induction s using Nat.strongRecOn with
              | ind s ihs =>
                intro hs2
                obtain ⟨_, t2, t3, t4⟩ := (qv1.2.2.2.2.2.2.1 s hs2).1
                refine ⟨t2, ?_⟩
                by_cases q9 : s = 0
                · have := t3 q9; omega
                · obtain ⟨p, p1, p2, p3, _⟩ := t4 (by omega)
                  have := (ihs p p1 (by omega)).2
                  omega
            have ff := farb fn fm
            have j132 : (v15.1 132 (3000 * W + M2)).toInt = (v1.1 132 (3000 * W + fn)).toInt + 1 := by rw [i132, t_add (by omega) (by omega), k1]
            have q15 : TI z W A3 (M2 + 1) v15 := by
              obtain ⟨t1, t2, t3, t4, t5, t6, t7, t8, t9⟩ := qv1
              refine ⟨mi_tr t1 (mi_of MM) rfl rfl, ow_tr t2 o12, g120, by rw [MM.2.1 123 (by decide) (by decide)]; exact t4, by rw [MM.2.1 123 (by decide) (by decide)]; omega, ?_, fun s hs2 => ?_, ?_, fun s hs2 => ?_⟩
              · unfold fnd at t6 ⊢
                rw [MM.2.1 126 (by decide) (by decide)]
                exact fun g hg => (t6 g hg).imp id (fun w => by omega)
              · by_cases q9 : s = M2
                · rw [q9]
                  refine ⟨⟨by rw [A3m]; exact av', by omega, fun z9 => by omega, fun _ => ⟨fn, fm, by rw [i130]; omega, ?_, by rw [i131]; exact i0, ?_, ?_⟩⟩, fun k hk => ?_⟩
                  · rw [h132 fn (by omega)]; exact j132
                  · rw [i131, A3n fn (by omega), ea, ← eC]; omega
                  · rw [i131, A3n fn (by omega), ea, A3m]; exact ⟨b, trb, fb⟩
                  · rw [A3m, j133, row k hk]; exact pv_eq eva hk
                · obtain ⟨⟨u1, u2, u3, u4⟩, u5'⟩ := t7 s (by omega)
                  refine ⟨⟨by rw [A3n s q9]; exact u1, by rw [h132 s q9]; exact u2, by rw [h132 s q9]; exact u3, fun z9 => ?_⟩, fun k hk => by rw [A3n s q9, j133]; exact u5' k hk⟩
                  obtain ⟨p, p1, p2, p3, p4, p5, p6⟩ := u4 z9
                  refine ⟨p, p1, by rw [h130 s q9]; exact p2, by rw [h132 s q9, h132 p (by omega)]; exact p3, by rw [h131 s q9]; exact p4, by rw [h131 s q9, A3n p (by omega)]; exact p5, by rw [h131 s q9, A3n p (by omega), A3n s q9]; exact p6⟩
              · rw [A3n 0 (by omega)]; exact t8
              · by_cases q9 : s = M2
                · rw [q9, A3m]
                  have pz : prE z v := prE_mi (prE_rf z) qv.1 rfl rfl
                  have pav : prE a' v := prE_eqS eva
                  refine ⟨prE_tr pz (prE_sy pav), ?_⟩
                  rw [← cF eva (k := 68) (by decide), qv.1.1 68 (by decide)]
                · rw [A3n s q9]; exact t9 s (by omega)
            have e15s : eqS (Sl a') a' v15 := eqS_mi eva (mi_tr (L3 := [136]) (A3 := [133, 134, 135, 120, 130, 131, 132]) (mi_of mv1) (mi_of MM) rfl rfl) rfl rfl (Sl_Sm a')
            have o15 := q15.2.2.2.1
            have o15b : (v15.1 123 W).toInt ≤ M2 := by rw [MM.2.1 123 (by decide) (by decide)]; exact qv1.2.2.2.2.1
            have pa' : prE z a' := by have := (q15.2.2.2.2.2.2.2.2 M2 (by omega)).1; rw [A3m] at this; exact this
            refine sp_look3 hN hX hq2 w01n w (Int32.ofNat M2) wv am' (by rw [pa'.1 26 (by decide)]; exact l26) (by rw [pa'.1 27 (by decide)]; exact l27) e15s (by omega) (M := ((M2 + 1 : Nat) : Int)) (by omega) (by rw [← eW]; exact q15.2.2.2.2.2.1) (by rw [← eW]; exact o15) (by rw [← eW]; omega) (by omega) (fun v16 k16 fa16 => ?_)
            rw [← eW] at k16 fa16
            obtain ⟨n1, n2, n3, n4, n5, n6⟩ := k16
            have g := fun k (h0 : k ≠ 0) hk => n1.2 k h0 hk
            have hl3 : ((T2.1 ++ [(doM C wn p.1 ch, fn, j)], T2.2) : gTy).1.length = M2 + 1 := by
              show (T2.1 ++ _).length = _
              rw [List.length_append, List.length_singleton, ← eM2]
            refine nx A3 (T2.1 ++ [(doM C wn p.1 ch, fn, j)], T2.2) v16 (adS_new new (by omega)) (by rw [hl3]; omega) (by rw [A3n fn (by omega)]; exact ea) ?_ ?_ (fun _ => ?_)
            rotate_left
            · refine TJ_ad (y' := v15) (v := Int32.ofNat M2) qv1j (fun s hs9 => A3n s (by omega)) (by rw [← eM2, A3m]; exact am') mc' nb' ?_ (MM.2.1 126 (by decide) (by decide)) (fun s hs9 => ?_) (fun s hs9 => ?_) ?_ ?_ (by rw [oM, eM2]) fa16
              · rw [g 121 (by decide) (by decide), MM.2.1 121 (by decide) (by decide)]
              · rw [g 130 (by decide) (by decide)]; exact h130 s (by omega)
              · rw [g 131 (by decide) (by decide)]; exact h131 s (by omega)
              · rw [← eM2, g 130 (by decide) (by decide), i130]; omega
              · rw [← eM2, g 131 (by decide) (by decide), i131]; omega
            rotate_left
            · rw [hl3]
              obtain ⟨t1, t2, t3, t4, t5, t6, t7, t8, t9⟩ := q15
              refine ⟨mi_tr t1 n1 rfl rfl, ow_tr t2 n3, by rw [g 120 (by decide) (by decide)]; exact t3, n5, by omega, n4, fun s hs2 => ?_, t8, t9⟩
              have r9 := t7 s hs2
              unfold TR TN at r9 ⊢
              rw [g 130 (by decide) (by decide), g 131 (by decide) (by decide), g 132 (by decide) (by decide), g 133 (by decide) (by decide)]
              exact r9
            · rw [hl3]
              refine hcR_f (y := v1) ?_ ?_ (fun s k _ _ => ?_) ⟨by push_cast; exact hsn, hcn⟩
              · rw [g 134 (by decide) (by decide), MM.2.1 134 (by decide) (by decide)]
              · rw [g 135 (by decide) (by decide), MM.2.1 135 (by decide) (by decide)]
              · rw [g 133 (by decide) (by decide), j133]
          refine ⟨iv, fun cl => ⟨iv, iv, ?_⟩, fun cl => ⟨iv, iv, ?_⟩⟩
          · exact MT_up (by omega) (MTv_mono (trb.1 cl G u5 el5) (fun v q9 => p206 v q9.1 q9.2.1))
          · exact MT_up (by omega) (MTv_mono (trb.2 cl G u5 el5) (fun v q9 => p206 v q9.1 q9.2))
      have z00 : (0 : Int32).toNatClampNeg = 0 := rfl
      exact p122 84 A y6 0 (by decide) (by rw [k0]; omega) (by rw [k0]; omega) (by rw [z00]; show (T.1.length : Int) ≤ _; rw [← eM]; exact Ml) rfl (by rw [z00]; exact q6) (by rw [z00]; exact qj6) (fun _ => by rw [z00]; exact hs6)
  -- the beginning
  refine sg_tryAll_0 _ _ (sp_forgetTrying w wv (fun y1 m1 o1 n120 n121 n123 nf => ?_))
  rw [← eW] at o1 n120 n121 n123 nf
  have loop : ∀ (n : Nat) (y : gd) (i : Int32), 0 ≤ i.toInt → i.toInt ≤ 4096 → 4096 - i.toInt ≤ n → md [] [135] y1 y → (∀ k : Nat, (k : Int) < i.toInt → y.1 135 k = -1) → MT G (D + 2) z_tryAll 7 [(0, vr 0), (1, vi w), (2, vi l), (3, vi i)] [] y (rv Fv) := by
    have last : ∀ y : gd, md [] [135] y1 y → (∀ k : Nat, k < 4096 → y.1 135 k = -1) → MT G (D + 1) z_setFirst 0 [(0, vr 0)] [] y (rv (fun x2 => MT G (D + 1) z_seek 0 [(0, vr 0), (1, vi w)] [] x2 (ri (fun r4 x3 => vp_in w 2 ∧ (∀ x6 : gd, x6 = si x3 120 (w : Int32).toNatClampNeg 1 → vp_in (3000 * w) 6000 ∧ (∀ x8 : gd, x8 = si x6 130 (3000 * w : Int32).toNatClampNeg (-1) → vp_in (3000 * w) 6000 ∧ (∀ x10 : gd, x10 = si x8 132 (3000 * w : Int32).toNatClampNeg 0 → MT G (D + 1) z_look 0 [(0, vr 0), (1, vi w), (2, vi 0)] [] x10 (rv (fun x11 => MT G (D + 2) z_tryAll 75 [(0, vr 0), (1, vi w), (2, vi l), (4, vi 0)] [] x11 (rv Fv))))))))))  := by
      intro y my hh
      have mzy : mi [] [120, 121, 122, 123, 124, 125, 126, 127, 128, 135] z y := mi_tr (mi_of m1) (mi_of my) rfl rfl
      have py : prE z y := prE_mi (prE_rf z) mzy rfl rfl
      have wy' : y.1 0 68 = w := by rw [mzy.1 68 (by decide)]; exact hw
      refine MTv_mono (first G (D + 1) y (by omega) py wy') (fun y2 g2 => ?_)
      have e2 : eqS (Sl a0) a0 y2 := sl_sw mb0 g2.1
      have y120 : y2.1 120 W = 0 := by rw [g2.2.2.1 120 (by decide) (by decide), my.2.1 120 (by decide) (by decide)]; exact n120
      have y121 : y2.1 121 W = 0 := by rw [g2.2.2.1 121 (by decide) (by decide), my.2.1 121 (by decide) (by decide)]; exact n121
      have y123 : y2.1 123 W = 0 := by rw [g2.2.2.1 123 (by decide) (by decide), my.2.1 123 (by decide) (by decide)]; exact n123
      have y126 : ∀ f : Nat, f < 11 → y2.1 126 (11 * W + f) = -1 := fun f hf => by rw [g2.2.2.1 126 (by decide) (by decide), my.2.1 126 (by decide) (by decide)]; exact nf f hf
      have y135 : y2.1 135 = y.1 135 := g2.2.2.1 135 (by decide) (by decide)
      refine sp_seek3 w wv (m := 0) (by rw [← eW, y120]; rfl) (by omega) ⟨fun k hk => Or.inl (by rw [y135]; exact hh k hk), fun s hs2 => by omega⟩ (fun s hs2 => absurd hs2 (Nat.not_lt_zero _)) (fun t ht => by rw [cA e2 (c := 80) (n := 6) (by decide) ht]; exact (av0.1.2 t ht).2.2.2.1) (fun r y3 m3 lo alt => ⟨wv, fun y6 e6 => ?_⟩)
      rcases alt with ⟨er, row, hsn, hcn, -⟩ | ⟨s9, r0, _⟩
      rotate_left
      · exact absurd r0 (Nat.not_lt_zero _)
      have bw : (3000 * w).toInt = 3000 * w.toInt := by rw [t_mul (by rw [k3]; omega) (by rw [k3]; omega), k3]
      have bv : vp_in (3000 * w) 6000 := by rw [vp_in_iff]; omega
      have cb : (3000 * w).toNatClampNeg = 3000 * W + 0 := by have := cl_i (a := 3000 * w) (by omega); omega
      rw [cb]
      rw [← eW] at e6
      refine ⟨bv, fun y8 e8 => ⟨bv, fun y10 e10 => ?_⟩⟩
      have m6 := md_a y3 120 W 1 (by decide)
      rw [← e6] at m6
      have m8 := md_a y6 130 (3000 * W + 0) (-1) (by decide)
      rw [← e8] at m8
      have m10 := md_a y8 132 (3000 * W + 0) 0 (by decide)
      rw [← e10] at m10
      have MM : md [] [120, 130, 132] y3 y10 := md_tr (md_tr (L3 := []) (A3 := [120, 130]) m6 m8 rfl rfl) m10 rfl rfl
      have o310 : ow W y3 y10 := by
        refine ow_tr (y := y8) (ow_tr (y := y6) ?_ ?_) ?_
        · rw [e6]; exact ow_si W2 (Or.inl ⟨Or.inl rfl, rfl⟩)
        · rw [e8]; exact ow_si W2 (Or.inr (Or.inr ⟨Or.inl rfl, 0, by omega, rfl⟩))
        · rw [e10]; exact ow_si W2 (Or.inr (Or.inr ⟨Or.inr (Or.inr rfl), 0, by omega, rfl⟩))
      have oz3 : ow W z y3 := ow_tr (ow_tr (ow_tr o1 (ow_mi (mi_of my) rfl)) (ow_mi (mi_of g2.2) rfl)) (ow_mi (mi_of m3) rfl)
      have mz10 : mi tL tA' z y10 := mi_tr (mi_tr (L3 := tL) (A3 := tA') (mi_tr (L3 := tL) (A3 := tA') mzy (mi_of g2.2) rfl rfl) (mi_of m3) rfl rfl) (mi_of MM) rfl rfl
      have h132 : y10.1 132 (3000 * W + 0) = 0 := by rw [e10, si_get, if_pos ⟨rfl, rfl⟩]
      have h120 : y10.1 120 W = Int32.ofNat 1 := by rw [m10.2.1 120 (by decide) (by decide), m8.2.1 120 (by decide) (by decide), e6, si_get, if_pos ⟨rfl, rfl⟩]; rfl
      have h123 : y10.1 123 W = 0 := by rw [MM.2.1 123 (by decide) (by decide), m3.2.1 123 (by decide) (by decide)]; exact y123
      have h126 : fnd y10 W 1 := fun f hf => Or.inl (by rw [MM.2.1 126 (by decide) (by decide), m3.2.1 126 (by decide) (by decide)]; exact y126 f hf)
      have q10 : TI z W (fun _ => a0) 1 y10 := by
        refine ⟨mz10, ow_tr oz3 o310, h120, by rw [h123]; decide, by rw [h123]; decide, h126, fun s hs2 => ⟨⟨av0, ?_, fun _ => ?_, fun z9 => by omega⟩, fun k hk => ?_⟩, by rw [e32]; exact st0, fun s hs2 => ⟨pa0, by rw [hw]; exact e68⟩⟩
        · rw [show s = 0 by omega, h132]; decide
        · rw [show s = 0 by omega, h132]; rfl
        · rw [show s = 0 by omega, MM.2.1 133 (by decide) (by decide)]
          exact (row k hk).trans (pv_eq e2 hk)
      have e10s : eqS (Sl a0) a0 y10 := eqS_mi e2 (mi_tr (L3 := [136]) (A3 := [133, 134, 135, 120, 130, 132]) (mi_of m3) (mi_of MM) rfl rfl) rfl rfl (Sl_Sm a0)
      refine sp_look3 hN hX hq2 w01n w 0 wv am0 (by rw [pa0.1 26 (by decide)]; exact l26) (by rw [pa0.1 27 (by decide)]; exact l27) e10s (by decide) (M := 1) (by decide) (by rw [← eW]; exact h126) (by rw [← eW, h123]; decide) (by rw [← eW, h123]; decide) (by omega) (fun y11 k11 fa11 => ?_)
      rw [← eW] at k11 fa11
      obtain ⟨n1, n2, n3, n4, n5, n6⟩ := k11
      rw [h123, k0] at n6
      have g := fun k (h0 : k ≠ 0) hk => n1.2 k h0 hk
      have e121e : y11.1 121 W = 0 := by rw [g 121 (by decide) (by decide), MM.2.1 121 (by decide) (by decide), m3.2.1 121 (by decide) (by decide)]; exact y121
      have y126' : ∀ f : Nat, f < 11 → y10.1 126 (11 * W + f) = -1 := fun f hf => by rw [MM.2.1 126 (by decide) (by decide), m3.2.1 126 (by decide) (by decide)]; exact y126 f hf
      have one : ∀ (s : Nat) (p : gMa × Nat × Nat), (([(fsM C, 0, 0)], false) : gTy).1[s]? = some p → s = 0 ∧ p = (fsM C, 0, 0) := fun s p hp => by
        cases s with
        | zero => exact ⟨rfl, (Option.some.inj hp).symm⟩
        | succ s => exact nomatch hp
      refine p75 3000 (fun _ => a0) ([(fsM C, 0, 0)], false) y11 0 (by decide) (by decide) (by decide) (Nat.le_refl 1) (by show ((1 : Nat) : Int) ≤ _; omega) ?_ ⟨fun s p hp => ?_, ?_, e121e, fun s p hp s0 => ?_⟩ (fun _ => ?_) rfl
      rotate_left
      · rw [(one s p hp).2]; exact ⟨am0, MCn_fs, NBm_fs⟩
      · exact FN3_next (k := 0) (x7 := fun f => y10.1 126 (11 * W + f)) (p := (fsM C, 0, 0)) rfl rfl (fun f hf => Or.inl ⟨y126' f hf, fun s p hs => absurd hs (Nat.not_lt_zero _)⟩) fa11
      · rw [(one s p hp).1] at s0; exact absurd s0 (Nat.lt_irrefl _)
      rotate_left
      · obtain ⟨t1, t2, t3, t4, t5, t6, t7, t8, t9⟩ := q10
        refine ⟨mi_tr t1 n1 rfl rfl, ow_tr t2 n3, by rw [g 120 (by decide) (by decide)]; exact t3, n5, by show _ ≤ ((1 : Nat) : Int); omega, n4, fun s hs2 => ?_, t8, t9⟩
        have r9 := t7 s hs2
        unfold TR TN at r9 ⊢
        rw [g 130 (by decide) (by decide), g 131 (by decide) (by decide), g 132 (by decide) (by decide), g 133 (by decide) (by decide)]
        exact r9
      · refine hcR_f (y := y3) ?_ ?_ (fun s k _ _ => ?_) ⟨hsn, hcn⟩
        · rw [g 134 (by decide) (by decide), MM.2.1 134 (by decide) (by decide)]
        · rw [g 135 (by decide) (by decide), MM.2.1 135 (by decide) (by decide)]
        · rw [g 133 (by decide) (by decide), MM.2.1 133 (by decide) (by decide)]
    intro n
    induction n with
    | zero =>
      intro y i i0 i1 hn my hh
      exact sg_tryAll_7 _ _ _ ⟨fun _ => last y my (fun k hk => hh k (by omega)), fun c => absurd (t_le.mpr (by rw [k40]; omega)) c⟩
    | succ n ih =>
      intro y i i0 i1 hn my hh
      refine sg_tryAll_7 _ _ _ ⟨fun c => last y my (fun k hk => hh k (by rw [t_le, k40] at c; omega)), fun c => ?_⟩
      rw [t_le, k40] at c
      have ci := cl_i i0
      have ii : (i + 1).toInt = i.toInt + 1 := by rw [t_add (by omega) (by omega), k1]
      refine ⟨by rw [vp_in_iff]; omega, fun y13 e13 => ?_⟩
      have m13 := md_a y 135 i.toNatClampNeg (-1) (by decide)
      rw [← e13] at m13
      refine ih y13 (i + 1) (by omega) (by omega) (by omega) (md_tr my m13 rfl rfl) (fun k hk => ?_)
      rw [e13, si_get]
      by_cases q : (135 : Nat) = 135 ∧ k = i.toNatClampNeg
      · rw [if_pos q]
      · rw [if_neg q]; exact hh k (by omega)
  exact loop 4096 y1 0 (by decide) (by decide) (by decide) (md_w (md_rf y1) (by decide) (by decide)) (fun k hk => by rw [k0] at hk; omega)
end TRY3
end
section
/-! claims: nothing of a thread in them, and cells that there are -/
def n5N (N : gU) : Prop := ∀ v ∈ N, ¬ v.1 = 53 ∧ (v.1 = 12 → (7, v.2.2, 0) ∈ N)
def n5T (L L' : gU) : Prop := ∃ N, L' = L ++ N ∧ n5N N
section NT5
variable {K V : Nat → Int32} {L L' L2 M N : gU} {o : Bool} {sN : Nat → Nat → Bool}
theorem n5N_app (h : n5N M) (g : n5N N) : n5N (M ++ N) := fun v hv => by
  rcases List.mem_append.mp hv with h1 | h1
  · exact ⟨(h v h1).1, fun e => List.mem_append_left _ ((h v h1).2 e)⟩
  · exact ⟨(g v h1).1, fun e => List.mem_append_right _ ((g v h1).2 e)⟩
theorem n5T_rf : n5T L L := ⟨[], by rw [List.append_nil], fun _ h => by cases h⟩
theorem n5T_tr (h : n5T L L') (g : n5T L' L2) : n5T L L2 := by
  obtain ⟨N, e, h⟩ := h
  obtain ⟨N2, e2, g⟩ := g
  exact ⟨N ++ N2, by rw [e2, e, List.append_assoc], n5N_app h g⟩
theorem n5T_k {k a b : Nat} (h : ¬ k = 53) (h' : ¬ k = 12) : n5T L (L ++ [(k, a, b)]) := ⟨_, rfl, fun v hv => by rw [List.mem_singleton.mp hv]; exact ⟨h, fun e => absurd e h'⟩⟩
theorem n5T_7 {i j : Nat} : n5T L (L ++ [(7, i, 0), (12, j, i)]) := ⟨_, rfl, fun v hv => by
  rcases List.mem_cons.mp hv with e | e
  · rw [e]; exact ⟨by show ¬ 7 = 53; decide, fun z => absurd z (by show ¬ 7 = 12; decide)⟩
  · rw [List.mem_singleton.mp e]; exact ⟨by show ¬ 12 = 53; decide, fun _ => List.mem_cons_self⟩⟩
theorem pt_n5T {w : Int32} {q r : Nat × gU} (h : pt K w q = some r) : n5T q.2 r.2 := by
  obtain ⟨-, -, e⟩ := pt_is h
  rw [e]; exact n5T_rf
abbrev ng5 (rE : Nat → Nat → gU → gOp) : Prop := ∀ s i L q, rE s i L = some q → n5T L q.2
theorem pW_n5T {rE : Nat → Nat → gU → gOp} {th : Nat} (hr : ng5 rE) : ∀ (f j : Nat) (L : gU) (q : Nat × gU), pW rE K th f j L = some q → n5T L q.2 := by
  intro f
  induction f with
  | zero => intro j L q h; exact absurd h (by simp [pW])
  | succ f ih =>
    intro j L q h
    rw [pW] at h
    split at h
    · split at h
      · obtain ⟨z, hz, h2⟩ := Option.bind_eq_some_iff.mp h
        exact n5T_tr (hr _ _ _ _ hz) (n5T_tr (n5T_k (by decide) (by decide)) (ih _ _ _ h2))
      · exact absurd h (by simp)
    · cases Option.some.inj h; exact n5T_rf
theorem pO_n5T {rE : Nat → Nat → gU → gOp} (hr : ng5 rE) (ho : o = true) {i : Nat} {q : Nat × gU} (h32 : ¬ K i = 32) (h : pO rE K o i L = some q) : n5T L q.2 := by
  unfold pO at h
  split at h
  · exact absurd h (by simp)
  · split at h
    · cases Option.some.inj h; exact n5T_k (by decide) (by decide)
    · split at h
      · obtain ⟨z, hz, h2⟩ := Option.bind_eq_some_iff.mp h
        exact n5T_tr (hr _ _ _ _ hz) (pt_n5T h2)
      · split at h
        · split at h
          · split at h
            · cases Option.some.inj h; exact n5T_7
            · exact absurd h (by simp)
          · cases Option.some.inj h; exact n5T_k (by decide) (by decide)
        · exact absurd h (by simp)
theorem pE_n5T (ho : o = true) : ∀ f : Nat, ng5 (pE K o f) := by
  intro f
  induction f with
  | zero => intro s i L q h; exact absurd h (by simp [pE])
  | succ f ih =>
    intro s i L q h
    rw [pE] at h
    split at h
    · rename_i hb
      obtain ⟨z, hz, h2⟩ := Option.bind_eq_some_iff.mp h
      refine n5T_tr ?_ (pW_n5T ih _ _ _ _ h2)
      split at hz
      · split at hz
        · obtain ⟨y, hy, h3⟩ := Option.bind_eq_some_iff.mp hz
          cases Option.some.inj h3
          exact n5T_tr (ih _ _ _ _ hy) (n5T_k (by decide) (by decide))
        · exact absurd hz (by simp)
      · refine pO_n5T ih ho (fun e => ?_) hz
        rw [e] at hb
        rcases hb with z | ⟨-, z⟩ | z | z | z | z
        · exact absurd z (by decide)
        · rw [ho] at z; cases z
        · exact absurd z (by decide)
        · exact absurd z (by decide)
        · exact absurd z (by decide)
        · exact absurd z (by decide)
    · exact absurd h (by simp)
theorem pX_n5T {f i : Nat} {q : Nat × gU} (h : pX K true f i L = some q) : n5T L q.2 := by
  obtain ⟨z, hz, h2⟩ := Option.bind_eq_some_iff.mp h
  refine n5T_tr (pE_n5T rfl f _ _ _ _ hz) ?_
  unfold pan at h2
  cases Option.some.inj h2
  exact n5T_k (by decide) (by decide)
/-- the claims so far -/
def WDc (c : gCd) : Prop := ∃ E S r b l, c = (E, S, [], r, b, l) ∧ E.2.1 = [] ∧ r.1 = [] ∧ ∀ q ∈ l, n5N q.2
variable {c : gCd} {i j n t : Nat} {T : gTd} {E : gV}
theorem WDc_th {q : Nat} (h : WDc c) (hB : PBt K 0 0 q N) (nf : ¬ flt sN T V N E0v) : WDc (cds sN K ([(34, i, j)] ++ N) c) ∧ eqE (exs N E0v) E0v := by
  obtain ⟨E, S, r, b, l, rfl, hE, hr, h3⟩ := h
  obtain ⟨b1, b2, b3⟩ := hB sN T V E0v nf gEe_0 rfl
  obtain ⟨S', e, g⟩ := b3 S [] (b ++ [(S.length, j)], l)
  have b2 : exs N E0v = ([], [], q) := b2
  refine ⟨⟨([], [], q), S' ++ [(21, 0, knw ([], [], q), none, none, false, none, none, none)], rg0, b ++ [(S.length, j)], l, ?_, rfl, rfl, h3⟩, by rw [b2]; exact ⟨rfl, rfl⟩⟩
  rw [cds_app, cds_one, cd_34, e]
  rfl
theorem WDc_cl {u : Nat} (hu : u = 35 ∨ u = 36) (h : WDc c) (hs : sEv true N) (hP : n5N N) : WDc (cds sN K ([(u, i, 0)] ++ (N ++ [(54, 0, 0)])) c) := by
  obtain ⟨E, S, ⟨cu, su, pl, ro, tg, tk⟩, b, l, rfl, hE, hr, h3⟩ := h
  have hr : cu = [] := hr
  subst hr
  have e1 : cdV sN K (E, S, [], ([], su, pl, ro, tg, tk), b, l) (u, i, 0) = (E, S, [], ([], su, u, ro, tg, tk), b, l) := by
    rcases hu with rfl | rfl
    · exact cd_35
    · exact cd_36
  have e2 : cds sN K ([(u, i, 0)] ++ (N ++ [(54, 0, 0)])) (E, S, [], ([], su, pl, ro, tg, tk), b, l) = (E, S, [], ([], su, u, ro, tg, tk), b, l ++ [(u, N)]) := by
    rw [cds_app, cds_one, e1, cds_app, cds_sum (r := ([], su, u, ro, tg, tk)) hs (fun _ => hE), cds_one]
    show cdV sN K (E, S, [], ([] ++ N, su, u, ro, tg, tk), b, l) (54, 0, 0) = _
    rw [List.nil_append]
    unfold cdV
    rw [if_neg (by decide), if_neg (by decide), if_pos rfl, if_pos hE]
  rw [e2]
  refine ⟨_, _, _, _, _, rfl, hE, rfl, fun q hq => ?_⟩
  rcases List.mem_append.mp hq with hq | hq
  · exact h3 q hq
  · rw [List.mem_singleton.mp hq]
    exact hP
theorem WDc_no (h : WDc c) (hN : dul N) (hE : eqE E E0v) : WDc (cds sN K N c) ∧ eqE (exs N E) E0v := by
  rw [cds_no hN]
  refine ⟨h, ?_⟩
  rw [exs_still (fun v hv => by have := hN v hv; omega)]
  exact hE
theorem pD_g {n : gN} {q : gN × Nat × gU} (h : pD K V n i L = some q) : ∃ N, q.2.2 = L ++ N ∧ ∀ sN T V' E c, WDc c → eqE E E0v → ¬ flt sN T V' N E → WDc (cds sN K N c) ∧ eqE (exs N E) E0v := by
  have cell : ∀ t, (pCl K V n.1 i t L).bind (fun q => some ((q.1, n.2), q.2)) = some q → ∃ N, q.2.2 = L ++ N ∧ ∀ sN T V' E c, WDc c → eqE E E0v → ¬ flt sN T V' N E → WDc (cds sN K N c) ∧ eqE (exs N E) E0v := fun t h => by
    obtain ⟨z, hz, e⟩ := Option.bind_eq_some_iff.mp h
    obtain ⟨N, eN, hN⟩ := pCl_f hz
    cases Option.some.inj e
    exact ⟨N, eN, fun sN T V' E c hc hE _ => WDc_no hc hN hE⟩
  have blk : ∀ (t a j : Nat) (v : gN), (pBk (pS K 16) K 0 0 t (L ++ [(34, a, j)])).bind (fun q => some (v, q.2)) = some q → ∃ N, q.2.2 = L ++ N ∧ ∀ sN T V' E c, WDc c → eqE E E0v → ¬ flt sN T V' N E → WDc (cds sN K N c) ∧ eqE (exs N E) E0v := fun t a j v h => by
    obtain ⟨z, hz, e⟩ := Option.bind_eq_some_iff.mp h
    obtain ⟨N, eN, hN⟩ := pBk_f (pS_f 16 (Nat.le_refl _)) hz
    cases Option.some.inj e
    refine ⟨[(34, a, j)] ++ N, by show z.2.2 = _; rw [eN, List.append_assoc], fun sN T V' E c hc hE nf => ?_⟩
    have s34 : still [(34, a, j)] := st_k (by decide)
    obtain ⟨-, nf⟩ := nf_app nf s34
    obtain ⟨r1, r2⟩ := WDc_th (i := a) (j := j) hc hN (fun y => nf ((flt_q hE).mpr y))
    refine ⟨r1, ?_⟩
    rw [exs_app, exs_still s34]
    exact eqE_tr (exs_q hE) r2
  have clm : ∀ (u : Nat) (v : gN), u = 35 ∨ u = 36 → ((pX K true 16 (i + 1) (L ++ [(u, i, 0)])).bind (pt K 67)).bind (fun q => some (v, q)) = some q → ∃ N, q.2.2 = L ++ N ∧ ∀ sN T V' E c, WDc c → eqE E E0v → ¬ flt sN T V' N E → WDc (cds sN K N c) ∧ eqE (exs N E) E0v := fun u v hu h => by
    obtain ⟨z, hz, e⟩ := Option.bind_eq_some_iff.mp h
    obtain ⟨y, hy, h2⟩ := Option.bind_eq_some_iff.mp hz
    obtain ⟨N, eN, hs, hw⟩ := pX_sW hy
    obtain ⟨N', eN', hn5⟩ := pX_n5T hy
    have eNN : N' = N ++ [(54, 0, 0)] := List.append_cancel_left (eN'.symm.trans eN)
    have hn : n5N N := fun v hv => by
      have h9 := hn5 v (by rw [eNN]; exact List.mem_append_left _ hv)
      refine ⟨h9.1, fun e12 => ?_⟩
      have h8 := h9.2 e12
      rw [eNN] at h8
      rcases List.mem_append.mp h8 with h7 | h7
      · exact h7
      · have := congrArg (fun z : Nat × Nat × Nat => z.1) (List.mem_singleton.mp h7)
        exact absurd this (by show ¬ 7 = 54; decide)
    obtain ⟨-, -, e2⟩ := pt_is h2
    cases Option.some.inj e
    refine ⟨[(u, i, 0)] ++ (N ++ [(54, 0, 0)]), ?_, fun sN T V' E c hc hE _ => ⟨WDc_cl hu hc hs hn, ?_⟩⟩
    · show z.2 = _
      rw [e2]
      show y.2 = _
      rw [eN, List.append_assoc]
    · rw [exs_still (still_app (st_k (by omega)) (still_app (sEv_st hs) (st_k (by decide))))]
      exact hE
  unfold pD at h
  split at h
  · split at h
    · exact cell _ h
    · exact absurd h (by simp)
  · split at h
    · exact cell _ h
    · split at h
      · split at h
        · cases Option.some.inj h
          exact ⟨[(33, i + 1, 0)], rfl, fun sN T V' E c hc hE _ => WDc_no hc (dul_one (by decide)) hE⟩
        · exact absurd h (by simp)
      · split at h
        · split at h
          · exact blk _ _ 1 _ h
          · exact absurd h (by simp)
        · split at h
          · split at h
            · exact blk _ _ 0 _ h
            · exact absurd h (by simp)
          · split at h
            · split at h
              · exact clm 35 _ (Or.inl rfl) h
              · exact absurd h (by simp)
            · split at h
              · split at h
                · exact clm 36 _ (Or.inr rfl) h
                · exact absurd h (by simp)
              · exact absurd h (by simp)
theorem pAl_g : ∀ (m : Nat) (n : gN) (i : Nat) (L : gU) (q : gN × Nat × gU), pAl K V m n i L = some q → ∃ N, q.2.2 = L ++ N ∧ ∀ sN T V' E c, WDc c → eqE E E0v → ¬ flt sN T V' N E → WDc (cds sN K N c) := by
  intro m
  induction m with
  | zero => intro n i L q h; exact absurd h (by simp [pAl])
  | succ m ih =>
    intro n i L q h
    rw [pAl] at h
    split at h
    · cases Option.some.inj h
      exact ⟨[], by rw [List.append_nil], fun sN T V' E c hc _ _ => hc⟩
    · obtain ⟨z, hz, h2⟩ := Option.bind_eq_some_iff.mp h
      obtain ⟨M, eM, hM⟩ := pD_g hz
      obtain ⟨N, eN, hN⟩ := ih _ _ _ _ h2
      refine ⟨M ++ N, by rw [eN, eM, List.append_assoc], fun sN T V' E c hc hE nf => ?_⟩
      rw [flt_app] at nf
      obtain ⟨r1, r2⟩ := hM sN T V' E c hc hE (fun y => nf (Or.inl y))
      rw [cds_app]
      exact hN sN T V' _ _ r1 r2 (fun y => nf (Or.inr y))
theorem cod_c {n : gN} (h : pAl K V 701 (0, 0, 0, 0, 0) 0 [] = some (n, j, L)) (nf : ¬ jFl sN K V L) : WDc (cds sN K L cd0) := by
  obtain ⟨N, eN, hN⟩ := pAl_g _ _ _ _ _ h
  have eN : L = N := eN
  rw [← eN] at hN
  exact hN sN _ V E0v cd0 ⟨E0v, [], rg0, [], [], rfl, rfl, rfl, fun q hq => (by cases hq)⟩ ⟨rfl, rfl⟩ (fun y => nf (Or.inr y))
theorem flt_mm : ∀ {L : gU} {E : gV} {v : Nat × Nat × Nat}, ¬ flt sN T V L E → v ∈ L → ∃ E', ¬ fv sN T V E' v := by
  intro L
  induction L with
  | nil => intro E v _ hv; cases hv
  | cons a L ih =>
    intro E v nf hv
    have n1 : ¬ fv sN T V E a := fun z => nf (Or.inl z)
    have n2 : ¬ flt sN T V L (exV E a) := fun z => nf (Or.inr z)
    rcases List.mem_cons.mp hv with e | e
    · rw [e]; exact ⟨E, n1⟩
    · exact ih n2 e
/-- claims, in numbers, but for what is below 0 -/
def NCu (C : gCo) : Prop := ∀ Q, Q ∈ C.2.2.2.1 ∨ Q ∈ C.2.2.2.2 → ∀ p ∈ Q, ¬ p.1 = 3 ∧ (p.1 = 4 → p.2.2.toInt < C.2.2.1.length)
theorem NCu_of {n : gN} (h : pAl K V 701 (0, 0, 0, 0, 0) 0 [] = some (n, j, L)) (nf : ¬ jFl sN K V L) (l24 : (cel K V L).length ≤ 24) : NCu (codN sN V K L) := by
  have hc : celP K V L := pAl_cP 701 _ _ _ _ celP_0 h
  obtain ⟨E, S, r, b, l, ec, -, -, w1, w2, w3⟩ := cod_ok h nf
  obtain ⟨E', S', r', b', l', ec', -, -, w4⟩ := cod_c h nf
  have el : l' = l := by
    have e9 := ec'.symm.trans ec
    exact congrArg (fun z : gCd => z.2.2.2.2.2) e9
  rw [el] at w4
  have e3 : (cds sN K L cd0).2.2.2.2.2 = l := by rw [ec]
  obtain ⟨T, eT⟩ : ∃ T, T = L.filterMap (te1 K V) := ⟨_, rfl⟩
  have nfl : ¬ flt sN T V L E0v := fun z => nf (Or.inr (by rw [← eT]; exact z))
  have cs : (codN sN V K L).2.2.1 = cel K V L := rfl
  -- a cell's number
  have num : ∀ t q, mtP sN T 0 t = some q → ∀ i, i < max q.2.2.1 1 → nmT sN 0 t T + i < (cel K V L).length := fun t q hm i hi => by
    obtain ⟨T1, T2, a1, a2, a3⟩ := nm_first hm
    obtain ⟨p, hp⟩ := hc.2 T1 q T2 (by rw [← eT]; exact a1) a2
    rw [a3]
    exact gt_lt (hp i hi)
  have cl : ∀ u Q, Q ∈ (clF u l).map (nQs sN T V K []) → ∀ p ∈ Q, ¬ p.1 = 3 ∧ (p.1 = 4 → p.2.2.toInt < (cel K V L).length) := fun u Q hQ p hp => by
    obtain ⟨N, hN, e⟩ := List.mem_map.mp hQ
    subst e
    obtain ⟨q, hq, e9⟩ := List.mem_filterMap.mp hN
    have e9 : q.2 = N := by
      split at e9
      · exact Option.some.inj e9
      · exact absurd e9 (by simp)
    obtain ⟨-, z4⟩ := w3 q hq
    have z5 := w4 q hq
    rw [e9] at z4 z5
    obtain ⟨v, hv, e⟩ := List.mem_filterMap.mp hp
    have inL := z4 v hv
    obtain ⟨n53, h12⟩ := z5 v hv
    unfold nQt at e
    split at e
    · cases e; exact ⟨by show ¬ 1 = 3; decide, fun z => absurd z (by show ¬ 1 = 4; decide)⟩
    · split at e
      · cases e; exact ⟨by show ¬ 2 = 3; decide, fun z => absurd z (by show ¬ 2 = 4; decide)⟩
      · split at e
        · next e6 =>
          cases e
          refine ⟨by show ¬ 4 = 3; decide, fun _ => ?_⟩
          obtain ⟨E9, n9⟩ := flt_mm nfl inL
          have pl : plc sN T v.2.1 := Classical.byContradiction (fun z => n9 (Or.inr (Or.inl ⟨e6, z⟩)))
          obtain ⟨q9, hm, -⟩ := pl
          have := num _ _ hm 0 (by omega)
          show (Int32.ofNat (nmT sN 0 v.2.1 T)).toInt < _
          rw [Int32.toInt_ofNat_of_lt (by omega)]
          omega
        · split at e
          · next e12 =>
            cases e
            refine ⟨by show ¬ 4 = 3; decide, fun _ => ?_⟩
            obtain ⟨E9, n9⟩ := flt_mm nfl inL
            obtain ⟨E7, n7⟩ := flt_mm nfl (z4 _ (h12 e12))
            have rw7 : ∃ n, rwc sN T v.2.2 n := Classical.byContradiction (fun z => n7 (Or.inr (Or.inr (Or.inl ⟨rfl, z⟩))))
            obtain ⟨m, hm⟩ := rw7
            have lt : ¬ (m : Int) ≤ (V v.2.1).toInt := fun z => n9 (Or.inr (Or.inr (Or.inr (Or.inl ⟨e12, m, hm, z⟩))))
            obtain ⟨q9, hm1, hm2, hm3⟩ := hm
            have b0 := num _ _ hm1 (m - 1) (by omega)
            have lo := Int32.le_toInt (V v.2.1)
            have ofm : (Int32.ofNat (nmT sN 0 v.2.2 T)).toInt = (nmT sN 0 v.2.2 T : Nat) := Int32.toInt_ofNat_of_lt (by omega)
            show (Int32.ofNat (nmT sN 0 v.2.2 T) + V v.2.1).toInt < _
            rw [t_add (by omega) (by omega), ofm]
            omega
          · split at e
            · cases e; exact ⟨by show ¬ 5 = 3; decide, fun z => absurd z (by show ¬ 5 = 4; decide)⟩
            · split at e
              · cases e; exact ⟨by show ¬ 6 = 3; decide, fun z => absurd z (by show ¬ 6 = 4; decide)⟩
              · exact absurd e (by simp)
  intro Q hQ
  rw [cs]
  unfold codN at hQ
  rw [e3, ← eT] at hQ
  exact hQ.elim (fun z => cl 35 Q z) (fun z => cl 36 Q z)
theorem NCq_of {x : gd} {C : gCo} (hC : CO x) (hK : CK x C) (h : NCu C) : NCq C := by
  have key : ∀ (r : Int32) (Q : List gQ), SUk x r (Q.map cQ) → ∀ p ∈ Q, p.1 = 4 → 0 ≤ p.2.2.toInt := fun r Q hS p hp h4 => by
    obtain ⟨i, hi⟩ := List.mem_iff_getElem?.mp hp
    obtain ⟨s1, s2, s3, -⟩ := hS
    have hl := gt_lt hi
    obtain ⟨e1, e2⟩ := s3 i (cQ p) (by rw [List.getElem?_map, hi]; rfl)
    have c4 : cQ p = (2, p.2.2) := by
      unfold cQ
      rw [if_neg (by omega), if_neg (by omega), if_neg (by omega), if_pos h4]
    rw [c4] at e1 e2
    have cr := t_cl r
    rw [List.length_map] at s2
    have := hC.2.1.2 (r.toNatClampNeg + i) (by omega) e1
    rw [e2] at this
    exact this.1
  intro Q hQ p hp
  obtain ⟨a, b⟩ := h Q hQ p hp
  refine ⟨a, fun h4 => ⟨?_, b h4⟩⟩
  rcases hQ with hQ | hQ
  · obtain ⟨k, hk⟩ := List.mem_iff_getElem?.mp hQ
    exact key _ Q (hK.2.2.2.1.2 k Q hk) p hp h4
  · obtain ⟨k, hk⟩ := List.mem_iff_getElem?.mp hQ
    exact key _ Q (hK.2.2.2.2.2 k Q hk) p hp h4
end NT5
end
section
/-! the model: what stays of a trying; show() -/
def TYc (C : gCo) (wn : Nat) (z : gd) (T : gTy) : Prop := (z.1 120 wn).toInt = (T.1.length : Nat) ∧ T.1.length ≤ 3000 ∧ FN3 C wn (fun f => z.1 126 (11 * wn + f)) T T.1.length ∧ ∀ s p, T.1[s]? = some p → (s = 0 → (z.1 132 (3000 * wn + s)).toInt = 0) ∧ (0 < s → (z.1 130 (3000 * wn + s)).toInt = (p.2.1 : Nat) ∧ (z.1 131 (3000 * wn + s)).toInt = (p.2.2 : Nat) ∧ (z.1 132 (3000 * wn + s)).toInt = (z.1 132 (3000 * wn + p.2.1)).toInt + 1)
section TYC
variable {C : gCo} {wn nl : Nat} {z y : gd} {T : gTy}
theorem FN3_c {x7 y7 : Nat → Int32} {k : Nat} (e : ∀ f, f < 11 → y7 f = x7 f) (h : FN3 C wn x7 T k) : FN3 C wn y7 T k := fun f hf => by rw [e f hf]; exact h f hf
theorem TYc_f (e1 : y.1 120 = z.1 120) (e2 : y.1 126 = z.1 126) (e3 : y.1 130 = z.1 130) (e4 : y.1 131 = z.1 131) (e5 : y.1 132 = z.1 132) (h : TYc C wn z T) : TYc C wn y T := by
  unfold TYc at h ⊢
  rw [e1, e2, e3, e4, e5]
  exact h
theorem TYc_mi {L A : List Nat} (m : mi L A z y) (hA : [120, 126, 130, 131, 132].all (fun k => !A.elem k) = true) (h : TYc C wn z T) : TYc C wn y T := by
  have g := fun k (h0 : k ≠ 0) hk => m.2 k h0 (all_no hA k hk)
  exact TYc_f (g 120 (by decide) (by decide)) (g 126 (by decide) (by decide)) (g 130 (by decide) (by decide)) (g 131 (by decide) (by decide)) (g 132 (by decide) (by decide)) h
theorem TYc_ow {W : Nat} (hW : TW C wn T) (hw : wn < 2) (ne : ¬ wn = W) (o : ow W z y) (h : TYc C wn z T) : TYc C wn y T := by
  obtain ⟨o1, -, o3, o4⟩ := o wn hw ne
  obtain ⟨h1, h2, h3, h4⟩ := h
  refine ⟨by rw [o1]; exact h1, h2, FN3_c (fun f hf => o3 f hf) h3, fun s p hp => ?_⟩
  have hs := gt_lt hp
  obtain ⟨a, b⟩ := h4 s p hp
  obtain ⟨e1, e2, e3⟩ := o4 s (by omega)
  refine ⟨fun z0 => by rw [e3]; exact a z0, fun s0 => ?_⟩
  have lt := ((hW s p hp).2 s0).1
  rw [e1, e2, e3, (o4 p.2.1 (by omega)).2.2]
  exact b s0
theorem TYc_of {A : Nat → gd} {z0 : gd} (hM : T.1.length ≤ 3000) (ti : TI z0 wn A T.1.length z) (tj : TJ C nl wn A wn T z) : TYc C wn z T := by
  obtain ⟨-, -, t3, -, -, -, t7, -, -⟩ := ti
  obtain ⟨-, j2, -, j4⟩ := tj
  refine ⟨by rw [t3, ofN hM], hM, j2, fun s p hp => ?_⟩
  obtain ⟨-, -, n3, n4⟩ := (t7 s (gt_lt hp)).1
  refine ⟨n3, fun s0 => ?_⟩
  obtain ⟨b1, b2⟩ := j4 s p hp s0
  obtain ⟨q, q1, q2, q3, -⟩ := n4 s0
  have eq : q = p.2.1 := by omega
  rw [eq] at q3
  exact ⟨b1, b2, q3⟩
theorem MK_mi {w w' : gd} {C : gCo} {L A : List Nat} (m : mi L A w w') (hL : mfL.all (fun k => !L.elem k) = true) (hA : mfA.all (fun k => !A.elem k) = true) (h : MK w C) : MK w' C := MK_f h (fun k hk => m.1 k (all_no hL k hk)) (fun c hc => m.2 c (mfA_0 c hc) (all_no hA c hc))
/-- how far a state is -/
theorem TYc_d (hW : TW C wn T) (h : TYc C wn z T) : ∀ n s p, s ≤ n → T.1[s]? = some p → (z.1 132 (3000 * wn + s)).toInt = ((pth T s).length : Nat) := by
  intro n
  induction n with
  | zero =>
    intro s p hs hp
    have e : s = 0 := by omega
    subst e
    exact (h.2.2.2 0 p hp).1 rfl
  | succ n ih =>
    intro s p hs hp
    by_cases s0 : s = 0
    · subst s0
      exact (h.2.2.2 0 p hp).1 rfl
    · obtain ⟨a2, a3, a4⟩ := (h.2.2.2 s p hp).2 (by omega)
      obtain ⟨hl, p', ch, h1, h2, h3⟩ := (hW s p hp).2 (by omega)
      rw [a4, ih p.2.1 p' (by omega) h1, pth_s hW (by omega) hp, List.length_append, List.length_singleton]
      rfl
end TYC
/-! refusals with their number -/
def rfK (k : Int32) (z z' : gd) : Prop := mi [0] [] z z' ∧ z'.1 0 0 = k
section RFK
variable {G : mG} {d D : Nat} {z : gd} {F : Int32 → gd → Prop}
theorem sc_refk {y : gd} (b k : Int32) (hy : z0 z y) (hk : 0 < k.toInt) (h0 : b = 0 → F 0 y) (h1 : ¬ b = 0 → ∀ y', rfK k z y' → F 1 y') : MT G d z_refuses 0 [(0, vr 0), (1, vi b), (2, vi k)] [] y (ri F) :=
  sp_refuses b k hy.2 hk h0 (fun c => h1 c _ ⟨mi_tr hy.1 (mi_of (md_f y 0 k)) rfl rfl, by rw [si_get, if_pos ⟨rfl, rfl⟩]⟩)
theorem sc_noRunk {y : gd} (hy : z0 z y) (h0 : ¬ y.1 0 67 = 0 → F 0 y) (h1 : y.1 0 67 = 0 → ∀ y', rfK 1 z y' → F 1 y') : MT G (d + 1) z_noRun 0 [(0, vr 0)] [] y (ri F) := by
  refine sg_noRun_0 ⟨fun c => sg_noRun_13 _ (sc_refk _ _ hy (by decide) (fun _ => ⟨gbool_0, ri_i (h0 c)⟩) (fun q => absurd rfl q)), fun c => sg_noRun_13 _ (sc_refk _ _ hy (by decide) (fun q => absurd q (by decide)) (fun _ y' m => ⟨gbool_1, ri_i (h1 c y' m)⟩))⟩
end RFK
/-- there is a way to show it -/
def shG (C : gCo) (Tw : Nat → gTy) (z : gd) (w f : Int32) : Prop := ∃ wn s : Nat, (wn = 0 ∨ wn = 1) ∧ w = Int32.ofNat wn ∧ 0 ≤ f.toInt ∧ f.toInt < 11 ∧ ¬ z.1 119 wn = 0 ∧ fsF C wn (Tw wn) f.toInt.toNat s ∧ (pth (Tw wn) s).length ≤ 400
theorem fsF_u {C : gCo} {w f s s' : Nat} {T : gTy} (h : fsF C w T f s) (g : fsF C w T f s') : s = s' := by
  obtain ⟨p, a1, a2, a3⟩ := h
  obtain ⟨p', b1, b2, b3⟩ := g
  apply Classical.byContradiction
  intro ne
  by_cases lt : s < s'
  · exact b3 s p lt a1 a2
  · exact a3 s' p' (by omega) b1 b2
section TSW
variable {G : mG} {d D : Nat} {x z a : gd} {F : Int32 → gd → Prop} {Fv : gd → Prop} {C : gCo}
theorem wn_eq {w : Int32} {wn wn' : Nat} (h1 : wn = 0 ∨ wn = 1) (h2 : wn' = 0 ∨ wn' = 1) (e1 : w = Int32.ofNat wn) (e2 : w = Int32.ofNat wn') : wn = wn' := by
  rcases h1 with rfl | rfl <;> rcases h2 with rfl | rfl
  · rfl
  · rw [e1] at e2; exact absurd e2 (by decide)
  · rw [e1] at e2; exact absurd e2 (by decide)
  · rfl
theorem sc_show {Tw : Nat → gTy} (q : MI z) (gc : GC C) (hK : ¬ z.1 0 66 = 0 → MK z C) (w f : Int32) (hT : ∀ wn, (wn = 0 ∨ wn = 1) → ¬ z.1 119 wn = 0 → TYc C wn z (Tw wn) ∧ TW C wn (Tw wn)) (hD : 8 ≤ D) (h01 : ¬ ((w = 0 ∨ w = 1) ∧ 0 ≤ f.toInt ∧ f.toInt < 11) → ∀ z', rfK 1 z z' → F 0 z') (h02 : ((w = 0 ∨ w = 1) ∧ 0 ≤ f.toInt ∧ f.toInt < 11) → ¬ shG C Tw z w f → ∀ z', rfK 2 z z' → F 0 z') (h1 : ∀ (wn s : Nat) z', (wn = 0 ∨ wn = 1) → w = Int32.ofNat wn → 0 ≤ f.toInt → f.toInt < 11 → ¬ z.1 119 wn = 0 → fsF C wn (Tw wn) f.toInt.toNat s → (pth (Tw wn) s).length ≤ 400 → HistC C wn z' → mi (0 :: 67 :: 68 :: dL) (138 :: dA) z z' → z'.1 0 0 = 0 → z'.1 0 67 = 1 → (z'.1 0 94).toInt = ((pth (Tw wn) s).length : Nat) → (∀ k v, (pth (Tw wn) s)[k]? = some v → c96 z' k = v) → F (z'.1 0 94) z') : MT G D z_show 0 [(0, vr 0), (1, vi w), (2, vi f)] [] z (ri F) := by
  obtain ⟨D, rfl⟩ : ∃ D', D = D' + 1 := ⟨D - 1, by omega⟩
  have k0 : (0 : Int32).toInt = 0 := rfl
  have k1 : (1 : Int32).toInt = 1 := rfl
  have km1 : (-1 : Int32).toInt = -1 := rfl
  have k4 : (400 : Int32).toInt = 400 := rfl
  refine sg_show_0 _ _ (fun y e => ?_)
  have hy := z0_s e
  have no : ∀ wn : Nat, (wn = 0 ∨ wn = 1) → w = Int32.ofNat wn → 0 ≤ f.toInt → f.toInt < 11 → ¬ shG C Tw z w f → ∀ y', rfK 2 z y' → ri F (some (vi 0)) y' := fun wn w01 ew f0 f1 hn y' m => ri_i (h02 ⟨by rcases w01 with e9 | e9 <;> rw [ew, e9]; exact Or.inl rfl; exact Or.inr rfl, f0, f1⟩ hn y' m)
  have qy := (MI_0 hy.1 q).1
  have g119 : y.1 119 = z.1 119 := hy.1.2 119 (by decide) (by simp)
  have p75 : ∀ wn : Nat, (wn = 0 ∨ wn = 1) → w = Int32.ofNat wn → vp_in w 2 → 0 ≤ f.toInt → f.toInt < 11 → ∀ s b : Int32, (b = 0 → ¬ y.1 119 wn = 0 ∧ ∃ S : Nat, s.toInt = (S : Nat) ∧ fsF C wn (Tw wn) f.toInt.toNat S) → (¬ b = 0 → ¬ shG C Tw z w f) → MT G (D + 1) z_show 75 [(0, vr 0), (1, vi w), (3, vi s)] [vi b, vr 0] y (ri F) := by
    intro wn w01 ew wv f0 f1 s b hb hb2
    refine sg_show_75 _ _ _ (sc_refk b 2 hy (by decide) (fun b0 => ⟨fun q => absurd rfl q, fun _ => ?_⟩) (fun nb y' m => ⟨fun _ => no wn w01 ew f0 f1 (hb2 nb) y' m, fun q => absurd q (by decide)⟩))
    obtain ⟨tr, S, es, hfs⟩ := hb b0
    obtain ⟨W, eW⟩ : ∃ W, W = w.toNatClampNeg := ⟨_, rfl⟩
    have eWn : W = wn := by rw [eW, ew]; rcases w01 with e9 | e9 <;> rw [e9] <;> rfl
    have tz : ¬ z.1 119 wn = 0 := by rw [← g119]; exact tr
    obtain ⟨tyz, hTW⟩ := hT wn w01 tz
    obtain ⟨T, eT⟩ : ∃ T, T = Tw wn := ⟨_, rfl⟩
    have h1 := fun z' => h1 wn S z' w01 ew f0 f1 tz hfs
    rw [← eT] at tyz hTW hfs h1
    have ty : TYc C wn y T := TYc_mi hy.1 rfl tyz
    obtain ⟨p9, hp9, -⟩ := id hfs
    have hc : ¬ y.1 0 66 = 0 := (qy.2.2.2 wn (by omega) tr).1
    have cp := qy.2.1 hc
    have hKz := hK (by rw [← hy.1.1 66 (by decide)]; exact hc)
    have b3 := ty.2.1
    have sS := gt_lt hp9
    have ix : ∀ (c : Int32) (c' : Nat), c.toInt = (c' : Nat) → c' < T.1.length → vp_in (3000 * w + c) 6000 ∧ (3000 * w + c).toNatClampNeg = 3000 * wn + c' := fun c c' ec c1 => by
      have := tmul (k := 3000) (K := 3000) (N := 6000) (n := 3000) (i := c) rfl wv (by omega) (by omega) (by omega) (by omega) (by omega)
      have cc := t_cl c
      rw [← eW, eWn] at this
      rw [show c.toNatClampNeg = c' by omega] at this
      exact this
    obtain ⟨sv, se⟩ := ix s S es sS
    have dS := TYc_d hTW ty S S p9 (Nat.le_refl _) hp9
    obtain ⟨N, eN⟩ : ∃ N, N = y.1 132 (3000 * w + s).toNatClampNeg := ⟨_, rfl⟩
    have dN : N.toInt = ((pth T S).length : Nat) := by rw [eN, se]; exact dS
    rw [← eN]
    -- the run gone again
    have loop : (pth T S).length ≤ 400 → ∀ (m : Nat) (u : gd) (k : Nat) (i : Int32), i.toInt = (k : Nat) → k ≤ (pth T S).length → (pth T S).length - k ≤ m → HistC C wn u → (u.1 0 94).toInt = (k : Nat) → (∀ j v, (pth T S)[j]? = some v → (u.1 138 j).toInt = (v : Nat)) → (∀ j v, j < k → (pth T S)[j]? = some v → c96 u j = v) → u.1 0 67 = 1 → mi (67 :: 68 :: dL) (138 :: dA) y u → MT G (D + 1) z_show 186 [(0, vr 0), (4, vi N), (5, vi i)] [] u (ri F) := by
      intro N4
      have end' : ∀ (u : gd) (k : Nat), k = (pth T S).length → HistC C wn u → (u.1 0 94).toInt = (k : Nat) → (∀ j v, j < k → (pth T S)[j]? = some v → c96 u j = v) → u.1 0 67 = 1 → mi (67 :: 68 :: dL) (138 :: dA) y u → ri F (some (vi (u.1 0 94))) u := fun u k ek hu u94 u96 u67 mu => ri_i (h1 u N4 hu (mi_tr hy.1 mu rfl rfl) (by rw [mu.1 0 (by decide)]; exact hy.2) u67 (by rw [u94, ek]) (fun j v hj => u96 j v (by rw [ek]; exact gt_lt hj) hj))
      intro m
      induction m with
      | zero =>
        intro u k i ei hk hm hu u94 u138 u96 u67 mu
        exact sg_show_186 _ _ ⟨fun _ => end' u k (by omega) hu u94 u96 u67 mu, fun c => absurd (t_le.mpr (by omega)) c⟩
      | succ m ih =>
        intro u k i ei hk hm hu u94 u138 u96 u67 mu
        refine sg_show_186 _ _ ⟨fun c => end' u k (by rw [t_le] at c; omega) hu u94 u96 u67 mu, fun c => ?_⟩
        rw [t_le] at c
        have kl : k < (pth T S).length := by omega
        have ci : i.toNatClampNeg = k := by rw [t_cl, ei]; rfl
        refine ⟨by rw [vp_in_iff]; omega, ?_⟩
        rw [ci]
        have hg := List.getElem?_eq_getElem kl
        obtain ⟨v, ev⟩ : ∃ v, v = (pth T S)[k] := ⟨_, rfl⟩
        rw [← ev] at hg
        have e138 := u138 k v hg
        -- the choice is one of those that there are
        obtain ⟨c9, hc9⟩ : ∃ c9 : Nat → Nat, ∀ j v, (pth T S)[j]? = some v → c9 j = v := ⟨fun j => ((pth T S)[j]?).getD 0, fun j v hj => congrArg (fun z : Option Nat => z.getD 0) hj⟩
        obtain ⟨-, r2⟩ := pth_run hTW S S p9 (Nat.le_refl _) hp9 c9 hc9
        have rE : runM C wn c9 k = runM C wn (c96 u) k := runM_cg (fun j hj => by
          have hgj := List.getElem?_eq_getElem (show j < (pth T S).length by omega)
          rw [hc9 j _ hgj, u96 j _ hj hgj])
        have lt := r2 k kl
        rw [hc9 k v hg, rE] at lt
        have e84 := HistC_n hu
        have ek : (u.1 0 94).toInt.toNat = k := by rw [u94]; rfl
        rw [ek] at e84
        have ii : (i + 1).toInt = ((k + 1 : Nat) : Int) := by rw [t_add (by omega) (by omega), k1, ei]; rfl
        refine sc_more gc hu (by omega) _ (by omega) (by omega) (by omega) (fun u' hu' df => ?_)
        obtain ⟨mm, e94, e96, e96b⟩ := df
        have cu : (u.1 0 94).toNatClampNeg = k := by rw [t_cl]; exact ek
        rw [cu] at e96 e96b
        refine ih u' (k + 1) (i + 1) ii kl (by omega) hu' (by rw [e94, u94]; push_cast; rfl) (fun j v hj => by rw [mm.2 138 (by decide) (by decide)]; exact u138 j v hj) (fun j v9 hj hv => ?_) (by rw [mm.1 67 (by decide)]; exact u67) (mi_tr mu mm rfl rfl)
        show (u'.1 96 j).toNatClampNeg = v9
        by_cases cj : j = k
        · rw [cj, e96, t_cl]
          rw [cj, hg] at hv
          have hv := Option.some.inj hv
          rw [e138, hv]; rfl
        · rw [e96b j cj]
          exact u96 j v9 (by omega) hv
    -- the way back to the first state
    have back : (pth T S).length ≤ 400 → ∀ (n : Nat) (u : gd) (c i : Int32) (U : Nat) (pU : gMa × Nat × Nat) (r : List Nat), i.toInt = (n : Int) - 1 → c.toInt = (U : Nat) → T.1[U]? = some pU → (pth T U).length = n → pth T S = pth T U ++ r → mi [] [138] y u → (∀ j v, r[j]? = some v → (u.1 138 (n + j)).toInt = (v : Nat)) → MT G (D + 1) z_show 135 [(0, vr 0), (1, vi w), (3, vi c), (4, vi N), (5, vi i)] [] u (ri F) := by
      intro N4 n
      induction n with
      | zero =>
        intro u c i U pU r ei ec hU hl hr mu hu
        have e0 : pth T U = [] := List.eq_nil_of_length_eq_zero hl
        rw [e0, List.nil_append] at hr
        refine sg_show_135 _ _ _ _ ⟨fun _ => ?_, fun cc => absurd (t_lt.mpr (by rw [k0]; omega)) cc⟩
        rw [ew]
        refine sc_startRun gc (CP_mi mu rfl rfl cp) (MK_mi mu rfl rfl (MK_mi hy.1 rfl rfl hKz)) w01 (by omega) (fun u' hh sf => ?_)
        obtain ⟨mm, f94, -, f67, f68⟩ := sf
        refine loop N4 (pth T S).length u' 0 0 rfl (Nat.zero_le _) (by omega) hh (by rw [f94]; rfl) (fun j v hj => ?_) (fun j v hj => absurd hj (Nat.not_lt_zero _)) f67 (mi_tr mu mm rfl rfl)
        rw [mm.2 138 (by decide) (by decide)]
        rw [hr] at hj
        have := hu j v hj
        rw [Nat.zero_add] at this
        exact this
      | succ n ih =>
        intro u c i U pU r ei ec hU hl hr mu hu
        have hlen : (pth T S).length = (n + 1) + r.length := by rw [hr, List.length_append, hl]
        have U0 : 0 < U := by
          apply Classical.byContradiction
          intro c9
          rw [show U = 0 by omega, pth_0] at hl
          cases hl
        have UL := gt_lt hU
        obtain ⟨a2, a3, a4⟩ := (ty.2.2.2 U pU hU).2 U0
        obtain ⟨hlt, p', ch, g1, g2, g3⟩ := (hTW U pU hU).2 U0
        have ps := pth_s hTW U0 hU
        push_cast at ei
        refine sg_show_135 _ _ _ _ ⟨fun cc => ?_, fun cc => ?_⟩
        · rw [t_lt, k0] at cc; exfalso; omega
        obtain ⟨cv, ce⟩ := ix c U ec UL
        have ci : i.toNatClampNeg = n := by rw [t_cl, ei]; omega
        have lv : vp_in i 400 := by rw [vp_in_iff]; omega
        refine ⟨cv, lv, fun v ev => ⟨cv, ?_⟩⟩
        rw [ce, ci] at ev
        rw [ce]
        have mv := md_a u 138 n (u.1 131 (3000 * wn + U)) (by decide)
        rw [← ev] at mv
        have g130 : v.1 130 = y.1 130 := by rw [mv.2.1 130 (by decide) (by decide), mu.2 130 (by decide) (by decide)]
        have g131 : u.1 131 = y.1 131 := mu.2 131 (by decide) (by decide)
        rw [g131] at ev
        rw [g130]
        obtain ⟨j9, ej⟩ : ∃ j, j = i + (-1) := ⟨_, rfl⟩
        have ji : j9.toInt = (n : Int) - 1 := by rw [ej, t_add (by rw [km1]; omega) (by rw [km1]; omega), km1]; omega
        rw [← ej]
        clear ej
        have hl' : (pth T pU.2.1).length = n := by rw [ps, List.length_append, List.length_singleton] at hl; omega
        refine ih v _ j9 pU.2.1 p' (pU.2.2 :: r) ji a2 g1 hl' (by rw [hr, ps, List.append_assoc]; rfl) (mi_tr mu (mi_of mv) rfl rfl) (fun j v9 hj => ?_)
        cases j with
        | zero =>
          have hj : pU.2.2 = v9 := Option.some.inj hj
          rw [Nat.add_zero, ev, si_get, if_pos ⟨rfl, rfl⟩, ← hj]
          exact a3
        | succ j =>
          have hj : r[j]? = some v9 := hj
          have := hu j v9 hj
          rw [ev, si_ne 138 _ (by omega), show n + (j + 1) = n + 1 + j by omega]
          exact this
    have p106 : ∀ b : Int32, (b = 0 → (pth T S).length ≤ 400) → (¬ b = 0 → ¬ (pth T S).length ≤ 400) → MT G (D + 1) z_show 106 [(0, vr 0), (1, vi w), (3, vi s)] [vi b, vr 0] y (ri F) := by
      intro b hb hb2
      refine sg_show_106 _ _ _ (sc_refk b 2 hy (by decide) (fun b0 => ⟨fun _ => ⟨sv, ?_⟩, fun q => absurd rfl q⟩) (fun nb y' m => ⟨fun q => absurd q (by decide), fun _ => no wn w01 ew f0 f1 (fun hg => hb2 nb ?_) y' m⟩))
      · rw [← eN]
        have N4 := hb b0
        obtain ⟨j, ej⟩ : ∃ j, j = N - 1 := ⟨_, rfl⟩
        have ji : j.toInt = ((pth T S).length : Int) - 1 := by rw [ej, t_sub (by rw [k1]; omega) (by rw [k1]; omega), k1, dN]
        rw [← ej]
        exact back N4 (pth T S).length y s j S p9 [] ji es hp9 rfl (List.append_nil _).symm ⟨fun _ _ => rfl, fun _ _ _ => rfl⟩ (fun j v hj => nomatch hj)
      · obtain ⟨wn', s', a1, a2, -, -, -, a6, a7⟩ := hg
        have e1 := wn_eq a1 w01 a2 ew
        rw [e1, ← eT] at a6 a7
        rw [fsF_u hfs a6]; exact a7
    exact ⟨sv, fun c => p106 0 (fun _ => by rw [t_le, k4] at c; omega) (fun z => absurd rfl z), fun c => p106 1 (fun q => absurd q (by decide)) (fun _ z9 => c (t_le.mpr (by rw [k4]; omega)))⟩
  have p63 : ∀ wn : Nat, (wn = 0 ∨ wn = 1) → w = Int32.ofNat wn → vp_in w 2 → 0 ≤ f.toInt → f.toInt < 11 → ∀ s : Int32, (s = -1 → ¬ shG C Tw z w f) → (¬ s = -1 → ¬ y.1 119 wn = 0 ∧ ∃ S : Nat, s.toInt = (S : Nat) ∧ fsF C wn (Tw wn) f.toInt.toNat S) → MT G (D + 1) z_show 63 [(0, vr 0), (1, vi w)] [vi s] y (ri F) := fun wn w01 ew wv f0 f1 s hs hs2 => sg_show_63 _ _ ⟨fun ne => p75 wn w01 ew wv f0 f1 s 0 (fun _ => hs2 ne) (fun z => absurd rfl z), fun e9 => p75 wn w01 ew wv f0 f1 s 1 (fun q => absurd q (by decide)) (fun _ => hs e9)⟩
  have p30 : ∀ b : Int32, (b = 0 → (vp_in w 2 ∧ (w = 0 ∨ w = 1)) ∧ 0 ≤ f.toInt ∧ f.toInt < 11) → (¬ b = 0 → ¬ ((w = 0 ∨ w = 1) ∧ 0 ≤ f.toInt ∧ f.toInt < 11)) → MT G (D + 1) z_show 30 [(0, vr 0), (1, vi w), (2, vi f)] [vi b, vr 0] y (ri F) := by
    intro b hb hb2
    refine sg_show_30 _ _ _ (sc_refk b 1 hy (by decide) (fun b0 => ⟨fun _ => ?_, fun q => absurd rfl q⟩) (fun nb y' m => ⟨fun q => absurd q (by decide), fun _ => ri_i (h01 (hb2 nb) y' m)⟩))
    obtain ⟨⟨wv, hw⟩, f0, f1⟩ := hb b0
    obtain ⟨wn, w01, ew, ewn⟩ := w_nat hw
    obtain ⟨fv, fe⟩ := t11 wv f0 f1
    rw [ewn]
    refine ⟨wv, fun t0 => p63 wn w01 ew wv f0 f1 _ (fun _ hg => ?_) (fun z => absurd rfl z), fun tr => ⟨fv, p63 wn w01 ew wv f0 f1 _ (fun e1 hg => ?_) (fun ne => ⟨tr, ?_⟩)⟩⟩
    · obtain ⟨wn', s', a1, a2, -, -, a5, -⟩ := hg
      rw [wn_eq a1 w01 a2 ew, ← g119] at a5
      exact a5 t0
    · rw [fe, ewn] at e1
      obtain ⟨wn', s', a1, a2, -, -, -, ⟨p9, c1, c2, -⟩, -⟩ := hg
      have e2 := wn_eq a1 w01 a2 ew
      rw [e2] at c1 c2
      have ty : TYc C wn y (Tw wn) := TYc_mi hy.1 rfl (hT wn w01 (by rw [← g119]; exact tr)).1
      have cf := t_cl f
      rcases ty.2.2.1 f.toInt.toNat (by omega) with ⟨-, g2⟩ | ⟨s9, p8, -, g2, -⟩
      · exact g2 s' p9 (gt_lt c1) c1 c2
      · have g2 : (y.1 126 (11 * wn + f.toNatClampNeg)).toInt = (s9 : Nat) := g2
        rw [e1, km1] at g2; omega
    · rw [fe, ewn] at ne ⊢
      have ty : TYc C wn y (Tw wn) := TYc_mi hy.1 rfl (hT wn w01 (by rw [← g119]; exact tr)).1
      rcases ty.2.2.1 f.toInt.toNat (by omega) with ⟨g1, -⟩ | ⟨s9, p8, g1, g2, g3, g4, g5⟩
      · exact absurd g1 ne
      · exact ⟨s9, g2, p8, g3, g4, g5⟩
  refine sp_in _ _ _ ⟨fun c1 => p30 1 (fun q => absurd q (by decide)) (fun _ hg => ?_), fun c1 => sp_in _ _ _ ⟨fun c2 => p30 0 (fun _ => ⟨w_in (bi_ne.mp c1), f_in (bi_ne.mp c2)⟩) (fun z => absurd rfl z), fun c2 => p30 1 (fun q => absurd q (by decide)) (fun _ hg => ?_)⟩⟩
  · refine bi_eq.mp c1 ?_
    rcases hg.1 with e9 | e9 <;> rw [e9]
    · exact ⟨by decide, by decide⟩
    · exact ⟨by decide, by decide⟩
  · refine bi_eq.mp c2 ⟨t_le.mpr (by rw [k0]; exact hg.2.1), t_le.mpr ?_⟩
    have k10 : (10 : Int32).toInt = 10 := rfl
    have := hg.2.2
    rw [k10]; omega
end TSW
end
section
/-! the model: attempt() -/
section TAT
variable {G : mG} {d D : Nat} {x z a : gd} {F : Int32 → gd → Prop} {Fv : gd → Prop} {C : gCo} {nl wr : Nat}
theorem sc_attempt (q : MI z) (gc : GC C) (hK : ¬ z.1 0 66 = 0 → MK z C ∧ NCq C ∧ LkN C nl ∧ nl ≤ 6 ∧ C.2.2.1.length ≤ 24 ∧ (z.1 0 26).toInt = (C.2.2.2.1.length : Nat) ∧ (z.1 0 27).toInt = (C.2.2.2.2.length : Nat)) (hH : ¬ z.1 0 67 = 0 → HistC C wr z) (w l : Int32) (hD : 8 ≤ D) (h01 : z.1 0 66 = 0 → ∀ z', rfK 1 z z' → F 0 z') (h02 : ¬ z.1 0 66 = 0 → ¬ ((w = 0 ∨ w = 1) ∧ 1 ≤ l.toInt ∧ l.toInt ≤ 3000) → ∀ z', rfK 2 z z' → F 0 z') (h1 : ∀ (wn lim : Nat) z', (wn = 0 ∨ wn = 1) → w = Int32.ofNat wn → l.toInt = (lim : Nat) → 1 ≤ lim → lim ≤ 3000 → ¬ z.1 0 66 = 0 → PM z z' → z'.1 0 0 = 0 → (z'.1 0 67 = z.1 0 67 ∧ z'.1 0 94 = z.1 0 94 ∧ z'.1 96 = z.1 96 ∧ (¬ z.1 0 67 = 0 → HistC C wr z')) → TYc C wn z' (tryM C wn lim) → ¬ z'.1 119 wn = 0 → (∀ w', ¬ w' = wn → z'.1 119 w' = z.1 119 w') → ow wn z z' → F (z'.1 120 w.toNatClampNeg) z') : MT G D z_attempt 0 [(0, vr 0), (1, vi w), (2, vi l)] [] z (ri F) := by
  obtain ⟨D, rfl⟩ : ∃ D', D = D' + 1 := ⟨D - 1, by omega⟩
  have k0 : (0 : Int32).toInt = 0 := rfl
  have k1 : (1 : Int32).toInt = 1 := rfl
  have k3 : (3000 : Int32).toInt = 3000 := rfl
  have z0' : (0 : Int32).toNatClampNeg = 0 := rfl
  refine sg_attempt_0 _ _ (fun y e => ?_)
  have hy := z0_s e
  have b1n : ¬ vp_nar .boolean 1 = 0 := by decide
  have y66 : y.1 0 66 = z.1 0 66 := hy.1.1 66 (by decide)
  have y67 : y.1 0 67 = z.1 0 67 := hy.1.1 67 (by decide)
  have hHy : ¬ y.1 0 67 = 0 → HistC C wr y := fun h9 => HistC_0 hy.1 (hH (by rw [← y67]; exact h9))
  have qy := (MI_0 hy.1 q).1
  have y2 : y.1 0 2 = z.1 0 2 := hy.1.1 2 (by decide)
  have p51 : ¬ y.1 0 66 = 0 → ∀ b : Int32, (b = 0 → (vp_in w 2 ∧ (w = 0 ∨ w = 1)) ∧ 1 ≤ l.toInt ∧ l.toInt ≤ 3000) → (¬ b = 0 → ¬ ((w = 0 ∨ w = 1) ∧ 1 ≤ l.toInt ∧ l.toInt ≤ 3000)) → MT G (D + 1) z_attempt 51 [(0, vr 0), (1, vi w), (2, vi l)] [vi b, vr 0] y (ri F) := by
    intro hc b hb hb2
    refine sg_attempt_51 _ _ _ (sc_refk b 2 hy (by decide) (fun b0 => ⟨fun _ => ?_, fun q => absurd rfl q⟩) (fun nb y' m => ⟨fun q => absurd q (by decide), fun _ => ri_i (h02 (by rw [← y66]; exact hc) (hb2 nb) y' m)⟩))
    obtain ⟨⟨wv, w01⟩, l1, l3⟩ := hb b0
    obtain ⟨wn, w01n, ew, ewn⟩ := w_nat w01
    obtain ⟨lim, elm⟩ : ∃ lim : Nat, l.toInt = lim := ⟨l.toInt.toNat, by omega⟩
    have hcz : ¬ z.1 0 66 = 0 := by rw [← y66]; exact hc
    obtain ⟨hKz, hq2, hLk, n6, l24, l26, l27⟩ := hK hcz
    have h1 := fun z' => h1 wn lim z' w01n ew elm (by omega) (by omega) hcz
    obtain ⟨W, eW⟩ : ∃ W, W = w.toNatClampNeg := ⟨_, rfl⟩
    have W2 : W < 2 := by rw [eW]; exact vp_lt wv
    have eWn : W = wn := by rw [eW]; exact ewn
    have cp := qy.2.1 hc
    -- the trying itself; u: behind the state kept
    have p81 : ∀ u : gd, mi [136] [136] y u → (¬ y.1 0 67 = 0 → ∀ i : Nat, i < 222 → u.1 136 i = pv y i) → MT G (D + 1) z_attempt 81 [(0, vr 0), (1, vi w), (2, vi l), (3, vi (y.1 0 68))] [] u (ri F) := by
      intro u mu ru
      refine sg_attempt_81 _ _ _ (fun u1 e1 => ?_)
      have m1 := md_f u 68 w
      rw [← e1] at m1
      have h168 : u1.1 0 68 = w := by rw [e1, si_get, if_pos ⟨rfl, rfl⟩]
      have myu1 : mi [68, 136] [136] y u1 := mi_tr mu (mi_of m1) rfl rfl
      refine sp_tryAll3 gc hq2 hLk n6 l24 w01n w l ew wv (CP_mi myu1 rfl rfl cp) (MK_mi myu1 rfl rfl (MK_mi hy.1 rfl rfl hKz)) (by rw [myu1.1 26 (by decide), hy.1.1 26 (by decide)]; exact l26) (by rw [myu1.1 27 (by decide), hy.1.1 27 (by decide)]; exact l27) h168 elm l1 l3 (by omega) (fun A v hM ti tj => ⟨wv, fun v4 e4 v5 e5 => ?_⟩)
      rw [← eW] at ti tj e4
      obtain ⟨M, eM⟩ : ∃ M, M = (tryM C wn lim).1.length := ⟨_, rfl⟩
      have tyc0 : TYc C wn v (tryM C wn lim) := by rw [eWn] at ti tj; exact TYc_of hM ti tj
      rw [← eM] at hM ti
      have m4 := md_a v 119 W (vp_nar .boolean 1) (by decide)
      rw [← e4] at m4
      have m5 := md_f v4 68 (y.1 0 68)
      rw [← e5] at m5
      have h5 : v5.1 0 68 = y.1 0 68 := by rw [e5, si_get, if_pos ⟨rfl, rfl⟩]
      have mv5 : mi [68] [119] v v5 := mi_tr (mi_of m4) (mi_of m5) rfl rfl
      have my5 : mi (68 :: tL) (119 :: 136 :: tA') y v5 := mi_tr (mi_tr (L3 := 68 :: tL) (A3 := 136 :: tA') myu1 ti.1 rfl rfl) mv5 rfl rfl
      have pr5 : prE y v5 := prE_mi (prE_rf y) my5 rfl rfl
      have tyW : TY v5 W := TY_mi mv5 rfl rfl (TY_TI hM ti)
      have tyc5 : TYc C wn v5 (tryM C wn lim) := TYc_mi mv5 rfl tyc0
      have e119w : ¬ v5.1 119 wn = 0 := by rw [m5.2.1 119 (by decide) (by decide), e4, ← eWn, si_get, if_pos ⟨rfl, rfl⟩]; exact b1n
      have g119 : y.1 119 = z.1 119 := hy.1.2 119 (by decide) (by simp)
      have v0 : v5.1 0 0 = 0 := by rw [my5.1 0 (by decide)]; exact hy.2
      have owz : ow wn z y := ow_mi hy.1 rfl
      have ow5 : ow W y v5 := ow_tr (ow_tr (ow_mi myu1 rfl) ti.2.1) (ow_mi mv5 rfl)
      have e119 : ∀ w' : Nat, ¬ w' = W → v5.1 119 w' = y.1 119 w' := fun w' hw' => by
        rw [m5.2.1 119 (by decide) (by decide), e4, si_ne 119 w' hw', ti.1.2 119 (by decide) (by decide), myu1.2 119 (by decide) (by decide)]
      have tys : ∀ w' : Nat, w' < 2 → ¬ v5.1 119 w' = 0 → ¬ v5.1 0 66 = 0 ∧ TY v5 w' := by
        intro w' hw' hn
        refine ⟨by rw [my5.1 66 (by decide)]; exact hc, ?_⟩
        by_cases q9 : w' = W
        · rw [q9]; exact tyW
        · rw [e119 w' q9] at hn
          exact TY_ow hw' q9 ow5 pr5 (qy.2.2.2 w' hw' hn).2
      have g5 : G0 v5 := G0_mi my5 rfl rfl qy.1
      have cp5 : CP v5 := CP_mi my5 rfl rfl cp
      have o119 : ∀ w', ¬ w' = wn → v5.1 119 w' = z.1 119 w' := fun w' hw' => by rw [← g119]; exact e119 w' (by rw [eWn]; exact hw')
      have owy : ow wn z v5 := ow_tr owz (by rw [← eWn]; exact ow5)
      refine ⟨fun n67 => ⟨wv, ri_i (h1 v5 (PM_0 hy.1 ⟨⟨g5, fun _ => cp5, fun q9 => absurd n67 q9, tys⟩, my5.1 2 (by decide), fun k hk => my5.1 k (all_no (M := mfL) rfl k hk), fun c hc => my5.2 c (mfA_0 c hc) (all_no (M := mfA) rfl c hc)⟩) v0 ⟨by rw [my5.1 67 (by decide)]; exact y67, by rw [my5.1 94 (by decide)]; exact hy.1.1 94 (by decide), by rw [my5.2 96 (by decide) (by decide)]; exact hy.1.2 96 (by decide) (by simp), fun h9 => absurd (show z.1 0 67 = 0 by rw [← y67, ← my5.1 67 (by decide)]; exact n67) h9⟩ tyc5 e119w o119 owy)⟩, fun h67 => ?_⟩
      rw [my5.1 67 (by decide)] at h67
      obtain ⟨s, n, q1, q2, q3, q4, q5, q6, q7⟩ := hHy h67
      have av := (q2 n (Nat.le_refl _)).1
      have el : eqS (Sl (s n)) (s n) y := eqS_w (Sl_Sm _) q4
      have r136 : ∀ i : Nat, i < 222 → v5.1 136 (0 + i) = pv (s n) i := fun i hi => by
        rw [Nat.zero_add, m5.2.1 136 (by decide) (by decide), m4.2.1 136 (by decide) (by decide), ti.1.2 136 (by decide) (by decide), m1.2.1 136 (by decide) (by decide), ru h67 i hi]
        exact pv_eq el hi
      refine sp_unpack (Or.inr rfl) mk_136 ml_136 0 (by decide) (by decide) (by decide) (fun v8 m8 r8 => ?_)
      rw [z0'] at r8
      have e8 : eqS (Sl (s n)) (s n) v8 := by
        refine un_eq ?_ ?_ (fun t ht => (av.1.2 t ht).2.2.2.1) (fun i hi => by rw [r8 i hi, r136 i hi])
        · exact prE_tr (prE_eqS el) (prE_mi pr5 (mi_of m8) rfl rfl)
        · rw [m8.1 68 (by decide), h5, cF el (by decide)]
      refine MT_up (by omega) (MTv_mono (av.2.2.2.2.2 G v8 e8) (fun v9 g9 => ⟨wv, ri_i ?_⟩))
      have m59 : mi [82, 84, 88, 89, 90, 91, 92, 93] [70, 71, 72, 73, 74, 75, 76, 77, 78, 79, 80, 81, 82, 84, 86, 87, 88] v5 v9 := mi_tr (mi_of m8) (mi_of g9.2) rfl rfl
      have my9 : mi (68 :: tL) (119 :: 136 :: tA') y v9 := mi_tr my5 m59 rfl rfl
      have h9 : v9.1 0 68 = y.1 0 68 := by rw [m59.1 68 (by decide)]; exact h5
      have c9 : c96 v9 = c96 y := by unfold c96; rw [my9.2 96 (by decide) (by decide)]
      have histc : HistC C wr v9 := ⟨s, n, by rw [my9.1 94 (by decide)]; exact q1, by rw [c9]; exact q2, by rw [c9, my9.2 96 (by decide) (by decide)]; exact q3, g9.1, by rw [h9]; exact St_pr (prE_mi (prE_rf y) my9 rfl rfl) q5, by rw [h9]; exact q6, HA_mi my9 rfl rfl q7⟩
      have hist : Hist v9 := HistC_H histc
      refine h1 v9 (PM_0 hy.1 ⟨⟨G0_mi my9 rfl rfl qy.1, fun _ => CP_mi my9 rfl rfl cp, fun _ => ⟨by rw [my9.1 66 (by decide)]; exact hc, hist⟩, fun w' hw' hn => ?_⟩, my9.1 2 (by decide), fun k hk => my9.1 k (all_no (M := mfL) rfl k hk), fun c hc => my9.2 c (mfA_0 c hc) (all_no (M := mfA) rfl c hc)⟩) (by rw [m59.1 0 (by decide)]; exact v0) ⟨by rw [my9.1 67 (by decide)]; exact y67, by rw [my9.1 94 (by decide)]; exact hy.1.1 94 (by decide), by rw [my9.2 96 (by decide) (by decide)]; exact hy.1.2 96 (by decide) (by simp), fun _ => histc⟩ (TYc_mi m59 rfl tyc5) (by rw [m59.2 119 (by decide) (by decide)]; exact e119w) (fun w' hw' => by rw [m59.2 119 (by decide) (by decide)]; exact o119 w' hw') (ow_tr owy (ow_mi m59 rfl))
      rw [m59.2 119 (by decide) (by decide)] at hn
      exact ⟨by rw [my9.1 66 (by decide)]; exact hc, TY_mi m59 rfl rfl (tys w' hw' hn).2⟩
    refine ⟨fun n67 => p81 y ⟨fun _ _ => rfl, fun _ _ _ => rfl⟩ (fun q => absurd n67 q), fun h67 => ?_⟩
    obtain ⟨s, n, q1, q2, q3, q4, q5, q6, q7⟩ := hHy h67
    refine sp_pack (Or.inr rfl) mk_136 ml_136 0 (by decide) (by decide) (by decide) (fun t ht => by rw [cA q4 (c := 80) (n := 6) (by decide) ht]; exact ((q2 n (Nat.le_refl _)).1.1.2 t ht).2.2.2.1) (fun u mu _ ru _ => p81 u (mi_of mu) (fun _ i hi => ?_))
    have := ru i hi
    rw [z0', Nat.zero_add] at this
    exact this
  have p18 : ∀ b : Int32, (b = 0 → ¬ y.1 0 66 = 0) → (¬ b = 0 → y.1 0 66 = 0) → MT G (D + 1) z_attempt 18 [(0, vr 0), (1, vi w), (2, vi l)] [vi b, vr 0] y (ri F) := by
    intro b hb hb9
    refine sg_attempt_18 _ _ _ (sc_refk b 1 hy (by decide) (fun b0 => ⟨fun q => absurd rfl q, fun _ => sp_in _ _ _ ⟨fun c1 => p51 (hb b0) 1 (fun q => absurd q (by decide)) (fun _ z9 => ?_), fun c1 => sp_in _ _ _ ⟨fun c2 => p51 (hb b0) 0 (fun _ => ⟨w_in (bi_ne.mp c1), ?_⟩) (fun z9 => absurd rfl z9), fun c2 => p51 (hb b0) 1 (fun q => absurd q (by decide)) (fun _ z9 => ?_)⟩⟩⟩) (fun nb y' m => ⟨fun _ => ri_i (h01 (by rw [← y66]; exact hb9 nb) y' m), fun q => absurd q (by decide)⟩))
    · refine bi_eq.mp c1 ?_
      rcases z9.1 with e9 | e9 <;> rw [e9]
      · exact ⟨by decide, by decide⟩
      · exact ⟨by decide, by decide⟩
    rotate_left
    · exact bi_eq.mp c2 ⟨t_le.mpr (by rw [k1]; exact z9.2.1), t_le.mpr (by rw [k3]; exact z9.2.2)⟩
    obtain ⟨a1, a2⟩ := bi_ne.mp c2
    rw [t_le, k1] at a1
    rw [t_le, k3] at a2
    exact ⟨a1, a2⟩
  exact ⟨fun c => p18 0 (fun _ => c) (fun z9 => absurd rfl z9), fun c => p18 1 (fun q => absurd q (by decide)) (fun _ => c)⟩
end TAT
end
section
/-! the model: what calls that only look leave -/
def rdM (C : gCo) (wr : Nat) (z z' : gd) : Prop := PM z z' ∧ (z'.1 0 67 = z.1 0 67 ∧ z'.1 0 94 = z.1 0 94 ∧ z'.1 96 = z.1 96) ∧ z'.1 119 = z.1 119 ∧ (HistC C wr z → HistC C wr z') ∧ ∀ w T, TYc C w z T → TYc C w z' T
section RDM
variable {C : gCo} {wr : Nat} {z y u : gd}
theorem rd_mi {L A : List Nat} (m : mi L A z y) (hL : stL.all (fun k => !L.elem k) = true) (hA : stA.all (fun k => !A.elem k) = true) (q : MI z) : rdM C wr z y := ⟨PM_mi m hL hA q, ⟨m.1 67 (all_no hL 67 (by decide)), m.1 94 (all_no hL 94 (by decide)), m.2 96 (by decide) (all_no hA 96 (by decide))⟩, m.2 119 (by decide) (all_no hA 119 (by decide)), fun h => HistC_mi m (all_sub hL rfl) (all_sub hA rfl) h, fun w T h => TYc_mi m (all_sub hA rfl) h⟩
theorem rd_0 (m : mi [0] [] z y) (q : MI z) : rdM C wr z y := rd_mi m rfl rfl q
theorem rd_o {L A : List Nat} (m : mi L A z y) (hL : stL.all (fun k => !L.elem k) = true) (hA : [2, 6, 7, 8, 36, 37, 38, 51, 52, 54, 55, 56, 57, 58, 59, 60, 61, 62, 64, 65, 66, 70, 71, 72, 73, 74, 75, 76, 77, 78, 79, 80, 81, 82, 86, 87, 88, 96, 98, 99, 100, 103, 106, 107, 119, 120, 123, 126, 130, 131, 132].all (fun k => !A.elem k) = true) (o : oA y) (q : MI z) : rdM C wr z y := ⟨MI_o m hL hA o q, ⟨m.1 67 (all_no hL 67 (by decide)), m.1 94 (all_no hL 94 (by decide)), m.2 96 (by decide) (all_no hA 96 (by decide))⟩, m.2 119 (by decide) (all_no hA 119 (by decide)), fun h => HistC_mi m (all_sub hL rfl) (all_sub hA rfl) h, fun w T h => TYc_mi m (all_sub hA rfl) h⟩
theorem rd_tr (m : mi [0] [] z y) (p : rdM C wr y u) : rdM C wr z u := by
  obtain ⟨p1, ⟨p2, p3, p4⟩, p5, p6, p7⟩ := p
  refine ⟨PM_0 m p1, ⟨?_, ?_, ?_⟩, ?_, fun h => p6 (HistC_0 m h), fun w T h => p7 w T (TYc_mi m rfl h)⟩
  · rw [p2, m.1 67 (by decide)]
  · rw [p3, m.1 94 (by decide)]
  · rw [p4, m.2 96 (by decide) (by simp)]
  · rw [p5, m.2 119 (by decide) (by simp)]
end RDM
section RDX
variable {G : mG} {d D : Nat} {x z a : gd} {F : Int32 → gd → Prop} {Fv : gd → Prop} {C : gCo} {wr : Nat}
theorem sr_fault2 (q : MI z) (w : Int32) (h : ∀ r z', rdM C wr z z' → F r z') : MT G (D + 1) z_fault_ 0 [(0, vr 0), (1, vi w)] [] z (ri F) := by
  refine sg_fault__0 _ (fun y e => ?_)
  have hy := z0_s e
  have p20 : ∀ b : Int32, MT G (D + 1) z_fault_ 20 [(0, vr 0), (1, vi w)] [vi b, vr 0] y (ri F) := fun b => sg_fault__20 _ _ (sp_ref b 1 hy (by decide) (fun _ => ⟨fun _ => ⟨fun _ => ri_i (h _ y (rd_0 hy.1 q)), fun _ => ri_i (h _ y (rd_0 hy.1 q))⟩, fun q => absurd rfl q⟩) (fun _ y' m => ⟨fun q => absurd q (by decide), fun _ => ri_i (h _ y' (rd_0 m q))⟩))
  exact sp_in _ _ _ ⟨fun _ => p20 0, fun _ => p20 1⟩
theorem sr_count (q : MI z) (w : Int32) (h : ∀ r z', rdM C wr z z' → ((¬ (0 ≤ w.toInt ∧ w.toInt ≤ 4) → z'.1 0 0 = 1) ∧ ((0 ≤ w.toInt ∧ w.toInt ≤ 4) → z'.1 0 0 = 0 ∧ cntM z w r)) → F r z') : MT G (D + 1) z_count 0 [(0, vr 0), (1, vi w)] [] z (ri F) := by
  have k0 : (0 : Int32).toInt = 0 := rfl
  have k1 : (1 : Int32).toInt = 1 := rfl
  have k2 : (2 : Int32).toInt = 2 := rfl
  have k3 : (3 : Int32).toInt = 3 := rfl
  have k4 : (4 : Int32).toInt = 4 := rfl
  refine sg_count_0 _ (fun y e => ?_)
  have hy := z0_s e
  have f := fun k (hk : ¬ k = 0) => hy.1.1 k (fun z => hk (List.mem_singleton.mp z))
  have ok : (0 ≤ w.toInt ∧ w.toInt ≤ 4) → ∀ r, cntM z w r → ri F (some (vi r)) y := fun hw r hr => ri_i (h _ y (rd_0 hy.1 q) ⟨fun z => absurd hw z, fun _ => ⟨hy.2, hr⟩⟩)
  have p20 : ∀ b : Int32, (b = 0 → 0 ≤ w.toInt ∧ w.toInt ≤ 4) → (¬ b = 0 → ¬ (0 ≤ w.toInt ∧ w.toInt ≤ 4)) → MT G (D + 1) z_count 20 [(0, vr 0), (1, vi w)] [vi b, vr 0] y (ri F) := by
    intro b hb hb2
    refine sg_count_20 _ _ (sp_refuses b 1 hy.2 (by decide) (fun c => ⟨fun _ => ?_, fun q => absurd rfl q⟩) (fun c => ⟨fun q => absurd q (by decide), fun _ => ri_i (h _ _ (rd_0 (mi_tr hy.1 (mi_of (md_f y 0 1)) rfl rfl) q) ⟨fun _ => by rw [si_get, if_pos ⟨rfl, rfl⟩], fun z => absurd z (hb2 c)⟩)⟩))
    have hw := hb c
    rw [f 23 (by decide), f 24 (by decide), f 25 (by decide), f 26 (by decide), f 27 (by decide)]
    refine ⟨fun n0 => ⟨fun n1 => ⟨fun n2 => ⟨fun n3 => ok hw _ ?_, fun e3 => ok hw _ (Or.inr (Or.inr (Or.inr (Or.inl ⟨e3, rfl⟩))))⟩, fun e2 => ok hw _ (Or.inr (Or.inr (Or.inl ⟨e2, rfl⟩)))⟩, fun e1 => ok hw _ (Or.inr (Or.inl ⟨e1, rfl⟩))⟩, fun e0 => ok hw _ (Or.inl ⟨e0, rfl⟩)⟩
    refine Or.inr (Or.inr (Or.inr (Or.inr ⟨?_, rfl⟩)))
    rw [t_eq, k0] at n0
    rw [t_eq, k1] at n1
    rw [t_eq, k2] at n2
    rw [t_eq, k3] at n3
    rw [t_eq, k4]
    omega
  refine sp_in _ _ _ ⟨fun c => p20 0 (fun _ => ?_) (fun z => absurd rfl z), fun c => p20 1 (fun z => absurd z (by decide)) (fun _ z => ?_)⟩
  · obtain ⟨c1, c2⟩ := bi_ne.mp c
    rw [t_le, k0] at c1
    rw [t_le, k4] at c2
    exact ⟨c1, c2⟩
  · refine bi_eq.mp c ⟨t_le.mpr ?_, t_le.mpr ?_⟩
    · rw [k0]; exact z.1
    · rw [k4]; exact z.2
theorem sr_run (q : MI z) (w : Int32) (hD : 4 ≤ D) (h : ∀ r z', rdM C wr z z' → F r z') : MT G D z_run 0 [(0, vr 0), (1, vi w)] [] z (ri F) := by
  obtain ⟨D, rfl⟩ : ∃ D', D = D' + 3 := ⟨D - 3, by omega⟩
  have k0 : (0 : Int32).toInt = 0 := rfl
  have k1 : (1 : Int32).toInt = 1 := rfl
  refine sg_run_0 _ (fun y e => ?_)
  have hy := z0_s e
  have no : ∀ y', mi [0] [] z y' → ri F (some (vi 0)) y' := fun y' m => ri_i (h 0 y' (rd_0 m q))
  have ok : ∀ r, ri F (some (vi r)) y := fun r => ri_i (h r y (rd_0 hy.1 q))
  have qy := (MI_0 hy.1 q).1
  refine sp_noRun hy (fun hr => ⟨fun q => absurd rfl q, fun _ => ?_⟩) (fun y' m => ⟨fun _ => no y' m, fun q => absurd q (by decide)⟩)
  obtain ⟨cp, ⟨a1, a2, a3, a4, a5⟩, rt⟩ := RS_of qy hr
  have b25 := cp.1.2.2.2.2.2.1
  have av : ∀ i : Int32, 0 ≤ i.toInt → i.toInt < (y.1 0 96).toInt → vp_in i 400 ∧ aA y i.toNatClampNeg := fun i i0 i1 => ⟨by rw [vp_in_iff]; omega, a4 _ (by have := cl_i i0; omega)⟩
  have p125 : ∀ (n : Nat) (s b : Int32), 0 ≤ b.toInt → (y.1 0 96).toInt - b.toInt ≤ n → MT G (D + 3) z_run 125 [(0, vr 0), (2, vi s), (3, vi b)] [] y (ri F) := by
    intro n
    induction n with
    | zero =>
      intro s b b0 hn
      exact sg_run_125 _ _ ⟨fun _ => ok _, fun c => absurd (t_le.mpr (by omega)) c⟩
    | succ n ih =>
      intro s b b0 hn
      refine sg_run_125 _ _ ⟨fun _ => ok _, fun c => ?_⟩
      rw [t_le] at c
      have bi' : (b + 1).toInt = b.toInt + 1 := by rw [t_add (by omega) (by omega), k1]
      have p136 : ∀ (m : Nat) (s i : Int32), 0 ≤ i.toInt → b.toInt - i.toInt ≤ m → MT G (D + 3) z_run 136 [(0, vr 0), (2, vi s), (3, vi b), (4, vi i)] [] y (ri F) := by
        intro m
        induction m with
        | zero =>
          intro s i i0 hm
          exact sg_run_136 _ _ _ ⟨fun _ => ih _ _ (by omega) (by omega), fun c => absurd (t_le.mpr (by omega)) c⟩
        | succ m ihm =>
          intro s i i0 hm
          refine sg_run_136 _ _ _ ⟨fun _ => ih _ _ (by omega) (by omega), fun c2 => ?_⟩
          rw [t_le] at c2
          have ii : (i + 1).toInt = i.toInt + 1 := by rw [t_add (by omega) (by omega), k1]
          exact sp_isRace _ _ (av i i0 (by omega)).1 (av b b0 (by omega)).1 (av i i0 (by omega)).2 (fun r => sp_one _ (fun r2 => ihm _ _ (by omega) (by omega)))
      exact p136 b.toInt.toNat s 0 (by decide) (by rw [k0]; omega)
  have p171 : ∀ (n : Nat) (s b : Int32), 0 ≤ b.toInt → (y.1 0 96).toInt - b.toInt ≤ n → MT G (D + 3) z_run 171 [(0, vr 0), (2, vi s), (3, vi b)] [] y (ri F) := by
    intro n
    induction n with
    | zero =>
      intro s b b0 hn
      exact sg_run_171 _ _ ⟨fun _ => ok _, fun c => absurd (t_le.mpr (by omega)) c⟩
    | succ n ih =>
      intro s b b0 hn
      refine sg_run_171 _ _ ⟨fun _ => ok _, fun c => ?_⟩
      rw [t_le] at c
      have bi' : (b + 1).toInt = b.toInt + 1 := by rw [t_add (by omega) (by omega), k1]
      have p205 : ∀ v : Int32, MT G (D + 3) z_run 205 [(0, vr 0), (3, vi b)] [vi v, vi s] y (ri F) := fun v => sg_run_205 _ _ _ (sp_one _ (fun r => ih _ _ (by omega) (by omega)))
      have bv := (av b b0 (by omega)).1
      exact ⟨bv, fun _ => p205 _, fun _ => ⟨bv, fun _ => p205 _, fun _ => p205 _⟩⟩
  have p220 : ∀ (n : Nat) (s b : Int32), 0 ≤ b.toInt → (y.1 0 25).toInt - b.toInt ≤ n → MT G (D + 3) z_run 220 [(0, vr 0), (2, vi s), (3, vi b)] [] y (ri F) := by
    intro n
    induction n with
    | zero =>
      intro s b b0 hn
      exact sg_run_220 _ _ ⟨fun _ => ok _, fun c => absurd (t_le.mpr (by omega)) c⟩
    | succ n ih =>
      intro s b b0 hn
      refine sg_run_220 _ _ ⟨fun _ => ok _, fun c => ?_⟩
      rw [t_le] at c
      have bi' : (b + 1).toInt = b.toInt + 1 := by rw [t_add (by omega) (by omega), k1]
      exact ⟨by rw [vp_in_iff]; omega, ih _ _ (by omega) (by omega)⟩
  have p111 : ∀ v : Int32, MT G (D + 3) z_run 111 [(0, vr 0)] [vi v] y (ri F) := fun v => sg_run_111 _ (sp_one _ (fun r => ok _))
  have p28 : ∀ b : Int32, MT G (D + 3) z_run 28 [(0, vr 0), (1, vi w)] [vi b, vr 0] y (ri F) := fun b => sg_run_28 _ _ (sp_ref b 2 hy (by decide) (fun _ => ⟨fun _ => ⟨fun _ => ok _, fun _ => ok _, fun _ => ok _, fun _ => ⟨fun _ => p111 _, fun _ => p111 _⟩, fun _ => sp_isStuck b25 (fun r => sp_one _ (fun r => ok _)), fun _ => p125 400 0 0 (by decide) (by rw [k0]; omega), fun _ => p171 400 0 0 (by decide) (by rw [k0]; omega), fun _ => p220 6 0 0 (by decide) (by rw [k0]; omega)⟩, fun q => absurd rfl q⟩) (fun _ y' m => ⟨fun q => absurd q (by decide), fun _ => no y' m⟩))
  exact sp_in _ _ _ ⟨fun _ => p28 _, fun _ => p28 _⟩
theorem sr_lock (q : MI z) (l w : Int32) (hD : 3 ≤ D) (h : ∀ r z', rdM C wr z z' → F r z') : MT G D z_lock 0 [(0, vr 0), (1, vi l), (2, vi w)] [] z (ri F) := by
  obtain ⟨D, rfl⟩ : ∃ D', D = D' + 2 := ⟨D - 2, by omega⟩
  have k0 : (0 : Int32).toInt = 0 := rfl
  have k1 : (1 : Int32).toInt = 1 := rfl
  refine sg_lock_0 _ _ (fun y e => ?_)
  have hy := z0_s e
  have no : ∀ y', mi [0] [] z y' → ri F (some (vi 0)) y' := fun y' m => ri_i (h 0 y' (rd_0 m q))
  have ok : ∀ r, ri F (some (vi r)) y := fun r => ri_i (h r y (rd_0 hy.1 q))
  have qy := (MI_0 hy.1 q).1
  refine sp_noRun hy (fun hr => ⟨fun q => absurd rfl q, fun _ => ?_⟩) (fun y' m => ⟨fun _ => no y' m, fun q => absurd q (by decide)⟩)
  obtain ⟨cp, _, rt⟩ := RS_of qy hr
  have g := cp.1
  have g6 := g.2.2.2.2.2.1
  have g24 := g.2.2.2.1
  have p55 : vp_in l 6 → ∀ (n : Nat) (s t : Int32), 0 ≤ t.toInt → (y.1 0 25).toInt - t.toInt ≤ n → MT G (D + 2) z_lock 55 [(0, vr 0), (1, vi l), (2, vi w), (3, vi s), (4, vi t)] [] y (ri F) := by
    intro lv n
    induction n with
    | zero =>
      intro s t t0 hn
      exact sg_lock_55 _ _ _ _ ⟨fun _ => ⟨fun _ => ⟨fun _ => ok _, fun _ => ⟨lv, ok _⟩⟩, fun _ => ⟨lv, ok _⟩⟩, fun c => absurd (t_le.mpr (by omega)) c⟩
    | succ n ih =>
      intro s t t0 hn
      refine sg_lock_55 _ _ _ _ ⟨fun _ => ⟨fun _ => ⟨fun _ => ok _, fun _ => ⟨lv, ok _⟩⟩, fun _ => ⟨lv, ok _⟩⟩, fun c => ?_⟩
      rw [t_le] at c
      have tv : vp_in t 6 := by rw [vp_in_iff]; omega
      have ti : (t + 1).toInt = t.toInt + 1 := by rw [t_add (by omega) (by omega), k1]
      have r := rt _ (vt tv)
      have p97 : ∀ v : Int32, MT G (D + 2) z_lock 97 [(0, vr 0), (1, vi l), (2, vi w), (4, vi t)] [vi v, vi s] y (ri F) := fun v => sg_lock_97 _ _ _ _ _ (sp_one _ (fun r => ih _ _ (by omega) (by omega)))
      exact ⟨tv, fun _ => p97 _, fun _ => ⟨tv, by rw [vp_in_iff]; exact ⟨r.1, r.2.1⟩, fun _ => p97 _, fun _ => p97 _⟩⟩
  have p41 : ∀ b : Int32, (b = 0 → 0 ≤ l.toInt ∧ l.toInt < (y.1 0 24).toInt) → MT G (D + 2) z_lock 41 [(0, vr 0), (1, vi l), (2, vi w)] [vi b, vr 0] y (ri F) := fun b hb => sg_lock_41 _ _ _ (sp_ref b 2 hy (by decide) (fun b0 => ⟨fun _ => p55 (by rw [vp_in_iff]; have := hb b0; omega) 6 0 0 (by decide) (by rw [k0]; omega), fun q => absurd rfl q⟩) (fun _ y' m => ⟨fun q => absurd q (by decide), fun _ => no y' m⟩))
  exact sp_in _ _ _ ⟨fun _ => p41 1 (fun q => absurd q (by decide)), fun c1 => sp_in _ _ _ ⟨fun _ => p41 0 (fun _ => in_lt (bi_ne.mp c1) g.2.2.1), fun _ => p41 1 (fun q => absurd q (by decide))⟩⟩
theorem sr_thread (q : MI z) (t w : Int32) (hD : 3 ≤ D) (h : ∀ r z', rdM C wr z z' → F r z') : MT G D z_thread 0 [(0, vr 0), (1, vi t), (2, vi w)] [] z (ri F) := by
  obtain ⟨D, rfl⟩ : ∃ D', D = D' + 2 := ⟨D - 2, by omega⟩
  refine sg_thread_0 _ _ (fun y e => ?_)
  have hy := z0_s e
  have no : ∀ y', mi [0] [] z y' → ri F (some (vi 0)) y' := fun y' m => ri_i (h 0 y' (rd_0 m q))
  have ok : ∀ r, ri F (some (vi r)) y := fun r => ri_i (h r y (rd_0 hy.1 q))
  have qy := (MI_0 hy.1 q).1
  refine sp_noRun hy (fun hr => ⟨fun q => absurd rfl q, fun _ => ?_⟩) (fun y' m => ⟨fun _ => no y' m, fun q => absurd q (by decide)⟩)
  obtain ⟨cp, _, rt⟩ := RS_of qy hr
  have g := cp.1
  have g6 := g.2.2.2.2.2.1
  have p41 : ∀ b : Int32, (b = 0 → 0 ≤ t.toInt ∧ t.toInt < (y.1 0 25).toInt) → MT G (D + 2) z_thread 41 [(0, vr 0), (1, vi t), (2, vi w)] [vi b, vr 0] y (ri F) := by
    intro b hb
    refine sg_thread_41 _ _ _ (sp_ref b 2 hy (by decide) (fun b0 => ⟨fun _ => ?_, fun q => absurd rfl q⟩) (fun _ y' m => ⟨fun q => absurd q (by decide), fun _ => no y' m⟩))
    have tv : vp_in t 6 := by rw [vp_in_iff]; have := hb b0; omega
    have r := rt _ (vt tv)
    have av : vp_in (y.1 74 t.toNatClampNeg) 1500 := by rw [vp_in_iff]; exact ⟨r.1, r.2.1⟩
    exact ⟨fun _ => ⟨fun _ => ⟨fun _ => ⟨fun _ => ⟨tv, fun _ => ok _, fun _ => ⟨tv, av, ok _⟩⟩, fun _ => sp_knownOf t tv av (fun r => sp_ones _ (fun r => ok _))⟩, fun _ => ⟨tv, ok _⟩⟩, fun _ => ⟨tv, ok _⟩⟩, fun _ => ⟨tv, ok _⟩⟩
  exact sp_in _ _ _ ⟨fun _ => p41 1 (fun q => absurd q (by decide)), fun c1 => sp_in _ _ _ ⟨fun _ => p41 0 (fun _ => in_lt (bi_ne.mp c1) g.2.2.2.2.1), fun _ => p41 1 (fun q => absurd q (by decide))⟩⟩
theorem sr_act (q : MI z) (a w : Int32) (hD : 3 ≤ D) (h : ∀ r z', rdM C wr z z' → F r z') : MT G D z_act 0 [(0, vr 0), (1, vi a), (2, vi w)] [] z (ri F) := by
  obtain ⟨D, rfl⟩ : ∃ D', D = D' + 2 := ⟨D - 2, by omega⟩
  refine sg_act_0 _ _ (fun y e => ?_)
  have hy := z0_s e
  have no : ∀ y', mi [0] [] z y' → ri F (some (vi 0)) y' := fun y' m => ri_i (h 0 y' (rd_0 m q))
  have ok : ∀ r, ri F (some (vi r)) y := fun r => ri_i (h r y (rd_0 hy.1 q))
  have qy := (MI_0 hy.1 q).1
  refine sp_noRun hy (fun hr => ⟨fun q => absurd rfl q, fun _ => ?_⟩) (fun y' m => ⟨fun _ => no y' m, fun q => absurd q (by decide)⟩)
  obtain ⟨cp, ⟨a1, a2, a3, _⟩, rt⟩ := RS_of qy hr
  have p41 : ∀ b : Int32, (b = 0 → 0 ≤ a.toInt ∧ a.toInt < (y.1 0 96).toInt) → MT G (D + 2) z_act 41 [(0, vr 0), (1, vi a), (2, vi w)] [vi b, vr 0] y (ri F) := by
    intro b hb
    refine sg_act_41 _ _ _ (sp_ref b 2 hy (by decide) (fun b0 => ⟨fun _ => ?_, fun q => absurd rfl q⟩) (fun _ y' m => ⟨fun q => absurd q (by decide), fun _ => no y' m⟩))
    have av : vp_in a 400 := by rw [vp_in_iff]; have := hb b0; omega
    exact ⟨fun _ => ⟨fun _ => ⟨fun _ => ⟨fun _ => ⟨av, ok _⟩, fun _ => ⟨av, ok _⟩⟩, fun _ => ⟨av, ok _⟩⟩, fun _ => ⟨av, ok _⟩⟩, fun _ => ⟨av, ok _⟩⟩
  exact sp_in _ _ _ ⟨fun _ => p41 1 (fun q => absurd q (by decide)), fun c1 => sp_in _ _ _ ⟨fun _ => p41 0 (fun _ => in_lt (bi_ne.mp c1) a1), fun _ => p41 1 (fun q => absurd q (by decide))⟩⟩
theorem sr_before (q : MI z) (a b : Int32) (hD : 3 ≤ D) (h : ∀ r z', rdM C wr z z' → F r z') : MT G D z_before 0 [(0, vr 0), (1, vi a), (2, vi b)] [] z (ri F) := by
  obtain ⟨D, rfl⟩ : ∃ D', D = D' + 2 := ⟨D - 2, by omega⟩
  refine sg_before_0 _ _ (fun y e => ?_)
  have hy := z0_s e
  have no : ∀ y', mi [0] [] z y' → ri F (some (vi 0)) y' := fun y' m => ri_i (h 0 y' (rd_0 m q))
  have ok : ∀ r, ri F (some (vi r)) y := fun r => ri_i (h r y (rd_0 hy.1 q))
  have qy := (MI_0 hy.1 q).1
  refine sp_noRun hy (fun hr => ⟨fun q => absurd rfl q, fun _ => ?_⟩) (fun y' m => ⟨fun _ => no y' m, fun q => absurd q (by decide)⟩)
  obtain ⟨cp, ⟨a1, a2, a3, _⟩, rt⟩ := RS_of qy hr
  have p46 : ∀ v : Int32, (v = 0 → (0 ≤ a.toInt ∧ a.toInt < (y.1 0 96).toInt) ∧ 0 ≤ b.toInt ∧ b.toInt < (y.1 0 96).toInt) → MT G (D + 2) z_before 46 [(0, vr 0), (1, vi a), (2, vi b)] [vi v, vr 0] y (ri F) := by
    intro v hv
    refine sg_before_46 _ _ _ (sp_ref v 2 hy (by decide) (fun v0 => ⟨fun q => absurd rfl q, fun _ => ?_⟩) (fun _ y' m => ⟨fun _ => no y' m, fun q => absurd q (by decide)⟩))
    have hh := hv v0
    exact sp_isSooner a b (by rw [vp_in_iff]; omega) (by rw [vp_in_iff]; omega) (fun r => ⟨fun _ => ok _, fun _ => ok _⟩)
  exact sp_in _ _ _ ⟨fun _ => p46 1 (fun q => absurd q (by decide)), fun c1 => sp_in _ _ _ ⟨fun c2 => p46 0 (fun _ => ⟨in_lt (bi_ne.mp c1) a1, in_lt (bi_ne.mp c2) a1⟩), fun _ => p46 1 (fun q => absurd q (by decide))⟩⟩
theorem sr_race (q : MI z) (i w : Int32) (hD : 4 ≤ D) (h : ∀ r z', rdM C wr z z' → F r z') : MT G D z_race 0 [(0, vr 0), (1, vi i), (2, vi w)] [] z (ri F) := by
  obtain ⟨D, rfl⟩ : ∃ D', D = D' + 3 := ⟨D - 3, by omega⟩
  have k0 : (0 : Int32).toInt = 0 := rfl
  have k1 : (1 : Int32).toInt = 1 := rfl
  refine sg_race_0 _ _ (fun y e => ?_)
  have hy := z0_s e
  have no : ∀ y', mi [0] [] z y' → ri F (some (vi 0)) y' := fun y' m => ri_i (h 0 y' (rd_0 m q))
  have ok : ∀ r, ri F (some (vi r)) y := fun r => ri_i (h r y (rd_0 hy.1 q))
  have qy := (MI_0 hy.1 q).1
  refine sp_noRun hy (fun hr => ⟨fun _ => ?_, fun q => absurd rfl q⟩) (fun y' m => ⟨fun q => absurd q (by decide), fun _ => no y' m⟩)
  obtain ⟨cp, ⟨a1, a2, a3, a4, a5⟩, rt⟩ := RS_of qy hr
  have av : ∀ i : Int32, 0 ≤ i.toInt → i.toInt < (y.1 0 96).toInt → vp_in i 400 ∧ aA y i.toNatClampNeg := fun i i0 i1 => ⟨by rw [vp_in_iff]; omega, a4 _ (by have := cl_i i0; omega)⟩
  have p90 : MT G (D + 3) z_race 90 [(0, vr 0)] [] y (ri F) := sg_race_90 (sp_ref 1 2 hy (by decide) (fun q => absurd q (by decide)) (fun _ y' m => no y' m))
  have p19 : ∀ (n : Nat) (s b : Int32), 0 ≤ b.toInt → (y.1 0 96).toInt - b.toInt ≤ n → MT G (D + 3) z_race 19 [(0, vr 0), (1, vi i), (2, vi w), (3, vi s), (4, vi b)] [] y (ri F) := by
    intro n
    induction n with
    | zero =>
      intro s b b0 hn
      exact sg_race_19 _ _ _ _ ⟨fun _ => p90, fun c => absurd (t_le.mpr (by omega)) c⟩
    | succ n ih =>
      intro s b b0 hn
      refine sg_race_19 _ _ _ _ ⟨fun _ => p90, fun c => ?_⟩
      rw [t_le] at c
      have bi' : (b + 1).toInt = b.toInt + 1 := by rw [t_add (by omega) (by omega), k1]
      have p40 : ∀ (m : Nat) (s k : Int32), 0 ≤ k.toInt → b.toInt - k.toInt ≤ m → MT G (D + 3) z_race 40 [(0, vr 0), (1, vi i), (2, vi w), (3, vi s), (4, vi b), (5, vi k)] [] y (ri F) := by
        intro m
        induction m with
        | zero =>
          intro s k k0' hm
          exact sg_race_40 _ _ _ _ _ ⟨fun _ => ih _ _ (by omega) (by omega), fun c => absurd (t_le.mpr (by omega)) c⟩
        | succ m ihm =>
          intro s k k0' hm
          refine sg_race_40 _ _ _ _ _ ⟨fun _ => ih _ _ (by omega) (by omega), fun c2 => ?_⟩
          rw [t_le] at c2
          have ki : (k + 1).toInt = k.toInt + 1 := by rw [t_add (by omega) (by omega), k1]
          exact sp_isRace _ _ (av k k0' (by omega)).1 (av b b0 (by omega)).1 (av k k0' (by omega)).2 (fun r => ⟨fun _ => ihm _ _ (by omega) (by omega), fun _ => ⟨fun _ => ihm _ _ (by omega) (by omega), fun _ => ⟨fun _ => ok _, fun _ => ok _⟩⟩⟩)
      exact sp_in _ _ _ ⟨fun _ => p90, fun _ => p40 b.toInt.toNat s 0 (by decide) (by rw [k0]; omega)⟩
  exact p19 400 0 0 (by decide) (by rw [k0]; omega)
theorem sr_tried (q : MI z) (w v : Int32) (hD : 3 ≤ D) (h : ∀ r z', rdM C wr z z' → F r z') : MT G D z_tried 0 [(0, vr 0), (1, vi w), (2, vi v)] [] z (ri F) := by
  obtain ⟨D, rfl⟩ : ∃ D', D = D' + 1 := ⟨D - 1, by omega⟩
  refine sg_tried_0 _ _ (fun y e => ?_)
  have hy := z0_s e
  have no : ∀ y', mi [0] [] z y' → ri F (some (vi 0)) y' := fun y' m => ri_i (h 0 y' (rd_0 m q))
  have ok : ∀ r, ri F (some (vi r)) y := fun r => ri_i (h r y (rd_0 hy.1 q))
  have p42 : vp_in w 2 → ∀ b : Int32, MT G (D + 1) z_tried 42 [(0, vr 0), (1, vi w), (2, vi v)] [vi b, vr 0] y (ri F) := fun wv b => sg_tried_42 _ _ _ (sp_ref b 2 hy (by decide) (fun _ => ⟨fun q => absurd rfl q, fun _ => ⟨wv, fun _ => ⟨fun _ => ⟨fun _ => ⟨fun _ => ⟨fun _ => ⟨fun _ => ⟨wv, ok _⟩, fun _ => ⟨wv, ok _⟩⟩, fun _ => ⟨wv, ok _⟩⟩, fun _ => ⟨wv, ok _⟩⟩, fun _ => ⟨wv, sp_one _ (fun r => ok r)⟩⟩, fun _ => ⟨wv, ok _⟩⟩, fun _ => ok _⟩⟩) (fun _ y' m => ⟨fun _ => no y' m, fun q => absurd q (by decide)⟩))
  have p20 : ∀ b : Int32, (b = 0 → vp_in w 2) → MT G (D + 1) z_tried 20 [(0, vr 0), (1, vi w), (2, vi v)] [vi b, vr 0] y (ri F) := fun b hb => sg_tried_20 _ _ _ (sp_ref b 1 hy (by decide) (fun b0 => ⟨fun q => absurd rfl q, fun _ => sp_in _ _ _ ⟨fun _ => p42 (hb b0) _, fun _ => p42 (hb b0) _⟩⟩) (fun _ y' m => ⟨fun _ => no y' m, fun q => absurd q (by decide)⟩))
  exact sp_in _ _ _ ⟨fun c => p20 0 (fun _ => (w_in (bi_ne.mp c)).1), fun _ => p20 1 (fun q => absurd q (by decide))⟩
theorem sr_outcome (q : MI z) (w i c : Int32) (hD : 3 ≤ D) (h : ∀ r z', rdM C wr z z' → F r z') : MT G D z_outcome 0 [(0, vr 0), (1, vi w), (2, vi i), (3, vi c)] [] z (ri F) := by
  obtain ⟨D, rfl⟩ : ∃ D', D = D' + 1 := ⟨D - 1, by omega⟩
  refine sg_outcome_0 _ _ _ (fun y e => ?_)
  have hy := z0_s e
  have no : ∀ y', mi [0] [] z y' → ri F (some (vi 0)) y' := fun y' m => ri_i (h 0 y' (rd_0 m q))
  have ok : ∀ r, ri F (some (vi r)) y := fun r => ri_i (h r y (rd_0 hy.1 q))
  have qy := (MI_0 hy.1 q).1
  have p72 : ∀ b : Int32, (b = 0 → vp_in w 2 ∧ (0 ≤ i.toInt ∧ i.toInt < 3000) ∧ 0 ≤ c.toInt ∧ c.toInt < 24) → MT G (D + 1) z_outcome 72 [(0, vr 0), (1, vi w), (2, vi i), (3, vi c)] [vi b, vr 0] y (ri F) := fun b hb => sg_outcome_72 _ _ _ _ (sp_ref b 2 hy (by decide) (fun b0 => ⟨fun _ => ⟨t72 (hb b0).1 (hb b0).2.1.1 (hb b0).2.1.2 (hb b0).2.2.1 (hb b0).2.2.2, ok _⟩, fun q => absurd rfl q⟩) (fun _ y' m => ⟨fun q => absurd q (by decide), fun _ => no y' m⟩))
  have p20 : ∀ b : Int32, (b = 0 → vp_in w 2) → MT G (D + 1) z_outcome 20 [(0, vr 0), (1, vi w), (2, vi i), (3, vi c)] [vi b, vr 0] y (ri F) := by
    intro b hb
    refine sg_outcome_20 _ _ _ _ (sp_ref b 1 hy (by decide) (fun b0 => ⟨fun q => absurd rfl q, fun _ => ?_⟩) (fun _ y' m => ⟨fun _ => no y' m, fun q => absurd q (by decide)⟩))
    have wv := hb b0
    refine ⟨wv, fun _ => p72 1 (fun q => absurd q (by decide)), fun tr => ⟨wv, ?_⟩⟩
    obtain ⟨hc, A, t1, t2, t3, t4, t5, _⟩ := qy.2.2.2 _ (vp_lt wv) tr
    have g := (qy.2.1 hc).1
    refine sp_in _ _ _ ⟨fun _ => p72 1 (fun q => absurd q (by decide)), fun c1 => sp_in _ _ _ ⟨fun c2 => p72 0 (fun _ => ?_), fun _ => p72 1 (fun q => absurd q (by decide))⟩⟩
    have a1 := in_lt (bi_ne.mp c1) t4
    have a2 := in_lt (bi_ne.mp c2) g.1
    have g2 := g.2.1
    exact ⟨wv, ⟨a1.1, by omega⟩, a2.1, by omega⟩
  exact sp_in _ _ _ ⟨fun cc => p20 0 (fun _ => (w_in (bi_ne.mp cc)).1), fun _ => p20 1 (fun q => absurd q (by decide))⟩
theorem sr_common (q : MI z) (w c : Int32) (hD : 3 ≤ D) (h : ∀ r z', rdM C wr z z' → F r z') : MT G D z_common 0 [(0, vr 0), (1, vi w), (2, vi c)] [] z (ri F) := by
  obtain ⟨D, rfl⟩ : ∃ D', D = D' + 1 := ⟨D - 1, by omega⟩
  have k0 : (0 : Int32).toInt = 0 := rfl
  refine sg_common_0 _ _ (fun y e => ?_)
  have hy := z0_s e
  have no : ∀ y', mi [0] [] z y' → ri F (some (vi 0)) y' := fun y' m => ri_i (h 0 y' (rd_0 m q))
  have ok : ∀ r, ri F (some (vi r)) y := fun r => ri_i (h r y (rd_0 hy.1 q))
  have qy := (MI_0 hy.1 q).1
  have p47 : vp_in w 2 → ∀ b : Int32, (b = 0 → (0 : Int32) ≤ c ∧ c ≤ y.1 0 23 - 1) → MT G (D + 1) z_common 47 [(0, vr 0), (1, vi w), (2, vi c)] [vi b, vr 0] y (ri F) := by
    intro wv b hb
    refine sg_common_47 _ _ _ (sp_ref b 2 hy (by decide) (fun b0 => ⟨fun _ => ⟨wv, fun _ => ok _, fun tr => ⟨?_, ok _⟩⟩, fun q => absurd rfl q⟩) (fun _ y' m => ⟨fun q => absurd q (by decide), fun _ => no y' m⟩))
    obtain ⟨hc, _⟩ := qy.2.2.2 _ (vp_lt wv) tr
    have g := (qy.2.1 hc).1
    have a2 := in_lt (hb b0) g.1
    have g2 := g.2.1
    exact (tmul (k := 24) (K := 24) (N := 48) (n := 24) rfl wv a2.1 (by omega) (by omega) (by omega) (by omega)).1
  have p20 : ∀ b : Int32, (b = 0 → vp_in w 2) → MT G (D + 1) z_common 20 [(0, vr 0), (1, vi w), (2, vi c)] [vi b, vr 0] y (ri F) := fun b hb => sg_common_20 _ _ _ (sp_ref b 1 hy (by decide) (fun b0 => ⟨fun q => absurd rfl q, fun _ => sp_in _ _ _ ⟨fun c2 => p47 (hb b0) 0 (fun _ => bi_ne.mp c2), fun _ => p47 (hb b0) 1 (fun q => absurd q (by decide))⟩⟩) (fun _ y' m => ⟨fun _ => no y' m, fun q => absurd q (by decide)⟩))
  exact sp_in _ _ _ ⟨fun cc => p20 0 (fun _ => (w_in (bi_ne.mp cc)).1), fun _ => p20 1 (fun q => absurd q (by decide))⟩
theorem sr_alike (q : MI z) (h : ∀ r z', rdM C wr z z' → F r z') : MT G d z_alike 0 [(0, vr 0)] [] z (ri F) := by
  have k0 : (0 : Int32).toInt = 0 := rfl
  have k1 : (1 : Int32).toInt = 1 := rfl
  have k24 : (24 : Int32).toInt = 24 := rfl
  have k72 : (72000 : Int32).toInt = 72000 := rfl
  have z0' : (0 : Int32).toNatClampNeg = 0 := rfl
  have v0 : vp_in 0 2 := vp_in_iff.mpr (by decide)
  have v1 : vp_in 1 2 := vp_in_iff.mpr (by decide)
  refine sg_alike_0 (fun y e => ?_)
  have hy := z0_s e
  have ok : ∀ r, ri F (some (vi r)) y := fun r => ri_i (h r y (rd_0 hy.1 q))
  have qy := (MI_0 hy.1 q).1
  refine ⟨v0, fun _ => ok _, fun tr => ⟨v1, fun _ => ok _, fun _ => ⟨v0, fun _ => ok _, fun _ => ⟨v1, fun _ => ⟨v0, v1, fun _ => ?_, fun _ => ok _⟩, fun _ => ok _⟩⟩⟩⟩
  obtain ⟨hc, A, t1, t2, t3, t4, t5, _⟩ := qy.2.2.2 _ (vp_lt v0) tr
  obtain ⟨O, eO⟩ : ∃ O, O = y.1 123 (0 : Int32).toNatClampNeg := ⟨_, rfl⟩
  rw [← eO] at t4 t5
  have bO : (24 * O).toInt = 24 * O.toInt := by rw [t_mul (by rw [k24]; omega) (by rw [k24]; omega), k24]
  have loop : ∀ (n : Nat) (i : Int32), 0 ≤ i.toInt → 72000 - i.toInt ≤ n → MT G d z_alike 62 [(0, vr 0), (1, vi i)] [] y (ri F) := by
    intro n
    induction n with
    | zero =>
      intro i i0 hn
      refine sg_alike_62 _ ⟨v0, ?_⟩
      rw [← eO]
      exact ⟨fun _ => ok _, fun c => absurd (t_le.mpr (by omega)) c⟩
    | succ n ih =>
      intro i i0 hn
      refine sg_alike_62 _ ⟨v0, ?_⟩
      rw [← eO]
      refine ⟨fun _ => ok _, fun c => ?_⟩
      rw [t_le, bO] at c
      have ii : (i + 1).toInt = i.toInt + 1 := by rw [t_add (by omega) (by omega), k1]
      exact ⟨by rw [vp_in_iff]; omega, by rw [vp_in_iff, t_add (by omega) (by omega), k72]; omega, fun _ => ih _ (by omega) (by omega), fun _ => ok _⟩
  exact loop 72000 0 (by decide) (by decide)
theorem sr_ring (q : MI z) (w : Int32) (hD : 3 ≤ D) (h : ∀ r z', rdM C wr z z' → F r z') : MT G D z_ring 0 [(0, vr 0), (1, vi w)] [] z (ri F) := by
  obtain ⟨D, rfl⟩ : ∃ D', D = D' + 1 := ⟨D - 1, by omega⟩
  have k0 : (0 : Int32).toInt = 0 := rfl
  have k1 : (1 : Int32).toInt = 1 := rfl
  have k6 : (6 : Int32).toInt = 6 := rfl
  have k36 : (36 : Int32).toInt = 36 := rfl
  refine sg_ring_0 _ (fun y e => ?_)
  have hy := z0_s e
  have no : ∀ y', mi [0] [] z y' → ri F (some (vi 0)) y' := fun y' m => ri_i (h 0 y' (rd_0 m q))
  have qy := (MI_0 hy.1 q).1
  have p20 : ∀ b : Int32, (b = 0 → vp_in w 2) → MT G (D + 1) z_ring 20 [(0, vr 0), (1, vi w)] [vi b, vr 0] y (ri F) := by
    intro b hb
    refine sg_ring_20 _ _ (sp_ref b 1 hy (by decide) (fun b0 => ⟨fun q => absurd rfl q, fun _ => ⟨hb b0, fun tr => ?_, fun _ => no y hy.1⟩⟩) (fun _ y' m => ⟨fun _ => no y' m, fun q => absurd q (by decide)⟩))
    have wv := hb b0
    have wb := vp_in_iff.mp wv
    obtain ⟨hc, _⟩ := qy.2.2.2 _ (vp_lt wv) tr
    have g := (qy.2.1 hc).1
    have g6 := g.2.2.2.1
    have g60 := g.2.2.1
    obtain ⟨N, eN⟩ : ∃ N, N = y.1 0 24 := ⟨_, rfl⟩
    rw [← eN] at g6 g60
    have fin : ∀ (u : gd) (r : Int32), mi [] [139] y u → ri F (some (vi r)) u := fun u r mu => ri_i (h r u (by
      have p := rd_mi (C := C) (wr := wr) mu rfl rfl qy
      exact rd_tr hy.1 p))
    have f24 : ∀ u : gd, mi [] [139] y u → u.1 0 24 = N := fun u mu => by rw [mu.1 24 (by decide), eN]
    have st : ∀ (u u2 : gd) (j : Nat) (v : Int32), mi [] [139] y u → u2 = si u 139 j v → mi [] [139] y u2 := fun u u2 j v mu e2 => by
      have m := md_a u 139 j v (by decide)
      rw [← e2] at m
      exact mi_tr mu (mi_of m) rfl rfl
    have p42 : ∀ (n : Nat) (u : gd) (r l : Int32), mi [] [139] y u → 0 ≤ l.toInt → N.toInt - l.toInt ≤ n → MT G (D + 1) z_ring 42 [(0, vr 0), (1, vi w), (2, vi r), (3, vi l)] [] u (ri F) := by
      intro n
      induction n with
      | zero =>
        intro u r l mu l0 hn
        exact sg_ring_42 _ _ _ ⟨fun _ => fin u r mu, fun c => absurd (t_le.mpr (by rw [f24 u mu]; omega)) c⟩
      | succ n ih =>
        intro u r l mu l0 hn
        refine sg_ring_42 _ _ _ ⟨fun _ => fin u r mu, fun c => ?_⟩
        rw [t_le, f24 u mu] at c
        have lv : vp_in l 6 := by rw [vp_in_iff]; omega
        have li : (l + 1).toInt = l.toInt + 1 := by rw [t_add (by omega) (by omega), k1]
        have p79 : ∀ (m : Nat) (u : gd) (k : Int32), mi [] [139] y u → 1 ≤ k.toInt → N.toInt + 1 - k.toInt ≤ m → MT G (D + 1) z_ring 79 [(0, vr 0), (1, vi w), (2, vi r), (3, vi l), (4, vi k)] [] u (ri F) := by
          have last : ∀ u : gd, mi [] [139] y u → vp_in l 6 ∧ (((u.1 139 l.toNatClampNeg) ≤ (0 : Int32) → MT G (D + 1) z_ring 42 [(0, vr 0), (1, vi w), (2, vi r), (3, vi (l + 1))] [] u (ri F)) ∧ (¬ ((u.1 139 l.toNatClampNeg) ≤ (0 : Int32)) → ((r = (0 : Int32) → vp_in l 6 ∧ MT G (D + 1) z_ring 42 [(0, vr 0), (1, vi w), (2, vi (u.1 139 l.toNatClampNeg)), (3, vi (l + 1))] [] u (ri F)) ∧ (¬ (r = (0 : Int32)) → vp_in l 6 ∧ ((r ≤ (u.1 139 l.toNatClampNeg) → MT G (D + 1) z_ring 42 [(0, vr 0), (1, vi w), (2, vi r), (3, vi (l + 1))] [] u (ri F)) ∧ (¬ (r ≤ (u.1 139 l.toNatClampNeg)) → vp_in l 6 ∧ MT G (D + 1) z_ring 42 [(0, vr 0), (1, vi w), (2, vi (u.1 139 l.toNatClampNeg)), (3, vi (l + 1))] [] u (ri F))))))) := by
            intro u mu
            have nx : ∀ r : Int32, MT G (D + 1) z_ring 42 [(0, vr 0), (1, vi w), (2, vi r), (3, vi (l + 1))] [] u (ri F) := fun r => ih u r (l + 1) mu (by omega) (by omega)
            exact ⟨lv, fun _ => nx _, fun _ => ⟨fun _ => ⟨lv, nx _⟩, fun _ => ⟨lv, fun _ => nx _, fun _ => ⟨lv, nx _⟩⟩⟩⟩
          intro m
          induction m with
          | zero =>
            intro u k mu k1' hm
            exact sg_ring_79 _ _ _ _ ⟨fun _ => last u mu, fun q => absurd (t_lt.mpr (by rw [f24 u mu]; omega)) q⟩
          | succ m ihm =>
            intro u k mu k1' hm
            refine sg_ring_79 _ _ _ _ ⟨fun _ => last u mu, fun q => ?_⟩
            rw [t_lt, f24 u mu] at q
            have ki : (k + 1).toInt = k.toInt + 1 := by rw [t_add (by omega) (by omega), k1]
            have p91 : ∀ (p : Nat) (u : gd) (i : Int32), mi [] [139] y u → 0 ≤ i.toInt → N.toInt - i.toInt ≤ p → MT G (D + 1) z_ring 91 [(0, vr 0), (1, vi w), (2, vi r), (3, vi l), (4, vi k), (5, vi i)] [] u (ri F) := by
              intro p
              induction p with
              | zero =>
                intro u i mu i0 hp
                exact sg_ring_91 _ _ _ _ _ ⟨fun _ => ihm u (k + 1) mu (by omega) (by omega), fun q => absurd (t_le.mpr (by rw [f24 u mu]; omega)) q⟩
              | succ p ihp =>
                intro u i mu i0 hp
                refine sg_ring_91 _ _ _ _ _ ⟨fun _ => ihm u (k + 1) mu (by omega) (by omega), fun q2 => ?_⟩
                rw [t_le, f24 u mu] at q2
                have iv : vp_in i 6 := by rw [vp_in_iff]; omega
                have ii : (i + 1).toInt = i.toInt + 1 := by rw [t_add (by omega) (by omega), k1]
                have p144 : ∀ (s : Nat) (u : gd) (v j : Int32), mi [] [139] y u → 0 ≤ j.toInt → N.toInt - j.toInt ≤ s → MT G (D + 1) z_ring 144 [(0, vr 0), (1, vi w), (2, vi r), (3, vi l), (4, vi k), (5, vi i), (6, vi v), (7, vi j)] [] u (ri F) := by
                  intro s
                  induction s with
                  | zero =>
                    intro u v j mu j0 hs
                    exact sg_ring_144 _ _ _ _ _ _ _ ⟨fun _ => ihp u (i + 1) mu (by omega) (by omega), fun q => absurd (t_le.mpr (by rw [f24 u mu]; omega)) q⟩
                  | succ s ihs =>
                    intro u v j mu j0 hs
                    refine sg_ring_144 _ _ _ _ _ _ _ ⟨fun _ => ihp u (i + 1) mu (by omega) (by omega), fun q3 => ⟨fun _ => ihp u (i + 1) mu (by omega) (by omega), fun _ => ?_⟩⟩
                    rw [t_le, f24 u mu] at q3
                    have jv : vp_in j 6 := by rw [vp_in_iff]; omega
                    have ji : (j + 1).toInt = j.toInt + 1 := by rw [t_add (by omega) (by omega), k1]
                    have a1 : (36 * w).toInt = 36 * w.toInt := by rw [t_mul (by rw [k36]; omega) (by rw [k36]; omega), k36]
                    have a2 : (6 * i).toInt = 6 * i.toInt := by rw [t_mul (by rw [k6]; omega) (by rw [k6]; omega), k6]
                    have a3 : (36 * w + 6 * i).toInt = 36 * w.toInt + 6 * i.toInt := by rw [t_add (by omega) (by omega), a1, a2]
                    refine ⟨by rw [vp_in_iff, t_add (by omega) (by omega), a3]; omega, fun _ => ihs u v (j + 1) mu (by omega) (by omega), fun _ => ⟨jv, fun _ => ihs u v (j + 1) mu (by omega) (by omega), fun _ => ⟨jv, fun u8 e8 => ihs u8 v (j + 1) (st u u8 _ _ mu e8) (by omega) (by omega)⟩⟩⟩
                have go : ∀ v : Int32, MT G (D + 1) z_ring 144 [(0, vr 0), (1, vi w), (2, vi r), (3, vi l), (4, vi k), (5, vi i), (6, vi v), (7, vi 0)] [] u (ri F) := fun v => p144 6 u v 0 mu (by decide) (by rw [k0]; omega)
                exact ⟨fun _ => ⟨iv, fun _ => go _, fun _ => go _⟩, fun _ => ⟨fun _ => go _, fun _ => go _⟩⟩
            exact p91 6 u 0 mu (by decide) (by rw [k0]; omega)
        have p53 : ∀ (m : Nat) (u : gd) (k : Int32), mi [] [139] y u → 0 ≤ k.toInt → N.toInt - k.toInt ≤ m → MT G (D + 1) z_ring 53 [(0, vr 0), (1, vi w), (2, vi r), (3, vi l), (4, vi k)] [] u (ri F) := by
          intro m
          induction m with
          | zero =>
            intro u k mu k0' hm
            exact sg_ring_53 _ _ _ _ ⟨fun _ => p79 6 u 1 mu (by decide) (by rw [k1]; omega), fun q => absurd (t_le.mpr (by rw [f24 u mu]; omega)) q⟩
          | succ m ihm =>
            intro u k mu k0' hm
            refine sg_ring_53 _ _ _ _ ⟨fun _ => p79 6 u 1 mu (by decide) (by rw [k1]; omega), fun q => ?_⟩
            rw [t_le, f24 u mu] at q
            have ki : (k + 1).toInt = k.toInt + 1 := by rw [t_add (by omega) (by omega), k1]
            exact ⟨by rw [vp_in_iff]; omega, fun u3 e3 => ihm u3 (k + 1) (st u u3 _ _ mu e3) (by omega) (by omega)⟩
        exact p53 6 u 0 mu (by decide) (by rw [k0]; omega)
    exact p42 6 y 0 0 ⟨fun _ _ => rfl, fun _ _ _ => rfl⟩ (by decide) (by rw [k0]; omega)
  exact sp_in _ _ _ ⟨fun cc => p20 0 (fun _ => (w_in (bi_ne.mp cc)).1), fun _ => p20 1 (fun q => absurd q (by decide))⟩
theorem sr_linear (q : MI z) (k : Int32) (hD : 5 ≤ D) (h : ∀ r z', rdM C wr z z' → F r z') : MT G D z_linear 0 [(0, vr 0), (1, vi k)] [] z (ri F) := by
  obtain ⟨D, rfl⟩ : ∃ D', D = D' + 2 := ⟨D - 2, by omega⟩
  have k1 : (1 : Int32).toInt = 1 := rfl
  refine sg_linear_0 _ (fun y e => ?_)
  have hy := z0_s e
  have no : ∀ y', mi [0] [] z y' → ri F (some (vi 0)) y' := fun y' m => ri_i (h 0 y' (rd_0 m q))
  have qy := (MI_0 hy.1 q).1
  refine sp_noRun hy (fun hr => ⟨fun q => absurd rfl q, fun _ => ?_⟩) (fun y' m => ⟨fun _ => no y' m, fun q => absurd q (by decide)⟩)
  obtain ⟨hc, s, n, q1, q2, q3, q4, q5, q6, ha⟩ := qy.2.2.1 hr
  have end' : ∀ (r : Int32) (u : gd), mi [107, 116] [109, 110, 111, 112, 113, 114, 115, 116, 118] y u → oA u → ri F (some (vi r)) u := fun r u m o => ri_i (h r u (by
    have p := rd_o (C := C) (wr := wr) m rfl rfl o qy
    exact rd_tr hy.1 p))
  have p57 : ∀ (c : Int32), c.toInt ≤ 400 → ∀ (m : Nat) (u : gd) (i : Int32), mi [107, 116] [109, 110, 111, 112, 113, 114, 115, 116, 118] y u → oA u → 0 ≤ i.toInt → c.toInt + 1 - i.toInt ≤ m → MT G (D + 2) z_linear 57 [(0, vr 0), (1, vi k), (2, vi c), (3, vi i)] [] u (ri F) := by
    intro c c4 m
    induction m with
    | zero =>
      intro u i mu ou i0 hm
      exact sg_linear_57 _ _ _ ⟨fun _ => end' _ u mu ou, fun q => absurd (t_lt.mpr (by omega)) q⟩
    | succ m ih =>
      intro u i mu ou i0 hm
      refine sg_linear_57 _ _ _ ⟨fun _ => end' _ u mu ou, fun q => ?_⟩
      rw [t_lt] at q
      have ii : (i + 1).toInt = i.toInt + 1 := by rw [t_add (by omega) (by omega), k1]
      refine sp_takeCalls (HA_mi mu rfl rfl ha) ou i (fun r v mv ov v0 v1 _ => sp_isLinear k v0 v1 (by omega) (fun r2 w mw => ?_))
      have ow' : oA w := oA_md mw (by decide) ov
      have myw : mi [107, 116] [109, 110, 111, 112, 113, 114, 115, 116, 118] y w := mi_tr (mi_tr (L3 := [107, 116]) (A3 := [109, 110, 111, 112, 113, 114, 115, 116, 118]) mu mv rfl rfl) (mi_of mw) rfl rfl
      exact ⟨fun _ => ih w (i + 1) myw ow' (by omega) (by omega), fun _ => end' _ w myw ow'⟩
  have p27 : ∀ b : Int32, MT G (D + 2) z_linear 27 [(0, vr 0), (1, vi k)] [vi b, vr 0] y (ri F) := by
    intro b
    refine sg_linear_27 _ _ (sp_ref b 2 hy (by decide) (fun _ => ⟨fun _ => ?_, fun q => absurd rfl q⟩) (fun _ y' m => ⟨fun q => absurd q (by decide), fun _ => no y' m⟩))
    refine sp_takeCalls ha qy.1.2.2.2.2.2 1000 (fun r v mv ov v0 v1 r4 => ⟨fun _ => ?_, fun _ => ?_⟩)
    · exact p57 r r4 _ v 1 (mi_w mv (by decide) (by decide)) ov (by decide) (Int.self_le_toNat _)
    · exact end' _ v (mi_w mv (by decide) (by decide)) ov
  exact sp_in _ _ _ ⟨fun _ => p27 0, fun _ => p27 1⟩
end RDX
end
