section
/-! what else a compiled program is like -/
section PCD
variable {x : gd} {C : gCo} {nl : Nat}
theorem so_of (hK : CK x C) (hN : NC C) {s : Nat} {st : gNs} (hs : C.1[s]? = some st) : (s : Int) < ssm x ∧ sop x s = (st.1 : Nat) := by
  have n22 := (hN.1 s st hs).1.1
  obtain ⟨k81, -⟩ := hK.1.2 s st hs
  refine ⟨?_, ?_⟩
  · have := gt_lt hs
    have e : (x.1 80 9).toInt = C.1.length := hK.1.1
    show (s : Int) < (x.1 80 9).toInt
    omega
  · show (x.1 81 s).toInt = _
    rw [k81]
    exact Int32.toInt_ofNat_of_lt (by omega)
/-- locks that there are -/
theorem LkN_of (hC : CO x) (hK : CK x C) (hN : NC C) (en : (x.1 60 9).toInt = (nl : Nat)) : LkN C nl := by
  intro s st hs h5 h8
  obtain ⟨l, so⟩ := so_of hK hN hs
  obtain ⟨k81, -, -, -, k85, -⟩ := hK.1.2 s st hs
  have a := (hC.2.2.2.1 s l).1.2.1 (by omega) (by omega)
  rw [k85 (by omega)] at a
  rw [t_cl]
  omega
theorem NXc_of (hC : CO x) (hK : CK x C) (hN : NC C) (h2 : NX2 C) : NXc C := by
  intro s st hs
  obtain ⟨a1, a2, a3, a4, a5⟩ := h2 s st hs
  refine ⟨a1, a2, a3, a4, a5, fun h4 => ?_⟩
  obtain ⟨l, so⟩ := so_of hK hN hs
  obtain ⟨k81, -, -, -, k85, k86, -⟩ := hK.1.2 s st hs
  have nC : (x.1 60 6).toInt = C.2.2.1.length := hK.2.2.1.1
  have b := (hC.2.2.2.1 s l).1.1 (by omega)
  rw [k85 (by omega)] at b
  refine ⟨by omega, by omega, fun hx => ?_⟩
  rw [k86 h4 hx] at b
  omega
end PCD
end
section
/-! the model: a state's next, before and behind the finding of its choices -/
theorem st_exM {C : gCo} {w i : Nat} {M : gMa} {a : gd} {ch : gCh} (gc : GC C) (w01 : w = 0 ∨ w = 1) (h : AM C w M a) (hch : (chM C w M)[i]? = some ch) : ∃ b a', RI b (Sl b) ∧ wy01 b ∧ MM1 b C (doM C w M ch) ∧ Tr a i b ∧ AM C w (doM C w M ch) a' ∧ fcA b a' ∧ md [84] [86, 87, 88] b a' := by
  obtain ⟨hN, hX, l6⟩ := gc
  obtain ⟨⟨ri, wy, chv, c0, c84, fa⟩, hK, hM, hI, w68, hE⟩ := h
  have hi : (i : Int) < (a.1 0 84).toInt := by have := gt_lt hch; rw [hE.1]; omega
  obtain ⟨_, _, _, ⟨t0, t6⟩, co⟩ := chv i hi
  have tv : vp_in (a.1 86 i) 6 := by rw [vp_in_iff]; exact ⟨t0, t6⟩
  obtain ⟨e86, e87, e88⟩ := hE.2 i ch hch
  have cm := List.mem_of_getElem? hch
  obtain ⟨i1, i2, i3⟩ := ch_in cm
  have hI' := MIv_do hX l6 hI cm
  have ct : (a.1 86 i).toNatClampNeg = ch.1 := by
    rw [e86, t_cl, Int32.toInt_ofNat_of_lt (by omega)]; rfl
  have st : ∃ b, RI b (Sl b) ∧ wy01 b ∧ MK b C ∧ MM1 b C (doM C w M ch) ∧ b.1 0 68 = Int32.ofNat w ∧ Tr a i b := by
    by_cases c : a.1 87 i = -1
    · have g := co.resolve_right (fun z => by rw [c] at z; exact absurd z.1 (by decide))
      have cn : ch.2.1 = none := by
        cases h9 : ch.2.1 with
        | none => rfl
        | some j =>
          have j8 : j < 9 := by
            have := i3 j h9
            have q := (ri.2 ch.1 (by omega)).2.2.2.1
            have := (hM.2.2 ch.1 (by omega)).2.2.2.2.2.2.2.2.1.1
            omega
          rw [h9] at e87
          rw [e87] at c
          have c : Int32.ofNat j = -1 := c
          have : ∀ n, n < 9 → ¬ Int32.ofNat n = -1 := by decide +kernel
          exact absurd c (this j j8)
      have dE : doM C w M ch = acM C w M ch.1 ch.2.2 := by unfold doM; rw [cn]
      obtain ⟨o, b, S', ⟨eo, rb, ss, as', ap, mb⟩, m, q⟩ := ds_doAct3 (d := 0) (wk := ch.2.2) (Fv := fun y S1 => RI y S1 ∧ ssub (Sl a) S1 ∧ acS S1 ∧ acP (srt a (a.1 86 i).toNatClampNeg) y ∧ MM1 y C (acM C w M (a.1 86 i).toNatClampNeg ch.2.2)) (a.1 86 i) (a.1 88 i) tv ri g.2.1 g.2.2 hK hN hX hM (WMw_WM hI.1) w68 w01 (by
        cases h9 : ch.2.2 with
        | none => rw [h9] at e88; exact Or.inl ⟨rfl, e88⟩
        | some k =>
          rw [h9] at e88
          have k6 := (i2 cn).2.2 k h9
          unfold waM at k6
          have := List.mem_range.mp (List.mem_filter.mp k6).1
          exact Or.inr ⟨k, rfl, by omega, e88⟩) (fun y S1 h1 h2 h3 h4 h5 => ⟨h1, h2, h3, h4, h5⟩)
      rw [ct] at mb
      refine ⟨b, RI_Sl rb, by unfold wy01; rw [m.1 68 (by decide)]; exact wy, MK_md m rfl rfl hK, by rw [dE]; exact mb, by rw [m.1 68 (by decide)]; exact w68, fun _ G z e => MT_mono (q G z e) (fun o2 z' w => ?_), fun n => absurd c n⟩
      rw [w.1, eo]
      refine rv_i ⟨eqS_w (Sl_in rb) w.2.1, w.2.2, ?_⟩
      unfold acP
      rw [w.2.1 0 88 (Or.inr as'.1), w.2.1 0 89 (Or.inr as'.2.1)]
      exact ap
    · have g := co.resolve_left (fun z => c z.1)
      obtain ⟨j, hj⟩ : ∃ j, ch.2.1 = some j := by
        cases h9 : ch.2.1 with
        | none => rw [h9] at e87; exact absurd e87 c
        | some j => exact ⟨j, rfl⟩
      rw [hj] at e87
      have e87 : a.1 87 i = Int32.ofNat j := e87
      have dE : doM C w M ch = laM M ch.1 j := by unfold doM; rw [hj]
      have j8 : j < 9 := by
        have := i3 j hj
        have q := (ri.2 ch.1 (by omega)).2.2.2.1
        have := (hM.2.2 ch.1 (by omega)).2.2.2.2.2.2.2.2.1.1
        omega
      have ej : (a.1 87 i).toInt.toNat = j := by rw [e87, Int32.toInt_ofNat_of_lt (by omega)]; rfl
      obtain ⟨o, b, S', ⟨eo, rb, ss, mb, mm⟩, m, q⟩ := ds_doLate3 (d := 4) (C := C) (M := M) (Fv := fun y S1 => RI y S1 ∧ ssub (Sl a) S1 ∧ md [] [70, 80, 81, 82] a y ∧ MM1 y C (laM M (a.1 86 i).toNatClampNeg (a.1 87 i).toInt.toNat)) (a.1 86 i) (a.1 87 i) tv ri g.1 g.2 hM (fun y S1 h1 h2 h3 h4 => ⟨h1, h2, h3, h4⟩)
      rw [ct, ej] at mm
      refine ⟨b, RI_Sl rb, by unfold wy01; rw [m.1 68 (by decide)]; exact wy, MK_md m rfl rfl hK, by rw [dE]; exact mm, by rw [m.1 68 (by decide)]; exact w68, fun n => absurd n c, fun _ G z e => MT_mono (q G z e) (fun o2 z' w => ?_)⟩
      rw [w.1, eo]
      exact rv_i ⟨eqS_w (Sl_in rb) w.2.1, w.2.2⟩
  obtain ⟨b, h1, h2, hKb, hMb, wb, h3⟩ := st
  obtain ⟨a', g1, g2, g3, g4⟩ := fc_exM h1 h2 hKb hN hX hMb wb w01 (fun z t ht => (hI'.1 t ht).2.2.2 z)
  exact ⟨b, a', h1, h2, hMb, h3, ⟨g1, MK_md g3 rfl rfl hKb, MM1_md g3 rfl hMb, hI', by rw [g3.1 68 (by decide)]; exact wb, g4⟩, g2, g3⟩
end
section
/-! the model: a row is kept just where the state is -/
section MKP
variable {y b : gd} {A : Nat → gd} {C : gCo} {M : gMa} {T : gTy} {nl s : Nat}
theorem row_kept (hN : NC C) (l24 : C.2.2.1.length ≤ 24) (l6 : C.2.1.length ≤ 6) (n6 : nl ≤ 6) (hA : ∀ s p, T.1[s]? = some p → MM1 (A s) C p.1 ∧ MCn C nl p.1 ∧ NBm p.1) (hrow : ∀ s, s < T.1.length → ∀ i, i < 222 → y.1 133 (240 * s + i) = pv (A s) i) (hb : MM1 b C M) (mc : MCn C nl M) (nb : NBm M) (l8 : ∀ t, t < 6 → (b.1 80 t).toInt ≤ 8) (hs : s < T.1.length) : (∀ i, i < 222 → y.1 133 (240 * s + i) = pv b i) ↔ ∃ p, T.1[s]? = some p ∧ p.1 = M := by
  have hg := List.getElem?_eq_getElem hs
  obtain ⟨a1, a2, a3⟩ := hA s _ hg
  constructor
  · intro h
    exact ⟨_, hg, (rows_one hN l24 l6 n6 hb a1 mc a2 nb a3 l8 (fun i hi => by rw [← h i hi, hrow s hs i hi])).symm⟩
  · rintro ⟨p, h1, h2⟩ i hi
    rw [hrow s hs i hi]
    rw [hg] at h1
    have e := Option.some.inj h1
    rw [e, h2] at a1
    exact rows_same a1 hb i hi
/-- sought and not found: it is new; found: it is not -/
theorem kept_new (h : ∀ s, s < T.1.length → ((∀ i, i < 222 → y.1 133 (240 * s + i) = pv b i) ↔ ∃ p, T.1[s]? = some p ∧ p.1 = M)) (hn : ∀ s, s < T.1.length → ¬ ∀ i, i < 222 → y.1 133 (240 * s + i) = pv b i) : ¬ ∃ q ∈ T.1, q.1 = M := by
  rintro ⟨q, q1, q2⟩
  obtain ⟨s, hs⟩ := List.mem_iff_getElem?.mp q1
  exact hn s (gt_lt hs) ((h s (gt_lt hs)).mpr ⟨q, hs, q2⟩)
theorem kept_old (h : ∀ s, s < T.1.length → ((∀ i, i < 222 → y.1 133 (240 * s + i) = pv b i) ↔ ∃ p, T.1[s]? = some p ∧ p.1 = M)) (hs : s < T.1.length) (hr : ∀ i, i < 222 → y.1 133 (240 * s + i) = pv b i) : ∃ q ∈ T.1, q.1 = M := by
  obtain ⟨p, h1, h2⟩ := (h s hs).mp hr
  exact ⟨p, List.mem_of_getElem? h1, h2⟩
end MKP
end
