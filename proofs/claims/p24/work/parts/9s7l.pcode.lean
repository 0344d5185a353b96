section
/-! what else a compiled program is like -/
section PCD
variable {x : gd} {C : gCo} {nl : Nat}
theorem so_of (hK : CK x C) (hN : NC C) {s : Nat} {st : gNs} (hs : C.1[s]? = some st) : (s : Int) < ssm x ∧ sop x s = (st.1 : Nat) := by
  have n22 := (hN.1 s st hs).1.1
  obtain ⟨k81, -⟩ := hK.1.2 s st hs
  refine ⟨?_, ?_⟩
  · have := gt_lt hs
    have e : (x.1 80 9).toInt = C.1.length := hK.1.1
    show (s : Int) < (x.1 80 9).toInt
    omega
  · show (x.1 81 s).toInt = _
    rw [k81]
    exact Int32.toInt_ofNat_of_lt (by omega)
/-- locks that there are -/
theorem LkN_of (hC : CO x) (hK : CK x C) (hN : NC C) (en : (x.1 60 9).toInt = (nl : Nat)) : LkN C nl := by
  intro s st hs h5 h8
  obtain ⟨l, so⟩ := so_of hK hN hs
  obtain ⟨k81, -, -, -, k85, -⟩ := hK.1.2 s st hs
  have a := (hC.2.2.2.1 s l).1.2.1 (by omega) (by omega)
  rw [k85 (by omega)] at a
  rw [t_cl]
  omega
theorem NXc_of (hC : CO x) (hK : CK x C) (hN : NC C) (h2 : NX2 C) : NXc C := by
  intro s st hs
  obtain ⟨a1, a2, a3, a4, a5⟩ := h2 s st hs
  refine ⟨a1, a2, a3, a4, a5, fun h4 => ?_⟩
  obtain ⟨l, so⟩ := so_of hK hN hs
  obtain ⟨k81, -, -, -, k85, k86, -⟩ := hK.1.2 s st hs
  have nC : (x.1 60 6).toInt = C.2.2.1.length := hK.2.2.1.1
  have b := (hC.2.2.2.1 s l).1.1 (by omega)
  rw [k85 (by omega)] at b
  refine ⟨by omega, by omega, fun hx => ?_⟩
  rw [k86 h4 hx] at b
  omega
end PCD
end
section
/-! the model: a state's next, before and behind the finding of its choices -/
theorem st_exM {C : gCo} {w i : Nat} {M : gMa} {a : gd} {ch : gCh} (gc : GC C) (w01 : w = 0 ∨ w = 1) (h : AM C w M a) (hch : (chM C w M)[i]? = some ch) : ∃ b a', RI b (Sl b) ∧ wy01 b ∧ MM1 b C (doM C w M ch) ∧ Tr a i b ∧ AM C w (doM C w M ch) a' ∧ fcA b a' ∧ md [84] [86, 87, 88] b a' := by
  obtain ⟨hN, hX, l6⟩ := gc
  obtain ⟨⟨ri, wy, chv, c0, c84, fa⟩, hK, hM, hI, w68, hE⟩ := h
  have hi : (i : Int) < (a.1 0 84).toInt := by have := gt_lt hch; rw [hE.1]; omega
  obtain ⟨_, _, _, ⟨t0, t6⟩, co⟩ := chv i hi
  have tv : vp_in (a.1 86 i) 6 := by rw [vp_in_iff]; exact ⟨t0, t6⟩
  obtain ⟨e86, e87, e88⟩ := hE.2 i ch hch
  have cm := List.mem_of_getElem? hch
  obtain ⟨i1, i2, i3⟩ := ch_in cm
  have hI' := MIv_do hX l6 hI cm
  have ct : (a.1 86 i).toNatClampNeg = ch.1 := by
    rw [e86, t_cl, Int32.toInt_ofNat_of_lt (by omega)]; rfl
  have st : ∃ b, RI b (Sl b) ∧ wy01 b ∧ MK b C ∧ MM1 b C (doM C w M ch) ∧ b.1 0 68 = Int32.ofNat w ∧ Tr a i b := by
    by_cases c : a.1 87 i = -1
    · have g := co.resolve_right (fun z => by rw [c] at z; exact absurd z.1 (by decide))
      have cn : ch.2.1 = none := by
        cases h9 : ch.2.1 with
        | none => rfl
        | some j =>
          have j8 : j < 9 := by
            have := i3 j h9
            have q := (ri.2 ch.1 (by omega)).2.2.2.1
            have := (hM.2.2 ch.1 (by omega)).2.2.2.2.2.2.2.2.1.1
            omega
          rw [h9] at e87
          rw [e87] at c
          have c : Int32.ofNat j = -1 := c
          have : ∀ n, n < 9 → ¬ Int32.ofNat n = -1 := by decide +kernel
          exact absurd c (this j j8)
      have dE : doM C w M ch = acM C w M ch.1 ch.2.2 := by unfold doM; rw [cn]
      obtain ⟨o, b, S', ⟨eo, rb, ss, as', ap, mb⟩, m, q⟩ := ds_doAct3 (d := 0) (wk := ch.2.2) (Fv := fun y S1 => RI y S1 ∧ ssub (Sl a) S1 ∧ acS S1 ∧ acP (srt a (a.1 86 i).toNatClampNeg) y ∧ MM1 y C (acM C w M (a.1 86 i).toNatClampNeg ch.2.2)) (a.1 86 i) (a.1 88 i) tv ri g.2.1 g.2.2 hK hN hX hM (WMw_WM hI.1) w68 w01 (by
        cases h9 : ch.2.2 with
        | none => rw [h9] at e88; exact Or.inl ⟨rfl, e88⟩
        | some k =>
          rw [h9] at e88
          have k6 := (i2 cn).2.2 k h9
          unfold waM at k6
          have := List.mem_range.mp (List.mem_filter.mp k6).1
          exact Or.inr ⟨k, rfl, by omega, e88⟩) (fun y S1 h1 h2 h3 h4 h5 => ⟨h1, h2, h3, h4, h5⟩)
      rw [ct] at mb
      refine ⟨b, RI_Sl rb, by unfold wy01; rw [m.1 68 (by decide)]; exact wy, MK_md m rfl rfl hK, by rw [dE]; exact mb, by rw [m.1 68 (by decide)]; exact w68, fun _ G z e => MT_mono (q G z e) (fun o2 z' w => ?_), fun n => absurd c n⟩
      rw [w.1, eo]
      refine rv_i ⟨eqS_w (Sl_in rb) w.2.1, w.2.2, ?_⟩
      unfold acP
      rw [w.2.1 0 88 (Or.inr as'.1), w.2.1 0 89 (Or.inr as'.2.1)]
      exact ap
    · have g := co.resolve_left (fun z => c z.1)
      obtain ⟨j, hj⟩ : ∃ j, ch.2.1 = some j := by
        cases h9 : ch.2.1 with
        | none => rw [h9] at e87; exact absurd e87 c
        | some j => exact ⟨j, rfl⟩
      rw [hj] at e87
      have e87 : a.1 87 i = Int32.ofNat j := e87
      have dE : doM C w M ch = laM M ch.1 j := by unfold doM; rw [hj]
      have j8 : j < 9 := by
        have := i3 j hj
        have q := (ri.2 ch.1 (by omega)).2.2.2.1
        have := (hM.2.2 ch.1 (by omega)).2.2.2.2.2.2.2.2.1.1
        omega
      have ej : (a.1 87 i).toInt.toNat = j := by rw [e87, Int32.toInt_ofNat_of_lt (by omega)]; rfl
      obtain ⟨o, b, S', ⟨eo, rb, ss, mb, mm⟩, m, q⟩ := ds_doLate3 (d := 4) (C := C) (M := M) (Fv := fun y S1 => RI y S1 ∧ ssub (Sl a) S1 ∧ md [] [70, 80, 81, 82] a y ∧ MM1 y C (laM M (a.1 86 i).toNatClampNeg (a.1 87 i).toInt.toNat)) (a.1 86 i) (a.1 87 i) tv ri g.1 g.2 hM (fun y S1 h1 h2 h3 h4 => ⟨h1, h2, h3, h4⟩)
      rw [ct, ej] at mm
      refine ⟨b, RI_Sl rb, by unfold wy01; rw [m.1 68 (by decide)]; exact wy, MK_md m rfl rfl hK, by rw [dE]; exact mm, by rw [m.1 68 (by decide)]; exact w68, fun n => absurd n c, fun _ G z e => MT_mono (q G z e) (fun o2 z' w => ?_)⟩
      rw [w.1, eo]
      exact rv_i ⟨eqS_w (Sl_in rb) w.2.1, w.2.2⟩
  obtain ⟨b, h1, h2, hKb, hMb, wb, h3⟩ := st
  obtain ⟨a', g1, g2, g3, g4⟩ := fc_exM h1 h2 hKb hN hX hMb wb w01 (fun z t ht => (hI'.1 t ht).2.2.2 z)
  exact ⟨b, a', h1, h2, hMb, h3, ⟨g1, MK_md g3 rfl rfl hKb, MM1_md g3 rfl hMb, hI', by rw [g3.1 68 (by decide)]; exact wb, g4⟩, g2, g3⟩
end
section
/-! the model: a row is kept just where the state is -/
section MKP
variable {y b : gd} {A : Nat → gd} {C : gCo} {M : gMa} {T : gTy} {nl s : Nat}
theorem row_kept (hN : NC C) (l24 : C.2.2.1.length ≤ 24) (l6 : C.2.1.length ≤ 6) (n6 : nl ≤ 6) (hA : ∀ s p, T.1[s]? = some p → MM1 (A s) C p.1 ∧ MCn C nl p.1 ∧ NBm p.1) (hrow : ∀ s, s < T.1.length → ∀ i, i < 222 → y.1 133 (240 * s + i) = pv (A s) i) (hb : MM1 b C M) (mc : MCn C nl M) (nb : NBm M) (l8 : ∀ t, t < 6 → (b.1 80 t).toInt ≤ 8) (hs : s < T.1.length) : (∀ i, i < 222 → y.1 133 (240 * s + i) = pv b i) ↔ ∃ p, T.1[s]? = some p ∧ p.1 = M := by
  have hg := List.getElem?_eq_getElem hs
  obtain ⟨a1, a2, a3⟩ := hA s _ hg
  constructor
  · intro h
    exact ⟨_, hg, (rows_one hN l24 l6 n6 hb a1 mc a2 nb a3 l8 (fun i hi => by rw [← h i hi, hrow s hs i hi])).symm⟩
  · rintro ⟨p, h1, h2⟩ i hi
    rw [hrow s hs i hi]
    rw [hg] at h1
    have e := Option.some.inj h1
    rw [e, h2] at a1
    exact rows_same a1 hb i hi
/-- sought and not found: it is new; found: it is not -/
theorem kept_new (h : ∀ s, s < T.1.length → ((∀ i, i < 222 → y.1 133 (240 * s + i) = pv b i) ↔ ∃ p, T.1[s]? = some p ∧ p.1 = M)) (hn : ∀ s, s < T.1.length → ¬ ∀ i, i < 222 → y.1 133 (240 * s + i) = pv b i) : ¬ ∃ q ∈ T.1, q.1 = M := by
  rintro ⟨q, q1, q2⟩
  obtain ⟨s, hs⟩ := List.mem_iff_getElem?.mp q1
  exact hn s (gt_lt hs) ((h s (gt_lt hs)).mpr ⟨q, hs, q2⟩)
theorem kept_old (h : ∀ s, s < T.1.length → ((∀ i, i < 222 → y.1 133 (240 * s + i) = pv b i) ↔ ∃ p, T.1[s]? = some p ∧ p.1 = M)) (hs : s < T.1.length) (hr : ∀ i, i < 222 → y.1 133 (240 * s + i) = pv b i) : ∃ q ∈ T.1, q.1 = M := by
  obtain ⟨p, h1, h2⟩ := (h s hs).mp hr
  exact ⟨p, List.mem_of_getElem? h1, h2⟩
end MKP
end
section
/-! the model: a trying begins with nothing told -/
/-- the other way's are left, also whether it is partly -/
def LW3 (z y : gd) (W : Nat) : Prop := LW2 z y W ∧ ∀ v, v < 2 → ¬ v = W → y.1 121 v = z.1 121 v
section MFG
variable {G : mG} {d : Nat} {z y y' u : gd} {Fv : gd → Prop} {W nl : Nat}
theorem LW2_tr (a : LW2 z y W) (b : LW2 y y' W) : LW2 z y' W := fun v h1 h2 => by
  obtain ⟨a1, a2, a3, a4, a5⟩ := a v h1 h2
  obtain ⟨b1, b2, b3, b4, b5⟩ := b v h1 h2
  exact ⟨b1.trans a1, b2.trans a2, b3.trans a3, fun c hc => (b4 c hc).trans (a4 c hc), fun k hk => (b5 k hk).trans (a5 k hk)⟩
theorem LW3_tr (a : LW3 z y W) (b : LW3 y y' W) : LW3 z y' W := ⟨LW2_tr a.1 b.1, fun v h1 h2 => (b.2 v h1 h2).trans (a.2 v h1 h2)⟩
theorem LW3_e (e : ∀ c, c = 121 ∨ c = 122 ∨ c = 124 ∨ c = 125 ∨ c = 127 ∨ c = 128 → y.1 c = z.1 c) : LW3 z y W := ⟨fun v _ _ => ⟨by rw [e 122 (by omega)], by rw [e 124 (by omega)], by rw [e 125 (by omega)], fun c _ => by rw [e 127 (by omega)], fun k _ => by rw [e 128 (by omega)]⟩, fun v _ _ => by rw [e 121 (by omega)]⟩
/-- a cell of the way itself is written -/
theorem LW3_si {c j : Nat} {x : Int32} (hW : W < 2) (h : ((c = 120 ∨ c = 121 ∨ c = 122 ∨ c = 123 ∨ c = 124 ∨ c = 125) ∧ j = W) ∨ c = 126 ∨ (c = 127 ∧ ∃ i, i < 24 ∧ j = 24 * W + i) ∨ (c = 128 ∧ ∃ i, i < 36 ∧ j = 36 * W + i)) : LW3 z (si z c j x) W := by
  have g : ∀ c' j', ¬ (c' = c ∧ j' = j) → (si z c j x).1 c' j' = z.1 c' j' := fun c' j' hn => by rw [si_get, if_neg hn]
  refine ⟨fun v v1 v2 => ⟨g _ _ ?_, g _ _ ?_, g _ _ ?_, fun i hi => g _ _ ?_, fun i hi => g _ _ ?_⟩, fun v v1 v2 => g _ _ ?_⟩ <;>
  · rintro ⟨q1, q2⟩
    rcases h with ⟨h1, h2⟩ | h1 | ⟨h1, i9, h2, h3⟩ | ⟨h1, i9, h2, h3⟩ <;> omega
theorem sp_forgetTrying3 (w : Int32) (wv : vp_in w 2) (eW : w.toNatClampNeg = W) (en : (z.1 0 24).toInt = (nl : Nat)) (h : ∀ z', md [] [120, 121, 122, 123, 124, 125, 126, 127, 128] z z' → ow W z z' → z'.1 120 W = 0 → z'.1 121 W = 0 → z'.1 123 W = 0 → (∀ f : Nat, f < 11 → z'.1 126 (11 * W + f) = -1) → MLo z' W (lo0 nl) → LW3 z z' W → Fv z') : MT G d z_forgetTrying 0 [(0, vr 0), (1, vi w)] [] z (rv Fv) := by
  have k0 : (0 : Int32).toInt = 0 := rfl
  have k1 : (1 : Int32).toInt = 1 := rfl
  have k11 : (11 : Int32).toInt = 11 := rfl
  have k24 : (24 : Int32).toInt = 24 := rfl
  have k36 : (36 : Int32).toInt = 36 := rfl
  have zb : vp_nar .boolean 0 = 0 := by decide
  have W2 : W < 2 := by rw [← eW]; exact vp_lt wv
  have eV : ((1 : Int32) <<< (z.1 0 24 &&& 31)) - 1 = (lo0 nl).2.2.2.1 0 := by rw [i32_of en]; rfl
  obtain ⟨K, hK⟩ : ∃ K : gd → Prop, ∀ y, K y ↔ (md [] [120, 121, 122, 123, 124, 125, 126, 127, 128] z y ∧ ow W z y ∧ (y.1 120 W = 0 ∧ y.1 121 W = 0 ∧ y.1 122 W = 0 ∧ y.1 123 W = 0 ∧ y.1 124 W = 0 ∧ y.1 125 W = 0) ∧ LW3 z y W) := ⟨_, fun _ => Iff.rfl⟩
  have Kst : ∀ {y y3 : gd} {c j : Nat} {v : Int32}, K y → y3 = si y c j v → md [] [c] y y3 → (c = 126 ∨ c = 127 ∨ c = 128) → ow W y y3 → LW3 y y3 W → md [] [120, 121, 122, 123, 124, 125, 126, 127, 128] z y3 → K y3 := by
    intro y y3 c j v ky e3 m3 hc o3 l3 mz
    obtain ⟨a1, a2, ⟨a3, a4, a5, a6, a7, a8⟩, a9⟩ := (hK _).mp ky
    have e : ∀ c', ¬ c' = c → y3.1 c' = y.1 c' := fun c' hc' => by rw [e3, si_cell hc']
    exact (hK _).mpr ⟨mz, ow_tr a2 o3, ⟨by rw [e 120 (by omega)]; exact a3, by rw [e 121 (by omega)]; exact a4, by rw [e 122 (by omega)]; exact a5, by rw [e 123 (by omega)]; exact a6, by rw [e 124 (by omega)]; exact a7, by rw [e 125 (by omega)]; exact a8⟩, LW3_tr a9 l3⟩
  have p103 : ∀ (n i' : Nat) (y : gd) (i : Int32), i.toInt = i' → 36 - i' ≤ n → i' ≤ 36 → K y → (∀ f : Nat, f < 11 → y.1 126 (11 * W + f) = -1) → (∀ c, c < 24 → y.1 127 (24 * W + c) = (lo0 nl).2.2.2.1 0) → (∀ k, k < i' → y.1 128 (36 * W + k) = 0) → MT G d z_forgetTrying 103 [(0, vr 0), (1, vi w), (2, vi i)] [] y (rv Fv) := by
    intro n
    have fin : ∀ (i' : Nat) (y : gd) (i : Int32), i.toInt = i' → i' ≤ 36 → K y → (∀ f : Nat, f < 11 → y.1 126 (11 * W + f) = -1) → (∀ c, c < 24 → y.1 127 (24 * W + c) = (lo0 nl).2.2.2.1 0) → (∀ k, k < i' → y.1 128 (36 * W + k) = 0) → (36 : Int32) ≤ i → rv Fv none y := by
      intro i' y i ei hi ky hf h7 h8 c
      rw [t_le, k36] at c
      have e36 : i' = 36 := by clear hf h7 h8; omega
      obtain ⟨a1, a2, ⟨a3, a4, a5, a6, a7, a8⟩, a9⟩ := (hK _).mp ky
      refine rv_i (h y a1 a2 a3 a4 a6 hf ⟨by rw [a5]; rfl, by rw [a7]; rfl, by rw [a8]; rfl, fun c hc => h7 c hc, fun a ha b hb => ?_, [], by rw [a6]; rfl, rfl, fun r => Iff.rfl, fun i r hr => by cases hr⟩ a9)
      have e0 : y.1 128 (36 * W + 6 * a + b) = 0 := by
        have := h8 (6 * a + b) (by clear hf h7 h8; omega)
        rw [show 36 * W + 6 * a + b = 36 * W + (6 * a + b) by clear hf h7 h8; omega]; exact this
      rw [e0]
      refine ⟨fun q => absurd rfl q, fun q => ?_⟩
      have q : ((0 : Int32) >>> (Int32.ofNat b &&& 31)) &&& 1 = 1 := q
      rw [km_0 b (by omega)] at q
      exact absurd q (by decide)
    induction n with
    | zero =>
      intro i' y i ei hn hi ky hf h7 h8
      exact sg_forgetTrying_103 _ _ ⟨fun c => fin i' y i ei hi ky hf h7 h8 c, fun c => absurd (t_le.mpr (by clear hf h7 h8; rw [k36]; omega)) c⟩
    | succ n ih =>
      intro i' y i ei hn hi ky hf h7 h8
      refine sg_forgetTrying_103 _ _ ⟨fun c => fin i' y i ei hi ky hf h7 h8 c, fun c => ?_⟩
      rw [t_le, k36] at c
      have hi2 : i' < 36 := by clear hf h7 h8; omega
      have ii : (i + 1).toInt = ((i' + 1 : Nat) : Int) := by clear hf h7 h8; rw [t_add (by omega) (by omega), k1, ei]; rfl
      obtain ⟨v, ev⟩ := tmul (w := w) (i := i) (K := 36) (N := 72) (n := 36) k36 wv (by clear hf h7 h8; omega) (by clear hf h7 h8; omega) (by omega) (by omega) (by omega)
      have iK : i.toNatClampNeg = i' := by rw [t_cl, ei]; rfl
      rw [eW, iK] at ev
      rw [ev, zb]
      refine ⟨v, fun y3 e3 => ?_⟩
      have m3 := md_a y 128 (36 * W + i') 0 (by decide)
      rw [← e3] at m3
      have g : ∀ c', ¬ c' = 128 → y3.1 c' = y.1 c' := fun c' hc' => by rw [e3, si_cell hc']
      refine ih (i' + 1) y3 (i + 1) ii (by clear hf h7 h8; omega) hi2 (Kst ky e3 m3 (by omega) (ow_mi (mi_of m3) rfl) (by rw [e3]; exact LW3_si W2 (Or.inr (Or.inr (Or.inr ⟨rfl, i', hi2, rfl⟩)))) (md_tr ((hK _).mp ky).1 m3 rfl rfl)) (fun f hf' => by rw [g 126 (by omega)]; exact hf f hf') (fun c hc => by rw [g 127 (by omega)]; exact h7 c hc) (fun k hk => ?_)
      rw [e3, si_get]
      by_cases q : k = i'
      · rw [if_pos ⟨rfl, by rw [q]⟩]
      · rw [if_neg (fun z => q (by have := z.2; omega))]
        exact h8 k (by clear hf h7 h8; omega)
  have p70 : ∀ (n i' : Nat) (y : gd) (i : Int32), i.toInt = i' → 24 - i' ≤ n → i' ≤ 24 → K y → (∀ f : Nat, f < 11 → y.1 126 (11 * W + f) = -1) → (∀ c, c < i' → y.1 127 (24 * W + c) = (lo0 nl).2.2.2.1 0) → MT G d z_forgetTrying 70 [(0, vr 0), (1, vi w), (2, vi i)] [] y (rv Fv) := by
    intro n
    have fin : ∀ (i' : Nat) (y : gd) (i : Int32), i.toInt = i' → i' ≤ 24 → K y → (∀ f : Nat, f < 11 → y.1 126 (11 * W + f) = -1) → (∀ c, c < i' → y.1 127 (24 * W + c) = (lo0 nl).2.2.2.1 0) → (24 : Int32) ≤ i → MT G d z_forgetTrying 103 [(0, vr 0), (1, vi w), (2, vi 0)] [] y (rv Fv) := by
      intro i' y i ei hi ky hf h7 c
      rw [t_le, k24] at c
      exact p103 36 0 y 0 rfl (by omega) (by omega) ky hf (fun c hc => h7 c (by clear hf h7; omega)) (fun k hk => absurd hk (Nat.not_lt_zero _))
    induction n with
    | zero =>
      intro i' y i ei hn hi ky hf h7
      exact sg_forgetTrying_70 _ _ ⟨fun c => fin i' y i ei hi ky hf h7 c, fun c => absurd (t_le.mpr (by clear hf h7; rw [k24]; omega)) c⟩
    | succ n ih =>
      intro i' y i ei hn hi ky hf h7
      refine sg_forgetTrying_70 _ _ ⟨fun c => fin i' y i ei hi ky hf h7 c, fun c => ?_⟩
      rw [t_le, k24] at c
      have hi2 : i' < 24 := by clear hf h7; omega
      have ii : (i + 1).toInt = ((i' + 1 : Nat) : Int) := by clear hf h7; rw [t_add (by omega) (by omega), k1, ei]; rfl
      obtain ⟨v, ev⟩ := tmul (w := w) (i := i) (K := 24) (N := 48) (n := 24) k24 wv (by clear hf h7; omega) (by clear hf h7; omega) (by omega) (by omega) (by omega)
      have iK : i.toNatClampNeg = i' := by rw [t_cl, ei]; rfl
      rw [eW, iK] at ev
      have e24 : y.1 0 24 = z.1 0 24 := (mi_of ((hK _).mp ky).1).1 24 (by decide)
      rw [ev, e24, eV]
      refine ⟨v, fun y3 e3 => ?_⟩
      have m3 := md_a y 127 (24 * W + i') ((lo0 nl).2.2.2.1 0) (by decide)
      rw [← e3] at m3
      have g : ∀ c', ¬ c' = 127 → y3.1 c' = y.1 c' := fun c' hc' => by rw [e3, si_cell hc']
      refine ih (i' + 1) y3 (i + 1) ii (by clear hf h7; omega) hi2 (Kst ky e3 m3 (by omega) (ow_mi (mi_of m3) rfl) (by rw [e3]; exact LW3_si W2 (Or.inr (Or.inr (Or.inl ⟨rfl, i', hi2, rfl⟩)))) (md_tr ((hK _).mp ky).1 m3 rfl rfl)) (fun f hf' => by rw [g 126 (by omega)]; exact hf f hf') (fun c hc => ?_)
      rw [e3, si_get]
      by_cases q : c = i'
      · rw [if_pos ⟨rfl, by rw [q]⟩]
      · rw [if_neg (fun z => q (by have := z.2; omega))]
        exact h7 c (by clear hf h7; omega)
  have p44 : ∀ (n : Nat) (y : gd) (i : Int32), 0 ≤ i.toInt → i.toInt ≤ 11 → 11 - i.toInt ≤ n → K y → (∀ f : Nat, (f : Int) < i.toInt → y.1 126 (11 * W + f) = -1) → MT G d z_forgetTrying 44 [(0, vr 0), (1, vi w), (2, vi i)] [] y (rv Fv) := by
    intro n
    have fin : ∀ (y : gd), K y → (∀ f : Nat, f < 11 → y.1 126 (11 * W + f) = -1) → MT G d z_forgetTrying 70 [(0, vr 0), (1, vi w), (2, vi 0)] [] y (rv Fv) := fun y ky hf => p70 24 0 y 0 rfl (by omega) (by omega) ky hf (fun c hc => absurd hc (Nat.not_lt_zero _))
    induction n with
    | zero =>
      intro y i i0 i1 hn ky hf
      exact sg_forgetTrying_44 _ _ ⟨fun _ => fin y ky (fun f hf' => hf f (by omega)), fun c => absurd (t_le.mpr (by rw [k11]; omega)) c⟩
    | succ n ih =>
      intro y i i0 i1 hn ky hf
      refine sg_forgetTrying_44 _ _ ⟨fun c => fin y ky (fun f hf' => hf f (by rw [t_le, k11] at c; omega)), fun c => ?_⟩
      rw [t_le, k11] at c
      have ii : (i + 1).toInt = i.toInt + 1 := by rw [t_add (by omega) (by omega), k1]
      have ci := cl_i i0
      obtain ⟨v, e⟩ := t11 wv i0 (by omega)
      rw [eW] at e
      rw [e]
      refine ⟨v, fun y3 e3 => ?_⟩
      have m3 := md_a y 126 (11 * W + i.toNatClampNeg) (-1) (by decide)
      rw [← e3] at m3
      refine ih y3 (i + 1) (by omega) (by omega) (by omega) (Kst ky e3 m3 (by omega) (by rw [e3]; exact ow_si W2 (Or.inr (Or.inl ⟨rfl, _, by omega, rfl⟩))) (by rw [e3]; exact LW3_si W2 (Or.inr (Or.inl rfl))) (md_tr ((hK _).mp ky).1 m3 rfl rfl)) (fun f hf' => ?_)
      rw [e3, si_get]
      by_cases q : (126 : Nat) = 126 ∧ 11 * W + f = 11 * W + i.toNatClampNeg
      · rw [if_pos q]
      · rw [if_neg q]; exact hf f (by omega)
  refine sg_forgetTrying_0 _ ?_
  rw [eW, zb]
  refine ⟨wv, fun y2 e2 => ⟨wv, fun y4 e4 => ⟨wv, fun y6 e6 => ⟨wv, fun y8 e8 => ⟨wv, fun y10 e10 => ⟨wv, fun y12 e12 => ?_⟩⟩⟩⟩⟩⟩
  have m2 := md_a z 120 W 0 (by decide)
  rw [← e2] at m2
  have m4 := md_a y2 121 W 0 (by decide)
  rw [← e4] at m4
  have m6 := md_a y4 122 W 0 (by decide)
  rw [← e6] at m6
  have m8 := md_a y6 123 W 0 (by decide)
  rw [← e8] at m8
  have m10 := md_a y8 124 W 0 (by decide)
  rw [← e10] at m10
  have m12 := md_a y10 125 W 0 (by decide)
  rw [← e12] at m12
  have o2 : ow W z y2 := by rw [e2]; exact ow_si W2 (Or.inl ⟨Or.inl rfl, rfl⟩)
  have o8 : ow W y6 y8 := by rw [e8]; exact ow_si W2 (Or.inl ⟨Or.inr rfl, rfl⟩)
  have l2 : LW3 z y2 W := by rw [e2]; exact LW3_si W2 (Or.inl ⟨by omega, rfl⟩)
  have l4 : LW3 y2 y4 W := by rw [e4]; exact LW3_si W2 (Or.inl ⟨by omega, rfl⟩)
  have l6 : LW3 y4 y6 W := by rw [e6]; exact LW3_si W2 (Or.inl ⟨by omega, rfl⟩)
  have l8 : LW3 y6 y8 W := by rw [e8]; exact LW3_si W2 (Or.inl ⟨by omega, rfl⟩)
  have l10 : LW3 y8 y10 W := by rw [e10]; exact LW3_si W2 (Or.inl ⟨by omega, rfl⟩)
  have l12 : LW3 y10 y12 W := by rw [e12]; exact LW3_si W2 (Or.inl ⟨by omega, rfl⟩)
  refine p44 11 y12 0 (by decide) (by decide) (by decide) ((hK _).mpr ⟨md_tr (md_tr (L3 := []) (A3 := [120, 121, 122, 123, 124]) (md_tr (L3 := []) (A3 := [120, 121, 122, 123]) (md_tr (L3 := []) (A3 := [120, 121, 122]) (md_tr (L3 := []) (A3 := [120, 121]) m2 m4 rfl rfl) m6 rfl rfl) m8 rfl rfl) m10 rfl rfl) m12 rfl rfl, ow_tr (ow_tr (ow_tr (ow_tr (ow_tr o2 (ow_mi (mi_of m4) rfl)) (ow_mi (mi_of m6) rfl)) o8) (ow_mi (mi_of m10) rfl)) (ow_mi (mi_of m12) rfl), ⟨?_, ?_, ?_, ?_, ?_, ?_⟩, LW3_tr (LW3_tr (LW3_tr (LW3_tr (LW3_tr l2 l4) l6) l8) l10) l12⟩) (fun f hf => by rw [k0] at hf; omega)
  · rw [m12.2.1 120 (by decide) (by decide), m10.2.1 120 (by decide) (by decide), m8.2.1 120 (by decide) (by decide), m6.2.1 120 (by decide) (by decide), m4.2.1 120 (by decide) (by decide), e2, si_get, if_pos ⟨rfl, rfl⟩]
  · rw [m12.2.1 121 (by decide) (by decide), m10.2.1 121 (by decide) (by decide), m8.2.1 121 (by decide) (by decide), m6.2.1 121 (by decide) (by decide), e4, si_get, if_pos ⟨rfl, rfl⟩]
  · rw [m12.2.1 122 (by decide) (by decide), m10.2.1 122 (by decide) (by decide), m8.2.1 122 (by decide) (by decide), e6, si_get, if_pos ⟨rfl, rfl⟩]
  · rw [m12.2.1 123 (by decide) (by decide), m10.2.1 123 (by decide) (by decide), e8, si_get, if_pos ⟨rfl, rfl⟩]
  · rw [m12.2.1 124 (by decide) (by decide), e10, si_get, if_pos ⟨rfl, rfl⟩]
  · rw [e12, si_get, if_pos ⟨rfl, rfl⟩]
/-- what stays of it: all but the rows -/
def MLc (y : gd) (W : Nat) (l : gLo) : Prop := (y.1 122 W).toInt = (l.1 : Nat) ∧ (y.1 124 W).toInt = (l.2.1 : Nat) ∧ (y.1 125 W).toInt = (l.2.2.1 : Nat) ∧ (∀ c, c < 24 → y.1 127 (24 * W + c) = l.2.2.2.1 c) ∧ (∀ a, a < 6 → ∀ b, b < 6 → (¬ y.1 128 (36 * W + 6 * a + b) = 0 ↔ (l.2.2.2.2.1 a >>> (Int32.ofNat b &&& 31)) &&& 1 = 1)) ∧ (y.1 123 W).toInt = (l.2.2.2.2.2.length : Nat)
theorem MLc_of {l : gLo} (e : ∀ c, c = 122 ∨ c = 123 ∨ c = 124 ∨ c = 125 ∨ c = 127 ∨ c = 128 → y'.1 c = y.1 c) (h : MLo y W l) : MLc y' W l := by
  obtain ⟨h1, h2, h3, h4, h5, K, h6, h7, -⟩ := h
  exact ⟨by rw [e 122 (by omega)]; exact h1, by rw [e 124 (by omega)]; exact h2, by rw [e 125 (by omega)]; exact h3, fun c hc => by rw [e 127 (by omega)]; exact h4 c hc, fun a ha b hb => by rw [e 128 (by omega)]; exact h5 a ha b hb, by rw [e 123 (by omega), h6, h7]⟩
theorem MLo_f {l : gLo} (e : eqL y y') (h : MLo y W l) : MLo y' W l := by
  obtain ⟨h1, h2, h3, h4, h5, h6⟩ := h
  exact ⟨by rw [e 122 (by omega)]; exact h1, by rw [e 124 (by omega)]; exact h2, by rw [e 125 (by omega)]; exact h3, fun c hc => by rw [e 127 (by omega)]; exact h4 c hc, fun a ha b hb => by rw [e 128 (by omega)]; exact h5 a ha b hb, OUm_f (e 123 (by omega)) (e 129 (by omega)) h6⟩
end MFG
end
