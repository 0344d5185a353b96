section
/-! the model: memories that stand for all like them, with the machine's state -/
/-- such a memory holds the state M, and its choices -/
def AM (C : gCo) (w : Nat) (M : gMa) (a : gd) : Prop := AV a ∧ MK a C ∧ MM1 a C M ∧ MIv C w M ∧ a.1 0 68 = Int32.ofNat w ∧ chE a (chM C w M)
/-- what is asked of a code -/
def GC (C : gCo) : Prop := NC C ∧ NXc C ∧ C.2.1.length ≤ 6
theorem fc_exM {b : gd} {S : gS} {C : gCo} {M : gMa} {w : Nat} (ri : RI b S) (wy : wy01 b) (hK : MK b C) (hN : NC C) (hX : NXc C) (hM : MM1 b C M) (wyw : b.1 0 68 = Int32.ofNat w) (w01 : w = 0 ∨ w = 1) (hlt : w = 0 → ∀ t', t' < 6 → (M.2.2 t').2.2.2.2.2.2.1 = []) : ∃ a, AV a ∧ fcA b a ∧ md [84] [86, 87, 88] b a ∧ chE a (chM C w M) := by
  obtain ⟨o, a, S', ⟨eo, fc, hcn⟩, m, q⟩ := ds_find3 (d := 0) (Fv := fun y S1 => fC b (Sl b) 84 y S1 ∧ chE y (chM C w M)) (RI_Sl ri) hK hN hX hM wyw w01 hlt (fun y S1 h h2 => ⟨h, h2⟩)
  obtain ⟨f1, f2, f3, f4, f5, f6⟩ := fc
  have e80 : a.1 80 = b.1 80 := f1.2.1 80 (by decide) (by decide)
  have sl : Sl a = Sl b := by
    funext c j
    unfold Sl
    rw [e80]
  have sm : ssub (Sm a) S' := by
    intro c j h
    rcases h with ⟨h1, h2⟩ | ⟨h1, h2⟩ | h
    · rw [h1, h2]; exact f3
    · obtain ⟨g1, g2, g3, _⟩ := f6 j h2
      rcases h1 with h1 | h1 | h1
      · rw [h1]; exact g1
      · rw [h1]; exact g2
      · rw [h1]; exact g3
    · rw [sl] at h
      exact f2 c j h
  have fa : fcA b a := by
    intro G z e
    refine MT_mono (q G z e) (fun o2 z' w => ?_)
    rw [w.1, eo]
    exact rv_i ⟨eqS_w sm w.2.1, w.2.2⟩
  refine ⟨a, ⟨?_, ?_, ?_, f4, f5, ?_⟩, fa, f1, hcn⟩
  · rw [sl]
    exact RI_md f1 rfl rfl (ssub_rf _) (RI_Sl ri)
  · unfold wy01
    rw [f1.1 68 (by decide)]
    exact wy
  · intro i hi
    obtain ⟨_, _, _, g⟩ := f6 i hi
    exact ⟨Or.inr (Or.inl ⟨Or.inl rfl, hi⟩), Or.inr (Or.inl ⟨Or.inr (Or.inl rfl), hi⟩), Or.inr (Or.inl ⟨Or.inr (Or.inr rfl), hi⟩), g⟩
  · intro G z e
    refine fa G z (fun c j h => ?_)
    rw [← sl] at h
    rw [e c j h]
    -- the core and the late writes are those of b
    rcases h with h | h
    · rcases h with ⟨h1, h2⟩ | ⟨n, h1, h2⟩
      · rw [h1]
        refine f1.1 j (fun w => ?_)
        rw [List.mem_singleton.mp w] at h2
        exact absurd h2 (by decide)
      · have hc : c ≠ 0 ∧ c ∉ [86, 87, 88] := by
          simp at h1
          refine ⟨by omega, ?_⟩
          simp
          omega
        rw [f1.2.1 c hc.1 hc.2]
    · obtain ⟨hc, _⟩ := h
      rw [f1.2.1 c (by omega) (by simp; omega)]
theorem lk_exM {C : gCo} {w i : Nat} {M : gMa} {a : gd} {ch : gCh} (gc : GC C) (w01 : w = 0 ∨ w = 1) (h : AM C w M a) (hch : (chM C w M)[i]? = some ch) : ∃ a', AM C w (doM C w M ch) a' ∧ Lk a i a' := by
  obtain ⟨hN, hX, l6⟩ := gc
  obtain ⟨⟨ri, wy, chv, c0, c84, fa⟩, hK, hM, hI, w68, hE⟩ := h
  have hi : (i : Int) < (a.1 0 84).toInt := by have := gt_lt hch; rw [hE.1]; omega
  obtain ⟨_, _, _, ⟨t0, t6⟩, co⟩ := chv i hi
  have tv : vp_in (a.1 86 i) 6 := by rw [vp_in_iff]; exact ⟨t0, t6⟩
  obtain ⟨e86, e87, e88⟩ := hE.2 i ch hch
  have cm := List.mem_of_getElem? hch
  obtain ⟨i1, i2, i3⟩ := ch_in cm
  have hI' := MIv_do hX l6 hI cm
  have ct : (a.1 86 i).toNatClampNeg = ch.1 := by
    rw [e86, t_cl, Int32.toInt_ofNat_of_lt (by omega)]; rfl
  have st : ∃ b, RI b (Sl b) ∧ wy01 b ∧ MK b C ∧ MM1 b C (doM C w M ch) ∧ b.1 0 68 = Int32.ofNat w ∧ Tr a i b := by
    by_cases c : a.1 87 i = -1
    · have g := co.resolve_right (fun z => by rw [c] at z; exact absurd z.1 (by decide))
      have cn : ch.2.1 = none := by
        cases h9 : ch.2.1 with
        | none => rfl
        | some j =>
          have j8 : j < 9 := by
            have := i3 j h9
            have q := (ri.2 ch.1 (by omega)).2.2.2.1
            have := (hM.2.2 ch.1 (by omega)).2.2.2.2.2.2.2.2.1.1
            omega
          rw [h9] at e87
          rw [e87] at c
          have c : Int32.ofNat j = -1 := c
          have : ∀ n, n < 9 → ¬ Int32.ofNat n = -1 := by decide +kernel
          exact absurd c (this j j8)
      have dE : doM C w M ch = acM C w M ch.1 ch.2.2 := by unfold doM; rw [cn]
      obtain ⟨o, b, S', ⟨eo, rb, ss, as', ap, mb⟩, m, q⟩ := ds_doAct3 (d := 0) (wk := ch.2.2) (Fv := fun y S1 => RI y S1 ∧ ssub (Sl a) S1 ∧ acS S1 ∧ acP (srt a (a.1 86 i).toNatClampNeg) y ∧ MM1 y C (acM C w M (a.1 86 i).toNatClampNeg ch.2.2)) (a.1 86 i) (a.1 88 i) tv ri g.2.1 g.2.2 hK hN hX hM (WMw_WM hI.1) w68 w01 (by
        cases h9 : ch.2.2 with
        | none => rw [h9] at e88; exact Or.inl ⟨rfl, e88⟩
        | some k =>
          rw [h9] at e88
          have k6 := (i2 cn).2.2 k h9
          unfold waM at k6
          have := List.mem_range.mp (List.mem_filter.mp k6).1
          exact Or.inr ⟨k, rfl, by omega, e88⟩) (fun y S1 h1 h2 h3 h4 h5 => ⟨h1, h2, h3, h4, h5⟩)
      rw [ct] at mb
      refine ⟨b, RI_Sl rb, by unfold wy01; rw [m.1 68 (by decide)]; exact wy, MK_md m rfl rfl hK, by rw [dE]; exact mb, by rw [m.1 68 (by decide)]; exact w68, fun _ G z e => MT_mono (q G z e) (fun o2 z' w => ?_), fun n => absurd c n⟩
      rw [w.1, eo]
      refine rv_i ⟨eqS_w (Sl_in rb) w.2.1, w.2.2, ?_⟩
      unfold acP
      rw [w.2.1 0 88 (Or.inr as'.1), w.2.1 0 89 (Or.inr as'.2.1)]
      exact ap
    · have g := co.resolve_left (fun z => c z.1)
      obtain ⟨j, hj⟩ : ∃ j, ch.2.1 = some j := by
        cases h9 : ch.2.1 with
        | none => rw [h9] at e87; exact absurd e87 c
        | some j => exact ⟨j, rfl⟩
      rw [hj] at e87
      have e87 : a.1 87 i = Int32.ofNat j := e87
      have dE : doM C w M ch = laM M ch.1 j := by unfold doM; rw [hj]
      have j8 : j < 9 := by
        have := i3 j hj
        have q := (ri.2 ch.1 (by omega)).2.2.2.1
        have := (hM.2.2 ch.1 (by omega)).2.2.2.2.2.2.2.2.1.1
        omega
      have ej : (a.1 87 i).toInt.toNat = j := by rw [e87, Int32.toInt_ofNat_of_lt (by omega)]; rfl
      obtain ⟨o, b, S', ⟨eo, rb, ss, mb, mm⟩, m, q⟩ := ds_doLate3 (d := 4) (C := C) (M := M) (Fv := fun y S1 => RI y S1 ∧ ssub (Sl a) S1 ∧ md [] [70, 80, 81, 82] a y ∧ MM1 y C (laM M (a.1 86 i).toNatClampNeg (a.1 87 i).toInt.toNat)) (a.1 86 i) (a.1 87 i) tv ri g.1 g.2 hM (fun y S1 h1 h2 h3 h4 => ⟨h1, h2, h3, h4⟩)
      rw [ct, ej] at mm
      refine ⟨b, RI_Sl rb, by unfold wy01; rw [m.1 68 (by decide)]; exact wy, MK_md m rfl rfl hK, by rw [dE]; exact mm, by rw [m.1 68 (by decide)]; exact w68, fun n => absurd n c, fun _ G z e => MT_mono (q G z e) (fun o2 z' w => ?_)⟩
      rw [w.1, eo]
      exact rv_i ⟨eqS_w (Sl_in rb) w.2.1, w.2.2⟩
  obtain ⟨b, h1, h2, hKb, hMb, wb, h3⟩ := st
  obtain ⟨a', g1, g2, g3, g4⟩ := fc_exM h1 h2 hKb hN hX hMb wb w01 (fun z t ht => (hI'.1 t ht).2.2.2 z)
  exact ⟨a', ⟨g1, MK_md g3 rfl rfl hKb, MM1_md g3 rfl hMb, hI', by rw [g3.1 68 (by decide)]; exact wb, g4⟩, b, h3, g2⟩
section DSY
variable {x : gd} {C : gCo}
theorem first_exM (cp : CP x) (hK : MK x C) (hN : NC C) : ∃ b, RI b (Sl b) ∧ MM1 b C (fsM C) ∧ MK b C ∧ b.1 0 68 = x.1 0 68 ∧ prE x b ∧ ∀ (G : mG) (D : Nat) (z : gd), 5 ≤ D → prE x z → z.1 0 68 = x.1 0 68 → MT G D z_setFirst 0 [(0, vr 0)] [] z (rv (fun z' => eqS (Sl b) b z' ∧ md rL rA z z')) := by
  have ii := ix_ini x
  have i2 : ∀ j : Nat, j < 24 → (ix x).1 70 j = (fsM C).1 j := fun j hj => by
    have e : (ix x).1 70 j = if (j : Int) < (x.1 0 23).toInt then x.1 36 j else 0 := ii.2.1 j hj
    rw [e]
    have l23 : (x.1 0 23).toInt = C.2.2.1.length := hK.2.2.1.1
    show _ = (match C.2.2.1[j]? with | some q => q.1 | none => 0)
    cases hq : C.2.2.1[j]? with
    | some q => rw [if_pos (by have := gt_lt hq; omega)]; exact (hK.2.2.1.2 j q hq).1
    | none => rw [if_neg (by have := List.getElem?_eq_none_iff.mp hq; omega)]
  obtain ⟨o, b, S', ⟨eo, rb, hfs⟩, m, q⟩ := ds_setTail3 (x := ix x) (S := fun _ _ => False) (Fv := fun y S1 => RI y S1 ∧ MM1 y C (fsM C)) (CP_md ii.1 rfl rfl cp) ii.2.2.2.1 ii.2.2.1 i2 ii.2.2.2.2 (MK_md ii.1 rfl rfl hK) hN (fun y S1 h h2 => ⟨h, h2⟩)
  refine ⟨b, RI_Sl rb, hfs, MK_md m rfl rfl (MK_md ii.1 rfl rfl hK), ?_, ?_, fun G D z hD p w => ?_⟩
  · rw [m.1 68 (by decide), ii.1.1 68 (by decide)]
  · exact prE_mi (prE_mi (prE_rf x) (mi_of ii.1) rfl rfl) (mi_of m) rfl rfl
  · obtain ⟨D, rfl⟩ : ∃ D', D = D' + 1 := ⟨D - 1, by omega⟩
    refine sp_setInit (fun y iy => MT_up (d := 4) (by omega) (MT_mono (q G y (ini_eq p w ii iy)) (fun o2 z' v => ?_)))
    rw [v.1, eo]
    exact rv_i ⟨eqS_w (Sl_in rb) v.2.1, md_tr (md_w iy.1 (L2 := rL) (A2 := rA) (by decide) (by decide)) v.2.2 rfl rfl⟩
theorem start_exM (cp : CP x) (hK : MK x C) (hN : NC C) (hX : NXc C) {wn : Nat} (w01 : wn = 0 ∨ wn = 1) (w : Int32) (ew0 : w = Int32.ofNat wn) (hw : w = 0 ∨ w = 1) : ∃ a0, AM C wn (fsM C) a0 ∧ AV a0 ∧ a0.1 0 68 = w ∧ prE x a0 ∧ St x w a0 ∧ ∃ b, md [84] [86, 87, 88] b a0 ∧ ∀ (G : mG) (D : Nat) (z : gd), 5 ≤ D → prE x z → z.1 0 68 = w → MT G D z_setFirst 0 [(0, vr 0)] [] z (rv (fun z' => eqS (Sl b) b z' ∧ md rL rA z z')) := by
  have k0 : (0 : Int32).toInt = 0 := rfl
  have k1 : (1 : Int32).toInt = 1 := rfl
  have k6 : (6 : Int32).toInt = 6 := rfl
  have mw := md_f x 68 w
  obtain ⟨xw, exw⟩ : ∃ xw, xw = si x 0 68 w := ⟨_, rfl⟩
  rw [← exw] at mw
  have ew : xw.1 0 68 = w := by rw [exw, si_get, if_pos ⟨rfl, rfl⟩]
  have pw : prE x xw := prE_mi (prE_rf x) (mi_of mw) rfl rfl
  obtain ⟨b, rb, hfs, hKb, b68, pb, hb⟩ := first_exM (CP_md mw rfl rfl cp) (MK_md mw rfl rfl hK) hN
  rw [ew] at b68
  obtain ⟨a0, av, fa, ma, hcn⟩ := fc_exM rb (by unfold wy01; rw [b68]; exact hw) hKb hN hX hfs (by rw [b68, ew0]) w01 (fun z t ht => (WMw_fs t ht).2.2.2 z)
  refine ⟨a0, ⟨av, MK_md ma rfl rfl hKb, MM1_md ma rfl hfs, MIv_fs, by rw [ma.1 68 (by decide), b68, ew0], hcn⟩, av, by rw [ma.1 68 (by decide), b68], prE_tr pw (prE_mi pb (mi_of ma) rfl rfl), ?_, b, ma, fun G D z hD p hz => hb G D z hD (prE_tr (prE_sy pw) p) (by rw [ew]; exact hz)⟩
  intro G D z Fv hD p hF
  obtain ⟨D, rfl⟩ : ∃ D', D = D' + 1 := ⟨D - 1, by omega⟩
  refine sg_startRun_0 _ (fun z1 e1 z2 e2 z3 e3 z4 e4 => ?_)
  have m1 := md_f z 68 w
  rw [← e1] at m1
  have m2 := md_f z1 67 1
  rw [← e2] at m2
  have m3 := md_f z2 94 0
  rw [← e3] at m3
  have m4 := md_f z3 96 0
  rw [← e4] at m4
  have m14 : md [68, 67, 94, 96] [] z z4 := md_tr (md_tr (L3 := [68, 67, 94]) (A3 := []) (md_tr (L3 := [68, 67]) (A3 := []) m1 m2 rfl rfl) m3 rfl rfl) m4 rfl rfl
  have f68 : z4.1 0 68 = w := by rw [m4.1 68 (by decide), m3.1 68 (by decide), m2.1 68 (by decide), e1, si_get, if_pos ⟨rfl, rfl⟩]
  have f67 : z4.1 0 67 = 1 := by rw [m4.1 67 (by decide), m3.1 67 (by decide), e2, si_get, if_pos ⟨rfl, rfl⟩]
  have f94 : z4.1 0 94 = 0 := by rw [m4.1 94 (by decide), e3, si_get, if_pos ⟨rfl, rfl⟩]
  have f96 : z4.1 0 96 = 0 := by rw [e4, si_get, if_pos ⟨rfl, rfl⟩]
  have loop : ∀ (n : Nat) (y : gd) (t : Int32), 0 ≤ t.toInt → t.toInt ≤ 6 → 6 - t.toInt ≤ n → md [] [106, 107] z4 y → (∀ j : Nat, (j : Int) < t.toInt → y.1 106 j = -1 ∧ y.1 107 j = -1) → MT G (D + 1) z_startRun 22 [(0, vr 0), (2, vi t)] [] y (rv Fv) := by
    have last : ∀ y : gd, md [] [106, 107] z4 y → (∀ j : Nat, j < 6 → y.1 106 j = -1 ∧ y.1 107 j = -1) → MT G D z_setFirst 0 [(0, vr 0)] [] y (rv (fun x2 => MT G D z_findChoices 0 [(0, vr 0)] [] x2 (rv (fun x3 => rv Fv none x3)))) := by
      intro y my hy
      have py : prE xw y := prE_tr (prE_sy pw) (prE_mi (prE_mi p (mi_of m14) rfl rfl) (mi_of my) rfl rfl)
      have wy' : y.1 0 68 = xw.1 0 68 := by rw [my.1 68 (by decide), f68, ew]
      refine MTv_mono (hb G D y (by omega) py wy') (fun u q => MT_up (by omega) (MTv_mono (fa G u q.1) (fun v qv => rv_i (hF v qv.1 ?_))))
      have g : mi [82, 84, 88, 89, 90, 91, 92, 93] rA y v := mi_of (md_rt q.2 qv.2)
      have v94 : v.1 0 94 = 0 := by rw [g.1 94 (by decide), my.1 94 (by decide), f94]
      have v96 : v.1 0 96 = 0 := by rw [g.1 96 (by decide), my.1 96 (by decide), f96]
      refine ⟨mi_tr (mi_tr (L3 := sL') (A3 := sA') (mi_of m14) (mi_of my) rfl rfl) g rfl rfl, v94, ⟨by rw [v96]; decide, by rw [v96, v94]; decide, by rw [v94]; decide, fun j hj => by rw [v96, k0] at hj; omega, fun t ht => ?_⟩, by rw [g.1 67 (by decide), my.1 67 (by decide), f67], by rw [g.1 68 (by decide), my.1 68 (by decide), f68]⟩
      rw [g.2 106 (by decide) (by decide), g.2 107 (by decide) (by decide)]
      exact ⟨Or.inl (hy t ht).1, Or.inl (hy t ht).2⟩
    intro n
    induction n with
    | zero =>
      intro y t t0 t6 hn my hy
      exact sg_startRun_22 _ ⟨fun _ => last y my (fun j hj => hy j (by omega)), fun c => absurd (t_le.mpr (by rw [k6]; omega)) c⟩
    | succ n ih =>
      intro y t t0 t6 hn my hy
      refine sg_startRun_22 _ ⟨fun c => last y my (fun j hj => hy j (by rw [t_le, k6] at c; omega)), fun c => ?_⟩
      rw [t_le, k6] at c
      have tv : vp_in t 6 := by rw [vp_in_iff]; omega
      have ct := cl_i t0
      have ti : (t + 1).toInt = t.toInt + 1 := by rw [t_add (by omega) (by omega), k1]
      refine ⟨tv, fun y5 e5 => ⟨tv, fun y7 e7 => ?_⟩⟩
      have m5 := md_a y 106 t.toNatClampNeg (-1) (by decide)
      rw [← e5] at m5
      have m7 := md_a y5 107 t.toNatClampNeg (-1) (by decide)
      rw [← e7] at m7
      refine ih y7 (t + 1) (by omega) (by omega) (by omega) (md_tr (md_tr (L3 := []) (A3 := [106, 107]) my m5 rfl rfl) m7 rfl rfl) (fun j hj => ?_)
      by_cases q : j = t.toNatClampNeg
      · rw [q]
        exact ⟨by rw [e7, si_cell (by decide), e5, si_get, if_pos ⟨rfl, rfl⟩], by rw [e7, si_get, if_pos ⟨rfl, rfl⟩]⟩
      · rw [e7, si_ne 106 j q, si_ne 107 j q, e5, si_ne 106 j q, si_ne 107 j q]
        exact hy j (by omega)
  exact loop 6 z4 0 (by decide) (by decide) (by decide) (md_w (md_rf _) (by decide) (by decide)) (fun j hj => by rw [k0] at hj; omega)
end DSY
end
section
/-! the model: a run, with the machine's states that it goes through -/
/-- the state behind k choices of a row -/
noncomputable def runM (C : gCo) (w : Nat) (c : Nat → Nat) : Nat → gMa
  | 0 => fsM C
  | k + 1 => doM C w (runM C w c k) (((chM C w (runM C w c k))[c k]?).getD (0, none, none))
/-- the row of choices done -/
def c96 (z : gd) : Nat → Nat := fun k => (z.1 96 k).toNatClampNeg
def HistC (C : gCo) (w : Nat) (z : gd) : Prop := ∃ (a : Nat → gd) (n : Nat), (n : Int) = (z.1 0 94).toInt ∧ (∀ k : Nat, k ≤ n → AM C w (runM C w (c96 z) k) (a k)) ∧ (∀ k : Nat, k < n → 0 ≤ (z.1 96 k).toInt ∧ c96 z k < (chM C w (runM C w (c96 z) k)).length ∧ Lk (a k) (c96 z k) (a (k + 1))) ∧ eqS (Sm (a n)) (a n) z ∧ St z (z.1 0 68) (a 0) ∧ ((w = 0 ∨ w = 1) ∧ z.1 0 68 = Int32.ofNat w) ∧ HA z
section MRU
variable {G : mG} {d D : Nat} {x z a : gd} {F : Int32 → gd → Prop} {Fv : gd → Prop} {C : gCo} {w : Nat}
theorem runM_s {c : Nat → Nat} {k : Nat} {ch : gCh} (h : (chM C w (runM C w c k))[c k]? = some ch) : runM C w c (k + 1) = doM C w (runM C w c k) ch := by
  rw [runM, h]
  rfl
theorem runM_cg {c c' : Nat → Nat} : ∀ {n : Nat}, (∀ k, k < n → c k = c' k) → runM C w c n = runM C w c' n := by
  intro n
  induction n with
  | zero => intro _; rfl
  | succ n ih =>
    intro h
    rw [runM, runM, ih (fun k hk => h k (by omega)), h n (by omega)]
theorem AM_n {M : gMa} (h : AM C w M a) : (a.1 0 84).toInt = ((chM C w M).length : Nat) := h.2.2.2.2.2.1
theorem wy_i {a : gd} (w01 : w = 0 ∨ w = 1) (h : a.1 0 68 = Int32.ofNat w) : wy01 a := by
  unfold wy01
  rw [h]
  rcases w01 with e | e <;> rw [e]
  · exact Or.inl rfl
  · exact Or.inr rfl
theorem HistC_H (h : HistC C w z) : Hist z := by
  obtain ⟨a, n, q1, q2, q3, q4, q5, q6, q7⟩ := h
  refine ⟨a, n, q1, fun k hk => (q2 k hk).1, fun k hk => ?_, q4, q5, wy_i q6.1 q6.2, q7⟩
  obtain ⟨b1, b2, b3⟩ := q3 k hk
  have e := AM_n (q2 k (by omega))
  have ci := cl_i b1
  have b2 : (z.1 96 k).toNatClampNeg < (chM C w (runM C w (c96 z) k)).length := b2
  exact ⟨b1, by omega, b3⟩
/-- how many choices there are -/
theorem HistC_n (h : HistC C w z) : (z.1 0 84).toInt = ((chM C w (runM C w (c96 z) (z.1 0 94).toInt.toNat)).length : Nat) := by
  obtain ⟨a, n, q1, q2, q3, q4, -⟩ := h
  have e : z.1 0 84 = (a n).1 0 84 := q4 0 84 (Or.inr (Or.inl ⟨rfl, rfl⟩))
  rw [e, ← q1]
  exact AM_n (q2 n (Nat.le_refl _))
theorem HistC_mi {L A : List Nat} {z' : gd} (m : mi L A z z') (hL : [23, 24, 25, 26, 27, 68, 84, 94, 96].all (fun k => !L.elem k) = true) (hA : [36, 37, 38, 51, 52, 54, 55, 56, 57, 58, 59, 60, 61, 62, 64, 65, 66, 70, 71, 72, 73, 74, 75, 76, 77, 78, 79, 80, 81, 82, 86, 87, 88, 96, 98, 99, 100, 103, 106, 107].all (fun k => !A.elem k) = true) (q : HistC C w z) : HistC C w z' := by
  have L2 : ∀ M : List Nat, M.all ([23, 24, 25, 26, 27, 68, 84, 94, 96].elem ·) = true → M.all (fun k => !L.elem k) = true := fun M hM => List.all_eq_true.mpr (fun k hk => List.all_eq_true.mp hL k (List.elem_iff.mp (List.all_eq_true.mp hM k hk)))
  have A2 : ∀ M : List Nat, M.all ([36, 37, 38, 51, 52, 54, 55, 56, 57, 58, 59, 60, 61, 62, 64, 65, 66, 70, 71, 72, 73, 74, 75, 76, 77, 78, 79, 80, 81, 82, 86, 87, 88, 96, 98, 99, 100, 103, 106, 107].elem ·) = true → M.all (fun k => !A.elem k) = true := fun M hM => List.all_eq_true.mpr (fun k hk => List.all_eq_true.mp hA k (List.elem_iff.mp (List.all_eq_true.mp hM k hk)))
  have f := fun k hk => m.1 k (all_no hL k hk)
  obtain ⟨a, n, q1, q2, q3, q4, q5, q6, q7⟩ := q
  have g96 : z'.1 96 = z.1 96 := m.2 96 (by decide) (all_no hA 96 (by decide))
  have c9 : c96 z' = c96 z := by unfold c96; rw [g96]
  refine ⟨a, n, by rw [f 94 (by decide)]; exact q1, by rw [c9]; exact q2, by rw [c9, g96]; exact q3, eqS_mi q4 m (L2 _ rfl) (A2 _ rfl) (ssub_rf _), ?_, by rw [f 68 (by decide)]; exact q6, HA_mi m (L2 _ rfl) (A2 _ rfl) q7⟩
  rw [f 68 (by decide)]
  exact St_pr (prE_mi (prE_rf z) m (L2 _ rfl) (A2 _ rfl)) q5
/-- a choice more -/
theorem sc_more (gc : GC C) (hh : HistC C w z) (hd : (z.1 0 94).toInt < 400) (i : Int32) (i0 : 0 ≤ i.toInt) (i1 : i.toInt < (z.1 0 84).toInt) (hD : 6 ≤ D) (h : ∀ z', HistC C w z' → dF z z' i → Fv z') : MT G D z_doChoice 0 [(0, vr 0), (1, vi i)] [] z (rv Fv) := by
  obtain ⟨s, n, q1, q2, q3, q4, q5, q6, q7⟩ := hh
  have e84 : z.1 0 84 = (s n).1 0 84 := q4 0 84 (Or.inr (Or.inl ⟨rfl, rfl⟩))
  rw [e84] at i1
  have ci := cl_i i0
  have am := q2 n (Nat.le_refl _)
  have en := AM_n am
  have hil : i.toNatClampNeg < (chM C w (runM C w (c96 z) n)).length := by omega
  obtain ⟨ch, hch⟩ : ∃ ch, (chM C w (runM C w (c96 z) n))[i.toNatClampNeg]? = some ch := ⟨_, List.getElem?_eq_getElem hil⟩
  obtain ⟨a', av', lk⟩ := lk_exM gc q6.1 am hch
  refine sp_doChoice am.1 i i0 i1 lk q4 q7 hd hD (fun z' e' ha' df => h z' ?_ df)
  obtain ⟨m, d94, d96, d96b⟩ := df
  have cn : (z.1 0 94).toNatClampNeg = n := by have := cl_i (a := z.1 0 94) (by omega); omega
  rw [cn] at d96 d96b
  have f68 : z'.1 0 68 = z.1 0 68 := m.1 68 (by decide)
  have cE : ∀ k, k < n → c96 z' k = c96 z k := fun k hk => by unfold c96; rw [d96b k (by omega)]
  have cN : c96 z' n = i.toNatClampNeg := by unfold c96; rw [d96]
  have rE : ∀ k, k ≤ n → runM C w (c96 z') k = runM C w (c96 z) k := fun k hk => runM_cg (fun j hj => cE j (by omega))
  have rN : runM C w (c96 z') (n + 1) = doM C w (runM C w (c96 z) n) ch := by
    rw [runM_s (c := c96 z') (k := n) (ch := ch) (by rw [rE n (Nat.le_refl _), cN]; exact hch), rE n (Nat.le_refl _)]
  refine ⟨fun k => if k = n + 1 then a' else s k, n + 1, by omega, fun k hk => ?_, fun k hk => ?_, ?_, ?_, by rw [f68]; exact q6, ha'⟩
  · by_cases c : k = n + 1
    · simp only [if_pos c]; rw [c, rN]; exact av'
    · simp only [if_neg c]; rw [rE k (by omega)]; exact q2 k (by omega)
  · by_cases c : k = n
    · rw [c, d96, cN, rE n (Nat.le_refl _)]
      simp only [if_neg (show ¬ n = n + 1 by omega), if_pos]
      exact ⟨i0, hil, lk⟩
    · rw [d96b k c, cE k (by omega), rE k (by omega)]
      simp only [if_neg (show ¬ k = n + 1 by omega), if_neg (show ¬ k + 1 = n + 1 by omega)]
      exact q3 k (by omega)
  · simp only [if_pos]
    exact e'
  · simp only [if_neg (show ¬ 0 = n + 1 by omega)]
    rw [f68]
    exact St_pr (prE_mi (prE_rf z) m rfl rfl) q5
/-- a run begun -/
theorem sc_startRun (gc : GC C) (cp : CP z) (hK : MK z C) (w01 : w = 0 ∨ w = 1) (hD : 6 ≤ D) (h : ∀ z', HistC C w z' → sF (Int32.ofNat w) z z' → Fv z') : MT G D z_startRun 0 [(0, vr 0), (1, vi (Int32.ofNat w))] [] z (rv Fv) := by
  have hw : Int32.ofNat w = 0 ∨ Int32.ofNat w = 1 := by
    rcases w01 with e | e <;> rw [e]
    · exact Or.inl rfl
    · exact Or.inr rfl
  obtain ⟨a0, am, av, e68, pa, st, _⟩ := start_exM cp hK gc.1 gc.2.1 w01 _ rfl hw
  refine st G D z Fv hD (prE_rf z) (fun z' e sf => h z' ?_ sf)
  obtain ⟨m, f94, ha, f67, f68⟩ := sf
  refine ⟨fun _ => a0, 0, by rw [f94]; rfl, fun k hk => ?_, fun k hk => absurd hk (Nat.not_lt_zero _), e, ?_, ⟨w01, f68⟩, ha⟩
  · have : k = 0 := by omega
    rw [this]; exact am
  · rw [f68]
    exact St_pr (prE_mi (prE_rf z) m rfl rfl) st
end MRU
end
section
/-! the cells of a row are sure all, or none -/
def n8T (L L' : gU) : Prop := ∃ N, L' = L ++ N ∧ ∀ v ∈ N, ¬ (v.1 = 31 ∨ v.1 = 32 ∨ 80 ≤ v.1)
section NT8
variable {K : Nat → Int32} {L L' L2 : gU} {o : Bool}
theorem n8T_rf : n8T L L := ⟨[], by rw [List.append_nil], fun _ h => by cases h⟩
theorem n8T_tr (h : n8T L L') (g : n8T L' L2) : n8T L L2 := by
  obtain ⟨N, e, h⟩ := h
  obtain ⟨N2, e2, g⟩ := g
  exact ⟨N ++ N2, by rw [e2, e, List.append_assoc], fun v hv => (List.mem_append.mp hv).elim (h v) (g v)⟩
theorem n8T_k {k a b : Nat} (h : ¬ (k = 31 ∨ k = 32 ∨ 80 ≤ k)) : n8T L (L ++ [(k, a, b)]) := ⟨_, rfl, fun v hv => by rw [List.mem_singleton.mp hv]; exact h⟩
theorem n8T_k2 {k a b k' a' b' : Nat} (h : ¬ (k = 31 ∨ k = 32 ∨ 80 ≤ k)) (h' : ¬ (k' = 31 ∨ k' = 32 ∨ 80 ≤ k')) : n8T L (L ++ [(k, a, b), (k', a', b')]) := ⟨_, rfl, fun v hv => by
  rcases List.mem_cons.mp hv with e | e
  · rw [e]; exact h
  · rw [List.mem_singleton.mp e]; exact h'⟩
theorem pt_n8T {w : Int32} {q r : Nat × gU} (h : pt K w q = some r) : n8T q.2 r.2 := by
  obtain ⟨-, -, e⟩ := pt_is h
  rw [e]; exact n8T_rf
theorem pan_n8T {v : Nat × Nat × Nat} {q r : Nat × gU} (hv : ¬ (v.1 = 31 ∨ v.1 = 32 ∨ 80 ≤ v.1)) (h : pan v q = some r) : n8T q.2 r.2 := by
  unfold pan at h
  cases Option.some.inj h
  exact n8T_k hv
abbrev ng8 (rE : Nat → Nat → gU → gOp) : Prop := ∀ s i L q, rE s i L = some q → n8T L q.2
theorem pW_n8T {rE : Nat → Nat → gU → gOp} {th : Nat} (hr : ng8 rE) : ∀ (f j : Nat) (L : gU) (q : Nat × gU), pW rE K th f j L = some q → n8T L q.2 := by
  intro f
  induction f with
  | zero => intro j L q h; exact absurd h (by simp [pW])
  | succ f ih =>
    intro j L q h
    rw [pW] at h
    split at h
    · split at h
      · obtain ⟨z, hz, h2⟩ := Option.bind_eq_some_iff.mp h
        exact n8T_tr (hr _ _ _ _ hz) (n8T_tr (n8T_k (by decide)) (ih _ _ _ h2))
      · exact absurd h (by simp)
    · cases Option.some.inj h; exact n8T_rf
theorem pO_n8T {rE : Nat → Nat → gU → gOp} (hr : ng8 rE) {i : Nat} {q : Nat × gU} (h : pO rE K o i L = some q) : n8T L q.2 := by
  unfold pO at h
  split at h
  · exact absurd h (by simp)
  · split at h
    · cases Option.some.inj h; exact n8T_k (by decide)
    · split at h
      · cases Option.some.inj h; exact n8T_k (by decide)
      · split at h
        · obtain ⟨z, hz, h2⟩ := Option.bind_eq_some_iff.mp h
          exact n8T_tr (hr _ _ _ _ hz) (pt_n8T h2)
        · split at h
          · split at h
            · split at h
              · split at h
                · cases Option.some.inj h; exact n8T_k2 (by decide) (by decide)
                · exact absurd h (by simp)
              · cases Option.some.inj h; exact n8T_k (by decide)
            · cases Option.some.inj h; exact n8T_k (by decide)
          · exact absurd h (by simp)
theorem pE_n8T : ∀ f : Nat, ng8 (pE K o f) := by
  intro f
  induction f with
  | zero => intro s i L q h; exact absurd h (by simp [pE])
  | succ f ih =>
    intro s i L q h
    rw [pE] at h
    split at h
    · obtain ⟨z, hz, h2⟩ := Option.bind_eq_some_iff.mp h
      refine n8T_tr ?_ (pW_n8T ih _ _ _ _ h2)
      split at hz
      · split at hz
        · obtain ⟨y, hy, h3⟩ := Option.bind_eq_some_iff.mp hz
          cases Option.some.inj h3
          exact n8T_tr (ih _ _ _ _ hy) (n8T_k (by decide))
        · exact absurd hz (by simp)
      · exact pO_n8T ih hz
    · exact absurd h (by simp)
theorem pX_n8T {f i : Nat} {q : Nat × gU} (h : pX K o f i L = some q) : n8T L q.2 := by
  obtain ⟨z, hz, h2⟩ := Option.bind_eq_some_iff.mp h
  exact n8T_tr (pE_n8T f _ _ _ _ hz) (pan_n8T (show ¬ (54 = 31 ∨ 54 = 32 ∨ 80 ≤ 54) by decide) h2)
theorem pXq_n8T {f : Nat} {r q : Nat × gU} (h : pXq K f r = some q) : n8T r.2 q.2 := pX_n8T h
theorem pP_n8T {f i : Nat} {q : Nat × gU} (h : pP K f i L = some q) : n8T L q.2 := by
  unfold pP at h
  split at h
  · split at h
    · split at h
      · obtain ⟨z, hz, h2⟩ := Option.bind_eq_some_iff.mp h
        exact n8T_tr (n8T_tr (n8T_k (by decide)) (pX_n8T hz)) (pt_n8T h2)
      · exact absurd h (by simp)
    · cases Option.some.inj h; exact n8T_k (by decide)
  · exact absurd h (by simp)
theorem pme_n8T {t : Option Nat} : n8T L (L ++ pme t) := by
  cases t with
  | none => rw [pme, List.append_nil]; exact n8T_rf
  | some t => exact n8T_k (by decide)
theorem pma_n8T {t : Option Nat} : n8T L (L ++ pma t) := by
  cases t with
  | none => rw [pma, List.append_nil]; exact n8T_rf
  | some t => exact n8T_k (by decide)
theorem pal_n8T {t : Option Nat} {i : Nat} : n8T L (L ++ [pal t i]) := by
  cases t with
  | none => exact n8T_k (by decide)
  | some t => exact n8T_k (by decide)
theorem pR_n8T {f i : Nat} {t : Option Nat} {q : Nat × gU} (h : pR K f t i L = some q) : n8T L q.2 := by
  unfold pR at h
  split at h
  · split at h
    · obtain ⟨z4, hz4, h4⟩ := Option.bind_eq_some_iff.mp h
      obtain ⟨z3, hz3, h3⟩ := Option.bind_eq_some_iff.mp hz4
      obtain ⟨z2, hz2, h2⟩ := Option.bind_eq_some_iff.mp hz3
      obtain ⟨z5, hz5, h5⟩ := Option.bind_eq_some_iff.mp h4
      have d : n8T z5.2 q.2 := pan_n8T (show ¬ (74 = 31 ∨ 74 = 32 ∨ 80 ≤ 74) by decide) h5
      have a : n8T L z4.2 := n8T_tr (n8T_tr (n8T_tr pme_n8T (pP_n8T hz2)) (pt_n8T h2)) (pXq_n8T h3)
      split at hz5
      · obtain ⟨z6, hz6, h6⟩ := Option.bind_eq_some_iff.mp hz5
        exact n8T_tr (n8T_tr (n8T_tr a (pt_n8T hz6)) (pXq_n8T h6)) d
      · cases Option.some.inj hz5; exact n8T_tr a d
    · exact absurd h (by simp)
  · split at h
    · obtain ⟨z, hz, h2⟩ := Option.bind_eq_some_iff.mp h
      exact n8T_tr (n8T_tr pme_n8T (pP_n8T hz)) (pan_n8T (show ¬ (75 = 31 ∨ 75 = 32 ∨ 80 ≤ 75) by decide) h2)
    · split at h
      · split at h
        · cases Option.some.inj h; exact pal_n8T
        · exact absurd h (by simp)
      · obtain ⟨z, hz, h2⟩ := Option.bind_eq_some_iff.mp h
        exact n8T_tr (n8T_tr pma_n8T (pX_n8T hz)) (pan_n8T (show ¬ (76 = 31 ∨ 76 = 32 ∨ 80 ≤ 76) by decide) h2)
abbrev nh8 (rS : Nat → Nat → gU → gTs) : Prop := ∀ c i L q, rS c i L = some q → n8T L q.2.2
theorem pBl_n8T {rS : Nat → Nat → gU → gTs} {z : Nat} (hr : nh8 rS) : ∀ (n c i : Nat) (L : gU) (q : Nat × Nat × gU), pBl rS K z n c i L = some q → n8T L q.2.2 := by
  intro n
  induction n with
  | zero => intro c i L q h; exact absurd h (by simp [pBl])
  | succ n ih =>
    intro c i L q h
    rw [pBl] at h
    split at h
    · split at h
      · cases Option.some.inj h; exact n8T_k (by decide)
      · exact absurd h (by simp)
    · obtain ⟨y, hy, h2⟩ := Option.bind_eq_some_iff.mp h
      exact n8T_tr (hr _ _ _ _ hy) (ih _ _ _ _ h2)
theorem pBk_n8T {rS : Nat → Nat → gU → gTs} {z : Nat} (hr : nh8 rS) {c i : Nat} {q : Nat × Nat × gU} (h : pBk rS K z c i L = some q) : n8T L q.2.2 := by
  unfold pBk at h
  split at h
  · exact n8T_tr (n8T_k (by decide)) (pBl_n8T hr _ _ _ _ _ h)
  · exact absurd h (by simp)
theorem pEl_n8T {rS : Nat → Nat → gU → gTs} (hr : nh8 rS) {q r : Nat × Nat × gU} (h : pEl rS K q = some r) : n8T q.2.2 r.2.2 := by
  unfold pEl at h
  split at h
  · split at h
    · split at h
      · exact n8T_tr (n8T_k (by decide)) (hr _ _ _ _ h)
      · exact n8T_tr (n8T_k (by decide)) (pBk_n8T hr h)
    · exact absurd h (by simp)
  · cases Option.some.inj h; exact n8T_rf
theorem pup_n8T {c : Nat} {v : Nat × Nat × Nat} {r : gOp} {q : Nat × Nat × gU} (hv : ¬ (v.1 = 31 ∨ v.1 = 32 ∨ 80 ≤ v.1)) (h : pup c v r = some q) : ∃ z, r = some z ∧ n8T z.2 q.2.2 := by
  unfold pup at h
  obtain ⟨z, hz, e⟩ := Option.bind_eq_some_iff.mp h
  cases Option.some.inj e
  exact ⟨z, hz, n8T_k hv⟩
theorem pS1_n8T {f c i : Nat} {q : Nat × Nat × gU} (h : pS1 K f c i L = some q) : n8T L q.2.2 := by
  unfold pS1 at h
  split at h
  · split at h
    · obtain ⟨z, h, g⟩ := pup_n8T (show ¬ (22 = 31 ∨ 22 = 32 ∨ 80 ≤ 22) by decide) h
      obtain ⟨y, hy, h2⟩ := Option.bind_eq_some_iff.mp h
      exact n8T_tr (n8T_tr (n8T_tr (n8T_k (by decide)) (pR_n8T hy)) (pt_n8T h2)) g
    · exact absurd h (by simp)
  · split at h
    · split at h
      · split at h
        · obtain ⟨z, h, g⟩ := pup_n8T (show ¬ (78 = 31 ∨ 78 = 32 ∨ 80 ≤ 78) by decide) h
          obtain ⟨y5, hy5, h5⟩ := Option.bind_eq_some_iff.mp h
          obtain ⟨y4, hy4, h4⟩ := Option.bind_eq_some_iff.mp hy5
          obtain ⟨y3, hy3, h3⟩ := Option.bind_eq_some_iff.mp hy4
          obtain ⟨y2, hy2, h2⟩ := Option.bind_eq_some_iff.mp hy3
          exact n8T_tr (n8T_tr (n8T_tr (n8T_tr (n8T_tr (n8T_tr (n8T_k (by decide)) (pX_n8T hy2)) (pt_n8T h2)) (pt_n8T h3)) (pXq_n8T h4)) (pt_n8T h5)) g
        · exact absurd h (by simp)
      · split at h
        · obtain ⟨z, h, g⟩ := pup_n8T (show ¬ (77 = 31 ∨ 77 = 32 ∨ 80 ≤ 77) by decide) h
          obtain ⟨y2, hy2, h2⟩ := Option.bind_eq_some_iff.mp h
          exact n8T_tr (n8T_tr (pR_n8T hy2) (pt_n8T h2)) g
        · exact absurd h (by simp)
    · split at h
      · obtain ⟨z, h, g⟩ := pup_n8T (show ¬ (68 = 31 ∨ 68 = 32 ∨ 80 ≤ 68) by decide) h
        have := pt_n8T h
        exact n8T_tr this g
      · split at h
        · obtain ⟨z, h, g⟩ := pup_n8T (show ¬ (69 = 31 ∨ 69 = 32 ∨ 80 ≤ 69) by decide) h
          obtain ⟨y2, hy2, h2⟩ := Option.bind_eq_some_iff.mp h
          exact n8T_tr (n8T_tr (pX_n8T hy2) (pt_n8T h2)) g
        · split at h
          · split at h
            · obtain ⟨z, h, g⟩ := pup_n8T (show ¬ (70 = 31 ∨ 70 = 32 ∨ 80 ≤ 70) by decide) h
              obtain ⟨y2, hy2, h2⟩ := Option.bind_eq_some_iff.mp h
              exact n8T_tr (n8T_tr (pX_n8T hy2) (pt_n8T h2)) g
            · exact absurd h (by simp)
          · split at h
            · split at h
              · obtain ⟨z, h, g⟩ := pup_n8T (show ¬ (66 = 31 ∨ 66 = 32 ∨ 80 ≤ 66) by decide) h
                have := pt_n8T h
                exact n8T_tr this g
              · exact absurd h (by simp)
            · split at h
              · split at h
                · obtain ⟨z, h, g⟩ := pup_n8T (show ¬ (67 = 31 ∨ 67 = 32 ∨ 80 ≤ 67) by decide) h
                  have := pt_n8T h
                  exact n8T_tr this g
                · exact absurd h (by simp)
              · exact absurd h (by simp)
theorem pfi_n8T {q r : Nat × Nat × gU} (h : pfi q = some r) : n8T q.2.2 r.2.2 := by
  unfold pfi at h
  cases Option.some.inj h
  exact n8T_k (by decide)
theorem pS_n8T : ∀ f : Nat, nh8 (pS K f) := by
  intro f
  induction f with
  | zero => intro c i L q h; exact absurd h (by simp [pS])
  | succ f ih =>
    intro c i L q h
    rw [pS] at h
    split at h
    · exact absurd h (by simp)
    · split at h
      · obtain ⟨z, hz, h2⟩ := Option.bind_eq_some_iff.mp h
        obtain ⟨x, hx, h4⟩ := Option.bind_eq_some_iff.mp h2
        obtain ⟨y, hy, h3⟩ := Option.bind_eq_some_iff.mp hx
        exact n8T_tr (n8T_tr (n8T_tr (n8T_tr (pX_n8T hz) (n8T_k (by decide))) (pBk_n8T ih hy)) (pEl_n8T ih h3)) (pfi_n8T h4)
      · split at h
        · obtain ⟨z, hz, h2⟩ := Option.bind_eq_some_iff.mp h
          exact n8T_tr (n8T_tr (pX_n8T hz) (n8T_k (by decide))) (pBk_n8T ih h2)
        · split at h
          · split at h
            · exact n8T_tr (n8T_k (by decide)) (pBk_n8T ih h)
            · exact absurd h (by simp)
          · exact pS1_n8T h
/-- cells as told: each name's cells are alike; they are as many as the numbers say -/
def celP (K V : Nat → Int32) (L : gU) : Prop := (cel K V L).length = nbT 0 (L.filterMap (te1 K V)) ∧ ∀ T1 q T2, L.filterMap (te1 K V) = T1 ++ q :: T2 → q.2.1 = 0 → ∃ p : Int32 × Bool, ∀ i, i < max q.2.2.1 1 → (cel K V L)[nbT 0 T1 + i]? = some p
theorem celP_0 {V : Nat → Int32} : celP K V [] := ⟨rfl, fun T1 q T2 h => by
  have h : ([] : gTd) = T1 ++ q :: T2 := h
  cases T1 <;> cases h⟩
theorem nbT_0 {T : gTd} (h : ∀ q ∈ T, ¬ q.2.1 = 0) : nbT 0 T = 0 := by
  induction T with
  | nil => rfl
  | cons q T ih => rw [nbT, if_neg (h q List.mem_cons_self), ih (fun r hr => h r (List.mem_cons_of_mem _ hr))]
/-- one more entry -/
theorem app_one {T T1 T2 : gTd} {q r : Nat × Nat × Nat × Nat} (h : T ++ [r] = T1 ++ q :: T2) : (T1 = T ∧ q = r ∧ T2 = []) ∨ ∃ T3, T = T1 ++ q :: T3 ∧ T2 = T3 ++ [r] := by
  rcases List.append_eq_append_iff.mp h with ⟨a, h1, h2⟩ | ⟨a, h1, h2⟩
  · cases a with
    | nil =>
      rw [List.nil_append] at h2
      rw [List.append_nil] at h1
      cases h2
      exact Or.inl ⟨h1, rfl, rfl⟩
    | cons b a =>
      rw [List.cons_append] at h2
      have := congrArg List.length h2
      simp at this
  · cases a with
    | nil =>
      rw [List.nil_append] at h2
      rw [List.append_nil] at h1
      cases h2
      exact Or.inl ⟨h1.symm, rfl, rfl⟩
    | cons b a =>
      rw [List.cons_append] at h2
      cases h2
      exact Or.inr ⟨a, h1, rfl⟩
/-- what tells of no cell -/
theorem celP_no {V : Nat → Int32} {N : gU} (h : celP K V L) (hN : ∀ v ∈ N, ¬ (v.1 = 31 ∨ v.1 = 32 ∨ 80 ≤ v.1)) : celP K V (L ++ N) := by
  have e : cel K V (L ++ N) = cel K V L := by unfold cel; rw [ces_app, ces_no hN]
  have n0 : ∀ q ∈ N.filterMap (te1 K V), ¬ q.2.1 = 0 := fun q hq => by
    obtain ⟨v, hv, hq⟩ := List.mem_filterMap.mp hq
    have nv := hN v hv
    unfold te1 at hq
    rw [if_neg (fun z => nv (Or.inl z)), if_neg (fun z => nv (Or.inr (Or.inl z)))] at hq
    split at hq
    · cases hq; exact (by decide : ¬ (1 : Nat) = 0)
    · split at hq
      · cases hq; exact (by decide : ¬ (2 : Nat) = 0)
      · cases hq
  unfold celP
  rw [e, List.filterMap_append]
  refine ⟨by rw [nbT_app, nbT_0 n0]; exact h.1, fun T1 q T2 hT hq => ?_⟩
  rcases List.append_eq_append_iff.mp hT with ⟨a, h1, h2⟩ | ⟨a, h1, h2⟩
  · -- it lies in what is new: no cell
    have : q ∈ N.filterMap (te1 K V) := by rw [h2]; exact List.mem_append_right _ List.mem_cons_self
    exact absurd hq (n0 q this)
  · cases a with
    | nil =>
      rw [List.nil_append] at h2
      have : q ∈ N.filterMap (te1 K V) := by rw [← h2]; exact List.mem_cons_self
      exact absurd hq (n0 q this)
    | cons b a =>
      rw [List.cons_append] at h2
      cases h2
      exact h.2 T1 q a h1 hq
/-- a cell, or a row of them -/
theorem celP_one {V : Nat → Int32} {v w : Nat × Nat × Nat} {i t : Nat} (h : celP K V L) (hv : v = (31, t, 0) ∨ v = (32, t, t + 2)) (hw : w.1 = 80 ∨ w.1 = 81 ∨ w.1 = 82) : celP K V (L ++ [v] ++ [w] ++ [(83, i, t)]) := by
  obtain ⟨c, ec⟩ : ∃ c, c = ces K V L (0, 0, []) := ⟨_, rfl⟩
  obtain ⟨n, en⟩ : ∃ n : Nat, n = (if v.1 = 31 then 1 else prz K V v.2.2) := ⟨_, rfl⟩
  have n1 : 1 ≤ n ∧ (∀ q, te1 K V v = some q → q.2.1 = 0 ∧ max q.2.2.1 1 = n) := by
    have pz : 1 ≤ prz K V v.2.2 := by
      unfold prz
      split
      · next z =>
        have k1 : (1 : Int32).toInt = 1 := rfl
        have := t_le.mp z.2.1
        rw [t_cl]
        omega
      · exact Nat.le_refl _
    rcases hv with e | e
    · subst e
      rw [en]
      refine ⟨Nat.le_refl _, fun q hq => ?_⟩
      cases hq
      exact ⟨rfl, rfl⟩
    · subst e
      rw [en]
      refine ⟨pz, fun q hq => ?_⟩
      cases hq
      refine ⟨rfl, ?_⟩
      show max (prz K V (t + 2)) 1 = prz K V (t + 2)
      exact Nat.max_eq_left pz
  obtain ⟨q0, hq0⟩ : ∃ q, te1 K V v = some q := by rcases hv with e | e <;> subst e <;> exact ⟨_, rfl⟩
  obtain ⟨k0, mx⟩ := n1.2 q0 hq0
  have s1 : ceV K V c v = (n, c.2) := by rcases hv with e | e <;> subst e <;> rw [en] <;> rfl
  obtain ⟨s, s2⟩ : ∃ s, ceV K V (n, c.2) w = (n, s, c.2.2) := by
    unfold ceV
    rw [if_neg (by omega), if_neg (by omega)]
    rcases hw with e | e | e
    · rw [if_pos e]; exact ⟨_, rfl⟩
    · rw [if_neg (by omega), if_pos e]; exact ⟨_, rfl⟩
    · rw [if_neg (by omega), if_neg (by omega), if_pos e]; exact ⟨_, rfl⟩
  obtain ⟨b, s3⟩ : ∃ b : Bool, ceV K V (n, s, c.2.2) (83, i, t) = (n, s, c.2.2 ++ List.replicate n (s, b)) := ⟨_, rfl⟩
  have ce : cel K V (L ++ [v] ++ [w] ++ [(83, i, t)]) = cel K V L ++ List.replicate n (s, b) := by
    unfold cel
    rw [ces_app, ces_app, ces_app, ← ec]
    show (ceV K V (ceV K V (ceV K V c v) w) (83, i, t)).2.2 = c.2.2 ++ _
    rw [s1, s2, s3]
  have tw : te1 K V w = none := by
    unfold te1
    rw [if_neg (by omega), if_neg (by omega), if_neg (by omega), if_neg (by omega)]
  have te : (L ++ [v] ++ [w] ++ [(83, i, t)]).filterMap (te1 K V) = L.filterMap (te1 K V) ++ [q0] := by
    rw [List.filterMap_append, List.filterMap_append, List.filterMap_append]
    have a1 : [v].filterMap (te1 K V) = [q0] := by simp [hq0]
    have a2 : [w].filterMap (te1 K V) = [] := by simp [tw]
    have a3 : [((83, i, t) : Nat × Nat × Nat)].filterMap (te1 K V) = [] := rfl
    rw [a1, a2, a3, List.append_nil, List.append_nil]
  unfold celP
  rw [ce, te]
  refine ⟨?_, fun T1 q T2 hT hq => ?_⟩
  · rw [List.length_append, List.length_replicate, nbT_app, h.1, nbT, nbT, if_pos k0, mx, Nat.add_zero]
  · rcases app_one hT with ⟨e1, e2, -⟩ | ⟨T3, e1, -⟩
    · rw [e1, e2, mx, ← h.1]
      refine ⟨(s, b), fun j hj => ?_⟩
      rw [List.getElem?_append_right (by omega), Nat.add_sub_cancel_left, List.getElem?_replicate, if_pos hj]
    · obtain ⟨p, hp⟩ := h.2 T1 q T3 e1 hq
      refine ⟨p, fun j hj => ?_⟩
      have := hp j hj
      rw [List.getElem?_append_left (gt_lt this)]
      exact this
theorem pCl_cP {V : Nat → Int32} {n i t : Nat} {q : Nat × Nat × gU} (hc : celP K V L) (h : pCl K V n i t L = some q) : celP K V q.2.2 := by
  have cv : ∀ {j : Nat} {v : Nat × Nat × Nat} {m : Nat} {q : Nat × Nat × gU}, (v = (31, t, 0) ∨ v = (32, t, t + 2)) → ((pCv K (j, L ++ [v])).bind (pt K 67)).bind (fun q => some (m, q.1, q.2 ++ [(83, i, t)])) = some q → celP K V q.2.2 := fun {j v m q} hv hz => by
    obtain ⟨z, hz, h2⟩ := Option.bind_eq_some_iff.mp hz
    obtain ⟨y, hy, h3⟩ := Option.bind_eq_some_iff.mp hz
    obtain ⟨-, -, e3⟩ := pt_is h3
    cases h2
    show celP K V (z.2 ++ [(83, i, t)])
    rw [e3]
    unfold pCv at hy
    split at hy
    · split at hy
      · split at hy
        · split at hy
          · cases Option.some.inj hy
            exact celP_one hc hv (Or.inr (Or.inl rfl))
          · exact absurd hy (by simp)
        · split at hy
          · cases Option.some.inj hy
            exact celP_one hc hv (Or.inl rfl)
          · exact absurd hy (by simp)
      · exact absurd hy (by simp)
    · cases Option.some.inj hy
      exact celP_one hc hv (Or.inr (Or.inr rfl))
  unfold pCl at h
  split at h
  · split at h
    · split at h
      · exact cv (Or.inr rfl) h
      · exact absurd h (by simp)
    · exact cv (Or.inl rfl) h
  · exact absurd h (by simp)
theorem celP_n8 {V : Nat → Int32} (hc : celP K V L) (h : n8T L L') : celP K V L' := by
  obtain ⟨N, e, hN⟩ := h
  rw [e]
  exact celP_no hc hN
theorem pD_cP {V : Nat → Int32} {n : gN} {i : Nat} {q : gN × Nat × gU} (hc : celP K V L) (h : pD K V n i L = some q) : celP K V q.2.2 := by
  have blk : ∀ {m j : Nat} {v : Nat × Nat × Nat} {r : Nat × Nat × gU}, ¬ (v.1 = 31 ∨ v.1 = 32 ∨ 80 ≤ v.1) → pBk (pS K 16) K 0 0 j (L ++ [v]) = some r → celP K V r.2.2 := fun {m j v r} hv hr => celP_n8 (celP_no hc (fun w hw => by rw [List.mem_singleton.mp hw]; exact hv)) (pBk_n8T (pS_n8T 16) hr)
  unfold pD at h
  split at h
  · split at h
    · obtain ⟨z, hz, h2⟩ := Option.bind_eq_some_iff.mp h
      cases h2
      exact pCl_cP hc hz
    · exact absurd h (by simp)
  · split at h
    · obtain ⟨z, hz, h2⟩ := Option.bind_eq_some_iff.mp h
      cases h2
      exact pCl_cP hc hz
    · split at h
      · split at h
        · cases Option.some.inj h
          exact celP_no hc (fun w hw => by rw [List.mem_singleton.mp hw]; show ¬ (33 = 31 ∨ 33 = 32 ∨ 80 ≤ 33); decide)
        · exact absurd h (by simp)
      · split at h
        · split at h
          · obtain ⟨z, hz, h2⟩ := Option.bind_eq_some_iff.mp h
            cases h2
            exact blk (m := 0) (show ¬ (34 = 31 ∨ 34 = 32 ∨ 80 ≤ 34) by decide) hz
          · exact absurd h (by simp)
        · split at h
          · split at h
            · obtain ⟨z, hz, h2⟩ := Option.bind_eq_some_iff.mp h
              cases h2
              exact blk (m := 0) (show ¬ (34 = 31 ∨ 34 = 32 ∨ 80 ≤ 34) by decide) hz
            · exact absurd h (by simp)
          · split at h
            · split at h
              · obtain ⟨z, hz, h2⟩ := Option.bind_eq_some_iff.mp h
                obtain ⟨y, hy, h3⟩ := Option.bind_eq_some_iff.mp hz
                cases h2
                exact celP_n8 (celP_n8 (celP_no hc (fun w hw => by rw [List.mem_singleton.mp hw]; show ¬ (35 = 31 ∨ 35 = 32 ∨ 80 ≤ 35); decide)) (pX_n8T hy)) (pt_n8T h3)
              · exact absurd h (by simp)
            · split at h
              · split at h
                · obtain ⟨z, hz, h2⟩ := Option.bind_eq_some_iff.mp h
                  obtain ⟨y, hy, h3⟩ := Option.bind_eq_some_iff.mp hz
                  cases h2
                  exact celP_n8 (celP_n8 (celP_no hc (fun w hw => by rw [List.mem_singleton.mp hw]; show ¬ (36 = 31 ∨ 36 = 32 ∨ 80 ≤ 36); decide)) (pX_n8T hy)) (pt_n8T h3)
                · exact absurd h (by simp)
              · exact absurd h (by simp)
theorem pAl_cP {V : Nat → Int32} : ∀ (m : Nat) (n : gN) (i : Nat) (L : gU) (q : gN × Nat × gU), celP K V L → pAl K V m n i L = some q → celP K V q.2.2 := by
  intro m
  induction m with
  | zero => intro n i L q _ h; exact absurd h (by simp [pAl])
  | succ m ih =>
    intro n i L q hc h
    rw [pAl] at h
    split at h
    · cases Option.some.inj h; exact hc
    · obtain ⟨z, hz, h2⟩ := Option.bind_eq_some_iff.mp h
      exact ih _ _ _ _ (pD_cP hc hz) h2
/-- the first of a name -/
theorem nm_first {sN : Nat → Nat → Bool} {t : Nat} : ∀ {T : gTd} {q : Nat × Nat × Nat × Nat}, mtP sN T 0 t = some q → ∃ T1 T2, T = T1 ++ q :: T2 ∧ q.2.1 = 0 ∧ nmT sN 0 t T = nbT 0 T1 := by
  intro T
  induction T with
  | nil => intro q h; cases h
  | cons r T ih =>
    intro q h
    unfold mtP at h
    rw [List.find?_cons] at h
    cases hr : (decide (r.2.1 = 0) && sN r.1 t) with
    | true =>
      rw [hr] at h
      cases h
      rw [Bool.and_eq_true, decide_eq_true_eq] at hr
      refine ⟨[], T, rfl, hr.1, ?_⟩
      rw [nmT, if_pos (by rw [Bool.and_eq_true, decide_eq_true_eq]; exact hr)]
      rfl
    | false =>
      rw [hr] at h
      obtain ⟨T1, T2, e1, e2, e3⟩ := ih (q := q) h
      refine ⟨r :: T1, T2, by rw [e1]; rfl, e2, ?_⟩
      rw [nmT, if_neg (by rw [hr]; decide), nbT, e3]
end NT8
section NX3S
variable {sN : Nat → Nat → Bool} {V K : Nat → Int32} {L : gU} {P : Nat × Nat × Nat → Prop}
theorem NX3_of (hc : celP K V L) (l24 : (cel K V L).length ≤ 24) (h : WC sN K P (cds sN K L cd0)) : NX3 (codN sN V K L) := by
  obtain ⟨E, S, r, b, l, ec, -, -, w1, w2, w3⟩ := h
  have e1 : (cds sN K L cd0).2.1 = S := by rw [ec]
  intro j st hj o4 hix i hi
  have cs : (codN sN V K L).2.2.1 = cel K V L := rfl
  unfold codN at hj
  rw [e1] at hj
  obtain ⟨T, eT⟩ : ∃ T, T = L.filterMap (te1 K V) := ⟨_, rfl⟩
  have hj : (S.map (nStp sN (L.filterMap (te1 K V)) V K))[j]? = some st := hj
  rw [← eT] at hj
  rw [List.getElem?_map] at hj
  obtain ⟨s0, g0, e⟩ := Option.map_eq_some_iff.mp hj
  subst e
  obtain ⟨-, E0, ⟨q1, q2, q3, q4, q5, q5', q6, -⟩, -⟩ := w1 j s0 g0
  have o4 : s0.1 ≤ 4 := o4
  obtain ⟨tk, h5, -⟩ := q4 (by omega)
  have fl : s0.2.2.2.2.2.1 = true := (q6 o4).mpr (fun z => hix (by show s0.2.2.2.2.2.2.1.map _ = none; rw [z]; rfl))
  have eo : mOf sN T V s0 = Int32.ofNat (nmT sN 0 tk T) := by unfold mOf; rw [h5]; exact if_pos o4
  have es : mSz sN T s0 = Int32.ofNat (rsT sN T tk) := by unfold mSz; rw [if_pos fl, if_pos o4, h5]; rfl
  have hi : (i : Int) < (mSz sN T s0).toInt := hi
  rw [es] at hi
  show suM _ ((mOf sN T V s0).toNatClampNeg + i) = suM _ (mOf sN T V s0).toNatClampNeg
  rw [eo]
  unfold rsT at hi
  cases hm : mtP sN T 0 tk with
  | none =>
    simp only [hm] at hi
    have k0 : (Int32.ofNat 0).toInt = 0 := rfl
    rw [k0] at hi
    omega
  | some q =>
    simp only [hm] at hi
    obtain ⟨T1, T2, a1, a2, a3⟩ := nm_first hm
    obtain ⟨p, hp⟩ := hc.2 T1 q T2 (by rw [← eT]; exact a1) a2
    have p0 := hp 0 (by omega)
    have l0 := gt_lt p0
    have tot : nbT 0 T1 + max q.2.2.1 1 ≤ (cel K V L).length := by
      have := gt_lt (hp (max q.2.2.1 1 - 1) (by omega))
      omega
    have iq : i < q.2.2.1 := by
      have : (Int32.ofNat q.2.2.1).toInt = (q.2.2.1 : Nat) := Int32.toInt_ofNat_of_lt (by omega)
      rw [this] at hi
      omega
    have en : (Int32.ofNat (nmT sN 0 tk T)).toNatClampNeg = nbT 0 T1 := by
      rw [a3, t_cl, Int32.toInt_ofNat_of_lt (by omega)]; rfl
    rw [en]
    have pi := hp i (by omega)
    rw [Nat.add_zero] at p0
    unfold suM
    rw [cs, pi, p0]
end NX3S
end
section
/-! the class: its run, with the machine's states that it goes through -/
/-- the run stands behind n choices of the row c, by the way w -/
def KRun (C : gCo) (w n : Nat) (c : Nat → Nat) (x : gd) : Prop := RUN x ∧ (KMm x 120 C (runM C w c n) ∧ MIv C w (runM C w c n) ∧ kchL x 120 (chM C w (runM C w c n))) ∧ ((w = 0 ∨ w = 1) ∧ x.1 120 3 = Int32.ofNat w) ∧ (x.1 160 2).toInt = (n : Nat) ∧ ∀ k, k < n → c k < (chM C w (runM C w c k)).length ∧ (x.1 162 k).toInt = (c k : Nat)
section KRU
variable {G : kG} {q : kP} {d : Nat} {x x0 y z : gd} {F : Int32 → gd → Prop} {Fv : gd → Prop} {P : Option gv → gd → Prop} {X : String → gd → Prop} {C : gCo} {M : gMa} {w n : Nat} {c : Nat → Nat}
/-- what the machine holds, where all that it reaches stays -/
theorem KMm_ag {o : Nat} (hO : o = 120 ∨ o = 220) (hM : MM x o) (hK : CK x C) (f6 : y.1 60 6 = x.1 60 6) (f9 : y.1 60 9 = x.1 60 9) (e13 : y.1 60 13 = x.1 60 13) (ho : ∀ k, k = 7 ∨ k = 8 ∨ k = 9 → y.1 o k = x.1 o k) (hr : ∀ k, y.1 (o + 5) k = x.1 (o + 5) k) (g : KMm x o C M) : KMm y o C M :=
  KMm_fr hO hM hK f6 f9 e13 (ho 9 (by omega)) (fun j _ => hr j) (fun t k => by unfold rg pa; rw [ho 7 (by omega), ho 8 (by omega), hr]) g
theorem kchL_ag {o : Nat} {l : List gCh} (h13 : y.1 o 13 = x.1 o 13) (h : ∀ c k, (o + 11 ≤ c ∧ c ≤ o + 13) → y.1 c k = x.1 c k) (g : kchL x o l) : kchL y o l := by
  refine ⟨by rw [h13]; exact g.1, fun i ch hi => ?_⟩
  unfold kch
  rw [h (o + 11) i (by omega), h (o + 12) i (by omega), h (o + 13) i (by omega)]
  exact g.2 i ch hi
theorem kj_clear3 (hq : kV q) (h : ∀ y, JN y → fm (fun c k => (c = 160 ∧ 2 ≤ k ∧ k ≤ 4) ∨ (174 ≤ c ∧ c ≤ 178)) x y → y.1 160 2 = 0 → Fv y) : KT G q (d + 1) zk_X4_clear 0 [(0, vr 160)] [] x (rv Fv) := by
  refine kg_X4_clear_0 hq (fun x1 e1 x2 e2 x3 e3 x4 e4 x5 e5 x6 e6 x7 e7 z ez => rv_i (h z ?_ ?_ ?_))
  · have z2 : z.1 160 2 = 0 := by rw [ez, e7, e6, e5, e4, e3, e2, e1]; (simp only [si_get, sfl_get, Nat.reduceEqDiff, eq_self, and_false, false_and, and_true, true_and, if_true, if_false, reduceIte, reduceCtorEq])
    have z3 : z.1 160 3 = 0 := by rw [ez, e7, e6, e5, e4, e3, e2, e1]; (simp only [si_get, sfl_get, Nat.reduceEqDiff, eq_self, and_false, false_and, and_true, true_and, if_true, if_false, reduceIte, reduceCtorEq])
    have k0 : (0 : Int32).toInt = 0 := rfl
    unfold JN
    rw [z2, z3, k0]
    refine ⟨by omega, fun a ha => by omega, fun t ht => Or.inl ?_⟩
    rw [ez, e7, e6, e5, sfl_get, if_neg (by omega), sfl_get, if_neg (by omega), sfl_get, if_neg (by omega), sfl_get, if_neg (by omega), e4, sfl_get, if_pos ⟨rfl, ht⟩]
  · rw [ez, e7, e6, e5, e4, e3, e2, e1]
    exact fm_fl (fm_fl (fm_fl (fm_fl (fm_fl (fm_si (fm_si (fm_si (fm_rf _ _) (by omega)) (by omega)) (by omega)) (fun k _ => by omega)) (fun k _ => by omega)) (fun k _ => by omega)) (fun k _ => by omega)) (fun k _ => by omega)
  · rw [ez, e7, e6, e5, e4, e3, e2, e1]; (simp only [si_get, sfl_get, Nat.reduceEqDiff, eq_self, and_false, false_and, and_true, true_and, if_true, if_false, reduceIte, reduceCtorEq])
theorem kj_note3 (hq : kV q) (hJ : JN x) (hC : CO x) (hD : DE x 120) (h400 : (x.1 160 2).toInt < 400) (i : Int32) (h : ∀ y, JN y → fm (fun c k => 160 ≤ c ∧ c < 180) x y → (y.1 160 2).toInt = (x.1 160 2).toInt + 1 → (∀ k, y.1 162 k = if k = (x.1 160 2).toInt.toNat then i else x.1 162 k) → Fv y) : KT G q (d + 4) zk_X4_note 0 [(0, vr 160), (1, vi i), (2, vr 140)] [] x (rv Fv) := by
  have k400 : (400 : Int32).toInt = 400 := rfl
  have k1 : (1 : Int32).toInt = 1 := rfl
  have k0 : (0 : Int32).toInt = 0 := rfl
  obtain ⟨⟨b1, b2, b3⟩, hA, hT⟩ := id hJ
  obtain ⟨⟨c1, c2, c3, -⟩, -⟩ := hC
  refine kg_X4_note_0 hq _ ⟨fun c => ?_, fun c => absurd (t_lt.mpr (by rw [k400]; exact h400)) c⟩
  rw [t_lt, k400] at c
  refine ⟨by rw [vp_in_iff]; omega, fun x3 e3 x4 e4 => ?_⟩
  have q3 : x3.1 160 2 = x.1 160 2 := by rw [e3]; (simp only [si_get, sfl_get, Nat.reduceEqDiff, eq_self, and_false, false_and, and_true, true_and, if_true, if_false, reduceIte, reduceCtorEq])
  have f4 : fm (fun c k => c = 162 ∨ (c = 160 ∧ k = 2)) x x4 := by rw [e4, e3]; exact fm_si (fm_si (fm_rf _ _) (Or.inl rfl)) (Or.inr ⟨rfl, rfl⟩)
  have d4 : (x4.1 160 2).toInt = (x.1 160 2).toInt + 1 := by
    have : x4.1 160 2 = x.1 160 2 + 1 := by rw [e4, q3]; (simp only [si_get, sfl_get, Nat.reduceEqDiff, eq_self, and_false, false_and, and_true, true_and, if_true, if_false, reduceIte, reduceCtorEq])
    rw [this, t_add (by rw [k1]; omega) (by rw [k1]; omega), k1]
  have a4 : x4.1 160 3 = x.1 160 3 := f4 _ _ (by omega)
  have c4 : ∀ k, x4.1 162 k = if k = (x.1 160 2).toInt.toNat then i else x.1 162 k := fun k => by
    rw [e4, si_cell (by decide), e3, si_get]
    by_cases ck : k = (x.1 160 2).toInt.toNat
    · rw [if_pos ⟨rfl, ck⟩, if_pos ck]
    · rw [if_neg (fun z => ck z.2), if_neg ck]
  have hJ4 : JN x4 := by
    unfold JN
    rw [d4, a4]
    refine ⟨by omega, fun a ha => JA_eq (fun c k hc => f4 c k (by omega)) (hA a ha), fun t ht => ?_⟩
    rw [f4 174 t (by omega)]; exact hT t ht
  refine ⟨fun cn => ?_, fun _ => rv_i (h x4 hJ4 (fm_w f4 (fun c k q => by omega)) d4 c4)⟩
  intro x6 e6
  have va : vp_in (x4.1 160 3) 400 := by rw [a4, vp_in_iff]; omega
  have eN : (x4.1 160 3).toNatClampNeg = (x.1 160 3).toInt.toNat := by rw [a4]; rfl
  refine ⟨va, fun x8 e8 => ⟨va, fun x10 e10 => ⟨va, fun x12 e12 => ⟨va, fun x14 e14 => ⟨va, fun x16 e16 => ⟨va, fun x18 e18 => ?_⟩⟩⟩⟩⟩⟩
  rw [eN] at e8 e10 e12 e14 e16 e18
  have f18 : fm (fun c k => c = 162 ∨ (c = 160 ∧ (k = 2 ∨ k = 3)) ∨ (166 ≤ c ∧ c ≤ 171 ∧ k = (x.1 160 3).toInt.toNat)) x x18 := by
    rw [e18, e16, e14, e12, e10, e8, e6]
    exact fm_si (fm_si (fm_si (fm_si (fm_si (fm_si (fm_si (fm_w f4 (fun c k q => by omega)) (by omega)) (by omega)) (by omega)) (by omega)) (by omega)) (by omega)) (by omega)
  have de : ∀ k, x18.1 140 k = x.1 140 k := fun k => f18 _ _ (by omega)
  have d6 : ∀ k, x6.1 140 k = x.1 140 k := fun k => by rw [e6, si_cell (by decide), f4 _ _ (by omega)]
  have d8 : ∀ k, x8.1 140 k = x.1 140 k := fun k => by rw [e8, si_cell (by decide)]; exact d6 k
  have d10 : ∀ k, x10.1 140 k = x.1 140 k := fun k => by rw [e10, si_cell (by decide)]; exact d8 k
  have d12 : ∀ k, x12.1 140 k = x.1 140 k := fun k => by rw [e12, si_cell (by decide)]; exact d10 k
  have d14 : ∀ k, x14.1 140 k = x.1 140 k := fun k => by rw [e14, si_cell (by decide)]; exact d12 k
  have d16 : ∀ k, x16.1 140 k = x.1 140 k := fun k => by rw [e16, si_cell (by decide)]; exact d14 k
  rw [d6] at e8
  rw [d8] at e10
  rw [d10] at e12
  rw [d16, nar_b hD.1] at e18
  have s3 : (x18.1 160 3).toInt = (x.1 160 3).toInt + 1 := by
    have : x18.1 160 3 = x.1 160 3 + 1 := by rw [e18, e16, e14, e12, e10, e8, e6, a4]; (simp only [si_get, sfl_get, Nat.reduceEqDiff, eq_self, and_false, false_and, and_true, true_and, if_true, if_false, reduceIte, reduceCtorEq])
    rw [this, t_add (by rw [k1]; omega) (by rw [k1]; omega), k1]
  have s2 : (x18.1 160 2).toInt = (x.1 160 2).toInt + 1 := by
    have : x18.1 160 2 = x4.1 160 2 := by rw [e18, e16, e14, e12, e10, e8, e6]; (simp only [si_get, sfl_get, Nat.reduceEqDiff, eq_self, and_false, false_and, and_true, true_and, if_true, if_false, reduceIte, reduceCtorEq])
    rw [this]; exact d4
  have g6 : x18.1 166 (x.1 160 3).toInt.toNat = x.1 140 0 := by rw [e18, e16, e14, e12, e10, e8]; (simp only [si_get, sfl_get, Nat.reduceEqDiff, eq_self, and_false, false_and, and_true, true_and, if_true, if_false, reduceIte, reduceCtorEq])
  have g7 : x18.1 167 (x.1 160 3).toInt.toNat = x.1 140 1 := by rw [e18, e16, e14, e12, e10]; (simp only [si_get, sfl_get, Nat.reduceEqDiff, eq_self, and_false, false_and, and_true, true_and, if_true, if_false, reduceIte, reduceCtorEq])
  have g8 : x18.1 168 (x.1 160 3).toInt.toNat = x.1 140 2 := by rw [e18, e16, e14, e12]; (simp only [si_get, sfl_get, Nat.reduceEqDiff, eq_self, and_false, false_and, and_true, true_and, if_true, if_false, reduceIte, reduceCtorEq])
  have g11 : x18.1 171 (x.1 160 3).toInt.toNat = x.1 140 5 := by rw [e18]; (simp only [si_get, sfl_get, Nat.reduceEqDiff, eq_self, and_false, false_and, and_true, true_and, if_true, if_false, reduceIte, reduceCtorEq])
  have hde : (0 ≤ (x.1 140 0).toInt ∧ (x.1 140 0).toInt < (x.1 60 10).toInt) ∧ 0 ≤ (x.1 140 1).toInt ∧ (x.1 140 5 = 0 → ((x.1 140 1).toInt ≤ 4 → 0 ≤ (x.1 140 2).toInt ∧ (x.1 140 2).toInt < (x.1 60 6).toInt) ∧ ((5 ≤ (x.1 140 1).toInt ∧ (x.1 140 1).toInt ≤ 8) ∨ (x.1 140 1).toInt = 15 → 0 ≤ (x.1 140 2).toInt ∧ (x.1 140 2).toInt < (x.1 60 9).toInt) ∧ ((x.1 140 1).toInt = 9 ∨ (x.1 140 1).toInt = 10 → 0 ≤ (x.1 140 2).toInt ∧ (x.1 140 2).toInt < (x.1 60 10).toInt)) := by
    rcases hD.2 with e | e
    · rw [f4 140 0 (by omega)] at cn; exact absurd e cn
    · exact e
  have hJ18 : JN x18 := by
    unfold JN
    rw [s3, s2]
    refine ⟨by omega, fun a ha => ?_, fun t ht => ?_⟩
    · by_cases h9 : a = (x.1 160 3).toInt.toNat
      · rw [h9]
        unfold JA
        rw [g6, g7, g8, g11]
        obtain ⟨p1, p2, p3⟩ := hde
        refine ⟨by omega, p2, fun c5 => ?_⟩
        obtain ⟨r1, r2, r3⟩ := p3 c5
        exact ⟨fun z => by have := r1 z; omega, fun z => by have := r2 z; omega, fun z => by have := r3 z; omega⟩
      · have := hA a (by omega)
        unfold JA at this ⊢
        rw [f18 166 a (by omega), f18 167 a (by omega), f18 168 a (by omega), f18 171 a (by omega)]; exact this
    · rw [f18 174 t (by omega)]
      rcases hT t ht with e | e
      · exact Or.inl e
      · exact Or.inr ⟨e.1, by omega⟩
  have ea : (x4.1 160 3).toInt = (((x.1 160 3).toInt.toNat : Nat) : Int) := by rw [a4]; omega
  have n18 : x18.1 160 2 = x4.1 160 2 ∧ ∀ k, x18.1 162 k = x4.1 162 k := ⟨by rw [e18, e16, e14, e12, e10, e8, e6]; (simp only [si_get, sfl_get, Nat.reduceEqDiff, eq_self, and_false, false_and, and_true, true_and, if_true, if_false, reduceIte, reduceCtorEq]), fun k => by rw [e18, si_cell (by decide), e16, si_cell (by decide), e14, si_cell (by decide), e12, si_cell (by decide), e10, si_cell (by decide), e8, si_cell (by decide), e6, si_cell (by decide)]⟩
  have p183 : ∀ (y : gd) (s : Int32), JN y → fm (fun c k => 160 ≤ c ∧ c < 180) x y → (y.1 160 3).toInt = (x.1 160 3).toInt + 1 → (y.1 160 2 = x4.1 160 2 ∧ ∀ k, y.1 162 k = x4.1 162 k) → KT G q (d + 4) zk_X4_note 183 [(0, vr 160), (3, vi (x4.1 160 3))] [vi s, vi (x4.1 160 3), vr 172] y (rv Fv) := by
    intro y s hy fy y3 hn
    exact kg_X4_note_183 hq _ _ _ (kj_racesOf hq hy _ ea (by omega) (fun r => ⟨va, fun z ez => rv_i (h z (JN_ck (by rw [ez]; exact fm_si (fm_rf _ _) (Or.inl rfl)) hy) (by rw [ez]; exact fm_si fy (by omega)) (by rw [ez, si_cell (by decide), hn.1]; exact d4) (fun k => by rw [ez, si_cell (by decide), hn.2]; exact c4 k))⟩))
  have p162 : ∀ y, JN y → fm (fun c k => 160 ≤ c ∧ c < 180) x y → (y.1 160 3).toInt = (x.1 160 3).toInt + 1 → (y.1 160 2 = x4.1 160 2 ∧ ∀ k, y.1 162 k = x4.1 162 k) → KT G q (d + 4) zk_X4_note 162 [(0, vr 160), (3, vi (x4.1 160 3))] [] y (rv Fv) := by
    intro y hy fy y3 hn
    refine kg_X4_note_162 hq _ ⟨fun c9 => ⟨?_, p183 y _ hy fy y3 hn⟩, fun _ => p183 y _ hy fy y3 hn⟩
    rw [t_eq, k0, a4] at c9
    rw [a4, vp_in_iff, t_sub (by rw [k1]; omega) (by rw [k1]; omega), k1]; omega
  have p141 : ∀ y, JN y → fm (fun c k => c = 160 ∧ k = 4) x18 y → KT G q (d + 4) zk_X4_note 141 [(0, vr 160), (2, vr 140), (3, vi (x4.1 160 3))] [] y (rv Fv) := by
    intro y hy fy
    have fxy : fm (fun c k => 160 ≤ c ∧ c < 180) x y := fm_tr (fm_w f18 (fun c k q => by omega)) (fm_w fy (fun c k q => by omega))
    have y3 : (y.1 160 3).toInt = (x.1 160 3).toInt + 1 := by rw [fy 160 3 (by omega)]; exact s3
    refine kg_X4_note_141 hq _ (kj_setClock hq hy _ ea (by omega) (fun z hz fz => ?_))
    have hn : z.1 160 2 = x4.1 160 2 ∧ ∀ k, z.1 162 k = x4.1 162 k := ⟨by rw [fz 160 2 (by omega), fy 160 2 (by omega)]; exact n18.1, fun k => by rw [fz 162 k (by omega), fy 162 k (by omega)]; exact n18.2 k⟩
    have z3 : (z.1 160 3).toInt = (x.1 160 3).toInt + 1 := by rw [fz 160 3 (by omega)]; exact y3
    have fxz := fm_tr fxy (fm_w fz (fun c k q => by show 160 ≤ c ∧ c < 180; omega))
    refine ⟨fun _ => p162 z hz fxz z3 hn, fun c5 => kj_handOn hq hz _ _ ea (by omega) ?_ (fun w fw => p162 w (JN_ck fw hz) (fm_tr fxz (fm_w fw (fun c k q => by unfold sCk at q; omega))) (by rw [fw 160 3 (by unfold sCk; omega)]; exact z3) ⟨by rw [fw 160 2 (by unfold sCk; omega)]; exact hn.1, fun k => by rw [fw 162 k (by unfold sCk; omega)]; exact hn.2 k⟩)⟩
    rw [fz 171 _ (by omega), fy 171 _ (by omega), g11]
    rw [fz 140 5 (by omega), fy 140 5 (by omega), de] at c5
    exact c5
  refine ⟨fun _ => p141 x18 hJ18 (fm_rf _ _), fun _ => ⟨fun _ => p141 x18 hJ18 (fm_rf _ _), fun _ x21 e21 => p141 x21 ?_ (by rw [e21]; exact fm_si (fm_rf _ _) ⟨rfl, rfl⟩)⟩⟩
  have f21 : fm (fun c k => c = 160 ∧ k = 4) x18 x21 := by rw [e21]; exact fm_si (fm_rf _ _) ⟨rfl, rfl⟩
  unfold JN at hJ18 ⊢
  rw [f21 160 3 (by omega), f21 160 2 (by omega)]
  refine ⟨hJ18.1, fun a ha => JA_eq (fun c k hc => f21 c k (by omega)) (hJ18.2.1 a ha), fun t ht => ?_⟩
  rw [f21 174 t (by omega)]; exact hJ18.2.2 t ht
theorem kh_beginRun (hq : kV q) (hC : CO x) (hK : CK x C) (gc : GC C) (w01 : w = 0 ∨ w = 1) (c : Nat → Nat) (h : ∀ y, fm sRn x y → KRun C w 0 c y → (∀ k, y.1 162 k = x.1 162 k) → y.1 0 10 = 1 → Fv y) : KT G q (d + 6) zk_X11_beginRun 0 [(0, vr 0), (1, vi (Int32.ofNat w))] [] x (rv Fv) := by
  have hm : kiM q 120 := Or.inl rfl
  have hw : Int32.ofNat w = 0 ∨ Int32.ofNat w = 1 := by
    rcases w01 with e | e <;> rw [e]
    · exact Or.inl rfl
    · exact Or.inr rfl
  refine kg_X11_beginRun_0 hq _ (kh_reset hq hm hC hK gc.1 _ hw (fun x1 hM f1 h3 g1 => ?_))
  have hK1 : CK x1 C := CK_f hK (fun c k hc => f1 c k (by unfold sRe; omega))
  refine kh_listChoices hq hm hM hK1 gc.1 g1 WLk_fs h3 w01 (fun x2 f2 hL hch => kj_clear3 hq (fun x3 hJ f3 z2 x4 e4 => rv_i ?_))
  have hM2 := MM_Li (Or.inl rfl) f2 hM
  have g : ∀ c k, c < 160 → ¬ (c = 0) → x4.1 c k = x2.1 c k := fun c k a b => by rw [e4, si_get, if_neg (by omega)]; exact f3 c k (by omega)
  have hc : agC x2 x4 := fun c k hc => g c k (by omega) (by omega)
  have fA : fm sRn x x4 := by
    refine fm_tr (fm_tr (fm_tr (fm_w f1 (fun c k q => by unfold sRe at q; unfold sRn; omega)) (fm_w f2 (fun c k q => by unfold sLi at q; unfold sRn; omega))) (fm_w f3 (fun c k q => by unfold sRn; omega))) ?_
    rw [e4]; exact fm_si (fm_rf _ _) (by unfold sRn; omega)
  refine h x4 fA ⟨⟨MM_ag hc (fun k a b => g _ _ (by omega) (by omega)) (fun k hk => g _ _ (by omega) (by omega)) hM2, LSk_ag hM2 hc (fun k a b => g _ _ (by omega) (by omega)) (fun k hk => g _ _ (by omega) (by omega)) (g _ _ (by omega) (by omega)) (fun k => g _ _ (by omega) (by omega)) (fun k => g _ _ (by omega) (by omega)) hL, ?_⟩, ⟨?_, MIv_fs, ?_⟩, ⟨w01, ?_⟩, ?_, fun k hk => absurd hk (Nat.not_lt_zero _)⟩ (fun k => ?_) (by rw [e4, si_get, if_pos ⟨rfl, rfl⟩])
  · refine JN_o (fun c k a b => ?_) hJ
    rw [e4, si_get, if_neg (by omega)]
  · exact KMm_ag (Or.inl rfl) hM2 (CK_Li (Or.inl rfl) hK1 f2) (g _ _ (by omega) (by omega)) (g _ _ (by omega) (by omega)) (g _ _ (by omega) (by omega)) (fun k hk => g _ _ (by omega) (by omega)) (fun k => g _ _ (by omega) (by omega)) (KMm_Li (Or.inl rfl) hM hK1 f2 g1)
  · exact kchL_ag (g _ _ (by omega) (by omega)) (fun c k hc => g c k (by omega) (by omega)) hch
  · rw [g _ _ (by omega) (by omega), f2 _ _ (by unfold sLi; omega)]; exact h3
  · rw [e4, si_get, if_neg (by omega), z2]; rfl
  · rw [e4, si_get, if_neg (by omega), f3 _ _ (by omega), f2 _ _ (by unfold sLi; omega), f1 _ _ (by unfold sRe; omega)]
/-- a choice is done -/
theorem kh_doChoice (hq : kV q) (hK : CK x C) (gc : GC C) (hX3 : NX3 C) (hR : KRun C w n c x) (i : Int32) {I : Nat} (ei : i.toInt = (I : Nat)) (hi : I < (chM C w (runM C w c n)).length) (n400 : n < 400) (eI : c n = I) (h : ∀ y, fm sRn x y → KRun C w (n + 1) c y → (∀ k, ¬ k = n → y.1 162 k = x.1 162 k) → y.1 0 10 = x.1 0 10 → Fv y) : KT G q (d + 6) zk_X11_doChoice 0 [(0, vr 0), (1, vi i)] [] x (rv Fv) := by
  have hm : kiM q 120 := Or.inl rfl
  have k0 : (0 : Int32).toInt = 0 := rfl
  have k400 : (400 : Int32).toInt = 400 := rfl
  obtain ⟨⟨hM, hL, hJ⟩, ⟨gM, hI, hch⟩, ⟨w01, wy⟩, hn, hcs⟩ := hR
  obtain ⟨hN, hX, l6⟩ := gc
  have e13 : (x.1 120 13).toInt = ((chM C w (runM C w c n)).length : Nat) := hch.1
  obtain ⟨ch, hci⟩ : ∃ ch, (chM C w (runM C w c n))[I]? = some ch := ⟨_, List.getElem?_eq_getElem hi⟩
  have cm := List.mem_of_getElem? hci
  have l84 := hL.1.2
  refine kg_X11_doChoice_0 hq i ⟨fun cc => ?_, fun c0 => ⟨fun cc => ?_, fun c1 => ⟨fun _ => ?_, fun cc => ?_⟩⟩⟩
  · exfalso; rw [t_lt, k0] at cc; omega
  · exfalso; rw [t_le] at cc; omega
  · refine kh_perform hq hm hM hK hN hX hX3 gM (WMw_WM hI.1) wy w01 i ei (by omega) (hch.2 I ch hci) (ch_in cm) (fun x4 hM4 f4 hD4 g4 => ?_)
    have hK4 := CK_M (Or.inl rfl) hK f4
    have hJ4 : JN x4 := JN_o (fun c k a b => f4 c k (by unfold sMk; omega)) hJ
    have n4 : x4.1 160 2 = x.1 160 2 := f4 _ _ (by unfold sMk; omega)
    refine kj_note3 hq hJ4 hM4.1 hD4 (by rw [n4, hn]; omega) i (fun x5 hJ5 f5 d5 c5 => ?_)
    rw [n4, hn] at d5
    rw [n4, hn] at c5
    have hc5 : agC x4 x5 := fun c k hc => f5 c k (by omega)
    have hM5 : MM x5 120 := MM_ag hc5 (fun k a b => f5 _ _ (by omega)) (fun k hk => f5 _ _ (by omega)) hM4
    have hK5 : CK x5 C := CK_f hK4 (fun c k hc => f5 c k (by omega))
    have g5 : KMm x5 120 C (doM C w (runM C w c n) ch) := KMm_ag (Or.inl rfl) hM4 hK4 (f5 _ _ (by omega)) (f5 _ _ (by omega)) (f5 _ _ (by omega)) (fun k hk => f5 _ _ (by omega)) (fun k => f5 _ _ (by omega)) g4
    have hI' := MIv_do hX l6 hI cm
    have rE : runM C w c (n + 1) = doM C w (runM C w c n) ch := runM_s (by rw [eI]; exact hci)
    have w5 : x5.1 120 3 = Int32.ofNat w := by rw [f5 _ _ (by omega), f4 _ _ (by unfold sMk; omega)]; exact wy
    refine kh_listChoices hq hm hM5 hK5 hN g5 hI'.2 w5 w01 (fun x6 f6 hL6 hch6 => rv_i (h x6 ?_ ⟨⟨MM_Li (Or.inl rfl) f6 hM5, hL6, JN_o (fun c k a b => f6 c k (by unfold sLi; omega)) hJ5⟩, ⟨?_, ?_, ?_⟩, ⟨w01, ?_⟩, ?_, fun k hk => ?_⟩ (fun k hk => ?_) (by rw [f6 _ _ (by unfold sLi; omega), f5 _ _ (by omega), f4 _ _ (by unfold sMk; omega)])))
    · exact fm_tr (fm_tr (fm_w f4 (fun c k q => by unfold sMk at q; unfold sRn; omega)) (fm_w f5 (fun c k q => by unfold sRn; omega))) (fm_w f6 (fun c k q => by unfold sLi at q; unfold sRn; omega))
    · rw [rE]; exact KMm_Li (Or.inl rfl) hM5 hK5 f6 g5
    · rw [rE]; exact hI'
    · rw [rE]; exact hch6
    · rw [f6 _ _ (by unfold sLi; omega)]; exact w5
    · rw [f6 _ _ (by unfold sLi; omega), d5]; push_cast; rfl
    · have e6 : x6.1 162 k = if k = n then i else x.1 162 k := by
        rw [f6 _ _ (by unfold sLi; omega), c5 k, f4 _ _ (by unfold sMk; omega)]
        rfl
      rw [e6]
      by_cases ck : k = n
      · rw [if_pos ck, ck, eI]; exact ⟨hi, ei⟩
      · rw [if_neg ck]; exact hcs k (by omega)
    · rw [f6 _ _ (by unfold sLi; omega), c5 k, f4 _ _ (by unfold sMk; omega)]
      show (if k = n then i else x.1 162 k) = _
      rw [if_neg hk]
  · exfalso; exact cc (t_lt.mpr (by rw [k400, hn]; omega))
end KRU
end
section
/-! the machine: what lies beyond the program stays as it was, so that states are the same where all that there is is the same -/
/-- locks that there are -/
def LkN (C : gCo) (nl : Nat) : Prop := ∀ (j : Nat) (st : gNs), C.1[j]? = some st → 5 ≤ st.1 → st.1 ≤ 8 → st.2.2.2.2.1.toNatClampNeg < nl
def tCn (C : gCo) (h : gTq) : Prop := (∀ p, ¬ ((h.1 = 1 ∨ h.1 = 3) ∧ p < (stN C h.2.2.1).2.1.length) → h.2.2.2.2.2.2.2 p = 0) ∧ (¬ h.2.2.2.1 = 0 → (stN C h.2.2.1).1 = 7) ∧ ∀ q ∈ h.2.2.2.2.2.2.1, q.1 < C.2.2.1.length
def MCn (C : gCo) (nl : Nat) (M : gMa) : Prop := (∀ c, C.2.2.1.length ≤ c → M.1 c = 0) ∧ (∀ l, nl ≤ l → M.2.1 l = (0, 0)) ∧ ∀ t, (C.2.1.length ≤ t → M.2.2 t = th0) ∧ tCn C (M.2.2 t)
section PCN
variable {C : gCo} {M : gMa} {w t s c i nl : Nat} {e f : Int32} {wk : Option Nat} {ch : gCh} {h : gTq} {lv : Nat → Int32}
theorem tCn_0 : tCn C th0 := ⟨fun _ _ => rfl, fun z => absurd rfl z, fun q hq => by cases hq⟩
theorem tCn_N (hw : h.2.2.2.1 = 0) (hl : ∀ q ∈ h.2.2.2.2.2.2.1, q.1 < C.2.2.1.length) : tCn C (thN C t h s lv) := by
  refine ⟨fun p hp => ?_, fun z => absurd hw z, hl⟩
  show kvL C _ _ _ p = 0
  unfold kvL
  exact if_neg hp
theorem MCn_fs : MCn C nl (fsM C) := by
  refine ⟨fun c hc => ?_, fun _ _ => rfl, fun t => ?_⟩
  · show (match C.2.2.1[c]? with | some q => q.1 | none => 0) = 0
    rw [List.getElem?_eq_none_iff.mpr hc]
  · by_cases q : t < C.2.1.length
    · obtain ⟨q9, hq⟩ : ∃ q9, C.2.1[t]? = some q9 := ⟨_, List.getElem?_eq_getElem q⟩
      refine ⟨fun z => absurd q (by omega), ?_⟩
      by_cases c1 : q9.2 = 1
      · rw [fs_idle hq c1]; exact tCn_0
      · rw [fs_go hq c1]; exact tCn_N rfl (fun q hq => by cases hq)
    · rw [fs_out (by omega)]; exact ⟨fun _ => rfl, tCn_0⟩
theorem stN_in (h : 1 ≤ (stN C s).1) : ∃ st, C.1[s]? = some st ∧ stN C s = st := by
  unfold stN at h ⊢
  cases hs : C.1[s]? with
  | none => rw [hs] at h; exact absurd h (by decide)
  | some st => exact ⟨st, rfl, rfl⟩
theorem MCn_up (q : MCn C nl M) (ht : t < C.2.1.length) (hh : tCn C h) : MCn C nl (upT M t h) := by
  refine ⟨q.1, q.2.1, fun t' => ?_⟩
  show (_ → upf M.2.2 t h t' = th0) ∧ tCn C (upf M.2.2 t h t')
  by_cases z : t' = t
  · rw [z, upf_eq]; exact ⟨fun z => absurd ht (by omega), hh⟩
  · rw [upf_ne z]; exact q.2.2 t'
theorem MCn_C (q : MCn C nl M) {v : Int32} (hc : c < C.2.2.1.length) : MCn C nl (upC M c v) := by
  refine ⟨fun c' hc' => ?_, q.2⟩
  show upf M.1 c v c' = 0
  rw [upf_ne (by omega)]; exact q.1 c' hc'
theorem MCn_L (q : MCn C nl M) {v : Nat × Int32} (hc : c < nl ∨ v = (0, 0)) : MCn C nl (upL M c v) := by
  refine ⟨q.1, fun l hl => ?_, q.2.2⟩
  show upf M.2.1 c v l = (0, 0)
  by_cases z : l = c
  · rw [z, upf_eq]
    rcases hc with hc | hc
    · omega
    · exact hc
  · rw [upf_ne z]; exact q.2.1 l hl
theorem MCn_ef (hN : NC C) (hX : NXc C) (hL : LkN C nl) (lb : (C.2.2.1.length : Int) < 2147483648) (q : MCn C nl M) (qw : WMw w M) (t6 : t < 6) (tl : t < C.2.1.length) (l6 : C.2.1.length ≤ 6) (h1 : (M.2.2 t).1 = 1) (L0 : (lkM C w M t).1 = 0) : MCn C nl (efM C w M t (soM C (M.2.2 t)) (lkM C w M t).2.1.toNatClampNeg (lkM C w M t).2.2.1 (lkM C w M t).2.2.2 wk).1 := by
  obtain ⟨s, es⟩ : ∃ s, s = soM C (M.2.2 t) := ⟨_, rfl⟩
  obtain ⟨c, ec⟩ : ∃ c, c = (lkM C w M t).2.1.toNatClampNeg := ⟨_, rfl⟩
  have qt := (q.2.2 t).2
  rw [← es, ← ec]
  by_cases c15 : s = 15
  · rw [c15, ef_15]
    have w0 : ¬ (M.2.2 t).2.2.2.1 = 0 := fun z => by
      have so : soM C (M.2.2 t) = (stN C (M.2.2 t).2.2.1).1 := by unfold soM; rw [if_pos z]
      obtain ⟨st, hst, e⟩ := stN_in (C := C) (s := (M.2.2 t).2.2.1) (by omega)
      exact (hN.1 _ st hst).1.2 (by rw [← e]; omega)
    have o7 := qt.2.1 w0
    obtain ⟨st, hst, e⟩ := stN_in (C := C) (s := (M.2.2 t).2.2.1) (by omega)
    have cE : c = st.2.2.2.2.1.toNatClampNeg := by rw [ec, lkM_15 w0, e]
    refine MCn_up (MCn_L q (Or.inl (by rw [cE]; rw [e] at o7; exact hL _ st hst (by omega) (by omega)))) tl ?_
    exact ⟨qt.1, fun z => absurd rfl z, qt.2.2⟩
  · obtain ⟨w0, so⟩ := so_0 (C := C) (M := M) (t := t) (by rw [← es]; exact c15)
    have cl : 1 ≤ s → s ≤ 4 → c < C.2.2.1.length := fun a b => by
      obtain ⟨st, hst, e⟩ := stN_in (C := C) (s := (M.2.2 t).2.2.1) (by omega)
      obtain ⟨p1, p2⟩ := lkM_pl w0 L0
      rw [ec, p2]
      exact lkI_in hX hst (by rw [← e]; omega) lb p1
    have lk : 5 ≤ s → s ≤ 8 → c < nl := fun a b => by
      obtain ⟨st, hst, e⟩ := stN_in (C := C) (s := (M.2.2 t).2.2.1) (by omega)
      have cE : c = st.2.2.2.2.1.toNatClampNeg := by
        rw [ec, (lkM_pl w0 L0).2, lkI_n (ix_no hX (by omega)), e]
      rw [cE]
      exact hL _ st hst (by rw [← e]; omega) (by rw [← e]; omega)
    have self : ∀ hh : gTq, hh.1 = (M.2.2 t).1 → hh.2.2.1 = (M.2.2 t).2.2.1 → hh.2.2.2.1 = (M.2.2 t).2.2.2.1 → hh.2.2.2.2.2.2.2 = (M.2.2 t).2.2.2.2.2.2.2 → (∀ q ∈ hh.2.2.2.2.2.2.1, q.1 < C.2.2.1.length) → MCn C nl (upT M t hh) := fun hh a1 a2 a3 a4 a5 => by
      refine MCn_up q tl ⟨?_, ?_, a5⟩
      · rw [a1, a2, a4]; exact qt.1
      · rw [a2, a3]; exact qt.2.1
    by_cases c0 : s = 0
    · rw [c0, ef_0]; exact q
    by_cases c1 : s = 1
    · rw [c1, ef_1]
      by_cases z : w = 0 ∨ suM C c = true
      · rw [if_pos z]; exact MCn_C q (cl (by omega) (by omega))
      · rw [if_neg z]
        refine self _ rfl rfl rfl rfl (fun r hr => ?_)
        rcases List.mem_append.mp hr with hr | hr
        · exact qt.2.2 r hr
        · rw [List.mem_singleton.mp hr]; exact cl (by omega) (by omega)
    by_cases c2 : s = 2
    · rw [c2, ef_2]; exact MCn_C q (cl (by omega) (by omega))
    by_cases c3 : s = 3
    · rw [c3, ef_3]; exact MCn_C q (cl (by omega) (by omega))
    by_cases c4 : s = 4
    · rw [c4, ef_4]; exact MCn_C q (cl (by omega) (by omega))
    by_cases c5 : s = 5
    · rw [c5, ef_5]; exact MCn_L q (Or.inl (lk (by omega) (by omega)))
    by_cases c6 : s = 6
    · rw [c6, ef_6]; exact MCn_L q (Or.inl (lk (by omega) (by omega)))
    by_cases c7 : s = 7
    · rw [c7, ef_7]
      refine MCn_up (MCn_L q (Or.inr rfl)) tl ⟨qt.1, fun _ => ?_, qt.2.2⟩
      show (stN C (M.2.2 t).2.2.1).1 = 7
      omega
    by_cases c8 : s = 8
    · rw [c8, ef_8]
      refine ⟨q.1, q.2.1, fun t' => ?_⟩
      show (_ → wkT C M t c wk t' = th0) ∧ tCn C (wkT C M t c wk t')
      have q' := q.2.2 t'
      unfold wkT
      split
      · next z =>
        refine ⟨fun z9 => absurd z.1 (by omega), q'.2.1, fun _ => ?_, q'.2.2.2⟩
        exact q'.2.2.1 (by rw [z.2.1]; decide)
      · exact q'
    by_cases c9 : s = 9
    · cases hq : C.2.1[c]? with
      | none =>
        have a : efM C w M t 9 c (lkM C w M t).2.2.1 (lkM C w M t).2.2.2 wk = (match C.2.1[c]? with | some q => upT M c (thN C c (M.2.2 c) q.1 (M.2.2 c).2.2.2.2.2.2.2) | none => M, 0) := by unfold efM; rfl
        rw [c9, a, hq]; exact q
      | some q9 =>
        rw [c9, ef_9 hq]
        have lc := gt_lt hq
        have rs := lkM_rs w0 L0
        rw [← so, ← es, c9, ← ec, rsF_9] at rs
        have z0 : (M.2.2 c).1 = 0 := Classical.byContradiction (fun n => by rw [if_neg n] at rs; exact nomatch rs)
        exact MCn_up q lc (tCn_N ((qw c (by omega)).2.2.1 (by omega)) (q.2.2 c).2.2.2)
    by_cases c13 : s = 13
    · rw [c13, ef_13]; exact self _ rfl rfl rfl rfl qt.2.2
    by_cases c14 : s = 14
    · rw [c14, ef_14]; exact self _ rfl rfl rfl rfl qt.2.2
    · have a : efM C w M t s c (lkM C w M t).2.2.1 (lkM C w M t).2.2.2 wk = (M, 0) := by
        unfold efM
        rw [if_neg c0, if_neg c1, if_neg c2, if_neg c3, if_neg c4, if_neg c5, if_neg c6, if_neg c7, if_neg c8, if_neg c9, if_neg c13, if_neg c14, if_neg c15]
      rw [a]; exact q
theorem MCn_ac (hN : NC C) (hX : NXc C) (hL : LkN C nl) (lb : (C.2.2.1.length : Int) < 2147483648) (q : MCn C nl M) (qw : WMw w M) (tl : t < C.2.1.length) (l6 : C.2.1.length ≤ 6) (h1 : (M.2.2 t).1 = 1) : MCn C nl (acM C w M t wk) := by
  have qt := (q.2.2 t).2
  by_cases L0 : (lkM C w M t).1 = 0
  · have me := MCn_ef (wk := wk) hN hX hL lb q qw (by omega) tl l6 h1 L0
    by_cases c7 : soM C (M.2.2 t) = 7
    · rw [c7] at me
      rw [acM_7 L0 c7, ef_7]
      rw [ef_7] at me
      exact me
    · have st9 : soM C (M.2.2 t) = 9 → (M.2.2 (lkM C w M t).2.1.toNatClampNeg).1 = 0 := fun e9 => by
        obtain ⟨w0, es⟩ := so_0 (C := C) (M := M) (t := t) (by omega)
        have rs := lkM_rs w0 L0
        rw [← es, e9, rsF_9] at rs
        exact Classical.byContradiction (fun n => by rw [if_neg n] at rs; exact nomatch rs)
      obtain ⟨-, b1, -, -⟩ := WMw_ef (C := C) (s := soM C (M.2.2 t)) (c := (lkM C w M t).2.1.toNatClampNeg) (e := (lkM C w M t).2.2.1) (f := (lkM C w M t).2.2.2) (wk := wk) qw (by omega) h1 (Classical.byCases Or.inl (fun n => Or.inr (so_0 n).1)) (fun e9 _ => st9 e9) (fun e9 z => by have := st9 e9; rw [z] at this; omega) c7
      rw [acM_is (E := (efM C w M t (soM C (M.2.2 t)) (lkM C w M t).2.1.toNatClampNeg (lkM C w M t).2.2.1 (lkM C w M t).2.2.2 wk).1) (v := (efM C w M t (soM C (M.2.2 t)) (lkM C w M t).2.1.toNatClampNeg (lkM C w M t).2.2.1 (lkM C w M t).2.2.2 wk).2) L0 c7 rfl]
      exact MCn_up me tl (tCn_N b1 (me.2.2 t).2.2.2)
  · have w0 : (M.2.2 t).2.2.2.1 = 0 := Classical.byContradiction (fun n0 => L0 (by rw [lkM_15 n0]))
    rw [acM_F L0]
    refine MCn_up q tl ⟨fun p hp => qt.1 p (fun z => hp ⟨Or.inr rfl, z.2⟩), qt.2.1, qt.2.2⟩
theorem MCn_la (q : MCn C nl M) (tl : t < C.2.1.length) : MCn C nl (laM M t i) := by
  unfold laM
  cases hq : (M.2.2 t).2.2.2.2.2.2.1[i]? with
  | none => exact q
  | some z9 =>
    have qt := (q.2.2 t).2
    refine MCn_up (MCn_C q (qt.2.2 z9 (List.mem_of_getElem? hq))) tl ⟨qt.1, qt.2.1, fun r hr => qt.2.2 r (List.mem_of_mem_eraseIdx hr)⟩
theorem MCn_do (hN : NC C) (hX : NXc C) (hL : LkN C nl) (lb : (C.2.2.1.length : Int) < 2147483648) (l6 : C.2.1.length ≤ 6) (q : MCn C nl M) (qi : MIv C w M) (h : ch ∈ chM C w M) : MCn C nl (doM C w M ch) := by
  obtain ⟨i1, i2, i3⟩ := ch_in h
  obtain ⟨t, lt9, wk⟩ := ch
  unfold doM
  cases lt9 with
  | none => exact MCn_ac hN hX hL lb q qi.1 i1 l6 (i2 rfl).1
  | some j => exact MCn_la q i1
/-- two states are one, where all that there is is the same -/
theorem MCn_eq {M' : gMa} (q : MCn C nl M) (q' : MCn C nl M') (hc : ∀ c, c < C.2.2.1.length → M.1 c = M'.1 c) (hl : ∀ l, l < nl → M.2.1 l = M'.2.1 l) (ht : ∀ t, t < C.2.1.length → M.2.2 t = M'.2.2 t) : M = M' := by
  refine Prod.ext (funext fun c => ?_) (Prod.ext (funext fun l => ?_) (funext fun t => ?_))
  · by_cases z : c < C.2.2.1.length
    · exact hc c z
    · rw [q.1 c (by omega), q'.1 c (by omega)]
  · by_cases z : l < nl
    · exact hl l z
    · rw [q.2.1 l (by omega), q'.2.1 l (by omega)]
  · by_cases z : t < C.2.1.length
    · exact ht t z
    · rw [(q.2.2 t).1 (by omega), (q'.2.2 t).1 (by omega)]
end PCN
end
section
/-! the machine: all that a program can do, state by state -/
/-- a trying: its states with whence and by which choice; whether it is partly -/
abbrev gTy := List (gMa × Nat × Nat) × Bool
/-- a state is added, if it is new -/
noncomputable def adS (lim s i : Nat) (T : gTy) (M : gMa) : gTy := @ite gTy (∃ q ∈ T.1, q.1 = M) (Classical.propDecidable _) T (if lim ≤ T.1.length then (T.1, true) else (T.1 ++ [(M, s, i)], T.2))
/-- the first n choices of a state are tried -/
noncomputable def onS (C : gCo) (w lim s : Nat) (M : gMa) : Nat → gTy → gTy
  | 0, T => T
  | n + 1, T => if (onS C w lim s M n T).2 = true then onS C w lim s M n T else adS lim s n (onS C w lim s M n T) (doM C w M (((chM C w M)[n]?).getD (0, none, none)))
/-- the states from s on are tried -/
noncomputable def bfS (C : gCo) (w lim : Nat) : Nat → Nat → gTy → gTy
  | 0, _, T => T
  | f + 1, s, T => match T.1[s]? with
    | none => T
    | some q => bfS C w lim f (s + 1) (onS C w lim s q.1 (chM C w q.1).length T)
noncomputable def tryM (C : gCo) (w lim : Nat) : gTy := bfS C w lim 3001 0 ([(fsM C, 0, 0)], false)
section PTR
variable {C : gCo} {w lim s i n f : Nat} {T : gTy} {M : gMa}
theorem adS_old (h : ∃ q ∈ T.1, q.1 = M) : adS lim s i T M = T := if_pos h
theorem adS_full (h : ¬ ∃ q ∈ T.1, q.1 = M) (hl : lim ≤ T.1.length) : adS lim s i T M = (T.1, true) := (if_neg h).trans (if_pos hl)
theorem adS_new (h : ¬ ∃ q ∈ T.1, q.1 = M) (hl : ¬ lim ≤ T.1.length) : adS lim s i T M = (T.1 ++ [(M, s, i)], T.2) := (if_neg h).trans (if_neg hl)
theorem onS_p (h : T.2 = true) : ∀ n, onS C w lim s M n T = T := by
  intro n
  induction n with
  | zero => rfl
  | succ n ih => rw [onS, ih, if_pos h]
theorem bfS_p (h : T.2 = true) : ∀ f s, bfS C w lim f s T = T := by
  intro f
  induction f with
  | zero => intro s; rfl
  | succ f ih =>
    intro s
    rw [bfS]
    cases hs : T.1[s]? with
    | none => rfl
    | some q =>
      simp only []
      rw [onS_p h, ih]
theorem bfS_end (h : T.1[s]? = none) : bfS C w lim f s T = T := by
  cases f with
  | zero => rfl
  | succ f => rw [bfS, h]
theorem bfS_go {q : gMa × Nat × Nat} (h : T.1[s]? = some q) : bfS C w lim (f + 1) s T = bfS C w lim f (s + 1) (onS C w lim s q.1 (chM C w q.1).length T) := by
  rw [bfS, h]
end PTR
end
section
/-! the model: begin, choices, go, draw, again, with the machine's states -/
def drV (v : Int32) : Int32 := v * 1103515245 + 12345
def drI (v : Int32) (n : Nat) : Nat := ((v >>> (16 &&& 31 : Int32)) &&& 32767).toNatClampNeg % n
/-- choices drawn: the row, and how many are done -/
noncomputable def drS (C : gCo) (w : Nat) : Nat → Int32 → (Nat → Nat) → Nat → (Nat → Nat) × Nat
  | 0, _, c, n => (c, n)
  | k + 1, v, c, n => if (chM C w (runM C w c n)).length = 0 ∨ 400 ≤ n then (c, n) else drS C w k (drV v) (upf c n (drI (drV v) (chM C w (runM C w c n)).length)) (n + 1)
theorem t_rem2 {v c : Int32} (hv : 0 ≤ v.toInt) (hc : 0 < c.toInt) : (v - v / c * c).toInt = ((v.toNatClampNeg % c.toInt.toNat : Nat) : Int) := by
  have r := t_rg v
  have e1 := t_div hv hc
  have p0 : 0 ≤ v.toInt / c.toInt * c.toInt := Int.mul_nonneg (Int.ediv_nonneg hv (by omega)) (by omega)
  have p1 : v.toInt / c.toInt * c.toInt ≤ v.toInt := Int.ediv_mul_le _ (by omega)
  have e2 : (v / c * c).toInt = v.toInt / c.toInt * c.toInt := by rw [t_mul (by rw [e1]; omega) (by rw [e1]; omega), e1]
  have e3 : (v - v / c * c).toInt = v.toInt - v.toInt / c.toInt * c.toInt := by rw [t_sub (by rw [e2]; omega) (by rw [e2]; omega), e2]
  have m := Int.emod_def v.toInt c.toInt
  rw [Int.mul_comm] at m
  have a : ((v.toNatClampNeg : Nat) : Int) = v.toInt := by rw [t_cl]; omega
  have b : ((c.toInt.toNat : Nat) : Int) = c.toInt := by omega
  rw [e3, Int.natCast_emod, a, b, m]
section MFC
variable {G : mG} {d D : Nat} {x z a : gd} {F : Int32 → gd → Prop} {Fv : gd → Prop} {C : gCo} {w : Nat}
/-- a new run, or the same one further: what changes -/
abbrev rnL : List Nat := 0 :: 67 :: 68 :: dL
abbrev rnA : List Nat := dA
theorem PM_run {z' : gd} (q : MI z) (hc : ¬ z.1 0 66 = 0) (m : mi rnL rnA z z') (hh : Hist z') : PM z z' := MI_new m rfl rfl hc hh q
/-- the row below n -/
def rwE (c c' : Nat → Nat) (n : Nat) : Prop := ∀ k, k < n → c k = c' k
theorem HistC_0 {y : gd} (m : mi [0] [] z y) (h : HistC C w z) : HistC C w y := HistC_mi m rfl rfl h
theorem HistC_b (h : HistC C w z) : (0 ≤ (z.1 0 84).toInt ∧ (z.1 0 84).toInt ≤ 84) ∧ 0 ≤ (z.1 0 94).toInt ∧ (z.1 0 94).toInt ≤ 400 := by
  obtain ⟨s, n, q1, q2, q3, q4, q5, q6, q7⟩ := h
  have e84 : z.1 0 84 = (s n).1 0 84 := q4 0 84 (Or.inr (Or.inl ⟨rfl, rfl⟩))
  have av := (q2 n (Nat.le_refl _)).1
  rw [e84]
  exact ⟨⟨av.2.2.2.1, av.2.2.2.2.1⟩, by omega, q7.2.2.1⟩
end MFC
end
section
/-! the class: begin, choices, go, draw, again, with the machine's states -/
theorem shr16 (a : Int32) : ((a.toUInt32 >>> ((16 : Int32).toUInt32 &&& Int32.toUInt32 31)).toInt32) &&& 32767 = (a >>> (16 &&& 31 : Int32)) &&& 32767 := by
  refine Int32.toBitVec_inj.mp ?_
  rw [Int32.toBitVec_and, Int32.toBitVec_and]
  have e1 : ((a.toUInt32 >>> ((16 : Int32).toUInt32 &&& Int32.toUInt32 31)).toInt32).toBitVec = a.toBitVec >>> 16 := rfl
  have e2 : (a >>> (16 &&& 31 : Int32)).toBitVec = a.toBitVec.sshiftRight 16 := rfl
  rw [e1, e2]
  refine BitVec.eq_of_getLsbD_eq (fun i hi => ?_)
  rw [BitVec.getLsbD_and, BitVec.getLsbD_and, BitVec.getLsbD_ushiftRight, BitVec.getLsbD_sshiftRight]
  by_cases c : i < 15
  · have h1 : 16 + i < 32 := by omega
    have h2 : ¬ 32 ≤ i := by omega
    simp [h1, h2]
  · have h : ∀ i, i < 32 → ¬ i < 15 → BitVec.getLsbD (Int32.toBitVec 32767) i = false := by decide +kernel
    rw [h i hi c, Bool.and_false, Bool.and_false]
section KF3
variable {G : kG} {q : kP} {d : Nat} {x y z : gd} {F : Int32 → gd → Prop} {Fv : gd → Prop} {P : Option gv → gd → Prop} {X : String → gd → Prop} {C : gCo} {w n : Nat} {c c' : Nat → Nat}
theorem KRun_cg (h : rwE c c' n) (r : KRun C w n c x) : KRun C w n c' x := by
  obtain ⟨r1, r2, r3, r4, r5⟩ := r
  have e : runM C w c n = runM C w c' n := runM_cg h
  rw [e] at r2
  refine ⟨r1, r2, r3, r4, fun k hk => ?_⟩
  have ek : runM C w c k = runM C w c' k := runM_cg (fun j hj => h j (by omega))
  obtain ⟨a, b⟩ := r5 k hk
  rw [← h k hk, ← ek]
  exact ⟨a, b⟩
theorem kh_run (hq : kV q) (hH : HOI x q) (hS : x.1 0 10 = 0 → X iSE x) (h : ¬ x.1 0 10 = 0 → RUN x → Fv x) : KE G q (d + 6) zk_X11_needRun 0 [(0, vr 0)] [] x (rv Fv) X :=
  kg_X11_needRun_0 hq ⟨fun c => rv_i (h c (hH.2.2.1 c)), fun c => hS c⟩
theorem kh_ix (hq : kV q) (l n : Int32) (hO : ¬ (0 ≤ l.toInt ∧ l.toInt < n.toInt) → X iOE x) (h : 0 ≤ l.toInt → l.toInt < n.toInt → Fv x) : KE G q (d + 6) zk_X11_needIndex 0 [(0, vi l), (1, vi n)] [] x (rv Fv) X := by
  have k0 : (0 : Int32).toInt = 0 := rfl
  refine kg_X11_needIndex_0 hq l n ⟨fun c => kg_X11_needIndex_9 hq (hO ?_), fun c => ⟨fun c2 => rv_i (h ?_ ?_), fun c2 => kg_X11_needIndex_9 hq (hO ?_)⟩⟩
  · rw [t_lt, k0] at c; omega
  · rw [t_lt, k0] at c; omega
  · rw [t_lt] at c2; exact c2
  · rw [t_lt] at c2; omega
theorem kh_beginP (hq : kV q) (hH : HOI x q) (l : Int32) (hKC : ¬ x.1 0 9 = 0 → CK x C ∧ GC C) (hS : x.1 0 9 = 0 → X iSE x) (hA : ¬ x.1 0 9 = 0 → ¬ (l = 0 ∨ l = 1) → X iAE x) (hP : ∀ (w : Nat) y, ¬ x.1 0 9 = 0 → l = Int32.ofNat w → HOI y q → fm sRn x y → (∀ c, KRun C w 0 c y) → y.1 0 10 = 1 → P (some (vi (y.1 120 13))) y) : KE G q (d + 7) zk_X11_begin 0 [(0, vr 0), (1, vi l)] [] x P X := by
  refine kg_X11_begin_0 hq l (kf_comp hq hH hS (fun c9 hC => kf_way hq l (hA c9) (fun hw => ?_)))
  obtain ⟨w, w01, ew⟩ : ∃ w : Nat, (w = 0 ∨ w = 1) ∧ l = Int32.ofNat w := by
    rcases hw with e | e
    · exact ⟨0, Or.inl rfl, e⟩
    · exact ⟨1, Or.inr rfl, e⟩
  rw [ew]
  exact kh_beginRun hq hC (hKC c9).1 (hKC c9).2 w01 (fun _ => 0) (fun y f hR _ h10 => hP w y c9 ew (HOI_run f hR.1 hH) f (fun c => KRun_cg (fun k hk => absurd hk (Nat.not_lt_zero _)) hR) h10)
theorem kh_choices (hq : kV q) (hH : HOI x q) (hS : x.1 0 10 = 0 → X iSE x) (hP : ¬ x.1 0 10 = 0 → P (some (vi (x.1 120 13))) x) : KE G q (d + 7) zk_X11_choices 0 [(0, vr 0)] [] x P X :=
  kg_X11_choices_0 hq (kh_run hq hH hS (fun c _ => hP c))
theorem kh_go (hq : kV q) (hH : HOI x q) (hK : ¬ x.1 0 10 = 0 → CK x C ∧ GC C ∧ NX3 C) (hR : ¬ x.1 0 10 = 0 → KRun C w n c x) (l : Int32) (hS : ¬ (¬ x.1 0 10 = 0 ∧ n < 400) → X iSE x) (hO : ¬ x.1 0 10 = 0 → n < 400 → ¬ (0 ≤ l.toInt ∧ l.toInt < (x.1 120 13).toInt) → X iOE x) (hP : ∀ y, ¬ x.1 0 10 = 0 → n < 400 → 0 ≤ l.toInt → l.toInt < (x.1 120 13).toInt → HOI y q → fm sRn x y → KRun C w (n + 1) (upf c n l.toNatClampNeg) y → y.1 0 10 = x.1 0 10 → P (some (vi (y.1 120 13))) y) : KE G q (d + 7) zk_X11_go 0 [(0, vr 0), (1, vi l)] [] x P X := by
  have k400 : (400 : Int32).toInt = 400 := rfl
  refine kg_X11_go_0 hq l (kh_run hq hH (fun c0 => hS (fun z9 => z9.1 c0)) (fun c9 _ => ⟨fun c4 => ?_, fun c4 => hS (fun z9 => ?_)⟩))
  · have hr := hR c9
    obtain ⟨hKx, gc, hX3⟩ := hK c9
    have hn := hr.2.2.2.1
    rw [t_lt, k400, hn] at c4
    refine kh_ix hq l _ (hO c9 (by omega)) (fun l0 l1 => ?_)
    have e13 : (x.1 120 13).toInt = ((chM C w (runM C w c n)).length : Nat) := hr.2.1.2.2.1
    have hr' : KRun C w n (upf c n l.toNatClampNeg) x := KRun_cg (fun k hk => by rw [upf_ne (by omega)]) hr
    have eR : runM C w (upf c n l.toNatClampNeg) n = runM C w c n := runM_cg (fun k hk => by rw [upf_ne (by omega)])
    have cl := cl_i l0
    exact kh_doChoice hq hKx gc hX3 hr' l (I := l.toNatClampNeg) (by omega) (by rw [eR]; omega) (by omega) (by rw [upf_eq]) (fun y f hRy _ h10 => hP y c9 (by omega) l0 l1 (HOI_run f hRy.1 hH) f hRy h10)
  · have hr := hR c9
    have hn := hr.2.2.2.1
    exact c4 (t_lt.mpr (by rw [k400, hn]; omega))
theorem kh_again (hq : kV q) (hH : HOI x q) (hK : ¬ x.1 0 10 = 0 → CK x C ∧ GC C ∧ NX3 C) (hR : ¬ x.1 0 10 = 0 → KRun C w n c x) (l1 : Int32) (hS : x.1 0 10 = 0 → X iSE x) (hA : ¬ x.1 0 10 = 0 → ¬ (0 ≤ l1.toInt ∧ l1.toInt ≤ (n : Nat)) → X iAE x) (hP : ∀ y, ¬ x.1 0 10 = 0 → 0 ≤ l1.toInt → l1.toInt ≤ (n : Nat) → HOI y q → fm sRn x y → KRun C w l1.toInt.toNat c y → y.1 0 10 = 1 → P (some (vi (y.1 120 13))) y) : KE G q (d + 7) zk_X11_again 0 [(0, vr 0), (1, vi l1)] [] x P X := by
  have k1 : (1 : Int32).toInt = 1 := rfl
  have k0 : (0 : Int32).toInt = 0 := rfl
  refine kg_X11_again_0 hq l1 (kh_run hq hH hS (fun c9 _ => ⟨fun cc => kg_X11_again_19 hq (hA c9 (fun z9 => ?_)), fun c0 => ⟨fun c4 => ?_, fun cc => kg_X11_again_19 hq (hA c9 (fun z9 => ?_))⟩⟩))
  · rw [t_lt, k0] at cc; omega
  · obtain ⟨hKx, gc, hX3⟩ := hK c9
    obtain ⟨r1, r2, r3, r4, r5⟩ := hR c9
    rw [t_lt, k0] at c0
    rw [t_le, r4] at c4
    have n4 := r1.2.2.1.2.2
    have loop : ∀ (m k : Nat) (l2 : Int32) (y : gd), l2.toInt = k → k + m = l1.toInt.toNat → fm sRn x y → KRun C w k c y → (∀ j, j < n → y.1 162 j = x.1 162 j) → y.1 0 10 = 1 → KE G q (d + 7) zk_X11_again 42 [(0, vr 0), (1, vi l1), (2, vi l2)] [] y P X := by
      intro m
      induction m with
      | zero =>
        intro k l2 y e2 hm fy hy h162 h10
        refine kg_X11_again_42 hq l1 l2 ⟨fun _ => hP y c9 (by omega) (by omega) (HOI_run fy hy.1 hH) fy ?_ h10, fun cc => ?_⟩
        · have : k = l1.toInt.toNat := by omega
          rw [← this]; exact hy
        · exfalso; rw [t_le] at cc; omega
      | succ m ih =>
        intro k l2 y e2 hm fy hy h162 h10
        refine kg_X11_again_42 hq l1 l2 ⟨fun cc => ?_, fun cc => ⟨by rw [vp_in_iff]; omega, ?_⟩⟩
        · exfalso; rw [t_le] at cc; omega
        obtain ⟨b1, b2⟩ := r5 k (by omega)
        have e2n : l2.toNatClampNeg = k := by rw [t_cl, e2]; rfl
        have i1 : (l2 + 1).toInt = ((k + 1 : Nat) : Int) := by rw [t_add (by rw [k1]; omega) (by rw [k1]; omega), k1, e2]; push_cast; rfl
        rw [e2n, h162 k (by omega)]
        exact kh_doChoice hq (CK_f hKx (fun c k hc => fy c k (by unfold sRn; omega))) gc hX3 hy _ b2 b1 (by omega) rfl (fun z fz hz z162 z10 => ih (k + 1) _ z i1 (by omega) (fm_tr fy fz) hz (fun j hj => by
          by_cases cj : j = k
          · have e1 := (hz.2.2.2.2 k (by omega)).2
            rw [cj, t_eq, e1, b2]
          · rw [z162 j cj]; exact h162 j hj) (by rw [z10]; exact h10))
    rw [r3.2]
    exact kh_beginRun hq r1.1.1 hKx gc r3.1 c (fun y f hRy y162 h10 => loop l1.toInt.toNat 0 _ y rfl (by omega) f hRy (fun j _ => y162 j) h10)
  · obtain ⟨r1, r2, r3, r4, r5⟩ := hR c9
    rw [t_le, r4] at cc
    omega
end KF3
end
section
/-! the class: when two rows are one state; the mix of a row -/
def NBm (M : gMa) : Prop := ∀ t, (M.2.2 t).2.1 ≤ 9
section PNB
variable {C : gCo} {M : gMa} {w t s c i n own : Nat} {e f me : Int32} {wk : Option Nat} {ch : gCh} {h : gTq} {lv : Nat → Int32} {r : gTr}
theorem ow1_9 {st : gNs} (q : ow1 me s st lv = .inl r) : r.2.1 ≤ 9 := by
  unfold ow1 at q
  split at q
  · cases q
    exact (by decide : (0 : Nat) ≤ 9)
  · split at q
    · exact nomatch q
    · split at q
      · cases q
        exact (by decide : (1 : Nat) ≤ 9)
      · split at q
        · cases q
          exact (by decide : (5 : Nat) ≤ 9)
        · exact nomatch q
theorem setP_9 : ∀ {n own s : Nat} {lv : Nat → Int32}, setP C me n own s lv = some r → r.2.1 ≤ 9 := by
  intro n
  induction n with
  | zero => intro own s lv q; exact absurd q (by simp [setP])
  | succ n ih =>
    intro own s lv q
    cases hs : C.1[s]? with
    | none =>
      rw [setP] at q
      simp only [hs] at q
      exact absurd q (by simp)
    | some st =>
      by_cases c1 : st.1 < 16
      · rw [set_act hs c1] at q
        cases q
        exact (by decide : (0 : Nat) ≤ 9)
      · by_cases c2 : st.1 < 20 ∧ 300 ≤ own
        · rw [set_6 hs c1 c2] at q
          cases q
          exact (by decide : (6 : Nat) ≤ 9)
        · cases e1 : ow1 me s st lv with
          | inl r9 =>
            rw [set_l hs c1 c2 e1] at q
            cases q
            exact ow1_9 e1
          | inr z =>
            rw [set_r hs c1 c2 e1] at q
            exact ih q
theorem owR_9 : (owR C me s lv).2.1 ≤ 9 := by
  by_cases q : ∃ r, ∃ n, setP C me n 0 s lv = some r
  · obtain ⟨r, n, q⟩ := q
    rw [owR_is q]
    exact setP_9 q
  · have : owR C me s lv = (0, 0, 0, fun _ => 0) := by
      unfold owR
      rw [dif_neg q]
    rw [this]
    exact Nat.zero_le _
theorem lkM_9 : (lkM C w M t).1 ≤ 9 := by
  have rs : ∀ s c, rsF C w M t s c ≤ 9 := fun s c => by
    unfold rsF
    split
    · decide
    · split
      · decide
      · split
        · decide
        · split
          · decide
          · split <;> decide
  have li : (lkI C M t).1 ≤ 9 := by
    unfold lkI
    split
    · exact Nat.zero_le _
    · split
      · exact (by decide : (1 : Nat) ≤ 9)
      · split
        · exact (by decide : (2 : Nat) ≤ 9)
        · exact Nat.zero_le _
  unfold lkM
  split
  · exact Nat.zero_le _
  · split
    · exact li
    · split
      · exact (by decide : (1 : Nat) ≤ 9)
      · split
        · exact (by decide : (1 : Nat) ≤ 9)
        · exact rs _ _
theorem NBm_up (q : NBm M) (hh : h.2.1 ≤ 9) : NBm (upT M t h) := fun t' => by
  show (upf M.2.2 t h t').2.1 ≤ 9
  by_cases z : t' = t
  · rw [z, upf_eq]; exact hh
  · rw [upf_ne z]; exact q t'
theorem NBm_fs : NBm (fsM C) := fun t => by
  by_cases q : t < C.2.1.length
  · obtain ⟨q9, hq⟩ : ∃ q9, C.2.1[t]? = some q9 := ⟨_, List.getElem?_eq_getElem q⟩
    by_cases c1 : q9.2 = 1
    · rw [fs_idle hq c1]; exact Nat.zero_le _
    · rw [fs_go hq c1]; exact owR_9
  · rw [fs_out (by omega)]; exact Nat.zero_le _
theorem NBm_ef (q : NBm M) : NBm (efM C w M t s c e f wk).1 := by
  by_cases c0 : s = 0
  · rw [c0, ef_0]; exact q
  by_cases c1 : s = 1
  · rw [c1, ef_1]
    by_cases z : w = 0 ∨ suM C c = true
    · rw [if_pos z]; exact q
    · rw [if_neg z]; exact NBm_up q (q t)
  by_cases c2 : s = 2
  · rw [c2, ef_2]; exact q
  by_cases c3 : s = 3
  · rw [c3, ef_3]; exact q
  by_cases c4 : s = 4
  · rw [c4, ef_4]; exact q
  by_cases c5 : s = 5
  · rw [c5, ef_5]; exact q
  by_cases c6 : s = 6
  · rw [c6, ef_6]; exact q
  by_cases c7 : s = 7
  · rw [c7, ef_7]; exact NBm_up (M := upL M c (0, 0)) q (q t)
  by_cases c8 : s = 8
  · rw [c8, ef_8]
    intro t'
    show (wkT C M t c wk t').2.1 ≤ 9
    unfold wkT
    split
    · exact q t'
    · exact q t'
  by_cases c9 : s = 9
  · cases hq : C.2.1[c]? with
    | none =>
      have a : efM C w M t 9 c e f wk = (match C.2.1[c]? with | some q => upT M c (thN C c (M.2.2 c) q.1 (M.2.2 c).2.2.2.2.2.2.2) | none => M, 0) := by unfold efM; rfl
      rw [c9, a, hq]; exact q
    | some q9 => rw [c9, ef_9 hq]; exact NBm_up q owR_9
  by_cases c13 : s = 13
  · rw [c13, ef_13]; exact NBm_up q (q t)
  by_cases c14 : s = 14
  · rw [c14, ef_14]; exact NBm_up q (q t)
  by_cases c15 : s = 15
  · rw [c15, ef_15]; exact NBm_up (M := upL M c (t + 1, (M.2.2 t).2.2.2.2.1)) q (q t)
  · have a : efM C w M t s c e f wk = (M, 0) := by
      unfold efM
      rw [if_neg c0, if_neg c1, if_neg c2, if_neg c3, if_neg c4, if_neg c5, if_neg c6, if_neg c7, if_neg c8, if_neg c9, if_neg c13, if_neg c14, if_neg c15]
    rw [a]; exact q
theorem NBm_do (q : NBm M) : NBm (doM C w M ch) := by
  unfold doM
  cases ch.2.1 with
  | some j =>
    show NBm (laM M ch.1 j)
    unfold laM
    cases (M.2.2 ch.1).2.2.2.2.2.2.1[j]? with
    | none => exact q
    | some z9 => exact NBm_up (M := upC M z9.1 z9.2) q (q ch.1)
  | none =>
    show NBm (acM C w M ch.1 ch.2.2)
    by_cases L0 : (lkM C w M ch.1).1 = 0
    · by_cases c7 : soM C (M.2.2 ch.1) = 7
      · rw [acM_7 L0 c7]; exact NBm_ef q
      · rw [acM_is (E := (efM C w M ch.1 (soM C (M.2.2 ch.1)) (lkM C w M ch.1).2.1.toNatClampNeg (lkM C w M ch.1).2.2.1 (lkM C w M ch.1).2.2.2 ch.2.2).1) (v := (efM C w M ch.1 (soM C (M.2.2 ch.1)) (lkM C w M ch.1).2.1.toNatClampNeg (lkM C w M ch.1).2.2.1 (lkM C w M ch.1).2.2.2 ch.2.2).2) L0 c7 rfl]
        exact NBm_up (NBm_ef q) owR_9
    · rw [acM_F L0]
      exact NBm_up q lkM_9
end PNB
/-- the mix of a row -/
def mxS (a v : Int32) : Int32 := ((a ^^^ v) * 16777619) ^^^ ((((a ^^^ v) * 16777619 : Int32).toUInt32 >>> ((15 : Int32).toUInt32 &&& Int32.toUInt32 31)).toInt32)
def mxF (S : Int32 → Int32 → Int32) (R : Nat → Int32) : Nat → Nat → Int32 → Int32
  | 0, _, a => a
  | n + 1, f, a => mxF S R n (f + 1) (S a (R f))
def mxT (S : Int32 → Int32 → Int32) (R : Nat → Int32) (o7 o8 : Nat) (lt : Nat → Nat) : Nat → Int32 → Int32
  | 0, a => a
  | n + 1, a => mxF S R (lt n) (o7 + n * o8) (mxT S R o7 o8 lt n a)
/-- how many fields of a thread count -/
def usN (x : gd) (o t : Nat) : Nat := (x.1 o 9).toInt.toNat + 2 * (rg x o t 7).toInt.toNat
def mxO (x : gd) (o : Nat) : Int32 := mxT mxS (x.1 (o + 5)) (x.1 o 7).toInt.toNat (x.1 o 8).toInt.toNat (usN x o) (x.1 60 10).toInt.toNat (mxF mxS (x.1 (o + 5)) (x.1 o 7).toInt.toNat 0 0)
/-- rows that are the same where it counts -/
def rwS (x : gd) (o : Nat) (A : Nat → Int32) : Prop := (∀ j : Nat, (j : Int) < (x.1 o 7).toInt → x.1 (o + 5) j = A j) ∧ ∀ t k : Nat, (t : Int) < (x.1 60 10).toInt → k < usN x o t → x.1 (o + 5) (pa x o t k) = A (pa x o t k)
section KSM
variable {G : kG} {q : kP} {d : Nat} {x y z : gd} {o : Nat} {F : Int32 → gd → Prop} {Fv : gd → Prop} {C : gCo} {M M' : gMa} {R A : Nat → Int32} {S : Int32 → Int32 → Int32}
theorem mxF_cg : ∀ {n f : Nat} {a : Int32}, (∀ j, f ≤ j → j < f + n → R j = A j) → mxF S R n f a = mxF S A n f a := by
  intro n
  induction n with
  | zero => intro f a _; rfl
  | succ n ih =>
    intro f a h
    rw [mxF, mxF, h f (Nat.le_refl _) (by omega)]
    exact ih (fun j h1 h2 => h j (by omega) (by omega))
theorem kh_mixPart (hq : kV q) (ho : kiM q o) (b f m : Int32) {f' m' : Nat} (ef : f.toInt = f') (em : m.toInt = m') (h2 : f' + m' ≤ 228) (hF : F (mxF mxS (x.1 (o + 5)) m' f' b) x) : KT G q d zk_X5_mixPart 0 [(0, vr o), (1, vi b), (2, vi f), (3, vi m)] [] x (ri F) := by
  have efm : (f + m).toInt = f.toInt + m.toInt := t_add (by omega) (by omega)
  have loop : ∀ (n I : Nat) (a i : Int32), i.toInt = I → I + n = f' + m' → F (mxF mxS (x.1 (o + 5)) n I a) x → KT G q d zk_X5_mixPart 6 [(0, vr o), (2, vi f), (3, vi m), (4, vi a), (5, vi i)] [] x (ri F) := by
    intro n
    induction n with
    | zero =>
      intro I a i ei hn hf
      refine kg_X5_mixPart_6 hq ho _ _ _ _ ⟨fun _ => ri_i hf, fun c => ?_⟩
      exfalso; rw [t_le] at c; omega
    | succ n ih =>
      intro I a i ei hn hf
      refine kg_X5_mixPart_6 hq ho _ _ _ _ ⟨fun c => ?_, fun c => ?_⟩
      · exfalso; rw [t_le] at c; omega
      have e1 : (i + 1).toInt = ((I + 1 : Nat) : Int) := by rw [t_add (by show _ ≤ _ + (1 : Int); omega) (by show _ + (1 : Int) ≤ _; omega), ei]; rfl
      have eN : i.toNatClampNeg = I := by rw [t_cl, ei]; rfl
      refine ⟨by rw [vp_in_iff]; omega, ?_⟩
      rw [eN]
      rw [mxF] at hf
      have hv : mxS a (x.1 (o + 5) I) = ((a ^^^ x.1 (o + 5) I) * 16777619) ^^^ ((((a ^^^ x.1 (o + 5) I) * 16777619 : Int32).toUInt32 >>> ((15 : Int32).toUInt32 &&& Int32.toUInt32 31)).toInt32) := by unfold mxS; rfl
      rw [← hv]
      exact ih (I + 1) _ _ e1 (by omega) hf
  exact kg_X5_mixPart_0 hq ho _ _ _ (loop m' f' _ _ ef rfl hF)
theorem kh_usedOf (hq : kV q) (ho : kiM q o) (h : MM x o) (t : Int32) {T : Nat} (et : t.toInt = T) (hT : (T : Int) < (x.1 60 10).toInt) (hF : ∀ r : Int32, r.toInt = (usN x o T : Nat) → usN x o T ≤ 32 → F r x) : KT G q (d + 1) zk_X5_usedOf 0 [(0, vr o), (1, vi t)] [] x (ri F) := by
  have hT6 := MM_6 h.1 hT
  have l8 := (h.2.2 T hT).1.2.1
  obtain ⟨b1, b2, b3, -⟩ := MG_b h.1 h.2.1
  have k2 : (2 : Int32).toInt = 2 := rfl
  refine kg_X5_usedOf_0 hq ho _ (kp_get hq ho h.1 h.2.1 _ _ et (show (7 : Int32).toInt = ((7 : Nat) : Int) from rfl) hT6 (by omega) (ri_i ?_))
  have e1 : (2 * rg x o T 7).toInt = 2 * (rg x o T 7).toInt := by rw [t_mul (by rw [k2]; omega) (by rw [k2]; omega), k2]
  have e2 : (x.1 o 9 + 2 * rg x o T 7).toInt = (x.1 o 9).toInt + 2 * (rg x o T 7).toInt := by rw [t_add (by omega) (by omega), e1]
  exact hF _ (by unfold usN; omega) (by unfold usN; omega)
theorem th_ix2 (h : MM x o) {t : Int32} {T : Nat} (et : t.toInt = T) (hT : T < 6) : (x.1 o 7 + t * x.1 o 8).toInt = (((x.1 o 7).toInt.toNat + T * (x.1 o 8).toInt.toNat : Nat) : Int) ∧ (x.1 o 7).toInt.toNat + T * (x.1 o 8).toInt.toNat ≤ 196 := by
  obtain ⟨b1, b2, -⟩ := MG_b h.1 h.2.1
  obtain ⟨u0, u1⟩ := th_ix h et hT
  obtain ⟨e1, -⟩ := pa_ix et (show (0 : Int32).toInt = ((0 : Nat) : Int) from rfl) b1 (s := x.1 o 8) (by omega) hT (by omega)
  have z : x.1 o 7 + t * x.1 o 8 + 0 = x.1 o 7 + t * x.1 o 8 := Int32.add_zero _
  rw [z, t_cl, Nat.add_zero] at e1
  omega
theorem kh_mix (hq : kV q) (ho : kiM q o) (h : MM x o) (hF : F (mxO x o) x) : KT G q (d + 2) zk_X5_mix 0 [(0, vr o)] [] x (ri F) := by
  have t6 := h.1.1.2.2.1
  obtain ⟨b1, b2, -⟩ := MG_b h.1 h.2.1
  obtain ⟨a0, ea0⟩ : ∃ a0, a0 = mxF mxS (x.1 (o + 5)) (x.1 o 7).toInt.toNat 0 0 := ⟨_, rfl⟩
  unfold mxO at hF
  rw [← ea0] at hF
  have loop : ∀ (n k : Nat) (a i : Int32), i.toInt = k → k + n = (x.1 60 10).toInt.toNat → a = mxT mxS (x.1 (o + 5)) (x.1 o 7).toInt.toNat (x.1 o 8).toInt.toNat (usN x o) k a0 → KT G q (d + 2) zk_X5_mix 13 [(0, vr o), (1, vi a), (2, vi i)] [] x (ri F) := by
    intro n
    induction n with
    | zero =>
      intro k a i ei hn ea
      refine kg_X5_mix_13 hq ho _ _ ⟨fun _ => ri_i ?_, fun c => ?_⟩
      · rw [ea, show k = (x.1 60 10).toInt.toNat by omega]; exact hF
      · exfalso; rw [t_le] at c; omega
    | succ n ih =>
      intro k a i ei hn ea
      refine kg_X5_mix_13 hq ho _ _ ⟨fun c => ?_, fun c => ?_⟩
      · exfalso; rw [t_le] at c; omega
      have e1 : (i + 1).toInt = ((k + 1 : Nat) : Int) := by rw [t_add (by show _ ≤ _ + (1 : Int); omega) (by show _ + (1 : Int) ≤ _; omega), ei]; rfl
      obtain ⟨u0, u1⟩ := th_ix2 h ei (by omega)
      refine kh_usedOf hq ho h _ ei (by omega) (fun r er r32 => kh_mixPart hq ho _ _ _ u0 er (by omega) (ih (k + 1) _ _ e1 (by omega) ?_))
      rw [mxT, ← ea]
  exact kg_X5_mix_0 hq ho (kh_mixPart hq ho _ _ _ (f' := 0) (m' := (x.1 o 7).toInt.toNat) rfl (by omega) (by omega) (loop (x.1 60 10).toInt.toNat 0 _ _ rfl (by omega) (by rw [mxT, ea0])))
theorem kh_isSamePart (hq : kV q) (ho : kiM q o) {a1 : Nat} (ka : kK a1 = .inr (.int, 228)) (ma : a1 ∈ (kf q).2.1) (f m : Int32) {f' m' : Nat} (ef : f.toInt = f') (em : m.toInt = m') (h2 : f' + m' ≤ 228) (hF : ∀ r : Int32, gbool r → (¬ r = 0 ↔ ∀ j, f' ≤ j → j < f' + m' → x.1 (o + 5) j = x.1 a1 j) → F r x) : KT G q d zk_X5_isSamePart 0 [(0, vr o), (1, vr a1), (2, vi f), (3, vi m)] [] x (ri F) := by
  have efm : (f + m).toInt = f.toInt + m.toInt := t_add (by omega) (by omega)
  have loop : ∀ (n I : Nat) (i : Int32), i.toInt = I → I + n = f' + m' → f' ≤ I → (∀ j, f' ≤ j → j < I → x.1 (o + 5) j = x.1 a1 j) → KT G q d zk_X5_isSamePart 3 [(0, vr o), (1, vr a1), (2, vi f), (3, vi m), (4, vi i)] [] x (ri F) := by
    intro n
    induction n with
    | zero =>
      intro I i ei hn hfI hs
      refine kg_X5_isSamePart_3 hq ho ka ma _ _ _ ⟨fun _ => ri_i (hF _ gbool_1 ⟨fun _ j h1 h9 => hs j h1 (by omega), fun _ => by decide⟩), fun c => ?_⟩
      exfalso; rw [t_le] at c; omega
    | succ n ih =>
      intro I i ei hn hfI hs
      refine kg_X5_isSamePart_3 hq ho ka ma _ _ _ ⟨fun c => ?_, fun c => ?_⟩
      · exfalso; rw [t_le] at c; omega
      have e1 : (i + 1).toInt = ((I + 1 : Nat) : Int) := by rw [t_add (by show _ ≤ _ + (1 : Int); omega) (by show _ + (1 : Int) ≤ _; omega), ei]; rfl
      have eN : i.toNatClampNeg = I := by rw [t_cl, ei]; rfl
      have v : vp_in i 228 := by rw [vp_in_iff]; omega
      rw [eN]
      refine ⟨v, v, fun ce => ih (I + 1) _ e1 (by omega) (by omega) (fun j h1 h9 => ?_), fun ce => ri_i (hF _ gbool_0 ⟨fun z => absurd rfl z, fun z => absurd (z I hfI (by omega)) ce⟩)⟩
      by_cases cj : j = I
      · rw [cj]; exact ce
      · exact hs j h1 (by omega)
  exact kg_X5_isSamePart_0 hq ho ka ma _ _ (loop m' f' _ ef rfl (Nat.le_refl _) (fun j h1 h9 => by omega))
theorem kh_isSame (hq : kV q) (ho : kiM q o) (h : MM x o) {a1 : Nat} (ka : kK a1 = .inr (.int, 228)) (ma : a1 ∈ (kf q).2.1) (hF : ∀ r : Int32, gbool r → (¬ r = 0 ↔ rwS x o (x.1 a1)) → F r x) : KT G q (d + 2) zk_X5_isSame 0 [(0, vr o), (1, vr a1)] [] x (ri F) := by
  have t6 := h.1.1.2.2.1
  obtain ⟨b1, b2, -⟩ := MG_b h.1 h.2.1
  have loop : ∀ (n k : Nat) (a i : Int32), gbool a → i.toInt = k → k + n = (x.1 60 10).toInt.toNat → (¬ a = 0 ↔ (∀ j : Nat, (j : Int) < (x.1 o 7).toInt → x.1 (o + 5) j = x.1 a1 j) ∧ ∀ t j : Nat, t < k → j < usN x o t → x.1 (o + 5) (pa x o t j) = x.1 a1 (pa x o t j)) → KT G q (d + 2) zk_X5_isSame 13 [(0, vr o), (1, vr a1), (2, vi a), (3, vi i)] [] x (ri F) := by
    intro n
    induction n with
    | zero =>
      intro k a i ga ei hn ha
      refine kg_X5_isSame_13 hq ho ka ma _ _ ⟨fun _ => ⟨ga, ri_i (hF _ ga ?_)⟩, fun c => ?_⟩
      · rw [ha]
        exact ⟨fun z => ⟨z.1, fun t j ht hj => z.2 t j (by omega) hj⟩, fun z => ⟨z.1, fun t j ht hj => z.2 t j (by omega) hj⟩⟩
      · exfalso; rw [t_le] at c; omega
    | succ n ih =>
      intro k a i ga ei hn ha
      refine kg_X5_isSame_13 hq ho ka ma _ _ ⟨fun c => ?_, fun c => ⟨fun c0 => ⟨ga, ri_i (hF _ ga ?_)⟩, fun c0 => ?_⟩⟩
      · exfalso; rw [t_le] at c; omega
      · refine ⟨fun z => absurd c0 z, fun z => ?_⟩
        exact absurd c0 (ha.mpr ⟨z.1, fun t j ht hj => z.2 t j (by omega) hj⟩)
      have e1 : (i + 1).toInt = ((k + 1 : Nat) : Int) := by rw [t_add (by show _ ≤ _ + (1 : Int); omega) (by show _ + (1 : Int) ≤ _; omega), ei]; rfl
      obtain ⟨u0, u1⟩ := th_ix2 h ei (by omega)
      refine kh_usedOf hq ho h _ ei (by omega) (fun r er r32 => kh_isSamePart hq ho ka ma _ _ u0 er (by omega) (fun r5 g5 h5 => ih (k + 1) _ _ g5 e1 (by omega) ?_))
      obtain ⟨p1, p2⟩ := ha.mp c0
      rw [h5]
      refine ⟨fun z => ⟨p1, fun t j ht hj => ?_⟩, fun z j h1 h9 => ?_⟩
      · by_cases ct : t = k
        · rw [ct] at hj ⊢
          exact z (pa x o k j) (by unfold pa; omega) (by unfold pa; omega)
        · exact p2 t j (by omega) hj
      · have := z.2 k (j - ((x.1 o 7).toInt.toNat + k * (x.1 o 8).toInt.toNat)) (by omega) (by omega)
        unfold pa at this
        rw [show (x.1 o 7).toInt.toNat + k * (x.1 o 8).toInt.toNat + (j - ((x.1 o 7).toInt.toNat + k * (x.1 o 8).toInt.toNat)) = j by omega] at this
        exact this
  refine kg_X5_isSame_0 hq ho ka ma (kh_isSamePart hq ho ka ma _ _ (f' := 0) (m' := (x.1 o 7).toInt.toNat) rfl (by omega) (by omega) (fun r gr hr => loop (x.1 60 10).toInt.toNat 0 _ _ gr rfl (by omega) ?_))
  rw [hr]
  exact ⟨fun z => ⟨fun j hj => z j (Nat.zero_le _) (by omega), fun t j ht => absurd ht (Nat.not_lt_zero _)⟩, fun z j _ hj => z.1 j (by omega)⟩
end KSM
end
section
/-! the class: rows that are the same hold one state, and the other way round -/
/-- the same program, the same places -/
def gmE (x y : gd) (o : Nat) : Prop := (y.1 60 6 = x.1 60 6 ∧ y.1 60 9 = x.1 60 9 ∧ y.1 60 10 = x.1 60 10 ∧ y.1 60 13 = x.1 60 13) ∧ y.1 o 7 = x.1 o 7 ∧ y.1 o 8 = x.1 o 8 ∧ y.1 o 9 = x.1 o 9
section KON
variable {x y z : gd} {o : Nat} {C : gCo} {M M' : gMa} {t k : Nat} {h h' : gTq}
theorem gm_pa (e : gmE x y o) (t k : Nat) : pa y o t k = pa x o t k := by
  unfold pa; rw [e.2.1, e.2.2.1]
theorem kTq_same (hM : MM x o) (ht : (t : Int) < (x.1 60 10).toInt) (e : gmE x y o) (g : kTq x o C t h) (g' : kTq y o C t h) (hk : k < usN x o t) : rg x o t k = rg y o t k := by
  obtain ⟨b1, b2, b3, b4, b5, b6, b7⟩ := MG_b hM.1 hM.2.1
  obtain ⟨⟨q0, q0'⟩, q1, q2, ⟨q3, q5, qw⟩, q4, q6, ⟨q7, ql⟩, qv, qk⟩ := g
  obtain ⟨⟨r0, r0'⟩, r1, r2, ⟨r3, r5, rw'⟩, r4, r6, ⟨r7, rl⟩, rv', rk⟩ := g'
  rw [e.1.2.2.2] at rv'
  rw [e.2.2.2] at rl
  unfold usN at hk
  by_cases c8 : k < 8
  · have : k = 0 ∨ k = 1 ∨ k = 2 ∨ k = 3 ∨ k = 4 ∨ k = 5 ∨ k = 6 ∨ k = 7 := by omega
    rcases this with c | c | c | c | c | c | c | c <;> rw [c]
    · rw [q0, r0]
    · rw [q1, r1]
    · rw [t_eq, q2, r2]
    · rw [q3, r3]
    · rw [q4, r4]
    · rw [q5, r5]
    · rw [q6, r6]
    · rw [t_eq, q7, r7]
  · by_cases c9 : (k : Int) < (x.1 o 9).toInt
    · obtain ⟨p, ep⟩ : ∃ p, k = 8 + p := ⟨k - 8, by omega⟩
      rw [ep, qv p (by omega), rv' p (by omega)]
    · obtain ⟨i, ei⟩ : ∃ i, k = (x.1 o 9).toInt.toNat + 2 * i ∨ k = (x.1 o 9).toInt.toNat + 2 * i + 1 := ⟨(k - (x.1 o 9).toInt.toNat) / 2, by omega⟩
      have hi : i < h.2.2.2.2.2.2.1.length := by omega
      obtain ⟨p, hp⟩ : ∃ p, h.2.2.2.2.2.2.1[i]? = some p := ⟨_, List.getElem?_eq_getElem hi⟩
      obtain ⟨a1, a2⟩ := ql i p hp
      obtain ⟨a3, a4⟩ := rl i p hp
      rcases ei with ei | ei <;> rw [ei]
      · rw [t_eq, a1, a3]
      · rw [a2, a4]
theorem KMm_same (hM : MM x o) (hK : CK x C) (e : gmE x y o) (g : KMm x o C M) (g' : KMm y o C M) : rwS x o (y.1 (o + 5)) := by
  have nT : (x.1 60 10).toInt = C.2.1.length := hK.2.1.1
  obtain ⟨m1, m2, m3, -⟩ := hM.2.1
  have c1 := hM.1.1.1
  have c2 := hM.1.1.2.1
  obtain ⟨⟨gc, gl⟩, gt⟩ := g
  obtain ⟨⟨gc', gl'⟩, gt'⟩ := g'
  rw [e.1.1] at gc' gl'
  rw [e.1.2.1] at gl'
  refine ⟨fun j hj => ?_, fun t k ht hk => ?_⟩
  · by_cases cj : (j : Int) < (x.1 60 6).toInt
    · rw [gc j cj, gc' j cj]
    · obtain ⟨l, el⟩ : ∃ l, j = (x.1 60 6).toInt.toNat + 2 * l ∨ j = (x.1 60 6).toInt.toNat + 2 * l + 1 := ⟨(j - (x.1 60 6).toInt.toNat) / 2, by omega⟩
      obtain ⟨a1, -, a2⟩ := gl l (by omega)
      obtain ⟨a3, -, a4⟩ := gl' l (by omega)
      rcases el with el | el <;> rw [el]
      · rw [a1, a3]
      · rw [a2, a4]
  · have := kTq_same hM ht e (gt t (by omega)) (gt' t (by omega)) hk
    unfold rg at this
    rw [gm_pa e] at this
    exact this
theorem ofN_in9 {a b : Nat} (ha : a ≤ 9) (hb : b ≤ 9) (h : Int32.ofNat a = Int32.ofNat b) : a = b := by
  have e1 : (Int32.ofNat a).toInt = (a : Nat) := Int32.toInt_ofNat_of_lt (by omega)
  have e2 : (Int32.ofNat b).toInt = (b : Nat) := Int32.toInt_ofNat_of_lt (by omega)
  rw [t_eq, e1, e2] at h
  omega
theorem i32_c1 {a b : Int32} (h : a + 1 = b + 1) : a = b := by
  have e2 : a + 1 - 1 = b + 1 - 1 := by rw [h]
  rw [Int32.add_sub_cancel, Int32.add_sub_cancel] at e2
  exact e2
theorem kTq_one (hM : MM x o) (hM' : MM y o) (hK : CK x C) (hK' : CK y C) (hN : NC C) (ht : t < C.2.1.length) (e : gmE x y o) (g : kTq x o C t h) (g' : kTq y o C t h') (n9 : h.2.1 ≤ 9) (n9' : h'.2.1 ≤ 9) (q : tCn C h) (q' : tCn C h') (hr : ∀ k, k < usN x o t → rg x o t k = rg y o t k) : h = h' := by
  have nT : (x.1 60 10).toInt = C.2.1.length := hK.2.1.1
  obtain ⟨b1, b2, b3, b4, b5, b6, b7⟩ := MG_b hM.1 hM.2.1
  have w3 := kst_w3 hM hK hN ht g
  have w3' := kst_w3 hM' hK' hN ht g'
  obtain ⟨⟨q0, q0'⟩, q1, q2, ⟨q3, q5, qw, -⟩, q4, q6, ⟨q7, ql⟩, qv, qk⟩ := g
  obtain ⟨⟨r0, r0'⟩, r1, r2, ⟨r3, r5, rw', -⟩, r4, r6, ⟨r7, rl⟩, rv', rk⟩ := g'
  have u8 : ∀ k, k < 8 → k < usN x o t := fun k hk => by unfold usN; omega
  have h0 := hr 0 (u8 0 (by omega))
  have h1 := hr 1 (u8 1 (by omega))
  have h2 := hr 2 (u8 2 (by omega))
  have h3 := hr 3 (u8 3 (by omega))
  have h4 := hr 4 (u8 4 (by omega))
  have h5 := hr 5 (u8 5 (by omega))
  have h6 := hr 6 (u8 6 (by omega))
  have h7 := hr 7 (u8 7 (by omega))
  have e0 : h.1 = h'.1 := ofN_in9 (by omega) (by omega) (by rw [← q0, ← r0, h0])
  have e1 : h.2.1 = h'.2.1 := ofN_in9 n9 n9' (by rw [← q1, ← r1, h1])
  have e2 : h.2.2.1 = h'.2.2.1 := by rw [h2, r2] at q2; omega
  have e3 : h.2.2.2.1 = h'.2.2.2.1 := by
    have z0 : h.2.2.2.1 = 0 ↔ h'.2.2.2.1 = 0 := by rw [← w3, ← w3', h3]
    have z2 : h.2.2.2.1 = 2 ↔ h'.2.2.2.1 = 2 := by
      have : (if h.2.2.2.1 = 2 then (1 : Int32) else 0) = if h'.2.2.2.1 = 2 then 1 else 0 := by rw [← q5, ← r5, h5]
      by_cases c1 : h.2.2.2.1 = 2
      · by_cases c2 : h'.2.2.2.1 = 2
        · exact ⟨fun _ => c2, fun _ => c1⟩
        · rw [if_pos c1, if_neg c2] at this; exact absurd this (by decide)
      · by_cases c2 : h'.2.2.2.1 = 2
        · rw [if_neg c1, if_pos c2] at this; exact absurd this (by decide)
        · exact ⟨fun z => absurd z c1, fun z => absurd z c2⟩
    omega
  have e4 : h.2.2.2.2.1 = h'.2.2.2.2.1 := by rw [← q4, ← r4, h4]
  have e6 : h.2.2.2.2.2.1 = h'.2.2.2.2.2.1 := i32_c1 (by rw [← q6, ← r6, h6])
  have len : h.2.2.2.2.2.2.1.length = h'.2.2.2.2.2.2.1.length := by rw [h7, r7] at q7; omega
  rw [e.2.2.2] at rl
  have e7 : h.2.2.2.2.2.2.1 = h'.2.2.2.2.2.2.1 := by
    refine List.ext_getElem? (fun i => ?_)
    by_cases ci : i < h.2.2.2.2.2.2.1.length
    · obtain ⟨p, hp⟩ : ∃ p, h.2.2.2.2.2.2.1[i]? = some p := ⟨_, List.getElem?_eq_getElem ci⟩
      obtain ⟨p', hp'⟩ : ∃ p', h'.2.2.2.2.2.2.1[i]? = some p' := ⟨_, List.getElem?_eq_getElem (by omega)⟩
      obtain ⟨a1, a2⟩ := ql i p hp
      obtain ⟨a3, a4⟩ := rl i p' hp'
      have k1 := hr ((x.1 o 9).toInt.toNat + 2 * i) (by unfold usN; omega)
      have k2 := hr ((x.1 o 9).toInt.toNat + 2 * i + 1) (by unfold usN; omega)
      rw [hp, hp']
      rw [k1, a3] at a1
      rw [k2, a4] at a2
      exact congrArg some (Prod.ext (by omega) a2.symm)
    · rw [List.getElem?_eq_none_iff.mpr (by omega), List.getElem?_eq_none_iff.mpr (by omega)]
  have e8 : h.2.2.2.2.2.2.2 = h'.2.2.2.2.2.2.2 := by
    funext p
    rw [e.1.2.2.2] at rv'
    by_cases cp : (p : Int) < (x.1 60 13).toInt
    · have := hr (8 + p) (by unfold usN; omega)
      rw [qv p cp, rv' p cp] at this
      exact this
    · have z1 := q.1 p (fun z => by have := qk z.1; omega)
      have z2 := q'.1 p (fun z => by have := rk z.1; rw [e.1.2.2.2] at this; omega)
      rw [z1, z2]
  exact Prod.ext e0 (Prod.ext e1 (Prod.ext e2 (Prod.ext e3 (Prod.ext e4 (Prod.ext e6 (Prod.ext e7 e8))))))
theorem KMm_one {nl : Nat} (hM : MM x o) (hM' : MM y o) (hK : CK x C) (hK' : CK y C) (hN : NC C) (en : (x.1 60 9).toInt = (nl : Nat)) (e : gmE x y o) (g : KMm x o C M) (g' : KMm y o C M') (q : MCn C nl M) (q' : MCn C nl M') (n9 : NBm M) (n9' : NBm M') (hr : rwS x o (y.1 (o + 5))) : M = M' := by
  have nT : (x.1 60 10).toInt = C.2.1.length := hK.2.1.1
  have nC : (x.1 60 6).toInt = C.2.2.1.length := hK.2.2.1.1
  obtain ⟨m1, m2, m3, -⟩ := hM.2.1
  have c1 := hM.1.1.1
  obtain ⟨⟨gc, gl⟩, gt⟩ := g
  obtain ⟨⟨gc', gl'⟩, gt'⟩ := g'
  rw [e.1.1] at gc' gl'
  rw [e.1.2.1] at gl'
  refine MCn_eq q q' (fun c hc => ?_) (fun l hl => ?_) (fun t ht => ?_)
  · rw [← gc c (by omega), ← gc' c (by omega)]; exact hr.1 c (by omega)
  · obtain ⟨a1, a5, a2⟩ := gl l (by omega)
    obtain ⟨a3, a6, a4⟩ := gl' l (by omega)
    have k1 := hr.1 ((x.1 60 6).toInt.toNat + 2 * l) (by omega)
    have k2 := hr.1 ((x.1 60 6).toInt.toNat + 2 * l + 1) (by omega)
    exact Prod.ext (ofN_in9 (by omega) (by omega) (by rw [← a1, ← a3, k1])) (by rw [← a2, ← a4, k2])
  · refine kTq_one hM hM' hK hK' hN ht e (gt t ht) (gt' t ht) (n9 t) (n9' t) (q.2.2 t).2 (q'.2.2 t).2 (fun k hk => ?_)
    have := hr.2 t k (by omega) hk
    unfold rg
    rw [gm_pa e]
    exact this
/-- the same row, the same mix -/
theorem mxT_same {S : Int32 → Int32 → Int32} {a0 : Int32} (hM : MM x o) (us : ∀ t : Nat, (t : Int) < (x.1 60 10).toInt → usN y o t = usN x o t) (hr : rwS x o (y.1 (o + 5))) : ∀ n : Nat, n ≤ (x.1 60 10).toInt.toNat → mxT S (y.1 (o + 5)) (x.1 o 7).toInt.toNat (x.1 o 8).toInt.toNat (usN y o) n a0 = mxT S (x.1 (o + 5)) (x.1 o 7).toInt.toNat (x.1 o 8).toInt.toNat (usN x o) n a0 := by
  intro n
  induction n with
  | zero => intro _; rw [mxT, mxT]
  | succ n ih =>
    intro hn
    rw [mxT, mxT, ih (by omega), us n (by omega)]
    refine mxF_cg (fun j h1 h2 => ?_)
    have := hr.2 n (j - ((x.1 o 7).toInt.toNat + n * (x.1 o 8).toInt.toNat)) (by omega) (by omega)
    unfold pa at this
    rw [show (x.1 o 7).toInt.toNat + n * (x.1 o 8).toInt.toNat + (j - ((x.1 o 7).toInt.toNat + n * (x.1 o 8).toInt.toNat)) = j by omega] at this
    exact this.symm
theorem mx_sameS {S : Int32 → Int32 → Int32} (hM : MM x o) (e : gmE x y o) (hr : rwS x o (y.1 (o + 5))) : mxT S (y.1 (o + 5)) (y.1 o 7).toInt.toNat (y.1 o 8).toInt.toNat (usN y o) (y.1 60 10).toInt.toNat (mxF S (y.1 (o + 5)) (y.1 o 7).toInt.toNat 0 0) = mxT S (x.1 (o + 5)) (x.1 o 7).toInt.toNat (x.1 o 8).toInt.toNat (usN x o) (x.1 60 10).toInt.toNat (mxF S (x.1 (o + 5)) (x.1 o 7).toInt.toNat 0 0) := by
  obtain ⟨b1, b2, b3, b4, b5, b6, b7⟩ := MG_b hM.1 hM.2.1
  have us : ∀ t : Nat, (t : Int) < (x.1 60 10).toInt → usN y o t = usN x o t := fun t ht => by
    have := hr.2 t 7 ht (by unfold usN; omega)
    unfold usN rg
    rw [gm_pa e, e.2.2.2, this]
  rw [e.2.1, e.2.2.1, e.1.2.2.1]
  have a1 : mxF S (y.1 (o + 5)) (x.1 o 7).toInt.toNat 0 0 = mxF S (x.1 (o + 5)) (x.1 o 7).toInt.toNat 0 0 := mxF_cg (fun j _ hj => (hr.1 j (by omega)).symm)
  rw [a1]
  exact mxT_same hM us hr _ (Nat.le_refl _)
theorem mx_same (hM : MM x o) (e : gmE x y o) (hr : rwS x o (y.1 (o + 5))) : mxO y o = mxO x o := by
  unfold mxO
  exact mx_sameS hM e hr
end KON
end
section
/-! the class: whether a state is kept -/
/-- the memory, a kept row recalled -/
def kpM (x : gd) (s : Nat) : gd := scp x (1000 + s) 225 0 0 (x.1 220 5).toNatClampNeg
/-- a kept row holds a state, its mix stands beside it -/
def KPs (C : gCo) (nl w : Nat) (x : gd) (s : Nat) (M : gMa) : Prop := KR x s ∧ KMm (kpM x s) 220 C M ∧ MIv C w M ∧ MCn C nl M ∧ NBm M ∧ x.1 204 s = mxO (kpM x s) 220
/-- the table: each state lies behind where its mix points, no gap between -/
def TBx (x : gd) (n : Nat) : Prop := (∀ j : Nat, j < 8192 → 0 ≤ (x.1 205 j).toInt ∧ (x.1 205 j).toInt ≤ (n : Nat)) ∧ (∀ s, s < n → ∃ p, p < 8192 ∧ (x.1 205 (((x.1 204 s &&& 8191).toNatClampNeg + p) % 8192)).toInt = (s : Int) + 1 ∧ ∀ i, i < p → ¬ x.1 205 (((x.1 204 s &&& 8191).toNatClampNeg + i) % 8192) = 0) ∧ (List.range 8192).countP (fun j => decide (¬ x.1 205 j = 0)) ≤ n
theorem t_and8e {a : Int32} (h : 0 ≤ a.toInt) : (a &&& 8191).toInt = a.toInt % 8192 := by
  have e0 : (a &&& 8191).toBitVec.toNat = a.toBitVec.toNat % 8192 := by
    rw [Int32.toBitVec_and, BitVec.toNat_and]
    exact Nat.and_two_pow_sub_one_eq_mod _ 13
  have ea : a.toInt = (a.toBitVec.toNat : Int) := by
    show a.toBitVec.toInt = _
    have h : 0 ≤ a.toBitVec.toInt := h
    rw [BitVec.toInt_eq_toNat_cond] at h ⊢
    split at h
    · next c => rw [if_pos c]
    · have := a.toBitVec.isLt
      omega
  have eb : (a &&& 8191).toInt = ((a &&& 8191).toBitVec.toNat : Int) := by
    show (a &&& 8191).toBitVec.toInt = _
    exact BitVec.toInt_eq_toNat_of_lt (by rw [e0]; omega)
  rw [eb, e0, ea]
  omega
section KPT
variable {G : kG} {q : kP} {d : Nat} {x y z : gd} {F : Int32 → gd → Prop} {Fv : gd → Prop} {C : gCo} {M : gMa} {Ms : Nat → gMa} {nl w n s : Nat}
theorem kp_gm (x : gd) (s : Nat) : gmE x (kpM x s) 220 := by
  have f : ∀ c k, ¬ c = 225 → (kpM x s).1 c k = x.1 c k := fun c k hc => by unfold kpM; rw [scp_get, if_neg (fun z => hc z.1)]
  exact ⟨⟨f _ _ (by decide), f _ _ (by decide), f _ _ (by decide), f _ _ (by decide)⟩, f _ _ (by decide), f _ _ (by decide), f _ _ (by decide)⟩
theorem kp_CK (hK : CK x C) : CK (kpM x s) C := CK_f hK (fun c k hc => by unfold kpM; rw [scp_get, if_neg (fun z => by omega)])
theorem kp_row (hM : MM x 220) : rwS x 220 (x.1 (1000 + s)) ↔ rwS x 220 ((kpM x s).1 225) := by
  have b := sz_b hM.1 hM.2.1
  obtain ⟨b1, b2, b3, b4, b5, b6, b7⟩ := MG_b hM.1 hM.2.1
  have t6 := hM.1.1.2.2.1
  have g6 := hM.2.1.2.2.2.2.2
  have cp : ∀ j : Nat, (j : Int) < (x.1 220 5).toInt → (kpM x s).1 225 j = x.1 (1000 + s) j := fun j hj => by
    unfold kpM
    rw [scp_get, if_pos ⟨rfl, by omega, by rw [t_cl]; omega⟩, Nat.sub_zero, Nat.zero_add]
  have p7 : ∀ j : Nat, (j : Int) < (x.1 220 7).toInt → (j : Int) < (x.1 220 5).toInt := fun j hj => by
    have : 0 ≤ (x.1 220 8).toInt * (x.1 60 10).toInt := Int.mul_nonneg (by omega) (by omega)
    omega
  have pp : ∀ t k : Nat, (t : Int) < (x.1 60 10).toInt → k < usN x 220 t → (pa x 220 t k : Int) < (x.1 220 5).toInt := fun t k ht hk => by
    refine pa_lt hM.2.1 ht ?_ (by omega)
    have hA := (hM.2.2 t ht).1
    unfold usN at hk
    by_cases c0 : (rg x 220 t 7).toInt = 0
    · omega
    · have := (lt_in hM.1 hM.2.1 hA (i := (rg x 220 t 7).toInt.toNat - 1) (by have := hA.2.1; omega)).2
      have := hA.2.1
      omega
  unfold rwS
  refine and_congr (forall_congr' fun j => imp_congr_right fun hj => ?_) (forall_congr' fun t => forall_congr' fun k => imp_congr_right fun ht => imp_congr_right fun hk => ?_)
  · rw [cp j (p7 j hj)]
  · rw [cp _ (pp t k ht hk)]
/-- the machine's state is a kept one just where the rows are the same -/
theorem kp_one (hM : MM x 220) (hK : CK x C) (hN : NC C) (en : (x.1 60 9).toInt = (nl : Nat)) (g : KMm x 220 C M) (qc : MCn C nl M) (qn : NBm M) {M' : gMa} (k : KPs C nl w x s M') : (M = M' ↔ rwS x 220 (x.1 (1000 + s))) ∧ (M = M' → x.1 204 s = mxO x 220) := by
  obtain ⟨k1, k2, k3, k4, k5, k6⟩ := k
  have k1 : MM (kpM x s) 220 := k1
  have sm : M = M' → rwS x 220 ((kpM x s).1 225) := fun e => KMm_same hM hK (kp_gm x s) g (by rw [e]; exact k2)
  refine ⟨⟨fun e => (kp_row hM).mpr (sm e), fun r => KMm_one hM k1 hK (kp_CK hK) hN en (kp_gm x s) g k2 qc k4 qn k5 ((kp_row hM).mp r)⟩, fun e => ?_⟩
  rw [k6]
  exact mx_same hM (kp_gm x s) (sm e)
theorem kx_isKept3 (hq : kV q) (he : q.ex = true) (hM : MM x 220) (hn : q.kn ≤ 3000) (nk : n ≤ q.kn) (hK : CK x C) (hN : NC C) (en : (x.1 60 9).toInt = (nl : Nat)) (g : KMm x 220 C M) (qc : MCn C nl M) (qn : NBm M) (hs : ∀ s, s < n → KPs C nl w x s (Ms s)) (hT : TBx x n) (h : ∀ r y, gbool r → fm sKp x y → (0 ≤ (y.1 200 5).toInt ∧ (y.1 200 5).toInt < 8192) → y.1 200 6 = mxO x 220 → ((¬ r = 0 ∧ ∃ s, s < n ∧ Ms s = M) ∨ (r = 0 ∧ (∀ s, s < n → ¬ Ms s = M) ∧ x.1 205 (y.1 200 5).toNatClampNeg = 0 ∧ ∃ p, p < 8192 ∧ (y.1 200 5).toNatClampNeg = ((mxO x 220 &&& 8191).toNatClampNeg + p) % 8192 ∧ ∀ i, i < p → ¬ x.1 205 (((mxO x 220 &&& 8191).toNatClampNeg + i) % 8192) = 0)) → F r y) : KT G q (d + 3) zk_X2_isKept 0 [(0, vr 200)] [] x (ri F) := by
  have kM : (8192 : Int32).toInt = 8192 := rfl
  have k1 : (1 : Int32).toInt = 1 := rfl
  have k0 : (0 : Int32).toInt = 0 := rfl
  obtain ⟨hT1, hT2, hT3⟩ := hT
  have mm : ∀ y, fm sKp x y → MM y 220 := fun y f => MM_ag (fun c k hc => f c k (by unfold sKp; omega)) (fun k h1 h2 => f _ _ (by unfold sKp; omega)) (fun k hk => f _ _ (by unfold sKp; omega)) hM
  have rr : ∀ y, fm sKp x y → ∀ s, (rwS y 220 (y.1 (1000 + s)) ↔ rwS x 220 (x.1 (1000 + s))) := fun y f s => by
    have f7 : y.1 220 7 = x.1 220 7 := f _ _ (by unfold sKp; omega)
    have f8 : y.1 220 8 = x.1 220 8 := f _ _ (by unfold sKp; omega)
    have f9 : y.1 220 9 = x.1 220 9 := f _ _ (by unfold sKp; omega)
    have f5 : y.1 (220 + 5) = x.1 (220 + 5) := funext (fun k => f _ _ (by unfold sKp; omega))
    have fs : y.1 (1000 + s) = x.1 (1000 + s) := funext (fun k => f _ _ (by unfold sKp; omega))
    have f10 : y.1 60 10 = x.1 60 10 := f _ _ (by unfold sKp; omega)
    unfold rwS usN rg pa
    rw [f7, f8, f9, f5, fs, f10]
  obtain ⟨mx, emx⟩ : ∃ mx, mx = mxO x 220 := ⟨_, rfl⟩
  rw [← emx] at h
  obtain ⟨H, eH⟩ : ∃ H : Nat, H = (mx &&& 8191).toNatClampNeg := ⟨_, rfl⟩
  have H8 : H < 8192 := by have := t_and8 mx; rw [eH, t_cl]; omega
  rw [← eH] at h
  -- what was looked at is another state
  have loop : ∀ (m k : Nat) (i : Int32) (y : gd), i.toInt = k → k + m = 8192 → fm sKp x y → (y.1 200 5).toInt = (((H + k) % 8192 : Nat) : Int) → y.1 200 6 = mx → (∀ i, i < k → ¬ x.1 205 ((H + i) % 8192) = 0) → (∀ i s, i < k → (x.1 205 ((H + i) % 8192)).toInt = (s : Nat) + 1 → ¬ Ms s = M) → KT G q (d + 3) zk_X2_isKept 25 [(0, vr 200), (1, vi i)] [] y (ri F) := by
    intro m
    induction m with
    | zero =>
      intro k i y ei hm fy hy y6 hz hne
      exfalso
      have all : ∀ j ∈ List.range 8192, decide (¬ x.1 205 j = 0) = true := fun j hj => by
        have hj := List.mem_range.mp hj
        have := hz ((j + 8192 - H) % 8192) (by omega)
        rw [show (H + (j + 8192 - H) % 8192) % 8192 = j by omega] at this
        exact decide_eq_true this
      have := List.countP_eq_length.mpr all
      rw [List.length_range] at this
      omega
    | succ m ih =>
      intro k i y ei hm fy hy y6 hz hne
      refine kg_X2_isKept_25 hq he _ ⟨fun c => ?_, fun c => ?_⟩
      · exfalso; rw [t_le, kM] at c; omega
      have e1 : (i + 1).toInt = ((k + 1 : Nat) : Int) := by rw [t_add (by show _ ≤ _ + (1 : Int); omega) (by show _ + (1 : Int) ≤ _; omega), ei]; rfl
      have hy8 : 0 ≤ (y.1 200 5).toInt ∧ (y.1 200 5).toInt < 8192 := by omega
      have v8 : vp_in (y.1 200 5) 8192 := by rw [vp_in_iff]; omega
      obtain ⟨J, hJ⟩ : ∃ J : Nat, J = (y.1 200 5).toNatClampNeg := ⟨_, rfl⟩
      have eJ : J = (H + k) % 8192 := by rw [hJ, t_cl, hy]; rfl
      have hJ8 : J < 8192 := by omega
      rw [← hJ]
      rw [fy 205 J (by unfold sKp; omega)]
      refine ⟨v8, fun c0 => ri_i (h _ _ gbool_0 fy hy8 y6 (Or.inr ⟨rfl, fun s hs9 => ?_, by rw [← hJ]; exact c0, k, by omega, by rw [← hJ]; exact eJ, hz⟩)), fun c2 => ⟨v8, ?_⟩⟩
      · intro eM
        have kp := kp_one hM hK hN en g qc qn (hs s hs9)
        have em := kp.2 eM.symm
        obtain ⟨p, p8, p1, p2⟩ := hT2 s hs9
        rw [em, ← emx, ← eH] at p1 p2
        by_cases cp : p < k
        · exact hne p s cp p1 eM
        · by_cases cp2 : p = k
          · rw [cp2, ← eJ, c0, k0] at p1; omega
          · exact p2 k (by omega) (by rw [← eJ]; exact c0)
      have tj := hT1 J hJ8
      rw [t_eq, k0] at c2
      obtain ⟨s, hs9⟩ : ∃ s : Int32, s = x.1 205 J - 1 := ⟨_, rfl⟩
      have es : s.toInt = (x.1 205 J).toInt - 1 := by rw [hs9, t_sub (by rw [k1]; omega) (by rw [k1]; omega), k1]
      rw [← hs9]
      clear hs9
      have vs : vp_in s 3000 := by rw [vp_in_iff]; omega
      have eS : s.toNatClampNeg = s.toInt.toNat := rfl
      have hsn : s.toInt.toNat < n := by omega
      have kp := kp_one hM hK hN en g qc qn (hs s.toInt.toNat hsn)
      have go : ¬ Ms s.toInt.toNat = M → ∀ z w', fm sKp x z → z.1 200 5 = y.1 200 5 → z.1 200 6 = mx → w' = si z 200 5 ((z.1 200 5 + 1) &&& 8191) → KT G q (d + 3) zk_X2_isKept 25 [(0, vr 200), (1, vi (i + 1))] [] w' (ri F) := by
        intro nM z w' fz z5 z6 ew
        have w5 : w'.1 200 5 = (y.1 200 5 + 1) &&& 8191 := by rw [ew, si_get, if_pos ⟨rfl, rfl⟩, z5]
        have ep : (y.1 200 5 + 1).toInt = (y.1 200 5).toInt + 1 := by rw [t_add (by rw [k1]; omega) (by rw [k1]; omega), k1]
        refine ih (k + 1) _ w' e1 (by omega) (by rw [ew]; exact fm_si fz (by unfold sKp; omega)) ?_ ?_ (fun i hi => ?_) (fun i s9 hi hs9 => ?_)
        · rw [w5, t_and8e (by omega), ep, hy]
          omega
        · rw [ew, si_get, if_neg (by decide)]; exact z6
        · by_cases ck : i = k
          · rw [ck, ← eJ]
            intro z9
            rw [z9, k0] at c2
            exact c2 rfl
          · exact hz i (by omega)
        · by_cases ck : i = k
          · rw [ck, ← eJ] at hs9
            have : s9 = s.toInt.toNat := by omega
            rw [this]; exact nM
          · exact hne i s9 (by omega) hs9
      refine ⟨vs, fun cm z ez => go (fun eM => ?_) y z fy rfl y6 ez, fun cm => ⟨vs, fun u eu => ?_⟩⟩
      · have em := kp.2 eM.symm
        rw [eS, fy 204 _ (by unfold sKp; omega), y6] at cm
        exact cm (by rw [em, emx])
      · have hsk : s.toInt.toNat < q.kn := by omega
        rw [eS, ke_r hsk] at eu
        refine ⟨_, eu, ke_k (by omega), ke_m hq hsk, kh_isSame hq (Or.inr ⟨rfl, he⟩) (mm y fy) (ke_k (by omega)) (ke_m hq hsk) (fun r gr hr => ⟨fun r0 z ez => go (fun eM => ?_) y z fy rfl y6 ez, fun rn => ri_i (h _ _ gbool_1 fy hy8 y6 (Or.inl ⟨by decide, s.toInt.toNat, hsn, ?_⟩))⟩)⟩
        · exact (hr.mpr ((rr y fy _).mpr (kp.1.mp eM.symm))) r0
        · exact (kp.1.mpr ((rr y fy _).mp (hr.mp rn))).symm
  refine kg_X2_isKept_0 hq he (kh_mix hq (Or.inr ⟨rfl, he⟩) hM (fun x3 e3 x4 e4 => ?_))
  rw [← emx] at e3
  have g6 : x3.1 200 6 = mx := by rw [e3, si_get, if_pos ⟨rfl, rfl⟩]
  have g5 : x4.1 200 5 = mx &&& 8191 := by rw [e4, si_get, if_pos ⟨rfl, rfl⟩, g6]
  refine loop 8192 0 _ x4 rfl (by omega) (by rw [e4, e3]; exact fm_si (fm_si (fm_rf _ _) (by unfold sKp; omega)) (by unfold sKp; omega)) ?_ ?_ (fun i hi => absurd hi (Nat.not_lt_zero _)) (fun i s hi => absurd hi (Nat.not_lt_zero _))
  · have := t_and8 mx
    rw [g5]
    rw [t_cl] at eH
    omega
  · rw [e4, si_get, if_neg (by decide)]; exact g6
end KPT
end
section
/-! the class: a state is added -/
/-- what the memory holds of a trying: states, whence they come, whether it is partly -/
def KX3 (C : gCo) (nl w : Nat) (x : gd) (o : Nat) (T : gTy) : Prop := ((x.1 o 0).toInt = (T.1.length : Nat) ∧ x.1 o 1 = if T.2 = true then 1 else 0) ∧ (∀ s p, T.1[s]? = some p → KPs C nl w x s p.1) ∧ TBx x T.1.length ∧ ∀ s p, T.1[s]? = some p → (s = 0 → (x.1 (o + 12) 0).toInt = 0) ∧ (0 < s → p.2.1 < s ∧ (x.1 (o + 10) s).toInt = (p.2.1 : Nat) ∧ (x.1 (o + 11) s).toInt = (p.2.2 : Nat) ∧ (x.1 (o + 12) s).toInt = (x.1 (o + 12) p.2.1).toInt + 1)
theorem cnt_ins {f g : Nat → Bool} {J : Nat} (h : ∀ j, ¬ j = J → g j = f j) : ∀ m, (List.range m).countP g ≤ (List.range m).countP f + (if J < m then 1 else 0) := by
  intro m
  induction m with
  | zero => exact Nat.le_add_right _ _
  | succ m ih =>
    rw [List.range_succ, List.countP_append, List.countP_append, List.countP_singleton, List.countP_singleton]
    by_cases c : m = J
    · rw [if_neg (by omega)] at ih
      have e1 : (if J < m + 1 then 1 else 0) = 1 := if_pos (by omega)
      have : (if g m = true then 1 else 0) ≤ 1 := by split <;> omega
      omega
    · rw [h m c]
      have : (if J < m then 1 else 0) ≤ (if J < m + 1 then 1 else 0) := by
        split
        · rw [if_pos (by omega)]; exact Nat.le_refl _
        · exact Nat.zero_le _
      omega
section KEP
variable {G : kG} {q : kP} {d : Nat} {x y z : gd} {F : Int32 → gd → Prop} {Fv : gd → Prop} {Fm : gd → kP → Prop} {X : String → gd → kP → Prop} {C : gCo} {M : gMa} {T : gTy} {nl w n s o : Nat}
theorem TB_ins (hT : TBx x n) {J : Nat} (hJ : J < 8192) (h0 : x.1 205 J = 0) (y4 : ∀ s, s < n → y.1 204 s = x.1 204 s) (yJ : (y.1 205 J).toInt = (n : Int) + 1) (y5 : ∀ j, ¬ j = J → y.1 205 j = x.1 205 j) (hp : ∃ p, p < 8192 ∧ J = ((y.1 204 n &&& 8191).toNatClampNeg + p) % 8192 ∧ ∀ i, i < p → ¬ x.1 205 (((y.1 204 n &&& 8191).toNatClampNeg + i) % 8192) = 0) : TBx y (n + 1) := by
  obtain ⟨t1, t2, t3⟩ := hT
  have k0 : (0 : Int32).toInt = 0 := rfl
  have nz : ∀ j, ¬ x.1 205 j = 0 → ¬ y.1 205 j = 0 := fun j hj => by
    rw [y5 j (fun e => hj (by rw [e]; exact h0))]; exact hj
  refine ⟨fun j hj => ?_, fun s hs => ?_, ?_⟩
  · by_cases c : j = J
    · rw [c, yJ]; omega
    · rw [y5 j c]
      have := t1 j hj
      omega
  · by_cases c : s = n
    · rw [c]
      obtain ⟨p, p1, p2, p3⟩ := hp
      exact ⟨p, p1, by rw [← p2]; exact yJ, fun i hi => nz _ (p3 i hi)⟩
    · obtain ⟨p, p1, p2, p3⟩ := t2 s (by omega)
      rw [y4 s (by omega)]
      refine ⟨p, p1, ?_, fun i hi => nz _ (p3 i hi)⟩
      rw [y5 _ (fun e => ?_)]
      · exact p2
      · rw [e, h0, k0] at p2; omega
  · have := cnt_ins (f := fun j => decide (¬ x.1 205 j = 0)) (g := fun j => decide (¬ y.1 205 j = 0)) (J := J) (fun j hj => by show decide _ = decide _; rw [y5 j hj]) 8192
    have : (if J < 8192 then 1 else 0) ≤ 1 := by split <;> omega
    omega
theorem pz7 (hM : MM x 220) {j : Nat} (hj : (j : Int) < (x.1 220 7).toInt) : (j : Int) < (x.1 220 5).toInt := by
  obtain ⟨b1, b2, b3, b4, b5, b6, b7⟩ := MG_b hM.1 hM.2.1
  have t6 := hM.1.1.2.2.1
  have g6 := hM.2.1.2.2.2.2.2
  have : 0 ≤ (x.1 220 8).toInt * (x.1 60 10).toInt := Int.mul_nonneg (by omega) (by omega)
  omega
theorem pzT (hM : MM x 220) {t k : Nat} (ht : (t : Int) < (x.1 60 10).toInt) (hk : k < usN x 220 t) : (pa x 220 t k : Int) < (x.1 220 5).toInt := by
  obtain ⟨b1, b2, b3, b4, b5, b6, b7⟩ := MG_b hM.1 hM.2.1
  refine pa_lt hM.2.1 ht ?_ (by omega)
  have hA := (hM.2.2 t ht).1
  unfold usN at hk
  by_cases c0 : (rg x 220 t 7).toInt = 0
  · omega
  · have := (lt_in hM.1 hM.2.1 hA (i := (rg x 220 t 7).toInt.toNat - 1) (by have := hA.2.1; omega)).2
    have := hA.2.1
    omega
theorem rw_in (hM : MM x 220) (hr : ∀ k : Nat, (k : Int) < (x.1 220 5).toInt → y.1 (220 + 5) k = x.1 (220 + 5) k) : rwS x 220 (y.1 (220 + 5)) := ⟨fun j hj => (hr j (pz7 hM hj)).symm, fun t k ht hk => (hr _ (pzT hM ht hk)).symm⟩
theorem KMm_in (hM : MM x 220) (hK : CK x C) (e : gmE x y 220) (hr : ∀ k : Nat, (k : Int) < (x.1 220 5).toInt → y.1 (220 + 5) k = x.1 (220 + 5) k) (g : KMm x 220 C M) : KMm y 220 C M := by
  have nT : (x.1 60 10).toInt = C.2.1.length := hK.2.1.1
  obtain ⟨b1, b2, b3, b4, b5, b6, b7⟩ := MG_b hM.1 hM.2.1
  refine ⟨KMl_e hM.2.1 e.1.1 e.1.2.1 (fun j hj => hr j (pz7 hM hj)) g.1 hM.1, fun t ht => kTq_e hM.1 hM.2.1 (hM.2.2 t (by omega)).1 e.1.2.2.2 e.2.2.2 (fun k hk => ?_) (g.2 t ht)⟩
  unfold rg
  rw [gm_pa e]
  exact hr _ (pa_lt hM.2.1 (by omega) hk (by omega))
theorem gm_ag (hc : agC x y) (hm : agM 220 x y) : gmE x y 220 := ⟨⟨hc _ _ (by omega), hc _ _ (by omega), hc _ _ (by omega), hc _ _ (by omega)⟩, hm _ (by omega) (by omega), hm _ (by omega) (by omega), hm _ (by omega) (by omega)⟩
theorem kpm_get (x : gd) (s k : Nat) (hk : (k : Int) < (x.1 220 5).toInt) : (kpM x s).1 (220 + 5) k = x.1 (1000 + s) k := by
  unfold kpM
  rw [scp_get, if_pos ⟨rfl, by omega, by rw [t_cl]; omega⟩, Nat.sub_zero, Nat.zero_add]
theorem kp_ag (hc : agC x y) (hm : agM 220 x y) : agC (kpM x s) (kpM y s) ∧ agM 220 (kpM x s) (kpM y s) := by
  have f : ∀ (x : gd) c k, ¬ c = 225 → (kpM x s).1 c k = x.1 c k := fun x c k hc => by unfold kpM; rw [scp_get, if_neg (fun z => hc z.1)]
  exact ⟨fun c k h => by rw [f x c k (by omega), f y c k (by omega)]; exact hc c k h, fun k h1 h2 => by rw [f x _ _ (by omega), f y _ _ (by omega)]; exact hm k h1 h2⟩
theorem kp_ag1 (hc : agC x y) (hm : agM 220 x y) : agC x (kpM y s) ∧ agM 220 x (kpM y s) := by
  have f : ∀ (x : gd) c k, ¬ c = 225 → (kpM x s).1 c k = x.1 c k := fun x c k hc => by unfold kpM; rw [scp_get, if_neg (fun z => hc z.1)]
  exact ⟨fun c k h => by rw [f y c k (by omega)]; exact hc c k h, fun k h1 h2 => by rw [f y _ _ (by omega)]; exact hm k h1 h2⟩
/-- a kept row stays -/
theorem KPs_ag (hK : CK x C) (hc : agC x y) (hm : agM 220 x y) (hr : ∀ k, y.1 (1000 + s) k = x.1 (1000 + s) k) (e4 : y.1 204 s = x.1 204 s) (k : KPs C nl w x s M) : KPs C nl w y s M := by
  obtain ⟨k1, k2, k3, k4, k5, k6⟩ := k
  have e5 : y.1 220 5 = x.1 220 5 := hm 5 (by omega) (by omega)
  have m1 : MM (kpM x s) 220 := k1
  obtain ⟨ac, am⟩ := kp_ag (s := s) hc hm
  have f5 : (kpM x s).1 220 5 = x.1 220 5 := by unfold kpM; rw [scp_get, if_neg (by omega)]
  have row : ∀ k : Nat, (k : Int) < ((kpM x s).1 220 5).toInt → (kpM y s).1 (220 + 5) k = (kpM x s).1 (220 + 5) k := fun k hk => by
    rw [f5] at hk
    rw [kpm_get y s k (by rw [e5]; exact hk), kpm_get x s k hk]; exact hr k
  have em := mx_same m1 (gm_ag ac am) (rw_in m1 row)
  exact ⟨KR_ag hc hm (fun k _ => hr k) k1, KMm_in m1 (kp_CK hK) (gm_ag ac am) row k2, k3, k4, k5, by rw [e4, em]; exact k6⟩
/-- a new row holds the machine's state -/
theorem KPs_new (hM : MM x 220) (hK : CK x C) (g : KMm x 220 C M) (qi : MIv C w M) (qc : MCn C nl M) (qn : NBm M) (hc : agC x y) (hm : agM 220 x y) (hr : ∀ k : Nat, (k : Int) < (x.1 220 5).toInt → y.1 (1000 + s) k = x.1 225 k) (e4 : y.1 204 s = mxO x 220) (hR : KR y s) : KPs C nl w y s M := by
  have e5 : y.1 220 5 = x.1 220 5 := hm 5 (by omega) (by omega)
  obtain ⟨ac, am⟩ := kp_ag1 (s := s) hc hm
  have row : ∀ k : Nat, (k : Int) < (x.1 220 5).toInt → (kpM y s).1 (220 + 5) k = x.1 (220 + 5) k := fun k hk => by
    rw [kpm_get y s k (by rw [e5]; exact hk)]; exact hr k hk
  have em := mx_same hM (gm_ag ac am) (rw_in hM row)
  exact ⟨hR, KMm_in hM hK (gm_ag ac am) row g, qi, qc, qn, by rw [e4, em]⟩
/-- what a trying holds stays where its memory stays -/
theorem KX3_f (hK : CK x C) (hc : agC x y) (hm : agM 220 x y) (hr : ∀ s k, s < T.1.length → y.1 (1000 + s) k = x.1 (1000 + s) k) (e4 : ∀ k, y.1 204 k = x.1 204 k) (e5 : ∀ k, y.1 205 k = x.1 205 k) (e0 : y.1 o 0 = x.1 o 0) (e1 : y.1 o 1 = x.1 o 1) (e10 : ∀ k, y.1 (o + 10) k = x.1 (o + 10) k) (e11 : ∀ k, y.1 (o + 11) k = x.1 (o + 11) k) (e12 : ∀ k, y.1 (o + 12) k = x.1 (o + 12) k) (h : KX3 C nl w x o T) : KX3 C nl w y o T := by
  obtain ⟨h0, h1, h2, h3⟩ := h
  refine ⟨by rw [e0, e1]; exact h0, fun s p hp => KPs_ag hK hc hm (fun k => hr s k (gt_lt hp)) (e4 s) (h1 s p hp), ?_, fun s p hp => ?_⟩
  · unfold TBx
    rw [show y.1 205 = x.1 205 from funext e5, show y.1 204 = x.1 204 from funext e4]
    exact h2
  · rw [e10, e11, e12, e12, e12]; exact h3 s p hp
theorem kt_addState3 (hq : kV q) (ho : kiT q o) (a b : Int32) (hz : TZ x o) (ha : a = -1 ∨ (0 ≤ a.toInt ∧ a.toInt < (x.1 o 0).toInt)) (hlt : (x.1 o 0).toInt < 3000) (h : ∀ y, fm (fun c k => (c = o ∧ k = 0) ∨ (k = (x.1 o 0).toInt.toNat ∧ o + 10 ≤ c ∧ c ≤ o + 12)) x y → TZ y o → (y.1 o 0).toInt = (x.1 o 0).toInt + 1 → y.1 (o + 10) (x.1 o 0).toInt.toNat = a → y.1 (o + 11) (x.1 o 0).toInt.toNat = b → (a = -1 → y.1 (o + 12) (x.1 o 0).toInt.toNat = 0) → (¬ a = -1 → (y.1 (o + 12) (x.1 o 0).toInt.toNat).toInt = (x.1 (o + 12) a.toInt.toNat).toInt + 1) → Fv y) : KT G q d zk_X10_addState 0 [(0, vr o), (1, vi a), (2, vi b)] [] x (rv Fv) := by
  have k3 : (3000 : Int32).toInt = 3000 := rfl
  have k1 : (1 : Int32).toInt = 1 := rfl
  have k0 : (0 : Int32).toInt = 0 := rfl
  obtain ⟨⟨b0, b1⟩, hf, hs⟩ := hz
  refine kg_X10_addState_0 hq ho _ _ ⟨fun c => ?_, fun c => ?_⟩
  · rw [t_le, k3] at c; omega
  clear c
  have eS : (x.1 o 0).toNatClampNeg = (x.1 o 0).toInt.toNat := rfl
  obtain ⟨n, hn⟩ : ∃ n, n = (x.1 o 0).toInt.toNat := ⟨_, rfl⟩
  rw [← hn] at h eS
  have v0 : vp_in (x.1 o 0) 3000 := by rw [vp_in_iff]; omega
  rw [eS]
  refine ⟨v0, fun x3 e3 => ?_⟩
  have f3 : fm (fun c k => c = o + 10 ∧ k = n) x x3 := by rw [e3]; exact fm_si (fm_rf _ _) ⟨rfl, rfl⟩
  rw [f3 o 0 (by omega), eS]
  refine ⟨v0, fun x5 e5 => ?_⟩
  have f5 : fm (fun c k => (c = o + 10 ∧ k = n) ∨ (c = o + 11 ∧ k = n)) x x5 := by rw [e5]; exact fm_si (fm_w f3 (fun c k q => Or.inl q)) (Or.inr ⟨rfl, rfl⟩)
  rw [f5 o 0 (by omega), eS]
  have fin : ∀ (w : Int32) (y z : gd), y = si x5 (o + 12) n w → z = si y o 0 (y.1 o 0 + 1) → (0 ≤ w.toInt ∧ w.toInt ≤ (x.1 o 0).toInt) → (a = -1 → w = 0) → (¬ a = -1 → (0 ≤ a.toInt ∧ a.toInt < (x.1 o 0).toInt ∧ w.toInt = (x.1 (o + 12) a.toInt.toNat).toInt + 1)) → rv Fv none z := by
    intro w y z ey ez hw hw1 hw2
    have gy : y.1 o 0 = x.1 o 0 := by rw [ey, si_cell (by omega), f5 o 0 (by omega)]
    rw [gy] at ez
    have g0 : z.1 o 0 = x.1 o 0 + 1 := by rw [ez, si_get, if_pos ⟨rfl, rfl⟩]
    have e1 : (x.1 o 0 + 1).toInt = (x.1 o 0).toInt + 1 := by rw [t_add (by rw [k1]; omega) (by rw [k1]; omega), k1]
    have g7 : ∀ k, z.1 (o + 7) k = x.1 (o + 7) k := fun k => by rw [ez, si_cell (by omega), ey, si_cell (by omega), f5 _ _ (by omega)]
    have g10 : ∀ k, ¬ k = n → z.1 (o + 10) k = x.1 (o + 10) k := fun k hk => by rw [ez, si_cell (by omega), ey, si_cell (by omega), f5 _ _ (by omega)]
    have g12 : ∀ k, ¬ k = n → z.1 (o + 12) k = x.1 (o + 12) k := fun k hk => by rw [ez, si_cell (by omega), ey, si_get, if_neg (fun q => hk q.2), f5 _ _ (by omega)]
    have n10 : z.1 (o + 10) n = a := by rw [ez, si_cell (by omega), ey, si_cell (by omega), e5, si_cell (by omega), e3, si_get, if_pos ⟨rfl, rfl⟩]
    have n11 : z.1 (o + 11) n = b := by rw [ez, si_cell (by omega), ey, si_cell (by omega), e5, si_get, if_pos ⟨rfl, rfl⟩]
    have n12 : z.1 (o + 12) n = w := by rw [ez, si_cell (by omega), ey, si_get, if_pos ⟨rfl, rfl⟩]
    refine rv_i (h z ?_ ?_ (by rw [g0, e1]) n10 n11 (fun c => by rw [n12]; exact hw1 c) (fun c => by rw [n12]; exact (hw2 c).2.2))
    · rw [ez, ey]; exact fm_si (fm_si (fm_w f5 (fun c k q => by omega)) (by omega)) (by omega)
    · unfold TZ; rw [g0, e1]
      refine ⟨by omega, fun f hf2 => ?_, fun s hs2 => ?_⟩
      · rw [g7]
        rcases hf f hf2 with e | e
        · exact Or.inl e
        · exact Or.inr (by omega)
      · by_cases h9 : s = n
        · rw [h9, n12, n10]
          refine ⟨by omega, ?_⟩
          by_cases ca : a = -1
          · rw [hw1 ca]; exact Or.inl rfl
          · obtain ⟨q1, q2, q3⟩ := hw2 ca
            exact Or.inr ⟨q1, by omega, by rw [g12 _ (by omega)]; exact q3⟩
        · obtain ⟨s1, s2⟩ := hs s (by omega)
          rw [g12 s h9, g10 s h9]
          refine ⟨s1, ?_⟩
          rcases s2 with e | ⟨q1, q2, q3⟩
          · exact Or.inl e
          · exact Or.inr ⟨q1, q2, by rw [g12 _ (by omega)]; exact q3⟩
  refine ⟨fun hn1 => ?_, fun hn1 => ⟨v0, fun y ey z ez => fin _ y z ey ez (by rw [k0]; omega) (fun _ => rfl) (fun c => absurd hn1 c)⟩⟩
  have ha2 : 0 ≤ a.toInt ∧ a.toInt < (x.1 o 0).toInt := by
    rcases ha with e | e
    · exact absurd e hn1
    · exact e
  have eA : a.toNatClampNeg = a.toInt.toNat := rfl
  rw [eA, f5 (o + 12) _ (by omega)]
  obtain ⟨s1, s2⟩ := hs a.toInt.toNat (by omega)
  have e1 : (x.1 (o + 12) a.toInt.toNat + 1).toInt = (x.1 (o + 12) a.toInt.toNat).toInt + 1 := by rw [t_add (by rw [k1]; omega) (by rw [k1]; omega), k1]
  refine ⟨by rw [vp_in_iff]; omega, v0, fun y ey z ez => fin _ y z ey ez ?_ (fun c => absurd c hn1) (fun _ => ⟨ha2.1, ha2.2, e1⟩)⟩
  rw [e1]; omega
end KEP
end
section
/-! the class: a new state is added, one that is kept is not -/
section KAD
variable {G : kG} {q : kP} {d : Nat} {x y z : gd} {F : Int32 → gd → Prop} {Fv : gd → Prop} {Fm : gd → kP → Prop} {X : String → gd → kP → Prop} {C : gCo} {M : gMa} {T : gTy} {nl w n s o : Nat}
theorem kx_keep3 (hu : kU q) (he : q.ex = true) (ho : kiT q o) (ht : q.et = some o) (hX : XI x q o) (hM : MM x 220) (hK : CK x C) (g : KMm x 220 C M) (qi : MIv C w M) (qc : MCn C nl M) (qn : NBm M) (hT : KX3 C nl w x o T) (hs : 0 ≤ (x.1 200 5).toInt ∧ (x.1 200 5).toInt < 8192) (h6 : x.1 200 6 = mxO x 220) (h0 : x.1 205 (x.1 200 5).toNatClampNeg = 0) (hp : ∃ p, p < 8192 ∧ (x.1 200 5).toNatClampNeg = ((mxO x 220 &&& 8191).toNatClampNeg + p) % 8192 ∧ ∀ i, i < p → ¬ x.1 205 (((mxO x 220 &&& 8191).toNatClampNeg + i) % 8192) = 0) (a b : Int32) {A B : Nat} (ha : (a = -1 ∧ T.1.length = 0) ∨ (a.toInt = (A : Nat) ∧ A < T.1.length ∧ b.toInt = (B : Nat))) (hl3 : T.1.length < 3000) (h : ∀ y q1, kU q1 → kle q q1 → q1.et = q.et → fm (sKe o) x y → XI y q1 o → (∀ s k : Nat, (s : Int) < (x.1 o 0).toInt → y.1 (1000 + s) k = x.1 (1000 + s) k) → KX3 C nl w y o (T.1 ++ [(M, A, B)], T.2) → Fm y q1) : KM G q (d + 2) zk_X2_keep 0 [(0, vr 200), (1, vi a), (2, vi b)] [] x (rm q Fm) X := by
  have hO := iT_O ho
  have k3 : (3000 : Int32).toInt = 3000 := rfl
  have k0 : (0 : Int32).toInt = 0 := rfl
  have k1 : (1 : Int32).toInt = 1 := rfl
  have km : (-1 : Int32).toInt = -1 := rfl
  obtain ⟨⟨hC, hG⟩, ⟨hz, hT0⟩, hn, hr, hb⟩ := hX
  obtain ⟨⟨T0, T1⟩, T2, T3, T4⟩ := hT
  have bz := hz.1
  have bsz := sz_b hC hG
  obtain ⟨S, hS⟩ : ∃ S : Nat, S = T.1.length := ⟨_, rfl⟩
  rw [← hS] at T0 T3 hl3 ha
  have haX : a = -1 ∨ (0 ≤ a.toInt ∧ a.toInt < (x.1 o 0).toInt) := by
    rcases ha with c | c
    · exact Or.inl c.1
    · exact Or.inr (by omega)
  have tS : (x.1 o 0).toNatClampNeg = S := by rw [t_cl, T0]; rfl
  have tS2 : (x.1 o 0).toInt.toNat = S := by omega
  have part2 : ∀ (q1 : kP) (z : gd), kU q1 → kle q q1 → q1.et = q.et → fm (fun c k => c = 1000 + S) x z → S < q1.kn → KM G q1 (d + 2) zk_X2_keep 36 [(0, vr 200), (1, vi a), (2, vi b), (3, vi (x.1 o 0))] [] z (rm q Fm) X := by
    intro q1 z hu1 hl1 et1 fz hN
    have ho1 := kle_T hl1 ho
    have he1 := hl1.2.1.2.1 he
    have ht1 : q1.et = some o := by rw [et1]; exact ht
    refine kg_X2_keep_36 hu1 he1 a b _ ⟨by rw [vp_in_iff]; omega, fun u eu => ?_⟩
    rw [tS, ke_r hN] at eu
    rw [tS, fz 220 5 (by omega)]
    refine ⟨_, eu, ke_k hl3, ke_m hu1.1 hN, by decide, by decide, by rw [t_lt, k0]; omega, by rw [tn0, t_cl]; omega, by rw [tn0, t_cl]; omega, fun x11 e11 => ⟨by rw [vp_in_iff]; omega, fun x13 e13 => ?_⟩⟩
    have g13 : ∀ c k, ¬ c = 1000 + S → ¬ (c = 204 ∧ k = S) → x13.1 c k = x.1 c k := by
      intro c k h1 h2
      rw [e13, si_get, if_neg h2, e11, scp_get, if_neg (fun z => h1 z.1)]; exact fz c k h1
    have m13 : x13.1 204 S = mxO x 220 := by rw [e13, si_get, if_pos ⟨rfl, rfl⟩, e11, scp_get, if_neg (by omega), fz 200 6 (by omega)]; exact h6
    rw [g13 200 5 (by omega) (by omega)]
    refine ⟨by rw [vp_in_iff]; omega, fun x15 e15 u16 e16 => ⟨o, by rw [e16, et_r ht1], ho1, ?_⟩⟩
    have e01 : (x.1 o 0 + 1).toInt = (x.1 o 0).toInt + 1 := by rw [t_add (by rw [k1]; omega) (by rw [k1]; omega), k1]
    obtain ⟨J, hJ⟩ : ∃ J, J = (x.1 200 5).toNatClampNeg := ⟨_, rfl⟩
    have hJ8 : J < 8192 := by rw [hJ, t_cl]; omega
    rw [← hJ] at e15 h0 hp
    have g15 : ∀ c k, ¬ c = 1000 + S → ¬ (c = 204 ∧ k = S) → ¬ (c = 205 ∧ k = J) → x15.1 c k = x.1 c k := by
      intro c k h1 h2 h3
      rw [e15, si_get, if_neg h3]; exact g13 c k h1 h2
    have f15 : fm (fun c k => c = 1000 + S ∨ c = 204 ∨ c = 205) x x15 := fun c k hc => g15 c k (fun z => hc (Or.inl z)) (fun z => hc (Or.inr (Or.inl z.1))) (fun z => hc (Or.inr (Or.inr z.1)))
    have row : ∀ k, k < (x.1 220 5).toNatClampNeg → x15.1 (1000 + S) k = x.1 225 k := by
      intro k hk
      rw [e15, si_get, if_neg (by omega), e13, si_get, if_neg (by omega), e11, scp_get, if_pos ⟨rfl, by rw [tn0]; omega, by rw [tn0]; omega⟩, tn0, fz _ _ (by omega), show 0 + (k - 0) = k by omega]
    have z15 : TZ x15 o := TZ_fm f15 (by omega) (fun c k hc => by omega) hz
    have o15 : x15.1 o 0 = x.1 o 0 := g15 o 0 (by omega) (by omega) (by omega)
    refine kt_addState3 hu1.1 ho1 a b z15 (by rw [o15]; exact haX) (by rw [o15]; omega) (fun y fy hzy hey y10 y11 y12 y12' => ?_)
    rw [o15, tS2] at fy y10 y11 y12 y12'
    rw [o15] at hey
    have fall : fm (sKe o) x y := fun c k hc => by
      unfold sKe at hc
      rw [fy c k (by omega)]; exact g15 c k (by omega) (by omega) (by omega)
    obtain ⟨ac, am⟩ := sKe_C hO fall
    have hrow : ∀ s k : Nat, (s : Int) < (x.1 o 0).toInt → y.1 (1000 + s) k = x.1 (1000 + s) k := fun s k hs2 => by
      rw [fy _ k (by omega)]; exact g15 _ k (by omega) (by omega) (by omega)
    have hyr : ∀ k : Nat, (k : Int) < (x.1 220 5).toInt → y.1 (1000 + S) k = x.1 225 k := fun k hk => by
      rw [fy _ _ (by omega)]; exact row k (by rw [t_cl]; omega)
    have hKR : KR y S := by
      unfold KR
      have y5 : y.1 220 5 = x.1 220 5 := am 5 (by omega) (by omega)
      rw [y5]
      refine MM_ag ?_ ?_ ?_ hM
      · intro c k hc
        rw [scp_get, if_neg (by omega)]; exact ac c k hc
      · intro k h1 h2
        rw [scp_get, if_neg (by omega)]; exact am k h1 h2
      · intro k hk
        have hk2 : k < (x.1 220 5).toNatClampNeg := by rw [t_cl]; omega
        rw [scp_get, if_pos ⟨rfl, by omega, by omega⟩, show 0 + (k - 0) = k by omega]
        exact hyr k hk
    have y4 : ∀ s, ¬ s = S → y.1 204 s = x.1 204 s := fun s hs => by rw [fy _ _ (by omega)]; exact g15 _ _ (by omega) (by omega) (by omega)
    have y4S : y.1 204 S = mxO x 220 := by rw [fy _ _ (by omega), e15, si_get, if_neg (by omega)]; exact m13
    have y5J : (y.1 205 J).toInt = (S : Int) + 1 := by rw [fy _ _ (by omega), e15, si_get, if_pos ⟨rfl, rfl⟩, e01, T0]
    have y5 : ∀ j, ¬ j = J → y.1 205 j = x.1 205 j := fun j hj => by rw [fy _ _ (by omega)]; exact g15 _ _ (by omega) (by omega) (by omega)
    refine rm_i hu1 hl1 (h y q1 hu1 hl1 et1 fall ⟨⟨CO_fm hC ac, MG_ag ac am hG⟩, ⟨hzy, ?_⟩, by omega, fun s hs2 => ?_, fun j hj => ?_⟩ hrow ⟨⟨?_, ?_⟩, fun s p hp9 => ?_, ?_, fun s p hp9 => ?_⟩)
    · refine TO_le hu1 hl1 (TO_fm fall (by unfold sKe; omega) (fun k => by unfold sKe; omega) hT0)
    · by_cases hsS : s = S
      · rw [hsS]; exact hKR
      · exact KR_ag ac am (fun k hk => hrow s k (by omega)) (hr s (by omega))
    · by_cases hj2 : j = J
      · rw [hj2, y5J]; omega
      · rw [y5 j hj2]
        have := hb j hj
        omega
    · show _ = (((T.1 ++ [(M, A, B)]).length : Nat) : Int)
      rw [List.length_append, List.length_singleton, hey, T0, hS]
      rfl
    · show y.1 o 1 = _
      rw [fy _ _ (by omega), g15 _ _ (by omega) (by omega) (by omega)]
      exact T1
    · have hp9 : (T.1 ++ [(M, A, B)])[s]? = some p := hp9
      by_cases c : s < T.1.length
      · rw [List.getElem?_append_left c] at hp9
        exact KPs_ag hK ac am (fun k => hrow s k (by omega)) (y4 s (by omega)) (T2 s p hp9)
      · have hlen := gt_lt hp9
        rw [List.length_append, List.length_singleton] at hlen
        have es : s = S := by omega
        rw [es, hS, List.getElem?_append_right (Nat.le_refl _), Nat.sub_self] at hp9
        have hp9 : (M, A, B) = p := Option.some.inj hp9
        rw [es, ← hp9]
        exact KPs_new hM hK g qi qc qn ac am hyr y4S hKR
    · show TBx y (T.1 ++ [(M, A, B)]).length
      rw [List.length_append, List.length_singleton, ← hS]
      exact TB_ins T3 hJ8 h0 (fun s hs => y4 s (by omega)) y5J y5 (by rw [y4S]; exact hp)
    · have hp9 : (T.1 ++ [(M, A, B)])[s]? = some p := hp9
      have yk : ∀ c k, ¬ k = S → (c = o + 10 ∨ c = o + 11 ∨ c = o + 12) → y.1 c k = x.1 c k := fun c k hk hc => by rw [fy _ _ (by omega)]; exact g15 _ _ (by omega) (by omega) (by omega)
      by_cases c : s < T.1.length
      · rw [List.getElem?_append_left c] at hp9
        obtain ⟨t1, t2⟩ := T4 s p hp9
        refine ⟨fun e => ?_, fun e => ?_⟩
        · rw [yk _ 0 (by omega) (by omega)]; exact t1 e
        · have t2 := t2 e
          rw [yk _ s (by omega) (by omega), yk _ s (by omega) (by omega), yk _ s (by omega) (by omega), yk _ p.2.1 (by omega) (by omega)]; exact t2
      · have hlen := gt_lt hp9
        rw [List.length_append, List.length_singleton] at hlen
        have es : s = S := by omega
        rw [es, hS, List.getElem?_append_right (Nat.le_refl _), Nat.sub_self] at hp9
        have hp9 : (M, A, B) = p := Option.some.inj hp9
        rw [es, ← hp9]
        rcases ha with ⟨a1, a2⟩ | ⟨a1, a2, a3⟩
        · refine ⟨fun e => ?_, fun e => by omega⟩
          rw [e] at y12
          rw [y12 a1]; rfl
        · have na : ¬ a = -1 := fun e => by rw [e, km] at a1; omega
          refine ⟨fun e => by omega, fun e => ⟨a2, by rw [y10]; exact a1, by rw [y11]; exact a3, ?_⟩⟩
          rw [y12' na, show a.toInt.toNat = A by omega, yk _ A (by omega) (by omega), g15 _ _ (by omega) (by omega) (by omega)]
  refine kg_X2_keep_0 hu he a b (fun u eu => ⟨o, by rw [eu, et_r ht], ho, fun c => ?_, fun c => ?_⟩)
  rotate_left
  · rw [t_lt, k3] at c; omega
  have v3 : vp_in (x.1 o 0) 3000 := by rw [vp_in_iff]; omega
  rw [tS]
  refine ⟨v3, fun u6 e6 => ⟨fun hno => ?_, fun c8 h8 => part2 q x hu (kle_rf q) rfl (fm_rf _ _) ?_⟩⟩
  · have hN : S = q.kn := by
      by_cases hl : S < q.kn
      · rw [e6, ke_r hl] at hno; cases hno
      · omega
    refine ⟨hN, v3, fun q9 x10 e9 e10 hu9 hl9 => part2 q9 x10 hu9 hl9 (by rw [e9]; rfl) (fun c k hc => ?_) (by rw [e9]; show S < q.kn + 1; omega)⟩
    rw [e10, zn_get, if_neg (by omega)]
  · by_cases hl : S < q.kn
    · exact hl
    · rw [e6, ke_no hl] at h8; cases h8
theorem KX3_Kp (hO : o = 260 ∨ o = 280) (hK : CK x C) (fy : fm sKp x y) (hT : KX3 C nl w x o T) : KX3 C nl w y o T := KX3_f hK (fun c k hc => fy c k (by unfold sKp; omega)) (fun k h1 h2 => fy _ _ (by unfold sKp; omega)) (fun s k _ => fy _ _ (by unfold sKp; omega)) (fun k => fy _ _ (by unfold sKp; omega)) (fun k => fy _ _ (by unfold sKp; omega)) (fy _ _ (by unfold sKp; omega)) (fy _ _ (by unfold sKp; omega)) (fun k => fy _ _ (by unfold sKp; omega)) (fun k => fy _ _ (by unfold sKp; omega)) (fun k => fy _ _ (by unfold sKp; omega)) hT
theorem KX3_p (hO : o = 260 ∨ o = 280) (hK : CK x C) (ez : y = si x o 1 1) (hT : KX3 C nl w x o T) : KX3 C nl w y o (T.1, true) := by
  have zc : ∀ c k, ¬ (c = o ∧ k = 1) → y.1 c k = x.1 c k := fun c k hc => by rw [ez, si_get, if_neg hc]
  obtain ⟨⟨u0, u1⟩, u2, u3, u4⟩ := hT
  refine ⟨⟨by rw [zc _ _ (by omega)]; exact u0, by rw [ez, si_get, if_pos ⟨rfl, rfl⟩]; rfl⟩, fun s p hp => KPs_ag hK (fun c k hc => zc c k (by omega)) (fun k h1 h2 => zc _ _ (by omega)) (fun k => zc _ _ (by omega)) (zc _ _ (by omega)) (u2 s p hp), ?_, fun s p hp => ?_⟩
  · unfold TBx
    rw [show y.1 205 = x.1 205 from funext (fun k => zc _ _ (by omega)), show y.1 204 = x.1 204 from funext (fun k => zc _ _ (by omega))]
    exact u3
  · rw [zc _ _ (by omega), zc _ _ (by omega), zc _ _ (by omega), zc _ _ (by omega), zc _ _ (by omega)]; exact u4 s p hp
theorem kx_addState3 (hu : kU q) (he : q.ex = true) (ho : kiT q o) (ht : q.et = some o) (hX : XI x q o) (hM : MM x 220) (hK : CK x C) (hN : NC C) (en : (x.1 60 9).toInt = (nl : Nat)) (g : KMm x 220 C M) (qi : MIv C w M) (qc : MCn C nl M) (qn : NBm M) (hT : KX3 C nl w x o T) (a b l : Int32) {A B lim : Nat} (ha : (a = -1 ∧ T.1.length = 0) ∨ (a.toInt = (A : Nat) ∧ A < T.1.length ∧ b.toInt = (B : Nat))) (el : l.toInt = (lim : Nat)) (hl3 : lim ≤ 3000) (h : ∀ y q1, kU q1 → kle q q1 → q1.et = q.et → fm (sKe o) x y → XI y q1 o → (∀ s k : Nat, (s : Int) < (x.1 o 0).toInt → y.1 (1000 + s) k = x.1 (1000 + s) k) → KX3 C nl w y o (adS lim A B T M) → Fm y q1) : KM G q (d + 4) zk_X2_addState 0 [(0, vr 200), (1, vi a), (2, vi b), (3, vi l)] [] x (rm q Fm) X := by
  have hO := iT_O ho
  have hkn := hu.2.2.2.2.1
  have T0 := hT.1.1
  have nk : T.1.length ≤ q.kn := by have := hX.2.2.1; omega
  obtain ⟨Ms, eMs⟩ : ∃ Ms : Nat → gMa, ∀ s p, T.1[s]? = some p → Ms s = p.1 := ⟨fun s => ((T.1[s]?).getD (M, 0, 0)).1, fun s p hp => congrArg (fun z : Option (gMa × Nat × Nat) => (z.getD (M, 0, 0)).1) hp⟩
  have hMs : ∀ s, s < T.1.length → KPs C nl w x s (Ms s) := fun s hs => by
    rw [eMs s _ (List.getElem?_eq_getElem hs)]
    exact hT.2.1 s _ (List.getElem?_eq_getElem hs)
  refine kg_X2_addState_0 hu he a b l (kx_isKept3 (Ms := Ms) hu.1 he hM hkn nk hK hN en g qc qn hMs hT.2.2.1 (fun r y gb fy hy hy6 hres => ?_))
  have fk : fm (sKe o) x y := fm_w fy (fun c k q => by unfold sKp at q; unfold sKe; omega)
  have hXy : XI y q o := XI_q hO (fm_w fy (fun c k q => by unfold sKp at q; unfold sQu; omega)) hX hkn
  have e0 : y.1 o 0 = x.1 o 0 := fy o 0 (by unfold sKp; omega)
  have row : ∀ s k : Nat, (s : Int) < (x.1 o 0).toInt → y.1 (1000 + s) k = x.1 (1000 + s) k := fun s k _ => fy _ _ (by unfold sKp; omega)
  obtain ⟨ac, am⟩ := sKe_C hO fk
  have hTy : KX3 C nl w y o T := KX3_Kp hO hK fy hT
  have hMy : MM y 220 := MM_ag ac am (fun k hk => fy _ _ (by unfold sKp; omega)) hM
  have hrY : ∀ k : Nat, (k : Int) < (x.1 220 5).toInt → y.1 (220 + 5) k = x.1 (220 + 5) k := fun k hk => fy _ _ (by unfold sKp; omega)
  have gy : KMm y 220 C M := KMm_in hM hK (gm_ag ac am) hrY g
  have emx : mxO y 220 = mxO x 220 := mx_same hM (gm_ag ac am) (rw_in hM hrY)
  have f205 : ∀ j, y.1 205 j = x.1 205 j := fun j => fy _ _ (by unfold sKp; omega)
  have hKy : CK y C := CK_f hK ac
  refine ⟨fun r0 => ?_, fun rn => ?_⟩
  · have nw : ¬ ∃ p ∈ T.1, p.1 = M := by
      rcases hres with ⟨c, -⟩ | ⟨-, c, -⟩
      · exact absurd r0 c
      · rintro ⟨p, p1, p2⟩
        obtain ⟨s, hs⟩ := List.mem_iff_getElem?.mp p1
        exact c s (gt_lt hs) (by rw [eMs s p hs]; exact p2)
    have sl : x.1 205 (y.1 200 5).toNatClampNeg = 0 ∧ ∃ p, p < 8192 ∧ (y.1 200 5).toNatClampNeg = ((mxO x 220 &&& 8191).toNatClampNeg + p) % 8192 ∧ ∀ i, i < p → ¬ x.1 205 (((mxO x 220 &&& 8191).toNatClampNeg + i) % 8192) = 0 := by
      rcases hres with ⟨c, -⟩ | ⟨-, -, c⟩
      · exact absurd r0 c
      · exact c
    intro u4 e4
    refine ⟨o, by rw [e4, et_r ht], ho, fun cl => ?_, fun cl u10 e10 => ⟨o, by rw [e10, et_r ht], ho, fun z ez => ?_⟩⟩
    · rw [t_lt, e0, el] at cl
      refine kx_keep3 (d := d + 1) (A := A) (B := B) hu he ho ht hXy hMy hKy gy qi qc qn hTy hy (by rw [hy6, emx]) (by rw [f205]; exact sl.1) (by rw [emx, show y.1 205 = x.1 205 from funext f205]; exact sl.2) a b ha (by omega) (fun z q1 hu1 hl1 et1 fz hXz hrz hTz => rm_i hu1 hl1 (h z q1 hu1 hl1 et1 (fm_tr fk fz) hXz (fun s k hs => (hrz s k (by rw [e0]; exact hs)).trans (row s k hs)) ?_))
      rw [adS_new nw (by omega)]; exact hTz
    · rw [t_lt, e0, el] at cl
      have fz : fm (sQu o) y z := by rw [ez]; exact fm_si (fm_rf _ _) (by unfold sQu; omega)
      refine rm_i hu (kle_rf q) (h z q hu (kle_rf q) rfl (fm_tr fk (by rw [ez]; exact fm_si (fm_rf _ _) (by unfold sKe; omega))) (XI_q hO fz hXy hkn) (fun s k hs => ?_) ?_)
      · rw [fz _ _ (by clear sl hres; unfold sQu; omega)]; exact row s k hs
      · rw [adS_full nw (by omega)]
        exact KX3_p hO hKy ez hTy
  · have od : ∃ p ∈ T.1, p.1 = M := by
      rcases hres with ⟨-, s, s1, s2⟩ | ⟨c, -⟩
      · have hg := List.getElem?_eq_getElem s1
        exact ⟨_, List.mem_of_getElem? hg, by rw [← eMs s _ hg]; exact s2⟩
      · exact absurd c rn
    refine rm_i hu (kle_rf q) (h y q hu (kle_rf q) rfl fk hXy row ?_)
    rw [adS_old od]; exact hTy
end KAD
end
