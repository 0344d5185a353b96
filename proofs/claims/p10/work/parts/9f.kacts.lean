/-! the class: acts -/
section KAC
variable {G : kG} {q : kP} {d : Nat} {x x0 y z : gd} {o : Nat} {F : Int32 → gd → Prop} {Fv : gd → Prop}
/-- a field of a thread is put, the machine stays well -/
theorem MM_put (hO : o = 120 ∨ o = 220) (h : MM x o) {T K : Nat} {v : Int32} (hK : (K : Int) < (x.1 o 8).toInt) (e : y = si x (o + 5) (pa x o T K) v) (h0 : K ≠ 0 ∧ K ≠ 2) (h3 : K = 3 → v = 0 ∨ (rg x o T 0 = 1 ∧ sop x (rg x o T 2).toInt.toNat = 7)) (h7 : K = 7 → (0 ≤ v.toInt ∧ v.toInt ≤ 8) ∧ (¬ x.1 o 3 = 1 → v = 0) ∧ ∀ j : Nat, (j : Int) < v.toInt → 0 ≤ (rg x o T ((x.1 o 9).toInt.toNat + 2 * j)).toInt ∧ (rg x o T ((x.1 o 9).toInt.toNat + 2 * j)).toInt < (x.1 60 6).toInt) (h9 : ∀ j : Nat, (j : Int) < (rg x o T 7).toInt → K = (x.1 o 9).toInt.toNat + 2 * j → 0 ≤ v.toInt ∧ v.toInt < (x.1 60 6).toInt) : MM y o := by
  obtain ⟨hC, hG, hA⟩ := h
  obtain ⟨b1, b2, b3, b4, b5, -⟩ := MG_b hC hG
  have gM := fm_w (st_f e) (fun c k q => sSt_M q)
  have f : ∀ c k, c ≠ o + 5 → y.1 c k = x.1 c k := fun c k hc => by rw [e, si_cell hc]
  refine ⟨CO_M hO hC gM, MG_M hO hG gM, fun t ht => ?_⟩
  rw [f 60 10 (by omega)] at ht
  obtain ⟨⟨a1, a2, a3, a4, a5⟩, ag⟩ := hA t ht
  have g : ∀ k : Nat, (k : Int) < (x.1 o 8).toInt → rg y o t k = if t = T ∧ k = K then v else rg x o t k := fun k hk => rg_set hO hC hG hK hk e
  have g0 : rg y o t 0 = rg x o t 0 := by rw [g 0 (by omega), if_neg (fun q => h0.1 q.2.symm)]
  have g2 : rg y o t 2 = rg x o t 2 := by rw [g 2 (by omega), if_neg (fun q => h0.2 q.2.symm)]
  refine ⟨?_, ?_⟩
  · unfold TA ssm
    rw [g0, g2, f 80 9 (by omega), f o 3 (by omega), f o 9 (by omega), f 60 6 (by omega)]
    refine ⟨a1, ?_, ?_, ?_, ?_⟩
    · rw [g 7 (by omega)]
      by_cases hh : t = T ∧ 7 = K
      · rw [if_pos hh]; exact (h7 hh.2.symm).1
      · rw [if_neg hh]; exact a2
    · rw [g 7 (by omega)]
      by_cases hh : t = T ∧ 7 = K
      · rw [if_pos hh]; exact (h7 hh.2.symm).2.1
      · rw [if_neg hh]; exact a3
    · intro j hj
      rw [g 7 (by omega)] at hj
      by_cases hh : t = T ∧ 7 = K
      · rw [if_pos hh] at hj
        obtain ⟨p1, p2, p3⟩ := h7 hh.2.symm
        have hw : x.1 o 3 = 1 := by
          by_cases hw : x.1 o 3 = 1
          · exact hw
          · have h0 := p2 hw
            rw [h0] at hj
            have : (0 : Int32).toInt = 0 := rfl
            omega
        have := b5 hw
        rw [g _ (by omega), if_neg (fun q => by omega), hh.1]
        exact p3 j hj
      · rw [if_neg hh] at hj
        have hw : x.1 o 3 = 1 := by
          by_cases hw : x.1 o 3 = 1
          · exact hw
          · have h0 := a3 hw
            rw [h0] at hj
            have : (0 : Int32).toInt = 0 := rfl
            omega
        have := b5 hw
        rw [g _ (by omega)]
        by_cases h2 : t = T ∧ (x.1 o 9).toInt.toNat + 2 * j = K
        · rw [if_pos h2]; exact h9 j (by rw [← h2.1]; exact hj) h2.2.symm
        · rw [if_neg h2]; exact a4 j hj
    · intro c
      rw [g 3 (by omega)]
      by_cases hh : t = T ∧ 3 = K
      · rw [if_pos hh]
        rcases h3 hh.2.symm with e0 | ⟨e1, -⟩
        · exact e0
        · rw [hh.1, e1] at c; exact absurd c (by decide)
      · rw [if_neg hh]; exact a5 c
  · unfold TGo sop at *
    rw [g0, g2, f 81 _ (by omega), g 3 (by omega)]
    intro c
    refine ⟨(ag c).1, fun c3 => ?_⟩
    by_cases hh : t = T ∧ 3 = K
    · rw [if_pos hh] at c3
      rcases h3 hh.2.symm with e0 | ⟨-, e7⟩
      · exact absurd e0 c3
      · rw [hh.1]; exact e7
    · rw [if_neg hh] at c3; exact (ag c).2 c3
theorem km_set (hq : kV q) (ho : kiM q o) (h : MM x o) {T K : Nat} (t f v : Int32) (et : t.toInt = T) (ef : f.toInt = K) (hT : T < 6) (hK : (K : Int) < (x.1 o 8).toInt) (h0 : K ≠ 0 ∧ K ≠ 2) (h3 : K = 3 → v = 0 ∨ (rg x o T 0 = 1 ∧ sop x (rg x o T 2).toInt.toNat = 7)) (h7 : K = 7 → (0 ≤ v.toInt ∧ v.toInt ≤ 8) ∧ (¬ x.1 o 3 = 1 → v = 0) ∧ ∀ j : Nat, (j : Int) < v.toInt → 0 ≤ (rg x o T ((x.1 o 9).toInt.toNat + 2 * j)).toInt ∧ (rg x o T ((x.1 o 9).toInt.toNat + 2 * j)).toInt < (x.1 60 6).toInt) (h9 : ∀ j : Nat, (j : Int) < (rg x o T 7).toInt → K = (x.1 o 9).toInt.toNat + 2 * j → 0 ≤ v.toInt ∧ v.toInt < (x.1 60 6).toInt) (hF : ∀ y, MM y o → fm (sSt o) x y → (∀ t k : Nat, (k : Int) < (x.1 o 8).toInt → rg y o t k = if t = T ∧ k = K then v else rg x o t k) → Fv y) : KT G q d zk_X5_set 0 [(0, vr o), (1, vi t), (2, vi f), (3, vi v)] [] x (rv Fv) := by
  have hO := kiM_O ho
  obtain ⟨b1, b2, -⟩ := MG_b h.1 h.2.1
  exact kp_set hq ho h.1 h.2.1 _ _ _ et ef hT (by omega) (fun y ey => hF y (MM_put hO h hK ey h0 h3 h7 h9) (st_f ey) (fun t k hk => rg_set hO h.1 h.2.1 hK hk ey))
/-- a late one is put -/
theorem km_setLate (hq : kV q) (ho : kiM q o) (h : MM x o) (hw : x.1 o 3 = 1) {T J : Nat} (t j c v : Int32) (et : t.toInt = T) (ej : j.toInt = J) (hT : T < 6) (hJ : J < 8) (hc : 0 ≤ c.toInt ∧ c.toInt < (x.1 60 6).toInt) (hF : ∀ y, MM y o → fm (sSt o) x y → (∀ t k : Nat, k < (x.1 o 9).toInt.toNat → rg y o t k = rg x o t k) → (∀ i : Nat, i < 8 → rg y o T ((x.1 o 9).toInt.toNat + 2 * i) = if i = J then c else rg x o T ((x.1 o 9).toInt.toNat + 2 * i)) → Fv y) : KT G q (d + 1) zk_X5_setLate 0 [(0, vr o), (1, vi t), (2, vi j), (3, vi c), (4, vi v)] [] x (rv Fv) := by
  have hO := kiM_O ho
  obtain ⟨b1, b2, b3, b4, b5, -⟩ := MG_b h.1 h.2.1
  have b5 := b5 hw
  obtain ⟨e1, e2, e3⟩ := lt_ix h.1 h.2.1 ej hJ
  refine kg_X5_setLate_0 hq ho _ _ _ _ (km_set hq ho h _ _ _ et e1 hT (by omega) ⟨by omega, by omega⟩ (fun q => by omega) (fun q => by omega) (fun i hi q => hc) (fun y hy fy gy => ?_))
  have y9 : y.1 o 9 = x.1 o 9 := fy _ _ (by unfold sSt; omega)
  have y8 : y.1 o 8 = x.1 o 8 := fy _ _ (by unfold sSt; omega)
  rw [y9]
  refine km_set hq ho hy _ _ _ et e2 hT (by rw [y8]; omega) ⟨by omega, by omega⟩ (fun q => by omega) (fun q => by omega) (fun i hi q => by rw [y9] at q; omega) (fun z hz fz gz => rv_i (hF z hz (fm_tr fy fz) (fun t k hk => ?_) (fun i hi => ?_)))
  · rw [gz t k (by rw [y8]; omega), if_neg (fun q => by omega), gy t k (by omega), if_neg (fun q => by omega)]
  · rw [gz T _ (by rw [y8]; omega), if_neg (fun q => by omega), gy T _ (by omega)]
    by_cases hi2 : i = J
    · rw [if_pos ⟨rfl, by omega⟩, if_pos hi2]
    · rw [if_neg (fun q => by omega), if_neg hi2]
/-- cells of the row change, or what is no row -/
theorem MM_low (hO : o = 120 ∨ o = 220) (h : MM x o) (f : fm (sMk o) x y) (e : ∀ t k, rg y o t k = rg x o t k) : MM y o := by
  refine ⟨CO_M hO h.1 f, MG_M hO h.2.1 f, fun t ht => ?_⟩
  rw [f 60 10 (by unfold sMk; omega)] at ht
  exact ⟨TA_eq hO f (h.2.2 t ht).1 (e t), TGo_eq hO f (h.2.2 t ht).2 (fun k _ => e t k)⟩
theorem km_bring (hq : kV q) (ho : kiM q o) (h : MM x o) {T J : Nat} (t j : Int32) (et : t.toInt = T) (ej : j.toInt = J) (hT : (T : Int) < (x.1 60 10).toInt) (hJ : (J : Int) < (rg x o T 7).toInt) (hF : ∀ y, MM y o → fm (sMk o) x y → y.1 (o + 20) = x.1 (o + 20) → Fv y) : KT G q (d + 2) zk_X5_bringLate 0 [(0, vr o), (1, vi t), (2, vi j)] [] x (rv Fv) := by
  have hO := kiM_O ho
  have hT6 := MM_6 h.1 hT
  obtain ⟨a1, a2, a3, a4, a5⟩ := (h.2.2 T hT).1
  obtain ⟨b1, b2, b3, b4, b5, b6, b7⟩ := MG_b h.1 h.2.1
  have c24 := h.1.1.1
  have k1 : (1 : Int32).toInt = 1 := rfl
  have k0 : (0 : Int32).toInt = 0 := rfl
  have hw : x.1 o 3 = 1 := by
    by_cases hw : x.1 o 3 = 1
    · exact hw
    · have := a3 hw
      rw [this, k0] at hJ; omega
  have hcell := a4 J hJ
  refine kg_X5_bringLate_0 hq ho _ _ (kp_lateCell hq ho h.1 h.2.1 _ _ et hT6 ej (by omega) (kp_lateValue hq ho h.1 h.2.1 _ _ et hT6 ej (by omega) (fun v => ⟨by rw [vp_in_iff]; omega, fun x6 e6 => ?_⟩)))
  have r6 : ∀ t k, rg x6 o t k = rg x o t k := fun t k => rg_low hO (by rw [t_cl]; omega) e6
  have f6 : fm (sSt o) x x6 := st_f e6
  have h6 : MM x6 o := MM_low hO h (fm_w f6 (fun c k q => sSt_M q)) r6
  have gS : ∀ {y : gd}, fm (sSt o) x y → y.1 o 9 = x.1 o 9 ∧ y.1 o 8 = x.1 o 8 ∧ y.1 o 3 = x.1 o 3 ∧ y.1 60 6 = x.1 60 6 ∧ y.1 60 10 = x.1 60 10 ∧ y.1 (o + 20) = x.1 (o + 20) := fun f => ⟨f _ _ (by unfold sSt; omega), f _ _ (by unfold sSt; omega), f _ _ (by unfold sSt; omega), f _ _ (by unfold sSt; omega), f _ _ (by unfold sSt; omega), funext (fun k => f _ _ (by unfold sSt; omega))⟩
  refine kp_get hq ho h6.1 h6.2.1 _ _ et (show (7 : Int32).toInt = ((7 : Nat) : Int) from rfl) hT6 (by omega) ?_
  rw [r6]
  obtain ⟨L, eL⟩ : ∃ L, L = rg x o T 7 - 1 := ⟨_, rfl⟩
  have iL : L.toInt = (rg x o T 7).toInt - 1 := by rw [eL, t_sub (by rw [k1]; omega) (by rw [k1]; omega), k1]
  rw [← eL]
  have loop : ∀ (n : Nat) (k : Int32) {K : Nat} (y : gd), k.toInt = K → (K : Int) ≤ L.toInt → L.toInt - K ≤ n → MM y o → fm (sSt o) x y → rg y o T 7 = rg x o T 7 → KT G q (d + 2) zk_X5_bringLate 30 [(0, vr o), (1, vi t), (3, vi L), (4, vi k)] [] y (rv Fv) := by
    have fin : ∀ (y : gd), MM y o → fm (sSt o) x y → rg y o T 7 = rg x o T 7 → KT G q (d + 1) zk_X5_setLate 0 [(0, vr o), (1, vi t), (2, vi L), (3, vi 0), (4, vi 0)] [] y (rv (fun x2 => KT G q (d + 1) zk_X5_set 0 [(0, vr o), (1, vi t), (2, vi 7), (3, vi L)] [] x2 (rv (fun x3 => rv Fv none x3)))) := by
      intro y hy fy y7
      obtain ⟨s9, s8, s3, s6, s10, s20⟩ := gS fy
      refine km_setLate hq ho hy (by rw [s3]; exact hw) _ _ _ _ et (show L.toInt = ((L.toInt.toNat : Nat) : Int) by omega) hT6 (by omega) (by rw [s6, k0]; omega) (fun z hz fz gz hzl => ?_)
      obtain ⟨z9, z8, z3, z6, z10, z20⟩ := gS (fm_tr fy fz)
      have z7 : rg z o T 7 = rg x o T 7 := by rw [gz T 7 (by rw [s9]; omega)]; exact y7
      have hz4 := (hz.2.2 T (by rw [z10]; exact hT)).1.2.2.2.1
      refine km_set hq ho hz _ _ _ et (show (7 : Int32).toInt = ((7 : Nat) : Int) from rfl) hT6 (by rw [z8]; omega) ⟨by omega, by omega⟩ (fun q => by omega) (fun _ => ⟨by omega, fun c => absurd (by rw [z3]; exact hw) c, fun i hi => hz4 i (by rw [z7]; omega)⟩) (fun i hi q => by rw [z9] at q; omega) (fun w hw2 fw gw => rv_i (hF w hw2 (fm_w (fm_tr (fm_tr fy fz) fw) (fun c k q => sSt_M q)) ?_))
      exact (gS (fm_tr (fm_tr fy fz) fw)).2.2.2.2.2
    intro n
    induction n with
    | zero =>
      intro k K y ek hk1 hk2 hy fy y7
      refine kg_X5_bringLate_30 hq ho _ _ _ ⟨fun _ => fin y hy fy y7, fun c => ?_⟩
      exfalso; rw [t_le] at c; omega
    | succ n ih =>
      intro k K y ek hk1 hk2 hy fy y7
      refine kg_X5_bringLate_30 hq ho _ _ _ ⟨fun _ => fin y hy fy y7, fun c => ?_⟩
      rw [t_le] at c
      obtain ⟨s9, s8, s3, s6, s10, s20⟩ := gS fy
      have ek1 : (k + 1).toInt = ((K + 1 : Nat) : Int) := by rw [t_add (by rw [k1]; omega) (by rw [k1]; omega), ek]; rfl
      have hy4 := (hy.2.2 T (by rw [s10]; exact hT)).1.2.2.2.1 (K + 1) (by rw [y7]; push_cast; omega)
      refine kp_lateCell hq ho hy.1 hy.2.1 _ _ et hT6 ek1 (by omega) (kp_lateValue hq ho hy.1 hy.2.1 _ _ et hT6 ek1 (by omega) (fun v => km_setLate hq ho hy (by rw [s3]; exact hw) _ _ _ _ et ek hT6 (by omega) hy4 (fun z hz fz gz hzl => ih (k + 1) z ek1 (by push_cast; omega) (by push_cast; omega) hz (fm_tr fy fz) ?_)))
      rw [gz T 7 (by rw [s9]; omega)]; exact y7
  exact loop 8 _ x6 ej (by omega) (by omega) h6 f6 (r6 T 7)
theorem km_rouse (hq : kV q) (ho : kiM q o) (h : MM x o) {T : Nat} (t : Int32) (et : t.toInt = T) (hT : (T : Int) < (x.1 60 10).toInt) (h3 : rg x o T 3 = 0) (hF : ∀ y, MM y o → fm (sSt o) x y → (∀ t k : Nat, t ≠ T → (k : Int) < (x.1 o 8).toInt → rg y o t k = rg x o t k) → Fv y) : KT G q (d + 4) zk_X5_rouse 0 [(0, vr o), (1, vi t)] [] x (rv Fv) := by
  have hO := kiM_O ho
  have hT6 := MM_6 h.1 hT
  obtain ⟨b1, b2, b3, b4, -⟩ := MG_b h.1 h.2.1
  refine kg_X5_rouse_0 hq ho _ (ks_set hq ho (MM_MS h) hT6 _ _ _ et (show (0 : Int32).toInt = ((0 : Nat) : Int) from rfl) (by omega) (by omega) (fun c => by omega) (fun _ c => absurd c (by decide)) (fun c => by omega) (fun y hy fy gy => ⟨by rw [vp_in_iff]; omega, ?_⟩))
  have y9 : y.1 o 9 = x.1 o 9 := fy _ _ (by unfold sSt; omega)
  have eN : t.toNatClampNeg = T := by rw [t_cl, et]; rfl
  have hs := hy.1.2.2.2.2 T (by rw [fy 60 10 (by unfold sSt; omega)]; exact hT)
  rw [eN]
  refine ks_set hq ho hy hT6 _ _ _ et (show (2 : Int32).toInt = ((2 : Nat) : Int) from rfl) (by rw [y9]; omega) (by omega) (fun _ => hs) (fun c => by omega) (fun c => by omega) (fun z hz fz gz => ?_)
  have z8 : z.1 o 8 = x.1 o 8 := by rw [fz _ _ (by unfold sSt; omega), fy _ _ (by unfold sSt; omega)]
  refine ks_settle hq ho hz (by rw [fz 60 10 (by unfold sSt; omega), fy 60 10 (by unfold sSt; omega)]; exact hT) _ et ?_ (fun w hw fw gw => rv_i (hF w hw (fm_tr (fm_tr fy fz) fw) (fun t k hne hk => gw t k hne (by rw [z8]; exact hk))))
  rw [gz 3 (by rw [y9]; omega), if_neg (by omega), gy 3 (by omega), if_neg (by omega)]; exact h3
end KAC
