section
/-! the class: a choice is performed, with what its machine holds -/
section KMF
variable {G : kG} {q : kP} {d : Nat} {x x0 y z : gd} {o : Nat} {R : Nat → Nat → Int32} {F : Int32 → gd → Prop} {Fv : gd → Prop} {C : gCo} {M : gMa} {h h' : gTq} {t T w k c s : Nat} {e f : Int32} {wk : Option Nat}
/-- a thread settles: it stands as the machine says -/
theorem kh_settleM (hq : kV q) (ho : kiM q o) (hS : MS (rg x o) x o T) (hK : CK x C) (hN : NC C) (hl : KMl x o M) (hot : ∀ t, t < C.2.1.length → t ≠ T → kTq x o C t (M.2.2 t)) (hT : T < C.2.1.length) (t : Int32) (et : t.toInt = T) {lv : Nat → Int32} {st : gNs} (hs : C.1[s]? = some st) (hml : (st.2.1.length : Int) ≤ (x.1 60 13).toInt) (r0 : rg x o T 0 = 1) (r1 : rg x o T 1 = 0) (r2 : (rg x o T 2).toInt = (s : Nat)) (r3 : rg x o T 3 = 0) (r5 : rg x o T 5 = 0) (w0 : h.2.2.2.1 = 0) (r4 : rg x o T 4 = h.2.2.2.2.1) (r6 : rg x o T 6 = h.2.2.2.2.2.1 + 1) (r7 : (rg x o T 7).toInt = (h.2.2.2.2.2.2.1.length : Nat) ∧ ∀ i p, h.2.2.2.2.2.2.1[i]? = some p → (rg x o T ((x.1 o 9).toInt.toNat + 2 * i)).toInt = (p.1 : Nat) ∧ rg x o T ((x.1 o 9).toInt.toNat + 2 * i + 1) = p.2) (rl : ∀ p, p < st.2.1.length → rg x o T (8 + p) = lv p) (hF : ∀ y, MM y o → fm (sSt o) x y → KMm y o C (upT M T (thN C T h s lv)) → Fv y) : KT G q (d + 3) zk_X5_settle 0 [(0, vr o), (1, vi t)] [] x (rv Fv) := by
  have hO := kiM_O ho
  have nT : (x.1 60 10).toInt = C.2.1.length := hK.2.1.1
  have hA := (hS.2.2.1 T (by omega)).1
  obtain ⟨b1, b2, b3, b4, b5, b6, b7⟩ := MG_b hS.1 hS.2.1
  have e2 : (rg x o T 2).toInt.toNat = s := by rw [r2]; rfl
  refine kh_settle hq ho hS (by omega) _ et r3 hK hN r0 r1 (by rw [e2]; exact hs) rl hml (fun y hy fy gy uy vy hfin => hF y hy fy ?_)
  obtain ⟨n, r, hr, ⟨f0, f1, f2, f3, f4⟩, key⟩ := hfin
  rw [e2] at hr
  have ow := owR_is hr
  have fM : fm (sMk o) x y := fm_w fy (fun c k q => sSt_M q)
  obtain ⟨f6, f9, e13, e9, e8, e7, e10⟩ := sM_e hO fM
  refine ⟨KMl_e hS.2.1 f6 f9 uy.2 hl hS.1, fun t' ht' => ?_⟩
  show kTq y o C t' (upf M.2.2 T (thN C T h s lv) t')
  unfold upf
  by_cases c : t' = T
  · rw [if_pos c, c]
    unfold thN
    rw [ow]
    refine ⟨⟨f0, by show r.1 ≤ 3; omega⟩, f1, f2, ⟨?_, ?_, ?_, fun z => absurd w0 z⟩, ?_, ?_, ⟨?_, fun i p hp => ?_⟩, fun p hp => ?_, fun c1 => ?_⟩
    · show rg y o T 3 = if h.2.2.2.1 = 0 then 0 else _
      rw [if_pos w0, uy.1 3 (by omega) (by omega)]; exact r3
    · show rg y o T 5 = if h.2.2.2.1 = 2 then 1 else 0
      rw [if_neg (by omega), uy.1 5 (by omega) (by omega)]; exact r5
    · show h.2.2.2.1 ≤ 2
      omega
    · rw [uy.1 4 (by omega) (by omega)]; exact r4
    · rw [uy.1 6 (by omega) (by omega)]; exact r6
    · rw [uy.1 7 (by omega) (by omega)]; exact r7.1
    · have hp : h.2.2.2.2.2.2.1[i]? = some p := hp
      have hi := gt_lt hp
      have := (lt_in hS.1 hS.2.1 hA (i := i) (by rw [r7.1]; omega)).2
      rw [e9, vy _ (by omega) (by omega), vy _ (by omega) (by omega)]
      exact r7.2 i p hp
    · rw [e13] at hp; exact key p hp
    · obtain ⟨st', g1, g2, -⟩ := f4 c1
      have : stN C r.2.2.1 = st' := by unfold stN; rw [g1]; rfl
      show ((stN C r.2.2.1).2.1.length : Int) ≤ _
      rw [this]; exact g2
  · rw [if_neg c]
    exact kTq_e hS.1 hS.2.1 (hS.2.2.1 t' (by omega)).1 e13 e9 (fun k hk => gy t' k c hk) (hot t' ht' c)
/-- a thread is started -/
theorem kh_rouseM (hq : kV q) (ho : kiM q o) (hM : MM x o) (hK : CK x C) (hN : NC C) (g : KMm x o C M) (t : Int32) (et : t.toInt = T) (hT : T < C.2.1.length) (h0 : (M.2.2 T).1 = 0) (hn : (M.2.2 T).2.1 = 0) (hw0 : (M.2.2 T).2.2.2.1 = 0) {q9 : Nat × Nat} (hth : C.2.1[T]? = some q9) (hF : ∀ y, MM y o → fm (sSt o) x y → KMm y o C (upT M T (thN C T (M.2.2 T) q9.1 (M.2.2 T).2.2.2.2.2.2.2)) → Fv y) : KT G q (d + 4) zk_X5_rouse 0 [(0, vr o), (1, vi t)] [] x (rv Fv) := by
  have hO := kiM_O ho
  have nT : (x.1 60 10).toInt = C.2.1.length := hK.2.1.1
  have hT6 := MM_6 hM.1 (t := T) (by omega)
  obtain ⟨b1, b2, b3, b4, b5, b6, b7⟩ := MG_b hM.1 hM.2.1
  have hA := (hM.2.2 T (by omega)).1
  have gT := g.2 T hT
  refine kg_X5_rouse_0 hq ho _ (kh_set hq ho (MM_MS hM) hT6 _ _ _ et (show (0 : Int32).toInt = ((0 : Nat) : Int) from rfl) (by omega) (by omega) (fun c => by omega) (fun _ c => absurd c (by decide)) (fun c => by omega) (fun y hy fy ly gy wy => ⟨by rw [vp_in_iff]; omega, ?_⟩))
  have y9 : y.1 o 9 = x.1 o 9 := fy _ _ (by unfold sSt; omega)
  have eN : t.toNatClampNeg = T := by rw [t_cl, et]; rfl
  have hs := hy.1.2.2.2.2 T (by rw [fy 60 10 (by unfold sSt; omega)]; omega)
  rw [eN]
  refine kh_set hq ho hy hT6 _ _ _ et (show (2 : Int32).toInt = ((2 : Nat) : Int) from rfl) (by rw [y9]; omega) (by omega) (fun _ => hs) (fun c => by omega) (fun c => by omega) (fun z hz fz lz gz wz => ?_)
  have fxz : fm (sSt o) x z := fm_tr fy fz
  have z8 : z.1 o 8 = x.1 o 8 := fxz _ _ (by unfold sSt; omega)
  have z9 : z.1 o 9 = x.1 o 9 := fxz _ _ (by unfold sSt; omega)
  have z13 : z.1 60 13 = x.1 60 13 := fxz _ _ (by unfold sSt; omega)
  have e72 : (y.1 72 T).toInt = (q9.1 : Nat) := by rw [fy 72 T (by unfold sSt; omega)]; exact (hK.2.1.2 T q9 hth).1
  have z2 : rg z o T 2 = y.1 72 T := by rw [gz 2 (by rw [y9]; omega), if_pos rfl]
  have z0 : rg z o T 0 = 1 := by rw [gz 0 (by rw [y9]; omega), if_neg (by omega), gy 0 (by omega), if_pos rfl]
  have zu : ∀ k : Nat, ¬ k = 0 → ¬ k = 2 → (k : Int) < (x.1 o 9).toInt → rg z o T k = rg x o T k := fun k k0 k2 k9 => by rw [gz k (by rw [y9]; omega), if_neg k2, gy k (by omega), if_neg k0]
  have zv : sVx x z o T := sVx_tr hO fy wy wz
  obtain ⟨⟨st, s1, s2⟩, -⟩ := hN.2.1 q9 (List.mem_of_getElem? hth)
  have m13 := hM.1.1.2.2.2.1.1
  have zS : MS (rg z o) z o T := ⟨hz.1, hz.2.1, hz.2.2.1, fun _ _ _ _ => rfl⟩
  have zo : ∀ t k : Nat, t ≠ T → (k : Int) < (x.1 o 8).toInt → rg z o t k = rg x o t k := fun t k ht hk => hz.2.2.2 t k ht (by rw [z8]; exact hk)
  obtain ⟨q0, q1, q2, ⟨q3, q5, qw, -⟩, q4, q6, ⟨q7, ql⟩, qv, -⟩ := gT
  rw [if_pos hw0] at q3
  rw [if_neg (by omega)] at q5
  have hKz : CK z C := CK_St hO hK fxz
  refine kh_settleM (h := M.2.2 T) hq ho zS hKz hN (KMl_e hM.2.1 (fxz _ _ (by unfold sSt; omega)) (fxz _ _ (by unfold sSt; omega)) (lowE_tr hO fy ly lz) g.1 hM.1) (fun t' ht' hne => kTq_e hM.1 hM.2.1 (hM.2.2 t' (by omega)).1 z13 z9 (fun k hk => zo t' k hne hk) (g.2 t' ht')) hT _ et s1 (by rw [s2, z13]; exact m13) z0 (by rw [zu 1 (by omega) (by omega) (by omega), q1, hn]; rfl) (by rw [z2]; exact e72) (by rw [zu 3 (by omega) (by omega) (by omega)]; exact q3) (by rw [zu 5 (by omega) (by omega) (by omega)]; exact q5) hw0 (by rw [zu 4 (by omega) (by omega) (by omega)]; exact q4) (by rw [zu 6 (by omega) (by omega) (by omega)]; exact q6) ⟨by rw [zu 7 (by omega) (by omega) (by omega)]; exact q7, fun i p hp => ?_⟩ (fun p hp => by rw [s2] at hp; exact absurd hp (Nat.not_lt_zero _)) (fun w hw fw gw => rv_i (hF w hw (fm_tr fxz fw) gw))
  have hi := gt_lt hp
  have := (lt_in hM.1 hM.2.1 hA (i := i) (by rw [q7]; omega)).2
  rw [z9, zv _ (by omega) (by omega), zv _ (by omega) (by omega)]
  exact ql i p hp
/-- a late one comes -/
theorem kh_bring (hq : kV q) (ho : kiM q o) (hM : MM x o) (hK : CK x C) (g : KMm x o C M) {J : Nat} (t j : Int32) (et : t.toInt = T) (ej : j.toInt = J) (hT : T < C.2.1.length) (hJ : J < (M.2.2 T).2.2.2.2.2.2.1.length) (hF : ∀ y, MM y o → fm (sMk o) x y → y.1 (o + 20) = x.1 (o + 20) → KMm y o C (laM M T J) → Fv y) : KT G q (d + 2) zk_X5_bringLate 0 [(0, vr o), (1, vi t), (2, vi j)] [] x (rv Fv) := by
  have hO := kiM_O ho
  have nT : (x.1 60 10).toInt = C.2.1.length := hK.2.1.1
  have hT6 := MM_6 hM.1 (t := T) (by omega)
  have hA := (hM.2.2 T (by omega)).1
  obtain ⟨a1, a2, a3, a4, a5⟩ := (hM.2.2 T (by omega)).1
  obtain ⟨b1, b2, b3, b4, b5, b6, b7⟩ := MG_b hM.1 hM.2.1
  have c24 := hM.1.1.1
  have k1 : (1 : Int32).toInt = 1 := rfl
  have k0 : (0 : Int32).toInt = 0 := rfl
  have gT := g.2 T hT
  obtain ⟨q7, ql⟩ := gT.2.2.2.2.2.2.1
  obtain ⟨l, el⟩ : ∃ l, l = (M.2.2 T).2.2.2.2.2.2.1 := ⟨_, rfl⟩
  rw [← el] at q7 ql hJ
  have hJ7 : (J : Int) < (rg x o T 7).toInt := by omega
  obtain ⟨hw, -⟩ := lt_in hM.1 hM.2.1 hA hJ7
  have b5 := b5 hw
  obtain ⟨p, hp⟩ : ∃ p, l[J]? = some p := ⟨_, List.getElem?_eq_getElem hJ⟩
  obtain ⟨p1, p2⟩ := ql J p hp
  have hcell := a4 J hJ7
  have laE : laM M T J = upT (upC M p.1 p.2) T ((M.2.2 T).1, (M.2.2 T).2.1, (M.2.2 T).2.2.1, (M.2.2 T).2.2.2.1, (M.2.2 T).2.2.2.2.1, (M.2.2 T).2.2.2.2.2.1, l.eraseIdx J, (M.2.2 T).2.2.2.2.2.2.2) := by
    unfold laM
    rw [← el]
    simp only [hp]
  refine kg_X5_bringLate_0 hq ho _ _ (kp_lateCell hq ho hM.1 hM.2.1 _ _ et hT6 ej (by omega) (kh_lateValue hq ho hM.1 hM.2.1 _ _ et hT6 ej (by omega) ⟨by rw [vp_in_iff]; omega, fun x6 e6 => ?_⟩))
  have nc : (rg x o T ((x.1 o 9).toInt.toNat + 2 * J)).toNatClampNeg = p.1 := by rw [t_cl, p1]; rfl
  rw [nc, p2] at e6
  have r6 : ∀ t k, rg x6 o t k = rg x o t k := fun t k => rg_low hO (by omega) e6
  have f6 : fm (sSt o) x x6 := st_f e6
  have fM6 : fm (sMk o) x x6 := fm_w f6 (fun c k q => sSt_M q)
  have h6 : MM x6 o := MM_low hO hM fM6 r6
  have g6 : KMm x6 o C (upC M p.1 p.2) := KMm_c hO hM hK (by omega) e6 g
  have hK6 : CK x6 C := CK_M hO hK fM6
  have gS : ∀ {y : gd}, fm (sSt o) x y → y.1 o 9 = x.1 o 9 ∧ y.1 o 8 = x.1 o 8 ∧ y.1 o 3 = x.1 o 3 ∧ y.1 60 6 = x.1 60 6 ∧ y.1 60 10 = x.1 60 10 ∧ y.1 (o + 20) = x.1 (o + 20) := fun f => ⟨f _ _ (by unfold sSt; omega), f _ _ (by unfold sSt; omega), f _ _ (by unfold sSt; omega), f _ _ (by unfold sSt; omega), f _ _ (by unfold sSt; omega), funext (fun k => f _ _ (by unfold sSt; omega))⟩
  refine kp_get hq ho h6.1 h6.2.1 _ _ et (show (7 : Int32).toInt = ((7 : Nat) : Int) from rfl) hT6 (by omega) ?_
  rw [r6]
  obtain ⟨L, eL⟩ : ∃ L, L = rg x o T 7 - 1 := ⟨_, rfl⟩
  have iL : L.toInt = (rg x o T 7).toInt - 1 := by rw [eL, t_sub (by rw [k1]; omega) (by rw [k1]; omega), k1]
  rw [← eL]
  -- rows below K are moved
  have loop : ∀ (n : Nat) (k : Int32) {K : Nat} (y : gd), k.toInt = K → J ≤ K → (K : Int) ≤ L.toInt → L.toInt - K ≤ n → MM y o → fm (sSt o) x6 y → lowE x6 y o → (∀ t k : Nat, (k : Int) < (x.1 o 8).toInt → rg y o t k = if t = T ∧ (x.1 o 9).toInt.toNat + 2 * J ≤ k ∧ k < (x.1 o 9).toInt.toNat + 2 * K then rg x o T (k + 2) else rg x o t k) → KT G q (d + 2) zk_X5_bringLate 30 [(0, vr o), (1, vi t), (3, vi L), (4, vi k)] [] y (rv Fv) := by
    have fin : ∀ (y : gd), MM y o → fm (sSt o) x6 y → lowE x6 y o → (∀ t k : Nat, (k : Int) < (x.1 o 8).toInt → rg y o t k = if t = T ∧ (x.1 o 9).toInt.toNat + 2 * J ≤ k ∧ k < (x.1 o 9).toInt.toNat + 2 * L.toInt.toNat then rg x o T (k + 2) else rg x o t k) → KT G q (d + 1) zk_X5_setLate 0 [(0, vr o), (1, vi t), (2, vi L), (3, vi 0), (4, vi 0)] [] y (rv (fun x2 => KT G q (d + 1) zk_X5_set 0 [(0, vr o), (1, vi t), (2, vi 7), (3, vi L)] [] x2 (rv (fun x3 => rv Fv none x3)))) := by
      intro y hy fy6 ly gy
      have fy : fm (sSt o) x y := fm_tr f6 fy6
      obtain ⟨s9, s8, s3, s6, s10, s20⟩ := gS fy
      refine kh_setLate hq ho hy (by rw [s3]; exact hw) _ _ _ _ et (show L.toInt = ((L.toInt.toNat : Nat) : Int) by omega) hT6 (by omega) (by rw [s6, k0]; omega) (fun z hz fz lz gz => ?_)
      obtain ⟨z9, z8, z3, z6, z10, z20⟩ := gS (fm_tr fy fz)
      rw [s8, s9] at gz
      have au : ∀ t k : Nat, (k : Int) < (x.1 o 8).toInt → rg z o t k = if t = T ∧ (x.1 o 9).toInt.toNat + 2 * J ≤ k ∧ k < (x.1 o 9).toInt.toNat + 2 * L.toInt.toNat then rg x o T (k + 2) else if t = T ∧ ((x.1 o 9).toInt.toNat + 2 * L.toInt.toNat = k ∨ (x.1 o 9).toInt.toNat + 2 * L.toInt.toNat + 1 = k) then 0 else rg x o t k := fun t k hk => by
        rw [gz t k hk]
        by_cases c1 : t = T ∧ k = (x.1 o 9).toInt.toNat + 2 * L.toInt.toNat
        · rw [if_pos c1, if_neg (fun z => by omega), if_pos ⟨c1.1, Or.inl c1.2.symm⟩]
        · rw [if_neg c1]
          by_cases c2 : t = T ∧ k = (x.1 o 9).toInt.toNat + 2 * L.toInt.toNat + 1
          · rw [if_pos c2, if_neg (fun z => by omega), if_pos ⟨c2.1, Or.inr c2.2.symm⟩]
          · rw [if_neg c2, gy t k hk]
            by_cases c3 : t = T ∧ (x.1 o 9).toInt.toNat + 2 * J ≤ k ∧ k < (x.1 o 9).toInt.toNat + 2 * L.toInt.toNat
            · rw [if_pos c3, if_pos c3]
            · rw [if_neg c3, if_neg c3, if_neg (fun z => by omega)]
      have z7 : rg z o T 7 = rg x o T 7 := by rw [au T 7 (by omega), if_neg (fun z => by omega), if_neg (fun z => by omega)]
      have hz4 := (hz.2.2 T (by rw [z10]; omega)).1.2.2.2.1
      refine kh_seta (S := fun _ => False) hq ho hz _ _ _ et (show (7 : Int32).toInt = ((7 : Nat) : Int) from rfl) hT6 (by rw [z8]; omega) ⟨by omega, by omega⟩ (fun q => by omega) (fun _ => ⟨by omega, fun c => absurd (by rw [z3]; exact hw) c, fun i hi => hz4 i (by rw [z7]; omega)⟩) (fun i hi q => by rw [z9] at q; omega) (fun u hu fu lu gu => rv_i ?_)
      have fxu : fm (sSt o) x u := fm_tr (fm_tr fy fz) fu
      have fMu : fm (sMk o) x6 u := fm_w (fm_tr (fm_tr fy6 fz) fu) (fun c k q => sSt_M q)
      obtain ⟨u9, u8, u3, u6, u10, u20⟩ := gS fxu
      refine hF u hu.1 (fm_w fxu (fun c k q => sSt_M q)) u20 ?_
      rw [laE]
      rw [z8] at gu
      have bu : ∀ t k : Nat, (k : Int) < (x.1 o 8).toInt → rg u o t k = if t = T ∧ k = 7 then L else rg z o t k := gu
      have l6u : lowE x6 u o := fun j hj => by
        rw [lu j (by rw [(fm_tr fy6 fz) o 7 (by unfold sSt; omega)]; exact hj), lz j (by rw [fy6 o 7 (by unfold sSt; omega)]; exact hj), ly j hj]
      refine KMm_T hO h6 hK6 fMu l6u (fun t' k ht hk => ?_) g6 ?_
      · rw [f6 o 8 (by unfold sSt; omega)] at hk
        rw [bu t' k hk, if_neg (fun z => ht z.1), au t' k hk, if_neg (fun z => ht z.1), if_neg (fun z => ht z.1), r6]
      · have e' : ∀ k : Nat, ¬ k = 7 → (k : Int) < (x.1 o 9).toInt → rg u o T k = rg x o T k := fun k k7 k9 => by rw [bu T k (by omega), if_neg (fun z => k7 z.2), au T k (by omega), if_neg (fun z => by omega), if_neg (fun z => by omega)]
        have u13 : u.1 60 13 = x.1 60 13 := fxu _ _ (by unfold sSt; omega)
        obtain ⟨⟨v0, v0'⟩, v1, v2, ⟨v3, v5, vw⟩, v4, v6, -, vv, vk⟩ := gT
        refine ⟨⟨by rw [e' 0 (by omega) (by omega)]; exact v0, v0'⟩, by rw [e' 1 (by omega) (by omega)]; exact v1, by rw [e' 2 (by omega) (by omega)]; exact v2, ⟨by rw [e' 3 (by omega) (by omega)]; exact v3, by rw [e' 5 (by omega) (by omega)]; exact v5, vw⟩, by rw [e' 4 (by omega) (by omega)]; exact v4, by rw [e' 6 (by omega) (by omega)]; exact v6, ⟨?_, fun i p' hp' => ?_⟩, fun p' hp' => ?_, by rw [u13]; exact vk⟩
        · show _ = ((l.eraseIdx J).length : Int)
          rw [bu T 7 (by omega), if_pos ⟨rfl, rfl⟩, iL, List.length_eraseIdx_of_lt hJ]
          omega
        · have hp' : (l.eraseIdx J)[i]? = some p' := hp'
          have hi := gt_lt hp'
          rw [List.length_eraseIdx_of_lt hJ] at hi
          rw [List.getElem?_eraseIdx] at hp'
          rw [u9, bu T _ (by omega), if_neg (fun z => by omega), bu T _ (by omega), if_neg (fun z => by omega), au T _ (by omega), au T _ (by omega)]
          by_cases ci : i < J
          · rw [if_pos ci] at hp'
            rw [if_neg (fun z => by omega), if_neg (fun z => by omega), if_neg (fun z => by omega), if_neg (fun z => by omega)]
            exact ql i p' hp'
          · rw [if_neg ci] at hp'
            rw [if_pos ⟨rfl, by omega, by omega⟩, if_pos ⟨rfl, by omega, by omega⟩]
            have := ql (i + 1) p' hp'
            rw [show (x.1 o 9).toInt.toNat + 2 * i + 2 = (x.1 o 9).toInt.toNat + 2 * (i + 1) by omega, show (x.1 o 9).toInt.toNat + 2 * i + 1 + 2 = (x.1 o 9).toInt.toNat + 2 * (i + 1) + 1 by omega]
            exact this
        · rw [u13] at hp'
          rw [e' _ (by omega) (by push_cast; omega)]; exact vv p' hp'
    intro n
    induction n with
    | zero =>
      intro k K y ek hJK hk1 hk2 hy fy ly gy
      have eK : K = L.toInt.toNat := by omega
      rw [eK] at gy
      refine kg_X5_bringLate_30 hq ho _ _ _ ⟨fun _ => fin y hy fy ly gy, fun c => ?_⟩
      exfalso; rw [t_le] at c; omega
    | succ n ih =>
      intro k K y ek hJK hk1 hk2 hy fy6 ly gy
      refine kg_X5_bringLate_30 hq ho _ _ _ ⟨fun c => fin y hy fy6 ly ?_, fun c => ?_⟩
      · rw [t_le] at c
        have eK : K = L.toInt.toNat := by omega
        rw [eK] at gy; exact gy
      rw [t_le] at c
      have fy : fm (sSt o) x y := fm_tr f6 fy6
      obtain ⟨s9, s8, s3, s6, s10, s20⟩ := gS fy
      have ek1 : (k + 1).toInt = ((K + 1 : Nat) : Int) := by rw [t_add (by rw [k1]; omega) (by rw [k1]; omega), ek]; rfl
      have y7 : rg y o T 7 = rg x o T 7 := by rw [gy T 7 (by omega), if_neg (fun z => by omega)]
      have hy4 := (hy.2.2 T (by rw [s10]; omega)).1.2.2.2.1 (K + 1) (by rw [y7]; push_cast; omega)
      have v1 : rg y o T ((x.1 o 9).toInt.toNat + 2 * (K + 1)) = rg x o T ((x.1 o 9).toInt.toNat + 2 * (K + 1)) := by rw [gy T _ (by omega), if_neg (fun z => by omega)]
      have v2 : rg y o T ((x.1 o 9).toInt.toNat + 2 * (K + 1) + 1) = rg x o T ((x.1 o 9).toInt.toNat + 2 * (K + 1) + 1) := by rw [gy T _ (by omega), if_neg (fun z => by omega)]
      refine kp_lateCell hq ho hy.1 hy.2.1 _ _ et hT6 ek1 (by omega) (kh_lateValue hq ho hy.1 hy.2.1 _ _ et hT6 ek1 (by omega) (kh_setLate hq ho hy (by rw [s3]; exact hw) _ _ _ _ et ek hT6 (by omega) hy4 (fun z hz fz lz gz => ih (k + 1) z ek1 (by omega) (by push_cast; omega) (by push_cast; omega) hz (fm_tr fy6 fz) (lowE_tr hO fy6 ly lz) (fun t' k' hk' => ?_))))
      rw [s8, s9] at gz
      rw [gz t' k' hk', v1, v2]
      by_cases c1 : t' = T ∧ k' = (x.1 o 9).toInt.toNat + 2 * K
      · rw [if_pos c1, if_pos ⟨c1.1, by omega, by omega⟩, c1.2]
        rfl
      · rw [if_neg c1]
        by_cases c2 : t' = T ∧ k' = (x.1 o 9).toInt.toNat + 2 * K + 1
        · rw [if_pos c2, if_pos ⟨c2.1, by omega, by omega⟩, c2.2]
          rfl
        · rw [if_neg c2, gy t' k' hk']
          by_cases c3 : t' = T ∧ (x.1 o 9).toInt.toNat + 2 * J ≤ k' ∧ k' < (x.1 o 9).toInt.toNat + 2 * K
          · rw [if_pos c3, if_pos ⟨c3.1, c3.2.1, by omega⟩]
          · rw [if_neg c3, if_neg (fun z => by omega)]
  refine loop 8 _ x6 ej (Nat.le_refl _) (by omega) (by omega) h6 (fm_rf _ _) (fun _ _ => rfl) (fun t' k' hk' => ?_)
  rw [r6, if_neg (fun z => by omega)]
end KMF
end
section
/-! the class: a choice is done as the machine does it -/
/-- a choice as the class lists it -/
def kch (x : gd) (o I : Nat) (ch : gCh) : Prop := x.1 (o + 11) I = Int32.ofNat ch.1 ∧ (ch.2.1 = none → x.1 (o + 12) I = -1) ∧ (∀ j, ch.2.1 = some j → x.1 (o + 12) I = Int32.ofNat j) ∧ (ch.2.2 = none → x.1 (o + 13) I = -1) ∧ ∀ k, ch.2.2 = some k → x.1 (o + 13) I = Int32.ofNat k
/-- a choice that there is -/
def chIn (C : gCo) (M : gMa) (ch : gCh) : Prop := ch.1 < C.2.1.length ∧ (ch.2.1 = none → (M.2.2 ch.1).1 = 1 ∧ ¬ (M.2.2 ch.1).2.2.2.1 = 1 ∧ ∀ k, ch.2.2 = some k → k ∈ waM C M (obM C (M.2.2 ch.1).2.2.1)) ∧ ∀ j, ch.2.1 = some j → j < (M.2.2 ch.1).2.2.2.2.2.2.1.length
section KMG
variable {G : kG} {q : kP} {d : Nat} {x x0 y z : gd} {o : Nat} {F : Int32 → gd → Prop} {Fv : gd → Prop} {C : gCo} {M : gMa} {h h' : gTq} {t T w k c s : Nat} {e f : Int32} {wk : Option Nat}
theorem thN_wLv {lv lv' : Nat → Int32} : thN C T (wLv h lv') s lv = thN C T h s lv := rfl
/-- what is known behind a step fits -/
theorem aft_ml (hM : MM x o) (hK : CK x C) (hN : NC C) {st : gNs} (hst : C.1[s]? = some st) (hml : (st.2.1.length : Int) ≤ (x.1 60 13).toInt) : ((aftN st).length : Int) ≤ (x.1 60 13).toInt := by
  have ns := hN.1 _ st hst
  have kn := hK.1.2 _ st hst
  have ls : ssm x = C.1.length := hK.1.1
  have hS : (s : Int) < ssm x := by have := gt_lt hst; omega
  have so : sop x s = (st.1 : Nat) := by
    show (x.1 81 s).toInt = _
    rw [kn.1]
    exact Int32.toInt_ofNat_of_lt (by have := ns.1.1; omega)
  unfold aftN
  by_cases c : (st.1 = 0 ∨ (2 ≤ st.1 ∧ st.1 ≤ 4) ∨ st.1 = 16) ∧ st.2.2.2.1 = some st.2.1.length
  · rw [if_pos c]
    have k84 := kn.2.2.1 (by omega)
    rw [c.2] at k84
    have k84 : (x.1 84 s).toInt = (st.2.1.length : Nat) := k84
    have t2 := ((hM.1.2.2.2.1 _ hS).2.2.2.1 (by omega)).2
    have t2 : (x.1 84 s).toInt < (x.1 60 13).toInt := t2
    rw [List.length_cons]
    push_cast
    omega
  · rw [if_neg c]; exact hml
/-- a thread goes on behind its act -/
theorem kh_goon (hq : kV q) (ho : kiM q o) (hM : MM x o) (hK : CK x C) (hN : NC C) (g : KMm x o C M) (t v : Int32) (et : t.toInt = T) (hT : T < C.2.1.length) (h1 : (M.2.2 T).1 = 1) (hn : (M.2.2 T).2.1 = 0) (hw0 : (M.2.2 T).2.2.2.1 = 0) {st : gNs} (hst : C.1[(M.2.2 T).2.2.1]? = some st) (o16 : st.1 < 16) (ev : v.toInt = ((M.2.2 T).2.2.1 : Nat)) (hF : ∀ y, MM y o → fm (sSt o) x y → KMm y o C (upT M T (thN C T (M.2.2 T) ((M.2.2 T).2.2.1 + 1) (M.2.2 T).2.2.2.2.2.2.2)) → Fv y) : KT G q (d + 4) zk_X5_set 0 [(0, vr o), (1, vi t), (2, vi 2), (3, vi (v + 1))] [] x (rv (fun x2 => KT G q (d + 4) zk_X5_settle 0 [(0, vr o), (1, vi t)] [] x2 (rv (fun x3 => rv Fv none x3)))) := by
  have hO := kiM_O ho
  have nT : (x.1 60 10).toInt = C.2.1.length := hK.2.1.1
  have hT6 := MM_6 hM.1 (t := T) (by omega)
  obtain ⟨b1, b2, b3, b4, b5, b6, b7⟩ := MG_b hM.1 hM.2.1
  have hA := (hM.2.2 T (by omega)).1
  have gT := g.2 T hT
  have k1 : (1 : Int32).toInt = 1 := rfl
  have ls : ssm x = C.1.length := hK.1.1
  have s35 := hM.1.2.2.1.2
  have ns := hN.1 _ st hst
  obtain ⟨st', n1, n2⟩ := ns.2.1 (by omega)
  have hl' := gt_lt n1
  have e1 : (v + 1).toInt = (((M.2.2 T).2.2.1 + 1 : Nat) : Int) := by rw [t_add (by rw [k1]; omega) (by rw [k1]; omega), k1, ev]; push_cast; rfl
  have hml := gT.2.2.2.2.2.2.2.2 (Or.inl h1)
  have es : stN C (M.2.2 T).2.2.1 = st := by unfold stN; rw [hst]; rfl
  rw [es] at hml
  have aml := aft_ml hM hK hN hst hml
  have nl := n2.length_le
  refine kh_set hq ho (MM_MS hM) hT6 _ _ _ et (show (2 : Int32).toInt = ((2 : Nat) : Int) from rfl) (by omega) (by omega) (fun _ => by omega) (fun c => by omega) (fun c => by omega) (fun z hz fz lz gz wz => ?_)
  have z8 : z.1 o 8 = x.1 o 8 := fz _ _ (by unfold sSt; omega)
  have z9 : z.1 o 9 = x.1 o 9 := fz _ _ (by unfold sSt; omega)
  have z13 : z.1 60 13 = x.1 60 13 := fz _ _ (by unfold sSt; omega)
  have zu : ∀ k : Nat, ¬ k = 2 → (k : Int) < (x.1 o 9).toInt → rg z o T k = rg x o T k := fun k k2 k9 => by rw [gz k k9, if_neg k2]
  have zS : MS (rg z o) z o T := ⟨hz.1, hz.2.1, hz.2.2.1, fun _ _ _ _ => rfl⟩
  have zo : ∀ t k : Nat, t ≠ T → (k : Int) < (x.1 o 8).toInt → rg z o t k = rg x o t k := fun t k ht hk => hz.2.2.2 t k ht (by rw [z8]; exact hk)
  obtain ⟨q0, q1, q2, ⟨q3, q5, qw, -⟩, q4, q6, ⟨q7, ql⟩, qv, -⟩ := gT
  rw [if_pos hw0] at q3
  rw [if_neg (by omega)] at q5
  have hKz : CK z C := CK_St hO hK fz
  refine kh_settleM (h := M.2.2 T) (lv := (M.2.2 T).2.2.2.2.2.2.2) hq ho zS hKz hN (KMl_e hM.2.1 (fz _ _ (by unfold sSt; omega)) (fz _ _ (by unfold sSt; omega)) lz g.1 hM.1) (fun t' ht' hne => kTq_e hM.1 hM.2.1 (hM.2.2 t' (by omega)).1 z13 z9 (fun k hk => zo t' k hne hk) (g.2 t' ht')) hT _ et n1 (by rw [z13]; omega) (by rw [zu 0 (by omega) (by omega), q0.1, h1]; rfl) (by rw [zu 1 (by omega) (by omega), q1, hn]; rfl) (by rw [gz 2 (by omega), if_pos rfl]; exact e1) (by rw [zu 3 (by omega) (by omega)]; exact q3) (by rw [zu 5 (by omega) (by omega)]; exact q5) hw0 (by rw [zu 4 (by omega) (by omega)]; exact q4) (by rw [zu 6 (by omega) (by omega)]; exact q6) ⟨by rw [zu 7 (by omega) (by omega)]; exact q7, fun i p hp => ?_⟩ (fun p hp => ?_) (fun w hw fw gw => rv_i (hF w hw (fm_tr fz fw) gw))
  · have hi := gt_lt hp
    have := (lt_in hM.1 hM.2.1 hA (i := i) (by rw [q7]; omega)).2
    rw [z9, wz _ (by omega) (by omega), wz _ (by omega) (by omega)]
    exact ql i p hp
  · rw [zu (8 + p) (by omega) (by push_cast; omega)]
    exact qv p (by omega)
/-- whether it waits, as the class has it -/
theorem kst_w3 (hM : MM x o) (hK : CK x C) (hN : NC C) (ht : t < C.2.1.length) (g : kTq x o C t h) : rg x o t 3 = 0 ↔ h.2.2.2.1 = 0 := by
  have q3 := g.2.2.2.1.1
  by_cases c : h.2.2.2.1 = 0
  · rw [if_pos c] at q3
    exact ⟨fun _ => c, fun _ => q3⟩
  · rw [if_neg c] at q3
    have l6 := hM.1.1.2.1.2
    obtain ⟨a1, a2⟩ := kst_wl hM hK hN ht g c
    have k1 : (1 : Int32).toInt = 1 := rfl
    have k0 : (0 : Int32).toInt = 0 := rfl
    refine ⟨fun z => ?_, fun z => absurd z c⟩
    rw [q3, t_eq, t_add (by rw [k1]; omega) (by rw [k1]; omega), k1, k0, a1] at z
    omega
/-- what an act leaves of its own thread -/
theorem ef_own (n7 : ¬ soM C (M.2.2 T) = 7) (n9 : ¬ soM C (M.2.2 T) = 9) (s16 : soM C (M.2.2 T) < 16) (h1 : (M.2.2 T).1 = 1) (hn : (M.2.2 T).2.1 = 0) (w1 : ¬ (M.2.2 T).2.2.2.1 = 1) : ((efM C w M T (soM C (M.2.2 T)) c e f wk).1.2.2 T).1 = 1 ∧ ((efM C w M T (soM C (M.2.2 T)) c e f wk).1.2.2 T).2.1 = 0 ∧ ((efM C w M T (soM C (M.2.2 T)) c e f wk).1.2.2 T).2.2.1 = (M.2.2 T).2.2.1 ∧ ((efM C w M T (soM C (M.2.2 T)) c e f wk).1.2.2 T).2.2.2.1 = 0 := by
  by_cases c15 : soM C (M.2.2 T) = 15
  · rw [c15, ef_15]
    show ((upT _ T _).2.2 T).1 = 1 ∧ ((upT _ T _).2.2 T).2.1 = 0 ∧ ((upT _ T _).2.2 T).2.2.1 = _ ∧ ((upT _ T _).2.2 T).2.2.2.1 = 0
    rw [upT_at]
    exact ⟨h1, hn, rfl, rfl⟩
  · have w0 := (so_0 c15).1
    obtain ⟨s, es⟩ : ∃ s, s = soM C (M.2.2 T) := ⟨_, rfl⟩
    rw [← es] at n7 n9 s16 c15 ⊢
    have hs : s = 0 ∨ s = 1 ∨ s = 2 ∨ s = 3 ∨ s = 4 ∨ s = 5 ∨ s = 6 ∨ s = 8 ∨ (s = 10 ∨ s = 11 ∨ s = 12) ∨ s = 13 ∨ s = 14 := by omega
    rcases hs with e | e | e | e | e | e | e | e | e | e | e
    · rw [e, ef_0]; exact ⟨h1, hn, rfl, w0⟩
    · rw [e, ef_1]
      split
      · exact ⟨h1, hn, rfl, w0⟩
      · show ((upT _ T _).2.2 T).1 = 1 ∧ ((upT _ T _).2.2 T).2.1 = 0 ∧ ((upT _ T _).2.2 T).2.2.1 = _ ∧ ((upT _ T _).2.2 T).2.2.2.1 = 0
        rw [upT_at]
        exact ⟨h1, hn, rfl, w0⟩
    · rw [e, ef_2]; exact ⟨h1, hn, rfl, w0⟩
    · rw [e, ef_3]; exact ⟨h1, hn, rfl, w0⟩
    · rw [e, ef_4]; exact ⟨h1, hn, rfl, w0⟩
    · rw [e, ef_5]; exact ⟨h1, hn, rfl, w0⟩
    · rw [e, ef_6]; exact ⟨h1, hn, rfl, w0⟩
    · rw [e, ef_8]
      have : wkT C M T c wk T = M.2.2 T := by
        unfold wkT
        rw [if_neg (fun z => w1 z.2.1)]
      show (wkT C M T c wk T).1 = 1 ∧ (wkT C M T c wk T).2.1 = 0 ∧ (wkT C M T c wk T).2.2.1 = _ ∧ (wkT C M T c wk T).2.2.2.1 = 0
      rw [this]
      exact ⟨h1, hn, rfl, w0⟩
    · rw [ef_o e]; exact ⟨h1, hn, rfl, w0⟩
    · rw [e, ef_13]
      show ((upT _ T _).2.2 T).1 = 1 ∧ ((upT _ T _).2.2 T).2.1 = 0 ∧ ((upT _ T _).2.2 T).2.2.1 = _ ∧ ((upT _ T _).2.2 T).2.2.2.1 = 0
      rw [upT_at]
      exact ⟨h1, hn, rfl, w0⟩
    · rw [e, ef_14]
      show ((upT _ T _).2.2 T).1 = 1 ∧ ((upT _ T _).2.2 T).2.1 = 0 ∧ ((upT _ T _).2.2 T).2.2.1 = _ ∧ ((upT _ T _).2.2 T).2.2.2.1 = 0
      rw [upT_at]
      exact ⟨h1, hn, rfl, w0⟩
theorem kh_perform (hq : kV q) (ho : kiM q o) (hM : MM x o) (hK : CK x C) (hN : NC C) (hX : NXc C) (hX3 : NX3 C) (g : KMm x o C M) (hW : WM M) (wy : x.1 o 3 = Int32.ofNat w) (w01 : w = 0 ∨ w = 1) (i : Int32) {I : Nat} (ei : i.toInt = I) (hi : I < 84) {ch : gCh} (hc : kch x o I ch) (hin : chIn C M ch) (hF : ∀ y, MM y o → fm (sMk o) x y → DE y o → KMm y o C (doM C w M ch) → Fv y) : KT G q (d + 5) zk_X5_perform 0 [(0, vr o), (1, vi i)] [] x (rv Fv) := by
  have hO := kiM_O ho
  have nT : (x.1 60 10).toInt = C.2.1.length := hK.2.1.1
  obtain ⟨T, lt9, wk⟩ := ch
  obtain ⟨c1, c2, c3, c4, c5⟩ := hc
  obtain ⟨i1, i2, i3⟩ := hin
  have hT : T < C.2.1.length := i1
  have c1 : x.1 (o + 11) I = Int32.ofNat T := c1
  have eN : i.toNatClampNeg = I := by rw [t_cl, ei]; rfl
  have vi9 : vp_in i 84 := by rw [vp_in_iff]; omega
  have hTx : (T : Int) < (x.1 60 10).toInt := by omega
  have hT6 := MM_6 hM.1 hTx
  have hA := (hM.2.2 T hTx).1
  have t6 := hM.1.1.2.2.1
  obtain ⟨b1, b2, b3, b4, b5, b6, b7⟩ := MG_b hM.1 hM.2.1
  have eT : (x.1 (o + 11) I).toInt = T := by rw [c1]; exact Int32.toInt_ofNat_of_lt (by omega)
  have gT := g.2 T hT
  refine kg_X5_perform_0 hq ho _ ⟨vi9, vi9, ?_⟩
  rw [eN]
  cases hlt : lt9 with
  | none =>
    have i2 := i2 hlt
    have h1 : (M.2.2 T).1 = 1 := i2.1
    refine ⟨fun _ => ?_, fun c => absurd (c2 hlt) c⟩
    have hg : rg x o T 0 = 1 := by rw [gT.1.1, h1]; rfl
    have hgo := (hM.2.2 T hTx).2 hg
    obtain ⟨st, s1, s2, s3, s4, s5, kn, ns⟩ := kst_at hM hK hN hT gT
    obtain ⟨v, e, l⟩ := MM_st hM.1 hA
    have hcs := hM.1.2.2.2.1 _ l
    have o16 : st.1 < 16 := by
      have := hgo.1
      rw [s3, s5] at this
      omega
    have w3 := kst_w3 hM hK hN hT gT
    have est2 : (rg x o T 2).toInt = ((M.2.2 T).2.2.1 : Nat) := gT.2.2.1
    have hn0 : (M.2.2 T).2.1 = 0 := (hW T hT6).1 (by omega)
    have acE : doM C w M (T, none, wk) = acM C w M T wk := rfl
    rw [hlt] at hF
    rw [acE] at hF
    have tonone : ¬ (st.1 = 0 ∨ (2 ≤ st.1 ∧ st.1 ≤ 4) ∨ st.1 = 16 ∨ st.1 = 17 ∨ st.1 = 20) → (stN C (M.2.2 T).2.2.1).2.2.2.1 = none := fun z => by rw [s2]; exact (hX _ st s1).2.2.2.2.1 z
    have obE : obM C (M.2.2 T).2.2.1 = st.2.2.2.2.1.toNatClampNeg := by unfold obM; rw [s2]
    have go : ∀ p : Int32, p = Int32.ofNat (soM C (M.2.2 T)) → ((rg x o T 3 = 0 ∧ p = x.1 81 (rg x o T 2).toInt.toNat) ∨ (¬ rg x o T 3 = 0 ∧ p = 15)) → KT G q (d + 4) zk_X5_get 0 [(0, vr o), (1, vi (x.1 (o + 11) I)), (2, vi 2)] [] x (ri (fun r7 x6 => vp_in r7 400 ∧ KT G q (d + 4) zk_X1_clear 0 [(0, vr (o + 20)), (1, vi (x.1 (o + 11) I)), (2, vi p), (3, vi (x6.1 85 (r7 : Int32).toNatClampNeg))] [] x6 (rv (fun x9 => vp_in i 84 ∧ KT G q (d + 4) zk_X5_actFailure 0 [(0, vr o), (1, vi (x.1 (o + 11) I)), (2, vi r7), (3, vi p), (4, vi (x9.1 (o + 13) I))] [] x9 (ri (fun r12 x11 => ((r12 = (0 : Int32) → ((¬ (p = (9 : Int32)) → KT G q (d + 5) zk_X5_perform 129 [(0, vr o), (2, vi (x.1 (o + 11) I)), (3, vi p), (4, vi r7)] [] x11 (rv Fv)) ∧ (p = (9 : Int32) → vp_in r7 400 ∧ KT G q (d + 4) zk_X5_rouse 0 [(0, vr o), (1, vi (x11.1 85 (r7 : Int32).toNatClampNeg))] [] x11 (rv (fun x16 => KT G q (d + 5) zk_X5_perform 129 [(0, vr o), (2, vi (x.1 (o + 11) I)), (3, vi p), (4, vi r7)] [] x16 (rv Fv)))))) ∧ (¬ (r12 = (0 : Int32)) → (∀ x17 : gd, x17 = si x11 (o + 20) 5 1 → KT G q (d + 4) zk_X5_fail 0 [(0, vr o), (1, vi (x.1 (o + 11) I)), (2, vi r12)] [] x17 (rv (fun x18 => rv Fv none x18))))))))))) := by
      intro p hps hp
      have so16 : soM C (M.2.2 T) < 16 := by
        unfold soM
        split
        · rw [s2]; exact o16
        · decide
      have ep : p.toInt = (soM C (M.2.2 T) : Nat) := by rw [hps]; exact Int32.toInt_ofNat_of_lt (by omega)
      have p0 : 0 ≤ p.toInt := by omega
      refine kp_get hq ho hM.1 hM.2.1 _ _ eT (show (2 : Int32).toInt = ((2 : Nat) : Int) from rfl) hT6 (by omega) ⟨v, ?_⟩
      rw [e]
      refine kp_deedClear hq (kiM_D ho) _ _ _ (fun y fy y0 y1 y2 y5 => ⟨vi9, ?_⟩)
      obtain ⟨hy, fM, ry⟩ := MM_dc hO hM fy
      have y10 : y.1 60 10 = x.1 60 10 := fy _ _ (by omega)
      have y85 : ∀ j, y.1 85 j = x.1 85 j := fun j => fy _ _ (by omega)
      obtain ⟨f6, f9, e13, e9, e8, e7, -⟩ := sM_e hO fM
      have gy : KMm y o C M := KMm_fr hO hM hK f6 f9 e13 e9 (fun j _ => fy _ _ (by omega)) ry g
      have hKy := CK_M hO hK fM
      rw [← ry T 2]
      refine kh_act (wk := wk) hq ho hy hKy hN hX hX3 gy (by rw [fM o 3 (by unfold sMk; omega)]; exact wy) w01 _ _ _ eT hT h1 hps (fun z => by rw [fy _ _ (by omega)]; exact c4 z) (fun k hk => ⟨by rw [fy _ _ (by omega)]; exact c5 k hk, i2.2.2 k hk⟩) (fun r z hz hd hr => ?_)
      have fz := fm_tr fM hz.2.1
      have hKz := CK_M hO hK fz
      have z10 : z.1 60 10 = x.1 60 10 := by rw [(AR_9 hO hz).2.1]; exact y10
      have d0 : z.1 (o + 20) 0 = x.1 (o + 11) I := by rw [hz.2.2.2 0 (by decide)]; exact y0
      have d1 : z.1 (o + 20) 1 = p := by rw [hz.2.2.2 1 (by decide)]; exact y1
      have d5 : z.1 (o + 20) 5 = 0 := by rw [hz.2.2.2 5 (by decide)]; exact y5
      rw [ry]
      -- the deed of an act that was done
      have deed : r = 0 → ∀ w, fm (sSt o) z w → DE w o := by
        intro r0 w fw
        obtain ⟨q2, q3⟩ := hd r0
        have w20 : ∀ k, w.1 (o + 20) k = z.1 (o + 20) k := fun k => fw _ _ (by unfold sSt; omega)
        have ww : ∀ k, k ≠ 5 → w.1 60 k = x.1 60 k := fun k hk => by rw [fw 60 k (by unfold sSt; omega), fz 60 k (by unfold sMk; omega)]
        unfold DE
        rw [w20, w20, w20, w20, d0, d1, d5, ww 10 (by omega), ww 6 (by omega), ww 9 (by omega)]
        refine ⟨gbool_0, Or.inr ⟨by omega, p0, fun _ => ⟨fun c4 => ?_, fun c58 => ?_, fun c9 => ?_⟩⟩⟩
        · have := q2 c4
          rw [fy 60 6 (by omega)] at this; exact this
        · rw [q3 (by omega), y2]
          rcases hp with ⟨e3, e1⟩ | ⟨e3, e1⟩
          · rcases c58 with c | c
            · rw [e1] at c
              exact hcs.1.2.1 c.1 c.2
            · exfalso; rw [e1] at c; exact hcs.2.1.2 c
          · have h7 := hgo.2 e3
            exact hcs.1.2.1 (by omega) (by omega)
        · rw [q3 (by omega), y2]
          rcases hp with ⟨e3, e1⟩ | ⟨e3, e1⟩
          · rw [e1] at c9
            exact hcs.1.2.2 (by unfold sop; omega) (by unfold sop; omega)
          · exfalso; rw [e1] at c9; revert c9; decide
      rcases hr with ⟨rn, er, ln, gz⟩ | ⟨r0, ln, gn9, g9⟩
      · -- it fails
        refine ⟨fun r0 => absurd r0 rn, fun _ x17 e17 => ?_⟩
        obtain ⟨h17, r17⟩ := AR_deed (S := fun k => k = 5) hO hz.1 rfl e17
        have f17 := fm_tr fz h17.2.1
        have hK17 := CK_M hO hK f17
        have g17 : KMm x17 o C M := AR_KM hO hz.1 hKz h17 (fun j _ => by rw [e17, si_cell (by omega)]) r17 gz
        obtain ⟨v6, v9', v13, v9, v8, v7, v10⟩ := sM_e hO f17
        refine kh_fail hq ho (MM_MS h17.1) hT6 _ _ eT (fun w hw fw w0 w1 w2 lw wv => rv_i (hF w (MS_MM hw (fun _ c1 => ?_)) (fm_tr f17 (fm_w fw (fun c k q => sSt_M q))) ?_ ?_))
        · rw [w0] at c1; exact absurd c1 (by decide)
        · have w20 : ∀ k, w.1 (o + 20) k = x17.1 (o + 20) k := fun k => fw _ _ (by unfold sSt; omega)
          have q5 : x17.1 (o + 20) 5 = 1 := by rw [e17, si_get, if_pos ⟨rfl, rfl⟩]
          unfold DE
          rw [w20, w20, w20, w20, q5, h17.2.2.2 0 (by decide), h17.2.2.2 1 (by decide), d0, d1, fw 60 10 (by unfold sSt; omega), f17 60 10 (by unfold sMk; omega)]
          exact ⟨gbool_1, Or.inr ⟨by omega, p0, fun c5 => absurd c5 (by decide)⟩⟩
        · rw [acM_F ln]
          have fMw : fm (sMk o) x17 w := fm_w fw (fun c k q => sSt_M q)
          obtain ⟨u6, u9', u13, u9, u8, u7, u10⟩ := sM_e hO fMw
          have gT17 := g17.2 T hT
          have hA17 := (h17.1.2.2 T (by rw [v10]; exact hTx)).1
          obtain ⟨k1, k2, k3, k4, k5, k6, k7⟩ := MG_b h17.1.1 h17.1.2.1
          refine KMm_T hO h17.1 hK17 fMw lw (fun t' k' ht hk => hw.2.2.2 t' k' ht (by rw [u8]; exact hk)) g17 (kTq_k h17.1.1 h17.1.2.1 hA17 u13 u9 (fun k => if k = 0 then 3 else if k = 1 then r else rg x17 o T k) (fun k hk => ?_) gT17 rfl ⟨rfl, by show (3 : Nat) ≤ 3; decide⟩ er gT17.2.2.1 gT17.2.2.2.1 gT17.2.2.2.2.1 gT17.2.2.2.2.2.1 (fun _ => gT17.2.2.2.2.2.2.2.2 (Or.inl h1)))
          by_cases c0 : k = 0
          · rw [c0, if_pos (by decide), if_pos rfl]; exact w0
          · by_cases c1 : k = 1
            · rw [c1, if_pos (by decide), if_neg (by decide), if_pos rfl]; exact w1
            · rw [if_neg c0, if_neg c1]
              have : rg w o T k = rg x17 o T k := by
                by_cases c9 : (k : Int) < (x17.1 o 9).toInt
                · exact w2 k (by omega) c9
                · exact wv k (by omega) hk
              rw [this]; split <;> rfl
      · -- it is done
        refine ⟨fun _ => ⟨fun n9 => ?_, fun c9 => ⟨v, ?_⟩⟩, fun rn => absurd r0 rn⟩
        · have ns9 : ¬ soM C (M.2.2 T) = 9 := fun z9 => n9 (by rw [hps, z9]; rfl)
          have gz := gn9 ns9
          refine kg_X5_perform_129 hq ho _ _ _ ⟨fun c7 => rv_i (hF z hz.1 fz (deed r0 z (fm_rf _ _)) ?_), fun n7 => ?_⟩
          · have s7 : soM C (M.2.2 T) = 7 := by
              rw [c7] at ep
              have k7 : (7 : Int32).toInt = 7 := rfl
              omega
            rw [acM_7 ln s7, ef_7]
            have hw0 := (so_0 (C := C) (M := M) (t := T) (by omega))
            have o7 : st.1 = 7 := by rw [← s2, ← hw0.2]; exact s7
            have ll := lkM_b (w := w) hX s1 s2 hw0.1 (by omega)
            rw [← M1c_is (C := C) (w := w) (M := M) (T := T) (wk := wk) (v := 0) (E := upT (upL M (lkM C w M T).2.1.toNatClampNeg (0, 0)) T ((M.2.2 T).1, (M.2.2 T).2.1, (M.2.2 T).2.2.1, 1, (M.2.1 (lkM C w M T).2.1.toNatClampNeg).2, (M.2.2 T).2.2.2.2.2)) (by rw [s7, ef_7]) (tonone (by omega)) (by rw [upT_at])]
            exact gz
          · have ns7 : ¬ soM C (M.2.2 T) = 7 := fun z7 => n7 (by rw [hps, z7]; rfl)
            obtain ⟨E, eE⟩ : ∃ E, E = efM C w M T (soM C (M.2.2 T)) (lkM C w M T).2.1.toNatClampNeg (lkM C w M T).2.2.1 (lkM C w M T).2.2.2 wk := ⟨_, rfl⟩
            have acS := acM_is (E := E.1) (v := E.2) ln ns7 (by rw [← eE])
            have m1 : M1c C w M T wk = upT E.1 T (wLv (E.1.2.2 T) (toV (stN C (M.2.2 T).2.2.1) (M.2.2 T).2.2.2.2.2.2.2 E.2)) := by unfold M1c; rw [← eE]
            have eT9 : (E.1.2.2 T).1 = 1 ∧ (E.1.2.2 T).2.1 = 0 ∧ (E.1.2.2 T).2.2.1 = (M.2.2 T).2.2.1 ∧ (E.1.2.2 T).2.2.2.1 = 0 := by
              rw [eE]
              exact ef_own ns7 ns9 so16 h1 hn0 i2.2.1
            rw [m1] at gz
            have gTz : (upT E.1 T (wLv (E.1.2.2 T) (toV (stN C (M.2.2 T).2.2.1) (M.2.2 T).2.2.2.2.2.2.2 E.2))).2.2 T = wLv (E.1.2.2 T) (toV (stN C (M.2.2 T).2.2.1) (M.2.2 T).2.2.2.2.2.2.2 E.2) := upT_at
            refine kh_goon hq ho hz.1 hKz hN gz _ _ eT hT (by rw [gTz]; exact eT9.1) (by rw [gTz]; exact eT9.2.1) (by rw [gTz]; exact eT9.2.2.2) (by rw [gTz]; show C.1[(E.1.2.2 T).2.2.1]? = _; rw [eT9.2.2.1]; exact s1) o16 (by rw [gTz]; show _ = (((E.1.2.2 T).2.2.1 : Nat) : Int); rw [eT9.2.2.1]; exact est2) (fun u hu fu gu => (hF u hu (fm_tr fz (fm_w fu (fun c k q => sSt_M q))) (deed r0 u fu) ?_))
            rw [acS]
            rw [upT_2, gTz] at gu
            have es9 : (wLv (E.1.2.2 T) (toV (stN C (M.2.2 T).2.2.1) (M.2.2 T).2.2.2.2.2.2.2 E.2)).2.2.1 = (M.2.2 T).2.2.1 := eT9.2.2.1
            rw [es9, thN_wLv] at gu
            exact gu
        · -- start
          have k9 : (9 : Int32).toInt = 9 := rfl
          have s9 : soM C (M.2.2 T) = 9 := by
            rw [c9] at ep
            omega
          obtain ⟨ez, hc0⟩ := g9 s9
          subst ez
          have hw0 := (so_0 (C := C) (M := M) (t := T) (by omega))
          have o9 : st.1 = 9 := by rw [← s2, ← hw0.2]; exact s9
          have k85 := kn.2.2.2.2.1 (by omega)
          have a := (hM.1.2.2.2.1 _ s4).1.2.2 (by omega) (by omega)
          rw [y85, s3, k85]
          rw [k85] at a
          have l1 : st.2.2.2.2.1.toInt = (obM C (M.2.2 T).2.2.1 : Nat) := by rw [obE, t_cl]; omega
          obtain ⟨c', ec⟩ : ∃ c', c' = obM C (M.2.2 T).2.2.1 := ⟨_, rfl⟩
          rw [← ec] at l1 hc0
          have hcl : c' < C.2.1.length := by omega
          obtain ⟨q9, hq9⟩ : ∃ q9, C.2.1[c']? = some q9 := ⟨_, List.getElem?_eq_getElem hcl⟩
          have hne : ¬ T = c' := fun z9 => by rw [← z9, h1] at hc0; exact absurd hc0 (by decide)
          have hWc := hW c' (by omega)
          have hwc : (M.2.2 c').2.2.2.1 = 0 := hWc.2.2 (by omega)
          refine kh_rouseM hq ho hz.1 hKz hN gy _ l1 hcl hc0 (hWc.1 (by omega)) hwc hq9 (fun u hu fu gu => kg_X5_perform_129 hq ho _ _ _ ⟨fun c7 => absurd (c7.symm.trans c9) (by decide), fun n7 => ?_⟩)
          have fzu := fm_tr fM (fm_w fu (fun c k q => sSt_M q))
          have gTu : (upT M c' (thN C c' (M.2.2 c') q9.1 (M.2.2 c').2.2.2.2.2.2.2)).2.2 T = M.2.2 T := upT_ne hne
          refine kh_goon hq ho hu (CK_M hO hK fzu) hN gu _ _ eT hT (by rw [gTu]; exact h1) (by rw [gTu]; exact hn0) (by rw [gTu]; exact hw0.1) (by rw [gTu]; exact s1) o16 (by rw [gTu]; exact est2) (fun v9 hv fv gv => (hF v9 hv (fm_tr fzu (fm_w fv (fun c k q => sSt_M q))) (deed r0 v9 (fm_tr fu fv)) ?_))
          have ll := lkM_b (w := w) hX s1 s2 hw0.1 (by omega)
          rw [acM_is (E := upT M c' (thN C c' (M.2.2 c') q9.1 (M.2.2 c').2.2.2.2.2.2.2)) (v := 0) ln (by omega) (by rw [s9, ll, ef_9 (q := q9) (show C.2.1[(st.2.2.2.2.1).toNatClampNeg]? = some q9 by rw [← obE, ← ec]; exact hq9), ← obE, ← ec]), gTu, toV_n (tonone (by omega))]
          rw [gTu] at gv
          exact gv
    refine kp_sortOf hq ho hM.1 hM.2.1 _ eT hT6 hA (fun c0 => go _ ?_ (Or.inl ⟨c0, rfl⟩)) (fun c0 => go _ ?_ (Or.inr ⟨c0, rfl⟩))
    · unfold soM
      rw [if_pos (w3.mp c0), s2, s3]; exact kn.1
    · unfold soM
      rw [if_neg (fun z => c0 (w3.mpr z))]; rfl
  | some J =>
    have hJ := i3 J hlt
    have c3 := c3 J hlt
    have hJ : J < (M.2.2 T).2.2.2.2.2.2.1.length := hJ
    have q7 := gT.2.2.2.2.2.2.1.1
    have a2 := hA.2.1
    have eJ : (x.1 (o + 12) I).toInt = J := by rw [c3]; exact Int32.toInt_ofNat_of_lt (by omega)
    have laE : doM C w M (T, some J, wk) = laM M T J := rfl
    rw [hlt] at hF
    rw [laE] at hF
    refine ⟨fun c => ?_, fun _ => ?_⟩
    · exfalso; rw [c, tm1] at eJ; omega
    refine kp_deedClear hq (kiM_D ho) _ _ _ (fun y fy y0 y1 y2 y5 => ⟨vi9, ?_⟩)
    obtain ⟨hy, fM, ry⟩ := MM_dc hO hM fy
    obtain ⟨f6, f9, e13, e9, e8, e7, -⟩ := sM_e hO fM
    have gy : KMm y o C M := KMm_fr hO hM hK f6 f9 e13 e9 (fun j _ => fy _ _ (by omega)) ry g
    rw [fy (o + 12) I (by omega)]
    refine kh_bring hq ho hy (CK_M hO hK fM) gy _ _ eT eJ hT hJ (fun z hz fz z20 gz => rv_i (hF z hz (fm_tr fM fz) ⟨?_, Or.inl ?_⟩ gz))
    · rw [z20, y5]; exact gbool_0
    · rw [z20, y0]
end KMG
end
