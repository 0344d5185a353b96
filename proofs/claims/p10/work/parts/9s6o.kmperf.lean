/-! the class: a choice is performed, with what its machine holds -/
section KMF
variable {G : kG} {q : kP} {d : Nat} {x x0 y z : gd} {o : Nat} {R : Nat → Nat → Int32} {F : Int32 → gd → Prop} {Fv : gd → Prop} {C : gCo} {M : gMa} {h h' : gTq} {t T w k c s : Nat} {e f : Int32} {wk : Option Nat}
/-- a thread settles: it stands as the machine says -/
theorem kh_settleM (hq : kV q) (ho : kiM q o) (hS : MS (rg x o) x o T) (hK : CK x C) (hN : NC C) (hl : KMl x o M) (hot : ∀ t, t < C.2.1.length → t ≠ T → kTq x o C t (M.2.2 t)) (hT : T < C.2.1.length) (t : Int32) (et : t.toInt = T) {lv : Nat → Int32} {st : gNs} (hs : C.1[s]? = some st) (hml : (st.2.1.length : Int) ≤ (x.1 60 13).toInt) (r0 : rg x o T 0 = 1) (r1 : rg x o T 1 = 0) (r2 : (rg x o T 2).toInt = (s : Nat)) (r3 : rg x o T 3 = 0) (r5 : rg x o T 5 = 0) (w0 : h.2.2.2.1 = 0) (r4 : rg x o T 4 = h.2.2.2.2.1) (r6 : rg x o T 6 = h.2.2.2.2.2.1 + 1) (r7 : (rg x o T 7).toInt = (h.2.2.2.2.2.2.1.length : Nat) ∧ ∀ i p, h.2.2.2.2.2.2.1[i]? = some p → (rg x o T ((x.1 o 9).toInt.toNat + 2 * i)).toInt = (p.1 : Nat) ∧ rg x o T ((x.1 o 9).toInt.toNat + 2 * i + 1) = p.2) (rl : ∀ p, p < st.2.1.length → rg x o T (8 + p) = lv p) (hF : ∀ y, MM y o → fm (sSt o) x y → KMm y o C (upT M T (thN C T h s lv)) → Fv y) : KT G q (d + 3) zk_X5_settle 0 [(0, vr o), (1, vi t)] [] x (rv Fv) := by
  have hO := kiM_O ho
  have nT : (x.1 60 10).toInt = C.2.1.length := hK.2.1.1
  have hA := (hS.2.2.1 T (by omega)).1
  obtain ⟨b1, b2, b3, b4, b5, b6, b7⟩ := MG_b hS.1 hS.2.1
  have e2 : (rg x o T 2).toInt.toNat = s := by rw [r2]; rfl
  refine kh_settle hq ho hS (by omega) _ et r3 hK hN r0 r1 (by rw [e2]; exact hs) rl hml (fun y hy fy gy uy vy hfin => hF y hy fy ?_)
  obtain ⟨n, r, hr, ⟨f0, f1, f2, f3, f4⟩, key⟩ := hfin
  rw [e2] at hr
  have ow := owR_is hr
  have fM : fm (sMk o) x y := fm_w fy (fun c k q => sSt_M q)
  obtain ⟨f6, f9, e13, e9, e8, e7, e10⟩ := sM_e hO fM
  refine ⟨KMl_e hS.2.1 f6 f9 uy.2 hl hS.1, fun t' ht' => ?_⟩
  show kTq y o C t' (upf M.2.2 T (thN C T h s lv) t')
  unfold upf
  by_cases c : t' = T
  · rw [if_pos c, c]
    unfold thN
    rw [ow]
    refine ⟨⟨f0, by show r.1 ≤ 3; omega⟩, f1, f2, ⟨?_, ?_, ?_, fun z => absurd w0 z⟩, ?_, ?_, ⟨?_, fun i p hp => ?_⟩, fun p hp => ?_, fun c1 => ?_⟩
    · show rg y o T 3 = if h.2.2.2.1 = 0 then 0 else _
      rw [if_pos w0, uy.1 3 (by omega) (by omega)]; exact r3
    · show rg y o T 5 = if h.2.2.2.1 = 2 then 1 else 0
      rw [if_neg (by omega), uy.1 5 (by omega) (by omega)]; exact r5
    · show h.2.2.2.1 ≤ 2
      omega
    · rw [uy.1 4 (by omega) (by omega)]; exact r4
    · rw [uy.1 6 (by omega) (by omega)]; exact r6
    · rw [uy.1 7 (by omega) (by omega)]; exact r7.1
    · have hp : h.2.2.2.2.2.2.1[i]? = some p := hp
      have hi := gt_lt hp
      have := (lt_in hS.1 hS.2.1 hA (i := i) (by rw [r7.1]; omega)).2
      rw [e9, vy _ (by omega) (by omega), vy _ (by omega) (by omega)]
      exact r7.2 i p hp
    · rw [e13] at hp; exact key p hp
    · obtain ⟨st', g1, g2, -⟩ := f4 c1
      have : stN C r.2.2.1 = st' := by unfold stN; rw [g1]; rfl
      show ((stN C r.2.2.1).2.1.length : Int) ≤ _
      rw [this]; exact g2
  · rw [if_neg c]
    exact kTq_e hS.1 hS.2.1 (hS.2.2.1 t' (by omega)).1 e13 e9 (fun k hk => gy t' k c hk) (hot t' ht' c)
/-- a thread is started -/
theorem kh_rouseM (hq : kV q) (ho : kiM q o) (hM : MM x o) (hK : CK x C) (hN : NC C) (g : KMm x o C M) (t : Int32) (et : t.toInt = T) (hT : T < C.2.1.length) (h0 : (M.2.2 T).1 = 0) (hn : (M.2.2 T).2.1 = 0) (hw0 : (M.2.2 T).2.2.2.1 = 0) {q9 : Nat × Nat} (hth : C.2.1[T]? = some q9) (hF : ∀ y, MM y o → fm (sSt o) x y → KMm y o C (upT M T (thN C T (M.2.2 T) q9.1 (M.2.2 T).2.2.2.2.2.2.2)) → Fv y) : KT G q (d + 4) zk_X5_rouse 0 [(0, vr o), (1, vi t)] [] x (rv Fv) := by
  have hO := kiM_O ho
  have nT : (x.1 60 10).toInt = C.2.1.length := hK.2.1.1
  have hT6 := MM_6 hM.1 (t := T) (by omega)
  obtain ⟨b1, b2, b3, b4, b5, b6, b7⟩ := MG_b hM.1 hM.2.1
  have hA := (hM.2.2 T (by omega)).1
  have gT := g.2 T hT
  refine kg_X5_rouse_0 hq ho _ (kh_set hq ho (MM_MS hM) hT6 _ _ _ et (show (0 : Int32).toInt = ((0 : Nat) : Int) from rfl) (by omega) (by omega) (fun c => by omega) (fun _ c => absurd c (by decide)) (fun c => by omega) (fun y hy fy ly gy wy => ⟨by rw [vp_in_iff]; omega, ?_⟩))
  have y9 : y.1 o 9 = x.1 o 9 := fy _ _ (by unfold sSt; omega)
  have eN : t.toNatClampNeg = T := by rw [t_cl, et]; rfl
  have hs := hy.1.2.2.2.2 T (by rw [fy 60 10 (by unfold sSt; omega)]; omega)
  rw [eN]
  refine kh_set hq ho hy hT6 _ _ _ et (show (2 : Int32).toInt = ((2 : Nat) : Int) from rfl) (by rw [y9]; omega) (by omega) (fun _ => hs) (fun c => by omega) (fun c => by omega) (fun z hz fz lz gz wz => ?_)
  have fxz : fm (sSt o) x z := fm_tr fy fz
  have z8 : z.1 o 8 = x.1 o 8 := fxz _ _ (by unfold sSt; omega)
  have z9 : z.1 o 9 = x.1 o 9 := fxz _ _ (by unfold sSt; omega)
  have z13 : z.1 60 13 = x.1 60 13 := fxz _ _ (by unfold sSt; omega)
  have e72 : (y.1 72 T).toInt = (q9.1 : Nat) := by rw [fy 72 T (by unfold sSt; omega)]; exact (hK.2.1.2 T q9 hth).1
  have z2 : rg z o T 2 = y.1 72 T := by rw [gz 2 (by rw [y9]; omega), if_pos rfl]
  have z0 : rg z o T 0 = 1 := by rw [gz 0 (by rw [y9]; omega), if_neg (by omega), gy 0 (by omega), if_pos rfl]
  have zu : ∀ k : Nat, ¬ k = 0 → ¬ k = 2 → (k : Int) < (x.1 o 9).toInt → rg z o T k = rg x o T k := fun k k0 k2 k9 => by rw [gz k (by rw [y9]; omega), if_neg k2, gy k (by omega), if_neg k0]
  have zv : sVx x z o T := sVx_tr hO fy wy wz
  obtain ⟨⟨st, s1, s2⟩, -⟩ := hN.2.1 q9 (List.mem_of_getElem? hth)
  have m13 := hM.1.1.2.2.2.1.1
  have zS : MS (rg z o) z o T := ⟨hz.1, hz.2.1, hz.2.2.1, fun _ _ _ _ => rfl⟩
  have zo : ∀ t k : Nat, t ≠ T → (k : Int) < (x.1 o 8).toInt → rg z o t k = rg x o t k := fun t k ht hk => hz.2.2.2 t k ht (by rw [z8]; exact hk)
  obtain ⟨q0, q1, q2, ⟨q3, q5, qw, -⟩, q4, q6, ⟨q7, ql⟩, qv, -⟩ := gT
  rw [if_pos hw0] at q3
  rw [if_neg (by omega)] at q5
  have hKz : CK z C := CK_St hO hK fxz
  refine kh_settleM (h := M.2.2 T) hq ho zS hKz hN (KMl_e hM.2.1 (fxz _ _ (by unfold sSt; omega)) (fxz _ _ (by unfold sSt; omega)) (lowE_tr hO fy ly lz) g.1 hM.1) (fun t' ht' hne => kTq_e hM.1 hM.2.1 (hM.2.2 t' (by omega)).1 z13 z9 (fun k hk => zo t' k hne hk) (g.2 t' ht')) hT _ et s1 (by rw [s2, z13]; exact m13) z0 (by rw [zu 1 (by omega) (by omega) (by omega), q1, hn]; rfl) (by rw [z2]; exact e72) (by rw [zu 3 (by omega) (by omega) (by omega)]; exact q3) (by rw [zu 5 (by omega) (by omega) (by omega)]; exact q5) hw0 (by rw [zu 4 (by omega) (by omega) (by omega)]; exact q4) (by rw [zu 6 (by omega) (by omega) (by omega)]; exact q6) ⟨by rw [zu 7 (by omega) (by omega) (by omega)]; exact q7, fun i p hp => ?_⟩ (fun p hp => by rw [s2] at hp; exact absurd hp (Nat.not_lt_zero _)) (fun w hw fw gw => rv_i (hF w hw (fm_tr fxz fw) gw))
  have hi := gt_lt hp
  have := (lt_in hM.1 hM.2.1 hA (i := i) (by rw [q7]; omega)).2
  rw [z9, zv _ (by omega) (by omega), zv _ (by omega) (by omega)]
  exact ql i p hp
/-- a late one comes -/
theorem kh_bring (hq : kV q) (ho : kiM q o) (hM : MM x o) (hK : CK x C) (g : KMm x o C M) {J : Nat} (t j : Int32) (et : t.toInt = T) (ej : j.toInt = J) (hT : T < C.2.1.length) (hJ : J < (M.2.2 T).2.2.2.2.2.2.1.length) (hF : ∀ y, MM y o → fm (sMk o) x y → y.1 (o + 20) = x.1 (o + 20) → KMm y o C (laM M T J) → Fv y) : KT G q (d + 2) zk_X5_bringLate 0 [(0, vr o), (1, vi t), (2, vi j)] [] x (rv Fv) := by
  have hO := kiM_O ho
  have nT : (x.1 60 10).toInt = C.2.1.length := hK.2.1.1
  have hT6 := MM_6 hM.1 (t := T) (by omega)
  have hA := (hM.2.2 T (by omega)).1
  obtain ⟨a1, a2, a3, a4, a5⟩ := (hM.2.2 T (by omega)).1
  obtain ⟨b1, b2, b3, b4, b5, b6, b7⟩ := MG_b hM.1 hM.2.1
  have c24 := hM.1.1.1
  have k1 : (1 : Int32).toInt = 1 := rfl
  have k0 : (0 : Int32).toInt = 0 := rfl
  have gT := g.2 T hT
  obtain ⟨q7, ql⟩ := gT.2.2.2.2.2.2.1
  obtain ⟨l, el⟩ : ∃ l, l = (M.2.2 T).2.2.2.2.2.2.1 := ⟨_, rfl⟩
  rw [← el] at q7 ql hJ
  have hJ7 : (J : Int) < (rg x o T 7).toInt := by omega
  obtain ⟨hw, -⟩ := lt_in hM.1 hM.2.1 hA hJ7
  have b5 := b5 hw
  obtain ⟨p, hp⟩ : ∃ p, l[J]? = some p := ⟨_, List.getElem?_eq_getElem hJ⟩
  obtain ⟨p1, p2⟩ := ql J p hp
  have hcell := a4 J hJ7
  have laE : laM M T J = upT (upC M p.1 p.2) T ((M.2.2 T).1, (M.2.2 T).2.1, (M.2.2 T).2.2.1, (M.2.2 T).2.2.2.1, (M.2.2 T).2.2.2.2.1, (M.2.2 T).2.2.2.2.2.1, l.eraseIdx J, (M.2.2 T).2.2.2.2.2.2.2) := by
    unfold laM
    rw [← el]
    simp only [hp]
  refine kg_X5_bringLate_0 hq ho _ _ (kp_lateCell hq ho hM.1 hM.2.1 _ _ et hT6 ej (by omega) (kh_lateValue hq ho hM.1 hM.2.1 _ _ et hT6 ej (by omega) ⟨by rw [vp_in_iff]; omega, fun x6 e6 => ?_⟩))
  have nc : (rg x o T ((x.1 o 9).toInt.toNat + 2 * J)).toNatClampNeg = p.1 := by rw [t_cl, p1]; rfl
  rw [nc, p2] at e6
  have r6 : ∀ t k, rg x6 o t k = rg x o t k := fun t k => rg_low hO (by omega) e6
  have f6 : fm (sSt o) x x6 := st_f e6
  have fM6 : fm (sMk o) x x6 := fm_w f6 (fun c k q => sSt_M q)
  have h6 : MM x6 o := MM_low hO hM fM6 r6
  have g6 : KMm x6 o C (upC M p.1 p.2) := KMm_c hO hM hK (by omega) e6 g
  have hK6 : CK x6 C := CK_M hO hK fM6
  have gS : ∀ {y : gd}, fm (sSt o) x y → y.1 o 9 = x.1 o 9 ∧ y.1 o 8 = x.1 o 8 ∧ y.1 o 3 = x.1 o 3 ∧ y.1 60 6 = x.1 60 6 ∧ y.1 60 10 = x.1 60 10 ∧ y.1 (o + 20) = x.1 (o + 20) := fun f => ⟨f _ _ (by unfold sSt; omega), f _ _ (by unfold sSt; omega), f _ _ (by unfold sSt; omega), f _ _ (by unfold sSt; omega), f _ _ (by unfold sSt; omega), funext (fun k => f _ _ (by unfold sSt; omega))⟩
  refine kp_get hq ho h6.1 h6.2.1 _ _ et (show (7 : Int32).toInt = ((7 : Nat) : Int) from rfl) hT6 (by omega) ?_
  rw [r6]
  obtain ⟨L, eL⟩ : ∃ L, L = rg x o T 7 - 1 := ⟨_, rfl⟩
  have iL : L.toInt = (rg x o T 7).toInt - 1 := by rw [eL, t_sub (by rw [k1]; omega) (by rw [k1]; omega), k1]
  rw [← eL]
  -- rows below K are moved
  have loop : ∀ (n : Nat) (k : Int32) {K : Nat} (y : gd), k.toInt = K → J ≤ K → (K : Int) ≤ L.toInt → L.toInt - K ≤ n → MM y o → fm (sSt o) x6 y → lowE x6 y o → (∀ t k : Nat, (k : Int) < (x.1 o 8).toInt → rg y o t k = if t = T ∧ (x.1 o 9).toInt.toNat + 2 * J ≤ k ∧ k < (x.1 o 9).toInt.toNat + 2 * K then rg x o T (k + 2) else rg x o t k) → KT G q (d + 2) zk_X5_bringLate 30 [(0, vr o), (1, vi t), (3, vi L), (4, vi k)] [] y (rv Fv) := by
    have fin : ∀ (y : gd), MM y o → fm (sSt o) x6 y → lowE x6 y o → (∀ t k : Nat, (k : Int) < (x.1 o 8).toInt → rg y o t k = if t = T ∧ (x.1 o 9).toInt.toNat + 2 * J ≤ k ∧ k < (x.1 o 9).toInt.toNat + 2 * L.toInt.toNat then rg x o T (k + 2) else rg x o t k) → KT G q (d + 1) zk_X5_setLate 0 [(0, vr o), (1, vi t), (2, vi L), (3, vi 0), (4, vi 0)] [] y (rv (fun x2 => KT G q (d + 1) zk_X5_set 0 [(0, vr o), (1, vi t), (2, vi 7), (3, vi L)] [] x2 (rv (fun x3 => rv Fv none x3)))) := by
      intro y hy fy6 ly gy
      have fy : fm (sSt o) x y := fm_tr f6 fy6
      obtain ⟨s9, s8, s3, s6, s10, s20⟩ := gS fy
      refine kh_setLate hq ho hy (by rw [s3]; exact hw) _ _ _ _ et (show L.toInt = ((L.toInt.toNat : Nat) : Int) by omega) hT6 (by omega) (by rw [s6, k0]; omega) (fun z hz fz lz gz => ?_)
      obtain ⟨z9, z8, z3, z6, z10, z20⟩ := gS (fm_tr fy fz)
      rw [s8, s9] at gz
      have au : ∀ t k : Nat, (k : Int) < (x.1 o 8).toInt → rg z o t k = if t = T ∧ (x.1 o 9).toInt.toNat + 2 * J ≤ k ∧ k < (x.1 o 9).toInt.toNat + 2 * L.toInt.toNat then rg x o T (k + 2) else if t = T ∧ ((x.1 o 9).toInt.toNat + 2 * L.toInt.toNat = k ∨ (x.1 o 9).toInt.toNat + 2 * L.toInt.toNat + 1 = k) then 0 else rg x o t k := fun t k hk => by
        rw [gz t k hk]
        by_cases c1 : t = T ∧ k = (x.1 o 9).toInt.toNat + 2 * L.toInt.toNat
        · rw [if_pos c1, if_neg (fun z => by omega), if_pos ⟨c1.1, Or.inl c1.2.symm⟩]
        · rw [if_neg c1]
          by_cases c2 : t = T ∧ k = (x.1 o 9).toInt.toNat + 2 * L.toInt.toNat + 1
          · rw [if_pos c2, if_neg (fun z => by omega), if_pos ⟨c2.1, Or.inr c2.2.symm⟩]
          · rw [if_neg c2, gy t k hk]
            by_cases c3 : t = T ∧ (x.1 o 9).toInt.toNat + 2 * J ≤ k ∧ k < (x.1 o 9).toInt.toNat + 2 * L.toInt.toNat
            · rw [if_pos c3, if_pos c3]
            · rw [if_neg c3, if_neg c3, if_neg (fun z => by omega)]
      have z7 : rg z o T 7 = rg x o T 7 := by rw [au T 7 (by omega), if_neg (fun z => by omega), if_neg (fun z => by omega)]
      have hz4 := (hz.2.2 T (by rw [z10]; omega)).1.2.2.2.1
      refine kh_seta (S := fun _ => False) hq ho hz _ _ _ et (show (7 : Int32).toInt = ((7 : Nat) : Int) from rfl) hT6 (by rw [z8]; omega) ⟨by omega, by omega⟩ (fun q => by omega) (fun _ => ⟨by omega, fun c => absurd (by rw [z3]; exact hw) c, fun i hi => hz4 i (by rw [z7]; omega)⟩) (fun i hi q => by rw [z9] at q; omega) (fun u hu fu lu gu => rv_i ?_)
      have fxu : fm (sSt o) x u := fm_tr (fm_tr fy fz) fu
      have fMu : fm (sMk o) x6 u := fm_w (fm_tr (fm_tr fy6 fz) fu) (fun c k q => sSt_M q)
      obtain ⟨u9, u8, u3, u6, u10, u20⟩ := gS fxu
      refine hF u hu.1 (fm_w fxu (fun c k q => sSt_M q)) u20 ?_
      rw [laE]
      rw [z8] at gu
      have bu : ∀ t k : Nat, (k : Int) < (x.1 o 8).toInt → rg u o t k = if t = T ∧ k = 7 then L else rg z o t k := gu
      have l6u : lowE x6 u o := fun j hj => by
        rw [lu j (by rw [(fm_tr fy6 fz) o 7 (by unfold sSt; omega)]; exact hj), lz j (by rw [fy6 o 7 (by unfold sSt; omega)]; exact hj), ly j hj]
      refine KMm_T hO h6 hK6 fMu l6u (fun t' k ht hk => ?_) g6 ?_
      · rw [f6 o 8 (by unfold sSt; omega)] at hk
        rw [bu t' k hk, if_neg (fun z => ht z.1), au t' k hk, if_neg (fun z => ht z.1), if_neg (fun z => ht z.1), r6]
      · have e' : ∀ k : Nat, ¬ k = 7 → (k : Int) < (x.1 o 9).toInt → rg u o T k = rg x o T k := fun k k7 k9 => by rw [bu T k (by omega), if_neg (fun z => k7 z.2), au T k (by omega), if_neg (fun z => by omega), if_neg (fun z => by omega)]
        have u13 : u.1 60 13 = x.1 60 13 := fxu _ _ (by unfold sSt; omega)
        obtain ⟨⟨v0, v0'⟩, v1, v2, ⟨v3, v5, vw⟩, v4, v6, -, vv, vk⟩ := gT
        refine ⟨⟨by rw [e' 0 (by omega) (by omega)]; exact v0, v0'⟩, by rw [e' 1 (by omega) (by omega)]; exact v1, by rw [e' 2 (by omega) (by omega)]; exact v2, ⟨by rw [e' 3 (by omega) (by omega)]; exact v3, by rw [e' 5 (by omega) (by omega)]; exact v5, vw⟩, by rw [e' 4 (by omega) (by omega)]; exact v4, by rw [e' 6 (by omega) (by omega)]; exact v6, ⟨?_, fun i p' hp' => ?_⟩, fun p' hp' => ?_, by rw [u13]; exact vk⟩
        · show _ = ((l.eraseIdx J).length : Int)
          rw [bu T 7 (by omega), if_pos ⟨rfl, rfl⟩, iL, List.length_eraseIdx_of_lt hJ]
          omega
        · have hp' : (l.eraseIdx J)[i]? = some p' := hp'
          have hi := gt_lt hp'
          rw [List.length_eraseIdx_of_lt hJ] at hi
          rw [List.getElem?_eraseIdx] at hp'
          rw [u9, bu T _ (by omega), if_neg (fun z => by omega), bu T _ (by omega), if_neg (fun z => by omega), au T _ (by omega), au T _ (by omega)]
          by_cases ci : i < J
          · rw [if_pos ci] at hp'
            rw [if_neg (fun z => by omega), if_neg (fun z => by omega), if_neg (fun z => by omega), if_neg (fun z => by omega)]
            exact ql i p' hp'
          · rw [if_neg ci] at hp'
            rw [if_pos ⟨rfl, by omega, by omega⟩, if_pos ⟨rfl, by omega, by omega⟩]
            have := ql (i + 1) p' hp'
            rw [show (x.1 o 9).toInt.toNat + 2 * i + 2 = (x.1 o 9).toInt.toNat + 2 * (i + 1) by omega, show (x.1 o 9).toInt.toNat + 2 * i + 1 + 2 = (x.1 o 9).toInt.toNat + 2 * (i + 1) + 1 by omega]
            exact this
        · rw [u13] at hp'
          rw [e' _ (by omega) (by push_cast; omega)]; exact vv p' hp'
    intro n
    induction n with
    | zero =>
      intro k K y ek hJK hk1 hk2 hy fy ly gy
      have eK : K = L.toInt.toNat := by omega
      rw [eK] at gy
      refine kg_X5_bringLate_30 hq ho _ _ _ ⟨fun _ => fin y hy fy ly gy, fun c => ?_⟩
      exfalso; rw [t_le] at c; omega
    | succ n ih =>
      intro k K y ek hJK hk1 hk2 hy fy6 ly gy
      refine kg_X5_bringLate_30 hq ho _ _ _ ⟨fun c => fin y hy fy6 ly ?_, fun c => ?_⟩
      · rw [t_le] at c
        have eK : K = L.toInt.toNat := by omega
        rw [eK] at gy; exact gy
      rw [t_le] at c
      have fy : fm (sSt o) x y := fm_tr f6 fy6
      obtain ⟨s9, s8, s3, s6, s10, s20⟩ := gS fy
      have ek1 : (k + 1).toInt = ((K + 1 : Nat) : Int) := by rw [t_add (by rw [k1]; omega) (by rw [k1]; omega), ek]; rfl
      have y7 : rg y o T 7 = rg x o T 7 := by rw [gy T 7 (by omega), if_neg (fun z => by omega)]
      have hy4 := (hy.2.2 T (by rw [s10]; omega)).1.2.2.2.1 (K + 1) (by rw [y7]; push_cast; omega)
      have v1 : rg y o T ((x.1 o 9).toInt.toNat + 2 * (K + 1)) = rg x o T ((x.1 o 9).toInt.toNat + 2 * (K + 1)) := by rw [gy T _ (by omega), if_neg (fun z => by omega)]
      have v2 : rg y o T ((x.1 o 9).toInt.toNat + 2 * (K + 1) + 1) = rg x o T ((x.1 o 9).toInt.toNat + 2 * (K + 1) + 1) := by rw [gy T _ (by omega), if_neg (fun z => by omega)]
      refine kp_lateCell hq ho hy.1 hy.2.1 _ _ et hT6 ek1 (by omega) (kh_lateValue hq ho hy.1 hy.2.1 _ _ et hT6 ek1 (by omega) (kh_setLate hq ho hy (by rw [s3]; exact hw) _ _ _ _ et ek hT6 (by omega) hy4 (fun z hz fz lz gz => ih (k + 1) z ek1 (by omega) (by push_cast; omega) (by push_cast; omega) hz (fm_tr fy6 fz) (lowE_tr hO fy6 ly lz) (fun t' k' hk' => ?_))))
      rw [s8, s9] at gz
      rw [gz t' k' hk', v1, v2]
      by_cases c1 : t' = T ∧ k' = (x.1 o 9).toInt.toNat + 2 * K
      · rw [if_pos c1, if_pos ⟨c1.1, by omega, by omega⟩, c1.2]
        rfl
      · rw [if_neg c1]
        by_cases c2 : t' = T ∧ k' = (x.1 o 9).toInt.toNat + 2 * K + 1
        · rw [if_pos c2, if_pos ⟨c2.1, by omega, by omega⟩, c2.2]
          rfl
        · rw [if_neg c2, gy t' k' hk']
          by_cases c3 : t' = T ∧ (x.1 o 9).toInt.toNat + 2 * J ≤ k' ∧ k' < (x.1 o 9).toInt.toNat + 2 * K
          · rw [if_pos c3, if_pos ⟨c3.1, c3.2.1, by omega⟩]
          · rw [if_neg c3, if_neg (fun z => by omega)]
  refine loop 8 _ x6 ej (Nat.le_refl _) (by omega) (by omega) h6 (fm_rf _ _) (fun _ _ => rfl) (fun t' k' hk' => ?_)
  rw [r6, if_neg (fun z => by omega)]
end KMF
