/-! the class: what acts do to what its machine holds -/
section KMP
variable {G : kG} {q : kP} {d : Nat} {x x0 y z : gd} {o : Nat} {F : Int32 → gd → Prop} {Fv : gd → Prop} {C : gCo} {M : gMa} {h h' : gTq} {t T w : Nat}
theorem upT_2 {h1 h2 : gTq} : upT (upT M T h1) T h2 = upT M T h2 := by
  unfold upT upf
  refine Prod.ext rfl (Prod.ext rfl (funext fun i => ?_))
  show (if i = T then h2 else if i = T then h1 else M.2.2 i) = if i = T then h2 else M.2.2 i
  by_cases c : i = T
  · rw [if_pos c, if_pos c]
  · rw [if_neg c, if_neg c, if_neg c]
theorem upT_at {h1 : gTq} : (upT M T h1).2.2 T = h1 := by
  show upf M.2.2 T h1 T = h1
  unfold upf
  rw [if_pos rfl]
theorem upT_ne {h1 : gTq} (c : ¬ t = T) : (upT M T h1).2.2 t = M.2.2 t := by
  show upf M.2.2 T h1 t = _
  unfold upf
  rw [if_neg c]
theorem upT_id {h1 : gTq} (e : h1 = M.2.2 T) : upT M T h1 = M := by
  unfold upT upf
  refine Prod.ext rfl (Prod.ext rfl (funext fun i => ?_))
  show (if i = T then h1 else M.2.2 i) = M.2.2 i
  by_cases c : i = T
  · rw [if_pos c, e, c]
  · rw [if_neg c]
/-- a field is set -/
theorem kh_seta {S : Nat → Prop} (hq : kV q) (ho : kiM q o) (h : MM x o) {T K : Nat} (t f v : Int32) (et : t.toInt = T) (ef : f.toInt = K) (hT : T < 6) (hK : (K : Int) < (x.1 o 8).toInt) (h0 : K ≠ 0 ∧ K ≠ 2) (h3 : K = 3 → v = 0 ∨ (rg x o T 0 = 1 ∧ sop x (rg x o T 2).toInt.toNat = 7)) (h7 : K = 7 → (0 ≤ v.toInt ∧ v.toInt ≤ 8) ∧ (¬ x.1 o 3 = 1 → v = 0) ∧ ∀ j : Nat, (j : Int) < v.toInt → 0 ≤ (rg x o T ((x.1 o 9).toInt.toNat + 2 * j)).toInt ∧ (rg x o T ((x.1 o 9).toInt.toNat + 2 * j)).toInt < (x.1 60 6).toInt) (h9 : ∀ j : Nat, (j : Int) < (rg x o T 7).toInt → K = (x.1 o 9).toInt.toNat + 2 * j → 0 ≤ v.toInt ∧ v.toInt < (x.1 60 6).toInt) (hF : ∀ y, AR S x y o → fm (sSt o) x y → lowE x y o → (∀ t k : Nat, (k : Int) < (x.1 o 8).toInt → rg y o t k = if t = T ∧ k = K then v else rg x o t k) → Fv y) : KT G q d zk_X5_set 0 [(0, vr o), (1, vi t), (2, vi f), (3, vi v)] [] x (rv Fv) := by
  have hO := kiM_O ho
  obtain ⟨b1, b2, -⟩ := MG_b h.1 h.2.1
  refine kp_set hq ho h.1 h.2.1 _ _ _ et ef hT (by omega) (fun y ey => ?_)
  have gy : ∀ t k : Nat, (k : Int) < (x.1 o 8).toInt → rg y o t k = if t = T ∧ k = K then v else rg x o t k := fun t k hk => rg_set hO h.1 h.2.1 hK hk ey
  refine hF y ⟨MM_put hO h hK ey h0 h3 h7 h9, fm_w (st_f ey) (fun c k q => sSt_M q), fun t k hk => ?_, fun k hk => st_f ey _ _ (by unfold sSt; omega)⟩ (st_f ey) (fun j hj => ?_) gy
  · rw [gy t k (by omega), if_neg (fun q => by omega)]
  · rw [ey, si_get, if_neg (fun z => ?_)]
    have := z.2
    unfold pa at this
    omega
/-- plain fields of a thread change -/
theorem kTq_k (hC : CO x) (hG : MG x o) (hA : TA x o T) (e13 : y.1 60 13 = x.1 60 13) (e9 : y.1 o 9 = x.1 o 9) (A : Nat → Int32) (e : ∀ k : Nat, (k : Int) < (x.1 o 8).toInt → rg y o T k = if k < 7 then A k else rg x o T k) (g : kTq x o C T h) (hl : h'.2.2.2.2.2.2 = h.2.2.2.2.2.2) (a0 : A 0 = Int32.ofNat h'.1 ∧ h'.1 ≤ 3) (a1 : A 1 = Int32.ofNat h'.2.1) (a2 : (A 2).toInt = (h'.2.2.1 : Nat)) (a3 : A 3 = (if h'.2.2.2.1 = 0 then 0 else (stN C h'.2.2.1).2.2.2.2.1 + 1) ∧ A 5 = (if h'.2.2.2.1 = 2 then 1 else 0) ∧ h'.2.2.2.1 ≤ 2 ∧ (¬ h'.2.2.2.1 = 0 → (stN C h'.2.2.1).1 = 7)) (a4 : A 4 = h'.2.2.2.2.1) (a6 : A 6 = h'.2.2.2.2.2.1 + 1) (a9 : h'.1 = 1 ∨ h'.1 = 3 → ((stN C h'.2.2.1).2.1.length : Int) ≤ (x.1 60 13).toInt) : kTq y o C T h' := by
  obtain ⟨b1, b2, b3, b4, b5, b6, b7⟩ := MG_b hC hG
  obtain ⟨-, -, -, -, -, -, ⟨q7, ql⟩, qv, -⟩ := g
  refine ⟨⟨by rw [e 0 (by omega), if_pos (by omega)]; exact a0.1, a0.2⟩, by rw [e 1 (by omega), if_pos (by omega)]; exact a1, by rw [e 2 (by omega), if_pos (by omega)]; exact a2, ⟨by rw [e 3 (by omega), if_pos (by omega)]; exact a3.1, by rw [e 5 (by omega), if_pos (by omega)]; exact a3.2.1, a3.2.2⟩, by rw [e 4 (by omega), if_pos (by omega)]; exact a4, by rw [e 6 (by omega), if_pos (by omega)]; exact a6, ⟨by rw [e 7 (by omega), if_neg (by omega), hl]; exact q7, fun i p hp => ?_⟩, fun p hp => ?_, by rw [e13]; exact a9⟩
  · rw [hl] at hp
    have hi := gt_lt hp
    have := (lt_in hC hG hA (i := i) (by rw [q7]; omega)).2
    rw [e9, e _ (by omega), if_neg (by omega), e _ (by omega), if_neg (by omega)]; exact ql i p hp
  · rw [e13] at hp; rw [e _ (by push_cast; omega), if_neg (by omega), hl]; exact qv p hp
/-- a local is set -/
theorem kTq_l (hC : CO x) (hG : MG x o) (hA : TA x o T) (e13 : y.1 60 13 = x.1 60 13) (e9 : y.1 o 9 = x.1 o 9) {p : Nat} {v : Int32} (hp : (p : Int) < (x.1 60 13).toInt) (e : ∀ k : Nat, (k : Int) < (x.1 o 8).toInt → rg y o T k = if k = 8 + p then v else rg x o T k) (g : kTq x o C T h) : kTq y o C T (h.1, h.2.1, h.2.2.1, h.2.2.2.1, h.2.2.2.2.1, h.2.2.2.2.2.1, h.2.2.2.2.2.2.1, fup h.2.2.2.2.2.2.2 p v) := by
  obtain ⟨b1, b2, b3, b4, b5, b6, b7⟩ := MG_b hC hG
  obtain ⟨⟨q0, q0'⟩, q1, q2, ⟨q3, q5, qw⟩, q4, q6, ⟨q7, ql⟩, qv, qk⟩ := g
  have e' : ∀ k, k < 8 → rg y o T k = rg x o T k := fun k hk => by rw [e k (by omega), if_neg (by omega)]
  refine ⟨⟨by rw [e' 0 (by omega)]; exact q0, q0'⟩, by rw [e' 1 (by omega)]; exact q1, by rw [e' 2 (by omega)]; exact q2, ⟨by rw [e' 3 (by omega)]; exact q3, by rw [e' 5 (by omega)]; exact q5, qw⟩, by rw [e' 4 (by omega)]; exact q4, by rw [e' 6 (by omega)]; exact q6, ⟨by rw [e' 7 (by omega)]; exact q7, fun i p' hp' => ?_⟩, fun p' hp' => ?_, by rw [e13]; exact qk⟩
  · have hi := gt_lt hp'
    have := (lt_in hC hG hA (i := i) (by rw [q7]; exact Int.ofNat_lt.mpr hi)).2
    rw [e9, e _ (by omega), if_neg (by omega), e _ (by omega), if_neg (by omega)]; exact ql i p' hp'
  · rw [e13] at hp'
    rw [e _ (by push_cast; omega)]
    show _ = if p' = p then v else h.2.2.2.2.2.2.2 p'
    by_cases c : p' = p
    · rw [if_pos (by omega), if_pos c]
    · rw [if_neg (by omega), if_neg c]; exact qv p' hp'
theorem kh_setLate (hq : kV q) (ho : kiM q o) (h : MM x o) (hw : x.1 o 3 = 1) {T J : Nat} (t j c v : Int32) (et : t.toInt = T) (ej : j.toInt = J) (hT : T < 6) (hJ : J < 8) (hc : 0 ≤ c.toInt ∧ c.toInt < (x.1 60 6).toInt) (hF : ∀ y, MM y o → fm (sSt o) x y → lowE x y o → (∀ t k : Nat, (k : Int) < (x.1 o 8).toInt → rg y o t k = if t = T ∧ k = (x.1 o 9).toInt.toNat + 2 * J then c else if t = T ∧ k = (x.1 o 9).toInt.toNat + 2 * J + 1 then v else rg x o t k) → Fv y) : KT G q (d + 1) zk_X5_setLate 0 [(0, vr o), (1, vi t), (2, vi j), (3, vi c), (4, vi v)] [] x (rv Fv) := by
  have hO := kiM_O ho
  obtain ⟨b1, b2, b3, b4, b5, -⟩ := MG_b h.1 h.2.1
  have b5 := b5 hw
  obtain ⟨e1, e2, e3⟩ := lt_ix h.1 h.2.1 ej hJ
  refine kg_X5_setLate_0 hq ho _ _ _ _ (kh_seta (S := fun _ => False) hq ho h _ _ _ et e1 hT (by omega) ⟨by omega, by omega⟩ (fun q => by omega) (fun q => by omega) (fun i hi q => hc) (fun y hy fy ly gy => ?_))
  have y9 : y.1 o 9 = x.1 o 9 := fy _ _ (by unfold sSt; omega)
  have y8 : y.1 o 8 = x.1 o 8 := fy _ _ (by unfold sSt; omega)
  rw [y9]
  refine kh_seta (S := fun _ => False) hq ho hy.1 _ _ _ et e2 hT (by rw [y8]; omega) ⟨by omega, by omega⟩ (fun q => by omega) (fun q => by omega) (fun i hi q => by rw [y9] at q; omega) (fun z hz fz lz gz => rv_i (hF z hz.1 (fm_tr fy fz) (lowE_tr hO fy ly lz) (fun t k hk => ?_)))
  rw [gz t k (by rw [y8]; exact hk)]
  by_cases c1 : t = T ∧ k = (x.1 o 9).toInt.toNat + 2 * J + 1
  · rw [if_pos c1, if_neg (fun z => by omega), if_pos c1]
  · rw [if_neg c1, gy t k hk, if_neg c1]
/-- give -/
theorem kh_give {S : Nat → Prop} (hq : kV q) (ho : kiM q o) (hM : MM x o) (hK : CK x C) (g : KMm x o C M) (t l : Int32) {L : Nat} (et : t.toInt = T) (hT : T < 6) (eL : l.toInt = L) (hl : (L : Int) < (x.1 60 9).toInt) (hF : ∀ r y, AR S x y o → ((r = 3 ∧ ¬ (M.2.1 L).1 = T + 1 ∧ KMm y o C M) ∨ (r = 0 ∧ (M.2.1 L).1 = T + 1 ∧ KMm y o C (upL M L (if (M.2.1 L).2 - 1 = 0 then 0 else T + 1, (M.2.1 L).2 - 1)))) → F r y) : KT G q (d + 1) zk_X5_doGive 0 [(0, vr o), (1, vi t), (2, vi l)] [] x (ri F) := by
  have tT : t = Int32.ofNat T := i32_of et
  have l6 := (g.1.2 L hl).2.1
  have hh := hol_t (M.2.1 L).1 (by omega) T hT
  have p30 : ∀ (b : Int32) (n : Nat), b + 1 = Int32.ofNat n → n ≤ 6 → n = (if (M.2.1 L).2 - 1 = 0 then 0 else T + 1) → (M.2.1 L).1 = T + 1 → KT G q (d + 1) zk_X5_doGive 30 [(3, vi ((M.2.1 L).2 - 1))] [vi b, vi l, vr o] x (ri F) := fun b n hb hn en hT1 => kg_X5_doGive_30 hq ho _ _ _ (kh_setLock hq ho hM hK g _ _ _ eL hl hb hn (fun y hy ry gy => ri_i (hF _ y hy (Or.inr ⟨rfl, hT1, by rw [← en]; exact gy⟩))))
  refine kg_X5_doGive_0 hq ho _ _ (kh_holder hq ho hM g _ eL hl ⟨fun c => ?_, fun c => ri_i (hF _ x (AR_rf hM) (Or.inl ⟨rfl, fun z => c ?_, g⟩))⟩)
  · rw [tT] at c
    have hT1 := hh.mp c
    refine kh_often hq ho hM g _ eL hl ⟨fun c0 => p30 _ (T + 1) ?_ (by omega) (by rw [if_neg c0]) hT1, fun c0 => p30 _ 0 (by decide) (by omega) (by rw [if_pos c0]) hT1⟩
    have k1 : (1 : Int32).toInt = 1 := rfl
    exact i32_of (by rw [t_add (by rw [k1]; omega) (by rw [k1]; omega), k1, et]; push_cast; rfl)
  · rw [tT]; exact hh.mpr z
/-- wait -/
theorem kh_wait {S : Nat → Prop} (hq : kV q) (ho : kiM q o) (hM : MM x o) (hK : CK x C) (hN : NC C) (g : KMm x o C M) (t l : Int32) {L : Nat} (et : t.toInt = T) (hT : T < C.2.1.length) (h1 : (M.2.2 T).1 = 1) (hw : (M.2.2 T).2.2.2.1 = 0) (o7 : (stN C (M.2.2 T).2.2.1).1 = 7) (el : l = (stN C (M.2.2 T).2.2.1).2.2.2.2.1) (eL : l.toInt = L) (hl : (L : Int) < (x.1 60 9).toInt) (hF : ∀ r y, AR S x y o → ((r = 4 ∧ ¬ (M.2.1 L).1 = T + 1 ∧ KMm y o C M) ∨ (r = 0 ∧ (M.2.1 L).1 = T + 1 ∧ KMm y o C (upT (upL M L (0, 0)) T ((M.2.2 T).1, (M.2.2 T).2.1, (M.2.2 T).2.2.1, 1, (M.2.1 L).2, (M.2.2 T).2.2.2.2.2)))) → F r y) : KT G q (d + 1) zk_X5_doWait 0 [(0, vr o), (1, vi t), (2, vi l)] [] x (ri F) := by
  have hO := kiM_O ho
  have nT : (x.1 60 10).toInt = C.2.1.length := hK.2.1.1
  have hT6 := MM_6 hM.1 (t := T) (by omega)
  have hA := (hM.2.2 T (by omega)).1
  obtain ⟨b1, b2, b3, b4, -⟩ := MG_b hM.1 hM.2.1
  have gT := g.2 T hT
  obtain ⟨st, s1, s2, s3, s4, s5, kn, ns⟩ := kst_at hM hK hN hT gT
  have tT : t = Int32.ofNat T := i32_of et
  have l6 := (g.1.2 L hl).2.1
  have hh := hol_t (M.2.1 L).1 (by omega) T hT6
  have r0 : rg x o T 0 = 1 := by rw [gT.1.1, h1]; rfl
  have r7 : sop x (rg x o T 2).toInt.toNat = 7 := by rw [s3, s5]; rw [s2] at o7; omega
  have g' := gT
  obtain ⟨⟨q0, q0'⟩, q1, q2, ⟨q3, q5, qw⟩, q4, q6, -, -, qk⟩ := g'
  rw [hw] at q5
  refine kg_X5_doWait_0 hq ho _ _ (kh_holder hq ho hM g _ eL hl ⟨fun c => ?_, fun c => ri_i (hF _ x (AR_rf hM) (Or.inl ⟨rfl, fun z => c (by rw [tT]; exact hh.mpr z), g⟩))⟩)
  rw [tT] at c
  have hT1 := hh.mp c
  refine kh_seta (S := S) hq ho hM _ _ _ et (show (3 : Int32).toInt = ((3 : Nat) : Int) from rfl) hT6 (by omega) (by omega) (fun _ => Or.inr ⟨r0, r7⟩) (fun c => by omega) (fun j _ c => by omega) (fun y hy fy ly gy => ?_)
  obtain ⟨f6, f9, e13, e9, e8, e7, e10⟩ := sM_e hO hy.2.1
  have gy1 : KMm y o C (upT M T ((M.2.2 T).1, (M.2.2 T).2.1, (M.2.2 T).2.2.1, 1, (M.2.2 T).2.2.2.2.1, (M.2.2 T).2.2.2.2.2)) := KMm_T hO hM hK hy.2.1 ly (fun t k ht hk => by rw [gy t k hk, if_neg (fun z => ht z.1)]) g (kTq_k hM.1 hM.2.1 hA e13 e9 (fun k => if k = 3 then l + 1 else rg x o T k) (fun k hk => by
      rw [gy T k hk]
      by_cases c3 : k = 3
      · rw [if_pos ⟨rfl, c3⟩, if_pos (by omega), if_pos c3]
      · rw [if_neg (fun z => c3 z.2), if_neg c3]; split <;> rfl) gT rfl ⟨q0, q0'⟩ q1 q2 ⟨by rw [el]; rfl, q5, by show (1 : Nat) ≤ 2; decide, fun _ => o7⟩ q4 q6 qk)
  have hKy := CK_M hO hK hy.2.1
  have hly : (L : Int) < (y.1 60 9).toInt := by rw [f9]; exact hl
  refine kh_often hq ho hy.1 gy1 _ eL hly (kh_seta (S := S) hq ho hy.1 _ _ _ et (show (4 : Int32).toInt = ((4 : Nat) : Int) from rfl) hT6 (by rw [e8]; omega) (by omega) (fun c => by omega) (fun c => by omega) (fun j _ c => by rw [e9] at c; omega) (fun z hz fz lz gz => ?_))
  obtain ⟨f6', f9', e13', e9', e8', e7', e10'⟩ := sM_e hO hz.2.1
  have hAy := (hy.1.2.2 T (by rw [e10]; omega)).1
  have gy1T := gy1.2 T hT
  rw [upT_at] at gy1T
  have gz1 := KMm_T hO hy.1 hKy hz.2.1 lz (fun t k ht hk => by rw [gz t k hk, if_neg (fun z => ht z.1)]) gy1 (kTq_k (h' := ((M.2.2 T).1, (M.2.2 T).2.1, (M.2.2 T).2.2.1, 1, (M.2.1 L).2, (M.2.2 T).2.2.2.2.2)) hy.1.1 hy.1.2.1 hAy e13' e9' (fun k => if k = 4 then (M.2.1 L).2 else rg y o T k) (fun k hk => by
      rw [gz T k hk]
      by_cases c3 : k = 4
      · rw [if_pos ⟨rfl, c3⟩, if_pos (by omega), if_pos c3]; rfl
      · rw [if_neg (fun z => c3 z.2), if_neg c3]; split <;> rfl) gy1T rfl gy1T.1 gy1T.2.1 gy1T.2.2.1 gy1T.2.2.2.1 rfl gy1T.2.2.2.2.2.1 gy1T.2.2.2.2.2.2.2.2)
  rw [upT_2] at gz1
  have hKz := CK_M hO hKy hz.2.1
  refine kh_setLock hq ho hz.1 hKz gz1 _ _ _ eL (by rw [f9']; exact hly) (n := 0) (by decide) (by omega) (fun v hv rv gv => ri_i (hF _ v (AR_tr (AR_tr hy hz) hv) (Or.inr ⟨rfl, hT1, gv⟩)))
/-- retake -/
theorem kh_retake {S : Nat → Prop} (hq : kV q) (ho : kiM q o) (hM : MM x o) (hK : CK x C) (g : KMm x o C M) (t l : Int32) {L : Nat} (et : t.toInt = T) (hT : T < C.2.1.length) (eL : l.toInt = L) (hl : (L : Int) < (x.1 60 9).toInt) (hF : ∀ y, AR S x y o → KMm y o C (upT (upL M L (T + 1, (M.2.2 T).2.2.2.2.1)) T ((M.2.2 T).1, (M.2.2 T).2.1, (M.2.2 T).2.2.1, 0, 0, (M.2.2 T).2.2.2.2.2)) → F 0 y) : KT G q (d + 1) zk_X5_doRetake 0 [(0, vr o), (1, vi t), (2, vi l)] [] x (ri F) := by
  have hO := kiM_O ho
  have nT : (x.1 60 10).toInt = C.2.1.length := hK.2.1.1
  have hT6 := MM_6 hM.1 (t := T) (by omega)
  have k1 : (1 : Int32).toInt = 1 := rfl
  obtain ⟨b1, b2, b3, b4, -⟩ := MG_b hM.1 hM.2.1
  have gT := g.2 T hT
  refine kg_X5_doRetake_0 hq ho _ _ (kp_get hq ho hM.1 hM.2.1 _ _ et (show (4 : Int32).toInt = ((4 : Nat) : Int) from rfl) hT6 (by omega) (kh_setLock (S := S) hq ho hM hK g _ _ _ eL hl (n := T + 1) (i32_of (by rw [t_add (by rw [k1]; omega) (by rw [k1]; omega), k1, et]; push_cast; rfl)) (by omega) (fun y hy ry gy => ?_)))
  rw [gT.2.2.2.2.1] at gy
  obtain ⟨f6, f9, e13, e9, e8, e7, e10⟩ := sM_e hO hy.2.1
  refine kh_seta (S := S) hq ho hy.1 _ _ _ et (show (3 : Int32).toInt = ((3 : Nat) : Int) from rfl) hT6 (by rw [e8]; omega) (by omega) (fun _ => Or.inl rfl) (fun c => by omega) (fun j _ c => by rw [e9] at c; omega) (fun z hz fz lz gz => ?_)
  obtain ⟨-, -, z13, z9, z8, -, -⟩ := sM_e hO hz.2.1
  refine kh_seta (S := S) hq ho hz.1 _ _ _ et (show (4 : Int32).toInt = ((4 : Nat) : Int) from rfl) hT6 (by rw [z8, e8]; omega) (by omega) (fun c => by omega) (fun c => by omega) (fun j _ c => by rw [z9, e9] at c; omega) (fun v hv fv lv gv => ?_)
  obtain ⟨-, -, v13, v9, v8, -, -⟩ := sM_e hO hv.2.1
  refine kh_seta (S := S) hq ho hv.1 _ _ _ et (show (5 : Int32).toInt = ((5 : Nat) : Int) from rfl) hT6 (by rw [v8, z8, e8]; omega) (by omega) (fun c => by omega) (fun c => by omega) (fun j _ c => by rw [v9, z9, e9] at c; omega) (fun u hu fu lu gu => ri_i (hF u (AR_tr (AR_tr (AR_tr hy hz) hv) hu) ?_))
  have hyu : AR S y u o := AR_tr (AR_tr hz hv) hu
  have hKy := CK_M hO hK hy.2.1
  have hAy := (hy.1.2.2 T (by rw [e10]; omega)).1
  have gyT := gy.2 T hT
  have gyT : kTq y o C T (M.2.2 T) := gyT
  have au : ∀ t k : Nat, (k : Int) < (y.1 o 8).toInt → rg u o t k = if t = T ∧ (k = 3 ∨ k = 4 ∨ k = 5) then 0 else rg y o t k := fun t k hk => by
    rw [gu t k (by rw [v8, z8]; exact hk), gv t k (by rw [z8]; exact hk), gz t k hk]
    by_cases c5 : t = T ∧ k = 5
    · rw [if_pos c5, if_pos ⟨c5.1, Or.inr (Or.inr c5.2)⟩]
    · rw [if_neg c5]
      by_cases c4 : t = T ∧ k = 4
      · rw [if_pos c4, if_pos ⟨c4.1, Or.inr (Or.inl c4.2)⟩]
      · rw [if_neg c4]
        by_cases c3 : t = T ∧ k = 3
        · rw [if_pos c3, if_pos ⟨c3.1, Or.inl c3.2⟩]
        · rw [if_neg c3, if_neg (fun z => by omega)]
  obtain ⟨u6, u9', u13, u9, u8, u7, -⟩ := sM_e hO hyu.2.1
  refine KMm_T hO hy.1 hKy hyu.2.1 (lowE_tr hO (fm_tr fz fv) (lowE_tr hO fz lz lv) lu) (fun t k ht hk => by rw [au t k hk, if_neg (fun z => ht z.1)]) gy (kTq_k hy.1.1 hy.1.2.1 hAy u13 u9 (fun k => if k = 3 ∨ k = 4 ∨ k = 5 then 0 else rg y o T k) (fun k hk => ?_) gyT rfl gyT.1 gyT.2.1 gyT.2.2.1 ⟨rfl, rfl, Nat.zero_le _, fun z => absurd rfl z⟩ rfl gyT.2.2.2.2.2.1 gyT.2.2.2.2.2.2.2.2)
  rw [au T k hk]
  by_cases c3 : k = 3 ∨ k = 4 ∨ k = 5
  · rw [if_pos ⟨rfl, c3⟩, if_pos (by omega), if_pos c3]
  · rw [if_neg (fun z => c3 z.2), if_neg c3]; split <;> rfl
end KMP
