section
/-! the class: what acts do to what its machine holds -/
section KMP
variable {G : kG} {q : kP} {d : Nat} {x x0 y z : gd} {o : Nat} {F : Int32 → gd → Prop} {Fv : gd → Prop} {C : gCo} {M : gMa} {h h' : gTq} {t T w : Nat}
theorem upT_2 {h1 h2 : gTq} : upT (upT M T h1) T h2 = upT M T h2 := by
  unfold upT upf
  refine Prod.ext rfl (Prod.ext rfl (funext fun i => ?_))
  show (if i = T then h2 else if i = T then h1 else M.2.2 i) = if i = T then h2 else M.2.2 i
  by_cases c : i = T
  · rw [if_pos c, if_pos c]
  · rw [if_neg c, if_neg c, if_neg c]
theorem upT_at {h1 : gTq} : (upT M T h1).2.2 T = h1 := by
  show upf M.2.2 T h1 T = h1
  unfold upf
  rw [if_pos rfl]
theorem upT_ne {h1 : gTq} (c : ¬ t = T) : (upT M T h1).2.2 t = M.2.2 t := by
  show upf M.2.2 T h1 t = _
  unfold upf
  rw [if_neg c]
theorem upT_id {h1 : gTq} (e : h1 = M.2.2 T) : upT M T h1 = M := by
  unfold upT upf
  refine Prod.ext rfl (Prod.ext rfl (funext fun i => ?_))
  show (if i = T then h1 else M.2.2 i) = M.2.2 i
  by_cases c : i = T
  · rw [if_pos c, e, c]
  · rw [if_neg c]
/-- a field is set -/
theorem kh_seta {S : Nat → Prop} (hq : kV q) (ho : kiM q o) (h : MM x o) {T K : Nat} (t f v : Int32) (et : t.toInt = T) (ef : f.toInt = K) (hT : T < 6) (hK : (K : Int) < (x.1 o 8).toInt) (h0 : K ≠ 0 ∧ K ≠ 2) (h3 : K = 3 → v = 0 ∨ (rg x o T 0 = 1 ∧ sop x (rg x o T 2).toInt.toNat = 7)) (h7 : K = 7 → (0 ≤ v.toInt ∧ v.toInt ≤ 8) ∧ (¬ x.1 o 3 = 1 → v = 0) ∧ ∀ j : Nat, (j : Int) < v.toInt → 0 ≤ (rg x o T ((x.1 o 9).toInt.toNat + 2 * j)).toInt ∧ (rg x o T ((x.1 o 9).toInt.toNat + 2 * j)).toInt < (x.1 60 6).toInt) (h9 : ∀ j : Nat, (j : Int) < (rg x o T 7).toInt → K = (x.1 o 9).toInt.toNat + 2 * j → 0 ≤ v.toInt ∧ v.toInt < (x.1 60 6).toInt) (hF : ∀ y, AR S x y o → fm (sSt o) x y → lowE x y o → (∀ t k : Nat, (k : Int) < (x.1 o 8).toInt → rg y o t k = if t = T ∧ k = K then v else rg x o t k) → Fv y) : KT G q d zk_X5_set 0 [(0, vr o), (1, vi t), (2, vi f), (3, vi v)] [] x (rv Fv) := by
  have hO := kiM_O ho
  obtain ⟨b1, b2, -⟩ := MG_b h.1 h.2.1
  refine kp_set hq ho h.1 h.2.1 _ _ _ et ef hT (by omega) (fun y ey => ?_)
  have gy : ∀ t k : Nat, (k : Int) < (x.1 o 8).toInt → rg y o t k = if t = T ∧ k = K then v else rg x o t k := fun t k hk => rg_set hO h.1 h.2.1 hK hk ey
  refine hF y ⟨MM_put hO h hK ey h0 h3 h7 h9, fm_w (st_f ey) (fun c k q => sSt_M q), fun t k hk => ?_, fun k hk => st_f ey _ _ (by unfold sSt; omega)⟩ (st_f ey) (fun j hj => ?_) gy
  · rw [gy t k (by omega), if_neg (fun q => by omega)]
  · rw [ey, si_get, if_neg (fun z => ?_)]
    have := z.2
    unfold pa at this
    omega
/-- plain fields of a thread change -/
theorem kTq_k (hC : CO x) (hG : MG x o) (hA : TA x o T) (e13 : y.1 60 13 = x.1 60 13) (e9 : y.1 o 9 = x.1 o 9) (A : Nat → Int32) (e : ∀ k : Nat, (k : Int) < (x.1 o 8).toInt → rg y o T k = if k < 7 then A k else rg x o T k) (g : kTq x o C T h) (hl : h'.2.2.2.2.2.2 = h.2.2.2.2.2.2) (a0 : A 0 = Int32.ofNat h'.1 ∧ h'.1 ≤ 3) (a1 : A 1 = Int32.ofNat h'.2.1) (a2 : (A 2).toInt = (h'.2.2.1 : Nat)) (a3 : A 3 = (if h'.2.2.2.1 = 0 then 0 else (stN C h'.2.2.1).2.2.2.2.1 + 1) ∧ A 5 = (if h'.2.2.2.1 = 2 then 1 else 0) ∧ h'.2.2.2.1 ≤ 2 ∧ (¬ h'.2.2.2.1 = 0 → (stN C h'.2.2.1).1 = 7)) (a4 : A 4 = h'.2.2.2.2.1) (a6 : A 6 = h'.2.2.2.2.2.1 + 1) (a9 : h'.1 = 1 ∨ h'.1 = 3 → ((stN C h'.2.2.1).2.1.length : Int) ≤ (x.1 60 13).toInt) : kTq y o C T h' := by
  obtain ⟨b1, b2, b3, b4, b5, b6, b7⟩ := MG_b hC hG
  obtain ⟨-, -, -, -, -, -, ⟨q7, ql⟩, qv, -⟩ := g
  refine ⟨⟨by rw [e 0 (by omega), if_pos (by omega)]; exact a0.1, a0.2⟩, by rw [e 1 (by omega), if_pos (by omega)]; exact a1, by rw [e 2 (by omega), if_pos (by omega)]; exact a2, ⟨by rw [e 3 (by omega), if_pos (by omega)]; exact a3.1, by rw [e 5 (by omega), if_pos (by omega)]; exact a3.2.1, a3.2.2⟩, by rw [e 4 (by omega), if_pos (by omega)]; exact a4, by rw [e 6 (by omega), if_pos (by omega)]; exact a6, ⟨by rw [e 7 (by omega), if_neg (by omega), hl]; exact q7, fun i p hp => ?_⟩, fun p hp => ?_, by rw [e13]; exact a9⟩
  · rw [hl] at hp
    have hi := gt_lt hp
    have := (lt_in hC hG hA (i := i) (by rw [q7]; omega)).2
    rw [e9, e _ (by omega), if_neg (by omega), e _ (by omega), if_neg (by omega)]; exact ql i p hp
  · rw [e13] at hp; rw [e _ (by push_cast; omega), if_neg (by omega), hl]; exact qv p hp
/-- a local is set -/
theorem kTq_l (hC : CO x) (hG : MG x o) (hA : TA x o T) (e13 : y.1 60 13 = x.1 60 13) (e9 : y.1 o 9 = x.1 o 9) {p : Nat} {v : Int32} (hp : (p : Int) < (x.1 60 13).toInt) (e : ∀ k : Nat, (k : Int) < (x.1 o 8).toInt → rg y o T k = if k = 8 + p then v else rg x o T k) (g : kTq x o C T h) : kTq y o C T (h.1, h.2.1, h.2.2.1, h.2.2.2.1, h.2.2.2.2.1, h.2.2.2.2.2.1, h.2.2.2.2.2.2.1, fup h.2.2.2.2.2.2.2 p v) := by
  obtain ⟨b1, b2, b3, b4, b5, b6, b7⟩ := MG_b hC hG
  obtain ⟨⟨q0, q0'⟩, q1, q2, ⟨q3, q5, qw⟩, q4, q6, ⟨q7, ql⟩, qv, qk⟩ := g
  have e' : ∀ k, k < 8 → rg y o T k = rg x o T k := fun k hk => by rw [e k (by omega), if_neg (by omega)]
  refine ⟨⟨by rw [e' 0 (by omega)]; exact q0, q0'⟩, by rw [e' 1 (by omega)]; exact q1, by rw [e' 2 (by omega)]; exact q2, ⟨by rw [e' 3 (by omega)]; exact q3, by rw [e' 5 (by omega)]; exact q5, qw⟩, by rw [e' 4 (by omega)]; exact q4, by rw [e' 6 (by omega)]; exact q6, ⟨by rw [e' 7 (by omega)]; exact q7, fun i p' hp' => ?_⟩, fun p' hp' => ?_, by rw [e13]; exact qk⟩
  · have hi := gt_lt hp'
    have := (lt_in hC hG hA (i := i) (by rw [q7]; exact Int.ofNat_lt.mpr hi)).2
    rw [e9, e _ (by omega), if_neg (by omega), e _ (by omega), if_neg (by omega)]; exact ql i p' hp'
  · rw [e13] at hp'
    rw [e _ (by push_cast; omega)]
    show _ = if p' = p then v else h.2.2.2.2.2.2.2 p'
    by_cases c : p' = p
    · rw [if_pos (by omega), if_pos c]
    · rw [if_neg (by omega), if_neg c]; exact qv p' hp'
theorem kh_setLate (hq : kV q) (ho : kiM q o) (h : MM x o) (hw : x.1 o 3 = 1) {T J : Nat} (t j c v : Int32) (et : t.toInt = T) (ej : j.toInt = J) (hT : T < 6) (hJ : J < 8) (hc : 0 ≤ c.toInt ∧ c.toInt < (x.1 60 6).toInt) (hF : ∀ y, MM y o → fm (sSt o) x y → lowE x y o → (∀ t k : Nat, (k : Int) < (x.1 o 8).toInt → rg y o t k = if t = T ∧ k = (x.1 o 9).toInt.toNat + 2 * J then c else if t = T ∧ k = (x.1 o 9).toInt.toNat + 2 * J + 1 then v else rg x o t k) → Fv y) : KT G q (d + 1) zk_X5_setLate 0 [(0, vr o), (1, vi t), (2, vi j), (3, vi c), (4, vi v)] [] x (rv Fv) := by
  have hO := kiM_O ho
  obtain ⟨b1, b2, b3, b4, b5, -⟩ := MG_b h.1 h.2.1
  have b5 := b5 hw
  obtain ⟨e1, e2, e3⟩ := lt_ix h.1 h.2.1 ej hJ
  refine kg_X5_setLate_0 hq ho _ _ _ _ (kh_seta (S := fun _ => False) hq ho h _ _ _ et e1 hT (by omega) ⟨by omega, by omega⟩ (fun q => by omega) (fun q => by omega) (fun i hi q => hc) (fun y hy fy ly gy => ?_))
  have y9 : y.1 o 9 = x.1 o 9 := fy _ _ (by unfold sSt; omega)
  have y8 : y.1 o 8 = x.1 o 8 := fy _ _ (by unfold sSt; omega)
  rw [y9]
  refine kh_seta (S := fun _ => False) hq ho hy.1 _ _ _ et e2 hT (by rw [y8]; omega) ⟨by omega, by omega⟩ (fun q => by omega) (fun q => by omega) (fun i hi q => by rw [y9] at q; omega) (fun z hz fz lz gz => rv_i (hF z hz.1 (fm_tr fy fz) (lowE_tr hO fy ly lz) (fun t k hk => ?_)))
  rw [gz t k (by rw [y8]; exact hk)]
  by_cases c1 : t = T ∧ k = (x.1 o 9).toInt.toNat + 2 * J + 1
  · rw [if_pos c1, if_neg (fun z => by omega), if_pos c1]
  · rw [if_neg c1, gy t k hk, if_neg c1]
/-- give -/
theorem kh_give {S : Nat → Prop} (hq : kV q) (ho : kiM q o) (hM : MM x o) (hK : CK x C) (g : KMm x o C M) (t l : Int32) {L : Nat} (et : t.toInt = T) (hT : T < 6) (eL : l.toInt = L) (hl : (L : Int) < (x.1 60 9).toInt) (hF : ∀ r y, AR S x y o → ((r = 3 ∧ ¬ (M.2.1 L).1 = T + 1 ∧ KMm y o C M) ∨ (r = 0 ∧ (M.2.1 L).1 = T + 1 ∧ KMm y o C (upL M L (if (M.2.1 L).2 - 1 = 0 then 0 else T + 1, (M.2.1 L).2 - 1)))) → F r y) : KT G q (d + 1) zk_X5_doGive 0 [(0, vr o), (1, vi t), (2, vi l)] [] x (ri F) := by
  have tT : t = Int32.ofNat T := i32_of et
  have l6 := (g.1.2 L hl).2.1
  have hh := hol_t (M.2.1 L).1 (by omega) T hT
  have p30 : ∀ (b : Int32) (n : Nat), b + 1 = Int32.ofNat n → n ≤ 6 → n = (if (M.2.1 L).2 - 1 = 0 then 0 else T + 1) → (M.2.1 L).1 = T + 1 → KT G q (d + 1) zk_X5_doGive 30 [(3, vi ((M.2.1 L).2 - 1))] [vi b, vi l, vr o] x (ri F) := fun b n hb hn en hT1 => kg_X5_doGive_30 hq ho _ _ _ (kh_setLock hq ho hM hK g _ _ _ eL hl hb hn (fun y hy ry gy => ri_i (hF _ y hy (Or.inr ⟨rfl, hT1, by rw [← en]; exact gy⟩))))
  refine kg_X5_doGive_0 hq ho _ _ (kh_holder hq ho hM g _ eL hl ⟨fun c => ?_, fun c => ri_i (hF _ x (AR_rf hM) (Or.inl ⟨rfl, fun z => c ?_, g⟩))⟩)
  · rw [tT] at c
    have hT1 := hh.mp c
    refine kh_often hq ho hM g _ eL hl ⟨fun c0 => p30 _ (T + 1) ?_ (by omega) (by rw [if_neg c0]) hT1, fun c0 => p30 _ 0 (by decide) (by omega) (by rw [if_pos c0]) hT1⟩
    have k1 : (1 : Int32).toInt = 1 := rfl
    exact i32_of (by rw [t_add (by rw [k1]; omega) (by rw [k1]; omega), k1, et]; push_cast; rfl)
  · rw [tT]; exact hh.mpr z
/-- wait -/
theorem kh_wait {S : Nat → Prop} (hq : kV q) (ho : kiM q o) (hM : MM x o) (hK : CK x C) (hN : NC C) (g : KMm x o C M) (t l : Int32) {L : Nat} (et : t.toInt = T) (hT : T < C.2.1.length) (h1 : (M.2.2 T).1 = 1) (hw : (M.2.2 T).2.2.2.1 = 0) (o7 : (stN C (M.2.2 T).2.2.1).1 = 7) (el : l = (stN C (M.2.2 T).2.2.1).2.2.2.2.1) (eL : l.toInt = L) (hl : (L : Int) < (x.1 60 9).toInt) (hF : ∀ r y, AR S x y o → ((r = 4 ∧ ¬ (M.2.1 L).1 = T + 1 ∧ KMm y o C M) ∨ (r = 0 ∧ (M.2.1 L).1 = T + 1 ∧ KMm y o C (upT (upL M L (0, 0)) T ((M.2.2 T).1, (M.2.2 T).2.1, (M.2.2 T).2.2.1, 1, (M.2.1 L).2, (M.2.2 T).2.2.2.2.2)))) → F r y) : KT G q (d + 1) zk_X5_doWait 0 [(0, vr o), (1, vi t), (2, vi l)] [] x (ri F) := by
  have hO := kiM_O ho
  have nT : (x.1 60 10).toInt = C.2.1.length := hK.2.1.1
  have hT6 := MM_6 hM.1 (t := T) (by omega)
  have hA := (hM.2.2 T (by omega)).1
  obtain ⟨b1, b2, b3, b4, -⟩ := MG_b hM.1 hM.2.1
  have gT := g.2 T hT
  obtain ⟨st, s1, s2, s3, s4, s5, kn, ns⟩ := kst_at hM hK hN hT gT
  have tT : t = Int32.ofNat T := i32_of et
  have l6 := (g.1.2 L hl).2.1
  have hh := hol_t (M.2.1 L).1 (by omega) T hT6
  have r0 : rg x o T 0 = 1 := by rw [gT.1.1, h1]; rfl
  have r7 : sop x (rg x o T 2).toInt.toNat = 7 := by rw [s3, s5]; rw [s2] at o7; omega
  have g' := gT
  obtain ⟨⟨q0, q0'⟩, q1, q2, ⟨q3, q5, qw⟩, q4, q6, -, -, qk⟩ := g'
  rw [hw] at q5
  refine kg_X5_doWait_0 hq ho _ _ (kh_holder hq ho hM g _ eL hl ⟨fun c => ?_, fun c => ri_i (hF _ x (AR_rf hM) (Or.inl ⟨rfl, fun z => c (by rw [tT]; exact hh.mpr z), g⟩))⟩)
  rw [tT] at c
  have hT1 := hh.mp c
  refine kh_seta (S := S) hq ho hM _ _ _ et (show (3 : Int32).toInt = ((3 : Nat) : Int) from rfl) hT6 (by omega) (by omega) (fun _ => Or.inr ⟨r0, r7⟩) (fun c => by omega) (fun j _ c => by omega) (fun y hy fy ly gy => ?_)
  obtain ⟨f6, f9, e13, e9, e8, e7, e10⟩ := sM_e hO hy.2.1
  have gy1 : KMm y o C (upT M T ((M.2.2 T).1, (M.2.2 T).2.1, (M.2.2 T).2.2.1, 1, (M.2.2 T).2.2.2.2.1, (M.2.2 T).2.2.2.2.2)) := KMm_T hO hM hK hy.2.1 ly (fun t k ht hk => by rw [gy t k hk, if_neg (fun z => ht z.1)]) g (kTq_k hM.1 hM.2.1 hA e13 e9 (fun k => if k = 3 then l + 1 else rg x o T k) (fun k hk => by
      rw [gy T k hk]
      by_cases c3 : k = 3
      · rw [if_pos ⟨rfl, c3⟩, if_pos (by omega), if_pos c3]
      · rw [if_neg (fun z => c3 z.2), if_neg c3]; split <;> rfl) gT rfl ⟨q0, q0'⟩ q1 q2 ⟨by rw [el]; rfl, q5, by show (1 : Nat) ≤ 2; decide, fun _ => o7⟩ q4 q6 qk)
  have hKy := CK_M hO hK hy.2.1
  have hly : (L : Int) < (y.1 60 9).toInt := by rw [f9]; exact hl
  refine kh_often hq ho hy.1 gy1 _ eL hly (kh_seta (S := S) hq ho hy.1 _ _ _ et (show (4 : Int32).toInt = ((4 : Nat) : Int) from rfl) hT6 (by rw [e8]; omega) (by omega) (fun c => by omega) (fun c => by omega) (fun j _ c => by rw [e9] at c; omega) (fun z hz fz lz gz => ?_))
  obtain ⟨f6', f9', e13', e9', e8', e7', e10'⟩ := sM_e hO hz.2.1
  have hAy := (hy.1.2.2 T (by rw [e10]; omega)).1
  have gy1T := gy1.2 T hT
  rw [upT_at] at gy1T
  have gz1 := KMm_T hO hy.1 hKy hz.2.1 lz (fun t k ht hk => by rw [gz t k hk, if_neg (fun z => ht z.1)]) gy1 (kTq_k (h' := ((M.2.2 T).1, (M.2.2 T).2.1, (M.2.2 T).2.2.1, 1, (M.2.1 L).2, (M.2.2 T).2.2.2.2.2)) hy.1.1 hy.1.2.1 hAy e13' e9' (fun k => if k = 4 then (M.2.1 L).2 else rg y o T k) (fun k hk => by
      rw [gz T k hk]
      by_cases c3 : k = 4
      · rw [if_pos ⟨rfl, c3⟩, if_pos (by omega), if_pos c3]; rfl
      · rw [if_neg (fun z => c3 z.2), if_neg c3]; split <;> rfl) gy1T rfl gy1T.1 gy1T.2.1 gy1T.2.2.1 gy1T.2.2.2.1 rfl gy1T.2.2.2.2.2.1 gy1T.2.2.2.2.2.2.2.2)
  rw [upT_2] at gz1
  have hKz := CK_M hO hKy hz.2.1
  refine kh_setLock hq ho hz.1 hKz gz1 _ _ _ eL (by rw [f9']; exact hly) (n := 0) (by decide) (by omega) (fun v hv rv gv => ri_i (hF _ v (AR_tr (AR_tr hy hz) hv) (Or.inr ⟨rfl, hT1, gv⟩)))
/-- retake -/
theorem kh_retake {S : Nat → Prop} (hq : kV q) (ho : kiM q o) (hM : MM x o) (hK : CK x C) (g : KMm x o C M) (t l : Int32) {L : Nat} (et : t.toInt = T) (hT : T < C.2.1.length) (eL : l.toInt = L) (hl : (L : Int) < (x.1 60 9).toInt) (hF : ∀ y, AR S x y o → KMm y o C (upT (upL M L (T + 1, (M.2.2 T).2.2.2.2.1)) T ((M.2.2 T).1, (M.2.2 T).2.1, (M.2.2 T).2.2.1, 0, 0, (M.2.2 T).2.2.2.2.2)) → F 0 y) : KT G q (d + 1) zk_X5_doRetake 0 [(0, vr o), (1, vi t), (2, vi l)] [] x (ri F) := by
  have hO := kiM_O ho
  have nT : (x.1 60 10).toInt = C.2.1.length := hK.2.1.1
  have hT6 := MM_6 hM.1 (t := T) (by omega)
  have k1 : (1 : Int32).toInt = 1 := rfl
  obtain ⟨b1, b2, b3, b4, -⟩ := MG_b hM.1 hM.2.1
  have gT := g.2 T hT
  refine kg_X5_doRetake_0 hq ho _ _ (kp_get hq ho hM.1 hM.2.1 _ _ et (show (4 : Int32).toInt = ((4 : Nat) : Int) from rfl) hT6 (by omega) (kh_setLock (S := S) hq ho hM hK g _ _ _ eL hl (n := T + 1) (i32_of (by rw [t_add (by rw [k1]; omega) (by rw [k1]; omega), k1, et]; push_cast; rfl)) (by omega) (fun y hy ry gy => ?_)))
  rw [gT.2.2.2.2.1] at gy
  obtain ⟨f6, f9, e13, e9, e8, e7, e10⟩ := sM_e hO hy.2.1
  refine kh_seta (S := S) hq ho hy.1 _ _ _ et (show (3 : Int32).toInt = ((3 : Nat) : Int) from rfl) hT6 (by rw [e8]; omega) (by omega) (fun _ => Or.inl rfl) (fun c => by omega) (fun j _ c => by rw [e9] at c; omega) (fun z hz fz lz gz => ?_)
  obtain ⟨-, -, z13, z9, z8, -, -⟩ := sM_e hO hz.2.1
  refine kh_seta (S := S) hq ho hz.1 _ _ _ et (show (4 : Int32).toInt = ((4 : Nat) : Int) from rfl) hT6 (by rw [z8, e8]; omega) (by omega) (fun c => by omega) (fun c => by omega) (fun j _ c => by rw [z9, e9] at c; omega) (fun v hv fv lv gv => ?_)
  obtain ⟨-, -, v13, v9, v8, -, -⟩ := sM_e hO hv.2.1
  refine kh_seta (S := S) hq ho hv.1 _ _ _ et (show (5 : Int32).toInt = ((5 : Nat) : Int) from rfl) hT6 (by rw [v8, z8, e8]; omega) (by omega) (fun c => by omega) (fun c => by omega) (fun j _ c => by rw [v9, z9, e9] at c; omega) (fun u hu fu lu gu => ri_i (hF u (AR_tr (AR_tr (AR_tr hy hz) hv) hu) ?_))
  have hyu : AR S y u o := AR_tr (AR_tr hz hv) hu
  have hKy := CK_M hO hK hy.2.1
  have hAy := (hy.1.2.2 T (by rw [e10]; omega)).1
  have gyT := gy.2 T hT
  have gyT : kTq y o C T (M.2.2 T) := gyT
  have au : ∀ t k : Nat, (k : Int) < (y.1 o 8).toInt → rg u o t k = if t = T ∧ (k = 3 ∨ k = 4 ∨ k = 5) then 0 else rg y o t k := fun t k hk => by
    rw [gu t k (by rw [v8, z8]; exact hk), gv t k (by rw [z8]; exact hk), gz t k hk]
    by_cases c5 : t = T ∧ k = 5
    · rw [if_pos c5, if_pos ⟨c5.1, Or.inr (Or.inr c5.2)⟩]
    · rw [if_neg c5]
      by_cases c4 : t = T ∧ k = 4
      · rw [if_pos c4, if_pos ⟨c4.1, Or.inr (Or.inl c4.2)⟩]
      · rw [if_neg c4]
        by_cases c3 : t = T ∧ k = 3
        · rw [if_pos c3, if_pos ⟨c3.1, Or.inl c3.2⟩]
        · rw [if_neg c3, if_neg (fun z => by omega)]
  obtain ⟨u6, u9', u13, u9, u8, u7, -⟩ := sM_e hO hyu.2.1
  refine KMm_T hO hy.1 hKy hyu.2.1 (lowE_tr hO (fm_tr fz fv) (lowE_tr hO fz lz lv) lu) (fun t k ht hk => by rw [au t k hk, if_neg (fun z => ht z.1)]) gy (kTq_k hy.1.1 hy.1.2.1 hAy u13 u9 (fun k => if k = 3 ∨ k = 4 ∨ k = 5 then 0 else rg y o T k) (fun k hk => ?_) gyT rfl gyT.1 gyT.2.1 gyT.2.2.1 ⟨rfl, rfl, Nat.zero_le _, fun z => absurd rfl z⟩ rfl gyT.2.2.2.2.2.1 gyT.2.2.2.2.2.2.2.2)
  rw [au T k hk]
  by_cases c3 : k = 3 ∨ k = 4 ∨ k = 5
  · rw [if_pos ⟨rfl, c3⟩, if_pos (by omega), if_pos c3]
  · rw [if_neg (fun z => c3 z.2), if_neg c3]; split <;> rfl
end KMP
end
section
/-! the class: what is told of an act -/
def KDb (v : Int32) (P : Nat → Bool) : Prop := ∀ u, u < 6 → ((v >>> (Int32.ofNat u &&& 31)) &&& 1 = 1 ↔ P u = true)
def KDd (y : gd) (o : Nat) (e : gDe) : Prop := y.1 (o + 20) 0 = Int32.ofNat e.1 ∧ y.1 (o + 20) 1 = Int32.ofNat e.2.1 ∧ y.1 (o + 20) 2 = e.2.2.1 ∧ y.1 (o + 20) 3 = e.2.2.2.1 ∧ y.1 (o + 20) 4 = e.2.2.2.2.1 ∧ y.1 (o + 20) 5 = (if e.2.2.2.2.2.1 = true then 1 else 0) ∧ KDb (y.1 (o + 20) 6) e.2.2.2.2.2.2
def KDs (y : gd) (o : Nat) : List gDe → Prop
  | [] => y.1 (o + 20) 0 = -1
  | e :: _ => KDd y o e ∧ e.1 < 6
/-- of an act that is being done -/
def KD4 (y : gd) (o : Nat) (C : gCo) (w : Nat) (M : gMa) (T : Nat) (wk : Option Nat) : Prop := y.1 (o + 20) 2 = (lkM C w M T).2.1 ∧ y.1 (o + 20) 3 = dRd M T (soM C (M.2.2 T)) (lkM C w M T) ∧ y.1 (o + 20) 4 = dWr M (soM C (M.2.2 T)) (lkM C w M T) ∧ KDb (y.1 (o + 20) 6) (dWk C M T wk)
abbrev S234 : Nat → Prop := fun k => k = 2 ∨ k = 3 ∨ k = 4
section KDE
variable {G : kG} {q : kP} {d : Nat} {x y z : gd} {o : Nat} {Fv : gd → Prop} {C : gCo} {M : gMa} {w T s : Nat} {wk : Option Nat} {L : Nat × Int32 × Int32 × Int32}
theorem kp_deedClear9 (hq : kV q) (hd : kiD q o) (a b c : Int32) (h : ∀ y, fm (fun c k => c = o) x y → y.1 o 0 = a → y.1 o 1 = b → y.1 o 2 = c → y.1 o 5 = 0 → (y.1 o 3 = 0 ∧ y.1 o 4 = 0 ∧ y.1 o 6 = 0) → Fv y) : KT G q d zk_X1_clear 0 [(0, vr o), (1, vi a), (2, vi b), (3, vi c)] [] x (rv Fv) := by
  refine kg_X1_clear_0 hq hd _ _ _ (fun x1 e1 x2 e2 x3 e3 x4 e4 x5 e5 x6 e6 z ez => rv_i (h z ?_ ?_ ?_ ?_ ?_ ⟨?_, ?_, ?_⟩))
  · rw [ez, e6, e5, e4, e3, e2, e1]; exact fm_si (fm_si (fm_si (fm_si (fm_si (fm_si (fm_si (fm_rf _ _) rfl) rfl) rfl) rfl) rfl) rfl) rfl
  all_goals (rw [ez, e6, e5, e4, e3, e2, e1]; (simp only [si_get, sfl_get, Nat.reduceEqDiff, eq_self, and_false, false_and, and_true, true_and, if_true, if_false, reduceIte, reduceCtorEq]))
theorem KDb_0 {P : Nat → Bool} (h : ∀ u, ¬ P u = true) : KDb 0 P := fun u hu => by
  rw [km_0 u (by omega)]
  exact ⟨fun z => absurd z (by decide), fun z => absurd z (h u)⟩
theorem dk_n (h : ¬ soM C (M.2.2 T) = 8) (u : Nat) : ¬ dWk C M T wk u = true := fun z => h (dk_i.mp z).2.1
theorem dk_h (h : ¬ (M.2.1 (obM C (M.2.2 T).2.2.1)).1 = T + 1) (u : Nat) : ¬ dWk C M T wk u = true := fun z => h (dk_i.mp z).2.2.1
theorem lkI_m (h : ¬ (lkI C M T).1 = 0) : (lkI C M T).2 = -1 := by
  unfold lkI at h ⊢
  split
  · rename_i h9; rw [h9] at h; exact absurd rfl h
  · rename_i Q h9
    rw [h9] at h
    simp only at h
    split
    · rfl
    · rename_i v h8
      rw [h8] at h
      simp only at h
      split
      · rfl
      · rename_i h7; rw [if_neg h7] at h; exact absurd rfl h
/-- what an exchange writes is what stands there then -/
theorem dw_ef (h : L.1 = 0) (hs : s = 2 ∨ s = 3 ∨ s = 4) : dWr M s L = (efM C w M T s L.2.1.toNatClampNeg L.2.2.1 L.2.2.2 wk).1.1 L.2.1.toNatClampNeg := by
  rcases hs with e | e | e
  · rw [e, ef_2, dw_e h (by omega)]
    show _ = upf M.1 _ _ _
    rw [upf_eq]
  · rw [e, ef_3, dw_3 h]
    show _ = upf M.1 _ _ _
    rw [upf_eq]
  · rw [e, ef_4, dw_4 h]
    show _ = upf M.1 _ _ _
    rw [upf_eq]
end KDE
end
section
/-! the class: wake, call and back -/
/-- those below k that are woken -/
def wkU (M : gMa) (k : Nat) (P : Nat → Bool) : gMa := (M.1, M.2.1, fun o => if o < k ∧ P o = true then ((M.2.2 o).1, (M.2.2 o).2.1, (M.2.2 o).2.2.1, 2, (M.2.2 o).2.2.2.2) else M.2.2 o)
/-- a thread with other locals -/
def wLv (h : gTq) (lv : Nat → Int32) : gTq := (h.1, h.2.1, h.2.2.1, h.2.2.2.1, h.2.2.2.2.1, h.2.2.2.2.2.1, h.2.2.2.2.2.2.1, lv)
section KMW
variable {G : kG} {q : kP} {d : Nat} {x x0 y z : gd} {o : Nat} {F : Int32 → gd → Prop} {Fv : gd → Prop} {C : gCo} {M : gMa} {h h' : gTq} {t T w k : Nat} {P : Nat → Bool}
theorem wkU_0 : wkU M 0 P = M := by
  unfold wkU
  refine Prod.ext rfl (Prod.ext rfl (funext fun i => ?_))
  show (if i < 0 ∧ P i = true then (((M.2.2 i).1, (M.2.2 i).2.1, (M.2.2 i).2.2.1, 2, (M.2.2 i).2.2.2.2) : gTq) else M.2.2 i) = M.2.2 i
  rw [if_neg (fun z => absurd z.1 (Nat.not_lt_zero _))]
theorem wkU_no (c : ¬ P k = true) : wkU M (k + 1) P = wkU M k P := by
  unfold wkU
  refine Prod.ext rfl (Prod.ext rfl (funext fun i => ?_))
  show (if i < k + 1 ∧ P i = true then _ else M.2.2 i) = if i < k ∧ P i = true then _ else M.2.2 i
  by_cases c1 : i < k ∧ P i = true
  · rw [if_pos c1, if_pos ⟨by omega, c1.2⟩]
  · rw [if_neg c1, if_neg (fun z => c1 ⟨?_, z.2⟩)]
    have : ¬ i = k := fun e => c (by rw [← e]; exact z.2)
    omega
theorem wkU_yes (c : P k = true) : wkU M (k + 1) P = upT (wkU M k P) k ((M.2.2 k).1, (M.2.2 k).2.1, (M.2.2 k).2.2.1, 2, (M.2.2 k).2.2.2.2) := by
  unfold wkU upT upf
  refine Prod.ext rfl (Prod.ext rfl (funext fun i => ?_))
  show (if i < k + 1 ∧ P i = true then _ else M.2.2 i) = if i = k then _ else if i < k ∧ P i = true then _ else M.2.2 i
  by_cases c0 : i = k
  · rw [if_pos c0, if_pos ⟨by omega, by rw [c0]; exact c⟩, c0]
  · rw [if_neg c0]
    by_cases c1 : i < k ∧ P i = true
    · rw [if_pos c1, if_pos ⟨by omega, c1.2⟩]
    · rw [if_neg c1, if_neg (fun z => c1 ⟨by omega, z.2⟩)]
theorem wkU_at : (wkU M k P).2.2 k = M.2.2 k := by
  show (if k < k ∧ P k = true then _ else M.2.2 k) = _
  rw [if_neg (fun z => absurd z.1 (Nat.lt_irrefl _))]
theorem kh_wake {S : Nat → Prop} (hS : S 6) (hq : kV q) (ho : kiM q o) (hM : MM x o) (hK : CK x C) (hN : NC C) (g : KMm x o C M) (t l a u : Int32) {L : Nat} (et : t.toInt = T) (hT : T < C.2.1.length) (eL : l.toInt = L) (hl : (L : Int) < (x.1 60 9).toInt) (all : Bool) (ha : a = 0 ↔ all = false) (wk : Option Nat) (hu0 : wk = none → u = -1) (hu1 : ∀ k, wk = some k → u = Int32.ofNat k ∧ k ∈ waM C M L) (hF : ∀ r y, AR S x y o → (¬ r = 0 → y.1 (o + 20) 6 = x.1 (o + 20) 6) → (r = 0 → ∀ k, k < 6 → ((y.1 (o + 20) 6 >>> (Int32.ofNat k &&& 31)) &&& 1 = 1 ↔ (k < C.2.1.length ∧ ((M.2.2 k).2.2.2.1 == 1 && (obM C (M.2.2 k).2.2.1 == L && (all || wk == some k))) = true))) → ((r = 4 ∧ ¬ (M.2.1 L).1 = T + 1 ∧ KMm y o C M) ∨ (r = 0 ∧ (M.2.1 L).1 = T + 1 ∧ KMm y o C (wkU M C.2.1.length (fun o => (M.2.2 o).2.2.2.1 == 1 && (obM C (M.2.2 o).2.2.1 == L && (all || wk == some o)))))) → F r y) : KT G q (d + 2) zk_X5_doWake 0 [(0, vr o), (1, vi t), (2, vi l), (3, vi a), (4, vi u)] [] x (ri F) := by
  have hO := kiM_O ho
  have nT : (x.1 60 10).toInt = C.2.1.length := hK.2.1.1
  have hT6 := MM_6 hM.1 (t := T) (by omega)
  have t6 := hM.1.1.2.2.1
  obtain ⟨b1, b2, b3, b4, -⟩ := MG_b hM.1 hM.2.1
  have tT : t = Int32.ofNat T := i32_of et
  have l6 := (g.1.2 L hl).2.1
  have hh := hol_t (M.2.1 L).1 (by omega) T hT6
  obtain ⟨P, eP⟩ : ∃ P : Nat → Bool, P = fun o => (M.2.2 o).2.2.2.1 == 1 && (obM C (M.2.2 o).2.2.1 == L && (all || wk == some o)) := ⟨_, rfl⟩
  have hF : ∀ r y, AR S x y o → (¬ r = 0 → y.1 (o + 20) 6 = x.1 (o + 20) 6) → (r = 0 → ∀ k, k < 6 → ((y.1 (o + 20) 6 >>> (Int32.ofNat k &&& 31)) &&& 1 = 1 ↔ (k < C.2.1.length ∧ P k = true))) → ((r = 4 ∧ ¬ (M.2.1 L).1 = T + 1 ∧ KMm y o C M) ∨ (r = 0 ∧ (M.2.1 L).1 = T + 1 ∧ KMm y o C (wkU M C.2.1.length P))) → F r y := by
    rw [eP]; exact hF
  have Pi : ∀ k, P k = true ↔ (M.2.2 k).2.2.2.1 = 1 ∧ obM C (M.2.2 k).2.2.1 = L ∧ (all = true ∨ wk = some k) := fun k => by
    rw [eP]
    show ((M.2.2 k).2.2.2.1 == 1 && (obM C (M.2.2 k).2.2.1 == L && (all || wk == some k))) = true ↔ _
    rw [Bool.and_eq_true, Bool.and_eq_true, Bool.or_eq_true, beq_iff_eq, beq_iff_eq, beq_iff_eq]
  have wi : ∀ k, k ∈ waM C M L ↔ k < C.2.1.length ∧ (M.2.2 k).2.2.2.1 = 1 ∧ obM C (M.2.2 k).2.2.1 = L := fun k => by
    unfold waM
    rw [List.mem_filter, List.mem_range, Bool.and_eq_true, beq_iff_eq, beq_iff_eq]
  have w8 : ∀ s ∈ (waM C M L).reverse, s < 8 := fun s hs => by
    have := ((wi s).mp (List.mem_reverse.mp hs)).1
    omega
  have loop : ∀ (W : Int32), (∀ k, k < 6 → ((W >>> (Int32.ofNat k &&& 31)) &&& 1 = 1 ↔ (k < C.2.1.length ∧ P k = true))) → ∀ (n k : Nat) (i : Int32) (y : gd), i.toInt = k → k ≤ C.2.1.length → (x.1 60 10).toInt - k ≤ n → AR S x y o → y.1 (o + 20) 6 = W → KMm y o C (wkU M k P) → (M.2.1 L).1 = T + 1 → KT G q (d + 2) zk_X5_doWake 47 [(0, vr o), (5, vi i)] [] y (ri F) := by
    intro W hW n
    induction n with
    | zero =>
      intro k i y ei hk hn hy y6 gy hT1
      have ek : k = C.2.1.length := by omega
      refine kg_X5_doWake_47 hq ho _ ⟨fun _ => ri_i (hF _ y hy (fun z => absurd rfl z) (fun _ => by rw [y6]; exact hW) (Or.inr ⟨rfl, hT1, by rw [← ek]; exact gy⟩)), fun c => ?_⟩
      exfalso; rw [(AR_9 hO hy).2.1, t_le] at c; omega
    | succ n ih =>
      intro k i y ei hk hn hy y6 gy hT1
      refine kg_X5_doWake_47 hq ho _ ⟨fun c => ?_, fun c => ?_⟩
      · rw [(AR_9 hO hy).2.1, t_le] at c
        have ek : k = C.2.1.length := by omega
        exact ri_i (hF _ y hy (fun z => absurd rfl z) (fun _ => by rw [y6]; exact hW) (Or.inr ⟨rfl, hT1, by rw [← ek]; exact gy⟩))
      rw [(AR_9 hO hy).2.1, t_le] at c
      have e1 : (i + 1).toInt = ((k + 1 : Nat) : Int) := by rw [t_add (by show _ ≤ _ + (1 : Int); omega) (by show _ + (1 : Int) ≤ _; omega), ei]; rfl
      have hk' : k < C.2.1.length := by omega
      have ii : i = Int32.ofNat k := i32_of ei
      have bit := hW k (by omega)
      rw [y6, ii]
      rw [ii] at e1
      refine ⟨fun c1 => ih (k + 1) _ y e1 (by omega) (by push_cast; omega) hy y6 (by rw [wkU_no (fun z => c1 (bit.mpr ⟨hk', z⟩))]; exact gy) hT1, fun c1 => ?_⟩
      have hP := (bit.mp c1).2
      obtain ⟨p1, p2, -⟩ := (Pi k).mp hP
      obtain ⟨f6, f9, e13, e9, e8, e7, e10⟩ := sM_e hO hy.2.1
      refine kh_seta (S := S) hq ho hy.1 _ _ _ (by rw [← ii]; exact ei) (show (5 : Int32).toInt = ((5 : Nat) : Int) from rfl) (by omega) (by rw [e8]; omega) (by omega) (fun c => by omega) (fun c => by omega) (fun j hj c => by rw [e9] at c; omega) (fun z hz fz lz gz => ih (k + 1) _ z e1 (by omega) (by push_cast; omega) (AR_tr hy hz) (by rw [fz _ _ (by unfold sSt; omega)]; exact y6) ?_ hT1)
      have hKy := CK_M hO hK hy.2.1
      have hAy := (hy.1.2.2 k (by rw [e10]; omega)).1
      have gk := gy.2 k hk'
      rw [wkU_at] at gk
      obtain ⟨-, -, z13, z9, z8, -, -⟩ := sM_e hO hz.2.1
      rw [wkU_yes hP]
      obtain ⟨w3, w5, w2, w7⟩ := gk.2.2.2.1
      refine KMm_T hO hy.1 hKy hz.2.1 lz (fun t k' ht hk2 => by rw [gz t k' hk2, if_neg (fun z => ht z.1)]) gy (kTq_k hy.1.1 hy.1.2.1 hAy z13 z9 (fun j => if j = 5 then 1 else rg y o k j) (fun j hj => ?_) gk rfl gk.1 gk.2.1 gk.2.2.1 ⟨?_, rfl, by show (2 : Nat) ≤ 2; decide, fun _ => w7 (by omega)⟩ gk.2.2.2.2.1 gk.2.2.2.2.2.1 gk.2.2.2.2.2.2.2.2)
      · rw [gz k j hj]
        by_cases c3 : j = 5
        · rw [if_pos ⟨rfl, c3⟩, if_pos (by omega), if_pos c3]
        · rw [if_neg (fun z => c3 z.2), if_neg c3]; split <;> rfl
      · show rg y o k 3 = (stN C (M.2.2 k).2.2.1).2.2.2.2.1 + 1
        rw [w3, if_neg (by omega)]
  have start : ∀ (W : Int32), (∀ k, k < 6 → ((W >>> (Int32.ofNat k &&& 31)) &&& 1 = 1 ↔ (k < C.2.1.length ∧ P k = true))) → (M.2.1 L).1 = T + 1 → ∀ y, y = si x (o + 20) 6 W → KT G q (d + 2) zk_X5_doWake 47 [(0, vr o), (5, vi 0)] [] y (ri F) := fun W hW hT1 y ey => by
    obtain ⟨g1, g2⟩ := AR_deed hO hM hS ey
    refine loop W hW 6 0 _ y rfl (by omega) (by omega) g1 (by rw [ey, si_get, if_pos ⟨rfl, rfl⟩]) ?_ hT1
    rw [wkU_0]
    exact AR_KM hO hM hK g1 (fun j _ => by rw [ey, si_cell (by omega)]) g2 g
  refine kg_X5_doWake_0 hq ho _ _ _ _ (kh_holder hq ho hM g _ eL hl ⟨fun c => ?_, fun c => ri_i (hF _ x (AR_rf hM) (fun _ => rfl) (fun z => absurd z (by decide)) (Or.inl ⟨rfl, fun z => c (by rw [tT]; exact hh.mpr z), g⟩))⟩)
  rw [tT] at c
  have hT1 := hh.mp c
  refine ⟨fun a0 => ?_, fun a1 => kh_waiters hq ho hM hK hN g _ eL hl (fun y ey => start _ (fun k hk => ?_) hT1 y ey)⟩
  · have hall := ha.mp a0
    cases hwk : wk with
    | none =>
      have hu := hu0 hwk
      refine ⟨fun c1 => absurd hu c1, fun c1 y ey => start 0 (fun k hk => ?_) hT1 y ey⟩
      rw [Pi, hall, hwk]
      have b := km_bit (sl := []) (fun s hs => by cases hs) k (by omega)
      rw [if_neg (by simp)] at b
      have b : ((0 : Int32) >>> (Int32.ofNat k &&& 31)) &&& 1 = 0 := b
      rw [b]
      exact ⟨fun z => absurd z (by decide), fun z => by rcases z.2.2.2 with e | e <;> cases e⟩
    | some v =>
      obtain ⟨hu, hv⟩ := hu1 v hwk
      have hv' := (wi v).mp hv
      refine ⟨fun c1 y ey => start _ (fun k hk => ?_) hT1 y ey, fun c1 => ?_⟩
      · rw [Pi, hall, hwk, hu]
        have b := km_bit (sl := [v]) (fun s hs => by rw [List.mem_singleton.mp hs]; omega) k (by omega)
        have e0 : kmN [v] = (1 : Int32) <<< (Int32.ofNat v &&& 31) := by
          show (0 : Int32) ||| _ = _
          rw [Int32.zero_or]
        rw [e0] at b
        rw [b]
        by_cases ck : k = v
        · rw [if_pos (by rw [ck]; exact List.mem_singleton.mpr rfl), ck]
          exact ⟨fun _ => ⟨hv'.1, hv'.2.1, hv'.2.2, Or.inr rfl⟩, fun _ => rfl⟩
        · rw [if_neg (fun z => ck (List.mem_singleton.mp z))]
          refine ⟨fun z => absurd z (by decide), fun z => ?_⟩
          rcases z.2.2.2 with e | e
          · cases e
          · exact absurd (Option.some.inj e).symm ck
      · have hv8 : v < 8 := by omega
        have hne : ∀ v, v < 8 → ¬ Int32.ofNat v = -1 := by decide +kernel
        rw [hu] at c1
        exact absurd c1 (hne v hv8)
  · have hall : all = true := by
      cases hb : all with
      | true => rfl
      | false => exact absurd (ha.mpr hb) a1
    rw [Pi, hall]
    have b := km_bit w8 k (by omega)
    rw [b]
    by_cases ck : k ∈ (waM C M L).reverse
    · rw [if_pos ck]
      have := (wi k).mp (List.mem_reverse.mp ck)
      exact ⟨fun _ => ⟨this.1, this.2.1, this.2.2, Or.inl rfl⟩, fun _ => rfl⟩
    · rw [if_neg ck]
      exact ⟨fun z => absurd z (by decide), fun z => absurd (List.mem_reverse.mpr ((wi k).mpr ⟨z.1, z.2.1, z.2.2.1⟩)) ck⟩
theorem i32_1 {a : Int32} : a + 1 = 0 ↔ a = -1 := by
  refine ⟨fun e => ?_, fun e => by rw [e]; decide⟩
  have e2 : a + 1 - 1 = 0 - 1 := by rw [e]
  rw [Int32.add_sub_cancel] at e2
  rw [e2]; decide
/-- call and back -/
theorem kh_call {S : Nat → Prop} (hS : S 4) (hq : kV q) (ho : kiM q o) (hM : MM x o) (hK : CK x C) (hN : NC C) (g : KMm x o C M) (t p : Int32) (et : t.toInt = T) (hT : T < C.2.1.length) (h1 : (M.2.2 T).1 = 1) (ob : (stN C (M.2.2 T).2.2.1).1 = 13 ∨ (stN C (M.2.2 T).2.2.1).1 = 14) (hp : p = Int32.ofNat (stN C (M.2.2 T).2.2.1).1) (hF : ∀ r y, AR S x y o → (¬ r = 0 → y.1 (o + 20) 4 = x.1 (o + 20) 4) → (r = 0 → ∀ e, evO (M.2.2 T).2.2.2.2.2.2.2 (Int32.ofNat T) (stN C (M.2.2 T).2.2.1).2.2.2.2.2.2.2.2.1 = some e → y.1 (o + 20) 4 = e) → ((evO (M.2.2 T).2.2.2.2.2.2.2 (Int32.ofNat T) (stN C (M.2.2 T).2.2.1).2.2.2.2.2.2.2.2.1 = none ∧ r = 1 ∧ KMm y o C M) ∨ (∃ e, evO (M.2.2 T).2.2.2.2.2.2.2 (Int32.ofNat T) (stN C (M.2.2 T).2.2.1).2.2.2.2.2.2.2.2.1 = some e ∧ ((r = 8 ∧ (((stN C (M.2.2 T).2.2.1).1 = 13 ∧ ¬ (M.2.2 T).2.2.2.2.2.1 = -1) ∨ ((stN C (M.2.2 T).2.2.1).1 = 14 ∧ (M.2.2 T).2.2.2.2.2.1 = -1)) ∧ KMm y o C M) ∨ (r = 0 ∧ ¬ (((stN C (M.2.2 T).2.2.1).1 = 13 ∧ ¬ (M.2.2 T).2.2.2.2.2.1 = -1) ∨ ((stN C (M.2.2 T).2.2.1).1 = 14 ∧ (M.2.2 T).2.2.2.2.2.1 = -1)) ∧ KMm y o C (upT M T ((M.2.2 T).1, (M.2.2 T).2.1, (M.2.2 T).2.2.1, (M.2.2 T).2.2.2.1, (M.2.2 T).2.2.2.2.1, if (stN C (M.2.2 T).2.2.1).1 = 13 then (stN C (M.2.2 T).2.2.1).2.2.2.2.1 else -1, (M.2.2 T).2.2.2.2.2.2)))))) → F r y) : KT G q (d + 2) zk_X5_doCallOrBack 0 [(0, vr o), (1, vi t), (2, vi (rg x o T 2)), (3, vi p)] [] x (ri F) := by
  have hO := kiM_O ho
  have nT : (x.1 60 10).toInt = C.2.1.length := hK.2.1.1
  have hT6 := MM_6 hM.1 (t := T) (by omega)
  have hA := (hM.2.2 T (by omega)).1
  obtain ⟨b1, b2, b3, b4, -⟩ := MG_b hM.1 hM.2.1
  have gT := g.2 T hT
  obtain ⟨st, s1, s2, s3, s4, s5, kn, ns⟩ := kst_at hM hK hN hT gT
  obtain ⟨v, e, -⟩ := MM_st hM.1 hA
  rw [s3] at e
  rw [s2] at ob hp hF
  have hml := gT.2.2.2.2.2.2.2.2 (Or.inl h1)
  rw [s2] at hml
  obtain ⟨Q, hQ⟩ := ns.2.2.2.2.2.1 (by omega)
  obtain ⟨q1, q2⟩ := ns.2.2.2.2.2.2.2.2.1 Q hQ
  have k88 := kn.2.2.2.2.2.2.2.1
  rw [hQ] at k88 hF
  have k85 := kn.2.2.2.2.1 (by omega)
  have p13 : p = 13 ↔ st.1 = 13 := by
    rw [hp]
    rcases ob with e | e <;> rw [e] <;> decide
  refine kg_X5_doCallOrBack_0 hq ho _ _ _ ⟨v, ?_⟩
  rw [e]
  refine kh_ev hq ho hM hK hT gT _ _ et k88 q1 q2 hml (fun r5 y fy hwk => ?_)
  obtain ⟨hy, ry⟩ := AR_wk (S := S) hO hM fy
  obtain ⟨f6, f9, e13, e9, e8, e7, e10⟩ := sM_e hO hy.2.1
  have gy : KMm y o C M := AR_KM hO hM hK hy (fun j _ => fy _ _ (by unfold sWk; omega)) ry g
  have hKy := CK_M hO hK hy.2.1
  have hAy := (hy.1.2.2 T (by rw [e10]; omega)).1
  have gyT := gy.2 T hT
  have bad : ((st.1 = 13 ∧ ¬ (M.2.2 T).2.2.2.2.2.1 = -1) ∨ (st.1 = 14 ∧ (M.2.2 T).2.2.2.2.2.1 = -1)) ↔ ((¬ rg y o T 6 = 0) ↔ p = 13) := by
    rw [gyT.2.2.2.2.2.1, i32_1, p13]
    rcases ob with e | e
    · rw [e]
      exact ⟨fun z => ⟨fun _ => rfl, fun _ => by rcases z with z | z; exact z.2; exact absurd z.1 (by decide)⟩, fun z => Or.inl ⟨rfl, z.mpr rfl⟩⟩
    · rw [e]
      exact ⟨fun z => ⟨fun c => by rcases z with z | z; exact absurd z.1 (by decide); exact absurd z.2 c, fun c => absurd c (by decide)⟩, fun z => Or.inr ⟨rfl, Decidable.byContradiction (fun c => absurd (z.mp c) (by decide))⟩⟩
  have ev1 : ∀ w, wkQ (M.2.2 T).2.2.2.2.2.2.2 (fun _ => 0) (Int32.ofNat T) Q = w → evO (M.2.2 T).2.2.2.2.2.2.2 (Int32.ofNat T) (some Q) = w := fun w z => z
  rcases hwk with ⟨v9, hw, er, y5⟩ | ⟨hw, y5⟩
  · have p101 : ∀ (n : Int32) (kd : Int32), n = kd + 1 → kd = (if st.1 = 13 then st.2.2.2.2.1 else -1) → ¬ ((st.1 = 13 ∧ ¬ (M.2.2 T).2.2.2.2.2.1 = -1) ∨ (st.1 = 14 ∧ (M.2.2 T).2.2.2.2.2.1 = -1)) → KT G q (d + 2) zk_X5_doCallOrBack 101 [(0, vr o), (4, vi r5)] [vi n, vi 6, vi t, vr o] y (ri F) := by
      intro n kd en ek nb
      refine kg_X5_doCallOrBack_101 hq ho _ _ _ _ (kh_seta (S := S) hq ho hy.1 _ _ _ et (show (6 : Int32).toInt = ((6 : Nat) : Int) from rfl) hT6 (by rw [e8]; omega) (by omega) (fun c => by omega) (fun c => by omega) (fun j _ c => by rw [e9] at c; omega) (fun z hz fz lz gz u eu => ?_))
      obtain ⟨hu, ru⟩ := AR_deed hO hz.1 hS eu
      obtain ⟨-, -, z13, z9, z8, -, -⟩ := sM_e hO hz.2.1
      refine ri_i (hF _ u (AR_tr (AR_tr hy hz) hu) (fun z => absurd rfl z) (fun _ e9 he => by
        rw [eu, si_get, if_pos ⟨rfl, rfl⟩]
        have := Option.some.inj ((ev1 _ hw).symm.trans he)
        rw [← this]; first | exact er | exact er.symm) (Or.inr ⟨v9, ev1 _ hw, Or.inr ⟨rfl, nb, ?_⟩⟩))
      have gz1 := KMm_T hO hy.1 hKy hz.2.1 lz (fun t k ht hk => by rw [gz t k hk, if_neg (fun z => ht z.1)]) gy (kTq_k (h' := ((M.2.2 T).1, (M.2.2 T).2.1, (M.2.2 T).2.2.1, (M.2.2 T).2.2.2.1, (M.2.2 T).2.2.2.2.1, kd, (M.2.2 T).2.2.2.2.2.2)) hy.1.1 hy.1.2.1 hAy z13 z9 (fun k => if k = 6 then n else rg y o T k) (fun k hk => by
        rw [gz T k hk]
        by_cases c3 : k = 6
        · rw [if_pos ⟨rfl, c3⟩, if_pos (by omega), if_pos c3]
        · rw [if_neg (fun z => c3 z.2), if_neg c3]; split <;> rfl) gyT rfl gyT.1 gyT.2.1 gyT.2.2.1 gyT.2.2.2.1 gyT.2.2.2.2.1 en gyT.2.2.2.2.2.2.2.2)
      rw [ek] at gz1
      exact AR_KM hO hz.1 (CK_M hO hKy hz.2.1) hu (fun j _ => by rw [eu, si_cell (by omega)]) ru gz1
    have p70 : ∀ a b : Int32, (a = if p = 13 then 1 else 0) → (b = if rg y o T 6 = 0 then 0 else 1) → KT G q (d + 2) zk_X5_doCallOrBack 70 [(0, vr o), (1, vi t), (2, vi (rg x o T 2)), (3, vi p), (4, vi r5)] [vi a, vi b] y (ri F) := fun a b ha hb => by
      have ab : b = a ↔ ((¬ rg y o T 6 = 0) ↔ p = 13) := by
        rw [ha, hb]
        by_cases c1 : p = 13
        · by_cases c2 : rg y o T 6 = 0
          · rw [if_pos c1, if_pos c2]; exact ⟨fun z => absurd z (by decide), fun z => absurd c2 (z.mpr c1)⟩
          · rw [if_pos c1, if_neg c2]; exact ⟨fun _ => ⟨fun _ => c1, fun _ => c2⟩, fun _ => rfl⟩
        · by_cases c2 : rg y o T 6 = 0
          · rw [if_neg c1, if_pos c2]; exact ⟨fun _ => ⟨fun z => absurd c2 z, fun z => absurd z c1⟩, fun _ => rfl⟩
          · rw [if_neg c1, if_neg c2]; exact ⟨fun z => absurd z (by decide), fun z => absurd (z.mp c2) c1⟩
      refine kg_X5_doCallOrBack_70 hq ho _ _ _ _ _ _ ⟨fun nab => ?_, fun eab => ri_i (hF _ y hy (fun _ => fy _ _ (by unfold sWk; omega)) (fun z => absurd z (by decide)) (Or.inr ⟨v9, ev1 _ hw, Or.inl ⟨rfl, bad.mpr (ab.mp eab), gy⟩⟩))⟩
      have nb := fun z => nab (ab.mpr (bad.mp z))
      refine ⟨fun c13 => p101 0 (-1) (by decide) (by rw [if_neg (fun z => c13 (p13.mpr z))]) nb, fun c13 => ⟨v, ?_⟩⟩
      rw [e, fy 85 _ (by unfold sWk; omega), k85]
      exact p101 _ st.2.2.2.2.1 rfl (by rw [if_pos (p13.mp c13)]) nb
    have p55 : ∀ b : Int32, (b = if rg y o T 6 = 0 then 0 else 1) → KT G q (d + 2) zk_X5_doCallOrBack 55 [(0, vr o), (1, vi t), (2, vi (rg x o T 2)), (3, vi p), (4, vi r5)] [vi b] y (ri F) := fun b hb => kg_X5_doCallOrBack_55 hq ho _ _ _ _ _ ⟨fun c => p70 _ _ (by rw [if_neg c]) hb, fun c => p70 _ _ (by rw [if_pos c]) hb⟩
    exact ⟨fun _ => kp_get hq ho hy.1.1 hy.1.2.1 _ _ et (show (6 : Int32).toInt = ((6 : Nat) : Int) from rfl) hT6 (by omega) ⟨fun c => p55 _ (by rw [if_pos c]), fun c => p55 _ (by rw [if_neg c])⟩, fun c => absurd y5 c⟩
  · refine ⟨fun c => ?_, fun _ => ri_i (hF _ y hy (fun _ => fy _ _ (by unfold sWk; omega)) (fun z => absurd z (by decide)) (Or.inl ⟨ev1 _ hw, rfl, gy⟩))⟩
    rw [y5] at c; exact absurd c (by decide)
end KMW
end
section
/-! the class: an access is done -/
/-- the cells of a row are all sure, or none -/
def NX3 (C : gCo) : Prop := ∀ (j : Nat) (st : gNs), C.1[j]? = some st → st.1 ≤ 4 → ¬ st.2.2.2.2.2.2.2.1 = none → ∀ i : Nat, (i : Int) < st.2.2.2.2.2.1.toInt → suM C (st.2.2.2.2.1.toNatClampNeg + i) = suM C st.2.2.2.2.1.toNatClampNeg
/-- an act's doing, before the thread goes on -/
noncomputable def M1c (C : gCo) (w : Nat) (M : gMa) (T : Nat) (wk : Option Nat) : gMa := upT (efM C w M T (soM C (M.2.2 T)) (lkM C w M T).2.1.toNatClampNeg (lkM C w M T).2.2.1 (lkM C w M T).2.2.2 wk).1 T (wLv ((efM C w M T (soM C (M.2.2 T)) (lkM C w M T).2.1.toNatClampNeg (lkM C w M T).2.2.1 (lkM C w M T).2.2.2 wk).1.2.2 T) (toV (stN C (M.2.2 T).2.2.1) (M.2.2 T).2.2.2.2.2.2.2 (efM C w M T (soM C (M.2.2 T)) (lkM C w M T).2.1.toNatClampNeg (lkM C w M T).2.2.1 (lkM C w M T).2.2.2 wk).2))
section KMA2
variable {G : kG} {q : kP} {d : Nat} {x x0 y z : gd} {o : Nat} {F : Int32 → gd → Prop} {Fv : gd → Prop} {C : gCo} {M : gMa} {h h' : gTq} {t T w k c s : Nat} {e f : Int32} {wk : Option Nat}
theorem rsF_a (hs : s ≤ 4) (h1 : ¬ s = 1) : rsF C w M T s c = 0 := by
  unfold rsF
  rw [if_neg (fun z => by omega), if_neg (fun z => by omega), if_neg (fun z => by omega), if_neg (fun z => by omega), if_neg (fun z => by omega)]
theorem rsF_1 : rsF C w M T 1 c = if w = 1 ∧ suM C c = false ∧ 8 ≤ (M.2.2 T).2.2.2.2.2.2.1.length then 9 else 0 := by
  unfold rsF
  rw [if_neg (fun z => by omega), if_neg (fun z => by omega), if_neg (fun z => by omega), if_neg (fun z => by omega)]
  by_cases c1 : w = 1 ∧ suM C c = false ∧ 8 ≤ (M.2.2 T).2.2.2.2.2.2.1.length
  · rw [if_pos ⟨rfl, c1⟩, if_pos c1]
  · rw [if_neg (fun z => c1 z.2), if_neg c1]
theorem toV_s {st : gNs} {p : Nat} {lv : Nat → Int32} {v : Int32} (h : st.2.2.2.1 = some p) : toV st lv v = fup lv p v := by unfold toV; rw [h]
theorem toV_n {st : gNs} {lv : Nat → Int32} {v : Int32} (h : st.2.2.2.1 = none) : toV st lv v = lv := by unfold toV; rw [h]
/-- a late one more -/
theorem kTq_a (hC : CO x) (hG : MG x o) (hA : TA x o T) (hw : x.1 o 3 = 1) (e13 : y.1 60 13 = x.1 60 13) (e9 : y.1 o 9 = x.1 o 9) {c v : Int32} {c' n : Nat} (ec : c.toInt = c') (en : n = h.2.2.2.2.2.2.1.length) (n8 : n < 8) (e : ∀ k : Nat, (k : Int) < (x.1 o 8).toInt → rg y o T k = if k = 7 then rg x o T 7 + 1 else if k = (x.1 o 9).toInt.toNat + 2 * n then c else if k = (x.1 o 9).toInt.toNat + 2 * n + 1 then v else rg x o T k) (g : kTq x o C T h) : kTq y o C T (h.1, h.2.1, h.2.2.1, h.2.2.2.1, h.2.2.2.2.1, h.2.2.2.2.2.1, h.2.2.2.2.2.2.1 ++ [(c', v)], h.2.2.2.2.2.2.2) := by
  obtain ⟨b1, b2, b3, b4, b5, b6, b7⟩ := MG_b hC hG
  have b5 := b5 hw
  have k1 : (1 : Int32).toInt = 1 := rfl
  obtain ⟨⟨q0, q0'⟩, q1, q2, ⟨q3, q5, qw⟩, q4, q6, ⟨q7, ql⟩, qv, qk⟩ := g
  have e' : ∀ k, k < 7 → rg y o T k = rg x o T k := fun k hk => by rw [e k (by omega), if_neg (by omega), if_neg (by omega), if_neg (by omega)]
  refine ⟨⟨by rw [e' 0 (by omega)]; exact q0, q0'⟩, by rw [e' 1 (by omega)]; exact q1, by rw [e' 2 (by omega)]; exact q2, ⟨by rw [e' 3 (by omega)]; exact q3, by rw [e' 5 (by omega)]; exact q5, qw⟩, by rw [e' 4 (by omega)]; exact q4, by rw [e' 6 (by omega)]; exact q6, ⟨?_, fun i p hp => ?_⟩, fun p hp => ?_, by rw [e13]; exact qk⟩
  · show _ = ((h.2.2.2.2.2.2.1 ++ [(c', v)]).length : Int)
    rw [e 7 (by omega), if_pos rfl, t_add (by rw [k1]; omega) (by rw [k1]; omega), k1, q7, List.length_append]
    push_cast
    rfl
  · have hp : (h.2.2.2.2.2.2.1 ++ [(c', v)])[i]? = some p := hp
    have hi := gt_lt hp
    rw [List.length_append] at hi
    have hi : i < h.2.2.2.2.2.2.1.length + 1 := hi
    rw [List.getElem?_append] at hp
    have a1 : rg y o T ((x.1 o 9).toInt.toNat + 2 * i) = if i = n then c else rg x o T ((x.1 o 9).toInt.toNat + 2 * i) := by
      rw [e _ (by omega), if_neg (by omega)]
      by_cases ci : i = n
      · rw [if_pos (by omega), if_pos ci]
      · rw [if_neg (by omega), if_neg (by omega), if_neg ci]
    have a2 : rg y o T ((x.1 o 9).toInt.toNat + 2 * i + 1) = if i = n then v else rg x o T ((x.1 o 9).toInt.toNat + 2 * i + 1) := by
      rw [e _ (by omega), if_neg (by omega), if_neg (by omega)]
      by_cases ci : i = n
      · rw [if_pos (by omega), if_pos ci]
      · rw [if_neg (by omega), if_neg ci]
    rw [e9, a1, a2]
    by_cases ci : i < h.2.2.2.2.2.2.1.length
    · rw [if_pos ci] at hp
      rw [if_neg (by omega), if_neg (by omega)]
      exact ql i p hp
    · rw [if_neg ci] at hp
      have ei : i = n := by omega
      rw [show i - h.2.2.2.2.2.2.1.length = 0 by omega] at hp
      cases Option.some.inj hp
      rw [if_pos ei, if_pos ei]
      exact ⟨ec, rfl⟩
  · rw [e13] at hp
    rw [e _ (by push_cast; omega), if_neg (by omega), if_neg (by omega), if_neg (by omega)]; exact qv p hp
theorem kh_write {S : Nat → Prop} (hS : S 4) (hq : kV q) (ho : kiM q o) (hM : MM x o) (hK : CK x C) (hN : NC C) (g : KMm x o C M) (wy : x.1 o 3 = Int32.ofNat w) (w01 : w = 0 ∨ w = 1) (t c v : Int32) (et : t.toInt = T) (hT : T < C.2.1.length) {st : gNs} (hst : C.1[(M.2.2 T).2.2.1]? = some st) (o1 : st.1 = 1) {c' : Nat} (ec : c.toInt = c') (hc : (c' : Int) < (x.1 60 6).toInt) (hsu : suM C c' = suM C st.2.2.2.2.1.toNatClampNeg) (hF : ∀ r y, AR S x y o → (¬ r = 0 → y.1 (o + 20) 4 = x.1 (o + 20) 4) → (r = 0 → y.1 (o + 20) 4 = v) → (((w = 1 ∧ suM C c' = false ∧ 8 ≤ (M.2.2 T).2.2.2.2.2.2.1.length) ∧ r = 9 ∧ KMm y o C M) ∨ (¬ (w = 1 ∧ suM C c' = false ∧ 8 ≤ (M.2.2 T).2.2.2.2.2.2.1.length) ∧ r = 0 ∧ KMm y o C (efM C w M T 1 c' v f wk).1)) → F r y) : KT G q (d + 2) zk_X5_doWrite 0 [(0, vr o), (1, vi t), (2, vi (rg x o T 2)), (3, vi c), (4, vi v)] [] x (ri F) := by
  have hO := kiM_O ho
  have nT : (x.1 60 10).toInt = C.2.1.length := hK.2.1.1
  have hT6 := MM_6 hM.1 (t := T) (by omega)
  have hA := (hM.2.2 T (by omega)).1
  have k8 : (8 : Int32).toInt = 8 := rfl
  have k1 : (1 : Int32).toInt = 1 := rfl
  obtain ⟨b1, b2, b3, b4, b5, b6, b7⟩ := MG_b hM.1 hM.2.1
  have c24 := hM.1.1.1
  have gT := g.2 T hT
  obtain ⟨a1, a2, a3, a4, a5⟩ := hA
  have ww : x.1 o 3 = 1 ↔ w = 1 := by
    rw [wy]
    rcases w01 with e | e <;> rw [e] <;> decide
  have l7 := gT.2.2.2.2.2.2.1.1
  rw [ef_1] at hF
  refine kg_X5_doWrite_0 hq ho _ _ _ _ (kh_goesLate hq ho hM hK hN wy w01 _ gT.2.2.1 hst (fun r hr => ⟨fun c0 => kp_get hq ho hM.1 hM.2.1 _ _ et (show (7 : Int32).toInt = ((7 : Nat) : Int) from rfl) hT6 (by omega) ⟨fun c8 => ?_, fun c8 => ?_⟩, fun c0 => ⟨by rw [vp_in_iff]; omega, fun y ey z ez => ?_⟩⟩))
  · obtain ⟨z1, z2, z3⟩ := hr.mp c0
    rw [← hsu] at z3
    have hw := ww.mpr z1
    rw [t_lt, k8] at c8
    have b5 := b5 hw
    have eJ : (rg x o T 7).toInt = (((rg x o T 7).toInt.toNat : Nat) : Int) := by omega
    refine kh_setLate hq ho hM hw _ _ _ _ et eJ hT6 (by omega) (by omega) (fun y hy fy ly gy => ?_)
    have f9 : y.1 o 9 = x.1 o 9 := fy _ _ (by unfold sSt; omega)
    have f8 : y.1 o 8 = x.1 o 8 := fy _ _ (by unfold sSt; omega)
    have f3 : y.1 o 3 = x.1 o 3 := fy _ _ (by unfold sSt; omega)
    have f6 : y.1 60 6 = x.1 60 6 := fy _ _ (by unfold sSt; omega)
    have hy' : AR S x y o := ⟨hy, fm_w fy (fun c k q => sSt_M q), fun t k hk => by rw [gy t k (by omega), if_neg (fun z => by omega), if_neg (fun z => by omega)], fun k hk => fy _ _ (by unfold sSt; omega)⟩
    have e1 : (rg x o T 7 + 1).toInt = (rg x o T 7).toInt + 1 := by rw [t_add (by rw [k1]; omega) (by rw [k1]; omega), k1]
    refine kh_seta (S := S) hq ho hy _ _ _ et (show (7 : Int32).toInt = ((7 : Nat) : Int) from rfl) hT6 (by rw [f8]; omega) (by omega) (fun c => by omega) (fun _ => ⟨by omega, fun q9 => absurd (by rw [f3]; exact hw) q9, fun j hj => ?_⟩) (fun j hj q9 => by rw [f9] at q9; omega) (fun z hz fz lz gz w' ew => ?_)
    · rw [f9, f6, gy T _ (by omega)]
      by_cases hj2 : j = (rg x o T 7).toInt.toNat
      · rw [if_pos ⟨rfl, by rw [hj2]⟩]; omega
      · rw [if_neg (fun z => by omega), if_neg (fun z => by omega)]; exact a4 j (by omega)
    · obtain ⟨hw9, rw9⟩ := AR_deed hO hz.1 hS ew
      have hxz : AR S x z o := AR_tr hy' hz
      have e8' : ¬ (w = 1 ∧ suM C c' = false ∧ 8 ≤ (M.2.2 T).2.2.2.2.2.2.1.length) := fun z => by have := z.2.2; omega
      refine ri_i (hF _ w' (AR_tr hxz hw9) (fun z => absurd rfl z) (fun _ => by rw [ew, si_get, if_pos ⟨rfl, rfl⟩]) (Or.inr ⟨e8', rfl, ?_⟩))
      rw [if_neg (fun z => z.elim (fun z => by omega) (fun z => by rw [z3] at z; cases z))]
      obtain ⟨-, -, z13, z9, z8, -, -⟩ := sM_e hO hxz.2.1
      have au : ∀ t k : Nat, (k : Int) < (x.1 o 8).toInt → rg z o t k = if t = T ∧ k = 7 then rg x o T 7 + 1 else if t = T ∧ k = (x.1 o 9).toInt.toNat + 2 * (rg x o T 7).toInt.toNat then c else if t = T ∧ k = (x.1 o 9).toInt.toNat + 2 * (rg x o T 7).toInt.toNat + 1 then v else rg x o t k := fun t k hk => by
        rw [gz t k (by rw [f8]; exact hk)]
        by_cases cc : t = T ∧ k = 7
        · rw [if_pos cc, if_pos cc]
        · rw [if_neg cc, if_neg cc, gy t k hk]
      have gz1 := KMm_T hO hM hK hxz.2.1 (lowE_tr hO fy ly lz) (fun t k ht hk => by rw [au t k hk, if_neg (fun z => ht z.1), if_neg (fun z => ht z.1), if_neg (fun z => ht z.1)]) g (kTq_a hM.1 hM.2.1 ⟨a1, a2, a3, a4, a5⟩ hw z13 z9 (v := v) ec (n := (rg x o T 7).toInt.toNat) (by rw [l7]; rfl) (by omega) (fun k hk => by
        rw [au T k hk]
        by_cases c1 : k = 7
        · rw [if_pos ⟨rfl, c1⟩, if_pos c1]
        · rw [if_neg (fun z => c1 z.2), if_neg c1]
          by_cases c2 : k = (x.1 o 9).toInt.toNat + 2 * (rg x o T 7).toInt.toNat
          · rw [if_pos ⟨rfl, c2⟩, if_pos c2]
          · rw [if_neg (fun z => c2 z.2), if_neg c2]
            by_cases c3 : k = (x.1 o 9).toInt.toNat + 2 * (rg x o T 7).toInt.toNat + 1
            · rw [if_pos ⟨rfl, c3⟩, if_pos c3]
            · rw [if_neg (fun z => c3 z.2), if_neg c3]) gT)
      exact AR_KM hO hz.1 (CK_M hO hK hxz.2.1) hw9 (fun j _ => by rw [ew, si_cell (by omega)]) rw9 gz1
  · obtain ⟨z1, z2, z3⟩ := hr.mp c0
    rw [← hsu] at z3
    rw [t_lt, k8] at c8
    exact ri_i (hF _ x (AR_rf hM) (fun _ => rfl) (fun z => absurd z (by decide)) (Or.inl ⟨⟨z1, z3, by omega⟩, rfl, g⟩))
  · have nz : ¬ (w = 1 ∧ suM C c' = false) := fun z => by
      have := hr.mpr ⟨z.1, o1, by rw [← hsu]; exact z.2⟩
      exact this c0
    have nc : c.toNatClampNeg = c' := by rw [t_cl, ec]; rfl
    rw [nc] at ey
    have ry : ∀ t k, rg y o t k = rg x o t k := fun t k => rg_low hO (by omega) ey
    have hy : AR S x y o := AR_row hO hM (by rw [ey]; exact fm_si (fm_rf _ _) rfl) ry
    obtain ⟨hz, rz⟩ := AR_deed hO hy.1 hS ez
    refine ri_i (hF _ z (AR_tr hy hz) (fun z => absurd rfl z) (fun _ => by rw [ez, si_get, if_pos ⟨rfl, rfl⟩]) (Or.inr ⟨fun z => nz ⟨z.1, z.2.1⟩, rfl, ?_⟩))
    have cc : w = 0 ∨ suM C c' = true := by
      rcases w01 with e | e
      · exact Or.inl e
      · cases hb : suM C c' with
        | true => exact Or.inr rfl
        | false => exact absurd ⟨e, hb⟩ nz
    rw [if_pos cc]
    exact AR_KM hO hy.1 (CK_M hO hK hy.2.1) hz (fun j _ => by rw [ez, si_cell (by omega)]) rz (KMm_c hO hM hK hc ey g)
theorem kh_exch {S : Nat → Prop} (hS3 : S 3) (hS : S 4) (hq : kV q) (ho : kiM q o) (hM : MM x o) (hK : CK x C) (hN : NC C) (g : KMm x o C M) (t c v : Int32) (et : t.toInt = T) (hT : T < C.2.1.length) (h1 : (M.2.2 T).1 = 1) {st : gNs} (hst : C.1[(M.2.2 T).2.2.1]? = some st) (o2 : 2 ≤ st.1 ∧ st.1 ≤ 4) (hx2 : ¬ st.1 = 4 → st.2.2.2.2.2.2.2.2.2 = none) {c' : Nat} (ec : c.toInt = c') (hc : (c' : Int) < (x.1 60 6).toInt) (hF : ∀ r y, AR S x y o → (¬ r = 0 → y.1 (o + 20) 3 = x.1 (o + 20) 3 ∧ y.1 (o + 20) 4 = x.1 (o + 20) 4) → (r = 0 → ∀ f, evO (M.2.2 T).2.2.2.2.2.2.2 (Int32.ofNat T) st.2.2.2.2.2.2.2.2.2 = some f → y.1 (o + 20) 3 = M.1 c' ∧ y.1 (o + 20) 4 = (efM C w M T st.1 c' v f wk).1.1 c') → ((evO (M.2.2 T).2.2.2.2.2.2.2 (Int32.ofNat T) st.2.2.2.2.2.2.2.2.2 = none ∧ r = 1 ∧ KMm y o C M) ∨ (∃ f, evO (M.2.2 T).2.2.2.2.2.2.2 (Int32.ofNat T) st.2.2.2.2.2.2.2.2.2 = some f ∧ r = 0 ∧ KMm y o C (upT (efM C w M T st.1 c' v f wk).1 T (wLv (M.2.2 T) (toV st (M.2.2 T).2.2.2.2.2.2.2 (efM C w M T st.1 c' v f wk).2))))) → F r y) : KT G q (d + 2) zk_X5_doExchange 0 [(0, vr o), (1, vi t), (2, vi (rg x o T 2)), (3, vi c), (4, vi v)] [] x (ri F) := by
  have hO := kiM_O ho
  have nT : (x.1 60 10).toInt = C.2.1.length := hK.2.1.1
  have hT6 := MM_6 hM.1 (t := T) (by omega)
  have hA := (hM.2.2 T (by omega)).1
  have k8 : (8 : Int32).toInt = 8 := rfl
  obtain ⟨b1, b2, b3, b4, b5, b6, b7⟩ := MG_b hM.1 hM.2.1
  have c24 := hM.1.1.1
  have m8 := hM.1.1.2.2.2.1
  have gT := g.2 T hT
  obtain ⟨st', s1, s2, s3, s4, s5, kn, ns⟩ := kst_at hM hK hN hT gT
  rw [hst] at s1
  cases Option.some.inj s1
  obtain ⟨vs, eN, -⟩ := MM_st hM.1 hA
  rw [s3] at eN
  have vc : vp_in c 228 := by rw [vp_in_iff]; omega
  have nc : c.toNatClampNeg = c' := by rw [t_cl, ec]; rfl
  have hml := gT.2.2.2.2.2.2.2.2 (Or.inl h1)
  rw [s2] at hml
  obtain ⟨p, hto, -⟩ := ns.2.2.2.1 (Or.inr (Or.inl o2))
  have k84 := kn.2.2.1 (Or.inr (Or.inl o2))
  rw [hto] at k84
  have k84 : (x.1 84 (M.2.2 T).2.2.1).toInt = (p : Nat) := k84
  have htg := (hM.1.2.2.2.1 _ s4).2.2.2.1 (Or.inr (Or.inl (by omega)))
  have htg : 0 ≤ (x.1 84 (M.2.2 T).2.2.1).toInt ∧ (x.1 84 (M.2.2 T).2.2.1).toInt < (x.1 60 13).toInt := htg
  have op_i : ∀ n : Nat, n < 22 → (x.1 81 (M.2.2 T).2.2.1 = Int32.ofNat n ↔ st.1 = n) := fun n hn => by
    have e1 : (Int32.ofNat n).toInt = (n : Nat) := Int32.toInt_ofNat_of_lt (by omega)
    rw [t_eq, e1]
    have : (x.1 81 (M.2.2 T).2.2.1).toInt = (st.1 : Nat) := s5
    omega
  have old : x.1 (o + 5) c' = M.1 c' := g.1.1 c' hc
  have p122 : ∀ (y : gd) (l6 l7 f : Int32), AR S x y o → (∀ t k, rg y o t k = rg x o t k) → KMm y o C M → evO (M.2.2 T).2.2.2.2.2.2.2 (Int32.ofNat T) st.2.2.2.2.2.2.2.2.2 = some f → efM C w M T st.1 c' v f wk = (upC M c' l7, l6) → KT G q (d + 2) zk_X5_doExchange 122 [(0, vr o), (1, vi t), (2, vi (rg x o T 2)), (3, vi c), (5, vi (M.1 c')), (6, vi l6), (7, vi l7)] [] y (ri F) := by
    intro y l6 l7 f hy ry gy hev hef
    refine kg_X5_doExchange_122 hq ho _ _ _ _ _ _ ⟨vc, fun x2 e2 x3 e3 x4 e4 => ⟨vs, ?_⟩⟩
    rw [nc] at e2
    obtain ⟨y6, y9', y13, y9, y8, y7, y10⟩ := sM_e hO hy.2.1
    have r2 : ∀ t k, rg x2 o t k = rg y o t k := fun t k => rg_low hO (by rw [y7]; omega) e2
    have h2 : AR S y x2 o := AR_row hO hy.1 (by rw [e2]; exact fm_si (fm_rf _ _) rfl) r2
    obtain ⟨h3, r3⟩ := AR_deed hO h2.1 hS3 e3
    obtain ⟨h4, r4⟩ := AR_deed hO h3.1 hS e4
    have hh := AR_tr (AR_tr (AR_tr hy h2) h3) h4
    have g2 : KMm x2 o C (upC M c' l7) := KMm_c hO hy.1 (CK_M hO hK hy.2.1) (by rw [y6]; exact hc) e2 gy
    have g3 := AR_KM hO h2.1 (CK_M hO (CK_M hO hK hy.2.1) h2.2.1) h3 (fun j _ => by rw [e3, si_cell (by omega)]) r3 g2
    have g4 := AR_KM hO h3.1 (CK_M hO (CK_M hO (CK_M hO hK hy.2.1) h2.2.1) h3.2.1) h4 (fun j _ => by rw [e4, si_cell (by omega)]) r4 g3
    rw [eN, hh.2.1 84 _ (by unfold sMk; omega)]
    obtain ⟨z6, z9', z13, z9, z8, z7, z10⟩ := sM_e hO hh.2.1
    have e8 : (8 + x.1 84 (M.2.2 T).2.2.1).toInt = ((8 + p : Nat) : Int) := by rw [t_add (by rw [k8]; omega) (by rw [k8]; omega), k8, k84]; push_cast; rfl
    refine kh_seta (S := fun _ => False) hq ho h4.1 _ _ _ et e8 hT6 (by rw [z8]; push_cast; omega) (by omega) (fun q => by omega) (fun q => by omega) (fun j _ q => by rw [z9] at q; omega) (fun z hz fz lz gz => ri_i (hF _ z (AR_tr hh (AR_w hz (fun _ q => absurd q (fun e => e)))) (fun z9 => absurd rfl z9) (fun _ f9 hf9 => ?_) (Or.inr ⟨f, hev, rfl, ?_⟩)))
    · have ef9 : f = f9 := Option.some.inj (hev.symm.trans hf9)
      rw [← ef9, hef, hz.2.2.2 3 (fun e => e), hz.2.2.2 4 (fun e => e), e4, si_get, if_neg (by omega), si_get, if_pos ⟨rfl, rfl⟩, e3, si_get, if_pos ⟨rfl, rfl⟩]
      refine ⟨rfl, ?_⟩
      show l7 = upf M.1 c' l7 c'
      rw [upf_eq]
    rw [hef, toV_s hto]
    obtain ⟨-, -, w13, w9, w8, -, -⟩ := sM_e hO hz.2.1
    have hA4 := (h4.1.2.2 T (by rw [z10]; omega)).1
    exact KMm_T hO h4.1 (CK_M hO hK hh.2.1) hz.2.1 lz (fun t k ht hk => by rw [gz t k hk, if_neg (fun z => ht z.1)]) g4 (kTq_l h4.1.1 h4.1.2.1 hA4 w13 w9 (p := p) (v := l6) (by rw [z13]; omega) (fun k hk => by
      rw [gz T k hk]
      by_cases c3 : k = 8 + p
      · rw [if_pos ⟨rfl, c3⟩, if_pos c3]
      · rw [if_neg (fun z => c3 z.2), if_neg c3]) (g4.2 T hT))
  refine kg_X5_doExchange_0 hq ho _ _ _ _ ⟨vc, vs, ?_⟩
  rw [eN, nc, old]
  refine ⟨fun n3 => ⟨vs, fun n4 => ?_, fun c4 => ⟨vs, ?_⟩⟩, fun c3 => ?_⟩
  · have e2 : st.1 = 2 := by
      have a : ¬ st.1 = 3 := fun z => n3 ((op_i 3 (by decide)).mpr z)
      have b : ¬ st.1 = 4 := fun z => n4 ((op_i 4 (by decide)).mpr z)
      omega
    exact p122 x _ _ 0 (AR_rf hM) (fun _ _ => rfl) g (by rw [hx2 (by omega)]; rfl) (by rw [e2, ef_2])
  · have e4 : st.1 = 4 := (op_i 4 (by decide)).mp c4
    obtain ⟨Q, hQ⟩ := ns.2.2.2.2.2.2.1 e4
    obtain ⟨q1, q2⟩ := ns.2.2.2.2.2.2.2.2.2.1 Q hQ
    have k89 := kn.2.2.2.2.2.2.2.2
    rw [hQ] at k89
    refine kh_ev hq ho hM hK hT gT _ _ et k89 q1 q2 hml (fun r10 y fy hwk => ?_)
    obtain ⟨hy, ry⟩ := AR_wk (S := S) hO hM fy
    have gy : KMm y o C M := AR_KM hO hM hK hy (fun j _ => fy _ _ (by unfold sWk; omega)) ry g
    rcases hwk with ⟨v9, hw, er, y5⟩ | ⟨hw, y5⟩
    · subst er
      have hev : evO (M.2.2 T).2.2.2.2.2.2.2 (Int32.ofNat T) st.2.2.2.2.2.2.2.2.2 = some r10 := by rw [hQ]; exact hw
      refine ⟨fun _ => ⟨fun nv => ?_, fun ev => ?_⟩, fun c => absurd y5 c⟩
      · refine kg_X5_doExchange_104 hq ho _ _ _ _ _ _ _ ⟨fun _ => p122 y _ _ r10 hy ry gy hev (by rw [e4, ef_4, if_neg nv, if_neg nv]), fun c => absurd c nv⟩
      · refine kg_X5_doExchange_104 hq ho _ _ _ _ _ _ _ ⟨fun c => absurd ev c, fun _ => p122 y _ _ r10 hy ry gy hev (by rw [e4, ef_4, if_pos ev, if_pos ev])⟩
    · refine ⟨fun c => ?_, fun _ => ri_i (hF _ y hy (fun _ => ⟨fy _ _ (by unfold sWk; omega), fy _ _ (by unfold sWk; omega)⟩) (fun z9 => absurd z9 (by decide)) (Or.inl ⟨by rw [hQ]; exact hw, rfl, gy⟩))⟩
      rw [y5] at c; exact absurd c (by decide)
  · have e3 : st.1 = 3 := (op_i 3 (by decide)).mp c3
    exact p122 x _ _ 0 (AR_rf hM) (fun _ _ => rfl) g (by rw [hx2 (by omega)]; rfl) (by rw [e3, ef_3])
/-- an access -/
theorem kh_access (hq : kV q) (ho : kiM q o) (hM : MM x o) (hK : CK x C) (hN : NC C) (hX : NXc C) (hX3 : NX3 C) (g : KMm x o C M) (wy : x.1 o 3 = Int32.ofNat w) (w01 : w = 0 ∨ w = 1) (t p : Int32) (et : t.toInt = T) (hT : T < C.2.1.length) (h1 : (M.2.2 T).1 = 1) (hw0 : (M.2.2 T).2.2.2.1 = 0) (o4 : (stN C (M.2.2 T).2.2.1).1 ≤ 4) (hp : p = Int32.ofNat (stN C (M.2.2 T).2.2.1).1) (hd3 : x.1 (o + 20) 3 = 0) (hd4 : x.1 (o + 20) 4 = 0) (hF : ∀ r y, AR S234 x y o → (y.1 (o + 20) 2 = (lkM C w M T).2.1 ∧ y.1 (o + 20) 3 = dRd M T (soM C (M.2.2 T)) (lkM C w M T) ∧ y.1 (o + 20) 4 = dWr M (soM C (M.2.2 T)) (lkM C w M T)) → (r = 0 → 0 ≤ (y.1 (o + 20) 2).toInt ∧ (y.1 (o + 20) 2).toInt < (x.1 60 6).toInt) → ((¬ r = 0 ∧ r = Int32.ofNat (lkM C w M T).1 ∧ ¬ (lkM C w M T).1 = 0 ∧ KMm y o C M) ∨ (r = 0 ∧ (lkM C w M T).1 = 0 ∧ KMm y o C (M1c C w M T wk))) → F r y) : KT G q (d + 3) zk_X5_doAccess 0 [(0, vr o), (1, vi t), (2, vi (rg x o T 2)), (3, vi p)] [] x (ri F) := by
  have hO := kiM_O ho
  have nT : (x.1 60 10).toInt = C.2.1.length := hK.2.1.1
  have hT6 := MM_6 hM.1 (t := T) (by omega)
  have hA := (hM.2.2 T (by omega)).1
  obtain ⟨b1, b2, b3, b4, b5, b6, b7⟩ := MG_b hM.1 hM.2.1
  have c24 := hM.1.1.1
  have m8 := hM.1.1.2.2.2.1
  have k8 : (8 : Int32).toInt = 8 := rfl
  have gT := g.2 T hT
  obtain ⟨st, s1, s2, s3, s4, s5, kn, ns⟩ := kst_at hM hK hN hT gT
  obtain ⟨vs, eN, -⟩ := MM_st hM.1 hA
  rw [s3] at eN
  have o4' := o4
  rw [s2] at o4 hp
  have hml := gT.2.2.2.2.2.2.2.2 (Or.inl h1)
  rw [s2] at hml
  obtain ⟨x1, x2, x3, -, x5, x6⟩ := hX _ st s1
  have so : soM C (M.2.2 T) = st.1 := by unfold soM; rw [if_pos hw0, s2]
  have pi : ∀ n : Nat, n < 22 → (p = Int32.ofNat n ↔ st.1 = n) := fun n hn => by
    have e1 : (Int32.ofNat n).toInt = (n : Nat) := Int32.toInt_ofNat_of_lt (by omega)
    have e2 : (Int32.ofNat st.1).toInt = (st.1 : Nat) := Int32.toInt_ofNat_of_lt (by omega)
    rw [hp, t_eq, e1, e2]
    omega
  refine kg_X5_doAccess_0 hq ho _ _ _ (kh_placeOf hq ho hM hK hN g _ et hT h1 o4' (fun c y fy hc x3' e3 => ?_))
  have fM := fm_w fy (fun c k q => sLk_M q)
  have hy : AR S234 x y o := ⟨MM_Lk hO fy hM, fM, fun t k _ => rg_Lk hO fy t k, fun k _ => fy _ _ (by unfold sLk; omega)⟩
  have gy : KMm y o C M := KMm_Lk hO hM hK fy g
  obtain ⟨h3, r3⟩ := AR_deed (S := S234) hO hy.1 (Or.inl rfl) e3
  have hh := AR_tr hy h3
  have rr : ∀ t k, rg x3' o t k = rg x o t k := fun t k => by rw [r3, rg_Lk hO fy]
  have g3 : KMm x3' o C M := AR_KM hO hy.1 (CK_M hO hK fM) h3 (fun j _ => by rw [e3, si_cell (by omega)]) r3 gy
  have hK3 : CK x3' C := CK_M hO hK hh.2.1
  have d3 : x3'.1 (o + 20) 3 = 0 := by rw [e3, si_get, if_neg (by omega), fy _ _ (by unfold sLk; omega)]; exact hd3
  have d4 : x3'.1 (o + 20) 4 = 0 := by rw [e3, si_get, if_neg (by omega), fy _ _ (by unfold sLk; omega)]; exact hd4
  have d2 : x3'.1 (o + 20) 2 = c := by rw [e3, si_get, if_pos ⟨rfl, rfl⟩]
  obtain ⟨y6, y9', y13, y9, y8, y7, y10⟩ := sM_e hO hh.2.1
  rcases hc with ⟨l0, lc, lc0, lc1⟩ | ⟨ln, lc, l14⟩
  · -- the cell
    have cn : ¬ c = -1 := fun z => by rw [z, tm1] at lc0; omega
    refine ⟨fun _ => ?_, fun z => absurd z cn⟩
    obtain ⟨c', ec⟩ : ∃ c' : Nat, c.toInt = c' := ⟨c.toInt.toNat, by omega⟩
    have nc : (lkI C M T).2.toNatClampNeg = c' := by rw [← lc, t_cl, ec]; rfl
    have hcc : (c' : Int) < (x.1 60 6).toInt := by omega
    have hsu : suM C c' = suM C st.2.2.2.2.1.toNatClampNeg := by
      cases hix : st.2.2.2.2.2.2.2.1 with
      | none =>
        rw [lkI_n (by rw [s2]; exact hix), s2] at nc
        have nc : st.2.2.2.2.1.toNatClampNeg = c' := nc
        rw [nc]
      | some Q =>
        have hix' : (stN C (M.2.2 T).2.2.1).2.2.2.2.2.2.2.1 = some Q := by rw [s2]; exact hix
        cases hwk : wkQ (M.2.2 T).2.2.2.2.2.2.2 (fun _ => 0) (Int32.ofNat T) Q with
        | none => rw [lkI_1 hix' hwk] at l0; exact absurd l0 (by decide)
        | some v =>
          by_cases cv : v < 0 ∨ (stN C (M.2.2 T).2.2.1).2.2.2.2.2.1 ≤ v
          · rw [lkI_2 hix' hwk cv] at l0; exact absurd l0 (by decide)
          · rw [lkI_0 hix' hwk cv, s2] at lc
            rw [s2] at cv
            have lc : c = st.2.2.2.2.1 + v := lc
            have v0 : 0 ≤ v.toInt := by
              have : ¬ v < 0 := fun z => cv (Or.inl z)
              rw [t_lt] at this
              have k0 : (0 : Int32).toInt = 0 := rfl
              omega
            have v1 : v.toInt < st.2.2.2.2.2.1.toInt := by
              have : ¬ st.2.2.2.2.2.1 ≤ v := fun z => cv (Or.inr z)
              rw [t_le] at this
              omega
            obtain ⟨z1, z2, z3⟩ := x6 o4
            have z3 := z3 (by rw [hix]; exact fun z => nomatch z)
            have nC : (x.1 60 6).toInt = C.2.2.1.length := hK.2.2.1.1
            have e5 : c.toInt = st.2.2.2.2.1.toInt + v.toInt := by rw [lc, t_add (by omega) (by omega)]
            have := hX3 _ st s1 o4 (by rw [hix]; exact fun z => nomatch z) v.toInt.toNat (by omega)
            rw [← this]
            congr 1
            rw [t_cl]
            omega
    refine kh_seenBy hq ho h3.1 hK3 g3 _ _ et hT ec (by rw [y6]; exact hcc) ⟨fun np0 => ⟨vs, ?_⟩, fun p0 z ez => ⟨vs, ?_⟩⟩
    · have n0 : ¬ st.1 = 0 := fun z => np0 ((pi 0 (by decide)).mpr z)
      obtain ⟨Q, hQ⟩ := ns.2.2.2.2.2.1 (by omega)
      obtain ⟨q1, q2⟩ := ns.2.2.2.2.2.2.2.2.1 Q hQ
      have k88 := kn.2.2.2.2.2.2.2.1
      rw [hQ] at k88
      have hS3' : SUk x3' (x.1 88 (M.2.2 T).2.2.1) (Q.map cQ) := SUk_f k88 (fun c k hc => hh.2.1 c k (by unfold sMk; omega))
      rw [eN, hh.2.1 88 _ (by unfold sMk; omega)]
      refine kh_ev hq ho h3.1 hK3 hT (g3.2 T hT) _ _ et hS3' q1 q2 (by rw [y13]; exact hml) (fun r12 w9 fw hwk => ?_)
      obtain ⟨hw, rw9⟩ := AR_wk (S := fun _ => False) hO h3.1 fw
      have hxw : AR S234 x w9 o := AR_tr hh (AR_w hw (fun _ q => absurd q (fun e => e)))
      have w2 : w9.1 (o + 20) 2 = c := by rw [hw.2.2.2 2 (fun e => e)]; exact d2
      have w3 : w9.1 (o + 20) 3 = 0 := by rw [hw.2.2.2 3 (fun e => e)]; exact d3
      have w4 : w9.1 (o + 20) 4 = 0 := by rw [hw.2.2.2 4 (fun e => e)]; exact d4
      have gw : KMm w9 o C M := AR_KM hO h3.1 hK3 hw (fun j _ => fw _ _ (by unfold sWk; omega)) rw9 g3
      obtain ⟨w6, w9', w13, wo9, w8, w7, w10⟩ := sM_e hO hxw.2.1
      have fin : ∀ (S : Nat → Prop) (r : Int32) (u : gd), (∀ k, S k → k = 3 ∨ k = 4) → AR S w9 u o → ((lkM C w M T).2.1 = (lkI C M T).2 ∧ u.1 (o + 20) 3 = dRd M T (soM C (M.2.2 T)) (lkM C w M T) ∧ u.1 (o + 20) 4 = dWr M (soM C (M.2.2 T)) (lkM C w M T)) → ((¬ r = 0 ∧ r = Int32.ofNat (lkM C w M T).1 ∧ ¬ (lkM C w M T).1 = 0 ∧ KMm u o C M) ∨ (r = 0 ∧ (lkM C w M T).1 = 0 ∧ KMm u o C (M1c C w M T wk))) → ri F (some (vi r)) u := fun S r u hS hu hd hr => ri_i (hF r u (AR_tr hxw (AR_w hu (fun k hk => by have := hS k hk; show k = 2 ∨ k = 3 ∨ k = 4; omega))) ⟨by rw [hu.2.2.2 2 (fun q => by have := hS 2 q; omega), w2, hd.1]; exact lc, hd.2⟩ (fun _ => by rw [hu.2.2.2 2 (fun q => by have := hS 2 q; omega), w2]; omega) hr)
      have wT : rg w9 o T 2 = rg x o T 2 := by rw [rw9, rr]
      rcases hwk with ⟨v9, hwv, er, y5⟩ | ⟨hwv, y5⟩
      · subst er
        have ev1 : evO (M.2.2 T).2.2.2.2.2.2.2 (Int32.ofNat T) (stN C (M.2.2 T).2.2.1).2.2.2.2.2.2.2.2.1 = some r12 := by rw [s2, hQ]; exact hwv
        refine ⟨fun _ => ⟨fun np1 => ?_, fun p1 => ?_⟩, fun c => absurd y5 c⟩
        · have n1 : ¬ st.1 = 1 := fun z => np1 ((pi 1 (by decide)).mpr z)
          rw [← wT]
          refine kh_exch (S := fun k => k = 3 ∨ k = 4) (w := w) (wk := wk) (Or.inl rfl) (Or.inr rfl) hq ho hw.1 (CK_M hO hK hxw.2.1) hN gw _ _ _ et hT h1 s1 (by omega) (fun n4 => ?_) ec (by rw [w6]; exact hcc) (fun r u hu hf1 hf2 hr => ?_)
          · cases hz : st.2.2.2.2.2.2.2.2.2 with
            | none => rfl
            | some Q9 => exact absurd (x2 (by rw [hz]; exact fun z => nomatch z)) n4
          · rcases hr with ⟨e2, er, gu⟩ | ⟨f, e2, er, gu⟩
            · have ll := lkM_2 (w := w) hw0 l0 ev1 (by rw [s2]; exact e2)
              have hf1 := hf1 (by rw [er]; decide)
              refine fin _ r u (fun _ q => q) hu ⟨by rw [ll], by rw [hf1.1, w3, dr_F (by rw [ll]; simp)], by rw [hf1.2, w4, dw_F (by rw [ll]; simp)]⟩ ?_
              rw [ll]
              exact Or.inl ⟨by rw [er]; decide, er, by show ¬ 1 = 0; decide, gu⟩
            · have ll := lkM_3 (w := w) hw0 l0 ev1 (by rw [s2]; exact e2)
              rw [s2, rsF_a o4 n1] at ll
              have hf2 := hf2 er f e2
              have o24 : soM C (M.2.2 T) = 2 ∨ soM C (M.2.2 T) = 3 ∨ soM C (M.2.2 T) = 4 := by omega
              refine fin _ r u (fun _ q => q) hu ⟨by rw [ll], by rw [hf2.1, dr_x (by rw [ll]) o24, ll, ← nc], by rw [hf2.2, dw_ef (C := C) (w := w) (T := T) (wk := wk) (by rw [ll]) o24, so, ll, ← nc]⟩ ?_
              refine Or.inr ⟨er, by rw [ll], ?_⟩
              unfold M1c
              rw [ll, so, s2]
              show KMm u o C (upT (efM C w M T st.1 (lkI C M T).2.toNatClampNeg r12 f wk).1 T (wLv ((efM C w M T st.1 (lkI C M T).2.toNatClampNeg r12 f wk).1.2.2 T) (toV st (M.2.2 T).2.2.2.2.2.2.2 (efM C w M T st.1 (lkI C M T).2.toNatClampNeg r12 f wk).2)))
              rw [nc]
              have ee : (efM C w M T st.1 c' r12 f wk).1.2.2 T = M.2.2 T := by
                have : st.1 = 2 ∨ st.1 = 3 ∨ st.1 = 4 := by omega
                rcases this with e | e | e
                · rw [e, ef_2]; rfl
                · rw [e, ef_3]; rfl
                · rw [e, ef_4]; rfl
              rw [ee]
              exact gu
        · have n1 : st.1 = 1 := (pi 1 (by decide)).mp p1
          have z2 : st.2.2.2.2.2.2.2.2.2 = none := by
            cases hz : st.2.2.2.2.2.2.2.2.2 with
            | none => rfl
            | some Q9 => exact absurd (x2 (by rw [hz]; exact fun z => nomatch z)) (by omega)
          have zt : st.2.2.2.1 = none := x5 (by omega)
          rw [← wT]
          refine kh_write (S := fun k => k = 4) (f := 0) (wk := wk) rfl hq ho hw.1 (CK_M hO hK hxw.2.1) hN gw (by rw [hxw.2.1 o 3 (by unfold sMk; omega)]; exact wy) w01 _ _ _ et hT s1 n1 ec (by rw [w6]; exact hcc) hsu (fun r u hu hf1 hf2 hr => ?_)
          have ll := lkM_3 (w := w) hw0 l0 ev1 (show evO (M.2.2 T).2.2.2.2.2.2.2 (Int32.ofNat T) (stN C (M.2.2 T).2.2.1).2.2.2.2.2.2.2.2.2 = some 0 by rw [s2, z2]; rfl)
          rw [s2, n1, rsF_1, nc] at ll
          rcases hr with ⟨cc, er, gu⟩ | ⟨cc, er, gu⟩
          · rw [if_pos cc] at ll
            have hf1 := hf1 (by rw [er]; decide)
            refine fin _ r u (fun _ q => Or.inr q) hu ⟨by rw [ll], by rw [hu.2.2.2 3 (by decide), w3, dr_F (by rw [ll]; simp)], by rw [hf1, w4, dw_F (by rw [ll]; simp)]⟩ ?_
            rw [ll]
            exact Or.inl ⟨by rw [er]; decide, er, by show ¬ 9 = 0; decide, gu⟩
          · rw [if_neg cc] at ll
            have hf2 := hf2 er
            refine fin _ r u (fun _ q => Or.inr q) hu ⟨by rw [ll], by rw [hu.2.2.2 3 (by decide), w3, dr_n (by omega)], by rw [hf2, dw_e (by rw [ll]) (by omega), ll]⟩ ?_
            refine Or.inr ⟨er, by rw [ll], ?_⟩
            unfold M1c
            rw [ll, so, s2, n1]
            show KMm u o C (upT (efM C w M T 1 (lkI C M T).2.toNatClampNeg r12 0 wk).1 T (wLv ((efM C w M T 1 (lkI C M T).2.toNatClampNeg r12 0 wk).1.2.2 T) (toV st (M.2.2 T).2.2.2.2.2.2.2 (efM C w M T 1 (lkI C M T).2.toNatClampNeg r12 0 wk).2)))
            rw [nc, toV_n zt, upT_id]
            · exact gu
            · have ee : ((efM C w M T 1 c' r12 0 wk).1.2.2 T).2.2.2.2.2.2.2 = (M.2.2 T).2.2.2.2.2.2.2 := by
                rw [ef_1]
                split
                · rfl
                · show (upf M.2.2 T _ T).2.2.2.2.2.2.2 = _
                  unfold upf
                  rw [if_pos rfl]
              rw [← ee]
              rfl
      · refine ⟨fun c => ?_, fun _ => fin (fun _ => False) _ w9 (fun _ q => absurd q (fun e => e)) (AR_rf hw.1) ?_ ?_⟩
        · rw [y5] at c; exact absurd c (by decide)
        · have ll := lkM_1 (w := w) hw0 l0 (show evO (M.2.2 T).2.2.2.2.2.2.2 (Int32.ofNat T) (stN C (M.2.2 T).2.2.1).2.2.2.2.2.2.2.2.1 = none by rw [s2, hQ]; exact hwv)
          exact ⟨by rw [ll], by rw [w3, dr_F (by rw [ll]; simp)], by rw [w4, dw_F (by rw [ll]; simp)]⟩
        · have ll := lkM_1 (w := w) hw0 l0 (show evO (M.2.2 T).2.2.2.2.2.2.2 (Int32.ofNat T) (stN C (M.2.2 T).2.2.1).2.2.2.2.2.2.2.2.1 = none by rw [s2, hQ]; exact hwv)
          rw [ll]
          exact Or.inl ⟨by decide, rfl, by show ¬ 1 = 0; decide, gw⟩
    · -- a read
      have n0 : st.1 = 0 := (pi 0 (by decide)).mp p0
      obtain ⟨hz, rz⟩ := AR_deed (S := fun k => k = 3) hO h3.1 rfl ez
      have hxz : AR S234 x z o := AR_tr hh (AR_w hz (fun k q => Or.inr (Or.inl q)))
      have gz9 : KMm z o C M := AR_KM hO h3.1 hK3 hz (fun j _ => by rw [ez, si_cell (by omega)]) rz g3
      rw [eN, hxz.2.1 84 _ (by unfold sMk; omega)]
      obtain ⟨t1, t2⟩ := (hM.1.2.2.2.1 _ s4).2.2.2.1 (Or.inl (by omega))
      obtain ⟨pl, hto, -⟩ := ns.2.2.2.1 (Or.inl n0)
      have k84 := kn.2.2.1 (Or.inl n0)
      rw [hto] at k84
      have k84 : (x.1 84 (M.2.2 T).2.2.1).toInt = (pl : Nat) := k84
      have t2 : (x.1 84 (M.2.2 T).2.2.1).toInt < (x.1 60 13).toInt := t2
      have e8 : (8 + x.1 84 (M.2.2 T).2.2.1).toInt = ((8 + pl : Nat) : Int) := by rw [t_add (by rw [k8]; omega) (by rw [k8]; omega), k8, k84]; push_cast; rfl
      obtain ⟨w6, w9', w13, wo9, w8, w7, w10⟩ := sM_e hO hxz.2.1
      have z1 : st.2.2.2.2.2.2.2.2.1 = none := by
        cases hz : st.2.2.2.2.2.2.2.2.1 with
        | none => rfl
        | some Q9 => exact absurd (x3 (by rw [hz]; exact fun z => nomatch z)) (by omega)
      have z2 : st.2.2.2.2.2.2.2.2.2 = none := by
        cases hz : st.2.2.2.2.2.2.2.2.2 with
        | none => rfl
        | some Q9 => exact absurd (x2 (by rw [hz]; exact fun z => nomatch z)) (by omega)
      have ll := lkM_3 (w := w) hw0 l0 (show evO (M.2.2 T).2.2.2.2.2.2.2 (Int32.ofNat T) (stN C (M.2.2 T).2.2.1).2.2.2.2.2.2.2.2.1 = some 0 by rw [s2, z1]; rfl) (show evO (M.2.2 T).2.2.2.2.2.2.2 (Int32.ofNat T) (stN C (M.2.2 T).2.2.1).2.2.2.2.2.2.2.2.2 = some 0 by rw [s2, z2]; rfl)
      rw [s2, rsF_a o4 (by omega)] at ll
      refine kh_seta (S := fun _ => False) hq ho hz.1 _ _ _ et e8 hT6 (by rw [w8]; push_cast; omega) (by omega) (fun q => by omega) (fun q => by omega) (fun j _ q => by rw [wo9] at q; omega) (fun u hu fu lu gu => ri_i (hF _ u (AR_tr hxz (AR_w hu (fun _ q => absurd q (fun e => e)))) ⟨?_, ?_, ?_⟩ (fun _ => ?_) (Or.inr ⟨rfl, ?_, ?_⟩)))
      · rw [hu.2.2.2 2 (fun e => e), hz.2.2.2 2 (by decide), d2, ll]; exact lc
      · rw [hu.2.2.2 3 (fun e => e), ez, si_get, if_pos ⟨rfl, rfl⟩, so, n0, dr_0 (by rw [ll]), ll, ← nc]
      · rw [hu.2.2.2 4 (fun e => e), hz.2.2.2 4 (by decide), d4, dw_n (by omega)]
      · rw [hu.2.2.2 2 (fun e => e), hz.2.2.2 2 (by decide), d2]; omega
      · rw [ll]
      · unfold M1c
        rw [ll, so, s2, n0]
        show KMm u o C (upT (efM C w M T 0 (lkI C M T).2.toNatClampNeg 0 0 wk).1 T (wLv ((efM C w M T 0 (lkI C M T).2.toNatClampNeg 0 0 wk).1.2.2 T) (toV st (M.2.2 T).2.2.2.2.2.2.2 (efM C w M T 0 (lkI C M T).2.toNatClampNeg 0 0 wk).2)))
        rw [nc, ef_0, toV_s hto]
        obtain ⟨-, -, u13, u9, u8, -, -⟩ := sM_e hO hu.2.1
        have hA4 := (hz.1.2.2 T (by rw [w10]; omega)).1
        exact KMm_T hO hz.1 (CK_M hO hK hxz.2.1) hu.2.1 lu (fun t k ht hk => by rw [gu t k hk, if_neg (fun z => ht z.1)]) gz9 (kTq_l hz.1.1 hz.1.2.1 hA4 u13 u9 (p := pl) (v := seM M T c') (by rw [w13]; omega) (fun k hk => by
          rw [gu T k hk]
          by_cases c3 : k = 8 + pl
          · rw [if_pos ⟨rfl, c3⟩, if_pos c3]
          · rw [if_neg (fun z => c3 z.2), if_neg c3]) (gz9.2 T hT))
  · -- no cell
    have e14 : x3'.1 o 14 = Int32.ofNat (lkI C M T).1 := by rw [e3, si_cell (by omega)]; exact l14
    have ll := lkM_i (w := w) hw0 ln
    have l3 : (lkI C M T).1 ≤ 2 := by
      unfold lkI
      split
      · exact Nat.zero_le _
      · split
        · exact (by decide : (1 : Nat) ≤ 2)
        · split
          · exact Nat.le_refl _
          · exact Nat.zero_le _
    have nz : ¬ Int32.ofNat (lkI C M T).1 = 0 := fun z => by
      have s : ∀ n, n < 3 → (Int32.ofNat n = 0 → n = 0) := by decide +kernel
      exact ln (s _ (by omega) z)
    refine ⟨fun z => absurd lc z, fun _ => ri_i (hF _ x3' hh ⟨?_, ?_, ?_⟩ (fun c0 => ?_) (Or.inl ⟨?_, ?_, ?_, g3⟩))⟩
    · rw [d2, lc, ll, lkI_m ln]
    · rw [d3, dr_F (by rw [ll]; exact ln)]
    · rw [d4, dw_F (by rw [ll]; exact ln)]
    · rw [e14] at c0; exact absurd c0 nz
    · rw [e14]; exact nz
    · rw [e14, ll]
    · rw [ll]; exact ln
end KMA2
end
section
/-! the class: an act is done -/
section KMC
variable {G : kG} {q : kP} {d : Nat} {x x0 y z : gd} {o : Nat} {F : Int32 → gd → Prop} {Fv : gd → Prop} {C : gCo} {M : gMa} {h h' : gTq} {t T w k c s : Nat} {e f : Int32} {wk : Option Nat}
theorem rsF_b (h : s = 5 ∨ s = 10 ∨ s = 11 ∨ s = 12) : rsF C w M T s c = 0 := by
  unfold rsF
  rw [if_neg (fun z => by omega), if_neg (fun z => by omega), if_neg (fun z => by omega), if_neg (fun z => by omega), if_neg (fun z => by omega)]
theorem rsF_6 : rsF C w M T 6 c = if (M.2.1 c).1 = T + 1 then 0 else 3 := by
  unfold rsF
  by_cases h : (M.2.1 c).1 = T + 1
  · rw [if_neg (fun z => z.2 h), if_neg (fun z => by omega), if_neg (fun z => by omega), if_neg (fun z => by omega), if_neg (fun z => by omega), if_pos h]
  · rw [if_pos ⟨rfl, h⟩, if_neg h]
theorem rsF_7 (hs : s = 7 ∨ s = 8) : rsF C w M T s c = if (M.2.1 c).1 = T + 1 then 0 else 4 := by
  unfold rsF
  by_cases h : (M.2.1 c).1 = T + 1
  · rw [if_neg (fun z => by omega), if_neg (fun z => z.2 h), if_neg (fun z => by omega), if_neg (fun z => by omega), if_neg (fun z => by omega), if_pos h]
  · rw [if_neg (fun z => by omega), if_pos ⟨hs, h⟩, if_neg h]
theorem rsF_9 : rsF C w M T 9 c = if (M.2.2 c).1 = 0 then 0 else 7 := by
  unfold rsF
  by_cases h : (M.2.2 c).1 = 0
  · rw [if_neg (fun z => by omega), if_neg (fun z => by omega), if_neg (fun z => z.2 h), if_neg (fun z => by omega), if_neg (fun z => by omega), if_pos h]
  · rw [if_neg (fun z => by omega), if_neg (fun z => by omega), if_pos ⟨rfl, h⟩, if_neg h]
theorem rsF_13 (hs : s = 13 ∨ s = 14) : rsF C w M T s c = if ((s = 13 ∧ ¬ (M.2.2 T).2.2.2.2.2.1 = -1) ∨ (s = 14 ∧ (M.2.2 T).2.2.2.2.2.1 = -1)) then 8 else 0 := by
  unfold rsF
  rw [if_neg (fun z => by omega), if_neg (fun z => by omega), if_neg (fun z => by omega)]
  by_cases h : (s = 13 ∧ ¬ (M.2.2 T).2.2.2.2.2.1 = -1) ∨ (s = 14 ∧ (M.2.2 T).2.2.2.2.2.1 = -1)
  · rw [if_pos h, if_pos h]
  · rw [if_neg h, if_neg h, if_neg (fun z => by omega)]
/-- nothing is kept of it -/
theorem M1c_is {E : gMa} {v : Int32} (e9 : efM C w M T (soM C (M.2.2 T)) (lkM C w M T).2.1.toNatClampNeg (lkM C w M T).2.2.1 (lkM C w M T).2.2.2 wk = (E, v)) (hto : (stN C (M.2.2 T).2.2.1).2.2.2.1 = none) (hl : (E.2.2 T).2.2.2.2.2.2.2 = (M.2.2 T).2.2.2.2.2.2.2) : M1c C w M T wk = E := by
  unfold M1c
  rw [e9, toV_n hto, ← hl]
  exact upT_id rfl
/-- a lock's act looked at -/
theorem lkM_b {st : gNs} (hX : NXc C) (hst : C.1[(M.2.2 T).2.2.1]? = some st) (s2 : stN C (M.2.2 T).2.2.1 = st) (hw0 : (M.2.2 T).2.2.2.1 = 0) (h5 : 5 ≤ st.1 ∧ st.1 ≤ 12) : lkM C w M T = (rsF C w M T st.1 (obM C (M.2.2 T).2.2.1), st.2.2.2.2.1, 0, 0) := by
  obtain ⟨x1, x2, x3, -, x5, x6⟩ := hX _ st hst
  have z0 : st.2.2.2.2.2.2.2.1 = none := by
    cases hz : st.2.2.2.2.2.2.2.1 with
    | none => rfl
    | some Q9 => exact absurd (x1 (by rw [hz]; exact fun z => nomatch z)) (by omega)
  have z1 : st.2.2.2.2.2.2.2.2.1 = none := by
    cases hz : st.2.2.2.2.2.2.2.2.1 with
    | none => rfl
    | some Q9 => exact absurd (x3 (by rw [hz]; exact fun z => nomatch z)) (by omega)
  have z2 : st.2.2.2.2.2.2.2.2.2 = none := by
    cases hz : st.2.2.2.2.2.2.2.2.2 with
    | none => rfl
    | some Q9 => exact absurd (x2 (by rw [hz]; exact fun z => nomatch z)) (by omega)
  have li := lkI_n (M := M) (t := T) (C := C) (by rw [s2]; exact z0)
  rw [lkM_3 (w := w) hw0 (by rw [li]) (show evO (M.2.2 T).2.2.2.2.2.2.2 (Int32.ofNat T) (stN C (M.2.2 T).2.2.1).2.2.2.2.2.2.2.2.1 = some 0 by rw [s2, z1]; rfl) (show evO (M.2.2 T).2.2.2.2.2.2.2 (Int32.ofNat T) (stN C (M.2.2 T).2.2.1).2.2.2.2.2.2.2.2.2 = some 0 by rw [s2, z2]; rfl), li]
  unfold obM
  rw [s2]
theorem kh_act (hq : kV q) (ho : kiM q o) (hM : MM x o) (hK : CK x C) (hN : NC C) (hX : NXc C) (hX3 : NX3 C) (g : KMm x o C M) (wy : x.1 o 3 = Int32.ofNat w) (w01 : w = 0 ∨ w = 1) (t p wv : Int32) (et : t.toInt = T) (hT : T < C.2.1.length) (h1 : (M.2.2 T).1 = 1) (hp : p = Int32.ofNat (soM C (M.2.2 T))) (hu0 : wk = none → wv = -1) (hu1 : ∀ k, wk = some k → wv = Int32.ofNat k ∧ k ∈ waM C M (obM C (M.2.2 T).2.2.1)) (hd2 : x.1 (o + 20) 2 = x.1 85 (rg x o T 2).toInt.toNat) (hd3 : x.1 (o + 20) 3 = 0) (hd4 : x.1 (o + 20) 4 = 0) (hd6 : x.1 (o + 20) 6 = 0) (hF : ∀ r y, AR S346 x y o → KD4 y o C w M T wk → (r = 0 → (p.toInt ≤ 4 → 0 ≤ (y.1 (o + 20) 2).toInt ∧ (y.1 (o + 20) 2).toInt < (x.1 60 6).toInt) ∧ (¬ p.toInt ≤ 4 → y.1 (o + 20) 2 = x.1 (o + 20) 2)) → ((¬ r = 0 ∧ r = Int32.ofNat (lkM C w M T).1 ∧ ¬ (lkM C w M T).1 = 0 ∧ KMm y o C M) ∨ (r = 0 ∧ (lkM C w M T).1 = 0 ∧ (¬ soM C (M.2.2 T) = 9 → KMm y o C (M1c C w M T wk)) ∧ (soM C (M.2.2 T) = 9 → y = x ∧ (M.2.2 (obM C (M.2.2 T).2.2.1)).1 = 0))) → F r y) : KT G q (d + 4) zk_X5_actFailure 0 [(0, vr o), (1, vi t), (2, vi (rg x o T 2)), (3, vi p), (4, vi wv)] [] x (ri F) := by
  have hO := kiM_O ho
  have nT : (x.1 60 10).toInt = C.2.1.length := hK.2.1.1
  have hT6 := MM_6 hM.1 (t := T) (by omega)
  have hA := (hM.2.2 T (by omega)).1
  have t6 := hM.1.1.2.2.1
  have k1 : (1 : Int32).toInt = 1 := rfl
  have gT := g.2 T hT
  obtain ⟨st, s1, s2, s3, s4, s5, kn, ns⟩ := kst_at hM hK hN hT gT
  obtain ⟨vs, eN, -⟩ := MM_st hM.1 hA
  rw [s3] at eN
  have hcs := (hM.1.2.2.2.1 _ s4).1
  obtain ⟨x1, x2, x3, x4, x5, x6⟩ := hX _ st s1
  have k85 : ¬ st.1 = 16 → x.1 85 (M.2.2 T).2.2.1 = st.2.2.2.2.1 := kn.2.2.2.2.1
  have obE : obM C (M.2.2 T).2.2.1 = st.2.2.2.2.1.toNatClampNeg := by unfold obM; rw [s2]
  -- its going is at an act
  have hgo := (hM.2.2 T (by omega)).2 (by rw [gT.1.1, h1]; rfl)
  have o16 : st.1 < 16 := by
    have := hgo.1
    rw [s3, s5] at this
    omega
  have so9 : soM C (M.2.2 T) < 16 ∧ (¬ soM C (M.2.2 T) = 15 → (M.2.2 T).2.2.2.1 = 0 ∧ soM C (M.2.2 T) = st.1) := by
    by_cases c0 : (M.2.2 T).2.2.2.1 = 0
    · have : soM C (M.2.2 T) = st.1 := by unfold soM; rw [if_pos c0, s2]
      exact ⟨by omega, fun _ => ⟨c0, this⟩⟩
    · have : soM C (M.2.2 T) = 15 := by unfold soM; rw [if_neg c0]
      exact ⟨by omega, fun z => absurd this z⟩
  have ep : p.toInt = (soM C (M.2.2 T) : Nat) := by rw [hp]; exact Int32.toInt_ofNat_of_lt (by omega)
  have own : ¬ p.toInt = 15 → (M.2.2 T).2.2.2.1 = 0 ∧ p.toInt = (st.1 : Nat) ∧ soM C (M.2.2 T) = st.1 := fun n15 => by
    obtain ⟨a, b⟩ := so9.2 (by omega)
    exact ⟨a, by omega, b⟩
  have d2 : x.1 (o + 20) 2 = st.2.2.2.2.1 := by rw [hd2, s3]; exact k85 (by omega)
  have fin : ∀ (S : Nat → Prop) (r : Int32) (y : gd), (∀ k, S k → k = 4 ∨ k = 6) → AR S x y o → ¬ p.toInt ≤ 4 → (lkM C w M T).2.1 = st.2.2.2.2.1 → y.1 (o + 20) 4 = dWr M (soM C (M.2.2 T)) (lkM C w M T) → KDb (y.1 (o + 20) 6) (dWk C M T wk) → ((¬ r = 0 ∧ r = Int32.ofNat (lkM C w M T).1 ∧ ¬ (lkM C w M T).1 = 0 ∧ KMm y o C M) ∨ (r = 0 ∧ (lkM C w M T).1 = 0 ∧ (¬ soM C (M.2.2 T) = 9 → KMm y o C (M1c C w M T wk)) ∧ (soM C (M.2.2 T) = 9 → y = x ∧ (M.2.2 (obM C (M.2.2 T).2.2.1)).1 = 0))) → ri F (some (vi r)) y := fun S r y hS hy n4 hl h4 h6 hr => ri_i (hF r y (AR_w hy (fun k hk => by have := hS k hk; show k = 2 ∨ k = 3 ∨ k = 4 ∨ k = 6; omega)) ⟨by rw [hy.2.2.2 2 (fun q => by have := hS 2 q; omega), d2, hl], by rw [hy.2.2.2 3 (fun q => by have := hS 3 q; omega), hd3, dr_n (by omega)], h4, h6⟩ (fun _ => ⟨fun c => absurd c n4, fun _ => hy.2.2.2 2 (fun q => by have := hS 2 q; omega)⟩) hr)
  have fin0 : ∀ (r : Int32) (y : gd), AR (fun _ => False) x y o → ¬ p.toInt ≤ 4 → (lkM C w M T).2.1 = st.2.2.2.2.1 → ¬ (soM C (M.2.2 T) = 13 ∨ soM C (M.2.2 T) = 14) → ¬ soM C (M.2.2 T) = 8 → ((¬ r = 0 ∧ r = Int32.ofNat (lkM C w M T).1 ∧ ¬ (lkM C w M T).1 = 0 ∧ KMm y o C M) ∨ (r = 0 ∧ (lkM C w M T).1 = 0 ∧ (¬ soM C (M.2.2 T) = 9 → KMm y o C (M1c C w M T wk)) ∧ (soM C (M.2.2 T) = 9 → y = x ∧ (M.2.2 (obM C (M.2.2 T).2.2.1)).1 = 0))) → ri F (some (vi r)) y := fun r y hy n4 hl n1 n8 hr => fin (fun _ => False) r y (fun _ q => absurd q (fun e => e)) hy n4 hl (by rw [hy.2.2.2 4 (fun e => e), hd4, dw_n (by omega)]) (by rw [hy.2.2.2 6 (fun e => e), hd6]; exact KDb_0 (dk_n n8)) hr
  -- a lock that there is
  have lock : ∀ n : Nat, 5 ≤ n → n ≤ 8 → st.1 = n → st.2.2.2.2.1.toInt = (obM C (M.2.2 T).2.2.1 : Nat) ∧ ((obM C (M.2.2 T).2.2.1 : Nat) : Int) < (x.1 60 9).toInt := fun n n5 n8 en => by
    have a := hcs.2.1 (by omega) (by omega)
    rw [k85 (by omega)] at a
    rw [obE, t_cl]
    omega
  have tonone : ¬ (st.1 = 0 ∨ (2 ≤ st.1 ∧ st.1 ≤ 4) ∨ st.1 = 16 ∨ st.1 = 17 ∨ st.1 = 20) → (stN C (M.2.2 T).2.2.1).2.2.2.1 = none := fun z => by rw [s2]; exact x5 z
  have wake : p = 8 → ∀ a : Int32, (a = 0 ↔ st.2.2.2.2.2.2.1 = false) → KT G q (d + 4) zk_X5_actFailure 163 [(4, vi wv)] [vi a, vi (x.1 85 (M.2.2 T).2.2.1), vi t, vr o] x (ri F) := by
    intro c a ha
    have e5 : p.toInt = 8 := by rw [c]; rfl
    obtain ⟨w0, e1, e2⟩ := own (by omega)
    obtain ⟨l1, l2⟩ := lock 8 (by omega) (by omega) (by omega)
    have ll := lkM_b (w := w) hX s1 s2 w0 (by omega)
    rw [rsF_7 (Or.inr (by omega))] at ll
    rw [k85 (by omega)]
    refine kg_X5_actFailure_163 hq ho _ _ _ _ (kh_wake (S := fun k => k = 6) rfl hq ho hM hK hN g _ _ _ _ et hT l1 l2 st.2.2.2.2.2.2.1 ha wk hu0 hu1 (fun r y hy hw1 hw2 hr => ?_))
    rcases hr with ⟨er, hh, gy⟩ | ⟨er, hh, gy⟩
    · rw [if_neg hh] at ll
      refine fin _ r y (fun _ q => Or.inr q) hy (by omega) (by rw [ll]) (by rw [hy.2.2.2 4 (by decide), hd4, dw_n (by omega)]) (by rw [hw1 (by rw [er]; decide), hd6]; exact KDb_0 (dk_h hh)) ?_
      rw [ll]
      exact Or.inl ⟨by rw [er]; decide, er, by show ¬ 4 = 0; decide, gy⟩
    · rw [if_pos hh] at ll
      refine fin _ r y (fun _ q => Or.inr q) hy (by omega) (by rw [ll]) (by rw [hy.2.2.2 4 (by decide), hd4, dw_n (by omega)]) (fun u hu => ?_) ?_
      · rw [hw2 er u hu, dk_i, Bool.and_eq_true, Bool.and_eq_true, Bool.or_eq_true, beq_iff_eq, beq_iff_eq, beq_iff_eq, s2]
        exact ⟨fun z => ⟨z.1, by omega, hh, z.2.1, z.2.2.1, z.2.2.2⟩, fun z => ⟨z.1, z.2.2.2.1, z.2.2.2.2.1, z.2.2.2.2.2⟩⟩
      refine Or.inr ⟨er, by rw [ll], fun _ => ?_, fun z => by omega⟩
      rw [M1c_is (E := wkU M C.2.1.length (fun o => (M.2.2 o).2.2.2.1 == 1 && (obM C (M.2.2 o).2.2.1 == (obM C (M.2.2 T).2.2.1) && (st.2.2.2.2.2.2.1 || wk == some o)))) (v := 0) ?_ (tonone (by omega)) ?_]
      · exact gy
      · rw [ll, show soM C (M.2.2 T) = 8 by omega, ef_8, ← obE]
        refine Prod.ext (Prod.ext rfl (Prod.ext rfl (funext fun i => ?_))) rfl
        unfold wkT wkU
        rw [s2]
        refine ite_congr (propext ?_) (fun _ => rfl) (fun _ => rfl)
        rw [Bool.and_eq_true, Bool.and_eq_true, Bool.or_eq_true, beq_iff_eq, beq_iff_eq, beq_iff_eq]
      · unfold wkU
        show (if T < C.2.1.length ∧ _ then _ else M.2.2 T).2.2.2.2.2.2.2 = _
        split <;> rfl
  refine kg_X5_actFailure_0 hq ho _ _ _ _ ⟨vs, ?_⟩
  rw [eN]
  refine ⟨fun c => ?_, fun c => ?_, fun c => ?_, fun c => ?_, fun c => ?_, fun c => ⟨vs, fun c84 => ?_, fun c84 => ?_⟩, fun c => ?_, fun c => ?_, fun c => ?_⟩
  · -- an access
    have c4 : ¬ p.toInt = 15 ∧ p.toInt ≤ 4 := by rcases c with rfl | rfl | rfl | rfl | rfl <;> decide
    obtain ⟨w0, e1, e2⟩ := own c4.1
    refine kh_access (wk := wk) hq ho hM hK hN hX hX3 g wy w01 _ _ et hT h1 w0 (by rw [s2]; omega) (by rw [s2, hp, e2]) hd3 hd4 (fun r y hy h4 hd hr => ri_i (hF r y (AR_w hy (fun k hk => by show k = 2 ∨ k = 3 ∨ k = 4 ∨ k = 6; have : k = 2 ∨ k = 3 ∨ k = 4 := hk; omega)) ⟨h4.1, h4.2.1, h4.2.2, by rw [hy.2.2.2 6 (by decide), hd6]; exact KDb_0 (dk_n (by omega))⟩ (fun r0 => ⟨fun _ => hd r0, fun z => absurd c4.2 z⟩) ?_))
    rcases hr with hr | ⟨a1, a2, a3⟩
    · exact Or.inl hr
    · exact Or.inr ⟨a1, a2, fun _ => a3, fun z => by omega⟩
  · -- take
    have e5 : p.toInt = 5 := by rw [c]; rfl
    obtain ⟨w0, e1, e2⟩ := own (by omega)
    obtain ⟨l1, l2⟩ := lock 5 (by omega) (by omega) (by omega)
    have ll := lkM_b (w := w) hX s1 s2 w0 (by omega)
    rw [k85 (by omega)]
    refine kh_often hq ho hM g _ l1 l2 (kh_setLock hq ho hM hK g _ _ _ l1 l2 (n := T + 1) (i32_of (by rw [t_add (by rw [k1]; omega) (by rw [k1]; omega), k1, et]; push_cast; rfl)) (by omega) (fun y hy ry gy => fin0 _ y hy (by omega) (by rw [ll]) (by omega) (by omega) (Or.inr ⟨rfl, ?_, fun _ => ?_, fun z => by omega⟩)))
    · rw [ll]; exact rsF_b (Or.inl (by omega))
    · rw [M1c_is (E := upL M (obM C (M.2.2 T).2.2.1) (T + 1, (M.2.1 (obM C (M.2.2 T).2.2.1)).2 + 1)) (v := 0) ?_ (tonone (by omega)) rfl]
      · exact gy
      · rw [ll, show soM C (M.2.2 T) = 5 by omega, ef_5, ← obE]
  · -- give
    have e5 : p.toInt = 6 := by rw [c]; rfl
    obtain ⟨w0, e1, e2⟩ := own (by omega)
    obtain ⟨l1, l2⟩ := lock 6 (by omega) (by omega) (by omega)
    have ll := lkM_b (w := w) hX s1 s2 w0 (by omega)
    rw [show st.1 = 6 by omega, rsF_6] at ll
    rw [k85 (by omega)]
    refine kh_give hq ho hM hK g _ _ et hT6 l1 l2 (fun r y hy hr => fin0 _ y hy (by omega) (by rw [ll]) (by omega) (by omega) ?_)
    rcases hr with ⟨er, hh, gy⟩ | ⟨er, hh, gy⟩
    · rw [if_neg hh] at ll
      rw [ll]
      exact Or.inl ⟨by rw [er]; decide, er, by show ¬ 3 = 0; decide, gy⟩
    · rw [if_pos hh] at ll
      refine Or.inr ⟨er, by rw [ll], fun _ => ?_, fun z => by omega⟩
      rw [M1c_is (E := upL M (obM C (M.2.2 T).2.2.1) (if (M.2.1 (obM C (M.2.2 T).2.2.1)).2 - 1 = 0 then 0 else T + 1, (M.2.1 (obM C (M.2.2 T).2.2.1)).2 - 1)) (v := 0) ?_ (tonone (by omega)) rfl]
      · exact gy
      · rw [ll, show soM C (M.2.2 T) = 6 by omega, ef_6, ← obE]
  · -- wait
    have e5 : p.toInt = 7 := by rw [c]; rfl
    obtain ⟨w0, e1, e2⟩ := own (by omega)
    obtain ⟨l1, l2⟩ := lock 7 (by omega) (by omega) (by omega)
    have ll := lkM_b (w := w) hX s1 s2 w0 (by omega)
    rw [rsF_7 (Or.inl (by omega))] at ll
    rw [k85 (by omega)]
    refine kh_wait hq ho hM hK hN g _ _ et hT h1 w0 (by rw [s2]; omega) (by rw [s2]) l1 l2 (fun r y hy hr => fin0 _ y hy (by omega) (by rw [ll]) (by omega) (by omega) ?_)
    rcases hr with ⟨er, hh, gy⟩ | ⟨er, hh, gy⟩
    · rw [if_neg hh] at ll
      rw [ll]
      exact Or.inl ⟨by rw [er]; decide, er, by show ¬ 4 = 0; decide, gy⟩
    · rw [if_pos hh] at ll
      refine Or.inr ⟨er, by rw [ll], fun _ => ?_, fun z => by omega⟩
      rw [M1c_is (E := upT (upL M (obM C (M.2.2 T).2.2.1) (0, 0)) T ((M.2.2 T).1, (M.2.2 T).2.1, (M.2.2 T).2.2.1, 1, (M.2.1 (obM C (M.2.2 T).2.2.1)).2, (M.2.2 T).2.2.2.2.2)) (v := 0) ?_ (tonone (by omega)) (by rw [upT_at])]
      · exact gy
      · rw [ll, show soM C (M.2.2 T) = 7 by omega, ef_7, ← obE]
  · -- retake
    have e5 : p.toInt = 15 := by rw [c]; rfl
    have w0 : ¬ (M.2.2 T).2.2.2.1 = 0 := fun z => by
      have : soM C (M.2.2 T) = st.1 := by unfold soM; rw [if_pos z, s2]
      have := ns.1.2
      omega
    have o7 := gT.2.2.2.1.2.2.2 w0
    rw [s2] at o7
    obtain ⟨l1, l2⟩ := lock 7 (by omega) (by omega) (by omega)
    have ll := lkM_15 (w := w) (C := C) w0
    rw [s2] at ll
    rw [k85 (by omega)]
    refine kh_retake hq ho hM hK g _ _ et hT l1 l2 (fun y hy gy => fin0 _ y hy (by omega) (by rw [ll]) (by omega) (by omega) (Or.inr ⟨rfl, by rw [ll], fun _ => ?_, fun z => by omega⟩))
    rw [M1c_is (E := upT (upL M (obM C (M.2.2 T).2.2.1) (T + 1, (M.2.2 T).2.2.2.2.1)) T ((M.2.2 T).1, (M.2.2 T).2.1, (M.2.2 T).2.2.1, 0, 0, (M.2.2 T).2.2.2.2.2)) (v := 0) ?_ (tonone (by omega)) (by rw [upT_at])]
    · exact gy
    · rw [ll, show soM C (M.2.2 T) = 15 by omega, ef_15, ← obE]
  · exact wake c 0 ⟨fun _ => by
      cases hb : st.2.2.2.2.2.2.1 with
      | true => exact absurd ((kn.2.2.2.1 (by have e5 : p.toInt = 8 := by rw [c]; rfl
                                              have := own (by omega)
                                              omega)).mpr hb) c84
      | false => rfl, fun _ => rfl⟩
  · exact wake c 1 ⟨fun z => absurd z (by decide), fun z => by
      have := (kn.2.2.2.1 (by have e5 : p.toInt = 8 := by rw [c]; rfl
                              have := own (by omega)
                              omega)).mp c84
      rw [z] at this; cases this⟩
  · -- start
    have e5 : p.toInt = 9 := by rw [c]; rfl
    obtain ⟨w0, e1, e2⟩ := own (by omega)
    have ll := lkM_b (w := w) hX s1 s2 w0 (by omega)
    rw [show st.1 = 9 by omega, rsF_9] at ll
    have a := hcs.2.2 (by omega) (by omega)
    rw [k85 (by omega)] at a ⊢
    have l1 : st.2.2.2.2.1.toInt = (obM C (M.2.2 T).2.2.1 : Nat) := by rw [obE, t_cl]; omega
    have gc := g.2 (obM C (M.2.2 T).2.2.1) (by omega)
    have s0 := sta_0 (M.2.2 (obM C (M.2.2 T).2.2.1)).1 (by have := gc.1.2; omega)
    refine kp_get hq ho hM.1 hM.2.1 _ _ l1 (show (0 : Int32).toInt = ((0 : Nat) : Int) from rfl) (by omega) (by omega) ⟨fun c0 => fin0 _ x (AR_rf hM) (by omega) (by rw [ll]) (by omega) (by omega) (Or.inl ?_), fun c0 => fin0 _ x (AR_rf hM) (by omega) (by rw [ll]) (by omega) (by omega) (Or.inr ⟨rfl, ?_, fun z => by omega, fun _ => ⟨rfl, ?_⟩⟩)⟩
    · rw [gc.1.1] at c0
      rw [if_neg (fun z => c0 (s0.mpr z))] at ll
      rw [ll]
      exact ⟨by decide, rfl, by show ¬ 7 = 0; decide, g⟩
    · rw [gc.1.1] at c0
      rw [if_pos (s0.mp c0)] at ll
      rw [ll]
    · rw [gc.1.1] at c0
      exact s0.mp c0
  · -- call, back
    have cc : p.toInt = 13 ∨ p.toInt = 14 := by rcases c with rfl | rfl <;> decide
    obtain ⟨w0, e1, e2⟩ := own (by omega)
    have z0 : st.2.2.2.2.2.2.2.1 = none := by
      cases hz : st.2.2.2.2.2.2.2.1 with
      | none => rfl
      | some Q9 => exact absurd (x1 (by rw [hz]; exact fun z => nomatch z)) (by omega)
    have z2 : st.2.2.2.2.2.2.2.2.2 = none := by
      cases hz : st.2.2.2.2.2.2.2.2.2 with
      | none => rfl
      | some Q9 => exact absurd (x2 (by rw [hz]; exact fun z => nomatch z)) (by omega)
    have li := lkI_n (M := M) (t := T) (C := C) (by rw [s2]; exact z0)
    have l0 : (lkI C M T).1 = 0 := by rw [li]
    refine kh_call (S := fun k => k = 4) rfl hq ho hM hK hN g _ _ et hT h1 (by rw [s2]; omega) (by rw [s2, hp, e2]) (fun r y hy hc1 hc2 hr => ?_)
    have f9 : (lkM C w M T).2.1 = st.2.2.2.2.1 → y.1 (o + 20) 4 = dWr M (soM C (M.2.2 T)) (lkM C w M T) → ((¬ r = 0 ∧ r = Int32.ofNat (lkM C w M T).1 ∧ ¬ (lkM C w M T).1 = 0 ∧ KMm y o C M) ∨ (r = 0 ∧ (lkM C w M T).1 = 0 ∧ (¬ soM C (M.2.2 T) = 9 → KMm y o C (M1c C w M T wk)) ∧ (soM C (M.2.2 T) = 9 → y = x ∧ (M.2.2 (obM C (M.2.2 T).2.2.1)).1 = 0))) → ri F (some (vi r)) y := fun hl h4 hr9 => fin _ r y (fun _ q => Or.inl q) hy (by omega) hl h4 (by rw [hy.2.2.2 6 (by decide), hd6]; exact KDb_0 (dk_n (by omega))) hr9
    have li2 : (lkI C M T).2 = st.2.2.2.2.1 := by rw [li, s2]
    rcases hr with ⟨ev, er, gy⟩ | ⟨v9, ev, hr⟩
    · have ll := lkM_1 (w := w) w0 l0 ev
      refine f9 (by rw [ll]; exact li2) (by rw [hc1 (by rw [er]; decide), hd4, dw_F (by rw [ll]; simp)]) ?_
      rw [ll]
      exact Or.inl ⟨by rw [er]; decide, er, by show ¬ 1 = 0; decide, gy⟩
    · have ll := lkM_3 (w := w) w0 l0 ev (show evO (M.2.2 T).2.2.2.2.2.2.2 (Int32.ofNat T) (stN C (M.2.2 T).2.2.1).2.2.2.2.2.2.2.2.2 = some 0 by rw [s2, z2]; rfl)
      rw [rsF_13 (by rw [s2]; omega)] at ll
      rcases hr with ⟨er, bad, gy⟩ | ⟨er, bad, gy⟩
      · rw [if_pos bad] at ll
        refine f9 (by rw [ll]; exact li2) (by rw [hc1 (by rw [er]; decide), hd4, dw_F (by rw [ll]; simp)]) ?_
        rw [ll]
        exact Or.inl ⟨by rw [er]; decide, er, by show ¬ 8 = 0; decide, gy⟩
      · rw [if_neg bad] at ll
        refine f9 (by rw [ll]; exact li2) (by rw [hc2 er v9 ev, dw_e (by rw [ll]) (by omega), ll]) ?_
        refine Or.inr ⟨er, by rw [ll], fun _ => ?_, fun z => by omega⟩
        rw [M1c_is (E := upT M T ((M.2.2 T).1, (M.2.2 T).2.1, (M.2.2 T).2.2.1, (M.2.2 T).2.2.2.1, (M.2.2 T).2.2.2.2.1, if (stN C (M.2.2 T).2.2.1).1 = 13 then (stN C (M.2.2 T).2.2.1).2.2.2.2.1 else -1, (M.2.2 T).2.2.2.2.2.2)) (v := 0) ?_ (tonone (by omega)) (by rw [upT_at])]
        · exact gy
        · rcases cc with e13 | e13
          · rw [show soM C (M.2.2 T) = 13 by omega, ef_13, if_pos (show (stN C (M.2.2 T).2.2.1).1 = 13 by rw [s2]; omega)]
          · rw [show soM C (M.2.2 T) = 14 by omega, ef_14, if_neg (show ¬ (stN C (M.2.2 T).2.2.1).1 = 13 by rw [s2]; omega)]
  · -- the others
    have ne : ∀ n : Int32, n ∈ [(0 : Int32), 1, 2, 3, 4, 5, 6, 7, 15, 8, 9, 13, 14] → ¬ p.toInt = n.toInt := fun n hn z => c n hn (t_eq.mpr z)
    have n0 := ne 0 (by decide)
    have n1 := ne 1 (by decide)
    have n2 := ne 2 (by decide)
    have n3 := ne 3 (by decide)
    have n4 := ne 4 (by decide)
    have n5 := ne 5 (by decide)
    have n6 := ne 6 (by decide)
    have n7 := ne 7 (by decide)
    have n8 := ne 8 (by decide)
    have n9 := ne 9 (by decide)
    have n13 := ne 13 (by decide)
    have n14 := ne 14 (by decide)
    have n15 := ne 15 (by decide)
    simp only [Int32.reduceToInt] at n0 n1 n2 n3 n4 n5 n6 n7 n8 n9 n13 n14 n15
    obtain ⟨w0, e1, e2⟩ := own n15
    have s3' : st.1 = 10 ∨ st.1 = 11 ∨ st.1 = 12 := by omega
    have ll := lkM_b (w := w) hX s1 s2 w0 (by omega)
    rw [rsF_b (Or.inr s3')] at ll
    refine fin0 _ x (AR_rf hM) (by omega) (by rw [ll]) (by omega) (by omega) (Or.inr ⟨rfl, by rw [ll], fun _ => ?_, fun z => by omega⟩)
    rw [M1c_is (E := M) (v := 0) ?_ (tonone (by omega)) rfl]
    · exact g
    · rw [e2, ef_o s3']
end KMC
end
section
/-! the class: a choice is performed, with what its machine holds -/
section KMF
variable {G : kG} {q : kP} {d : Nat} {x x0 y z : gd} {o : Nat} {R : Nat → Nat → Int32} {F : Int32 → gd → Prop} {Fv : gd → Prop} {C : gCo} {M : gMa} {h h' : gTq} {t T w k c s : Nat} {e f : Int32} {wk : Option Nat}
/-- a thread settles: it stands as the machine says -/
theorem kh_settleM (hq : kV q) (ho : kiM q o) (hS : MS (rg x o) x o T) (hK : CK x C) (hN : NC C) (hl : KMl x o M) (hot : ∀ t, t < C.2.1.length → t ≠ T → kTq x o C t (M.2.2 t)) (hT : T < C.2.1.length) (t : Int32) (et : t.toInt = T) {lv : Nat → Int32} {st : gNs} (hs : C.1[s]? = some st) (hml : (st.2.1.length : Int) ≤ (x.1 60 13).toInt) (r0 : rg x o T 0 = 1) (r1 : rg x o T 1 = 0) (r2 : (rg x o T 2).toInt = (s : Nat)) (r3 : rg x o T 3 = 0) (r5 : rg x o T 5 = 0) (w0 : h.2.2.2.1 = 0) (r4 : rg x o T 4 = h.2.2.2.2.1) (r6 : rg x o T 6 = h.2.2.2.2.2.1 + 1) (r7 : (rg x o T 7).toInt = (h.2.2.2.2.2.2.1.length : Nat) ∧ ∀ i p, h.2.2.2.2.2.2.1[i]? = some p → (rg x o T ((x.1 o 9).toInt.toNat + 2 * i)).toInt = (p.1 : Nat) ∧ rg x o T ((x.1 o 9).toInt.toNat + 2 * i + 1) = p.2) (rl : ∀ p, p < st.2.1.length → rg x o T (8 + p) = lv p) (hF : ∀ y, MM y o → fm (sSt o) x y → KMm y o C (upT M T (thN C T h s lv)) → Fv y) : KT G q (d + 3) zk_X5_settle 0 [(0, vr o), (1, vi t)] [] x (rv Fv) := by
  have hO := kiM_O ho
  have nT : (x.1 60 10).toInt = C.2.1.length := hK.2.1.1
  have hA := (hS.2.2.1 T (by omega)).1
  obtain ⟨b1, b2, b3, b4, b5, b6, b7⟩ := MG_b hS.1 hS.2.1
  have e2 : (rg x o T 2).toInt.toNat = s := by rw [r2]; rfl
  refine kh_settle hq ho hS (by omega) _ et r3 hK hN r0 r1 (by rw [e2]; exact hs) rl hml (fun y hy fy gy uy vy hfin => hF y hy fy ?_)
  obtain ⟨n, r, hr, ⟨f0, f1, f2, f3, f4⟩, key⟩ := hfin
  rw [e2] at hr
  have ow := owR_is hr
  have fM : fm (sMk o) x y := fm_w fy (fun c k q => sSt_M q)
  obtain ⟨f6, f9, e13, e9, e8, e7, e10⟩ := sM_e hO fM
  refine ⟨KMl_e hS.2.1 f6 f9 uy.2 hl hS.1, fun t' ht' => ?_⟩
  show kTq y o C t' (upf M.2.2 T (thN C T h s lv) t')
  unfold upf
  by_cases c : t' = T
  · rw [if_pos c, c]
    unfold thN
    rw [ow]
    refine ⟨⟨f0, by show r.1 ≤ 3; omega⟩, f1, f2, ⟨?_, ?_, ?_, fun z => absurd w0 z⟩, ?_, ?_, ⟨?_, fun i p hp => ?_⟩, fun p hp => ?_, fun c1 => ?_⟩
    · show rg y o T 3 = if h.2.2.2.1 = 0 then 0 else _
      rw [if_pos w0, uy.1 3 (by omega) (by omega)]; exact r3
    · show rg y o T 5 = if h.2.2.2.1 = 2 then 1 else 0
      rw [if_neg (by omega), uy.1 5 (by omega) (by omega)]; exact r5
    · show h.2.2.2.1 ≤ 2
      omega
    · rw [uy.1 4 (by omega) (by omega)]; exact r4
    · rw [uy.1 6 (by omega) (by omega)]; exact r6
    · rw [uy.1 7 (by omega) (by omega)]; exact r7.1
    · have hp : h.2.2.2.2.2.2.1[i]? = some p := hp
      have hi := gt_lt hp
      have := (lt_in hS.1 hS.2.1 hA (i := i) (by rw [r7.1]; omega)).2
      rw [e9, vy _ (by omega) (by omega), vy _ (by omega) (by omega)]
      exact r7.2 i p hp
    · rw [e13] at hp; exact key p hp
    · obtain ⟨st', g1, g2, -⟩ := f4 c1
      have : stN C r.2.2.1 = st' := by unfold stN; rw [g1]; rfl
      show ((stN C r.2.2.1).2.1.length : Int) ≤ _
      rw [this]; exact g2
  · rw [if_neg c]
    exact kTq_e hS.1 hS.2.1 (hS.2.2.1 t' (by omega)).1 e13 e9 (fun k hk => gy t' k c hk) (hot t' ht' c)
/-- a thread is started -/
theorem kh_rouseM (hq : kV q) (ho : kiM q o) (hM : MM x o) (hK : CK x C) (hN : NC C) (g : KMm x o C M) (t : Int32) (et : t.toInt = T) (hT : T < C.2.1.length) (h0 : (M.2.2 T).1 = 0) (hn : (M.2.2 T).2.1 = 0) (hw0 : (M.2.2 T).2.2.2.1 = 0) {q9 : Nat × Nat} (hth : C.2.1[T]? = some q9) (hF : ∀ y, MM y o → fm (sSt o) x y → KMm y o C (upT M T (thN C T (M.2.2 T) q9.1 (M.2.2 T).2.2.2.2.2.2.2)) → Fv y) : KT G q (d + 4) zk_X5_rouse 0 [(0, vr o), (1, vi t)] [] x (rv Fv) := by
  have hO := kiM_O ho
  have nT : (x.1 60 10).toInt = C.2.1.length := hK.2.1.1
  have hT6 := MM_6 hM.1 (t := T) (by omega)
  obtain ⟨b1, b2, b3, b4, b5, b6, b7⟩ := MG_b hM.1 hM.2.1
  have hA := (hM.2.2 T (by omega)).1
  have gT := g.2 T hT
  refine kg_X5_rouse_0 hq ho _ (kh_set hq ho (MM_MS hM) hT6 _ _ _ et (show (0 : Int32).toInt = ((0 : Nat) : Int) from rfl) (by omega) (by omega) (fun c => by omega) (fun _ c => absurd c (by decide)) (fun c => by omega) (fun y hy fy ly gy wy => ⟨by rw [vp_in_iff]; omega, ?_⟩))
  have y9 : y.1 o 9 = x.1 o 9 := fy _ _ (by unfold sSt; omega)
  have eN : t.toNatClampNeg = T := by rw [t_cl, et]; rfl
  have hs := hy.1.2.2.2.2 T (by rw [fy 60 10 (by unfold sSt; omega)]; omega)
  rw [eN]
  refine kh_set hq ho hy hT6 _ _ _ et (show (2 : Int32).toInt = ((2 : Nat) : Int) from rfl) (by rw [y9]; omega) (by omega) (fun _ => hs) (fun c => by omega) (fun c => by omega) (fun z hz fz lz gz wz => ?_)
  have fxz : fm (sSt o) x z := fm_tr fy fz
  have z8 : z.1 o 8 = x.1 o 8 := fxz _ _ (by unfold sSt; omega)
  have z9 : z.1 o 9 = x.1 o 9 := fxz _ _ (by unfold sSt; omega)
  have z13 : z.1 60 13 = x.1 60 13 := fxz _ _ (by unfold sSt; omega)
  have e72 : (y.1 72 T).toInt = (q9.1 : Nat) := by rw [fy 72 T (by unfold sSt; omega)]; exact (hK.2.1.2 T q9 hth).1
  have z2 : rg z o T 2 = y.1 72 T := by rw [gz 2 (by rw [y9]; omega), if_pos rfl]
  have z0 : rg z o T 0 = 1 := by rw [gz 0 (by rw [y9]; omega), if_neg (by omega), gy 0 (by omega), if_pos rfl]
  have zu : ∀ k : Nat, ¬ k = 0 → ¬ k = 2 → (k : Int) < (x.1 o 9).toInt → rg z o T k = rg x o T k := fun k k0 k2 k9 => by rw [gz k (by rw [y9]; omega), if_neg k2, gy k (by omega), if_neg k0]
  have zv : sVx x z o T := sVx_tr hO fy wy wz
  obtain ⟨⟨st, s1, s2⟩, -⟩ := hN.2.1 q9 (List.mem_of_getElem? hth)
  have m13 := hM.1.1.2.2.2.1.1
  have zS : MS (rg z o) z o T := ⟨hz.1, hz.2.1, hz.2.2.1, fun _ _ _ _ => rfl⟩
  have zo : ∀ t k : Nat, t ≠ T → (k : Int) < (x.1 o 8).toInt → rg z o t k = rg x o t k := fun t k ht hk => hz.2.2.2 t k ht (by rw [z8]; exact hk)
  obtain ⟨q0, q1, q2, ⟨q3, q5, qw, -⟩, q4, q6, ⟨q7, ql⟩, qv, -⟩ := gT
  rw [if_pos hw0] at q3
  rw [if_neg (by omega)] at q5
  have hKz : CK z C := CK_St hO hK fxz
  refine kh_settleM (h := M.2.2 T) hq ho zS hKz hN (KMl_e hM.2.1 (fxz _ _ (by unfold sSt; omega)) (fxz _ _ (by unfold sSt; omega)) (lowE_tr hO fy ly lz) g.1 hM.1) (fun t' ht' hne => kTq_e hM.1 hM.2.1 (hM.2.2 t' (by omega)).1 z13 z9 (fun k hk => zo t' k hne hk) (g.2 t' ht')) hT _ et s1 (by rw [s2, z13]; exact m13) z0 (by rw [zu 1 (by omega) (by omega) (by omega), q1, hn]; rfl) (by rw [z2]; exact e72) (by rw [zu 3 (by omega) (by omega) (by omega)]; exact q3) (by rw [zu 5 (by omega) (by omega) (by omega)]; exact q5) hw0 (by rw [zu 4 (by omega) (by omega) (by omega)]; exact q4) (by rw [zu 6 (by omega) (by omega) (by omega)]; exact q6) ⟨by rw [zu 7 (by omega) (by omega) (by omega)]; exact q7, fun i p hp => ?_⟩ (fun p hp => by rw [s2] at hp; exact absurd hp (Nat.not_lt_zero _)) (fun w hw fw gw => rv_i (hF w hw (fm_tr fxz fw) gw))
  have hi := gt_lt hp
  have := (lt_in hM.1 hM.2.1 hA (i := i) (by rw [q7]; omega)).2
  rw [z9, zv _ (by omega) (by omega), zv _ (by omega) (by omega)]
  exact ql i p hp
/-- a late one comes -/
theorem kh_bring (hq : kV q) (ho : kiM q o) (hM : MM x o) (hK : CK x C) (g : KMm x o C M) {J : Nat} (t j : Int32) (et : t.toInt = T) (ej : j.toInt = J) (hT : T < C.2.1.length) (hJ : J < (M.2.2 T).2.2.2.2.2.2.1.length) (hF : ∀ y, MM y o → fm (sMk o) x y → y.1 (o + 20) = x.1 (o + 20) → KMm y o C (laM M T J) → Fv y) : KT G q (d + 2) zk_X5_bringLate 0 [(0, vr o), (1, vi t), (2, vi j)] [] x (rv Fv) := by
  have hO := kiM_O ho
  have nT : (x.1 60 10).toInt = C.2.1.length := hK.2.1.1
  have hT6 := MM_6 hM.1 (t := T) (by omega)
  have hA := (hM.2.2 T (by omega)).1
  obtain ⟨a1, a2, a3, a4, a5⟩ := (hM.2.2 T (by omega)).1
  obtain ⟨b1, b2, b3, b4, b5, b6, b7⟩ := MG_b hM.1 hM.2.1
  have c24 := hM.1.1.1
  have k1 : (1 : Int32).toInt = 1 := rfl
  have k0 : (0 : Int32).toInt = 0 := rfl
  have gT := g.2 T hT
  obtain ⟨q7, ql⟩ := gT.2.2.2.2.2.2.1
  obtain ⟨l, el⟩ : ∃ l, l = (M.2.2 T).2.2.2.2.2.2.1 := ⟨_, rfl⟩
  rw [← el] at q7 ql hJ
  have hJ7 : (J : Int) < (rg x o T 7).toInt := by omega
  obtain ⟨hw, -⟩ := lt_in hM.1 hM.2.1 hA hJ7
  have b5 := b5 hw
  obtain ⟨p, hp⟩ : ∃ p, l[J]? = some p := ⟨_, List.getElem?_eq_getElem hJ⟩
  obtain ⟨p1, p2⟩ := ql J p hp
  have hcell := a4 J hJ7
  have laE : laM M T J = upT (upC M p.1 p.2) T ((M.2.2 T).1, (M.2.2 T).2.1, (M.2.2 T).2.2.1, (M.2.2 T).2.2.2.1, (M.2.2 T).2.2.2.2.1, (M.2.2 T).2.2.2.2.2.1, l.eraseIdx J, (M.2.2 T).2.2.2.2.2.2.2) := by
    unfold laM
    rw [← el]
    simp only [hp]
  refine kg_X5_bringLate_0 hq ho _ _ (kp_lateCell hq ho hM.1 hM.2.1 _ _ et hT6 ej (by omega) (kh_lateValue hq ho hM.1 hM.2.1 _ _ et hT6 ej (by omega) ⟨by rw [vp_in_iff]; omega, fun x6 e6 => ?_⟩))
  have nc : (rg x o T ((x.1 o 9).toInt.toNat + 2 * J)).toNatClampNeg = p.1 := by rw [t_cl, p1]; rfl
  rw [nc, p2] at e6
  have r6 : ∀ t k, rg x6 o t k = rg x o t k := fun t k => rg_low hO (by omega) e6
  have f6 : fm (sSt o) x x6 := st_f e6
  have fM6 : fm (sMk o) x x6 := fm_w f6 (fun c k q => sSt_M q)
  have h6 : MM x6 o := MM_low hO hM fM6 r6
  have g6 : KMm x6 o C (upC M p.1 p.2) := KMm_c hO hM hK (by omega) e6 g
  have hK6 : CK x6 C := CK_M hO hK fM6
  have gS : ∀ {y : gd}, fm (sSt o) x y → y.1 o 9 = x.1 o 9 ∧ y.1 o 8 = x.1 o 8 ∧ y.1 o 3 = x.1 o 3 ∧ y.1 60 6 = x.1 60 6 ∧ y.1 60 10 = x.1 60 10 ∧ y.1 (o + 20) = x.1 (o + 20) := fun f => ⟨f _ _ (by unfold sSt; omega), f _ _ (by unfold sSt; omega), f _ _ (by unfold sSt; omega), f _ _ (by unfold sSt; omega), f _ _ (by unfold sSt; omega), funext (fun k => f _ _ (by unfold sSt; omega))⟩
  refine kp_get hq ho h6.1 h6.2.1 _ _ et (show (7 : Int32).toInt = ((7 : Nat) : Int) from rfl) hT6 (by omega) ?_
  rw [r6]
  obtain ⟨L, eL⟩ : ∃ L, L = rg x o T 7 - 1 := ⟨_, rfl⟩
  have iL : L.toInt = (rg x o T 7).toInt - 1 := by rw [eL, t_sub (by rw [k1]; omega) (by rw [k1]; omega), k1]
  rw [← eL]
  -- rows below K are moved
  have loop : ∀ (n : Nat) (k : Int32) {K : Nat} (y : gd), k.toInt = K → J ≤ K → (K : Int) ≤ L.toInt → L.toInt - K ≤ n → MM y o → fm (sSt o) x6 y → lowE x6 y o → (∀ t k : Nat, (k : Int) < (x.1 o 8).toInt → rg y o t k = if t = T ∧ (x.1 o 9).toInt.toNat + 2 * J ≤ k ∧ k < (x.1 o 9).toInt.toNat + 2 * K then rg x o T (k + 2) else rg x o t k) → KT G q (d + 2) zk_X5_bringLate 30 [(0, vr o), (1, vi t), (3, vi L), (4, vi k)] [] y (rv Fv) := by
    have fin : ∀ (y : gd), MM y o → fm (sSt o) x6 y → lowE x6 y o → (∀ t k : Nat, (k : Int) < (x.1 o 8).toInt → rg y o t k = if t = T ∧ (x.1 o 9).toInt.toNat + 2 * J ≤ k ∧ k < (x.1 o 9).toInt.toNat + 2 * L.toInt.toNat then rg x o T (k + 2) else rg x o t k) → KT G q (d + 1) zk_X5_setLate 0 [(0, vr o), (1, vi t), (2, vi L), (3, vi 0), (4, vi 0)] [] y (rv (fun x2 => KT G q (d + 1) zk_X5_set 0 [(0, vr o), (1, vi t), (2, vi 7), (3, vi L)] [] x2 (rv (fun x3 => rv Fv none x3)))) := by
      intro y hy fy6 ly gy
      have fy : fm (sSt o) x y := fm_tr f6 fy6
      obtain ⟨s9, s8, s3, s6, s10, s20⟩ := gS fy
      refine kh_setLate hq ho hy (by rw [s3]; exact hw) _ _ _ _ et (show L.toInt = ((L.toInt.toNat : Nat) : Int) by omega) hT6 (by omega) (by rw [s6, k0]; omega) (fun z hz fz lz gz => ?_)
      obtain ⟨z9, z8, z3, z6, z10, z20⟩ := gS (fm_tr fy fz)
      rw [s8, s9] at gz
      have au : ∀ t k : Nat, (k : Int) < (x.1 o 8).toInt → rg z o t k = if t = T ∧ (x.1 o 9).toInt.toNat + 2 * J ≤ k ∧ k < (x.1 o 9).toInt.toNat + 2 * L.toInt.toNat then rg x o T (k + 2) else if t = T ∧ ((x.1 o 9).toInt.toNat + 2 * L.toInt.toNat = k ∨ (x.1 o 9).toInt.toNat + 2 * L.toInt.toNat + 1 = k) then 0 else rg x o t k := fun t k hk => by
        rw [gz t k hk]
        by_cases c1 : t = T ∧ k = (x.1 o 9).toInt.toNat + 2 * L.toInt.toNat
        · rw [if_pos c1, if_neg (fun z => by omega), if_pos ⟨c1.1, Or.inl c1.2.symm⟩]
        · rw [if_neg c1]
          by_cases c2 : t = T ∧ k = (x.1 o 9).toInt.toNat + 2 * L.toInt.toNat + 1
          · rw [if_pos c2, if_neg (fun z => by omega), if_pos ⟨c2.1, Or.inr c2.2.symm⟩]
          · rw [if_neg c2, gy t k hk]
            by_cases c3 : t = T ∧ (x.1 o 9).toInt.toNat + 2 * J ≤ k ∧ k < (x.1 o 9).toInt.toNat + 2 * L.toInt.toNat
            · rw [if_pos c3, if_pos c3]
            · rw [if_neg c3, if_neg c3, if_neg (fun z => by omega)]
      have z7 : rg z o T 7 = rg x o T 7 := by rw [au T 7 (by omega), if_neg (fun z => by omega), if_neg (fun z => by omega)]
      have hz4 := (hz.2.2 T (by rw [z10]; omega)).1.2.2.2.1
      refine kh_seta (S := fun _ => False) hq ho hz _ _ _ et (show (7 : Int32).toInt = ((7 : Nat) : Int) from rfl) hT6 (by rw [z8]; omega) ⟨by omega, by omega⟩ (fun q => by omega) (fun _ => ⟨by omega, fun c => absurd (by rw [z3]; exact hw) c, fun i hi => hz4 i (by rw [z7]; omega)⟩) (fun i hi q => by rw [z9] at q; omega) (fun u hu fu lu gu => rv_i ?_)
      have fxu : fm (sSt o) x u := fm_tr (fm_tr fy fz) fu
      have fMu : fm (sMk o) x6 u := fm_w (fm_tr (fm_tr fy6 fz) fu) (fun c k q => sSt_M q)
      obtain ⟨u9, u8, u3, u6, u10, u20⟩ := gS fxu
      refine hF u hu.1 (fm_w fxu (fun c k q => sSt_M q)) u20 ?_
      rw [laE]
      rw [z8] at gu
      have bu : ∀ t k : Nat, (k : Int) < (x.1 o 8).toInt → rg u o t k = if t = T ∧ k = 7 then L else rg z o t k := gu
      have l6u : lowE x6 u o := fun j hj => by
        rw [lu j (by rw [(fm_tr fy6 fz) o 7 (by unfold sSt; omega)]; exact hj), lz j (by rw [fy6 o 7 (by unfold sSt; omega)]; exact hj), ly j hj]
      refine KMm_T hO h6 hK6 fMu l6u (fun t' k ht hk => ?_) g6 ?_
      · rw [f6 o 8 (by unfold sSt; omega)] at hk
        rw [bu t' k hk, if_neg (fun z => ht z.1), au t' k hk, if_neg (fun z => ht z.1), if_neg (fun z => ht z.1), r6]
      · have e' : ∀ k : Nat, ¬ k = 7 → (k : Int) < (x.1 o 9).toInt → rg u o T k = rg x o T k := fun k k7 k9 => by rw [bu T k (by omega), if_neg (fun z => k7 z.2), au T k (by omega), if_neg (fun z => by omega), if_neg (fun z => by omega)]
        have u13 : u.1 60 13 = x.1 60 13 := fxu _ _ (by unfold sSt; omega)
        obtain ⟨⟨v0, v0'⟩, v1, v2, ⟨v3, v5, vw⟩, v4, v6, -, vv, vk⟩ := gT
        refine ⟨⟨by rw [e' 0 (by omega) (by omega)]; exact v0, v0'⟩, by rw [e' 1 (by omega) (by omega)]; exact v1, by rw [e' 2 (by omega) (by omega)]; exact v2, ⟨by rw [e' 3 (by omega) (by omega)]; exact v3, by rw [e' 5 (by omega) (by omega)]; exact v5, vw⟩, by rw [e' 4 (by omega) (by omega)]; exact v4, by rw [e' 6 (by omega) (by omega)]; exact v6, ⟨?_, fun i p' hp' => ?_⟩, fun p' hp' => ?_, by rw [u13]; exact vk⟩
        · show _ = ((l.eraseIdx J).length : Int)
          rw [bu T 7 (by omega), if_pos ⟨rfl, rfl⟩, iL, List.length_eraseIdx_of_lt hJ]
          omega
        · have hp' : (l.eraseIdx J)[i]? = some p' := hp'
          have hi := gt_lt hp'
          rw [List.length_eraseIdx_of_lt hJ] at hi
          rw [List.getElem?_eraseIdx] at hp'
          rw [u9, bu T _ (by omega), if_neg (fun z => by omega), bu T _ (by omega), if_neg (fun z => by omega), au T _ (by omega), au T _ (by omega)]
          by_cases ci : i < J
          · rw [if_pos ci] at hp'
            rw [if_neg (fun z => by omega), if_neg (fun z => by omega), if_neg (fun z => by omega), if_neg (fun z => by omega)]
            exact ql i p' hp'
          · rw [if_neg ci] at hp'
            rw [if_pos ⟨rfl, by omega, by omega⟩, if_pos ⟨rfl, by omega, by omega⟩]
            have := ql (i + 1) p' hp'
            rw [show (x.1 o 9).toInt.toNat + 2 * i + 2 = (x.1 o 9).toInt.toNat + 2 * (i + 1) by omega, show (x.1 o 9).toInt.toNat + 2 * i + 1 + 2 = (x.1 o 9).toInt.toNat + 2 * (i + 1) + 1 by omega]
            exact this
        · rw [u13] at hp'
          rw [e' _ (by omega) (by push_cast; omega)]; exact vv p' hp'
    intro n
    induction n with
    | zero =>
      intro k K y ek hJK hk1 hk2 hy fy ly gy
      have eK : K = L.toInt.toNat := by omega
      rw [eK] at gy
      refine kg_X5_bringLate_30 hq ho _ _ _ ⟨fun _ => fin y hy fy ly gy, fun c => ?_⟩
      exfalso; rw [t_le] at c; omega
    | succ n ih =>
      intro k K y ek hJK hk1 hk2 hy fy6 ly gy
      refine kg_X5_bringLate_30 hq ho _ _ _ ⟨fun c => fin y hy fy6 ly ?_, fun c => ?_⟩
      · rw [t_le] at c
        have eK : K = L.toInt.toNat := by omega
        rw [eK] at gy; exact gy
      rw [t_le] at c
      have fy : fm (sSt o) x y := fm_tr f6 fy6
      obtain ⟨s9, s8, s3, s6, s10, s20⟩ := gS fy
      have ek1 : (k + 1).toInt = ((K + 1 : Nat) : Int) := by rw [t_add (by rw [k1]; omega) (by rw [k1]; omega), ek]; rfl
      have y7 : rg y o T 7 = rg x o T 7 := by rw [gy T 7 (by omega), if_neg (fun z => by omega)]
      have hy4 := (hy.2.2 T (by rw [s10]; omega)).1.2.2.2.1 (K + 1) (by rw [y7]; push_cast; omega)
      have v1 : rg y o T ((x.1 o 9).toInt.toNat + 2 * (K + 1)) = rg x o T ((x.1 o 9).toInt.toNat + 2 * (K + 1)) := by rw [gy T _ (by omega), if_neg (fun z => by omega)]
      have v2 : rg y o T ((x.1 o 9).toInt.toNat + 2 * (K + 1) + 1) = rg x o T ((x.1 o 9).toInt.toNat + 2 * (K + 1) + 1) := by rw [gy T _ (by omega), if_neg (fun z => by omega)]
      refine kp_lateCell hq ho hy.1 hy.2.1 _ _ et hT6 ek1 (by omega) (kh_lateValue hq ho hy.1 hy.2.1 _ _ et hT6 ek1 (by omega) (kh_setLate hq ho hy (by rw [s3]; exact hw) _ _ _ _ et ek hT6 (by omega) hy4 (fun z hz fz lz gz => ih (k + 1) z ek1 (by omega) (by push_cast; omega) (by push_cast; omega) hz (fm_tr fy6 fz) (lowE_tr hO fy6 ly lz) (fun t' k' hk' => ?_))))
      rw [s8, s9] at gz
      rw [gz t' k' hk', v1, v2]
      by_cases c1 : t' = T ∧ k' = (x.1 o 9).toInt.toNat + 2 * K
      · rw [if_pos c1, if_pos ⟨c1.1, by omega, by omega⟩, c1.2]
        rfl
      · rw [if_neg c1]
        by_cases c2 : t' = T ∧ k' = (x.1 o 9).toInt.toNat + 2 * K + 1
        · rw [if_pos c2, if_pos ⟨c2.1, by omega, by omega⟩, c2.2]
          rfl
        · rw [if_neg c2, gy t' k' hk']
          by_cases c3 : t' = T ∧ (x.1 o 9).toInt.toNat + 2 * J ≤ k' ∧ k' < (x.1 o 9).toInt.toNat + 2 * K
          · rw [if_pos c3, if_pos ⟨c3.1, c3.2.1, by omega⟩]
          · rw [if_neg c3, if_neg (fun z => by omega)]
  refine loop 8 _ x6 ej (Nat.le_refl _) (by omega) (by omega) h6 (fm_rf _ _) (fun _ _ => rfl) (fun t' k' hk' => ?_)
  rw [r6, if_neg (fun z => by omega)]
end KMF
end
section
/-! the class: a choice is done as the machine does it -/
/-- a choice as the class lists it -/
def kch (x : gd) (o I : Nat) (ch : gCh) : Prop := x.1 (o + 11) I = Int32.ofNat ch.1 ∧ (ch.2.1 = none → x.1 (o + 12) I = -1) ∧ (∀ j, ch.2.1 = some j → x.1 (o + 12) I = Int32.ofNat j) ∧ (ch.2.2 = none → x.1 (o + 13) I = -1) ∧ ∀ k, ch.2.2 = some k → x.1 (o + 13) I = Int32.ofNat k
/-- a choice that there is -/
def chIn (C : gCo) (M : gMa) (ch : gCh) : Prop := ch.1 < C.2.1.length ∧ (ch.2.1 = none → (M.2.2 ch.1).1 = 1 ∧ ¬ (M.2.2 ch.1).2.2.2.1 = 1 ∧ ∀ k, ch.2.2 = some k → k ∈ waM C M (obM C (M.2.2 ch.1).2.2.1)) ∧ ∀ j, ch.2.1 = some j → j < (M.2.2 ch.1).2.2.2.2.2.2.1.length
section KMG
variable {G : kG} {q : kP} {d : Nat} {x x0 y z : gd} {o : Nat} {F : Int32 → gd → Prop} {Fv : gd → Prop} {C : gCo} {M : gMa} {h h' : gTq} {t T w k c s : Nat} {e f : Int32} {wk : Option Nat}
theorem thN_wLv {lv lv' : Nat → Int32} : thN C T (wLv h lv') s lv = thN C T h s lv := rfl
/-- what is known behind a step fits -/
theorem aft_ml (hM : MM x o) (hK : CK x C) (hN : NC C) {st : gNs} (hst : C.1[s]? = some st) (hml : (st.2.1.length : Int) ≤ (x.1 60 13).toInt) : ((aftN st).length : Int) ≤ (x.1 60 13).toInt := by
  have ns := hN.1 _ st hst
  have kn := hK.1.2 _ st hst
  have ls : ssm x = C.1.length := hK.1.1
  have hS : (s : Int) < ssm x := by have := gt_lt hst; omega
  have so : sop x s = (st.1 : Nat) := by
    show (x.1 81 s).toInt = _
    rw [kn.1]
    exact Int32.toInt_ofNat_of_lt (by have := ns.1.1; omega)
  unfold aftN
  by_cases c : (st.1 = 0 ∨ (2 ≤ st.1 ∧ st.1 ≤ 4) ∨ st.1 = 16) ∧ st.2.2.2.1 = some st.2.1.length
  · rw [if_pos c]
    have k84 := kn.2.2.1 (by omega)
    rw [c.2] at k84
    have k84 : (x.1 84 s).toInt = (st.2.1.length : Nat) := k84
    have t2 := ((hM.1.2.2.2.1 _ hS).2.2.2.1 (by omega)).2
    have t2 : (x.1 84 s).toInt < (x.1 60 13).toInt := t2
    rw [List.length_cons]
    push_cast
    omega
  · rw [if_neg c]; exact hml
/-- a thread goes on behind its act -/
theorem kh_goon (hq : kV q) (ho : kiM q o) (hM : MM x o) (hK : CK x C) (hN : NC C) (g : KMm x o C M) (t v : Int32) (et : t.toInt = T) (hT : T < C.2.1.length) (h1 : (M.2.2 T).1 = 1) (hn : (M.2.2 T).2.1 = 0) (hw0 : (M.2.2 T).2.2.2.1 = 0) {st : gNs} (hst : C.1[(M.2.2 T).2.2.1]? = some st) (o16 : st.1 < 16) (ev : v.toInt = ((M.2.2 T).2.2.1 : Nat)) (hF : ∀ y, MM y o → fm (sSt o) x y → KMm y o C (upT M T (thN C T (M.2.2 T) ((M.2.2 T).2.2.1 + 1) (M.2.2 T).2.2.2.2.2.2.2)) → Fv y) : KT G q (d + 4) zk_X5_set 0 [(0, vr o), (1, vi t), (2, vi 2), (3, vi (v + 1))] [] x (rv (fun x2 => KT G q (d + 4) zk_X5_settle 0 [(0, vr o), (1, vi t)] [] x2 (rv (fun x3 => rv Fv none x3)))) := by
  have hO := kiM_O ho
  have nT : (x.1 60 10).toInt = C.2.1.length := hK.2.1.1
  have hT6 := MM_6 hM.1 (t := T) (by omega)
  obtain ⟨b1, b2, b3, b4, b5, b6, b7⟩ := MG_b hM.1 hM.2.1
  have hA := (hM.2.2 T (by omega)).1
  have gT := g.2 T hT
  have k1 : (1 : Int32).toInt = 1 := rfl
  have ls : ssm x = C.1.length := hK.1.1
  have s35 := hM.1.2.2.1.2
  have ns := hN.1 _ st hst
  obtain ⟨st', n1, n2⟩ := ns.2.1 (by omega)
  have hl' := gt_lt n1
  have e1 : (v + 1).toInt = (((M.2.2 T).2.2.1 + 1 : Nat) : Int) := by rw [t_add (by rw [k1]; omega) (by rw [k1]; omega), k1, ev]; push_cast; rfl
  have hml := gT.2.2.2.2.2.2.2.2 (Or.inl h1)
  have es : stN C (M.2.2 T).2.2.1 = st := by unfold stN; rw [hst]; rfl
  rw [es] at hml
  have aml := aft_ml hM hK hN hst hml
  have nl := n2.length_le
  refine kh_set hq ho (MM_MS hM) hT6 _ _ _ et (show (2 : Int32).toInt = ((2 : Nat) : Int) from rfl) (by omega) (by omega) (fun _ => by omega) (fun c => by omega) (fun c => by omega) (fun z hz fz lz gz wz => ?_)
  have z8 : z.1 o 8 = x.1 o 8 := fz _ _ (by unfold sSt; omega)
  have z9 : z.1 o 9 = x.1 o 9 := fz _ _ (by unfold sSt; omega)
  have z13 : z.1 60 13 = x.1 60 13 := fz _ _ (by unfold sSt; omega)
  have zu : ∀ k : Nat, ¬ k = 2 → (k : Int) < (x.1 o 9).toInt → rg z o T k = rg x o T k := fun k k2 k9 => by rw [gz k k9, if_neg k2]
  have zS : MS (rg z o) z o T := ⟨hz.1, hz.2.1, hz.2.2.1, fun _ _ _ _ => rfl⟩
  have zo : ∀ t k : Nat, t ≠ T → (k : Int) < (x.1 o 8).toInt → rg z o t k = rg x o t k := fun t k ht hk => hz.2.2.2 t k ht (by rw [z8]; exact hk)
  obtain ⟨q0, q1, q2, ⟨q3, q5, qw, -⟩, q4, q6, ⟨q7, ql⟩, qv, -⟩ := gT
  rw [if_pos hw0] at q3
  rw [if_neg (by omega)] at q5
  have hKz : CK z C := CK_St hO hK fz
  refine kh_settleM (h := M.2.2 T) (lv := (M.2.2 T).2.2.2.2.2.2.2) hq ho zS hKz hN (KMl_e hM.2.1 (fz _ _ (by unfold sSt; omega)) (fz _ _ (by unfold sSt; omega)) lz g.1 hM.1) (fun t' ht' hne => kTq_e hM.1 hM.2.1 (hM.2.2 t' (by omega)).1 z13 z9 (fun k hk => zo t' k hne hk) (g.2 t' ht')) hT _ et n1 (by rw [z13]; omega) (by rw [zu 0 (by omega) (by omega), q0.1, h1]; rfl) (by rw [zu 1 (by omega) (by omega), q1, hn]; rfl) (by rw [gz 2 (by omega), if_pos rfl]; exact e1) (by rw [zu 3 (by omega) (by omega)]; exact q3) (by rw [zu 5 (by omega) (by omega)]; exact q5) hw0 (by rw [zu 4 (by omega) (by omega)]; exact q4) (by rw [zu 6 (by omega) (by omega)]; exact q6) ⟨by rw [zu 7 (by omega) (by omega)]; exact q7, fun i p hp => ?_⟩ (fun p hp => ?_) (fun w hw fw gw => rv_i (hF w hw (fm_tr fz fw) gw))
  · have hi := gt_lt hp
    have := (lt_in hM.1 hM.2.1 hA (i := i) (by rw [q7]; omega)).2
    rw [z9, wz _ (by omega) (by omega), wz _ (by omega) (by omega)]
    exact ql i p hp
  · rw [zu (8 + p) (by omega) (by push_cast; omega)]
    exact qv p (by omega)
/-- whether it waits, as the class has it -/
theorem kst_w3 (hM : MM x o) (hK : CK x C) (hN : NC C) (ht : t < C.2.1.length) (g : kTq x o C t h) : rg x o t 3 = 0 ↔ h.2.2.2.1 = 0 := by
  have q3 := g.2.2.2.1.1
  by_cases c : h.2.2.2.1 = 0
  · rw [if_pos c] at q3
    exact ⟨fun _ => c, fun _ => q3⟩
  · rw [if_neg c] at q3
    have l6 := hM.1.1.2.1.2
    obtain ⟨a1, a2⟩ := kst_wl hM hK hN ht g c
    have k1 : (1 : Int32).toInt = 1 := rfl
    have k0 : (0 : Int32).toInt = 0 := rfl
    refine ⟨fun z => ?_, fun z => absurd z c⟩
    rw [q3, t_eq, t_add (by rw [k1]; omega) (by rw [k1]; omega), k1, k0, a1] at z
    omega
/-- what an act leaves of its own thread -/
theorem ef_own (n7 : ¬ soM C (M.2.2 T) = 7) (n9 : ¬ soM C (M.2.2 T) = 9) (s16 : soM C (M.2.2 T) < 16) (h1 : (M.2.2 T).1 = 1) (hn : (M.2.2 T).2.1 = 0) (w1 : ¬ (M.2.2 T).2.2.2.1 = 1) : ((efM C w M T (soM C (M.2.2 T)) c e f wk).1.2.2 T).1 = 1 ∧ ((efM C w M T (soM C (M.2.2 T)) c e f wk).1.2.2 T).2.1 = 0 ∧ ((efM C w M T (soM C (M.2.2 T)) c e f wk).1.2.2 T).2.2.1 = (M.2.2 T).2.2.1 ∧ ((efM C w M T (soM C (M.2.2 T)) c e f wk).1.2.2 T).2.2.2.1 = 0 := by
  by_cases c15 : soM C (M.2.2 T) = 15
  · rw [c15, ef_15]
    show ((upT _ T _).2.2 T).1 = 1 ∧ ((upT _ T _).2.2 T).2.1 = 0 ∧ ((upT _ T _).2.2 T).2.2.1 = _ ∧ ((upT _ T _).2.2 T).2.2.2.1 = 0
    rw [upT_at]
    exact ⟨h1, hn, rfl, rfl⟩
  · have w0 := (so_0 c15).1
    obtain ⟨s, es⟩ : ∃ s, s = soM C (M.2.2 T) := ⟨_, rfl⟩
    rw [← es] at n7 n9 s16 c15 ⊢
    have hs : s = 0 ∨ s = 1 ∨ s = 2 ∨ s = 3 ∨ s = 4 ∨ s = 5 ∨ s = 6 ∨ s = 8 ∨ (s = 10 ∨ s = 11 ∨ s = 12) ∨ s = 13 ∨ s = 14 := by omega
    rcases hs with e | e | e | e | e | e | e | e | e | e | e
    · rw [e, ef_0]; exact ⟨h1, hn, rfl, w0⟩
    · rw [e, ef_1]
      split
      · exact ⟨h1, hn, rfl, w0⟩
      · show ((upT _ T _).2.2 T).1 = 1 ∧ ((upT _ T _).2.2 T).2.1 = 0 ∧ ((upT _ T _).2.2 T).2.2.1 = _ ∧ ((upT _ T _).2.2 T).2.2.2.1 = 0
        rw [upT_at]
        exact ⟨h1, hn, rfl, w0⟩
    · rw [e, ef_2]; exact ⟨h1, hn, rfl, w0⟩
    · rw [e, ef_3]; exact ⟨h1, hn, rfl, w0⟩
    · rw [e, ef_4]; exact ⟨h1, hn, rfl, w0⟩
    · rw [e, ef_5]; exact ⟨h1, hn, rfl, w0⟩
    · rw [e, ef_6]; exact ⟨h1, hn, rfl, w0⟩
    · rw [e, ef_8]
      have : wkT C M T c wk T = M.2.2 T := by
        unfold wkT
        rw [if_neg (fun z => w1 z.2.1)]
      show (wkT C M T c wk T).1 = 1 ∧ (wkT C M T c wk T).2.1 = 0 ∧ (wkT C M T c wk T).2.2.1 = _ ∧ (wkT C M T c wk T).2.2.2.1 = 0
      rw [this]
      exact ⟨h1, hn, rfl, w0⟩
    · rw [ef_o e]; exact ⟨h1, hn, rfl, w0⟩
    · rw [e, ef_13]
      show ((upT _ T _).2.2 T).1 = 1 ∧ ((upT _ T _).2.2 T).2.1 = 0 ∧ ((upT _ T _).2.2 T).2.2.1 = _ ∧ ((upT _ T _).2.2 T).2.2.2.1 = 0
      rw [upT_at]
      exact ⟨h1, hn, rfl, w0⟩
    · rw [e, ef_14]
      show ((upT _ T _).2.2 T).1 = 1 ∧ ((upT _ T _).2.2 T).2.1 = 0 ∧ ((upT _ T _).2.2 T).2.2.1 = _ ∧ ((upT _ T _).2.2 T).2.2.2.1 = 0
      rw [upT_at]
      exact ⟨h1, hn, rfl, w0⟩
theorem kh_perform (hq : kV q) (ho : kiM q o) (hM : MM x o) (hK : CK x C) (hN : NC C) (hX : NXc C) (hX3 : NX3 C) (g : KMm x o C M) (hW : WM M) (wy : x.1 o 3 = Int32.ofNat w) (w01 : w = 0 ∨ w = 1) (i : Int32) {I : Nat} (ei : i.toInt = I) (hi : I < 84) {ch : gCh} (hc : kch x o I ch) (hin : chIn C M ch) (hF : ∀ y, MM y o → fm (sMk o) x y → DE y o → KMm y o C (doM C w M ch) → KDs y o (deM C w M ch) → Fv y) : KT G q (d + 5) zk_X5_perform 0 [(0, vr o), (1, vi i)] [] x (rv Fv) := by
  have hO := kiM_O ho
  have nT : (x.1 60 10).toInt = C.2.1.length := hK.2.1.1
  obtain ⟨T, lt9, wk⟩ := ch
  obtain ⟨c1, c2, c3, c4, c5⟩ := hc
  obtain ⟨i1, i2, i3⟩ := hin
  have hT : T < C.2.1.length := i1
  have c1 : x.1 (o + 11) I = Int32.ofNat T := c1
  have eN : i.toNatClampNeg = I := by rw [t_cl, ei]; rfl
  have vi9 : vp_in i 84 := by rw [vp_in_iff]; omega
  have hTx : (T : Int) < (x.1 60 10).toInt := by omega
  have hT6 := MM_6 hM.1 hTx
  have hA := (hM.2.2 T hTx).1
  have t6 := hM.1.1.2.2.1
  obtain ⟨b1, b2, b3, b4, b5, b6, b7⟩ := MG_b hM.1 hM.2.1
  have eT : (x.1 (o + 11) I).toInt = T := by rw [c1]; exact Int32.toInt_ofNat_of_lt (by omega)
  have gT := g.2 T hT
  refine kg_X5_perform_0 hq ho _ ⟨vi9, vi9, ?_⟩
  rw [eN]
  cases hlt : lt9 with
  | none =>
    have i2 := i2 hlt
    have h1 : (M.2.2 T).1 = 1 := i2.1
    refine ⟨fun _ => ?_, fun c => absurd (c2 hlt) c⟩
    have hg : rg x o T 0 = 1 := by rw [gT.1.1, h1]; rfl
    have hgo := (hM.2.2 T hTx).2 hg
    obtain ⟨st, s1, s2, s3, s4, s5, kn, ns⟩ := kst_at hM hK hN hT gT
    obtain ⟨v, e, l⟩ := MM_st hM.1 hA
    have hcs := hM.1.2.2.2.1 _ l
    have o16 : st.1 < 16 := by
      have := hgo.1
      rw [s3, s5] at this
      omega
    have w3 := kst_w3 hM hK hN hT gT
    have est2 : (rg x o T 2).toInt = ((M.2.2 T).2.2.1 : Nat) := gT.2.2.1
    have hn0 : (M.2.2 T).2.1 = 0 := (hW T hT6).1 (by omega)
    have acE : doM C w M (T, none, wk) = acM C w M T wk := rfl
    rw [hlt] at hF
    rw [acE] at hF
    have tonone : ¬ (st.1 = 0 ∨ (2 ≤ st.1 ∧ st.1 ≤ 4) ∨ st.1 = 16 ∨ st.1 = 17 ∨ st.1 = 20) → (stN C (M.2.2 T).2.2.1).2.2.2.1 = none := fun z => by rw [s2]; exact (hX _ st s1).2.2.2.2.1 z
    have obE : obM C (M.2.2 T).2.2.1 = st.2.2.2.2.1.toNatClampNeg := by unfold obM; rw [s2]
    have go : ∀ p : Int32, p = Int32.ofNat (soM C (M.2.2 T)) → ((rg x o T 3 = 0 ∧ p = x.1 81 (rg x o T 2).toInt.toNat) ∨ (¬ rg x o T 3 = 0 ∧ p = 15)) → KT G q (d + 4) zk_X5_get 0 [(0, vr o), (1, vi (x.1 (o + 11) I)), (2, vi 2)] [] x (ri (fun r7 x6 => vp_in r7 400 ∧ KT G q (d + 4) zk_X1_clear 0 [(0, vr (o + 20)), (1, vi (x.1 (o + 11) I)), (2, vi p), (3, vi (x6.1 85 (r7 : Int32).toNatClampNeg))] [] x6 (rv (fun x9 => vp_in i 84 ∧ KT G q (d + 4) zk_X5_actFailure 0 [(0, vr o), (1, vi (x.1 (o + 11) I)), (2, vi r7), (3, vi p), (4, vi (x9.1 (o + 13) I))] [] x9 (ri (fun r12 x11 => ((r12 = (0 : Int32) → ((¬ (p = (9 : Int32)) → KT G q (d + 5) zk_X5_perform 129 [(0, vr o), (2, vi (x.1 (o + 11) I)), (3, vi p), (4, vi r7)] [] x11 (rv Fv)) ∧ (p = (9 : Int32) → vp_in r7 400 ∧ KT G q (d + 4) zk_X5_rouse 0 [(0, vr o), (1, vi (x11.1 85 (r7 : Int32).toNatClampNeg))] [] x11 (rv (fun x16 => KT G q (d + 5) zk_X5_perform 129 [(0, vr o), (2, vi (x.1 (o + 11) I)), (3, vi p), (4, vi r7)] [] x16 (rv Fv)))))) ∧ (¬ (r12 = (0 : Int32)) → (∀ x17 : gd, x17 = si x11 (o + 20) 5 1 → KT G q (d + 4) zk_X5_fail 0 [(0, vr o), (1, vi (x.1 (o + 11) I)), (2, vi r12)] [] x17 (rv (fun x18 => rv Fv none x18))))))))))) := by
      intro p hps hp
      have so16 : soM C (M.2.2 T) < 16 := by
        unfold soM
        split
        · rw [s2]; exact o16
        · decide
      have ep : p.toInt = (soM C (M.2.2 T) : Nat) := by rw [hps]; exact Int32.toInt_ofNat_of_lt (by omega)
      have p0 : 0 ≤ p.toInt := by omega
      refine kp_get hq ho hM.1 hM.2.1 _ _ eT (show (2 : Int32).toInt = ((2 : Nat) : Int) from rfl) hT6 (by omega) ⟨v, ?_⟩
      rw [e]
      refine kp_deedClear9 hq (kiM_D ho) _ _ _ (fun y fy y0 y1 y2 y5 y346 => ⟨vi9, ?_⟩)
      obtain ⟨hy, fM, ry⟩ := MM_dc hO hM fy
      have y10 : y.1 60 10 = x.1 60 10 := fy _ _ (by omega)
      have y85 : ∀ j, y.1 85 j = x.1 85 j := fun j => fy _ _ (by omega)
      obtain ⟨f6, f9, e13, e9, e8, e7, -⟩ := sM_e hO fM
      have gy : KMm y o C M := KMm_fr hO hM hK f6 f9 e13 e9 (fun j _ => fy _ _ (by omega)) ry g
      have hKy := CK_M hO hK fM
      rw [← ry T 2]
      refine kh_act (wk := wk) hq ho hy hKy hN hX hX3 gy (by rw [fM o 3 (by unfold sMk; omega)]; exact wy) w01 _ _ _ eT hT h1 hps (fun z => by rw [fy _ _ (by omega)]; exact c4 z) (fun k hk => ⟨by rw [fy _ _ (by omega)]; exact c5 k hk, i2.2.2 k hk⟩) (by rw [y85, ry]; exact y2) y346.1 y346.2.1 y346.2.2 (fun r z hz kd hd hr => ?_)
      have fz := fm_tr fM hz.2.1
      have hKz := CK_M hO hK fz
      have z10 : z.1 60 10 = x.1 60 10 := by rw [(AR_9 hO hz).2.1]; exact y10
      have d0 : z.1 (o + 20) 0 = x.1 (o + 11) I := by rw [hz.2.2.2 0 (by decide)]; exact y0
      have d1 : z.1 (o + 20) 1 = p := by rw [hz.2.2.2 1 (by decide)]; exact y1
      have d5 : z.1 (o + 20) 5 = 0 := by rw [hz.2.2.2 5 (by decide)]; exact y5
      rw [ry]
      have kdd : ∀ u : gd, (∀ k, ¬ k = 5 → u.1 (o + 20) k = z.1 (o + 20) k) → (u.1 (o + 20) 5 = if decide (¬ (lkM C w M T).1 = 0) = true then 1 else 0) → KDs u o (deM C w M (T, none, wk)) := fun u hu h5 => by
        obtain ⟨k2, k3, k4, k6⟩ := kd
        refine ⟨⟨?_, ?_, ?_, ?_, ?_, h5, ?_⟩, by show T < 6; omega⟩
        · rw [hu 0 (by decide), d0]; exact c1
        · rw [hu 1 (by decide), d1]; exact hps
        · rw [hu 2 (by decide), k2]; rfl
        · rw [hu 3 (by decide), k3]; rfl
        · rw [hu 4 (by decide), k4]; rfl
        · rw [hu 6 (by decide)]; exact k6
      -- the deed of an act that was done
      have deed : r = 0 → ∀ w, fm (sSt o) z w → DE w o := by
        intro r0 w fw
        obtain ⟨q2, q3⟩ := hd r0
        have w20 : ∀ k, w.1 (o + 20) k = z.1 (o + 20) k := fun k => fw _ _ (by unfold sSt; omega)
        have ww : ∀ k, k ≠ 5 → w.1 60 k = x.1 60 k := fun k hk => by rw [fw 60 k (by unfold sSt; omega), fz 60 k (by unfold sMk; omega)]
        unfold DE
        rw [w20, w20, w20, w20, d0, d1, d5, ww 10 (by omega), ww 6 (by omega), ww 9 (by omega)]
        refine ⟨gbool_0, Or.inr ⟨by omega, p0, fun _ => ⟨fun c4 => ?_, fun c58 => ?_, fun c9 => ?_⟩⟩⟩
        · have := q2 c4
          rw [fy 60 6 (by omega)] at this; exact this
        · rw [q3 (by omega), y2]
          rcases hp with ⟨e3, e1⟩ | ⟨e3, e1⟩
          · rcases c58 with c | c
            · rw [e1] at c
              exact hcs.1.2.1 c.1 c.2
            · exfalso; rw [e1] at c; exact hcs.2.1.2 c
          · have h7 := hgo.2 e3
            exact hcs.1.2.1 (by omega) (by omega)
        · rw [q3 (by omega), y2]
          rcases hp with ⟨e3, e1⟩ | ⟨e3, e1⟩
          · rw [e1] at c9
            exact hcs.1.2.2 (by unfold sop; omega) (by unfold sop; omega)
          · exfalso; rw [e1] at c9; revert c9; decide
      have kdo : (lkM C w M T).1 = 0 → ∀ u, fm (sSt o) z u → KDs u o (deM C w M (T, none, wk)) := fun ln u fu => kdd u (fun k _ => fu _ _ (by unfold sSt; omega)) (by rw [fu _ _ (by unfold sSt; omega), d5, if_neg (by rw [decide_eq_true_iff]; exact fun q => q ln)])
      rcases hr with ⟨rn, er, ln, gz⟩ | ⟨r0, ln, gn9, g9⟩
      · -- it fails
        refine ⟨fun r0 => absurd r0 rn, fun _ x17 e17 => ?_⟩
        obtain ⟨h17, r17⟩ := AR_deed (S := fun k => k = 5) hO hz.1 rfl e17
        have f17 := fm_tr fz h17.2.1
        have hK17 := CK_M hO hK f17
        have g17 : KMm x17 o C M := AR_KM hO hz.1 hKz h17 (fun j _ => by rw [e17, si_cell (by omega)]) r17 gz
        obtain ⟨v6, v9', v13, v9, v8, v7, v10⟩ := sM_e hO f17
        refine kh_fail hq ho (MM_MS h17.1) hT6 _ _ eT (fun w hw fw w0 w1 w2 lw wv => rv_i (hF w (MS_MM hw (fun _ c1 => ?_)) (fm_tr f17 (fm_w fw (fun c k q => sSt_M q))) ?_ ?_ (kdd w (fun k hk => by rw [fw _ _ (by unfold sSt; omega), e17, si_get, if_neg (fun q => hk q.2)]) (by rw [fw _ _ (by unfold sSt; omega), e17, si_get, if_pos ⟨rfl, rfl⟩, if_pos (by rw [decide_eq_true_iff]; exact ln)]))))
        · rw [w0] at c1; exact absurd c1 (by decide)
        · have w20 : ∀ k, w.1 (o + 20) k = x17.1 (o + 20) k := fun k => fw _ _ (by unfold sSt; omega)
          have q5 : x17.1 (o + 20) 5 = 1 := by rw [e17, si_get, if_pos ⟨rfl, rfl⟩]
          unfold DE
          rw [w20, w20, w20, w20, q5, h17.2.2.2 0 (by decide), h17.2.2.2 1 (by decide), d0, d1, fw 60 10 (by unfold sSt; omega), f17 60 10 (by unfold sMk; omega)]
          exact ⟨gbool_1, Or.inr ⟨by omega, p0, fun c5 => absurd c5 (by decide)⟩⟩
        · rw [acM_F ln]
          have fMw : fm (sMk o) x17 w := fm_w fw (fun c k q => sSt_M q)
          obtain ⟨u6, u9', u13, u9, u8, u7, u10⟩ := sM_e hO fMw
          have gT17 := g17.2 T hT
          have hA17 := (h17.1.2.2 T (by rw [v10]; exact hTx)).1
          obtain ⟨k1, k2, k3, k4, k5, k6, k7⟩ := MG_b h17.1.1 h17.1.2.1
          refine KMm_T hO h17.1 hK17 fMw lw (fun t' k' ht hk => hw.2.2.2 t' k' ht (by rw [u8]; exact hk)) g17 (kTq_k h17.1.1 h17.1.2.1 hA17 u13 u9 (fun k => if k = 0 then 3 else if k = 1 then r else rg x17 o T k) (fun k hk => ?_) gT17 rfl ⟨rfl, by show (3 : Nat) ≤ 3; decide⟩ er gT17.2.2.1 gT17.2.2.2.1 gT17.2.2.2.2.1 gT17.2.2.2.2.2.1 (fun _ => gT17.2.2.2.2.2.2.2.2 (Or.inl h1)))
          by_cases c0 : k = 0
          · rw [c0, if_pos (by decide), if_pos rfl]; exact w0
          · by_cases c1 : k = 1
            · rw [c1, if_pos (by decide), if_neg (by decide), if_pos rfl]; exact w1
            · rw [if_neg c0, if_neg c1]
              have : rg w o T k = rg x17 o T k := by
                by_cases c9 : (k : Int) < (x17.1 o 9).toInt
                · exact w2 k (by omega) c9
                · exact wv k (by omega) hk
              rw [this]; split <;> rfl
      · -- it is done
        refine ⟨fun _ => ⟨fun n9 => ?_, fun c9 => ⟨v, ?_⟩⟩, fun rn => absurd r0 rn⟩
        · have ns9 : ¬ soM C (M.2.2 T) = 9 := fun z9 => n9 (by rw [hps, z9]; rfl)
          have gz := gn9 ns9
          refine kg_X5_perform_129 hq ho _ _ _ ⟨fun c7 => rv_i (hF z hz.1 fz (deed r0 z (fm_rf _ _)) ?_ (kdo ln z (fm_rf _ _))), fun n7 => ?_⟩
          · have s7 : soM C (M.2.2 T) = 7 := by
              rw [c7] at ep
              have k7 : (7 : Int32).toInt = 7 := rfl
              omega
            rw [acM_7 ln s7, ef_7]
            have hw0 := (so_0 (C := C) (M := M) (t := T) (by omega))
            have o7 : st.1 = 7 := by rw [← s2, ← hw0.2]; exact s7
            have ll := lkM_b (w := w) hX s1 s2 hw0.1 (by omega)
            rw [← M1c_is (C := C) (w := w) (M := M) (T := T) (wk := wk) (v := 0) (E := upT (upL M (lkM C w M T).2.1.toNatClampNeg (0, 0)) T ((M.2.2 T).1, (M.2.2 T).2.1, (M.2.2 T).2.2.1, 1, (M.2.1 (lkM C w M T).2.1.toNatClampNeg).2, (M.2.2 T).2.2.2.2.2)) (by rw [s7, ef_7]) (tonone (by omega)) (by rw [upT_at])]
            exact gz
          · have ns7 : ¬ soM C (M.2.2 T) = 7 := fun z7 => n7 (by rw [hps, z7]; rfl)
            obtain ⟨E, eE⟩ : ∃ E, E = efM C w M T (soM C (M.2.2 T)) (lkM C w M T).2.1.toNatClampNeg (lkM C w M T).2.2.1 (lkM C w M T).2.2.2 wk := ⟨_, rfl⟩
            have acS := acM_is (E := E.1) (v := E.2) ln ns7 (by rw [← eE])
            have m1 : M1c C w M T wk = upT E.1 T (wLv (E.1.2.2 T) (toV (stN C (M.2.2 T).2.2.1) (M.2.2 T).2.2.2.2.2.2.2 E.2)) := by unfold M1c; rw [← eE]
            have eT9 : (E.1.2.2 T).1 = 1 ∧ (E.1.2.2 T).2.1 = 0 ∧ (E.1.2.2 T).2.2.1 = (M.2.2 T).2.2.1 ∧ (E.1.2.2 T).2.2.2.1 = 0 := by
              rw [eE]
              exact ef_own ns7 ns9 so16 h1 hn0 i2.2.1
            rw [m1] at gz
            have gTz : (upT E.1 T (wLv (E.1.2.2 T) (toV (stN C (M.2.2 T).2.2.1) (M.2.2 T).2.2.2.2.2.2.2 E.2))).2.2 T = wLv (E.1.2.2 T) (toV (stN C (M.2.2 T).2.2.1) (M.2.2 T).2.2.2.2.2.2.2 E.2) := upT_at
            refine kh_goon hq ho hz.1 hKz hN gz _ _ eT hT (by rw [gTz]; exact eT9.1) (by rw [gTz]; exact eT9.2.1) (by rw [gTz]; exact eT9.2.2.2) (by rw [gTz]; show C.1[(E.1.2.2 T).2.2.1]? = _; rw [eT9.2.2.1]; exact s1) o16 (by rw [gTz]; show _ = (((E.1.2.2 T).2.2.1 : Nat) : Int); rw [eT9.2.2.1]; exact est2) (fun u hu fu gu => (hF u hu (fm_tr fz (fm_w fu (fun c k q => sSt_M q))) (deed r0 u fu) ?_ (kdo ln u fu)))
            rw [acS]
            rw [upT_2, gTz] at gu
            have es9 : (wLv (E.1.2.2 T) (toV (stN C (M.2.2 T).2.2.1) (M.2.2 T).2.2.2.2.2.2.2 E.2)).2.2.1 = (M.2.2 T).2.2.1 := eT9.2.2.1
            rw [es9, thN_wLv] at gu
            exact gu
        · -- start
          have k9 : (9 : Int32).toInt = 9 := rfl
          have s9 : soM C (M.2.2 T) = 9 := by
            rw [c9] at ep
            omega
          obtain ⟨ez, hc0⟩ := g9 s9
          subst ez
          have hw0 := (so_0 (C := C) (M := M) (t := T) (by omega))
          have o9 : st.1 = 9 := by rw [← s2, ← hw0.2]; exact s9
          have k85 := kn.2.2.2.2.1 (by omega)
          have a := (hM.1.2.2.2.1 _ s4).1.2.2 (by omega) (by omega)
          rw [y85, s3, k85]
          rw [k85] at a
          have l1 : st.2.2.2.2.1.toInt = (obM C (M.2.2 T).2.2.1 : Nat) := by rw [obE, t_cl]; omega
          obtain ⟨c', ec⟩ : ∃ c', c' = obM C (M.2.2 T).2.2.1 := ⟨_, rfl⟩
          rw [← ec] at l1 hc0
          have hcl : c' < C.2.1.length := by omega
          obtain ⟨q9, hq9⟩ : ∃ q9, C.2.1[c']? = some q9 := ⟨_, List.getElem?_eq_getElem hcl⟩
          have hne : ¬ T = c' := fun z9 => by rw [← z9, h1] at hc0; exact absurd hc0 (by decide)
          have hWc := hW c' (by omega)
          have hwc : (M.2.2 c').2.2.2.1 = 0 := hWc.2.2 (by omega)
          refine kh_rouseM hq ho hz.1 hKz hN gy _ l1 hcl hc0 (hWc.1 (by omega)) hwc hq9 (fun u hu fu gu => kg_X5_perform_129 hq ho _ _ _ ⟨fun c7 => absurd (c7.symm.trans c9) (by decide), fun n7 => ?_⟩)
          have fzu := fm_tr fM (fm_w fu (fun c k q => sSt_M q))
          have gTu : (upT M c' (thN C c' (M.2.2 c') q9.1 (M.2.2 c').2.2.2.2.2.2.2)).2.2 T = M.2.2 T := upT_ne hne
          refine kh_goon hq ho hu (CK_M hO hK fzu) hN gu _ _ eT hT (by rw [gTu]; exact h1) (by rw [gTu]; exact hn0) (by rw [gTu]; exact hw0.1) (by rw [gTu]; exact s1) o16 (by rw [gTu]; exact est2) (fun v9 hv fv gv => (hF v9 hv (fm_tr fzu (fm_w fv (fun c k q => sSt_M q))) (deed r0 v9 (fm_tr fu fv)) ?_ (kdo ln v9 (fm_tr fu fv))))
          have ll := lkM_b (w := w) hX s1 s2 hw0.1 (by omega)
          rw [acM_is (E := upT M c' (thN C c' (M.2.2 c') q9.1 (M.2.2 c').2.2.2.2.2.2.2)) (v := 0) ln (by omega) (by rw [s9, ll, ef_9 (q := q9) (show C.2.1[(st.2.2.2.2.1).toNatClampNeg]? = some q9 by rw [← obE, ← ec]; exact hq9), ← obE, ← ec]), gTu, toV_n (tonone (by omega))]
          rw [gTu] at gv
          exact gv
    refine kp_sortOf hq ho hM.1 hM.2.1 _ eT hT6 hA (fun c0 => go _ ?_ (Or.inl ⟨c0, rfl⟩)) (fun c0 => go _ ?_ (Or.inr ⟨c0, rfl⟩))
    · unfold soM
      rw [if_pos (w3.mp c0), s2, s3]; exact kn.1
    · unfold soM
      rw [if_neg (fun z => c0 (w3.mpr z))]; rfl
  | some J =>
    have hJ := i3 J hlt
    have c3 := c3 J hlt
    have hJ : J < (M.2.2 T).2.2.2.2.2.2.1.length := hJ
    have q7 := gT.2.2.2.2.2.2.1.1
    have a2 := hA.2.1
    have eJ : (x.1 (o + 12) I).toInt = J := by rw [c3]; exact Int32.toInt_ofNat_of_lt (by omega)
    have laE : doM C w M (T, some J, wk) = laM M T J := rfl
    rw [hlt] at hF
    rw [laE] at hF
    refine ⟨fun c => ?_, fun _ => ?_⟩
    · exfalso; rw [c, tm1] at eJ; omega
    refine kp_deedClear hq (kiM_D ho) _ _ _ (fun y fy y0 y1 y2 y5 => ⟨vi9, ?_⟩)
    obtain ⟨hy, fM, ry⟩ := MM_dc hO hM fy
    obtain ⟨f6, f9, e13, e9, e8, e7, -⟩ := sM_e hO fM
    have gy : KMm y o C M := KMm_fr hO hM hK f6 f9 e13 e9 (fun j _ => fy _ _ (by omega)) ry g
    rw [fy (o + 12) I (by omega)]
    refine kh_bring hq ho hy (CK_M hO hK fM) gy _ _ eT eJ hT hJ (fun z hz fz z20 gz => rv_i (hF z hz (fm_tr fM fz) ⟨?_, Or.inl ?_⟩ gz (by show z.1 (o + 20) 0 = -1; rw [z20, y0])))
    · rw [z20, y5]; exact gbool_0
    · rw [z20, y0]
end KMG
end
section
/-! the class: its choices are the machine's -/
def kchL (x : gd) (o : Nat) (l : List gCh) : Prop := (x.1 o 13).toInt = (l.length : Nat) ∧ ∀ i ch, l[i]? = some ch → kch x o i ch
/-- one that waits doesn't hold its lock -/
def WLk (C : gCo) (M : gMa) : Prop := ∀ t, t < 6 → ¬ (M.2.2 t).2.2.2.1 = 0 → ¬ (M.2.1 (obM C (M.2.2 t).2.2.1)).1 = t + 1
section KMI
variable {G : kG} {q : kP} {d : Nat} {x x0 y z : gd} {o : Nat} {F : Int32 → gd → Prop} {Fv : gd → Prop} {C : gCo} {M : gMa} {h h' : gTq} {t T w k c s : Nat} {l : List gCh} {ch : gCh}
theorem KMm_Li (hO : o = 120 ∨ o = 220) (hM : MM x o) (hK : CK x C) (f : fm (sLi o) x y) (g : KMm x o C M) : KMm y o C M :=
  KMm_fr hO hM hK (f _ _ (by unfold sLi; omega)) (f _ _ (by unfold sLi; omega)) (f _ _ (by unfold sLi; omega)) (f _ _ (by unfold sLi; omega)) (fun j _ => f _ _ (by unfold sLi; omega)) (rg_Li hO f) g
theorem CK_Li (hO : o = 120 ∨ o = 220) (hK : CK x C) (f : fm (sLi o) x y) : CK y C := CK_f hK (fun c k hc => f c k (by unfold sLi; omega))
theorem kh_canAct (hq : kV q) (ho : kiM q o) (hM : MM x o) (hK : CK x C) (hN : NC C) (g : KMm x o C M) (hWL : WLk C M) (wy : x.1 o 3 = Int32.ofNat w) (w01 : w = 0 ∨ w = 1) (t : Int32) (et : t.toInt = T) (hT : T < C.2.1.length) (hF : ∀ r : Int32, (¬ r = 0 ↔ canM C w M T) → F r x) : KT G q (d + 2) zk_X5_canAct 0 [(0, vr o), (1, vi t)] [] x (ri F) := by
  have nT : (x.1 60 10).toInt = C.2.1.length := hK.2.1.1
  have t6 := hM.1.1.2.2.1
  have hT6 := MM_6 hM.1 (t := T) (by omega)
  have hA := (hM.2.2 T (by omega)).1
  have gT := g.2 T hT
  have k0 : (0 : Int32).toInt = 0 := rfl
  have k2 : (2 : Int32).toInt = 2 := rfl
  have tT : t = Int32.ofNat T := i32_of et
  obtain ⟨st, s1, s2, s3, s4, s5, kn, ns⟩ := kst_at hM hK hN hT gT
  obtain ⟨v, e, -⟩ := MM_st hM.1 hA
  have hcs := (hM.1.2.2.2.1 _ s4).1
  have w3 := kst_w3 hM hK hN hT gT
  have gi := kw_i hA gT
  have l7 := gT.2.2.2.2.2.2.1.1
  have le : ∀ {t' : Nat}, t' < C.2.1.length → (rg x o t' 7 = 0 ↔ (M.2.2 t').2.2.2.2.2.2.1 = []) := fun {t'} ht' => by
    have := (g.2 t' ht').2.2.2.2.2.2.1.1
    rw [t_eq, k0, this, ← List.length_eq_zero_iff]
    omega
  have f0 : ¬ canM C w M T → ri F (some (vi 0)) x := fun z => ri_i (hF _ ⟨fun c => absurd rfl c, fun c => absurd c z⟩)
  have f1 : canM C w M T → ri F (some (vi 1)) x := fun z => ri_i (hF _ ⟨fun _ => z, fun _ => by decide⟩)
  have g7 : ∀ {H : Int32 → gd → Prop}, H (rg x o T 7) x → KT G q (d + 1) zk_X5_get 0 [(0, vr o), (1, vi t), (2, vi 7)] [] x (ri H) := fun hh => kp_get hq ho hM.1 hM.2.1 _ _ et (show (7 : Int32).toInt = ((7 : Nat) : Int) from rfl) hT6 (by omega) hh
  have obE : obM C (M.2.2 T).2.2.1 = st.2.2.2.2.1.toNatClampNeg := by unfold obM; rw [s2]
  refine kg_X5_canAct_0 hq ho _ (kp_isGoing hq ho hM.1 hM.2.1 _ et hT6 (fun hg => ⟨fun _ => ?_, fun c => absurd c (by decide)⟩) (fun hg => ⟨fun c => absurd rfl c, fun _ => f0 (fun z => hg (gi.mpr z.1))⟩))
  have h1 := gi.mp hg
  have hgo := (hM.2.2 T (by omega)).2 hg
  have o16 : st.1 < 16 := by
    have := hgo.1
    rw [s3, s5] at this
    omega
  refine kp_get hq ho hM.1 hM.2.1 _ _ et (show (2 : Int32).toInt = ((2 : Nat) : Int) from rfl) hT6 (by omega) ⟨v, ?_⟩
  rw [e, s3]
  refine kp_sortOf hq ho hM.1 hM.2.1 _ et hT6 hA (fun c3 => ?_) (fun c3 => ?_)
  · -- it does not wait
    have w0 := w3.mp c3
    have so : soM C (M.2.2 T) = st.1 := by unfold soM; rw [if_pos w0, s2]
    rw [s3]
    have oi : (x.1 81 (M.2.2 T).2.2.1).toInt = (st.1 : Nat) := s5
    have op : ∀ {n : Nat}, n < 16 → x.1 81 (M.2.2 T).2.2.1 = Int32.ofNat n → st.1 = n := fun {n} hn z => by
      have e1 : (Int32.ofNat n).toInt = (n : Nat) := Int32.toInt_ofNat_of_lt (by omega)
      rw [t_eq, e1] at z
      omega
    have lk : 5 ≤ st.1 → st.1 ≤ 8 → st.2.2.2.2.1.toInt = (obM C (M.2.2 T).2.2.1 : Nat) ∧ ((obM C (M.2.2 T).2.2.1 : Nat) : Int) < (x.1 60 9).toInt := fun n5 n8 => by
      have a := hcs.2.1 (by omega) (by omega)
      rw [kn.2.2.2.2.1 (by omega)] at a
      rw [obE, t_cl]
      omega
    refine ⟨fun c => f1 ?_, fun c1 => ?_, fun c5 => ?_, fun c15 => ?_, fun c10 => ?_, fun cn => ?_⟩
    · have : st.1 = 0 ∨ st.1 = 12 ∨ st.1 = 13 ∨ st.1 = 14 := by
        rcases c with c | c | c | c
        · exact Or.inl (op (n := 0) (by decide) c)
        · exact Or.inr (Or.inl (op (n := 12) (by decide) c))
        · exact Or.inr (Or.inr (Or.inl (op (n := 13) (by decide) c)))
        · exact Or.inr (Or.inr (Or.inr (op (n := 14) (by decide) c)))
      refine ⟨h1, by omega, fun z => absurd ?_ z, fun z => by omega, fun z => by omega⟩
      rw [so]; omega
    · have e1 : st.1 = 1 := op (n := 1) (by decide) c1
      refine kh_goesLate hq ho hM hK hN wy w01 _ gT.2.2.1 s1 (fun r hr => ⟨fun c => f1 ?_, fun c => g7 ⟨fun c7 => f0 (fun z => ?_), fun c7 => f1 ?_⟩⟩)
      · obtain ⟨r1, r2, r3⟩ := hr.mp c
        refine ⟨h1, by omega, fun z => absurd ?_ z, fun z => by omega, fun z => by omega⟩
        rw [so, obE]
        exact Or.inr (Or.inr (Or.inr (Or.inr ⟨r1, e1, r3⟩)))
      · refine c7 ((le hT).mpr (z.2.2.1 (fun z9 => ?_)))
        rw [so, obE] at z9
        have : w = 1 ∧ st.1 = 1 ∧ suM C st.2.2.2.2.1.toNatClampNeg = false := by
          rcases z9 with z9 | z9 | z9 | z9 | z9
          · omega
          · omega
          · omega
          · omega
          · exact z9
        exact hr.mpr this c
      · exact ⟨h1, by omega, fun _ => (le hT).mp c7, fun z => by omega, fun z => by omega⟩
    · have e5 : st.1 = 5 := op (n := 5) (by decide) c5
      obtain ⟨l1, l2⟩ := lk (by omega) (by omega)
      rw [kn.2.2.2.2.1 (by omega)]
      have l6 := (g.1.2 _ l2).2.1
      have hh := hol_t (M.2.1 (obM C (M.2.2 T).2.2.1)).1 (by omega) T hT6
      have hn := hol_n (M.2.1 (obM C (M.2.2 T).2.2.1)).1 (by omega)
      refine g7 ⟨fun c7 => f0 (fun z => c7 ((le hT).mpr (z.2.2.1 (fun z9 => by omega)))), fun c7 => kh_holder hq ho hM g _ l1 l2 ⟨fun c => f1 ?_, fun c => kh_holder hq ho hM g _ l1 l2 ⟨fun c' => f0 (fun z => ?_), fun c' => f1 ?_⟩⟩⟩
      · exact ⟨h1, by omega, fun _ => (le hT).mp c7, fun _ => Or.inl (hn.mp c), fun z => by omega⟩
      · rcases z.2.2.2.1 (Or.inl (by omega)) with z | z
        · exact c (hn.mpr z)
        · exact c' (by rw [tT]; exact hh.mpr z)
      · rw [tT] at c'
        exact ⟨h1, by omega, fun _ => (le hT).mp c7, fun _ => Or.inr (hh.mp c'), fun z => by omega⟩
    · have := op (n := 15) (by decide) c15
      exact absurd this ns.1.2
    · have e10 : st.1 = 10 := op (n := 10) (by decide) c10
      have a := hcs.2.2 (by omega) (by omega)
      rw [kn.2.2.2.2.1 (by omega)] at a ⊢
      have l1 : st.2.2.2.2.1.toInt = (obM C (M.2.2 T).2.2.1 : Nat) := by rw [obE, t_cl]; omega
      have lo : obM C (M.2.2 T).2.2.1 < C.2.1.length := by omega
      have go := (g.2 _ lo).1
      have gs : (rg x o (obM C (M.2.2 T).2.2.1) 0).toInt = ((M.2.2 (obM C (M.2.2 T).2.2.1)).1 : Nat) := by rw [go.1]; exact Int32.toInt_ofNat_of_lt (by omega)
      refine g7 ⟨fun c7 => f0 (fun z => c7 ((le hT).mpr (z.2.2.1 (fun z9 => by omega)))), fun c7 => kp_get hq ho hM.1 hM.2.1 _ _ l1 (show (0 : Int32).toInt = ((0 : Nat) : Int) from rfl) (by omega) (by omega) ⟨fun c => f0 (fun z => ?_), fun c => kp_get hq ho hM.1 hM.2.1 _ _ l1 (show (7 : Int32).toInt = ((7 : Nat) : Int) from rfl) (by omega) (by omega) ⟨fun c' => f0 (fun z => ?_), fun c' => f1 ?_⟩⟩⟩
      · have := (z.2.2.2.2 (by omega)).1
        rw [t_lt, k2, gs] at c
        omega
      · exact c' ((le lo).mpr (z.2.2.2.2 (by omega)).2)
      · rw [t_lt, k2, gs] at c
        exact ⟨h1, by omega, fun _ => (le hT).mp c7, fun z => by omega, fun _ => ⟨by omega, (le lo).mp c'⟩⟩
    · have ne : ∀ n : Nat, n = 0 ∨ n = 12 ∨ n = 13 ∨ n = 14 ∨ n = 1 ∨ n = 5 ∨ n = 15 ∨ n = 10 → ¬ st.1 = n := fun n hn z => by
        refine cn (Int32.ofNat n) ?_ (by rw [kn.1, z])
        rcases hn with e | e | e | e | e | e | e | e <;> rw [e] <;> decide
      have n0 := ne 0 (by omega)
      have n12 := ne 12 (by omega)
      have n13 := ne 13 (by omega)
      have n14 := ne 14 (by omega)
      have n1 := ne 1 (by omega)
      have n5 := ne 5 (by omega)
      have n10 := ne 10 (by omega)
      have n15 := ne 15 (by omega)
      refine g7 ⟨fun c7 => f0 (fun z => c7 ((le hT).mpr (z.2.2.1 (fun z9 => by omega)))), fun c7 => f1 ⟨h1, by omega, fun _ => (le hT).mp c7, fun z => by omega, fun z => by omega⟩⟩
  · -- it waits
    have w0 : ¬ (M.2.2 T).2.2.2.1 = 0 := fun z => c3 (w3.mpr z)
    have so : soM C (M.2.2 T) = 15 := by unfold soM; rw [if_neg w0]
    have o7 := gT.2.2.2.1.2.2.2 w0
    rw [s2] at o7
    obtain ⟨l1, l2⟩ := kst_wl hM hK hN hT gT w0
    rw [s2] at l1
    rw [kn.2.2.2.2.1 (by omega)]
    have l6 := (g.1.2 _ l2).2.1
    have hn := hol_n (M.2.1 (obM C (M.2.2 T).2.2.1)).1 (by omega)
    have q5 := gT.2.2.2.1.2.1
    have qw := gT.2.2.2.1.2.2.1
    have nl := hWL T hT6 w0
    refine ⟨fun c => by rcases c with c | c | c | c <;> exact absurd c (by decide), fun c => absurd c (by decide), fun c => absurd c (by decide), fun _ => g7 ⟨fun c7 => f0 (fun z => c7 ((le hT).mpr (z.2.2.1 (fun z9 => by omega)))), fun c7 => kp_get hq ho hM.1 hM.2.1 _ _ et (show (5 : Int32).toInt = ((5 : Nat) : Int) from rfl) hT6 (by omega) ⟨fun c5 => f0 (fun z => c5 ?_), fun c5 => kh_holder hq ho hM g _ l1 l2 ⟨fun c => f0 (fun z => ?_), fun c => f1 ?_⟩⟩⟩, fun c => absurd c (by decide), fun c => absurd rfl (c 15 (by decide))⟩
    · rw [q5, if_pos]
      have := z.2.1
      omega
    · rcases z.2.2.2.1 (Or.inr so) with z | z
      · exact c (hn.mpr z)
      · exact nl z
    · have w2 : (M.2.2 T).2.2.2.1 = 2 := by
        by_cases c9 : (M.2.2 T).2.2.2.1 = 2
        · exact c9
        · rw [q5, if_neg c9] at c5; exact absurd c5 (by decide)
      exact ⟨h1, by omega, fun _ => (le hT).mp c7, fun _ => Or.inl (hn.mp c), fun z => by omega⟩
/-- one choice more -/
theorem kh_list (hq : kV q) (ho : kiM q o) (h : MM x o) (hL : LSk x o) (hl : kchL x o l) (l84 : l.length < 84) (t j w : Int32) {T : Nat} (et : t.toInt = T) (hT : (T : Int) < (x.1 60 10).toInt) (hc : (j = -1 ∧ rg x o T 0 = 1) ∨ ∃ J : Nat, j.toInt = J ∧ (J : Int) < (rg x o T 7).toInt) (hch : t = Int32.ofNat ch.1 ∧ (ch.2.1 = none → j = -1) ∧ (∀ i, ch.2.1 = some i → j = Int32.ofNat i) ∧ (ch.2.2 = none → w = -1) ∧ ∀ i, ch.2.2 = some i → w = Int32.ofNat i) (hF : ∀ y, fm (sLi o) x y → LSk y o → kchL y o (l ++ [ch]) → Fv y) : KT G q d zk_X5_list 0 [(0, vr o), (1, vi t), (2, vi j), (3, vi w)] [] x (rv Fv) := by
  have hO := kiM_O ho
  have k84 : (84 : Int32).toInt = 84 := rfl
  obtain ⟨⟨l0, l1⟩, hls⟩ := id hL
  obtain ⟨hl1, hl2⟩ := hl
  refine kg_X5_list_0 hq ho _ _ _ ⟨fun c => ?_, fun c => ?_⟩
  · exfalso; rw [t_le, k84] at c; omega
  rw [t_le, k84] at c
  have v : vp_in (x.1 o 13) 84 := by rw [vp_in_iff]; omega
  refine ⟨v, fun x3 e3 => ?_⟩
  have q3 : x3.1 o 13 = x.1 o 13 := by rw [e3, si_cell (by omega)]
  refine ⟨by rw [q3]; exact v, fun x5 e5 => ?_⟩
  rw [q3] at e5
  have q5 : x5.1 o 13 = x.1 o 13 := by rw [e5, si_cell (by omega)]; exact q3
  refine ⟨by rw [q5]; exact v, fun x7 e7 z ez => rv_i ?_⟩
  rw [q5] at e7
  have q7 : x7.1 o 13 = x.1 o 13 := by rw [e7, si_cell (by omega)]; exact q5
  rw [q7] at ez
  have f : fm (sLi o) x z := by
    rw [ez, e7, e5, e3]
    exact fm_si (fm_si (fm_si (fm_si (fm_rf _ _) (by unfold sLi; omega)) (by unfold sLi; omega)) (by unfold sLi; omega)) (Or.inl ⟨rfl, rfl⟩)
  have z13 : (z.1 o 13).toInt = (x.1 o 13).toInt + 1 := by
    have : z.1 o 13 = x.1 o 13 + 1 := by rw [ez, si_get, if_pos ⟨rfl, rfl⟩]
    rw [this, t_add (by show _ ≤ _ + (1 : Int); omega) (by show _ + (1 : Int) ≤ _; omega)]; rfl
  have eN : (x.1 o 13).toNatClampNeg = l.length := by rw [t_cl, hl1]; rfl
  rw [eN] at e3 e5 e7
  have rr := rg_Li hO f
  have a1 : ∀ i, z.1 (o + 11) i = if i = l.length then t else x.1 (o + 11) i := fun i => by
    rw [ez, si_cell (by omega), e7, si_cell (by omega), e5, si_cell (by omega), e3, si_get]
    by_cases ci : i = l.length
    · rw [if_pos ⟨rfl, ci⟩, if_pos ci]
    · rw [if_neg (fun q => ci q.2), if_neg ci]
  have a2 : ∀ i, z.1 (o + 12) i = if i = l.length then j else x.1 (o + 12) i := fun i => by
    rw [ez, si_cell (by omega), e7, si_cell (by omega), e5, si_get, e3, si_cell (by omega)]
    by_cases ci : i = l.length
    · rw [if_pos ⟨rfl, ci⟩, if_pos ci]
    · rw [if_neg (fun q => ci q.2), if_neg ci]
  have a3 : ∀ i, z.1 (o + 13) i = if i = l.length then w else x.1 (o + 13) i := fun i => by
    rw [ez, si_cell (by omega), e7, si_get, e5, si_cell (by omega), e3, si_cell (by omega)]
    by_cases ci : i = l.length
    · rw [if_pos ⟨rfl, ci⟩, if_pos ci]
    · rw [if_neg (fun q => ci q.2), if_neg ci]
  refine hF z f ⟨by omega, fun i hi => ?_⟩ ⟨?_, fun i ch' hi => ?_⟩
  · rw [a1, a2]
    by_cases hi2 : i = l.length
    · rw [if_pos hi2, if_pos hi2]
      refine ⟨T, et, by rw [f 60 10 (by unfold sLi; omega)]; exact hT, ?_⟩
      rw [rr, rr]; exact hc
    · rw [if_neg hi2, if_neg hi2]
      obtain ⟨T2, p1, p2, p3⟩ := hls i (by omega)
      refine ⟨T2, p1, by rw [f 60 10 (by unfold sLi; omega)]; exact p2, ?_⟩
      rw [rr, rr]; exact p3
  · rw [z13, hl1, List.length_append]; push_cast; rfl
  · have hi9 := gt_lt hi
    rw [List.length_append] at hi9
    have hi9 : i < l.length + 1 := hi9
    rw [List.getElem?_append] at hi
    unfold kch
    rw [a1, a2, a3]
    by_cases hi2 : i = l.length
    · rw [if_neg (by omega), hi2, Nat.sub_self] at hi
      cases Option.some.inj hi
      rw [if_pos hi2, if_pos hi2, if_pos hi2]
      exact hch
    · rw [if_pos (by omega)] at hi
      rw [if_neg hi2, if_neg hi2, if_neg hi2]
      exact hl2 i ch' hi
/-- the act's choices -/
theorem kh_listAct (hq : kV q) (ho : kiM q o) (hM : MM x o) (hK : CK x C) (hN : NC C) (g : KMm x o C M) (hL : LSk x o) (hl : kchL x o l) (l84 : l.length + C.2.1.length < 84) (t : Int32) (et : t.toInt = T) (hT : T < C.2.1.length) (h1 : (M.2.2 T).1 = 1) (hF : ∀ y, fm (sLi o) x y → LSk y o → kchL y o (l ++ (if soM C (M.2.2 T) = 8 ∧ (stN C (M.2.2 T).2.2.1).2.2.2.2.2.2.1 = false ∧ (M.2.1 (obM C (M.2.2 T).2.2.1)).1 = T + 1 ∧ ¬ waM C M (obM C (M.2.2 T).2.2.1) = [] then (waM C M (obM C (M.2.2 T).2.2.1)).map (fun o => (T, none, some o)) else [(T, none, none)])) → Fv y) : KT G q (d + 2) zk_X5_listAct 0 [(0, vr o), (1, vi t)] [] x (rv Fv) := by
  have hO := kiM_O ho
  have nT : (x.1 60 10).toInt = C.2.1.length := hK.2.1.1
  have t6 := hM.1.1.2.2.1
  have hT6 := MM_6 hM.1 (t := T) (by omega)
  have hA := (hM.2.2 T (by omega)).1
  have gT := g.2 T hT
  have tT : t = Int32.ofNat T := i32_of et
  obtain ⟨st, s1, s2, s3, s4, s5, kn, ns⟩ := kst_at hM hK hN hT gT
  obtain ⟨v, e, -⟩ := MM_st hM.1 hA
  have hcs := (hM.1.2.2.2.1 _ s4).1
  have w3 := kst_w3 hM hK hN hT gT
  have hg : rg x o T 0 = 1 := by rw [gT.1.1, h1]; rfl
  have obE : obM C (M.2.2 T).2.2.1 = st.2.2.2.2.1.toNatClampNeg := by unfold obM; rw [s2]
  obtain ⟨L, eL⟩ : ∃ L, L = obM C (M.2.2 T).2.2.1 := ⟨_, rfl⟩
  rw [← eL] at hF obE
  rw [s2] at hF
  have p57 : ¬ (soM C (M.2.2 T) = 8 ∧ st.2.2.2.2.2.2.1 = false ∧ (M.2.1 L).1 = T + 1 ∧ ¬ waM C M L = []) → KT G q (d + 2) zk_X5_listAct 57 [(0, vr o), (1, vi t)] [] x (rv Fv) := fun nz => kg_X5_listAct_57 hq ho _ (kh_list (ch := (T, none, none)) hq ho hM hL hl (by omega) _ _ _ et (by omega) (Or.inl ⟨rfl, hg⟩) ⟨tT, fun _ => rfl, (fun i z => nomatch z), fun _ => rfl, (fun i z => nomatch z)⟩ (fun y fy hy ly => rv_i (hF y fy hy (by rw [if_neg nz]; exact ly))))
  obtain ⟨P, eP⟩ : ∃ P : Nat → Bool, P = fun o => (M.2.2 o).2.2.2.1 == 1 && obM C (M.2.2 o).2.2.1 == L := ⟨_, rfl⟩
  have wE : waM C M L = (List.range C.2.1.length).filter P := by rw [eP]; rfl
  have w8 : ∀ s ∈ (waM C M L).reverse, s < 8 := fun s hs => by
    rw [wE] at hs
    have := List.mem_range.mp (List.mem_filter.mp (List.mem_reverse.mp hs)).1
    omega
  have loop : (soM C (M.2.2 T) = 8 ∧ st.2.2.2.2.2.2.1 = false ∧ (M.2.1 L).1 = T + 1 ∧ ¬ waM C M L = []) → ∀ (n k : Nat) (i : Int32) (y : gd), i.toInt = k → k ≤ C.2.1.length → (x.1 60 10).toInt - k ≤ n → fm (sLi o) x y → LSk y o → kchL y o (l ++ ((List.range k).filter P).map (fun o => (T, none, some o))) → KT G q (d + 2) zk_X5_listAct 75 [(0, vr o), (1, vi t), (4, vi (kmN (waM C M L).reverse)), (5, vi i)] [] y (rv Fv) := by
    intro cz n
    have fin : ∀ {k : Nat} {y : gd}, k = C.2.1.length → fm (sLi o) x y → LSk y o → kchL y o (l ++ ((List.range k).filter P).map (fun o => (T, none, some o))) → rv Fv none y := fun {k y} ek fy hy ly => rv_i (hF y fy hy (by rw [if_pos cz, wE, ← ek]; exact ly))
    induction n with
    | zero =>
      intro k i y ei hk hn fy hy ly
      refine kg_X5_listAct_75 hq ho _ _ _ ⟨fun _ => fin (by omega) fy hy ly, fun c => ?_⟩
      exfalso; rw [fy 60 10 (by unfold sLi; omega), t_le] at c; omega
    | succ n ih =>
      intro k i y ei hk hn fy hy ly
      refine kg_X5_listAct_75 hq ho _ _ _ ⟨fun c => fin (by rw [fy 60 10 (by unfold sLi; omega), t_le] at c; omega) fy hy ly, fun c => ?_⟩
      rw [fy 60 10 (by unfold sLi; omega), t_le] at c
      have e1 : (i + 1).toInt = ((k + 1 : Nat) : Int) := by rw [t_add (by show _ ≤ _ + (1 : Int); omega) (by show _ + (1 : Int) ≤ _; omega), ei]; rfl
      have hk' : k < C.2.1.length := by omega
      have ii : i = Int32.ofNat k := i32_of ei
      have bit := km_bit w8 k (by omega)
      have mem : k ∈ (waM C M L).reverse ↔ P k = true := by
        rw [List.mem_reverse, wE, List.mem_filter, List.mem_range]
        exact ⟨fun z => z.2, fun z => ⟨hk', z⟩⟩
      rw [ii] at e1 ⊢
      rw [bit]
      by_cases cP : P k = true
      · rw [if_pos (mem.mpr cP)]
        have yes : (List.range (k + 1)).filter P = (List.range k).filter P ++ [k] := by
          rw [List.range_succ, List.filter_append, List.filter_cons_of_pos (by exact cP), List.filter_nil]
        have ln : ((List.range k).filter P).length ≤ k := by
          have := List.length_filter_le P (List.range k)
          rw [List.length_range] at this
          exact this
        refine ⟨fun z => absurd rfl z, fun _ => kh_list (ch := (T, none, some k)) hq ho (MM_Li hO fy hM) hy ly (by rw [List.length_append, List.length_map]; omega) _ _ _ et (by rw [fy 60 10 (by unfold sLi; omega)]; omega) (Or.inl ⟨rfl, by rw [rg_Li hO fy]; exact hg⟩) ⟨tT, fun _ => rfl, (fun i z => nomatch z), (fun z => nomatch z), fun i z => by cases z; rfl⟩ (fun z fz hz lz => ih (k + 1) _ z e1 (by omega) (by push_cast; omega) (fm_tr fy fz) hz ?_)⟩
        rw [yes, List.map_append, ← List.append_assoc]
        exact lz
      · rw [if_neg (fun z => cP (mem.mp z))]
        have no : (List.range (k + 1)).filter P = (List.range k).filter P := by
          rw [List.range_succ, List.filter_append, List.filter_cons_of_neg (by exact cP), List.filter_nil, List.append_nil]
        exact ⟨fun _ => ih (k + 1) _ y e1 (by omega) (by push_cast; omega) fy hy (by rw [no]; exact ly), fun z => absurd z (by decide)⟩
  refine kg_X5_listAct_0 hq ho _ (kp_get hq ho hM.1 hM.2.1 _ _ et (show (2 : Int32).toInt = ((2 : Nat) : Int) from rfl) hT6 (by omega) ⟨v, ?_⟩)
  rw [e, s3]
  refine kp_sortOf hq ho hM.1 hM.2.1 _ et hT6 hA (fun c3 => ?_) (fun c3 => ⟨fun _ => p57 (fun z => ?_), fun c8 => absurd c8 (by decide)⟩)
  · have w0 := w3.mp c3
    have so : soM C (M.2.2 T) = st.1 := by unfold soM; rw [if_pos w0, s2]
    rw [s3]
    have o8 : x.1 81 (M.2.2 T).2.2.1 = 8 ↔ st.1 = 8 := by
      have k8 : (8 : Int32).toInt = 8 := rfl
      rw [t_eq, k8]
      have : (x.1 81 (M.2.2 T).2.2.1).toInt = (st.1 : Nat) := s5
      omega
    refine ⟨fun c => p57 (fun z => c (o8.mpr (by omega))), fun c => ⟨v, fun c84 => p57 (fun z => ?_), fun c84 => ?_⟩⟩
    · have := (kn.2.2.2.1 (o8.mp c)).mp c84
      rw [z.2.1] at this; cases this
    · have e8 := o8.mp c
      have a := hcs.2.1 (by omega) (by omega)
      rw [kn.2.2.2.2.1 (by omega)] at a ⊢
      have l1 : st.2.2.2.2.1.toInt = (L : Nat) := by rw [obE, t_cl]; omega
      have l2 : (L : Int) < (x.1 60 9).toInt := by omega
      have l6 := (g.1.2 _ l2).2.1
      have hh := hol_t (M.2.1 L).1 (by omega) T hT6
      have fl : st.2.2.2.2.2.2.1 = false := by
        cases hb : st.2.2.2.2.2.2.1 with
        | false => rfl
        | true => exact absurd ((kn.2.2.2.1 e8).mpr hb) c84
      refine kh_holder hq ho hM g _ l1 l2 ⟨fun c => p57 (fun z => c (by rw [tT]; exact hh.mpr z.2.2.1)), fun c => kh_waiters hq ho hM hK hN g _ l1 l2 ⟨fun c0 => kh_waiters hq ho hM hK hN g _ l1 l2 ?_, fun c0 => p57 (fun z => z.2.2.2 ?_)⟩⟩
      · rw [tT] at c
        refine loop ⟨by omega, fl, hh.mp c, fun z => c0 ?_⟩ 6 0 _ x rfl (by omega) (by omega) (fm_rf _ _) hL (by simpa using hl)
        rw [z]; rfl
      · have := (km_nil w8).mp c0
        exact List.reverse_eq_nil_iff.mp this
  · have := z.1
    have w0 : ¬ (M.2.2 T).2.2.2.1 = 0 := fun z => c3 (w3.mpr z)
    have so : soM C (M.2.2 T) = 15 := by unfold soM; rw [if_neg w0]
    omega
theorem ltM_mem {J : Nat} : J ∈ ltM h ↔ J < h.2.2.2.2.2.2.1.length ∧ ∀ k, k < J → ∀ a b, h.2.2.2.2.2.2.1[k]? = some a → h.2.2.2.2.2.2.1[J]? = some b → ¬ a.1 = b.1 := by
  unfold ltM
  rw [List.mem_filter, List.mem_range, List.all_eq_true]
  refine and_congr_right (fun hJ => ?_)
  constructor
  · intro hz k hk a b ha hb e
    have := hz a (List.mem_of_getElem? (i := k) (by rw [List.getElem?_take, if_pos hk]; exact ha))
    rw [hb] at this
    simp [e] at this
  · intro hz a ha
    obtain ⟨k, hk⟩ := List.getElem?_of_mem ha
    rw [List.getElem?_take] at hk
    by_cases c : k < J
    · rw [if_pos c] at hk
      obtain ⟨b, hb⟩ : ∃ b, h.2.2.2.2.2.2.1[J]? = some b := ⟨_, List.getElem?_eq_getElem hJ⟩
      have := hz k c a b hk hb
      rw [hb]
      simp [this]
    · rw [if_neg c] at hk; cases hk
theorem kh_isFirst (hq : kV q) (ho : kiM q o) (hM : MM x o) (hK : CK x C) (g : KMm x o C M) (t j : Int32) {J : Nat} (et : t.toInt = T) (hT : T < C.2.1.length) (ej : j.toInt = J) (hJ : J < (M.2.2 T).2.2.2.2.2.2.1.length) (hF : ∀ r : Int32, (¬ r = 0 ↔ J ∈ ltM (M.2.2 T)) → F r x) : KT G q (d + 2) zk_X5_isFirstOfCell 0 [(0, vr o), (1, vi t), (2, vi j)] [] x (ri F) := by
  have nT : (x.1 60 10).toInt = C.2.1.length := hK.2.1.1
  have hT6 := MM_6 hM.1 (t := T) (by omega)
  have hA := (hM.2.2 T (by omega)).1
  have l8 := hA.2.1
  obtain ⟨l7, ll⟩ := (g.2 T hT).2.2.2.2.2.2.1
  rw [ltM_mem] at hF
  obtain ⟨l, el⟩ : ∃ l, l = (M.2.2 T).2.2.2.2.2.2.1 := ⟨_, rfl⟩
  rw [← el] at l7 ll hJ hF
  obtain ⟨b, hb⟩ : ∃ b, l[J]? = some b := ⟨_, List.getElem?_eq_getElem hJ⟩
  have b1 := (ll J b hb).1
  have loop : ∀ (n k : Nat) (i : Int32), i.toInt = k → (J : Int) - k ≤ n → (∀ k', k' < k → k' < J → ∀ a, l[k']? = some a → ¬ a.1 = b.1) → KT G q (d + 2) zk_X5_isFirstOfCell 2 [(0, vr o), (1, vi t), (2, vi j), (3, vi i)] [] x (ri F) := by
    have fin : ∀ {k : Nat}, J ≤ k → (∀ k', k' < k → k' < J → ∀ a, l[k']? = some a → ¬ a.1 = b.1) → ri F (some (vi 1)) x := fun {k} hk hz => ri_i (hF _ ⟨fun _ => ⟨hJ, fun k' hk' a b' ha hb' => by
      rw [hb] at hb'
      cases Option.some.inj hb'
      exact hz k' (by omega) hk' a ha⟩, fun _ => by decide⟩)
    intro n
    induction n with
    | zero =>
      intro k i ei hn hz
      refine kg_X5_isFirstOfCell_2 hq ho _ _ _ ⟨fun _ => fin (by omega) hz, fun c => ?_⟩
      exfalso; rw [t_le] at c; omega
    | succ n ih =>
      intro k i ei hn hz
      refine kg_X5_isFirstOfCell_2 hq ho _ _ _ ⟨fun c => fin (by rw [t_le] at c; omega) hz, fun c => ?_⟩
      rw [t_le] at c
      have e1 : (i + 1).toInt = ((k + 1 : Nat) : Int) := by rw [t_add (by show _ ≤ _ + (1 : Int); omega) (by show _ + (1 : Int) ≤ _; omega), ei]; rfl
      obtain ⟨a, ha⟩ : ∃ a, l[k]? = some a := ⟨_, List.getElem?_eq_getElem (by omega)⟩
      have a1 := (ll k a ha).1
      refine kp_lateCell hq ho hM.1 hM.2.1 _ _ et hT6 ei (by omega) (kp_lateCell hq ho hM.1 hM.2.1 _ _ et hT6 ej (by omega) ⟨fun c9 => ih (k + 1) _ e1 (by push_cast; omega) (fun k' h1 h2 a' ha' => ?_), fun c9 => ri_i (hF _ ⟨fun z => absurd rfl z, fun z => ?_⟩)⟩)
      · by_cases ck : k' = k
        · subst ck
          rw [ha] at ha'
          cases Option.some.inj ha'
          intro z
          exact c9 (t_eq.mpr (by rw [a1, b1, z]))
        · exact hz k' (by omega) h2 a' ha'
      · rw [t_eq, a1, b1] at c9
        exact absurd (by omega) (z.2 k (by omega) a b ha hb)
  exact kg_X5_isFirstOfCell_0 hq ho _ _ (loop 8 0 _ rfl (by omega) (fun k' h1 => absurd h1 (Nat.not_lt_zero _)))
theorem ch1_len (h6 : C.2.1.length ≤ 6) (h8 : (M.2.2 t).2.2.2.2.2.2.1.length ≤ 8) : (ch1 C w M t).length ≤ 14 := by
  have wl : ∀ L, (waM C M L).length ≤ 6 := fun L => by
    have := List.length_filter_le (fun o => (M.2.2 o).2.2.2.1 == 1 && obM C (M.2.2 o).2.2.1 == L) (List.range C.2.1.length)
    rw [List.length_range] at this
    exact Nat.le_trans this h6
  have ll : (ltM (M.2.2 t)).length ≤ 8 := by
    have := List.length_filter_le (fun i => (((M.2.2 t).2.2.2.2.2.2.1.take i).all (fun q => !(some q.1 == ((M.2.2 t).2.2.2.2.2.2.1[i]?).map (fun z => z.1))))) (List.range (M.2.2 t).2.2.2.2.2.2.1.length)
    rw [List.length_range] at this
    exact Nat.le_trans this h8
  unfold ch1
  rw [List.length_append, List.length_map]
  have a : (if canM C w M t then (if soM C (M.2.2 t) = 8 ∧ (stN C (M.2.2 t).2.2.1).2.2.2.2.2.2.1 = false ∧ (M.2.1 (obM C (M.2.2 t).2.2.1)).1 = t + 1 ∧ ¬ waM C M (obM C (M.2.2 t).2.2.1) = [] then (waM C M (obM C (M.2.2 t).2.2.1)).map (fun o => ((t, none, some o) : gCh)) else [(t, none, none)]) else []).length ≤ 6 := by
    split
    · split
      · rw [List.length_map]; exact wl _
      · exact (by decide : (1 : Nat) ≤ 6)
    · exact Nat.zero_le _
  omega
/-- its choices are the machine's -/
theorem kh_listChoices (hq : kV q) (ho : kiM q o) (hM : MM x o) (hK : CK x C) (hN : NC C) (g : KMm x o C M) (hWL : WLk C M) (wy : x.1 o 3 = Int32.ofNat w) (w01 : w = 0 ∨ w = 1) (hF : ∀ y, fm (sLi o) x y → LSk y o → kchL y o (chM C w M) → Fv y) : KT G q (d + 3) zk_X5_listChoices 0 [(0, vr o)] [] x (rv Fv) := by
  have hO := kiM_O ho
  have nT : (x.1 60 10).toInt = C.2.1.length := hK.2.1.1
  have t6 := hM.1.1.2.2.1
  have k1 : (1 : Int32).toInt = 1 := rfl
  have l8 : ∀ t, t < C.2.1.length → (M.2.2 t).2.2.2.2.2.2.1.length ≤ 8 := fun t ht => by
    have := (g.2 t ht).2.2.2.2.2.2.1.1
    have := (hM.2.2 t (by omega)).1.2.1
    omega
  have ln : ∀ k, k ≤ C.2.1.length → ((List.range k).flatMap (ch1 C w M)).length ≤ 14 * k := by
    intro k
    induction k with
    | zero => intro _; exact Nat.zero_le _
    | succ k ih =>
      intro hk
      rw [List.range_succ, List.flatMap_append, List.length_append, List.flatMap_singleton]
      have := ih (by omega)
      have := ch1_len (C := C) (M := M) (w := w) (t := k) (by omega) (l8 k (by omega))
      omega
  have up : ∀ k, (List.range (k + 1)).flatMap (ch1 C w M) = (List.range k).flatMap (ch1 C w M) ++ ch1 C w M k := fun k => by
    rw [List.range_succ, List.flatMap_append, List.flatMap_singleton]
  have loop : ∀ (n k : Nat) (t : Int32) (y : gd), t.toInt = k → k ≤ C.2.1.length → (x.1 60 10).toInt - k ≤ n → fm (sLi o) x y → LSk y o → kchL y o ((List.range k).flatMap (ch1 C w M)) → KT G q (d + 3) zk_X5_listChoices 7 [(0, vr o), (1, vi t)] [] y (rv Fv) := by
    have fin : ∀ {k : Nat} {y : gd}, k = C.2.1.length → fm (sLi o) x y → LSk y o → kchL y o ((List.range k).flatMap (ch1 C w M)) → rv Fv none y := fun {k y} ek fy hy ly => rv_i (hF y fy hy (by unfold chM; rw [← ek]; exact ly))
    intro n
    induction n with
    | zero =>
      intro k t y et hk hn fy hy ly
      refine kg_X5_listChoices_7 hq ho _ ⟨fun _ => fin (by omega) fy hy ly, fun c => ?_⟩
      exfalso; rw [fy 60 10 (by unfold sLi; omega), t_le] at c; omega
    | succ n ih =>
      intro k t y et hk hn fy hy ly
      refine kg_X5_listChoices_7 hq ho _ ⟨fun c => fin (by rw [fy 60 10 (by unfold sLi; omega), t_le] at c; omega) fy hy ly, fun c => ?_⟩
      rw [fy 60 10 (by unfold sLi; omega), t_le] at c
      have hk' : k < C.2.1.length := by omega
      have e1 : (t + 1).toInt = ((k + 1 : Nat) : Int) := by rw [t_add (by rw [k1]; omega) (by rw [k1]; omega), et]; rfl
      have lk := ln k hk
      have kT : t = Int32.ofNat k := i32_of et
      have l7 := (g.2 k hk').2.2.2.2.2.2.1.1
      have l8k := l8 k hk'
      obtain ⟨P, eP⟩ : ∃ P : Nat → Bool, P = fun i => (((M.2.2 k).2.2.2.2.2.2.1.take i).all (fun q => !(some q.1 == ((M.2.2 k).2.2.2.2.2.2.1[i]?).map (fun z => z.1)))) := ⟨_, rfl⟩
      have lE : ltM (M.2.2 k) = (List.range (M.2.2 k).2.2.2.2.2.2.1.length).filter P := by rw [eP]; rfl
      obtain ⟨A, eA⟩ : ∃ A : List gCh, A = (if canM C w M k then (if soM C (M.2.2 k) = 8 ∧ (stN C (M.2.2 k).2.2.1).2.2.2.2.2.2.1 = false ∧ (M.2.1 (obM C (M.2.2 k).2.2.1)).1 = k + 1 ∧ ¬ waM C M (obM C (M.2.2 k).2.2.1) = [] then (waM C M (obM C (M.2.2 k).2.2.1)).map (fun o => ((k, none, some o) : gCh)) else [(k, none, none)]) else []) := ⟨_, rfl⟩
      have cE : ch1 C w M k = A ++ (ltM (M.2.2 k)).map (fun i => (k, some i, none)) := by unfold ch1; rw [eA]
      have A6 : A.length ≤ 6 := by
        have wl : ∀ L, (waM C M L).length ≤ 6 := fun L => by
          have := List.length_filter_le (fun o => (M.2.2 o).2.2.2.1 == 1 && obM C (M.2.2 o).2.2.1 == L) (List.range C.2.1.length)
          rw [List.length_range] at this
          exact Nat.le_trans this (by omega)
        rw [eA]
        split
        · split
          · rw [List.length_map]; exact wl _
          · exact (by decide : (1 : Nat) ≤ 6)
        · exact Nat.zero_le _
      have inner : ∀ (m j : Nat) (i : Int32) (z : gd), i.toInt = j → j ≤ (M.2.2 k).2.2.2.2.2.2.1.length → (M.2.2 k).2.2.2.2.2.2.1.length - j ≤ m → fm (sLi o) x z → LSk z o → kchL z o ((List.range k).flatMap (ch1 C w M) ++ A ++ ((List.range j).filter P).map (fun i => (k, some i, none))) → KT G q (d + 3) zk_X5_listChoices 33 [(0, vr o), (1, vi t), (2, vi i)] [] z (rv Fv) := by
        have nx : ∀ {j : Nat} {z : gd}, j = (M.2.2 k).2.2.2.2.2.2.1.length → fm (sLi o) x z → LSk z o → kchL z o ((List.range k).flatMap (ch1 C w M) ++ A ++ ((List.range j).filter P).map (fun i => (k, some i, none))) → KT G q (d + 3) zk_X5_listChoices 7 [(0, vr o), (1, vi (t + 1))] [] z (rv Fv) := fun {j z} ej fz hz lz => ih (k + 1) _ z e1 (by omega) (by push_cast; omega) fz hz (by rw [up, cE, lE, ← ej, ← List.append_assoc]; exact lz)
        intro m
        induction m with
        | zero =>
          intro j i z ei hj hm fz hz lz
          have hz9 := MM_Li hO fz hM
          refine kg_X5_listChoices_33 hq ho _ _ (kp_get hq ho hz9.1 hz9.2.1 _ _ et (show (7 : Int32).toInt = ((7 : Nat) : Int) from rfl) (by omega) (by omega) ⟨fun _ => nx (by omega) fz hz lz, fun c2 => ?_⟩)
          exfalso; rw [rg_Li hO fz, t_le] at c2; omega
        | succ m ihm =>
          intro j i z ei hj hm fz hz lz
          have hz9 := MM_Li hO fz hM
          refine kg_X5_listChoices_33 hq ho _ _ (kp_get hq ho hz9.1 hz9.2.1 _ _ et (show (7 : Int32).toInt = ((7 : Nat) : Int) from rfl) (by omega) (by omega) ⟨fun c2 => nx (by rw [rg_Li hO fz, t_le] at c2; omega) fz hz lz, fun c2 => ?_⟩)
          rw [rg_Li hO fz, t_le] at c2
          have ei1 : (i + 1).toInt = ((j + 1 : Nat) : Int) := by rw [t_add (by rw [k1]; omega) (by rw [k1]; omega), ei]; rfl
          have hj' : j < (M.2.2 k).2.2.2.2.2.2.1.length := by omega
          have mem : j ∈ ltM (M.2.2 k) ↔ P j = true := by
            rw [lE, List.mem_filter, List.mem_range]
            exact ⟨fun z => z.2, fun z => ⟨hj', z⟩⟩
          have fl : ((List.range j).filter P).length ≤ j := by
            have := List.length_filter_le P (List.range j)
            rw [List.length_range] at this
            exact this
          refine kh_isFirst hq ho hz9 (CK_Li hO hK fz) (KMm_Li hO hM hK fz g) _ _ et hk' ei hj' (fun r hr => ⟨fun c => ihm (j + 1) _ z ei1 (by omega) (by omega) fz hz ?_, fun c => kh_list (ch := (k, some j, none)) hq ho hz9 hz lz (by rw [List.length_append, List.length_append, List.length_map]; omega) _ _ _ et (by rw [fz 60 10 (by unfold sLi; omega)]; omega) (Or.inr ⟨j, ei, by rw [rg_Li hO fz]; omega⟩) ⟨kT, (fun z => nomatch z), fun i' z => by cases z; exact i32_of ei, fun _ => rfl, (fun i' z => nomatch z)⟩ (fun w' fw hw lw => ihm (j + 1) _ w' ei1 (by omega) (by omega) (fm_tr fz fw) hw ?_)⟩)
          · have nP : ¬ P j = true := fun z => hr.mpr (mem.mpr z) c
            rw [List.range_succ, List.filter_append, List.filter_cons_of_neg (by exact nP), List.filter_nil, List.append_nil]
            exact lz
          · have yP : P j = true := mem.mp (hr.mp c)
            rw [List.range_succ, List.filter_append, List.filter_cons_of_pos (by exact yP), List.filter_nil, List.map_append, ← List.append_assoc]
            exact lw
      have hy9 := MM_Li hO fy hM
      have gy := KMm_Li hO hM hK fy g
      have hKy := CK_Li hO hK fy
      refine kh_canAct hq ho hy9 hKy hN gy hWL (by rw [fy o 3 (by unfold sLi; omega)]; exact wy) w01 _ et hk' (fun r hr => ⟨fun c0 => inner 8 0 _ y rfl (by omega) (by omega) fy hy ?_, fun c3 => ?_⟩)
      · have nc : ¬ canM C w M k := fun z => hr.mpr z c0
        rw [eA, if_neg nc]
        simpa using ly
      · have cc := hr.mp c3
        refine kh_listAct hq ho hy9 hKy hN gy hy ly (by omega) _ et hk' cc.1 (fun z fz hz lz => inner 8 0 _ z rfl (by omega) (by omega) (fm_tr fy fz) hz ?_)
        rw [eA, if_pos cc]
        simpa using lz
  refine kg_X5_listChoices_0 hq ho (fun x1 e1 => loop 6 0 _ x1 rfl (by omega) (by omega) (by rw [e1]; exact fm_si (fm_rf _ _) (Or.inl ⟨rfl, rfl⟩)) ⟨?_, fun i hi => ?_⟩ ⟨?_, (fun i ch hi => nomatch hi)⟩)
  · have : x1.1 o 13 = 0 := by rw [e1, si_get, if_pos ⟨rfl, rfl⟩]
    rw [this]; decide
  · have : x1.1 o 13 = 0 := by rw [e1, si_get, if_pos ⟨rfl, rfl⟩]
    rw [this] at hi
    have k0 : (0 : Int32).toInt = 0 := rfl
    omega
  · have : x1.1 o 13 = 0 := by rw [e1, si_get, if_pos ⟨rfl, rfl⟩]
    rw [this]; rfl
end KMI
end
section
/-! the class: how a run begins -/
/-- a run's beginning, threads below k done -/
noncomputable def fsK (C : gCo) (k : Nat) : gMa := ((fsM C).1, (fsM C).2.1, fun t => if t < k then (fsM C).2.2 t else th0)
section KMZ
variable {G : kG} {q : kP} {d : Nat} {x x0 y z : gd} {o : Nat} {F : Int32 → gd → Prop} {Fv : gd → Prop} {C : gCo} {t k : Nat}
theorem fsK_in (h : t < k) : (fsK C k).2.2 t = (fsM C).2.2 t := by
  show (if t < k then (fsM C).2.2 t else th0) = _
  rw [if_pos h]
theorem fsK_out (h : ¬ t < k) : (fsK C k).2.2 t = th0 := by
  show (if t < k then (fsM C).2.2 t else th0) = _
  rw [if_neg h]
theorem fsM_at {q9 : Nat × Nat} (h : C.2.1[k]? = some q9) : (fsM C).2.2 k = if q9.2 = 1 then th0 else thN C k th0 q9.1 (fun _ => 0) := by
  show (match C.2.1[k]? with | some q => if q.2 = 1 then th0 else thN C k th0 q.1 (fun _ => 0) | none => th0) = _
  rw [h]
theorem fsK_idle {q9 : Nat × Nat} (h : C.2.1[k]? = some q9) (h1 : q9.2 = 1) : fsK C (k + 1) = fsK C k := by
  unfold fsK
  refine Prod.ext rfl (Prod.ext rfl (funext fun i => ?_))
  show (if i < k + 1 then (fsM C).2.2 i else th0) = if i < k then (fsM C).2.2 i else th0
  by_cases c : i < k
  · rw [if_pos c, if_pos (by omega)]
  · rw [if_neg c]
    by_cases c1 : i = k
    · rw [if_pos (by omega), c1, fsM_at h, if_pos h1]
    · rw [if_neg (by omega)]
theorem fsK_go {q9 : Nat × Nat} (h : C.2.1[k]? = some q9) (h1 : ¬ q9.2 = 1) : fsK C (k + 1) = upT (fsK C k) k (thN C k th0 q9.1 (fun _ => 0)) := by
  unfold fsK upT upf
  refine Prod.ext rfl (Prod.ext rfl (funext fun i => ?_))
  show (if i < k + 1 then (fsM C).2.2 i else th0) = if i = k then _ else if i < k then (fsM C).2.2 i else th0
  by_cases c1 : i = k
  · rw [if_pos (by omega), if_pos c1, c1, fsM_at h, if_neg h1]
  · rw [if_neg c1]
    by_cases c : i < k
    · rw [if_pos c, if_pos (by omega)]
    · rw [if_neg c, if_neg (by omega)]
theorem kh_reset (hq : kV q) (ho : kiM q o) (hC : CO x) (hK : CK x C) (hN : NC C) (w : Int32) (hw : w = 0 ∨ w = 1) (hF : ∀ y, MM y o → fm (sRe o) x y → y.1 o 3 = w → KMm y o C (fsM C) → Fv y) : KT G q (d + 5) zk_X5_reset 0 [(0, vr o), (1, vi w)] [] x (rv Fv) := by
  have hO := kiM_O ho
  have k0 : (0 : Int32).toInt = 0 := rfl
  have k1 : (1 : Int32).toInt = 1 := rfl
  have k2 : (2 : Int32).toInt = 2 := rfl
  have k8 : (8 : Int32).toInt = 8 := rfl
  have k16 : (16 : Int32).toInt = 16 := rfl
  obtain ⟨c1, c2, c3, c4, -⟩ := hC.1
  refine kg_X5_reset_0 hq ho _ (fun x1 e1 x2 e2 x3 e3 x4 e4 => ?_)
  have f4 : fm (sRe o) x x4 := by
    rw [e4, e3, e2, e1]
    exact fm_si (fm_si (fm_si (fm_si (fm_rf _ _) (by unfold sRe; omega)) (by unfold sRe; omega)) (by unfold sRe; omega)) (by unfold sRe; omega)
  have g60 : ∀ k, ¬ k = 5 → x4.1 60 k = x.1 60 k := fun k hk => f4 _ _ (by unfold sRe; omega)
  have q1 : ∀ k, x1.1 60 k = x.1 60 k := fun k => by rw [e1, si_cell (by omega)]
  have q2 : ∀ k, x2.1 60 k = x.1 60 k := fun k => by rw [e2, si_cell (by omega)]; exact q1 k
  have q3 : ∀ k, x3.1 60 k = x.1 60 k := fun k => by rw [e3, si_cell (by omega)]; exact q2 k
  have w3 : x4.1 o 3 = w := by rw [e4, e3, e2, e1]; (simp only [si_get, sfl_get, Nat.reduceEqDiff, eq_self, and_false, false_and, and_true, true_and, if_true, if_false, reduceIte, reduceCtorEq])
  have w6 : x4.1 o 6 = x.1 60 6 := by rw [e4, e3, e2, q1]; (simp only [si_get, sfl_get, Nat.reduceEqDiff, eq_self, and_false, false_and, and_true, true_and, if_true, if_false, reduceIte, reduceCtorEq])
  have w7 : (x4.1 o 7).toInt = (x.1 60 6).toInt + 2 * (x.1 60 9).toInt := by
    have : x4.1 o 7 = x.1 60 6 + 2 * x.1 60 9 := by
      have x26 : x2.1 o 6 = x.1 60 6 := by rw [e2, q1]; (simp only [si_get, sfl_get, Nat.reduceEqDiff, eq_self, and_false, false_and, and_true, true_and, if_true, if_false, reduceIte, reduceCtorEq])
      rw [e4, e3, x26, q2]; (simp only [si_get, sfl_get, Nat.reduceEqDiff, eq_self, and_false, false_and, and_true, true_and, if_true, if_false, reduceIte, reduceCtorEq])
    have em : (2 * x.1 60 9).toInt = 2 * (x.1 60 9).toInt := by rw [t_mul (by rw [k2]; omega) (by rw [k2]; omega), k2]
    rw [this, t_add (by omega) (by omega), em]
  have w9 : (x4.1 o 9).toInt = 8 + (x.1 60 13).toInt := by
    have : x4.1 o 9 = 8 + x.1 60 13 := by rw [e4, q3]; (simp only [si_get, sfl_get, Nat.reduceEqDiff, eq_self, and_false, false_and, and_true, true_and, if_true, if_false, reduceIte, reduceCtorEq])
    rw [this, t_add (by rw [k8]; omega) (by rw [k8]; omega), k8]
  have p67 : ∀ s : Int32, s.toInt = (if w = 1 then 16 else 0) → KT G q (d + 5) zk_X5_reset 67 [(0, vr o)] [vi s, vi (x4.1 o 9), vr o] x4 (rv Fv) := by
    intro s hs
    have hs2 : 0 ≤ s.toInt ∧ s.toInt ≤ 16 := by rw [hs]; split <;> omega
    refine kg_X5_reset_67 hq ho _ _ (fun y1 ey1 y2 ey2 y3 ey3 => ?_)
    have f2 : fm (sRe o) x y2 := by rw [ey2, ey1]; exact fm_si (fm_si f4 (by unfold sRe; omega)) (by unfold sRe; omega)
    have f3 : fm (sRe o) x y3 := by rw [ey3]; exact fm_fl f2 (fun k _ => by unfold sRe; omega)
    have h60 : ∀ k, ¬ k = 5 → y3.1 60 k = x.1 60 k := fun k hk => f3 _ _ (by unfold sRe; omega)
    have yo : ∀ k, y3.1 o k = y2.1 o k := fun k => by rw [ey3, sfl_get, if_neg (by omega)]
    have v8 : (y3.1 o 8).toInt = 8 + (x.1 60 13).toInt + s.toInt := by
      have : y3.1 o 8 = x4.1 o 9 + s := by rw [yo, ey2, ey1]; (simp only [si_get, sfl_get, Nat.reduceEqDiff, eq_self, and_false, false_and, and_true, true_and, if_true, if_false, reduceIte, reduceCtorEq])
      rw [this, t_add (by omega) (by omega), w9]
    have v7 : y3.1 o 7 = x4.1 o 7 := by rw [yo, ey2, ey1]; (simp only [si_get, sfl_get, Nat.reduceEqDiff, eq_self, and_false, false_and, and_true, true_and, if_true, if_false, reduceIte, reduceCtorEq])
    have v3 : y3.1 o 3 = w := by rw [yo, ey2, ey1]; (simp only [si_get, sfl_get, Nat.reduceEqDiff, eq_self, and_false, false_and, and_true, true_and, if_true, if_false, reduceIte, reduceCtorEq]); exact w3
    have v6 : y3.1 o 6 = x.1 60 6 := by rw [yo, ey2, ey1]; (simp only [si_get, sfl_get, Nat.reduceEqDiff, eq_self, and_false, false_and, and_true, true_and, if_true, if_false, reduceIte, reduceCtorEq]); exact w6
    have v9 : (y3.1 o 9).toInt = 8 + (x.1 60 13).toInt := by
      have : y3.1 o 9 = x4.1 o 9 := by rw [yo, ey2, ey1]; (simp only [si_get, sfl_get, Nat.reduceEqDiff, eq_self, and_false, false_and, and_true, true_and, if_true, if_false, reduceIte, reduceCtorEq])
      rw [this]; exact w9
    have v5 : (y3.1 o 5).toInt = (y3.1 o 7).toInt + (y3.1 o 8).toInt * (x.1 60 10).toInt := by
      have a1 : y3.1 o 5 = y1.1 o 7 + y1.1 o 8 * y1.1 60 10 := by rw [yo, ey2]; (simp only [si_get, sfl_get, Nat.reduceEqDiff, eq_self, and_false, false_and, and_true, true_and, if_true, if_false, reduceIte, reduceCtorEq])
      have a2 : y1.1 o 7 = y3.1 o 7 := by rw [v7, ey1]; (simp only [si_get, sfl_get, Nat.reduceEqDiff, eq_self, and_false, false_and, and_true, true_and, if_true, if_false, reduceIte, reduceCtorEq])
      have a3 : y1.1 o 8 = y3.1 o 8 := by rw [yo, ey2]; (simp only [si_get, sfl_get, Nat.reduceEqDiff, eq_self, and_false, false_and, and_true, true_and, if_true, if_false, reduceIte, reduceCtorEq])
      have a4 : y1.1 60 10 = x.1 60 10 := by rw [ey1, si_cell (by omega)]; exact g60 10 (by omega)
      have hm : 0 ≤ (y3.1 o 8).toInt * (x.1 60 10).toInt ∧ (y3.1 o 8).toInt * (x.1 60 10).toInt ≤ 192 := by
        have : (x.1 60 10).toInt = 0 ∨ (x.1 60 10).toInt = 1 ∨ (x.1 60 10).toInt = 2 ∨ (x.1 60 10).toInt = 3 ∨ (x.1 60 10).toInt = 4 ∨ (x.1 60 10).toInt = 5 ∨ (x.1 60 10).toInt = 6 := by omega
        rcases this with e | e | e | e | e | e | e <;> rw [e] <;> omega
      have em := t_mul (a := y3.1 o 8) (b := x.1 60 10) (by omega) (by omega)
      rw [a1, a2, a3, a4, t_add (by rw [v7]; omega) (by rw [v7]; omega), em]
    have hC3 : CO y3 := CO_fm hC (fun c k hc => f3 c k (by unfold sRe; omega))
    have hG3 : MG y3 o := by
      unfold MG
      rw [h60 6 (by omega), h60 9 (by omega), h60 13 (by omega), h60 10 (by omega), v3, v6, v9, v8, v7, w7]
      refine ⟨hw, rfl, rfl, rfl, ?_, ?_⟩
      · rw [hs]
      · rw [v5, v8, v7, w7]
    have zero : ∀ t k : Nat, t < 6 → k < 32 → rg y3 o t k = 0 := by
      intro t k ht hk
      obtain ⟨b1, b2, -⟩ := MG_b hC3 hG3
      have hlt : pa y3 o t k < 228 := by
        unfold pa
        have : t * (y3.1 o 8).toInt.toNat ≤ 5 * 32 := Nat.mul_le_mul (by omega) (by omega)
        omega
      show y3.1 (o + 5) (pa y3 o t k) = 0
      generalize pa y3 o t k = n at hlt ⊢
      rw [ey3, sfl_get, if_pos ⟨rfl, hlt⟩]
    have zlow : ∀ j : Nat, j < 228 → y3.1 (o + 5) j = 0 := fun j hj => by rw [ey3, sfl_get, if_pos ⟨rfl, hj⟩]
    have hK3 : CK y3 C := CK_f hK (fun c k hc => f3 c k (by unfold sRe; omega))
    have nT : (x.1 60 10).toInt = C.2.1.length := hK.2.1.1
    have hM3 : MM y3 o := by
      refine ⟨hC3, hG3, fun t ht => ?_⟩
      have ht6 := MM_6 hC3 ht
      have h0 := fun k hk => zero t k ht6 hk
      have hs0 := hC3.2.2.2.2 t ht
      refine ⟨⟨?_, ?_, fun _ => h0 7 (by omega), fun j hj => ?_, fun _ => h0 3 (by omega)⟩, fun c => ?_⟩
      · rw [h0 2 (by omega), k0]; omega
      · rw [h0 7 (by omega)]; decide
      · rw [h0 7 (by omega), k0] at hj; omega
      · rw [h0 0 (by omega)] at c; exact absurd c (by decide)
    have fin : ∀ (z : gd) (k : Nat) (i : Int32), i.toInt = k → MM z o → fm (sSt o) y3 z → KMm z o C (fsK C k) → k ≤ C.2.1.length → z.1 60 10 ≤ i → Fv z := by
      intro z k i ei hz fz gz hk c
      have z10 : z.1 60 10 = x.1 60 10 := by rw [fz 60 10 (by unfold sSt; omega), h60 10 (by omega)]
      rw [z10, t_le] at c
      have ek : k = C.2.1.length := by omega
      refine hF z hz (fm_tr f3 (fm_w fz (fun c k q => by unfold sSt at q; unfold sRe; omega))) (by rw [fz o 3 (by unfold sSt; omega)]; exact v3) ⟨gz.1, fun t ht => ?_⟩
      have := gz.2 t ht
      rw [fsK_in (by omega)] at this
      exact this
    -- threads are roused
    have loop2 : ∀ (n k : Nat) (i : Int32) (z : gd), i.toInt = k → k ≤ C.2.1.length → (x.1 60 10).toInt - k ≤ n → MM z o → fm (sSt o) y3 z → KMm z o C (fsK C k) → KT G q (d + 5) zk_X5_reset 136 [(0, vr o), (2, vi i)] [] z (rv Fv) := by
      intro n
      induction n with
      | zero =>
        intro k i z ei hk hn hz fz gz
        refine kg_X5_reset_136 hq ho _ ⟨fun c => rv_i (fin z k i ei hz fz gz hk c), fun c => ?_⟩
        exfalso; rw [fz 60 10 (by unfold sSt; omega), h60 10 (by omega), t_le] at c; omega
      | succ n ih =>
        intro k i z ei hk hn hz fz gz
        have z10 : z.1 60 10 = x.1 60 10 := by rw [fz 60 10 (by unfold sSt; omega), h60 10 (by omega)]
        refine kg_X5_reset_136 hq ho _ ⟨fun c => rv_i (fin z k i ei hz fz gz hk c), fun c => ?_⟩
        rw [z10, t_le] at c
        have e9 : (i + 1).toInt = ((k + 1 : Nat) : Int) := by rw [t_add (by rw [k1]; omega) (by rw [k1]; omega), ei]; rfl
        have kl : k < C.2.1.length := by omega
        obtain ⟨q9, hq9⟩ : ∃ q9, C.2.1[k]? = some q9 := ⟨_, List.getElem?_eq_getElem kl⟩
        have hKz : CK z C := CK_St hO hK3 fz
        have e73 : z.1 73 i.toNatClampNeg = Int32.ofNat q9.2 := by
          have eN : i.toNatClampNeg = k := by rw [t_cl, ei]; rfl
          rw [eN]; exact (hKz.2.1.2 k q9 hq9).2
        have q1 := (hN.2.1 q9 (List.mem_of_getElem? hq9)).2
        have tk : (fsK C k).2.2 k = th0 := fsK_out (Nat.lt_irrefl _)
        refine ⟨by rw [vp_in_iff]; omega, fun n0 => ?_, fun c0 => ?_⟩
        · refine ih (k + 1) _ z e9 (by omega) (by push_cast; omega) hz fz ?_
          rw [e73] at n0
          have : ¬ q9.2 = 0 := fun z => n0 (by rw [z]; rfl)
          rw [fsK_idle hq9 (by omega)]
          exact gz
        · refine kh_rouseM hq ho hz hKz hN gz _ ei kl (by rw [tk]; rfl) (by rw [tk]; rfl) (by rw [tk]; rfl) hq9 (fun u hu fu gu => ih (k + 1) _ u e9 (by omega) (by push_cast; omega) hu (fm_tr fz fu) ?_)
          rw [tk] at gu
          rw [fsK_go hq9 (fun z1 => by rw [e73, z1] at c0; exact absurd c0 (by decide))]
          exact gu
    -- cells are set
    have nC : (x.1 60 6).toInt = C.2.2.1.length := hK.2.2.1.1
    have m13 := hC.1.2.2.2.1
    have go2 : ∀ (z : gd) (k : Nat), (x.1 60 6).toInt ≤ k → MM z o → fm (sSt o) y3 z → (∀ t j : Nat, rg z o t j = rg y3 o t j) → (∀ j : Nat, (x.1 60 6).toInt ≤ j → (j : Int) < (y3.1 o 7).toInt → z.1 (o + 5) j = 0) → (∀ c : Nat, c < k → (c : Int) < (x.1 60 6).toInt → z.1 (o + 5) c = (fsM C).1 c) → KMm z o C (fsK C 0) := by
      intro z k hk hz fz rz hlk hc
      have z6 : z.1 60 6 = x.1 60 6 := by rw [fz 60 6 (by unfold sSt; omega), h60 6 (by omega)]
      have z9 : z.1 60 9 = x.1 60 9 := by rw [fz 60 9 (by unfold sSt; omega), h60 9 (by omega)]
      have z13 : z.1 60 13 = x.1 60 13 := by rw [fz 60 13 (by unfold sSt; omega), h60 13 (by omega)]
      refine ⟨⟨fun c hc' => ?_, fun l hl => ?_⟩, fun t ht => ?_⟩
      · rw [z6] at hc'; exact hc c (by omega) hc'
      · rw [z9] at hl
        rw [z6, hlk _ (by omega) (by rw [v7, w7]; omega), hlk _ (by omega) (by rw [v7, w7]; omega)]
        exact ⟨rfl, Nat.zero_le _, rfl⟩
      · rw [fsK_out (Nat.not_lt_zero _)]
        have t6 : t < 6 := by omega
        have zz : ∀ j, j < 32 → rg z o t j = 0 := fun j hj => by rw [rz]; exact zero t j t6 hj
        refine ⟨⟨by rw [zz 0 (by omega)]; rfl, by show (0 : Nat) ≤ 3; decide⟩, by rw [zz 1 (by omega)]; rfl, by rw [zz 2 (by omega)]; rfl, ⟨by rw [zz 3 (by omega)]; rfl, by rw [zz 5 (by omega)]; rfl, by show (0 : Nat) ≤ 2; decide, fun z => absurd rfl z⟩, by rw [zz 4 (by omega)]; rfl, by rw [zz 6 (by omega)]; decide, ⟨by rw [zz 7 (by omega)]; rfl, (fun i p hp => nomatch hp)⟩, fun p hp => ?_, fun c => ?_⟩
        · rw [z13] at hp
          rw [zz (8 + p) (by omega)]; rfl
        · have c : (0 : Nat) = 1 ∨ (0 : Nat) = 3 := c
          omega
    have loop1 : ∀ (n k : Nat) (i : Int32) (z : gd), i.toInt = k → (x.1 60 6).toInt - k ≤ n → MM z o → fm (sSt o) y3 z → (∀ t j : Nat, rg z o t j = rg y3 o t j) → (∀ j : Nat, (x.1 60 6).toInt ≤ j → (j : Int) < (y3.1 o 7).toInt → z.1 (o + 5) j = 0) → (∀ c : Nat, c < k → (c : Int) < (x.1 60 6).toInt → z.1 (o + 5) c = (fsM C).1 c) → KT G q (d + 5) zk_X5_reset 102 [(0, vr o), (2, vi i)] [] z (rv Fv) := by
      intro n
      induction n with
      | zero =>
        intro k i z ei hn hz fz rz hlk hcs
        refine kg_X5_reset_102 hq ho _ ⟨fun _ => loop2 6 0 _ z rfl (by omega) (by omega) hz fz (go2 z k (by omega) hz fz rz hlk hcs), fun c => ?_⟩
        exfalso; rw [fz 60 6 (by unfold sSt; omega), h60 6 (by omega), t_le] at c; omega
      | succ n ih =>
        intro k i z ei hn hz fz rz hlk hcs
        have z6 : z.1 60 6 = x.1 60 6 := by rw [fz 60 6 (by unfold sSt; omega), h60 6 (by omega)]
        refine kg_X5_reset_102 hq ho _ ⟨fun c => loop2 6 0 _ z rfl (by omega) (by omega) hz fz (go2 z k (by rw [z6, t_le] at c; omega) hz fz rz hlk hcs), fun c => ?_⟩
        rw [z6, t_le] at c
        refine ⟨by rw [vp_in_iff]; omega, by rw [vp_in_iff]; omega, fun u eu => ?_⟩
        have eN : i.toNatClampNeg = k := by rw [t_cl, ei]; rfl
        rw [eN] at eu
        have e9 : (i + 1).toInt = ((k + 1 : Nat) : Int) := by rw [t_add (by rw [k1]; omega) (by rw [k1]; omega), ei]; rfl
        have hKz : CK z C := CK_St hO hK3 fz
        obtain ⟨cq, hcq⟩ : ∃ cq, C.2.2.1[k]? = some cq := ⟨_, List.getElem?_eq_getElem (by omega)⟩
        have e68 : z.1 68 k = cq.1 := (hKz.2.2.1.2 k cq hcq).1
        have fk : (fsM C).1 k = cq.1 := by show (match C.2.2.1[k]? with | some q => q.1 | none => 0) = _; rw [hcq]
        have ru : ∀ t j, rg u o t j = rg z o t j := fun t j => rg_low hO (by rw [fz o 7 (by unfold sSt; omega), v7, w7]; omega) eu
        have fu : fm (sSt o) z u := st_f eu
        refine ih (k + 1) _ u e9 (by push_cast; omega) (MM_low hO hz (fm_w fu (fun c k q => sSt_M q)) ru) (fm_tr fz fu) (fun t j => by rw [ru, rz]) (fun j h1 h2 => ?_) (fun c' h1 h2 => ?_)
        · rw [eu, si_get, if_neg (fun z => by omega)]; exact hlk j h1 h2
        · rw [eu, si_get]
          by_cases ck : c' = k
          · rw [if_pos ⟨rfl, ck⟩, ck, fk]; exact e68
          · rw [if_neg (fun z => ck z.2)]; exact hcs c' (by omega) h2
    exact loop1 24 0 _ y3 rfl (by omega) hM3 (fm_rf _ _) (fun _ _ => rfl) (fun j _ h2 => zlow j (by have := MG_b hC3 hG3; omega)) (fun c1 h1 => absurd h1 (Nat.not_lt_zero _))
  rw [w3]
  refine ⟨fun c => p67 0 (by rw [if_neg c]; rfl), fun c => p67 16 (by rw [if_pos c]; rfl)⟩
end KMZ
end
section
/-! the machine: one that waits doesn't hold its lock; choices that there are -/
section PWL
variable {C : gCo} {M : gMa} {w t s c i : Nat} {e f : Int32} {wk : Option Nat} {ch : gCh}
theorem ix_no (hX : NXc C) (h : 5 ≤ (stN C s).1) : (stN C s).2.2.2.2.2.2.2.1 = none := by
  unfold stN at h ⊢
  cases hs : C.1[s]? with
  | none => rfl
  | some st =>
    rw [hs] at h
    have h : 5 ≤ st.1 := h
    show st.2.2.2.2.2.2.2.1 = none
    cases hz : st.2.2.2.2.2.2.2.1 with
    | none => rfl
    | some Q =>
      have := (hX s st hs).1 (by rw [hz]; exact (fun z => nomatch z))
      omega
theorem WLk_fs : WLk C (fsM C) := fun t _ n0 => by
  refine absurd ?_ n0
  by_cases q : t < C.2.1.length
  · obtain ⟨q9, hq⟩ : ∃ q9, C.2.1[t]? = some q9 := ⟨_, List.getElem?_eq_getElem q⟩
    by_cases c1 : q9.2 = 1
    · rw [fs_idle hq c1]; rfl
    · rw [fs_go hq c1]; rfl
  · rw [fs_out (by omega)]; rfl
theorem WLk_ef (q : WLk C M) (qw : WMw w M) (n7 : ¬ s = 7) (h9 : s = 9 → c < 6 → (M.2.2 c).1 = 0) : ∀ t', t' < 6 → ¬ t' = t → ¬ ((efM C w M t s c e f wk).1.2.2 t').2.2.2.1 = 0 → ¬ ((efM C w M t s c e f wk).1.2.1 (obM C ((efM C w M t s c e f wk).1.2.2 t').2.2.1)).1 = t' + 1 := by
  have same : ∀ E : gMa, E.2.2 = M.2.2 → E.2.1 = M.2.1 → ∀ t', t' < 6 → ¬ t' = t → ¬ (E.2.2 t').2.2.2.1 = 0 → ¬ (E.2.1 (obM C (E.2.2 t').2.2.1)).1 = t' + 1 := fun E h1 h2 t' ht' _ hw => by
    rw [h1] at hw ⊢
    rw [h2]
    exact q t' ht' hw
  have self : ∀ (E : gMa) (hh : gTq), E.2.2 = upf M.2.2 t hh → E.2.1 = M.2.1 → ∀ t', t' < 6 → ¬ t' = t → ¬ (E.2.2 t').2.2.2.1 = 0 → ¬ (E.2.1 (obM C (E.2.2 t').2.2.1)).1 = t' + 1 := fun E hh h1 h2 t' ht' ne hw => by
    rw [h1, upf_ne ne] at hw ⊢
    rw [h2]
    exact q t' ht' hw
  have lock : ∀ (E : gMa) (n : Nat × Int32), (n.1 = 0 ∨ n.1 = t + 1) → (∀ t', ¬ t' = t → E.2.2 t' = M.2.2 t') → E.2.1 = upf M.2.1 c n → ∀ t', t' < 6 → ¬ t' = t → ¬ (E.2.2 t').2.2.2.1 = 0 → ¬ (E.2.1 (obM C (E.2.2 t').2.2.1)).1 = t' + 1 := fun E n hn h1 h2 t' ht' ne hw => by
    rw [h1 t' ne] at hw ⊢
    rw [h2]
    unfold upf
    by_cases z : obM C (M.2.2 t').2.2.1 = c
    · rw [if_pos z]; omega
    · rw [if_neg z]; exact q t' ht' hw
  by_cases c0 : s = 0
  · rw [c0, ef_0]; exact same _ rfl rfl
  by_cases c1 : s = 1
  · rw [c1, ef_1]
    by_cases z : w = 0 ∨ suM C c = true
    · rw [if_pos z]; exact same _ rfl rfl
    · rw [if_neg z]; exact self _ _ rfl rfl
  by_cases c2 : s = 2
  · rw [c2, ef_2]; exact same _ rfl rfl
  by_cases c3 : s = 3
  · rw [c3, ef_3]; exact same _ rfl rfl
  by_cases c4 : s = 4
  · rw [c4, ef_4]; exact same _ rfl rfl
  by_cases c5 : s = 5
  · rw [c5, ef_5]; exact lock _ (t + 1, (M.2.1 c).2 + 1) (Or.inr rfl) (fun _ _ => rfl) rfl
  by_cases c6 : s = 6
  · rw [c6, ef_6]
    refine lock _ (if (M.2.1 c).2 - 1 = 0 then 0 else t + 1, (M.2.1 c).2 - 1) ?_ (fun _ _ => rfl) rfl
    show (if (M.2.1 c).2 - 1 = 0 then 0 else t + 1) = 0 ∨ (if (M.2.1 c).2 - 1 = 0 then 0 else t + 1) = t + 1
    split
    · exact Or.inl rfl
    · exact Or.inr rfl
  by_cases c8 : s = 8
  · rw [c8, ef_8]
    intro t' ht' ne hw
    have hw : ¬ (wkT C M t c wk t').2.2.2.1 = 0 := hw
    show ¬ (M.2.1 (obM C (wkT C M t c wk t').2.2.1)).1 = t' + 1
    unfold wkT at hw ⊢
    split at hw
    · next z =>
      rw [if_pos z]
      exact q t' ht' (by rw [z.2.1]; decide)
    · next z =>
      rw [if_neg z]
      exact q t' ht' hw
  by_cases c9 : s = 9
  · cases hq : C.2.1[c]? with
    | none =>
      have a : efM C w M t 9 c e f wk = (match C.2.1[c]? with | some q => upT M c (thN C c (M.2.2 c) q.1 (M.2.2 c).2.2.2.2.2.2.2) | none => M, 0) := by unfold efM; rfl
      rw [c9, a, hq]; exact same _ rfl rfl
    | some q9 =>
      rw [c9, ef_9 hq]
      intro t' ht' ne hw
      have hw : ¬ (upf M.2.2 c (thN C c (M.2.2 c) q9.1 (M.2.2 c).2.2.2.2.2.2.2) t').2.2.2.1 = 0 := hw
      show ¬ (M.2.1 (obM C (upf M.2.2 c (thN C c (M.2.2 c) q9.1 (M.2.2 c).2.2.2.2.2.2.2) t').2.2.1)).1 = t' + 1
      by_cases z : t' = c
      · rw [z, upf_eq] at hw
        rw [z] at ht'
        have z0 := h9 c9 ht'
        exact absurd ((qw c ht').2.2.1 (by omega)) hw
      · rw [upf_ne z] at hw ⊢; exact q t' ht' hw
  by_cases c13 : s = 13
  · rw [c13, ef_13]; exact self _ _ rfl rfl
  by_cases c14 : s = 14
  · rw [c14, ef_14]; exact self _ _ rfl rfl
  by_cases c15 : s = 15
  · rw [c15, ef_15]
    exact lock _ (t + 1, (M.2.2 t).2.2.2.2.1) (Or.inr rfl) (fun t' ne => by
      show upf M.2.2 t _ t' = _
      rw [upf_ne ne]) rfl
  · have a : efM C w M t s c e f wk = (M, 0) := by
      unfold efM
      rw [if_neg c0, if_neg c1, if_neg c2, if_neg c3, if_neg c4, if_neg c5, if_neg c6, if_neg n7, if_neg c8, if_neg c9, if_neg c13, if_neg c14, if_neg c15]
    rw [a]; exact same _ rfl rfl
theorem WLk_up {E : gMa} {hh : gTq} (a : ∀ t', t' < 6 → ¬ t' = t → ¬ (E.2.2 t').2.2.2.1 = 0 → ¬ (E.2.1 (obM C (E.2.2 t').2.2.1)).1 = t' + 1) (b : hh.2.2.2.1 = 0) : WLk C (upT E t hh) := by
  intro t' ht' hw
  by_cases z : t' = t
  · refine absurd ?_ hw
    show (upf E.2.2 t hh t').2.2.2.1 = 0
    rw [z, upf_eq]
    exact b
  · have hw : ¬ (upf E.2.2 t hh t').2.2.2.1 = 0 := hw
    show ¬ (E.2.1 (obM C (upf E.2.2 t hh t').2.2.1)).1 = t' + 1
    rw [upf_ne z] at hw ⊢
    exact a t' ht' z hw
theorem WLk_ac (hX : NXc C) (q : WLk C M) (qw : WMw w M) (t6 : t < 6) (h1 : (M.2.2 t).1 = 1) : WLk C (acM C w M t wk) := by
  by_cases L0 : (lkM C w M t).1 = 0
  · by_cases c7 : soM C (M.2.2 t) = 7
    · obtain ⟨w0, es⟩ := so_0 (C := C) (M := M) (t := t) (by omega)
      have o7 : (stN C (M.2.2 t).2.2.1).1 = 7 := by rw [← es]; exact c7
      have li := lkI_n (C := C) (M := M) (t := t) (ix_no hX (by omega))
      have cE : (lkM C w M t).2.1.toNatClampNeg = obM C (M.2.2 t).2.2.1 := by
        rw [(lkM_pl w0 L0).2, li]; rfl
      rw [acM_7 L0 c7, ef_7, cE]
      intro t' ht' hw
      have hw : ¬ (upf M.2.2 t _ t').2.2.2.1 = 0 := hw
      show ¬ (upf M.2.1 (obM C (M.2.2 t).2.2.1) (0, 0) (obM C (upf M.2.2 t _ t').2.2.1)).1 = t' + 1
      by_cases z : t' = t
      · rw [z, upf_eq, upf_eq]
        exact (fun z => nomatch z)
      · rw [upf_ne z] at hw ⊢
        by_cases z2 : obM C (M.2.2 t').2.2.1 = obM C (M.2.2 t).2.2.1
        · rw [z2, upf_eq]
          exact (fun z => nomatch z)
        · rw [upf_ne z2]; exact q t' ht' hw
    · have st9 : soM C (M.2.2 t) = 9 → (M.2.2 (lkM C w M t).2.1.toNatClampNeg).1 = 0 := fun e9 => by
        obtain ⟨w0, es⟩ := so_0 (C := C) (M := M) (t := t) (by omega)
        have rs := lkM_rs w0 L0
        rw [← es, e9, rsF_9] at rs
        exact Classical.byContradiction (fun n => by rw [if_neg n] at rs; exact nomatch rs)
      obtain ⟨-, b1, -, -⟩ := WMw_ef (C := C) (s := soM C (M.2.2 t)) (c := (lkM C w M t).2.1.toNatClampNeg) (e := (lkM C w M t).2.2.1) (f := (lkM C w M t).2.2.2) (wk := wk) qw t6 h1 (Classical.byCases Or.inl (fun n => Or.inr (so_0 n).1)) (fun e9 _ => st9 e9) (fun e9 z => by have := st9 e9; rw [z] at this; omega) c7
      have a := WLk_ef (C := C) (t := t) (s := soM C (M.2.2 t)) (c := (lkM C w M t).2.1.toNatClampNeg) (e := (lkM C w M t).2.2.1) (f := (lkM C w M t).2.2.2) (wk := wk) q qw c7 (fun e9 _ => st9 e9)
      rw [acM_is (E := (efM C w M t (soM C (M.2.2 t)) (lkM C w M t).2.1.toNatClampNeg (lkM C w M t).2.2.1 (lkM C w M t).2.2.2 wk).1) (v := (efM C w M t (soM C (M.2.2 t)) (lkM C w M t).2.1.toNatClampNeg (lkM C w M t).2.2.1 (lkM C w M t).2.2.2 wk).2) L0 c7 rfl]
      exact WLk_up a b1
  · have w0 : (M.2.2 t).2.2.2.1 = 0 := Classical.byContradiction (fun n0 => L0 (by rw [lkM_15 n0]))
    rw [acM_F L0]
    intro t' ht' hw
    by_cases z : t' = t
    · refine absurd ?_ hw
      show (upf M.2.2 t _ t').2.2.2.1 = 0
      rw [z, upf_eq]
      exact w0
    · have hw : ¬ (upf M.2.2 t _ t').2.2.2.1 = 0 := hw
      show ¬ (M.2.1 (obM C (upf M.2.2 t _ t').2.2.1)).1 = t' + 1
      rw [upf_ne z] at hw ⊢
      exact q t' ht' hw
theorem WLk_la (q : WLk C M) : WLk C (laM M t i) := by
  unfold laM
  cases hq : (M.2.2 t).2.2.2.2.2.2.1[i]? with
  | none => exact q
  | some z9 =>
    intro t' ht' hw
    have hw : ¬ (upf M.2.2 t _ t').2.2.2.1 = 0 := hw
    show ¬ (M.2.1 (obM C (upf M.2.2 t _ t').2.2.1)).1 = t' + 1
    by_cases z : t' = t
    · rw [z, upf_eq] at hw ⊢
      rw [z] at ht'
      exact q t ht' hw
    · rw [upf_ne z] at hw ⊢; exact q t' ht' hw
/-- what every state of a run is like -/
def MIv (C : gCo) (w : Nat) (M : gMa) : Prop := WMw w M ∧ WLk C M
theorem MIv_fs : MIv C w (fsM C) := ⟨WMw_fs, WLk_fs⟩
theorem ch_in (h : ch ∈ chM C w M) : chIn C M ch := by
  unfold chM at h
  obtain ⟨t, ht, h⟩ := List.mem_flatMap.mp h
  have ht := List.mem_range.mp ht
  unfold ch1 at h
  rcases List.mem_append.mp h with h | h
  · by_cases c : canM C w M t
    · rw [if_pos c] at h
      by_cases c8 : soM C (M.2.2 t) = 8 ∧ (stN C (M.2.2 t).2.2.1).2.2.2.2.2.2.1 = false ∧ (M.2.1 (obM C (M.2.2 t).2.2.1)).1 = t + 1 ∧ ¬ waM C M (obM C (M.2.2 t).2.2.1) = []
      · rw [if_pos c8] at h
        obtain ⟨u, hu, e⟩ := List.mem_map.mp h
        subst e
        exact ⟨ht, fun _ => ⟨c.1, c.2.1, fun k hk => by cases hk; exact hu⟩, (fun j z => nomatch z)⟩
      · rw [if_neg c8] at h
        cases List.mem_singleton.mp h
        exact ⟨ht, fun _ => ⟨c.1, c.2.1, (fun k hk => nomatch hk)⟩, (fun j z => nomatch z)⟩
    · rw [if_neg c] at h; cases h
  · obtain ⟨u, hu, e⟩ := List.mem_map.mp h
    subst e
    refine ⟨ht, (fun z => nomatch z), fun j z => ?_⟩
    cases z
    exact (ltM_mem.mp hu).1
theorem MIv_do (hX : NXc C) (l6 : C.2.1.length ≤ 6) (q : MIv C w M) (h : ch ∈ chM C w M) : MIv C w (doM C w M ch) := by
  obtain ⟨i1, i2, i3⟩ := ch_in h
  obtain ⟨t, lt9, wk⟩ := ch
  have i1 : t < C.2.1.length := i1
  unfold doM
  cases lt9 with
  | none => exact ⟨WMw_ac q.1 (by show t < 6; omega) (i2 rfl).1, WLk_ac hX q.2 q.1 (by show t < 6; omega) (i2 rfl).1⟩
  | some j => exact ⟨WMw_la q.1 (by show t < 6; omega), WLk_la q.2⟩
end PWL
end
