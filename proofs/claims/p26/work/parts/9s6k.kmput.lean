section
/-! the class: what acts do to what its machine holds -/
section KMP
variable {G : kG} {q : kP} {d : Nat} {x x0 y z : gd} {o : Nat} {F : Int32 → gd → Prop} {Fv : gd → Prop} {C : gCo} {M : gMa} {h h' : gTq} {t T w : Nat}
theorem upT_2 {h1 h2 : gTq} : upT (upT M T h1) T h2 = upT M T h2 := by
  unfold upT upf
  refine Prod.ext rfl (Prod.ext rfl (funext fun i => ?_))
  show (if i = T then h2 else if i = T then h1 else M.2.2 i) = if i = T then h2 else M.2.2 i
  by_cases c : i = T
  · rw [if_pos c, if_pos c]
  · rw [if_neg c, if_neg c, if_neg c]
theorem upT_at {h1 : gTq} : (upT M T h1).2.2 T = h1 := by
  show upf M.2.2 T h1 T = h1
  unfold upf
  rw [if_pos rfl]
theorem upT_ne {h1 : gTq} (c : ¬ t = T) : (upT M T h1).2.2 t = M.2.2 t := by
  show upf M.2.2 T h1 t = _
  unfold upf
  rw [if_neg c]
theorem upT_id {h1 : gTq} (e : h1 = M.2.2 T) : upT M T h1 = M := by
  unfold upT upf
  refine Prod.ext rfl (Prod.ext rfl (funext fun i => ?_))
  show (if i = T then h1 else M.2.2 i) = M.2.2 i
  by_cases c : i = T
  · rw [if_pos c, e, c]
  · rw [if_neg c]
/-- a field is set -/
theorem kh_seta {S : Nat → Prop} (hq : kV q) (ho : kiM q o) (h : MM x o) {T K : Nat} (t f v : Int32) (et : t.toInt = T) (ef : f.toInt = K) (hT : T < 6) (hK : (K : Int) < (x.1 o 8).toInt) (h0 : K ≠ 0 ∧ K ≠ 2) (h3 : K = 3 → v = 0 ∨ (rg x o T 0 = 1 ∧ sop x (rg x o T 2).toInt.toNat = 7)) (h7 : K = 7 → (0 ≤ v.toInt ∧ v.toInt ≤ 8) ∧ (¬ x.1 o 3 = 1 → v = 0) ∧ ∀ j : Nat, (j : Int) < v.toInt → 0 ≤ (rg x o T ((x.1 o 9).toInt.toNat + 2 * j)).toInt ∧ (rg x o T ((x.1 o 9).toInt.toNat + 2 * j)).toInt < (x.1 60 6).toInt) (h9 : ∀ j : Nat, (j : Int) < (rg x o T 7).toInt → K = (x.1 o 9).toInt.toNat + 2 * j → 0 ≤ v.toInt ∧ v.toInt < (x.1 60 6).toInt) (hF : ∀ y, AR S x y o → fm (sSt o) x y → lowE x y o → (∀ t k : Nat, (k : Int) < (x.1 o 8).toInt → rg y o t k = if t = T ∧ k = K then v else rg x o t k) → Fv y) : KT G q d zk_X5_set 0 [(0, vr o), (1, vi t), (2, vi f), (3, vi v)] [] x (rv Fv) := by
  have hO := kiM_O ho
  obtain ⟨b1, b2, -⟩ := MG_b h.1 h.2.1
  refine kp_set hq ho h.1 h.2.1 _ _ _ et ef hT (by omega) (fun y ey => ?_)
  have gy : ∀ t k : Nat, (k : Int) < (x.1 o 8).toInt → rg y o t k = if t = T ∧ k = K then v else rg x o t k := fun t k hk => rg_set hO h.1 h.2.1 hK hk ey
  refine hF y ⟨MM_put hO h hK ey h0 h3 h7 h9, fm_w (st_f ey) (fun c k q => sSt_M q), fun t k hk => ?_, fun k hk => st_f ey _ _ (by unfold sSt; omega)⟩ (st_f ey) (fun j hj => ?_) gy
  · rw [gy t k (by omega), if_neg (fun q => by omega)]
  · rw [ey, si_get, if_neg (fun z => ?_)]
    have := z.2
    unfold pa at this
    omega
/-- plain fields of a thread change -/
theorem kTq_k (hC : CO x) (hG : MG x o) (hA : TA x o T) (e13 : y.1 60 13 = x.1 60 13) (e9 : y.1 o 9 = x.1 o 9) (A : Nat → Int32) (e : ∀ k : Nat, (k : Int) < (x.1 o 8).toInt → rg y o T k = if k < 7 then A k else rg x o T k) (g : kTq x o C T h) (hl : h'.2.2.2.2.2.2 = h.2.2.2.2.2.2) (a0 : A 0 = Int32.ofNat h'.1 ∧ h'.1 ≤ 3) (a1 : A 1 = Int32.ofNat h'.2.1) (a2 : (A 2).toInt = (h'.2.2.1 : Nat)) (a3 : A 3 = (if h'.2.2.2.1 = 0 then 0 else (stN C h'.2.2.1).2.2.2.2.1 + 1) ∧ A 5 = (if h'.2.2.2.1 = 2 then 1 else 0) ∧ h'.2.2.2.1 ≤ 2 ∧ (¬ h'.2.2.2.1 = 0 → (stN C h'.2.2.1).1 = 7)) (a4 : A 4 = h'.2.2.2.2.1) (a6 : A 6 = h'.2.2.2.2.2.1 + 1) (a9 : h'.1 = 1 ∨ h'.1 = 3 → ((stN C h'.2.2.1).2.1.length : Int) ≤ (x.1 60 13).toInt) : kTq y o C T h' := by
  obtain ⟨b1, b2, b3, b4, b5, b6, b7⟩ := MG_b hC hG
  obtain ⟨-, -, -, -, -, -, ⟨q7, ql⟩, qv, -⟩ := g
  refine ⟨⟨by rw [e 0 (by omega), if_pos (by omega)]; exact a0.1, a0.2⟩, by rw [e 1 (by omega), if_pos (by omega)]; exact a1, by rw [e 2 (by omega), if_pos (by omega)]; exact a2, ⟨by rw [e 3 (by omega), if_pos (by omega)]; exact a3.1, by rw [e 5 (by omega), if_pos (by omega)]; exact a3.2.1, a3.2.2⟩, by rw [e 4 (by omega), if_pos (by omega)]; exact a4, by rw [e 6 (by omega), if_pos (by omega)]; exact a6, ⟨by rw [e 7 (by omega), if_neg (by omega), hl]; exact q7, fun i p hp => ?_⟩, fun p hp => ?_, by rw [e13]; exact a9⟩
  · rw [hl] at hp
    have hi := gt_lt hp
    have := (lt_in hC hG hA (i := i) (by rw [q7]; omega)).2
    rw [e9, e _ (by omega), if_neg (by omega), e _ (by omega), if_neg (by omega)]; exact ql i p hp
  · rw [e13] at hp; rw [e _ (by push_cast; omega), if_neg (by omega), hl]; exact qv p hp
/-- a local is set -/
theorem kTq_l (hC : CO x) (hG : MG x o) (hA : TA x o T) (e13 : y.1 60 13 = x.1 60 13) (e9 : y.1 o 9 = x.1 o 9) {p : Nat} {v : Int32} (hp : (p : Int) < (x.1 60 13).toInt) (e : ∀ k : Nat, (k : Int) < (x.1 o 8).toInt → rg y o T k = if k = 8 + p then v else rg x o T k) (g : kTq x o C T h) : kTq y o C T (h.1, h.2.1, h.2.2.1, h.2.2.2.1, h.2.2.2.2.1, h.2.2.2.2.2.1, h.2.2.2.2.2.2.1, fup h.2.2.2.2.2.2.2 p v) := by
  obtain ⟨b1, b2, b3, b4, b5, b6, b7⟩ := MG_b hC hG
  obtain ⟨⟨q0, q0'⟩, q1, q2, ⟨q3, q5, qw⟩, q4, q6, ⟨q7, ql⟩, qv, qk⟩ := g
  have e' : ∀ k, k < 8 → rg y o T k = rg x o T k := fun k hk => by rw [e k (by omega), if_neg (by omega)]
  refine ⟨⟨by rw [e' 0 (by omega)]; exact q0, q0'⟩, by rw [e' 1 (by omega)]; exact q1, by rw [e' 2 (by omega)]; exact q2, ⟨by rw [e' 3 (by omega)]; exact q3, by rw [e' 5 (by omega)]; exact q5, qw⟩, by rw [e' 4 (by omega)]; exact q4, by rw [e' 6 (by omega)]; exact q6, ⟨by rw [e' 7 (by omega)]; exact q7, fun i p' hp' => ?_⟩, fun p' hp' => ?_, by rw [e13]; exact qk⟩
  · have hi := gt_lt hp'
    have := (lt_in hC hG hA (i := i) (by rw [q7]; exact Int.ofNat_lt.mpr hi)).2
    rw [e9, e _ (by omega), if_neg (by omega), e _ (by omega), if_neg (by omega)]; exact ql i p' hp'
  · rw [e13] at hp'
    rw [e _ (by push_cast; omega)]
    show _ = if p' = p then v else h.2.2.2.2.2.2.2 p'
    by_cases c : p' = p
    · rw [if_pos (by omega), if_pos c]
    · rw [if_neg (by omega), if_neg c]; exact qv p' hp'
theorem kh_setLate (hq : kV q) (ho : kiM q o) (h : MM x o) (hw : x.1 o 3 = 1) {T J : Nat} (t j c v : Int32) (et : t.toInt = T) (ej : j.toInt = J) (hT : T < 6) (hJ : J < 8) (hc : 0 ≤ c.toInt ∧ c.toInt < (x.1 60 6).toInt) (hF : ∀ y, MM y o → fm (sSt o) x y → lowE x y o → (∀ t k : Nat, (k : Int) < (x.1 o 8).toInt → rg y o t k = if t = T ∧ k = (x.1 o 9).toInt.toNat + 2 * J then c else if t = T ∧ k = (x.1 o 9).toInt.toNat + 2 * J + 1 then v else rg x o t k) → Fv y) : KT G q (d + 1) zk_X5_setLate 0 [(0, vr o), (1, vi t), (2, vi j), (3, vi c), (4, vi v)] [] x (rv Fv) := by
  have hO := kiM_O ho
  obtain ⟨b1, b2, b3, b4, b5, -⟩ := MG_b h.1 h.2.1
  have b5 := b5 hw
  obtain ⟨e1, e2, e3⟩ := lt_ix h.1 h.2.1 ej hJ
  refine kg_X5_setLate_0 hq ho _ _ _ _ (kh_seta (S := fun _ => False) hq ho h _ _ _ et e1 hT (by omega) ⟨by omega, by omega⟩ (fun q => by omega) (fun q => by omega) (fun i hi q => hc) (fun y hy fy ly gy => ?_))
  have y9 : y.1 o 9 = x.1 o 9 := fy _ _ (by unfold sSt; omega)
  have y8 : y.1 o 8 = x.1 o 8 := fy _ _ (by unfold sSt; omega)
  rw [y9]
  refine kh_seta (S := fun _ => False) hq ho hy.1 _ _ _ et e2 hT (by rw [y8]; omega) ⟨by omega, by omega⟩ (fun q => by omega) (fun q => by omega) (fun i hi q => by rw [y9] at q; omega) (fun z hz fz lz gz => rv_i (hF z hz.1 (fm_tr fy fz) (lowE_tr hO fy ly lz) (fun t k hk => ?_)))
  rw [gz t k (by rw [y8]; exact hk)]
  by_cases c1 : t = T ∧ k = (x.1 o 9).toInt.toNat + 2 * J + 1
  · rw [if_pos c1, if_neg (fun z => by omega), if_pos c1]
  · rw [if_neg c1, gy t k hk, if_neg c1]
/-- give -/
theorem kh_give {S : Nat → Prop} (hq : kV q) (ho : kiM q o) (hM : MM x o) (hK : CK x C) (g : KMm x o C M) (t l : Int32) {L : Nat} (et : t.toInt = T) (hT : T < 6) (eL : l.toInt = L) (hl : (L : Int) < (x.1 60 9).toInt) (hF : ∀ r y, AR S x y o → ((r = 3 ∧ ¬ (M.2.1 L).1 = T + 1 ∧ KMm y o C M) ∨ (r = 0 ∧ (M.2.1 L).1 = T + 1 ∧ KMm y o C (upL M L (if (M.2.1 L).2 - 1 = 0 then 0 else T + 1, (M.2.1 L).2 - 1)))) → F r y) : KT G q (d + 1) zk_X5_doGive 0 [(0, vr o), (1, vi t), (2, vi l)] [] x (ri F) := by
  have tT : t = Int32.ofNat T := i32_of et
  have l6 := (g.1.2 L hl).2.1
  have hh := hol_t (M.2.1 L).1 (by omega) T hT
  have p30 : ∀ (b : Int32) (n : Nat), b + 1 = Int32.ofNat n → n ≤ 6 → n = (if (M.2.1 L).2 - 1 = 0 then 0 else T + 1) → (M.2.1 L).1 = T + 1 → KT G q (d + 1) zk_X5_doGive 30 [(3, vi ((M.2.1 L).2 - 1))] [vi b, vi l, vr o] x (ri F) := fun b n hb hn en hT1 => kg_X5_doGive_30 hq ho _ _ _ (kh_setLock hq ho hM hK g _ _ _ eL hl hb hn (fun y hy ry gy => ri_i (hF _ y hy (Or.inr ⟨rfl, hT1, by rw [← en]; exact gy⟩))))
  refine kg_X5_doGive_0 hq ho _ _ (kh_holder hq ho hM g _ eL hl ⟨fun c => ?_, fun c => ri_i (hF _ x (AR_rf hM) (Or.inl ⟨rfl, fun z => c ?_, g⟩))⟩)
  · rw [tT] at c
    have hT1 := hh.mp c
    refine kh_often hq ho hM g _ eL hl ⟨fun c0 => p30 _ (T + 1) ?_ (by omega) (by rw [if_neg c0]) hT1, fun c0 => p30 _ 0 (by decide) (by omega) (by rw [if_pos c0]) hT1⟩
    have k1 : (1 : Int32).toInt = 1 := rfl
    exact i32_of (by rw [t_add (by rw [k1]; omega) (by rw [k1]; omega), k1, et]; push_cast; rfl)
  · rw [tT]; exact hh.mpr z
/-- wait -/
theorem kh_wait {S : Nat → Prop} (hq : kV q) (ho : kiM q o) (hM : MM x o) (hK : CK x C) (hN : NC C) (g : KMm x o C M) (t l : Int32) {L : Nat} (et : t.toInt = T) (hT : T < C.2.1.length) (h1 : (M.2.2 T).1 = 1) (hw : (M.2.2 T).2.2.2.1 = 0) (o7 : (stN C (M.2.2 T).2.2.1).1 = 7) (el : l = (stN C (M.2.2 T).2.2.1).2.2.2.2.1) (eL : l.toInt = L) (hl : (L : Int) < (x.1 60 9).toInt) (hF : ∀ r y, AR S x y o → ((r = 4 ∧ ¬ (M.2.1 L).1 = T + 1 ∧ KMm y o C M) ∨ (r = 0 ∧ (M.2.1 L).1 = T + 1 ∧ KMm y o C (upT (upL M L (0, 0)) T ((M.2.2 T).1, (M.2.2 T).2.1, (M.2.2 T).2.2.1, 1, (M.2.1 L).2, (M.2.2 T).2.2.2.2.2)))) → F r y) : KT G q (d + 1) zk_X5_doWait 0 [(0, vr o), (1, vi t), (2, vi l)] [] x (ri F) := by
  have hO := kiM_O ho
  have nT : (x.1 60 10).toInt = C.2.1.length := hK.2.1.1
  have hT6 := MM_6 hM.1 (t := T) (by omega)
  have hA := (hM.2.2 T (by omega)).1
  obtain ⟨b1, b2, b3, b4, -⟩ := MG_b hM.1 hM.2.1
  have gT := g.2 T hT
  obtain ⟨st, s1, s2, s3, s4, s5, kn, ns⟩ := kst_at hM hK hN hT gT
  have tT : t = Int32.ofNat T := i32_of et
  have l6 := (g.1.2 L hl).2.1
  have hh := hol_t (M.2.1 L).1 (by omega) T hT6
  have r0 : rg x o T 0 = 1 := by rw [gT.1.1, h1]; rfl
  have r7 : sop x (rg x o T 2).toInt.toNat = 7 := by rw [s3, s5]; rw [s2] at o7; omega
  have g' := gT
  obtain ⟨⟨q0, q0'⟩, q1, q2, ⟨q3, q5, qw⟩, q4, q6, -, -, qk⟩ := g'
  rw [hw] at q5
  refine kg_X5_doWait_0 hq ho _ _ (kh_holder hq ho hM g _ eL hl ⟨fun c => ?_, fun c => ri_i (hF _ x (AR_rf hM) (Or.inl ⟨rfl, fun z => c (by rw [tT]; exact hh.mpr z), g⟩))⟩)
  rw [tT] at c
  have hT1 := hh.mp c
  refine kh_seta (S := S) hq ho hM _ _ _ et (show (3 : Int32).toInt = ((3 : Nat) : Int) from rfl) hT6 (by omega) (by omega) (fun _ => Or.inr ⟨r0, r7⟩) (fun c => by omega) (fun j _ c => by omega) (fun y hy fy ly gy => ?_)
  obtain ⟨f6, f9, e13, e9, e8, e7, e10⟩ := sM_e hO hy.2.1
  have gy1 : KMm y o C (upT M T ((M.2.2 T).1, (M.2.2 T).2.1, (M.2.2 T).2.2.1, 1, (M.2.2 T).2.2.2.2.1, (M.2.2 T).2.2.2.2.2)) := KMm_T hO hM hK hy.2.1 ly (fun t k ht hk => by rw [gy t k hk, if_neg (fun z => ht z.1)]) g (kTq_k hM.1 hM.2.1 hA e13 e9 (fun k => if k = 3 then l + 1 else rg x o T k) (fun k hk => by
      rw [gy T k hk]
      by_cases c3 : k = 3
      · rw [if_pos ⟨rfl, c3⟩, if_pos (by omega), if_pos c3]
      · rw [if_neg (fun z => c3 z.2), if_neg c3]; split <;> rfl) gT rfl ⟨q0, q0'⟩ q1 q2 ⟨by rw [el]; rfl, q5, by show (1 : Nat) ≤ 2; decide, fun _ => o7⟩ q4 q6 qk)
  have hKy := CK_M hO hK hy.2.1
  have hly : (L : Int) < (y.1 60 9).toInt := by rw [f9]; exact hl
  refine kh_often hq ho hy.1 gy1 _ eL hly (kh_seta (S := S) hq ho hy.1 _ _ _ et (show (4 : Int32).toInt = ((4 : Nat) : Int) from rfl) hT6 (by rw [e8]; omega) (by omega) (fun c => by omega) (fun c => by omega) (fun j _ c => by rw [e9] at c; omega) (fun z hz fz lz gz => ?_))
  obtain ⟨f6', f9', e13', e9', e8', e7', e10'⟩ := sM_e hO hz.2.1
  have hAy := (hy.1.2.2 T (by rw [e10]; omega)).1
  have gy1T := gy1.2 T hT
  rw [upT_at] at gy1T
  have gz1 := KMm_T hO hy.1 hKy hz.2.1 lz (fun t k ht hk => by rw [gz t k hk, if_neg (fun z => ht z.1)]) gy1 (kTq_k (h' := ((M.2.2 T).1, (M.2.2 T).2.1, (M.2.2 T).2.2.1, 1, (M.2.1 L).2, (M.2.2 T).2.2.2.2.2)) hy.1.1 hy.1.2.1 hAy e13' e9' (fun k => if k = 4 then (M.2.1 L).2 else rg y o T k) (fun k hk => by
      rw [gz T k hk]
      by_cases c3 : k = 4
      · rw [if_pos ⟨rfl, c3⟩, if_pos (by omega), if_pos c3]; rfl
      · rw [if_neg (fun z => c3 z.2), if_neg c3]; split <;> rfl) gy1T rfl gy1T.1 gy1T.2.1 gy1T.2.2.1 gy1T.2.2.2.1 rfl gy1T.2.2.2.2.2.1 gy1T.2.2.2.2.2.2.2.2)
  rw [upT_2] at gz1
  have hKz := CK_M hO hKy hz.2.1
  refine kh_setLock hq ho hz.1 hKz gz1 _ _ _ eL (by rw [f9']; exact hly) (n := 0) (by decide) (by omega) (fun v hv rv gv => ri_i (hF _ v (AR_tr (AR_tr hy hz) hv) (Or.inr ⟨rfl, hT1, gv⟩)))
/-- retake -/
theorem kh_retake {S : Nat → Prop} (hq : kV q) (ho : kiM q o) (hM : MM x o) (hK : CK x C) (g : KMm x o C M) (t l : Int32) {L : Nat} (et : t.toInt = T) (hT : T < C.2.1.length) (eL : l.toInt = L) (hl : (L : Int) < (x.1 60 9).toInt) (hF : ∀ y, AR S x y o → KMm y o C (upT (upL M L (T + 1, (M.2.2 T).2.2.2.2.1)) T ((M.2.2 T).1, (M.2.2 T).2.1, (M.2.2 T).2.2.1, 0, 0, (M.2.2 T).2.2.2.2.2)) → F 0 y) : KT G q (d + 1) zk_X5_doRetake 0 [(0, vr o), (1, vi t), (2, vi l)] [] x (ri F) := by
  have hO := kiM_O ho
  have nT : (x.1 60 10).toInt = C.2.1.length := hK.2.1.1
  have hT6 := MM_6 hM.1 (t := T) (by omega)
  have k1 : (1 : Int32).toInt = 1 := rfl
  obtain ⟨b1, b2, b3, b4, -⟩ := MG_b hM.1 hM.2.1
  have gT := g.2 T hT
  refine kg_X5_doRetake_0 hq ho _ _ (kp_get hq ho hM.1 hM.2.1 _ _ et (show (4 : Int32).toInt = ((4 : Nat) : Int) from rfl) hT6 (by omega) (kh_setLock (S := S) hq ho hM hK g _ _ _ eL hl (n := T + 1) (i32_of (by rw [t_add (by rw [k1]; omega) (by rw [k1]; omega), k1, et]; push_cast; rfl)) (by omega) (fun y hy ry gy => ?_)))
  rw [gT.2.2.2.2.1] at gy
  obtain ⟨f6, f9, e13, e9, e8, e7, e10⟩ := sM_e hO hy.2.1
  refine kh_seta (S := S) hq ho hy.1 _ _ _ et (show (3 : Int32).toInt = ((3 : Nat) : Int) from rfl) hT6 (by rw [e8]; omega) (by omega) (fun _ => Or.inl rfl) (fun c => by omega) (fun j _ c => by rw [e9] at c; omega) (fun z hz fz lz gz => ?_)
  obtain ⟨-, -, z13, z9, z8, -, -⟩ := sM_e hO hz.2.1
  refine kh_seta (S := S) hq ho hz.1 _ _ _ et (show (4 : Int32).toInt = ((4 : Nat) : Int) from rfl) hT6 (by rw [z8, e8]; omega) (by omega) (fun c => by omega) (fun c => by omega) (fun j _ c => by rw [z9, e9] at c; omega) (fun v hv fv lv gv => ?_)
  obtain ⟨-, -, v13, v9, v8, -, -⟩ := sM_e hO hv.2.1
  refine kh_seta (S := S) hq ho hv.1 _ _ _ et (show (5 : Int32).toInt = ((5 : Nat) : Int) from rfl) hT6 (by rw [v8, z8, e8]; omega) (by omega) (fun c => by omega) (fun c => by omega) (fun j _ c => by rw [v9, z9, e9] at c; omega) (fun u hu fu lu gu => ri_i (hF u (AR_tr (AR_tr (AR_tr hy hz) hv) hu) ?_))
  have hyu : AR S y u o := AR_tr (AR_tr hz hv) hu
  have hKy := CK_M hO hK hy.2.1
  have hAy := (hy.1.2.2 T (by rw [e10]; omega)).1
  have gyT := gy.2 T hT
  have gyT : kTq y o C T (M.2.2 T) := gyT
  have au : ∀ t k : Nat, (k : Int) < (y.1 o 8).toInt → rg u o t k = if t = T ∧ (k = 3 ∨ k = 4 ∨ k = 5) then 0 else rg y o t k := fun t k hk => by
    rw [gu t k (by rw [v8, z8]; exact hk), gv t k (by rw [z8]; exact hk), gz t k hk]
    by_cases c5 : t = T ∧ k = 5
    · rw [if_pos c5, if_pos ⟨c5.1, Or.inr (Or.inr c5.2)⟩]
    · rw [if_neg c5]
      by_cases c4 : t = T ∧ k = 4
      · rw [if_pos c4, if_pos ⟨c4.1, Or.inr (Or.inl c4.2)⟩]
      · rw [if_neg c4]
        by_cases c3 : t = T ∧ k = 3
        · rw [if_pos c3, if_pos ⟨c3.1, Or.inl c3.2⟩]
        · rw [if_neg c3, if_neg (fun z => by omega)]
  obtain ⟨u6, u9', u13, u9, u8, u7, -⟩ := sM_e hO hyu.2.1
  refine KMm_T hO hy.1 hKy hyu.2.1 (lowE_tr hO (fm_tr fz fv) (lowE_tr hO fz lz lv) lu) (fun t k ht hk => by rw [au t k hk, if_neg (fun z => ht z.1)]) gy (kTq_k hy.1.1 hy.1.2.1 hAy u13 u9 (fun k => if k = 3 ∨ k = 4 ∨ k = 5 then 0 else rg y o T k) (fun k hk => ?_) gyT rfl gyT.1 gyT.2.1 gyT.2.2.1 ⟨rfl, rfl, Nat.zero_le _, fun z => absurd rfl z⟩ rfl gyT.2.2.2.2.2.1 gyT.2.2.2.2.2.2.2.2)
  rw [au T k hk]
  by_cases c3 : k = 3 ∨ k = 4 ∨ k = 5
  · rw [if_pos ⟨rfl, c3⟩, if_pos (by omega), if_pos c3]
  · rw [if_neg (fun z => c3 z.2), if_neg c3]; split <;> rfl
end KMP
end
section
/-! the class: wake, call and back -/
/-- those below k that are woken -/
def wkU (M : gMa) (k : Nat) (P : Nat → Bool) : gMa := (M.1, M.2.1, fun o => if o < k ∧ P o = true then ((M.2.2 o).1, (M.2.2 o).2.1, (M.2.2 o).2.2.1, 2, (M.2.2 o).2.2.2.2) else M.2.2 o)
/-- a thread with other locals -/
def wLv (h : gTq) (lv : Nat → Int32) : gTq := (h.1, h.2.1, h.2.2.1, h.2.2.2.1, h.2.2.2.2.1, h.2.2.2.2.2.1, h.2.2.2.2.2.2.1, lv)
section KMW
variable {G : kG} {q : kP} {d : Nat} {x x0 y z : gd} {o : Nat} {F : Int32 → gd → Prop} {Fv : gd → Prop} {C : gCo} {M : gMa} {h h' : gTq} {t T w k : Nat} {P : Nat → Bool}
theorem wkU_0 : wkU M 0 P = M := by
  unfold wkU
  refine Prod.ext rfl (Prod.ext rfl (funext fun i => ?_))
  show (if i < 0 ∧ P i = true then (((M.2.2 i).1, (M.2.2 i).2.1, (M.2.2 i).2.2.1, 2, (M.2.2 i).2.2.2.2) : gTq) else M.2.2 i) = M.2.2 i
  rw [if_neg (fun z => absurd z.1 (Nat.not_lt_zero _))]
theorem wkU_no (c : ¬ P k = true) : wkU M (k + 1) P = wkU M k P := by
  unfold wkU
  refine Prod.ext rfl (Prod.ext rfl (funext fun i => ?_))
  show (if i < k + 1 ∧ P i = true then _ else M.2.2 i) = if i < k ∧ P i = true then _ else M.2.2 i
  by_cases c1 : i < k ∧ P i = true
  · rw [if_pos c1, if_pos ⟨by omega, c1.2⟩]
  · rw [if_neg c1, if_neg (fun z => c1 ⟨?_, z.2⟩)]
    have : ¬ i = k := fun e => c (by rw [← e]; exact z.2)
    omega
theorem wkU_yes (c : P k = true) : wkU M (k + 1) P = upT (wkU M k P) k ((M.2.2 k).1, (M.2.2 k).2.1, (M.2.2 k).2.2.1, 2, (M.2.2 k).2.2.2.2) := by
  unfold wkU upT upf
  refine Prod.ext rfl (Prod.ext rfl (funext fun i => ?_))
  show (if i < k + 1 ∧ P i = true then _ else M.2.2 i) = if i = k then _ else if i < k ∧ P i = true then _ else M.2.2 i
  by_cases c0 : i = k
  · rw [if_pos c0, if_pos ⟨by omega, by rw [c0]; exact c⟩, c0]
  · rw [if_neg c0]
    by_cases c1 : i < k ∧ P i = true
    · rw [if_pos c1, if_pos ⟨by omega, c1.2⟩]
    · rw [if_neg c1, if_neg (fun z => c1 ⟨by omega, z.2⟩)]
theorem wkU_at : (wkU M k P).2.2 k = M.2.2 k := by
  show (if k < k ∧ P k = true then _ else M.2.2 k) = _
  rw [if_neg (fun z => absurd z.1 (Nat.lt_irrefl _))]
theorem kh_wake {S : Nat → Prop} (hS : S 6) (hq : kV q) (ho : kiM q o) (hM : MM x o) (hK : CK x C) (hN : NC C) (g : KMm x o C M) (t l a u : Int32) {L : Nat} (et : t.toInt = T) (hT : T < C.2.1.length) (eL : l.toInt = L) (hl : (L : Int) < (x.1 60 9).toInt) (all : Bool) (ha : a = 0 ↔ all = false) (wk : Option Nat) (hu0 : wk = none → u = -1) (hu1 : ∀ k, wk = some k → u = Int32.ofNat k ∧ k ∈ waM C M L) (hF : ∀ r y, AR S x y o → ((r = 4 ∧ ¬ (M.2.1 L).1 = T + 1 ∧ KMm y o C M) ∨ (r = 0 ∧ (M.2.1 L).1 = T + 1 ∧ KMm y o C (wkU M C.2.1.length (fun o => (M.2.2 o).2.2.2.1 == 1 && (obM C (M.2.2 o).2.2.1 == L && (all || wk == some o)))))) → F r y) : KT G q (d + 2) zk_X5_doWake 0 [(0, vr o), (1, vi t), (2, vi l), (3, vi a), (4, vi u)] [] x (ri F) := by
  have hO := kiM_O ho
  have nT : (x.1 60 10).toInt = C.2.1.length := hK.2.1.1
  have hT6 := MM_6 hM.1 (t := T) (by omega)
  have t6 := hM.1.1.2.2.1
  obtain ⟨b1, b2, b3, b4, -⟩ := MG_b hM.1 hM.2.1
  have tT : t = Int32.ofNat T := i32_of et
  have l6 := (g.1.2 L hl).2.1
  have hh := hol_t (M.2.1 L).1 (by omega) T hT6
  obtain ⟨P, eP⟩ : ∃ P : Nat → Bool, P = fun o => (M.2.2 o).2.2.2.1 == 1 && (obM C (M.2.2 o).2.2.1 == L && (all || wk == some o)) := ⟨_, rfl⟩
  rw [← eP] at hF
  have Pi : ∀ k, P k = true ↔ (M.2.2 k).2.2.2.1 = 1 ∧ obM C (M.2.2 k).2.2.1 = L ∧ (all = true ∨ wk = some k) := fun k => by
    rw [eP]
    show ((M.2.2 k).2.2.2.1 == 1 && (obM C (M.2.2 k).2.2.1 == L && (all || wk == some k))) = true ↔ _
    rw [Bool.and_eq_true, Bool.and_eq_true, Bool.or_eq_true, beq_iff_eq, beq_iff_eq, beq_iff_eq]
  have wi : ∀ k, k ∈ waM C M L ↔ k < C.2.1.length ∧ (M.2.2 k).2.2.2.1 = 1 ∧ obM C (M.2.2 k).2.2.1 = L := fun k => by
    unfold waM
    rw [List.mem_filter, List.mem_range, Bool.and_eq_true, beq_iff_eq, beq_iff_eq]
  have w8 : ∀ s ∈ (waM C M L).reverse, s < 8 := fun s hs => by
    have := ((wi s).mp (List.mem_reverse.mp hs)).1
    omega
  have loop : ∀ (W : Int32), (∀ k, k < C.2.1.length → ((W >>> (Int32.ofNat k &&& 31)) &&& 1 = 1 ↔ P k = true)) → ∀ (n k : Nat) (i : Int32) (y : gd), i.toInt = k → k ≤ C.2.1.length → (x.1 60 10).toInt - k ≤ n → AR S x y o → y.1 (o + 20) 6 = W → KMm y o C (wkU M k P) → (M.2.1 L).1 = T + 1 → KT G q (d + 2) zk_X5_doWake 47 [(0, vr o), (5, vi i)] [] y (ri F) := by
    intro W hW n
    induction n with
    | zero =>
      intro k i y ei hk hn hy y6 gy hT1
      have ek : k = C.2.1.length := by omega
      refine kg_X5_doWake_47 hq ho _ ⟨fun _ => ri_i (hF _ y hy (Or.inr ⟨rfl, hT1, by rw [← ek]; exact gy⟩)), fun c => ?_⟩
      exfalso; rw [(AR_9 hO hy).2.1, t_le] at c; omega
    | succ n ih =>
      intro k i y ei hk hn hy y6 gy hT1
      refine kg_X5_doWake_47 hq ho _ ⟨fun c => ?_, fun c => ?_⟩
      · rw [(AR_9 hO hy).2.1, t_le] at c
        have ek : k = C.2.1.length := by omega
        exact ri_i (hF _ y hy (Or.inr ⟨rfl, hT1, by rw [← ek]; exact gy⟩))
      rw [(AR_9 hO hy).2.1, t_le] at c
      have e1 : (i + 1).toInt = ((k + 1 : Nat) : Int) := by rw [t_add (by show _ ≤ _ + (1 : Int); omega) (by show _ + (1 : Int) ≤ _; omega), ei]; rfl
      have hk' : k < C.2.1.length := by omega
      have ii : i = Int32.ofNat k := i32_of ei
      have bit := hW k hk'
      rw [y6, ii]
      rw [ii] at e1
      refine ⟨fun c1 => ih (k + 1) _ y e1 (by omega) (by push_cast; omega) hy y6 (by rw [wkU_no (fun z => c1 (bit.mpr z))]; exact gy) hT1, fun c1 => ?_⟩
      have hP := bit.mp c1
      obtain ⟨p1, p2, -⟩ := (Pi k).mp hP
      obtain ⟨f6, f9, e13, e9, e8, e7, e10⟩ := sM_e hO hy.2.1
      refine kh_seta (S := S) hq ho hy.1 _ _ _ (by rw [← ii]; exact ei) (show (5 : Int32).toInt = ((5 : Nat) : Int) from rfl) (by omega) (by rw [e8]; omega) (by omega) (fun c => by omega) (fun c => by omega) (fun j hj c => by rw [e9] at c; omega) (fun z hz fz lz gz => ih (k + 1) _ z e1 (by omega) (by push_cast; omega) (AR_tr hy hz) (by rw [fz _ _ (by unfold sSt; omega)]; exact y6) ?_ hT1)
      have hKy := CK_M hO hK hy.2.1
      have hAy := (hy.1.2.2 k (by rw [e10]; omega)).1
      have gk := gy.2 k hk'
      rw [wkU_at] at gk
      obtain ⟨-, -, z13, z9, z8, -, -⟩ := sM_e hO hz.2.1
      rw [wkU_yes hP]
      obtain ⟨w3, w5, w2, w7⟩ := gk.2.2.2.1
      refine KMm_T hO hy.1 hKy hz.2.1 lz (fun t k' ht hk2 => by rw [gz t k' hk2, if_neg (fun z => ht z.1)]) gy (kTq_k hy.1.1 hy.1.2.1 hAy z13 z9 (fun j => if j = 5 then 1 else rg y o k j) (fun j hj => ?_) gk rfl gk.1 gk.2.1 gk.2.2.1 ⟨?_, rfl, by show (2 : Nat) ≤ 2; decide, fun _ => w7 (by omega)⟩ gk.2.2.2.2.1 gk.2.2.2.2.2.1 gk.2.2.2.2.2.2.2.2)
      · rw [gz k j hj]
        by_cases c3 : j = 5
        · rw [if_pos ⟨rfl, c3⟩, if_pos (by omega), if_pos c3]
        · rw [if_neg (fun z => c3 z.2), if_neg c3]; split <;> rfl
      · show rg y o k 3 = (stN C (M.2.2 k).2.2.1).2.2.2.2.1 + 1
        rw [w3, if_neg (by omega)]
  have start : ∀ (W : Int32), (∀ k, k < C.2.1.length → ((W >>> (Int32.ofNat k &&& 31)) &&& 1 = 1 ↔ P k = true)) → (M.2.1 L).1 = T + 1 → ∀ y, y = si x (o + 20) 6 W → KT G q (d + 2) zk_X5_doWake 47 [(0, vr o), (5, vi 0)] [] y (ri F) := fun W hW hT1 y ey => by
    obtain ⟨g1, g2⟩ := AR_deed hO hM hS ey
    refine loop W hW 6 0 _ y rfl (by omega) (by omega) g1 (by rw [ey, si_get, if_pos ⟨rfl, rfl⟩]) ?_ hT1
    rw [wkU_0]
    exact AR_KM hO hM hK g1 (fun j _ => by rw [ey, si_cell (by omega)]) g2 g
  refine kg_X5_doWake_0 hq ho _ _ _ _ (kh_holder hq ho hM g _ eL hl ⟨fun c => ?_, fun c => ri_i (hF _ x (AR_rf hM) (Or.inl ⟨rfl, fun z => c (by rw [tT]; exact hh.mpr z), g⟩))⟩)
  rw [tT] at c
  have hT1 := hh.mp c
  refine ⟨fun a0 => ?_, fun a1 => kh_waiters hq ho hM hK hN g _ eL hl (fun y ey => start _ (fun k hk => ?_) hT1 y ey)⟩
  · have hall := ha.mp a0
    cases hwk : wk with
    | none =>
      have hu := hu0 hwk
      refine ⟨fun c1 => absurd hu c1, fun c1 y ey => start 0 (fun k hk => ?_) hT1 y ey⟩
      rw [Pi, hall, hwk]
      have b := km_bit (sl := []) (fun s hs => by cases hs) k (by omega)
      rw [if_neg (by simp)] at b
      have b : ((0 : Int32) >>> (Int32.ofNat k &&& 31)) &&& 1 = 0 := b
      rw [b]
      exact ⟨fun z => absurd z (by decide), fun z => by rcases z.2.2 with e | e <;> cases e⟩
    | some v =>
      obtain ⟨hu, hv⟩ := hu1 v hwk
      have hv' := (wi v).mp hv
      refine ⟨fun c1 y ey => start _ (fun k hk => ?_) hT1 y ey, fun c1 => ?_⟩
      · rw [Pi, hall, hwk, hu]
        have b := km_bit (sl := [v]) (fun s hs => by rw [List.mem_singleton.mp hs]; omega) k (by omega)
        have e0 : kmN [v] = (1 : Int32) <<< (Int32.ofNat v &&& 31) := by
          show (0 : Int32) ||| _ = _
          rw [Int32.zero_or]
        rw [e0] at b
        rw [b]
        by_cases ck : k = v
        · rw [if_pos (by rw [ck]; exact List.mem_singleton.mpr rfl), ck]
          exact ⟨fun _ => ⟨hv'.2.1, hv'.2.2, Or.inr rfl⟩, fun _ => rfl⟩
        · rw [if_neg (fun z => ck (List.mem_singleton.mp z))]
          refine ⟨fun z => absurd z (by decide), fun z => ?_⟩
          rcases z.2.2 with e | e
          · cases e
          · exact absurd (Option.some.inj e).symm ck
      · have hv8 : v < 8 := by omega
        have hne : ∀ v, v < 8 → ¬ Int32.ofNat v = -1 := by decide +kernel
        rw [hu] at c1
        exact absurd c1 (hne v hv8)
  · have hall : all = true := by
      cases hb : all with
      | true => rfl
      | false => exact absurd (ha.mpr hb) a1
    rw [Pi, hall]
    have b := km_bit w8 k (by omega)
    rw [b]
    by_cases ck : k ∈ (waM C M L).reverse
    · rw [if_pos ck]
      have := (wi k).mp (List.mem_reverse.mp ck)
      exact ⟨fun _ => ⟨this.2.1, this.2.2, Or.inl rfl⟩, fun _ => rfl⟩
    · rw [if_neg ck]
      exact ⟨fun z => absurd z (by decide), fun z => absurd (List.mem_reverse.mpr ((wi k).mpr ⟨hk, z.1, z.2.1⟩)) ck⟩
theorem i32_1 {a : Int32} : a + 1 = 0 ↔ a = -1 := by
  refine ⟨fun e => ?_, fun e => by rw [e]; decide⟩
  have e2 : a + 1 - 1 = 0 - 1 := by rw [e]
  rw [Int32.add_sub_cancel] at e2
  rw [e2]; decide
/-- call and back -/
theorem kh_call {S : Nat → Prop} (hS : S 4) (hq : kV q) (ho : kiM q o) (hM : MM x o) (hK : CK x C) (hN : NC C) (g : KMm x o C M) (t p : Int32) (et : t.toInt = T) (hT : T < C.2.1.length) (h1 : (M.2.2 T).1 = 1) (ob : (stN C (M.2.2 T).2.2.1).1 = 13 ∨ (stN C (M.2.2 T).2.2.1).1 = 14) (hp : p = Int32.ofNat (stN C (M.2.2 T).2.2.1).1) (hF : ∀ r y, AR S x y o → ((evO (M.2.2 T).2.2.2.2.2.2.2 (Int32.ofNat T) (stN C (M.2.2 T).2.2.1).2.2.2.2.2.2.2.2.1 = none ∧ r = 1 ∧ KMm y o C M) ∨ (∃ e, evO (M.2.2 T).2.2.2.2.2.2.2 (Int32.ofNat T) (stN C (M.2.2 T).2.2.1).2.2.2.2.2.2.2.2.1 = some e ∧ ((r = 8 ∧ (((stN C (M.2.2 T).2.2.1).1 = 13 ∧ ¬ (M.2.2 T).2.2.2.2.2.1 = -1) ∨ ((stN C (M.2.2 T).2.2.1).1 = 14 ∧ (M.2.2 T).2.2.2.2.2.1 = -1)) ∧ KMm y o C M) ∨ (r = 0 ∧ ¬ (((stN C (M.2.2 T).2.2.1).1 = 13 ∧ ¬ (M.2.2 T).2.2.2.2.2.1 = -1) ∨ ((stN C (M.2.2 T).2.2.1).1 = 14 ∧ (M.2.2 T).2.2.2.2.2.1 = -1)) ∧ KMm y o C (upT M T ((M.2.2 T).1, (M.2.2 T).2.1, (M.2.2 T).2.2.1, (M.2.2 T).2.2.2.1, (M.2.2 T).2.2.2.2.1, if (stN C (M.2.2 T).2.2.1).1 = 13 then (stN C (M.2.2 T).2.2.1).2.2.2.2.1 else -1, (M.2.2 T).2.2.2.2.2.2)))))) → F r y) : KT G q (d + 2) zk_X5_doCallOrBack 0 [(0, vr o), (1, vi t), (2, vi (rg x o T 2)), (3, vi p)] [] x (ri F) := by
  have hO := kiM_O ho
  have nT : (x.1 60 10).toInt = C.2.1.length := hK.2.1.1
  have hT6 := MM_6 hM.1 (t := T) (by omega)
  have hA := (hM.2.2 T (by omega)).1
  obtain ⟨b1, b2, b3, b4, -⟩ := MG_b hM.1 hM.2.1
  have gT := g.2 T hT
  obtain ⟨st, s1, s2, s3, s4, s5, kn, ns⟩ := kst_at hM hK hN hT gT
  obtain ⟨v, e, -⟩ := MM_st hM.1 hA
  rw [s3] at e
  rw [s2] at ob hp hF
  have hml := gT.2.2.2.2.2.2.2.2 (Or.inl h1)
  rw [s2] at hml
  obtain ⟨Q, hQ⟩ := ns.2.2.2.2.2.1 (by omega)
  obtain ⟨q1, q2⟩ := ns.2.2.2.2.2.2.2.2.1 Q hQ
  have k88 := kn.2.2.2.2.2.2.2.1
  rw [hQ] at k88 hF
  have k85 := kn.2.2.2.2.1 (by omega)
  have p13 : p = 13 ↔ st.1 = 13 := by
    rw [hp]
    rcases ob with e | e <;> rw [e] <;> decide
  refine kg_X5_doCallOrBack_0 hq ho _ _ _ ⟨v, ?_⟩
  rw [e]
  refine kh_ev hq ho hM hK hT gT _ _ et k88 q1 q2 hml (fun r5 y fy hwk => ?_)
  obtain ⟨hy, ry⟩ := AR_wk (S := S) hO hM fy
  obtain ⟨f6, f9, e13, e9, e8, e7, e10⟩ := sM_e hO hy.2.1
  have gy : KMm y o C M := AR_KM hO hM hK hy (fun j _ => fy _ _ (by unfold sWk; omega)) ry g
  have hKy := CK_M hO hK hy.2.1
  have hAy := (hy.1.2.2 T (by rw [e10]; omega)).1
  have gyT := gy.2 T hT
  have bad : ((st.1 = 13 ∧ ¬ (M.2.2 T).2.2.2.2.2.1 = -1) ∨ (st.1 = 14 ∧ (M.2.2 T).2.2.2.2.2.1 = -1)) ↔ ((¬ rg y o T 6 = 0) ↔ p = 13) := by
    rw [gyT.2.2.2.2.2.1, i32_1, p13]
    rcases ob with e | e
    · rw [e]
      exact ⟨fun z => ⟨fun _ => rfl, fun _ => by rcases z with z | z; exact z.2; exact absurd z.1 (by decide)⟩, fun z => Or.inl ⟨rfl, z.mpr rfl⟩⟩
    · rw [e]
      exact ⟨fun z => ⟨fun c => by rcases z with z | z; exact absurd z.1 (by decide); exact absurd z.2 c, fun c => absurd c (by decide)⟩, fun z => Or.inr ⟨rfl, Decidable.byContradiction (fun c => absurd (z.mp c) (by decide))⟩⟩
  have ev1 : ∀ w, wkQ (M.2.2 T).2.2.2.2.2.2.2 (fun _ => 0) (Int32.ofNat T) Q = w → evO (M.2.2 T).2.2.2.2.2.2.2 (Int32.ofNat T) (some Q) = w := fun w z => z
  rcases hwk with ⟨v9, hw, er, y5⟩ | ⟨hw, y5⟩
  · have p101 : ∀ (n : Int32) (kd : Int32), n = kd + 1 → kd = (if st.1 = 13 then st.2.2.2.2.1 else -1) → ¬ ((st.1 = 13 ∧ ¬ (M.2.2 T).2.2.2.2.2.1 = -1) ∨ (st.1 = 14 ∧ (M.2.2 T).2.2.2.2.2.1 = -1)) → KT G q (d + 2) zk_X5_doCallOrBack 101 [(0, vr o), (4, vi r5)] [vi n, vi 6, vi t, vr o] y (ri F) := by
      intro n kd en ek nb
      refine kg_X5_doCallOrBack_101 hq ho _ _ _ _ (kh_seta (S := S) hq ho hy.1 _ _ _ et (show (6 : Int32).toInt = ((6 : Nat) : Int) from rfl) hT6 (by rw [e8]; omega) (by omega) (fun c => by omega) (fun c => by omega) (fun j _ c => by rw [e9] at c; omega) (fun z hz fz lz gz u eu => ?_))
      obtain ⟨hu, ru⟩ := AR_deed hO hz.1 hS eu
      obtain ⟨-, -, z13, z9, z8, -, -⟩ := sM_e hO hz.2.1
      refine ri_i (hF _ u (AR_tr (AR_tr hy hz) hu) (Or.inr ⟨v9, ev1 _ hw, Or.inr ⟨rfl, nb, ?_⟩⟩))
      have gz1 := KMm_T hO hy.1 hKy hz.2.1 lz (fun t k ht hk => by rw [gz t k hk, if_neg (fun z => ht z.1)]) gy (kTq_k (h' := ((M.2.2 T).1, (M.2.2 T).2.1, (M.2.2 T).2.2.1, (M.2.2 T).2.2.2.1, (M.2.2 T).2.2.2.2.1, kd, (M.2.2 T).2.2.2.2.2.2)) hy.1.1 hy.1.2.1 hAy z13 z9 (fun k => if k = 6 then n else rg y o T k) (fun k hk => by
        rw [gz T k hk]
        by_cases c3 : k = 6
        · rw [if_pos ⟨rfl, c3⟩, if_pos (by omega), if_pos c3]
        · rw [if_neg (fun z => c3 z.2), if_neg c3]; split <;> rfl) gyT rfl gyT.1 gyT.2.1 gyT.2.2.1 gyT.2.2.2.1 gyT.2.2.2.2.1 en gyT.2.2.2.2.2.2.2.2)
      rw [ek] at gz1
      exact AR_KM hO hz.1 (CK_M hO hKy hz.2.1) hu (fun j _ => by rw [eu, si_cell (by omega)]) ru gz1
    have p70 : ∀ a b : Int32, (a = if p = 13 then 1 else 0) → (b = if rg y o T 6 = 0 then 0 else 1) → KT G q (d + 2) zk_X5_doCallOrBack 70 [(0, vr o), (1, vi t), (2, vi (rg x o T 2)), (3, vi p), (4, vi r5)] [vi a, vi b] y (ri F) := fun a b ha hb => by
      have ab : b = a ↔ ((¬ rg y o T 6 = 0) ↔ p = 13) := by
        rw [ha, hb]
        by_cases c1 : p = 13
        · by_cases c2 : rg y o T 6 = 0
          · rw [if_pos c1, if_pos c2]; exact ⟨fun z => absurd z (by decide), fun z => absurd c2 (z.mpr c1)⟩
          · rw [if_pos c1, if_neg c2]; exact ⟨fun _ => ⟨fun _ => c1, fun _ => c2⟩, fun _ => rfl⟩
        · by_cases c2 : rg y o T 6 = 0
          · rw [if_neg c1, if_pos c2]; exact ⟨fun _ => ⟨fun z => absurd c2 z, fun z => absurd z c1⟩, fun _ => rfl⟩
          · rw [if_neg c1, if_neg c2]; exact ⟨fun z => absurd z (by decide), fun z => absurd (z.mp c2) c1⟩
      refine kg_X5_doCallOrBack_70 hq ho _ _ _ _ _ _ ⟨fun nab => ?_, fun eab => ri_i (hF _ y hy (Or.inr ⟨v9, ev1 _ hw, Or.inl ⟨rfl, bad.mpr (ab.mp eab), gy⟩⟩))⟩
      have nb := fun z => nab (ab.mpr (bad.mp z))
      refine ⟨fun c13 => p101 0 (-1) (by decide) (by rw [if_neg (fun z => c13 (p13.mpr z))]) nb, fun c13 => ⟨v, ?_⟩⟩
      rw [e, fy 85 _ (by unfold sWk; omega), k85]
      exact p101 _ st.2.2.2.2.1 rfl (by rw [if_pos (p13.mp c13)]) nb
    have p55 : ∀ b : Int32, (b = if rg y o T 6 = 0 then 0 else 1) → KT G q (d + 2) zk_X5_doCallOrBack 55 [(0, vr o), (1, vi t), (2, vi (rg x o T 2)), (3, vi p), (4, vi r5)] [vi b] y (ri F) := fun b hb => kg_X5_doCallOrBack_55 hq ho _ _ _ _ _ ⟨fun c => p70 _ _ (by rw [if_neg c]) hb, fun c => p70 _ _ (by rw [if_pos c]) hb⟩
    exact ⟨fun _ => kp_get hq ho hy.1.1 hy.1.2.1 _ _ et (show (6 : Int32).toInt = ((6 : Nat) : Int) from rfl) hT6 (by omega) ⟨fun c => p55 _ (by rw [if_pos c]), fun c => p55 _ (by rw [if_neg c])⟩, fun c => absurd y5 c⟩
  · refine ⟨fun c => ?_, fun _ => ri_i (hF _ y hy (Or.inl ⟨ev1 _ hw, rfl, gy⟩))⟩
    rw [y5] at c; exact absurd c (by decide)
end KMW
end
section
/-! the class: an access is done -/
/-- the cells of a row are all sure, or none -/
def NX3 (C : gCo) : Prop := ∀ (j : Nat) (st : gNs), C.1[j]? = some st → st.1 ≤ 4 → ¬ st.2.2.2.2.2.2.2.1 = none → ∀ i : Nat, (i : Int) < st.2.2.2.2.2.1.toInt → suM C (st.2.2.2.2.1.toNatClampNeg + i) = suM C st.2.2.2.2.1.toNatClampNeg
/-- an act's doing, before the thread goes on -/
noncomputable def M1c (C : gCo) (w : Nat) (M : gMa) (T : Nat) (wk : Option Nat) : gMa := upT (efM C w M T (soM C (M.2.2 T)) (lkM C w M T).2.1.toNatClampNeg (lkM C w M T).2.2.1 (lkM C w M T).2.2.2 wk).1 T (wLv ((efM C w M T (soM C (M.2.2 T)) (lkM C w M T).2.1.toNatClampNeg (lkM C w M T).2.2.1 (lkM C w M T).2.2.2 wk).1.2.2 T) (toV (stN C (M.2.2 T).2.2.1) (M.2.2 T).2.2.2.2.2.2.2 (efM C w M T (soM C (M.2.2 T)) (lkM C w M T).2.1.toNatClampNeg (lkM C w M T).2.2.1 (lkM C w M T).2.2.2 wk).2))
section KMA2
variable {G : kG} {q : kP} {d : Nat} {x x0 y z : gd} {o : Nat} {F : Int32 → gd → Prop} {Fv : gd → Prop} {C : gCo} {M : gMa} {h h' : gTq} {t T w k c s : Nat} {e f : Int32} {wk : Option Nat}
theorem rsF_a (hs : s ≤ 4) (h1 : ¬ s = 1) : rsF C w M T s c = 0 := by
  unfold rsF
  rw [if_neg (fun z => by omega), if_neg (fun z => by omega), if_neg (fun z => by omega), if_neg (fun z => by omega), if_neg (fun z => by omega)]
theorem rsF_1 : rsF C w M T 1 c = if w = 1 ∧ suM C c = false ∧ 8 ≤ (M.2.2 T).2.2.2.2.2.2.1.length then 9 else 0 := by
  unfold rsF
  rw [if_neg (fun z => by omega), if_neg (fun z => by omega), if_neg (fun z => by omega), if_neg (fun z => by omega)]
  by_cases c1 : w = 1 ∧ suM C c = false ∧ 8 ≤ (M.2.2 T).2.2.2.2.2.2.1.length
  · rw [if_pos ⟨rfl, c1⟩, if_pos c1]
  · rw [if_neg (fun z => c1 z.2), if_neg c1]
theorem toV_s {st : gNs} {p : Nat} {lv : Nat → Int32} {v : Int32} (h : st.2.2.2.1 = some p) : toV st lv v = fup lv p v := by unfold toV; rw [h]
theorem toV_n {st : gNs} {lv : Nat → Int32} {v : Int32} (h : st.2.2.2.1 = none) : toV st lv v = lv := by unfold toV; rw [h]
/-- a late one more -/
theorem kTq_a (hC : CO x) (hG : MG x o) (hA : TA x o T) (hw : x.1 o 3 = 1) (e13 : y.1 60 13 = x.1 60 13) (e9 : y.1 o 9 = x.1 o 9) {c v : Int32} {c' n : Nat} (ec : c.toInt = c') (en : n = h.2.2.2.2.2.2.1.length) (n8 : n < 8) (e : ∀ k : Nat, (k : Int) < (x.1 o 8).toInt → rg y o T k = if k = 7 then rg x o T 7 + 1 else if k = (x.1 o 9).toInt.toNat + 2 * n then c else if k = (x.1 o 9).toInt.toNat + 2 * n + 1 then v else rg x o T k) (g : kTq x o C T h) : kTq y o C T (h.1, h.2.1, h.2.2.1, h.2.2.2.1, h.2.2.2.2.1, h.2.2.2.2.2.1, h.2.2.2.2.2.2.1 ++ [(c', v)], h.2.2.2.2.2.2.2) := by
  obtain ⟨b1, b2, b3, b4, b5, b6, b7⟩ := MG_b hC hG
  have b5 := b5 hw
  have k1 : (1 : Int32).toInt = 1 := rfl
  obtain ⟨⟨q0, q0'⟩, q1, q2, ⟨q3, q5, qw⟩, q4, q6, ⟨q7, ql⟩, qv, qk⟩ := g
  have e' : ∀ k, k < 7 → rg y o T k = rg x o T k := fun k hk => by rw [e k (by omega), if_neg (by omega), if_neg (by omega), if_neg (by omega)]
  refine ⟨⟨by rw [e' 0 (by omega)]; exact q0, q0'⟩, by rw [e' 1 (by omega)]; exact q1, by rw [e' 2 (by omega)]; exact q2, ⟨by rw [e' 3 (by omega)]; exact q3, by rw [e' 5 (by omega)]; exact q5, qw⟩, by rw [e' 4 (by omega)]; exact q4, by rw [e' 6 (by omega)]; exact q6, ⟨?_, fun i p hp => ?_⟩, fun p hp => ?_, by rw [e13]; exact qk⟩
  · show _ = ((h.2.2.2.2.2.2.1 ++ [(c', v)]).length : Int)
    rw [e 7 (by omega), if_pos rfl, t_add (by rw [k1]; omega) (by rw [k1]; omega), k1, q7, List.length_append]
    push_cast
    rfl
  · have hp : (h.2.2.2.2.2.2.1 ++ [(c', v)])[i]? = some p := hp
    have hi := gt_lt hp
    rw [List.length_append] at hi
    have hi : i < h.2.2.2.2.2.2.1.length + 1 := hi
    rw [List.getElem?_append] at hp
    have a1 : rg y o T ((x.1 o 9).toInt.toNat + 2 * i) = if i = n then c else rg x o T ((x.1 o 9).toInt.toNat + 2 * i) := by
      rw [e _ (by omega), if_neg (by omega)]
      by_cases ci : i = n
      · rw [if_pos (by omega), if_pos ci]
      · rw [if_neg (by omega), if_neg (by omega), if_neg ci]
    have a2 : rg y o T ((x.1 o 9).toInt.toNat + 2 * i + 1) = if i = n then v else rg x o T ((x.1 o 9).toInt.toNat + 2 * i + 1) := by
      rw [e _ (by omega), if_neg (by omega), if_neg (by omega)]
      by_cases ci : i = n
      · rw [if_pos (by omega), if_pos ci]
      · rw [if_neg (by omega), if_neg ci]
    rw [e9, a1, a2]
    by_cases ci : i < h.2.2.2.2.2.2.1.length
    · rw [if_pos ci] at hp
      rw [if_neg (by omega), if_neg (by omega)]
      exact ql i p hp
    · rw [if_neg ci] at hp
      have ei : i = n := by omega
      rw [show i - h.2.2.2.2.2.2.1.length = 0 by omega] at hp
      cases Option.some.inj hp
      rw [if_pos ei, if_pos ei]
      exact ⟨ec, rfl⟩
  · rw [e13] at hp
    rw [e _ (by push_cast; omega), if_neg (by omega), if_neg (by omega), if_neg (by omega)]; exact qv p hp
theorem kh_write {S : Nat → Prop} (hS : S 4) (hq : kV q) (ho : kiM q o) (hM : MM x o) (hK : CK x C) (hN : NC C) (g : KMm x o C M) (wy : x.1 o 3 = Int32.ofNat w) (w01 : w = 0 ∨ w = 1) (t c v : Int32) (et : t.toInt = T) (hT : T < C.2.1.length) {st : gNs} (hst : C.1[(M.2.2 T).2.2.1]? = some st) (o1 : st.1 = 1) {c' : Nat} (ec : c.toInt = c') (hc : (c' : Int) < (x.1 60 6).toInt) (hsu : suM C c' = suM C st.2.2.2.2.1.toNatClampNeg) (hF : ∀ r y, AR S x y o → (((w = 1 ∧ suM C c' = false ∧ 8 ≤ (M.2.2 T).2.2.2.2.2.2.1.length) ∧ r = 9 ∧ KMm y o C M) ∨ (¬ (w = 1 ∧ suM C c' = false ∧ 8 ≤ (M.2.2 T).2.2.2.2.2.2.1.length) ∧ r = 0 ∧ KMm y o C (efM C w M T 1 c' v f wk).1)) → F r y) : KT G q (d + 2) zk_X5_doWrite 0 [(0, vr o), (1, vi t), (2, vi (rg x o T 2)), (3, vi c), (4, vi v)] [] x (ri F) := by
  have hO := kiM_O ho
  have nT : (x.1 60 10).toInt = C.2.1.length := hK.2.1.1
  have hT6 := MM_6 hM.1 (t := T) (by omega)
  have hA := (hM.2.2 T (by omega)).1
  have k8 : (8 : Int32).toInt = 8 := rfl
  have k1 : (1 : Int32).toInt = 1 := rfl
  obtain ⟨b1, b2, b3, b4, b5, b6, b7⟩ := MG_b hM.1 hM.2.1
  have c24 := hM.1.1.1
  have gT := g.2 T hT
  obtain ⟨a1, a2, a3, a4, a5⟩ := hA
  have ww : x.1 o 3 = 1 ↔ w = 1 := by
    rw [wy]
    rcases w01 with e | e <;> rw [e] <;> decide
  have l7 := gT.2.2.2.2.2.2.1.1
  rw [ef_1] at hF
  refine kg_X5_doWrite_0 hq ho _ _ _ _ (kh_goesLate hq ho hM hK hN wy w01 _ gT.2.2.1 hst (fun r hr => ⟨fun c0 => kp_get hq ho hM.1 hM.2.1 _ _ et (show (7 : Int32).toInt = ((7 : Nat) : Int) from rfl) hT6 (by omega) ⟨fun c8 => ?_, fun c8 => ?_⟩, fun c0 => ⟨by rw [vp_in_iff]; omega, fun y ey z ez => ?_⟩⟩))
  · obtain ⟨z1, z2, z3⟩ := hr.mp c0
    rw [← hsu] at z3
    have hw := ww.mpr z1
    rw [t_lt, k8] at c8
    have b5 := b5 hw
    have eJ : (rg x o T 7).toInt = (((rg x o T 7).toInt.toNat : Nat) : Int) := by omega
    refine kh_setLate hq ho hM hw _ _ _ _ et eJ hT6 (by omega) (by omega) (fun y hy fy ly gy => ?_)
    have f9 : y.1 o 9 = x.1 o 9 := fy _ _ (by unfold sSt; omega)
    have f8 : y.1 o 8 = x.1 o 8 := fy _ _ (by unfold sSt; omega)
    have f3 : y.1 o 3 = x.1 o 3 := fy _ _ (by unfold sSt; omega)
    have f6 : y.1 60 6 = x.1 60 6 := fy _ _ (by unfold sSt; omega)
    have hy' : AR S x y o := ⟨hy, fm_w fy (fun c k q => sSt_M q), fun t k hk => by rw [gy t k (by omega), if_neg (fun z => by omega), if_neg (fun z => by omega)], fun k hk => fy _ _ (by unfold sSt; omega)⟩
    have e1 : (rg x o T 7 + 1).toInt = (rg x o T 7).toInt + 1 := by rw [t_add (by rw [k1]; omega) (by rw [k1]; omega), k1]
    refine kh_seta (S := S) hq ho hy _ _ _ et (show (7 : Int32).toInt = ((7 : Nat) : Int) from rfl) hT6 (by rw [f8]; omega) (by omega) (fun c => by omega) (fun _ => ⟨by omega, fun q9 => absurd (by rw [f3]; exact hw) q9, fun j hj => ?_⟩) (fun j hj q9 => by rw [f9] at q9; omega) (fun z hz fz lz gz w' ew => ?_)
    · rw [f9, f6, gy T _ (by omega)]
      by_cases hj2 : j = (rg x o T 7).toInt.toNat
      · rw [if_pos ⟨rfl, by rw [hj2]⟩]; omega
      · rw [if_neg (fun z => by omega), if_neg (fun z => by omega)]; exact a4 j (by omega)
    · obtain ⟨hw9, rw9⟩ := AR_deed hO hz.1 hS ew
      have hxz : AR S x z o := AR_tr hy' hz
      have e8' : ¬ (w = 1 ∧ suM C c' = false ∧ 8 ≤ (M.2.2 T).2.2.2.2.2.2.1.length) := fun z => by have := z.2.2; omega
      refine ri_i (hF _ w' (AR_tr hxz hw9) (Or.inr ⟨e8', rfl, ?_⟩))
      rw [if_neg (fun z => z.elim (fun z => by omega) (fun z => by rw [z3] at z; cases z))]
      obtain ⟨-, -, z13, z9, z8, -, -⟩ := sM_e hO hxz.2.1
      have au : ∀ t k : Nat, (k : Int) < (x.1 o 8).toInt → rg z o t k = if t = T ∧ k = 7 then rg x o T 7 + 1 else if t = T ∧ k = (x.1 o 9).toInt.toNat + 2 * (rg x o T 7).toInt.toNat then c else if t = T ∧ k = (x.1 o 9).toInt.toNat + 2 * (rg x o T 7).toInt.toNat + 1 then v else rg x o t k := fun t k hk => by
        rw [gz t k (by rw [f8]; exact hk)]
        by_cases cc : t = T ∧ k = 7
        · rw [if_pos cc, if_pos cc]
        · rw [if_neg cc, if_neg cc, gy t k hk]
      have gz1 := KMm_T hO hM hK hxz.2.1 (lowE_tr hO fy ly lz) (fun t k ht hk => by rw [au t k hk, if_neg (fun z => ht z.1), if_neg (fun z => ht z.1), if_neg (fun z => ht z.1)]) g (kTq_a hM.1 hM.2.1 ⟨a1, a2, a3, a4, a5⟩ hw z13 z9 (v := v) ec (n := (rg x o T 7).toInt.toNat) (by rw [l7]; rfl) (by omega) (fun k hk => by
        rw [au T k hk]
        by_cases c1 : k = 7
        · rw [if_pos ⟨rfl, c1⟩, if_pos c1]
        · rw [if_neg (fun z => c1 z.2), if_neg c1]
          by_cases c2 : k = (x.1 o 9).toInt.toNat + 2 * (rg x o T 7).toInt.toNat
          · rw [if_pos ⟨rfl, c2⟩, if_pos c2]
          · rw [if_neg (fun z => c2 z.2), if_neg c2]
            by_cases c3 : k = (x.1 o 9).toInt.toNat + 2 * (rg x o T 7).toInt.toNat + 1
            · rw [if_pos ⟨rfl, c3⟩, if_pos c3]
            · rw [if_neg (fun z => c3 z.2), if_neg c3]) gT)
      exact AR_KM hO hz.1 (CK_M hO hK hxz.2.1) hw9 (fun j _ => by rw [ew, si_cell (by omega)]) rw9 gz1
  · obtain ⟨z1, z2, z3⟩ := hr.mp c0
    rw [← hsu] at z3
    rw [t_lt, k8] at c8
    exact ri_i (hF _ x (AR_rf hM) (Or.inl ⟨⟨z1, z3, by omega⟩, rfl, g⟩))
  · have nz : ¬ (w = 1 ∧ suM C c' = false) := fun z => by
      have := hr.mpr ⟨z.1, o1, by rw [← hsu]; exact z.2⟩
      exact this c0
    have nc : c.toNatClampNeg = c' := by rw [t_cl, ec]; rfl
    rw [nc] at ey
    have ry : ∀ t k, rg y o t k = rg x o t k := fun t k => rg_low hO (by omega) ey
    have hy : AR S x y o := AR_row hO hM (by rw [ey]; exact fm_si (fm_rf _ _) rfl) ry
    obtain ⟨hz, rz⟩ := AR_deed hO hy.1 hS ez
    refine ri_i (hF _ z (AR_tr hy hz) (Or.inr ⟨fun z => nz ⟨z.1, z.2.1⟩, rfl, ?_⟩))
    have cc : w = 0 ∨ suM C c' = true := by
      rcases w01 with e | e
      · exact Or.inl e
      · cases hb : suM C c' with
        | true => exact Or.inr rfl
        | false => exact absurd ⟨e, hb⟩ nz
    rw [if_pos cc]
    exact AR_KM hO hy.1 (CK_M hO hK hy.2.1) hz (fun j _ => by rw [ez, si_cell (by omega)]) rz (KMm_c hO hM hK hc ey g)
theorem kh_exch {S : Nat → Prop} (hS3 : S 3) (hS : S 4) (hq : kV q) (ho : kiM q o) (hM : MM x o) (hK : CK x C) (hN : NC C) (g : KMm x o C M) (t c v : Int32) (et : t.toInt = T) (hT : T < C.2.1.length) (h1 : (M.2.2 T).1 = 1) {st : gNs} (hst : C.1[(M.2.2 T).2.2.1]? = some st) (o2 : 2 ≤ st.1 ∧ st.1 ≤ 4) (hx2 : ¬ st.1 = 4 → st.2.2.2.2.2.2.2.2.2 = none) {c' : Nat} (ec : c.toInt = c') (hc : (c' : Int) < (x.1 60 6).toInt) (hF : ∀ r y, AR S x y o → ((evO (M.2.2 T).2.2.2.2.2.2.2 (Int32.ofNat T) st.2.2.2.2.2.2.2.2.2 = none ∧ r = 1 ∧ KMm y o C M) ∨ (∃ f, evO (M.2.2 T).2.2.2.2.2.2.2 (Int32.ofNat T) st.2.2.2.2.2.2.2.2.2 = some f ∧ r = 0 ∧ KMm y o C (upT (efM C w M T st.1 c' v f wk).1 T (wLv (M.2.2 T) (toV st (M.2.2 T).2.2.2.2.2.2.2 (efM C w M T st.1 c' v f wk).2))))) → F r y) : KT G q (d + 2) zk_X5_doExchange 0 [(0, vr o), (1, vi t), (2, vi (rg x o T 2)), (3, vi c), (4, vi v)] [] x (ri F) := by
  have hO := kiM_O ho
  have nT : (x.1 60 10).toInt = C.2.1.length := hK.2.1.1
  have hT6 := MM_6 hM.1 (t := T) (by omega)
  have hA := (hM.2.2 T (by omega)).1
  have k8 : (8 : Int32).toInt = 8 := rfl
  obtain ⟨b1, b2, b3, b4, b5, b6, b7⟩ := MG_b hM.1 hM.2.1
  have c24 := hM.1.1.1
  have m8 := hM.1.1.2.2.2.1
  have gT := g.2 T hT
  obtain ⟨st', s1, s2, s3, s4, s5, kn, ns⟩ := kst_at hM hK hN hT gT
  rw [hst] at s1
  cases Option.some.inj s1
  obtain ⟨vs, eN, -⟩ := MM_st hM.1 hA
  rw [s3] at eN
  have vc : vp_in c 228 := by rw [vp_in_iff]; omega
  have nc : c.toNatClampNeg = c' := by rw [t_cl, ec]; rfl
  have hml := gT.2.2.2.2.2.2.2.2 (Or.inl h1)
  rw [s2] at hml
  obtain ⟨p, hto, -⟩ := ns.2.2.2.1 (Or.inr (Or.inl o2))
  have k84 := kn.2.2.1 (Or.inr (Or.inl o2))
  rw [hto] at k84
  have k84 : (x.1 84 (M.2.2 T).2.2.1).toInt = (p : Nat) := k84
  have htg := (hM.1.2.2.2.1 _ s4).2.2.2.1 (Or.inr (Or.inl (by omega)))
  have htg : 0 ≤ (x.1 84 (M.2.2 T).2.2.1).toInt ∧ (x.1 84 (M.2.2 T).2.2.1).toInt < (x.1 60 13).toInt := htg
  have op_i : ∀ n : Nat, n < 22 → (x.1 81 (M.2.2 T).2.2.1 = Int32.ofNat n ↔ st.1 = n) := fun n hn => by
    have e1 : (Int32.ofNat n).toInt = (n : Nat) := Int32.toInt_ofNat_of_lt (by omega)
    rw [t_eq, e1]
    have : (x.1 81 (M.2.2 T).2.2.1).toInt = (st.1 : Nat) := s5
    omega
  have old : x.1 (o + 5) c' = M.1 c' := g.1.1 c' hc
  have p122 : ∀ (y : gd) (l6 l7 f : Int32), AR S x y o → (∀ t k, rg y o t k = rg x o t k) → KMm y o C M → evO (M.2.2 T).2.2.2.2.2.2.2 (Int32.ofNat T) st.2.2.2.2.2.2.2.2.2 = some f → efM C w M T st.1 c' v f wk = (upC M c' l7, l6) → KT G q (d + 2) zk_X5_doExchange 122 [(0, vr o), (1, vi t), (2, vi (rg x o T 2)), (3, vi c), (5, vi (M.1 c')), (6, vi l6), (7, vi l7)] [] y (ri F) := by
    intro y l6 l7 f hy ry gy hev hef
    refine kg_X5_doExchange_122 hq ho _ _ _ _ _ _ ⟨vc, fun x2 e2 x3 e3 x4 e4 => ⟨vs, ?_⟩⟩
    rw [nc] at e2
    obtain ⟨y6, y9', y13, y9, y8, y7, y10⟩ := sM_e hO hy.2.1
    have r2 : ∀ t k, rg x2 o t k = rg y o t k := fun t k => rg_low hO (by rw [y7]; omega) e2
    have h2 : AR S y x2 o := AR_row hO hy.1 (by rw [e2]; exact fm_si (fm_rf _ _) rfl) r2
    obtain ⟨h3, r3⟩ := AR_deed hO h2.1 hS3 e3
    obtain ⟨h4, r4⟩ := AR_deed hO h3.1 hS e4
    have hh := AR_tr (AR_tr (AR_tr hy h2) h3) h4
    have g2 : KMm x2 o C (upC M c' l7) := KMm_c hO hy.1 (CK_M hO hK hy.2.1) (by rw [y6]; exact hc) e2 gy
    have g3 := AR_KM hO h2.1 (CK_M hO (CK_M hO hK hy.2.1) h2.2.1) h3 (fun j _ => by rw [e3, si_cell (by omega)]) r3 g2
    have g4 := AR_KM hO h3.1 (CK_M hO (CK_M hO (CK_M hO hK hy.2.1) h2.2.1) h3.2.1) h4 (fun j _ => by rw [e4, si_cell (by omega)]) r4 g3
    rw [eN, hh.2.1 84 _ (by unfold sMk; omega)]
    obtain ⟨z6, z9', z13, z9, z8, z7, z10⟩ := sM_e hO hh.2.1
    have e8 : (8 + x.1 84 (M.2.2 T).2.2.1).toInt = ((8 + p : Nat) : Int) := by rw [t_add (by rw [k8]; omega) (by rw [k8]; omega), k8, k84]; push_cast; rfl
    refine kh_seta (S := S) hq ho h4.1 _ _ _ et e8 hT6 (by rw [z8]; push_cast; omega) (by omega) (fun q => by omega) (fun q => by omega) (fun j _ q => by rw [z9] at q; omega) (fun z hz fz lz gz => ri_i (hF _ z (AR_tr hh hz) (Or.inr ⟨f, hev, rfl, ?_⟩)))
    rw [hef, toV_s hto]
    obtain ⟨-, -, w13, w9, w8, -, -⟩ := sM_e hO hz.2.1
    have hA4 := (h4.1.2.2 T (by rw [z10]; omega)).1
    exact KMm_T hO h4.1 (CK_M hO hK hh.2.1) hz.2.1 lz (fun t k ht hk => by rw [gz t k hk, if_neg (fun z => ht z.1)]) g4 (kTq_l h4.1.1 h4.1.2.1 hA4 w13 w9 (p := p) (v := l6) (by rw [z13]; omega) (fun k hk => by
      rw [gz T k hk]
      by_cases c3 : k = 8 + p
      · rw [if_pos ⟨rfl, c3⟩, if_pos c3]
      · rw [if_neg (fun z => c3 z.2), if_neg c3]) (g4.2 T hT))
  refine kg_X5_doExchange_0 hq ho _ _ _ _ ⟨vc, vs, ?_⟩
  rw [eN, nc, old]
  refine ⟨fun n3 => ⟨vs, fun n4 => ?_, fun c4 => ⟨vs, ?_⟩⟩, fun c3 => ?_⟩
  · have e2 : st.1 = 2 := by
      have a : ¬ st.1 = 3 := fun z => n3 ((op_i 3 (by decide)).mpr z)
      have b : ¬ st.1 = 4 := fun z => n4 ((op_i 4 (by decide)).mpr z)
      omega
    exact p122 x _ _ 0 (AR_rf hM) (fun _ _ => rfl) g (by rw [hx2 (by omega)]; rfl) (by rw [e2, ef_2])
  · have e4 : st.1 = 4 := (op_i 4 (by decide)).mp c4
    obtain ⟨Q, hQ⟩ := ns.2.2.2.2.2.2.1 e4
    obtain ⟨q1, q2⟩ := ns.2.2.2.2.2.2.2.2.2.1 Q hQ
    have k89 := kn.2.2.2.2.2.2.2.2
    rw [hQ] at k89
    refine kh_ev hq ho hM hK hT gT _ _ et k89 q1 q2 hml (fun r10 y fy hwk => ?_)
    obtain ⟨hy, ry⟩ := AR_wk (S := S) hO hM fy
    have gy : KMm y o C M := AR_KM hO hM hK hy (fun j _ => fy _ _ (by unfold sWk; omega)) ry g
    rcases hwk with ⟨v9, hw, er, y5⟩ | ⟨hw, y5⟩
    · subst er
      have hev : evO (M.2.2 T).2.2.2.2.2.2.2 (Int32.ofNat T) st.2.2.2.2.2.2.2.2.2 = some r10 := by rw [hQ]; exact hw
      refine ⟨fun _ => ⟨fun nv => ?_, fun ev => ?_⟩, fun c => absurd y5 c⟩
      · refine kg_X5_doExchange_104 hq ho _ _ _ _ _ _ _ ⟨fun _ => p122 y _ _ r10 hy ry gy hev (by rw [e4, ef_4, if_neg nv, if_neg nv]), fun c => absurd c nv⟩
      · refine kg_X5_doExchange_104 hq ho _ _ _ _ _ _ _ ⟨fun c => absurd ev c, fun _ => p122 y _ _ r10 hy ry gy hev (by rw [e4, ef_4, if_pos ev, if_pos ev])⟩
    · refine ⟨fun c => ?_, fun _ => ri_i (hF _ y hy (Or.inl ⟨by rw [hQ]; exact hw, rfl, gy⟩))⟩
      rw [y5] at c; exact absurd c (by decide)
  · have e3 : st.1 = 3 := (op_i 3 (by decide)).mp c3
    exact p122 x _ _ 0 (AR_rf hM) (fun _ _ => rfl) g (by rw [hx2 (by omega)]; rfl) (by rw [e3, ef_3])
/-- an access -/
theorem kh_access (hq : kV q) (ho : kiM q o) (hM : MM x o) (hK : CK x C) (hN : NC C) (hX : NXc C) (hX3 : NX3 C) (g : KMm x o C M) (wy : x.1 o 3 = Int32.ofNat w) (w01 : w = 0 ∨ w = 1) (t p : Int32) (et : t.toInt = T) (hT : T < C.2.1.length) (h1 : (M.2.2 T).1 = 1) (hw0 : (M.2.2 T).2.2.2.1 = 0) (o4 : (stN C (M.2.2 T).2.2.1).1 ≤ 4) (hp : p = Int32.ofNat (stN C (M.2.2 T).2.2.1).1) (hF : ∀ r y, AR S346 x y o → (r = 0 → 0 ≤ (y.1 (o + 20) 2).toInt ∧ (y.1 (o + 20) 2).toInt < (x.1 60 6).toInt) → ((¬ r = 0 ∧ r = Int32.ofNat (lkM C w M T).1 ∧ ¬ (lkM C w M T).1 = 0 ∧ KMm y o C M) ∨ (r = 0 ∧ (lkM C w M T).1 = 0 ∧ KMm y o C (M1c C w M T wk))) → F r y) : KT G q (d + 3) zk_X5_doAccess 0 [(0, vr o), (1, vi t), (2, vi (rg x o T 2)), (3, vi p)] [] x (ri F) := by
  have hO := kiM_O ho
  have nT : (x.1 60 10).toInt = C.2.1.length := hK.2.1.1
  have hT6 := MM_6 hM.1 (t := T) (by omega)
  have hA := (hM.2.2 T (by omega)).1
  obtain ⟨b1, b2, b3, b4, b5, b6, b7⟩ := MG_b hM.1 hM.2.1
  have c24 := hM.1.1.1
  have m8 := hM.1.1.2.2.2.1
  have k8 : (8 : Int32).toInt = 8 := rfl
  have gT := g.2 T hT
  obtain ⟨st, s1, s2, s3, s4, s5, kn, ns⟩ := kst_at hM hK hN hT gT
  obtain ⟨vs, eN, -⟩ := MM_st hM.1 hA
  rw [s3] at eN
  have o4' := o4
  rw [s2] at o4 hp
  have hml := gT.2.2.2.2.2.2.2.2 (Or.inl h1)
  rw [s2] at hml
  obtain ⟨x1, x2, x3, -, x5, x6⟩ := hX _ st s1
  have so : soM C (M.2.2 T) = st.1 := by unfold soM; rw [if_pos hw0, s2]
  have pi : ∀ n : Nat, n < 22 → (p = Int32.ofNat n ↔ st.1 = n) := fun n hn => by
    have e1 : (Int32.ofNat n).toInt = (n : Nat) := Int32.toInt_ofNat_of_lt (by omega)
    have e2 : (Int32.ofNat st.1).toInt = (st.1 : Nat) := Int32.toInt_ofNat_of_lt (by omega)
    rw [hp, t_eq, e1, e2]
    omega
  refine kg_X5_doAccess_0 hq ho _ _ _ (kh_placeOf hq ho hM hK hN g _ et hT h1 o4' (fun c y fy hc x3' e3 => ?_))
  have fM := fm_w fy (fun c k q => sLk_M q)
  have hy : AR S346 x y o := ⟨MM_Lk hO fy hM, fM, fun t k _ => rg_Lk hO fy t k, fun k _ => fy _ _ (by unfold sLk; omega)⟩
  have gy : KMm y o C M := KMm_Lk hO hM hK fy g
  obtain ⟨h3, r3⟩ := AR_deed (S := S346) hO hy.1 (Or.inl rfl) e3
  have hh := AR_tr hy h3
  have rr : ∀ t k, rg x3' o t k = rg x o t k := fun t k => by rw [r3, rg_Lk hO fy]
  have g3 : KMm x3' o C M := AR_KM hO hy.1 (CK_M hO hK fM) h3 (fun j _ => by rw [e3, si_cell (by omega)]) r3 gy
  have hK3 : CK x3' C := CK_M hO hK hh.2.1
  have d2 : x3'.1 (o + 20) 2 = c := by rw [e3, si_get, if_pos ⟨rfl, rfl⟩]
  obtain ⟨y6, y9', y13, y9, y8, y7, y10⟩ := sM_e hO hh.2.1
  rcases hc with ⟨l0, lc, lc0, lc1⟩ | ⟨ln, lc, l14⟩
  · -- the cell
    have cn : ¬ c = -1 := fun z => by rw [z, tm1] at lc0; omega
    refine ⟨fun _ => ?_, fun z => absurd z cn⟩
    obtain ⟨c', ec⟩ : ∃ c' : Nat, c.toInt = c' := ⟨c.toInt.toNat, by omega⟩
    have nc : (lkI C M T).2.toNatClampNeg = c' := by rw [← lc, t_cl, ec]; rfl
    have hcc : (c' : Int) < (x.1 60 6).toInt := by omega
    have hsu : suM C c' = suM C st.2.2.2.2.1.toNatClampNeg := by
      cases hix : st.2.2.2.2.2.2.2.1 with
      | none =>
        rw [lkI_n (by rw [s2]; exact hix), s2] at nc
        have nc : st.2.2.2.2.1.toNatClampNeg = c' := nc
        rw [nc]
      | some Q =>
        have hix' : (stN C (M.2.2 T).2.2.1).2.2.2.2.2.2.2.1 = some Q := by rw [s2]; exact hix
        cases hwk : wkQ (M.2.2 T).2.2.2.2.2.2.2 (fun _ => 0) (Int32.ofNat T) Q with
        | none => rw [lkI_1 hix' hwk] at l0; exact absurd l0 (by decide)
        | some v =>
          by_cases cv : v < 0 ∨ (stN C (M.2.2 T).2.2.1).2.2.2.2.2.1 ≤ v
          · rw [lkI_2 hix' hwk cv] at l0; exact absurd l0 (by decide)
          · rw [lkI_0 hix' hwk cv, s2] at lc
            rw [s2] at cv
            have lc : c = st.2.2.2.2.1 + v := lc
            have v0 : 0 ≤ v.toInt := by
              have : ¬ v < 0 := fun z => cv (Or.inl z)
              rw [t_lt] at this
              have k0 : (0 : Int32).toInt = 0 := rfl
              omega
            have v1 : v.toInt < st.2.2.2.2.2.1.toInt := by
              have : ¬ st.2.2.2.2.2.1 ≤ v := fun z => cv (Or.inr z)
              rw [t_le] at this
              omega
            obtain ⟨z1, z2, z3⟩ := x6 o4
            have z3 := z3 (by rw [hix]; exact fun z => nomatch z)
            have nC : (x.1 60 6).toInt = C.2.2.1.length := hK.2.2.1.1
            have e5 : c.toInt = st.2.2.2.2.1.toInt + v.toInt := by rw [lc, t_add (by omega) (by omega)]
            have := hX3 _ st s1 o4 (by rw [hix]; exact fun z => nomatch z) v.toInt.toNat (by omega)
            rw [← this]
            congr 1
            rw [t_cl]
            omega
    refine kh_seenBy hq ho h3.1 hK3 g3 _ _ et hT ec (by rw [y6]; exact hcc) ⟨fun np0 => ⟨vs, ?_⟩, fun p0 z ez => ⟨vs, ?_⟩⟩
    · have n0 : ¬ st.1 = 0 := fun z => np0 ((pi 0 (by decide)).mpr z)
      obtain ⟨Q, hQ⟩ := ns.2.2.2.2.2.1 (by omega)
      obtain ⟨q1, q2⟩ := ns.2.2.2.2.2.2.2.2.1 Q hQ
      have k88 := kn.2.2.2.2.2.2.2.1
      rw [hQ] at k88
      have hS3' : SUk x3' (x.1 88 (M.2.2 T).2.2.1) (Q.map cQ) := SUk_f k88 (fun c k hc => hh.2.1 c k (by unfold sMk; omega))
      rw [eN, hh.2.1 88 _ (by unfold sMk; omega)]
      refine kh_ev hq ho h3.1 hK3 hT (g3.2 T hT) _ _ et hS3' q1 q2 (by rw [y13]; exact hml) (fun r12 w9 fw hwk => ?_)
      obtain ⟨hw, rw9⟩ := AR_wk (S := fun _ => False) hO h3.1 fw
      have hxw : AR S346 x w9 o := AR_tr hh (AR_w hw (fun _ q => absurd q (fun e => e)))
      have w2 : w9.1 (o + 20) 2 = c := by rw [hw.2.2.2 2 (fun e => e)]; exact d2
      have gw : KMm w9 o C M := AR_KM hO h3.1 hK3 hw (fun j _ => fw _ _ (by unfold sWk; omega)) rw9 g3
      obtain ⟨w6, w9', w13, wo9, w8, w7, w10⟩ := sM_e hO hxw.2.1
      have fin : ∀ (S : Nat → Prop) (r : Int32) (u : gd), (∀ k, S k → k = 3 ∨ k = 4) → AR S w9 u o → ((¬ r = 0 ∧ r = Int32.ofNat (lkM C w M T).1 ∧ ¬ (lkM C w M T).1 = 0 ∧ KMm u o C M) ∨ (r = 0 ∧ (lkM C w M T).1 = 0 ∧ KMm u o C (M1c C w M T wk))) → ri F (some (vi r)) u := fun S r u hS hu hr => ri_i (hF r u (AR_tr hxw (AR_w hu (fun k hk => by have := hS k hk; show k = 2 ∨ k = 3 ∨ k = 4 ∨ k = 6; omega))) (fun _ => by rw [hu.2.2.2 2 (fun q => by have := hS 2 q; omega), w2]; omega) hr)
      have wT : rg w9 o T 2 = rg x o T 2 := by rw [rw9, rr]
      rcases hwk with ⟨v9, hwv, er, y5⟩ | ⟨hwv, y5⟩
      · subst er
        have ev1 : evO (M.2.2 T).2.2.2.2.2.2.2 (Int32.ofNat T) (stN C (M.2.2 T).2.2.1).2.2.2.2.2.2.2.2.1 = some r12 := by rw [s2, hQ]; exact hwv
        refine ⟨fun _ => ⟨fun np1 => ?_, fun p1 => ?_⟩, fun c => absurd y5 c⟩
        · have n1 : ¬ st.1 = 1 := fun z => np1 ((pi 1 (by decide)).mpr z)
          rw [← wT]
          refine kh_exch (S := fun k => k = 3 ∨ k = 4) (w := w) (wk := wk) (Or.inl rfl) (Or.inr rfl) hq ho hw.1 (CK_M hO hK hxw.2.1) hN gw _ _ _ et hT h1 s1 (by omega) (fun n4 => ?_) ec (by rw [w6]; exact hcc) (fun r u hu hr => fin _ r u (fun _ q => q) hu ?_)
          · cases hz : st.2.2.2.2.2.2.2.2.2 with
            | none => rfl
            | some Q9 => exact absurd (x2 (by rw [hz]; exact fun z => nomatch z)) n4
          · rcases hr with ⟨e2, er, gu⟩ | ⟨f, e2, er, gu⟩
            · have ll := lkM_2 (w := w) hw0 l0 ev1 (by rw [s2]; exact e2)
              rw [ll]
              exact Or.inl ⟨by rw [er]; decide, er, by show ¬ 1 = 0; decide, gu⟩
            · have ll := lkM_3 (w := w) hw0 l0 ev1 (by rw [s2]; exact e2)
              rw [s2, rsF_a o4 n1] at ll
              refine Or.inr ⟨er, by rw [ll], ?_⟩
              unfold M1c
              rw [ll, so, s2]
              show KMm u o C (upT (efM C w M T st.1 (lkI C M T).2.toNatClampNeg r12 f wk).1 T (wLv ((efM C w M T st.1 (lkI C M T).2.toNatClampNeg r12 f wk).1.2.2 T) (toV st (M.2.2 T).2.2.2.2.2.2.2 (efM C w M T st.1 (lkI C M T).2.toNatClampNeg r12 f wk).2)))
              rw [nc]
              have ee : (efM C w M T st.1 c' r12 f wk).1.2.2 T = M.2.2 T := by
                have : st.1 = 2 ∨ st.1 = 3 ∨ st.1 = 4 := by omega
                rcases this with e | e | e
                · rw [e, ef_2]; rfl
                · rw [e, ef_3]; rfl
                · rw [e, ef_4]; rfl
              rw [ee]
              exact gu
        · have n1 : st.1 = 1 := (pi 1 (by decide)).mp p1
          have z2 : st.2.2.2.2.2.2.2.2.2 = none := by
            cases hz : st.2.2.2.2.2.2.2.2.2 with
            | none => rfl
            | some Q9 => exact absurd (x2 (by rw [hz]; exact fun z => nomatch z)) (by omega)
          have zt : st.2.2.2.1 = none := x5 (by omega)
          rw [← wT]
          refine kh_write (S := fun k => k = 3 ∨ k = 4) (f := 0) (wk := wk) (Or.inr rfl) hq ho hw.1 (CK_M hO hK hxw.2.1) hN gw (by rw [hxw.2.1 o 3 (by unfold sMk; omega)]; exact wy) w01 _ _ _ et hT s1 n1 ec (by rw [w6]; exact hcc) hsu (fun r u hu hr => fin _ r u (fun _ q => q) hu ?_)
          have ll := lkM_3 (w := w) hw0 l0 ev1 (show evO (M.2.2 T).2.2.2.2.2.2.2 (Int32.ofNat T) (stN C (M.2.2 T).2.2.1).2.2.2.2.2.2.2.2.2 = some 0 by rw [s2, z2]; rfl)
          rw [s2, n1, rsF_1, nc] at ll
          rcases hr with ⟨cc, er, gu⟩ | ⟨cc, er, gu⟩
          · rw [if_pos cc] at ll
            rw [ll]
            exact Or.inl ⟨by rw [er]; decide, er, by show ¬ 9 = 0; decide, gu⟩
          · rw [if_neg cc] at ll
            refine Or.inr ⟨er, by rw [ll], ?_⟩
            unfold M1c
            rw [ll, so, s2, n1]
            show KMm u o C (upT (efM C w M T 1 (lkI C M T).2.toNatClampNeg r12 0 wk).1 T (wLv ((efM C w M T 1 (lkI C M T).2.toNatClampNeg r12 0 wk).1.2.2 T) (toV st (M.2.2 T).2.2.2.2.2.2.2 (efM C w M T 1 (lkI C M T).2.toNatClampNeg r12 0 wk).2)))
            rw [nc, toV_n zt, upT_id]
            · exact gu
            · have ee : ((efM C w M T 1 c' r12 0 wk).1.2.2 T).2.2.2.2.2.2.2 = (M.2.2 T).2.2.2.2.2.2.2 := by
                rw [ef_1]
                split
                · rfl
                · show (upf M.2.2 T _ T).2.2.2.2.2.2.2 = _
                  unfold upf
                  rw [if_pos rfl]
              rw [← ee]
              rfl
      · refine ⟨fun c => ?_, fun _ => fin (fun _ => False) _ w9 (fun _ q => absurd q (fun e => e)) (AR_rf hw.1) ?_⟩
        · rw [y5] at c; exact absurd c (by decide)
        · have ll := lkM_1 (w := w) hw0 l0 (show evO (M.2.2 T).2.2.2.2.2.2.2 (Int32.ofNat T) (stN C (M.2.2 T).2.2.1).2.2.2.2.2.2.2.2.1 = none by rw [s2, hQ]; exact hwv)
          rw [ll]
          exact Or.inl ⟨by decide, rfl, by show ¬ 1 = 0; decide, gw⟩
    · -- a read
      have n0 : st.1 = 0 := (pi 0 (by decide)).mp p0
      obtain ⟨hz, rz⟩ := AR_deed (S := fun k => k = 3) hO h3.1 rfl ez
      have hxz : AR S346 x z o := AR_tr hh (AR_w hz (fun k q => Or.inr (Or.inl q)))
      have gz9 : KMm z o C M := AR_KM hO h3.1 hK3 hz (fun j _ => by rw [ez, si_cell (by omega)]) rz g3
      rw [eN, hxz.2.1 84 _ (by unfold sMk; omega)]
      obtain ⟨t1, t2⟩ := (hM.1.2.2.2.1 _ s4).2.2.2.1 (Or.inl (by omega))
      obtain ⟨pl, hto, -⟩ := ns.2.2.2.1 (Or.inl n0)
      have k84 := kn.2.2.1 (Or.inl n0)
      rw [hto] at k84
      have k84 : (x.1 84 (M.2.2 T).2.2.1).toInt = (pl : Nat) := k84
      have t2 : (x.1 84 (M.2.2 T).2.2.1).toInt < (x.1 60 13).toInt := t2
      have e8 : (8 + x.1 84 (M.2.2 T).2.2.1).toInt = ((8 + pl : Nat) : Int) := by rw [t_add (by rw [k8]; omega) (by rw [k8]; omega), k8, k84]; push_cast; rfl
      obtain ⟨w6, w9', w13, wo9, w8, w7, w10⟩ := sM_e hO hxz.2.1
      have z1 : st.2.2.2.2.2.2.2.2.1 = none := by
        cases hz : st.2.2.2.2.2.2.2.2.1 with
        | none => rfl
        | some Q9 => exact absurd (x3 (by rw [hz]; exact fun z => nomatch z)) (by omega)
      have z2 : st.2.2.2.2.2.2.2.2.2 = none := by
        cases hz : st.2.2.2.2.2.2.2.2.2 with
        | none => rfl
        | some Q9 => exact absurd (x2 (by rw [hz]; exact fun z => nomatch z)) (by omega)
      have ll := lkM_3 (w := w) hw0 l0 (show evO (M.2.2 T).2.2.2.2.2.2.2 (Int32.ofNat T) (stN C (M.2.2 T).2.2.1).2.2.2.2.2.2.2.2.1 = some 0 by rw [s2, z1]; rfl) (show evO (M.2.2 T).2.2.2.2.2.2.2 (Int32.ofNat T) (stN C (M.2.2 T).2.2.1).2.2.2.2.2.2.2.2.2 = some 0 by rw [s2, z2]; rfl)
      rw [s2, rsF_a o4 (by omega)] at ll
      refine kh_seta (S := fun _ => False) hq ho hz.1 _ _ _ et e8 hT6 (by rw [w8]; push_cast; omega) (by omega) (fun q => by omega) (fun q => by omega) (fun j _ q => by rw [wo9] at q; omega) (fun u hu fu lu gu => ri_i (hF _ u (AR_tr hxz (AR_w hu (fun _ q => absurd q (fun e => e)))) (fun _ => ?_) (Or.inr ⟨rfl, ?_, ?_⟩)))
      · rw [hu.2.2.2 2 (fun e => e), hz.2.2.2 2 (by decide), d2]; omega
      · rw [ll]
      · unfold M1c
        rw [ll, so, s2, n0]
        show KMm u o C (upT (efM C w M T 0 (lkI C M T).2.toNatClampNeg 0 0 wk).1 T (wLv ((efM C w M T 0 (lkI C M T).2.toNatClampNeg 0 0 wk).1.2.2 T) (toV st (M.2.2 T).2.2.2.2.2.2.2 (efM C w M T 0 (lkI C M T).2.toNatClampNeg 0 0 wk).2)))
        rw [nc, ef_0, toV_s hto]
        obtain ⟨-, -, u13, u9, u8, -, -⟩ := sM_e hO hu.2.1
        have hA4 := (hz.1.2.2 T (by rw [w10]; omega)).1
        exact KMm_T hO hz.1 (CK_M hO hK hxz.2.1) hu.2.1 lu (fun t k ht hk => by rw [gu t k hk, if_neg (fun z => ht z.1)]) gz9 (kTq_l hz.1.1 hz.1.2.1 hA4 u13 u9 (p := pl) (v := seM M T c') (by rw [w13]; omega) (fun k hk => by
          rw [gu T k hk]
          by_cases c3 : k = 8 + pl
          · rw [if_pos ⟨rfl, c3⟩, if_pos c3]
          · rw [if_neg (fun z => c3 z.2), if_neg c3]) (gz9.2 T hT))
  · -- no cell
    have e14 : x3'.1 o 14 = Int32.ofNat (lkI C M T).1 := by rw [e3, si_cell (by omega)]; exact l14
    have ll := lkM_i (w := w) hw0 ln
    have l3 : (lkI C M T).1 ≤ 2 := by
      unfold lkI
      split
      · exact Nat.zero_le _
      · split
        · exact (by decide : (1 : Nat) ≤ 2)
        · split
          · exact Nat.le_refl _
          · exact Nat.zero_le _
    have nz : ¬ Int32.ofNat (lkI C M T).1 = 0 := fun z => by
      have s : ∀ n, n < 3 → (Int32.ofNat n = 0 → n = 0) := by decide +kernel
      exact ln (s _ (by omega) z)
    refine ⟨fun z => absurd lc z, fun _ => ri_i (hF _ x3' hh (fun c0 => ?_) (Or.inl ⟨?_, ?_, ?_, g3⟩))⟩
    · rw [e14] at c0; exact absurd c0 nz
    · rw [e14]; exact nz
    · rw [e14, ll]
    · rw [ll]; exact ln
end KMA2
end
section
/-! the class: an act is done -/
section KMC
variable {G : kG} {q : kP} {d : Nat} {x x0 y z : gd} {o : Nat} {F : Int32 → gd → Prop} {Fv : gd → Prop} {C : gCo} {M : gMa} {h h' : gTq} {t T w k c s : Nat} {e f : Int32} {wk : Option Nat}
theorem rsF_b (h : s = 5 ∨ s = 10 ∨ s = 11 ∨ s = 12) : rsF C w M T s c = 0 := by
  unfold rsF
  rw [if_neg (fun z => by omega), if_neg (fun z => by omega), if_neg (fun z => by omega), if_neg (fun z => by omega), if_neg (fun z => by omega)]
theorem rsF_6 : rsF C w M T 6 c = if (M.2.1 c).1 = T + 1 then 0 else 3 := by
  unfold rsF
  by_cases h : (M.2.1 c).1 = T + 1
  · rw [if_neg (fun z => z.2 h), if_neg (fun z => by omega), if_neg (fun z => by omega), if_neg (fun z => by omega), if_neg (fun z => by omega), if_pos h]
  · rw [if_pos ⟨rfl, h⟩, if_neg h]
theorem rsF_7 (hs : s = 7 ∨ s = 8) : rsF C w M T s c = if (M.2.1 c).1 = T + 1 then 0 else 4 := by
  unfold rsF
  by_cases h : (M.2.1 c).1 = T + 1
  · rw [if_neg (fun z => by omega), if_neg (fun z => z.2 h), if_neg (fun z => by omega), if_neg (fun z => by omega), if_neg (fun z => by omega), if_pos h]
  · rw [if_neg (fun z => by omega), if_pos ⟨hs, h⟩, if_neg h]
theorem rsF_9 : rsF C w M T 9 c = if (M.2.2 c).1 = 0 then 0 else 7 := by
  unfold rsF
  by_cases h : (M.2.2 c).1 = 0
  · rw [if_neg (fun z => by omega), if_neg (fun z => by omega), if_neg (fun z => z.2 h), if_neg (fun z => by omega), if_neg (fun z => by omega), if_pos h]
  · rw [if_neg (fun z => by omega), if_neg (fun z => by omega), if_pos ⟨rfl, h⟩, if_neg h]
theorem rsF_13 (hs : s = 13 ∨ s = 14) : rsF C w M T s c = if ((s = 13 ∧ ¬ (M.2.2 T).2.2.2.2.2.1 = -1) ∨ (s = 14 ∧ (M.2.2 T).2.2.2.2.2.1 = -1)) then 8 else 0 := by
  unfold rsF
  rw [if_neg (fun z => by omega), if_neg (fun z => by omega), if_neg (fun z => by omega)]
  by_cases h : (s = 13 ∧ ¬ (M.2.2 T).2.2.2.2.2.1 = -1) ∨ (s = 14 ∧ (M.2.2 T).2.2.2.2.2.1 = -1)
  · rw [if_pos h, if_pos h]
  · rw [if_neg h, if_neg h, if_neg (fun z => by omega)]
/-- nothing is kept of it -/
theorem M1c_is {E : gMa} {v : Int32} (e9 : efM C w M T (soM C (M.2.2 T)) (lkM C w M T).2.1.toNatClampNeg (lkM C w M T).2.2.1 (lkM C w M T).2.2.2 wk = (E, v)) (hto : (stN C (M.2.2 T).2.2.1).2.2.2.1 = none) (hl : (E.2.2 T).2.2.2.2.2.2.2 = (M.2.2 T).2.2.2.2.2.2.2) : M1c C w M T wk = E := by
  unfold M1c
  rw [e9, toV_n hto, ← hl]
  exact upT_id rfl
/-- a lock's act looked at -/
theorem lkM_b {st : gNs} (hX : NXc C) (hst : C.1[(M.2.2 T).2.2.1]? = some st) (s2 : stN C (M.2.2 T).2.2.1 = st) (hw0 : (M.2.2 T).2.2.2.1 = 0) (h5 : 5 ≤ st.1 ∧ st.1 ≤ 12) : lkM C w M T = (rsF C w M T st.1 (obM C (M.2.2 T).2.2.1), st.2.2.2.2.1, 0, 0) := by
  obtain ⟨x1, x2, x3, -, x5, x6⟩ := hX _ st hst
  have z0 : st.2.2.2.2.2.2.2.1 = none := by
    cases hz : st.2.2.2.2.2.2.2.1 with
    | none => rfl
    | some Q9 => exact absurd (x1 (by rw [hz]; exact fun z => nomatch z)) (by omega)
  have z1 : st.2.2.2.2.2.2.2.2.1 = none := by
    cases hz : st.2.2.2.2.2.2.2.2.1 with
    | none => rfl
    | some Q9 => exact absurd (x3 (by rw [hz]; exact fun z => nomatch z)) (by omega)
  have z2 : st.2.2.2.2.2.2.2.2.2 = none := by
    cases hz : st.2.2.2.2.2.2.2.2.2 with
    | none => rfl
    | some Q9 => exact absurd (x2 (by rw [hz]; exact fun z => nomatch z)) (by omega)
  have li := lkI_n (M := M) (t := T) (C := C) (by rw [s2]; exact z0)
  rw [lkM_3 (w := w) hw0 (by rw [li]) (show evO (M.2.2 T).2.2.2.2.2.2.2 (Int32.ofNat T) (stN C (M.2.2 T).2.2.1).2.2.2.2.2.2.2.2.1 = some 0 by rw [s2, z1]; rfl) (show evO (M.2.2 T).2.2.2.2.2.2.2 (Int32.ofNat T) (stN C (M.2.2 T).2.2.1).2.2.2.2.2.2.2.2.2 = some 0 by rw [s2, z2]; rfl), li]
  unfold obM
  rw [s2]
theorem kh_act (hq : kV q) (ho : kiM q o) (hM : MM x o) (hK : CK x C) (hN : NC C) (hX : NXc C) (hX3 : NX3 C) (g : KMm x o C M) (wy : x.1 o 3 = Int32.ofNat w) (w01 : w = 0 ∨ w = 1) (t p wv : Int32) (et : t.toInt = T) (hT : T < C.2.1.length) (h1 : (M.2.2 T).1 = 1) (hp : p = Int32.ofNat (soM C (M.2.2 T))) (hu0 : wk = none → wv = -1) (hu1 : ∀ k, wk = some k → wv = Int32.ofNat k ∧ k ∈ waM C M (obM C (M.2.2 T).2.2.1)) (hF : ∀ r y, AR S346 x y o → (r = 0 → (p.toInt ≤ 4 → 0 ≤ (y.1 (o + 20) 2).toInt ∧ (y.1 (o + 20) 2).toInt < (x.1 60 6).toInt) ∧ (¬ p.toInt ≤ 4 → y.1 (o + 20) 2 = x.1 (o + 20) 2)) → ((¬ r = 0 ∧ r = Int32.ofNat (lkM C w M T).1 ∧ ¬ (lkM C w M T).1 = 0 ∧ KMm y o C M) ∨ (r = 0 ∧ (lkM C w M T).1 = 0 ∧ (¬ soM C (M.2.2 T) = 9 → KMm y o C (M1c C w M T wk)) ∧ (soM C (M.2.2 T) = 9 → y = x ∧ (M.2.2 (obM C (M.2.2 T).2.2.1)).1 = 0))) → F r y) : KT G q (d + 4) zk_X5_actFailure 0 [(0, vr o), (1, vi t), (2, vi (rg x o T 2)), (3, vi p), (4, vi wv)] [] x (ri F) := by
  have hO := kiM_O ho
  have nT : (x.1 60 10).toInt = C.2.1.length := hK.2.1.1
  have hT6 := MM_6 hM.1 (t := T) (by omega)
  have hA := (hM.2.2 T (by omega)).1
  have t6 := hM.1.1.2.2.1
  have k1 : (1 : Int32).toInt = 1 := rfl
  have gT := g.2 T hT
  obtain ⟨st, s1, s2, s3, s4, s5, kn, ns⟩ := kst_at hM hK hN hT gT
  obtain ⟨vs, eN, -⟩ := MM_st hM.1 hA
  rw [s3] at eN
  have hcs := (hM.1.2.2.2.1 _ s4).1
  obtain ⟨x1, x2, x3, x4, x5, x6⟩ := hX _ st s1
  have k85 : ¬ st.1 = 16 → x.1 85 (M.2.2 T).2.2.1 = st.2.2.2.2.1 := kn.2.2.2.2.1
  have obE : obM C (M.2.2 T).2.2.1 = st.2.2.2.2.1.toNatClampNeg := by unfold obM; rw [s2]
  -- its going is at an act
  have hgo := (hM.2.2 T (by omega)).2 (by rw [gT.1.1, h1]; rfl)
  have o16 : st.1 < 16 := by
    have := hgo.1
    rw [s3, s5] at this
    omega
  have so9 : soM C (M.2.2 T) < 16 ∧ (¬ soM C (M.2.2 T) = 15 → (M.2.2 T).2.2.2.1 = 0 ∧ soM C (M.2.2 T) = st.1) := by
    by_cases c0 : (M.2.2 T).2.2.2.1 = 0
    · have : soM C (M.2.2 T) = st.1 := by unfold soM; rw [if_pos c0, s2]
      exact ⟨by omega, fun _ => ⟨c0, this⟩⟩
    · have : soM C (M.2.2 T) = 15 := by unfold soM; rw [if_neg c0]
      exact ⟨by omega, fun z => absurd this z⟩
  have ep : p.toInt = (soM C (M.2.2 T) : Nat) := by rw [hp]; exact Int32.toInt_ofNat_of_lt (by omega)
  have own : ¬ p.toInt = 15 → (M.2.2 T).2.2.2.1 = 0 ∧ p.toInt = (st.1 : Nat) ∧ soM C (M.2.2 T) = st.1 := fun n15 => by
    obtain ⟨a, b⟩ := so9.2 (by omega)
    exact ⟨a, by omega, b⟩
  have fin : ∀ (r : Int32) (y : gd), AR (fun k => k = 4 ∨ k = 6) x y o → ¬ p.toInt ≤ 4 → ((¬ r = 0 ∧ r = Int32.ofNat (lkM C w M T).1 ∧ ¬ (lkM C w M T).1 = 0 ∧ KMm y o C M) ∨ (r = 0 ∧ (lkM C w M T).1 = 0 ∧ (¬ soM C (M.2.2 T) = 9 → KMm y o C (M1c C w M T wk)) ∧ (soM C (M.2.2 T) = 9 → y = x ∧ (M.2.2 (obM C (M.2.2 T).2.2.1)).1 = 0))) → ri F (some (vi r)) y := fun r y hy n4 hr => ri_i (hF r y (AR_w hy (fun k hk => by show k = 2 ∨ k = 3 ∨ k = 4 ∨ k = 6; omega)) (fun _ => ⟨fun c => absurd c n4, fun _ => hy.2.2.2 2 (by decide)⟩) hr)
  -- a lock that there is
  have lock : ∀ n : Nat, 5 ≤ n → n ≤ 8 → st.1 = n → st.2.2.2.2.1.toInt = (obM C (M.2.2 T).2.2.1 : Nat) ∧ ((obM C (M.2.2 T).2.2.1 : Nat) : Int) < (x.1 60 9).toInt := fun n n5 n8 en => by
    have a := hcs.2.1 (by omega) (by omega)
    rw [k85 (by omega)] at a
    rw [obE, t_cl]
    omega
  have tonone : ¬ (st.1 = 0 ∨ (2 ≤ st.1 ∧ st.1 ≤ 4) ∨ st.1 = 16 ∨ st.1 = 17 ∨ st.1 = 20) → (stN C (M.2.2 T).2.2.1).2.2.2.1 = none := fun z => by rw [s2]; exact x5 z
  have wake : p = 8 → ∀ a : Int32, (a = 0 ↔ st.2.2.2.2.2.2.1 = false) → KT G q (d + 4) zk_X5_actFailure 163 [(4, vi wv)] [vi a, vi (x.1 85 (M.2.2 T).2.2.1), vi t, vr o] x (ri F) := by
    intro c a ha
    have e5 : p.toInt = 8 := by rw [c]; rfl
    obtain ⟨w0, e1, e2⟩ := own (by omega)
    obtain ⟨l1, l2⟩ := lock 8 (by omega) (by omega) (by omega)
    have ll := lkM_b (w := w) hX s1 s2 w0 (by omega)
    rw [rsF_7 (Or.inr (by omega))] at ll
    rw [k85 (by omega)]
    refine kg_X5_actFailure_163 hq ho _ _ _ _ (kh_wake (S := fun k => k = 4 ∨ k = 6) (Or.inr rfl) hq ho hM hK hN g _ _ _ _ et hT l1 l2 st.2.2.2.2.2.2.1 ha wk hu0 hu1 (fun r y hy hr => fin _ y hy (by omega) ?_))
    rcases hr with ⟨er, hh, gy⟩ | ⟨er, hh, gy⟩
    · rw [if_neg hh] at ll
      rw [ll]
      exact Or.inl ⟨by rw [er]; decide, er, by show ¬ 4 = 0; decide, gy⟩
    · rw [if_pos hh] at ll
      refine Or.inr ⟨er, by rw [ll], fun _ => ?_, fun z => by omega⟩
      rw [M1c_is (E := wkU M C.2.1.length (fun o => (M.2.2 o).2.2.2.1 == 1 && (obM C (M.2.2 o).2.2.1 == (obM C (M.2.2 T).2.2.1) && (st.2.2.2.2.2.2.1 || wk == some o)))) (v := 0) ?_ (tonone (by omega)) ?_]
      · exact gy
      · rw [ll, show soM C (M.2.2 T) = 8 by omega, ef_8, ← obE]
        refine Prod.ext (Prod.ext rfl (Prod.ext rfl (funext fun i => ?_))) rfl
        unfold wkT wkU
        rw [s2]
        refine ite_congr (propext ?_) (fun _ => rfl) (fun _ => rfl)
        rw [Bool.and_eq_true, Bool.and_eq_true, Bool.or_eq_true, beq_iff_eq, beq_iff_eq, beq_iff_eq]
      · unfold wkU
        show (if T < C.2.1.length ∧ _ then _ else M.2.2 T).2.2.2.2.2.2.2 = _
        split <;> rfl
  refine kg_X5_actFailure_0 hq ho _ _ _ _ ⟨vs, ?_⟩
  rw [eN]
  refine ⟨fun c => ?_, fun c => ?_, fun c => ?_, fun c => ?_, fun c => ?_, fun c => ⟨vs, fun c84 => ?_, fun c84 => ?_⟩, fun c => ?_, fun c => ?_, fun c => ?_⟩
  · -- an access
    have c4 : ¬ p.toInt = 15 ∧ p.toInt ≤ 4 := by rcases c with rfl | rfl | rfl | rfl | rfl <;> decide
    obtain ⟨w0, e1, e2⟩ := own c4.1
    refine kh_access (wk := wk) hq ho hM hK hN hX hX3 g wy w01 _ _ et hT h1 w0 (by rw [s2]; omega) (by rw [s2, hp, e2]) (fun r y hy hd hr => ri_i (hF r y hy (fun r0 => ⟨fun _ => hd r0, fun z => absurd c4.2 z⟩) ?_))
    rcases hr with hr | ⟨a1, a2, a3⟩
    · exact Or.inl hr
    · exact Or.inr ⟨a1, a2, fun _ => a3, fun z => by omega⟩
  · -- take
    have e5 : p.toInt = 5 := by rw [c]; rfl
    obtain ⟨w0, e1, e2⟩ := own (by omega)
    obtain ⟨l1, l2⟩ := lock 5 (by omega) (by omega) (by omega)
    have ll := lkM_b (w := w) hX s1 s2 w0 (by omega)
    rw [k85 (by omega)]
    refine kh_often hq ho hM g _ l1 l2 (kh_setLock hq ho hM hK g _ _ _ l1 l2 (n := T + 1) (i32_of (by rw [t_add (by rw [k1]; omega) (by rw [k1]; omega), k1, et]; push_cast; rfl)) (by omega) (fun y hy ry gy => fin _ y hy (by omega) (Or.inr ⟨rfl, ?_, fun _ => ?_, fun z => by omega⟩)))
    · rw [ll]; exact rsF_b (Or.inl (by omega))
    · rw [M1c_is (E := upL M (obM C (M.2.2 T).2.2.1) (T + 1, (M.2.1 (obM C (M.2.2 T).2.2.1)).2 + 1)) (v := 0) ?_ (tonone (by omega)) rfl]
      · exact gy
      · rw [ll, show soM C (M.2.2 T) = 5 by omega, ef_5, ← obE]
  · -- give
    have e5 : p.toInt = 6 := by rw [c]; rfl
    obtain ⟨w0, e1, e2⟩ := own (by omega)
    obtain ⟨l1, l2⟩ := lock 6 (by omega) (by omega) (by omega)
    have ll := lkM_b (w := w) hX s1 s2 w0 (by omega)
    rw [show st.1 = 6 by omega, rsF_6] at ll
    rw [k85 (by omega)]
    refine kh_give hq ho hM hK g _ _ et hT6 l1 l2 (fun r y hy hr => fin _ y hy (by omega) ?_)
    rcases hr with ⟨er, hh, gy⟩ | ⟨er, hh, gy⟩
    · rw [if_neg hh] at ll
      rw [ll]
      exact Or.inl ⟨by rw [er]; decide, er, by show ¬ 3 = 0; decide, gy⟩
    · rw [if_pos hh] at ll
      refine Or.inr ⟨er, by rw [ll], fun _ => ?_, fun z => by omega⟩
      rw [M1c_is (E := upL M (obM C (M.2.2 T).2.2.1) (if (M.2.1 (obM C (M.2.2 T).2.2.1)).2 - 1 = 0 then 0 else T + 1, (M.2.1 (obM C (M.2.2 T).2.2.1)).2 - 1)) (v := 0) ?_ (tonone (by omega)) rfl]
      · exact gy
      · rw [ll, show soM C (M.2.2 T) = 6 by omega, ef_6, ← obE]
  · -- wait
    have e5 : p.toInt = 7 := by rw [c]; rfl
    obtain ⟨w0, e1, e2⟩ := own (by omega)
    obtain ⟨l1, l2⟩ := lock 7 (by omega) (by omega) (by omega)
    have ll := lkM_b (w := w) hX s1 s2 w0 (by omega)
    rw [rsF_7 (Or.inl (by omega))] at ll
    rw [k85 (by omega)]
    refine kh_wait hq ho hM hK hN g _ _ et hT h1 w0 (by rw [s2]; omega) (by rw [s2]) l1 l2 (fun r y hy hr => fin _ y hy (by omega) ?_)
    rcases hr with ⟨er, hh, gy⟩ | ⟨er, hh, gy⟩
    · rw [if_neg hh] at ll
      rw [ll]
      exact Or.inl ⟨by rw [er]; decide, er, by show ¬ 4 = 0; decide, gy⟩
    · rw [if_pos hh] at ll
      refine Or.inr ⟨er, by rw [ll], fun _ => ?_, fun z => by omega⟩
      rw [M1c_is (E := upT (upL M (obM C (M.2.2 T).2.2.1) (0, 0)) T ((M.2.2 T).1, (M.2.2 T).2.1, (M.2.2 T).2.2.1, 1, (M.2.1 (obM C (M.2.2 T).2.2.1)).2, (M.2.2 T).2.2.2.2.2)) (v := 0) ?_ (tonone (by omega)) (by rw [upT_at])]
      · exact gy
      · rw [ll, show soM C (M.2.2 T) = 7 by omega, ef_7, ← obE]
  · -- retake
    have e5 : p.toInt = 15 := by rw [c]; rfl
    have w0 : ¬ (M.2.2 T).2.2.2.1 = 0 := fun z => by
      have : soM C (M.2.2 T) = st.1 := by unfold soM; rw [if_pos z, s2]
      have := ns.1.2
      omega
    have o7 := gT.2.2.2.1.2.2.2 w0
    rw [s2] at o7
    obtain ⟨l1, l2⟩ := lock 7 (by omega) (by omega) (by omega)
    have ll := lkM_15 (w := w) (C := C) w0
    rw [s2] at ll
    rw [k85 (by omega)]
    refine kh_retake hq ho hM hK g _ _ et hT l1 l2 (fun y hy gy => fin _ y hy (by omega) (Or.inr ⟨rfl, by rw [ll], fun _ => ?_, fun z => by omega⟩))
    rw [M1c_is (E := upT (upL M (obM C (M.2.2 T).2.2.1) (T + 1, (M.2.2 T).2.2.2.2.1)) T ((M.2.2 T).1, (M.2.2 T).2.1, (M.2.2 T).2.2.1, 0, 0, (M.2.2 T).2.2.2.2.2)) (v := 0) ?_ (tonone (by omega)) (by rw [upT_at])]
    · exact gy
    · rw [ll, show soM C (M.2.2 T) = 15 by omega, ef_15, ← obE]
  · exact wake c 0 ⟨fun _ => by
      cases hb : st.2.2.2.2.2.2.1 with
      | true => exact absurd ((kn.2.2.2.1 (by have e5 : p.toInt = 8 := by rw [c]; rfl
                                              have := own (by omega)
                                              omega)).mpr hb) c84
      | false => rfl, fun _ => rfl⟩
  · exact wake c 1 ⟨fun z => absurd z (by decide), fun z => by
      have := (kn.2.2.2.1 (by have e5 : p.toInt = 8 := by rw [c]; rfl
                              have := own (by omega)
                              omega)).mp c84
      rw [z] at this; cases this⟩
  · -- start
    have e5 : p.toInt = 9 := by rw [c]; rfl
    obtain ⟨w0, e1, e2⟩ := own (by omega)
    have ll := lkM_b (w := w) hX s1 s2 w0 (by omega)
    rw [show st.1 = 9 by omega, rsF_9] at ll
    have a := hcs.2.2 (by omega) (by omega)
    rw [k85 (by omega)] at a ⊢
    have l1 : st.2.2.2.2.1.toInt = (obM C (M.2.2 T).2.2.1 : Nat) := by rw [obE, t_cl]; omega
    have gc := g.2 (obM C (M.2.2 T).2.2.1) (by omega)
    have s0 := sta_0 (M.2.2 (obM C (M.2.2 T).2.2.1)).1 (by have := gc.1.2; omega)
    refine kp_get hq ho hM.1 hM.2.1 _ _ l1 (show (0 : Int32).toInt = ((0 : Nat) : Int) from rfl) (by omega) (by omega) ⟨fun c0 => fin _ x (AR_rf hM) (by omega) (Or.inl ?_), fun c0 => fin _ x (AR_rf hM) (by omega) (Or.inr ⟨rfl, ?_, fun z => by omega, fun _ => ⟨rfl, ?_⟩⟩)⟩
    · rw [gc.1.1] at c0
      rw [if_neg (fun z => c0 (s0.mpr z))] at ll
      rw [ll]
      exact ⟨by decide, rfl, by show ¬ 7 = 0; decide, g⟩
    · rw [gc.1.1] at c0
      rw [if_pos (s0.mp c0)] at ll
      rw [ll]
    · rw [gc.1.1] at c0
      exact s0.mp c0
  · -- call, back
    have cc : p.toInt = 13 ∨ p.toInt = 14 := by rcases c with rfl | rfl <;> decide
    obtain ⟨w0, e1, e2⟩ := own (by omega)
    have z0 : st.2.2.2.2.2.2.2.1 = none := by
      cases hz : st.2.2.2.2.2.2.2.1 with
      | none => rfl
      | some Q9 => exact absurd (x1 (by rw [hz]; exact fun z => nomatch z)) (by omega)
    have z2 : st.2.2.2.2.2.2.2.2.2 = none := by
      cases hz : st.2.2.2.2.2.2.2.2.2 with
      | none => rfl
      | some Q9 => exact absurd (x2 (by rw [hz]; exact fun z => nomatch z)) (by omega)
    have li := lkI_n (M := M) (t := T) (C := C) (by rw [s2]; exact z0)
    have l0 : (lkI C M T).1 = 0 := by rw [li]
    refine kh_call (S := fun k => k = 4 ∨ k = 6) (Or.inl rfl) hq ho hM hK hN g _ _ et hT h1 (by rw [s2]; omega) (by rw [s2, hp, e2]) (fun r y hy hr => fin _ y hy (by omega) ?_)
    rcases hr with ⟨ev, er, gy⟩ | ⟨v9, ev, hr⟩
    · have ll := lkM_1 (w := w) w0 l0 ev
      rw [ll]
      exact Or.inl ⟨by rw [er]; decide, er, by show ¬ 1 = 0; decide, gy⟩
    · have ll := lkM_3 (w := w) w0 l0 ev (show evO (M.2.2 T).2.2.2.2.2.2.2 (Int32.ofNat T) (stN C (M.2.2 T).2.2.1).2.2.2.2.2.2.2.2.2 = some 0 by rw [s2, z2]; rfl)
      rw [rsF_13 (by rw [s2]; omega)] at ll
      rcases hr with ⟨er, bad, gy⟩ | ⟨er, bad, gy⟩
      · rw [if_pos bad] at ll
        rw [ll]
        exact Or.inl ⟨by rw [er]; decide, er, by show ¬ 8 = 0; decide, gy⟩
      · rw [if_neg bad] at ll
        refine Or.inr ⟨er, by rw [ll], fun _ => ?_, fun z => by omega⟩
        rw [M1c_is (E := upT M T ((M.2.2 T).1, (M.2.2 T).2.1, (M.2.2 T).2.2.1, (M.2.2 T).2.2.2.1, (M.2.2 T).2.2.2.2.1, if (stN C (M.2.2 T).2.2.1).1 = 13 then (stN C (M.2.2 T).2.2.1).2.2.2.2.1 else -1, (M.2.2 T).2.2.2.2.2.2)) (v := 0) ?_ (tonone (by omega)) (by rw [upT_at])]
        · exact gy
        · rcases cc with e13 | e13
          · rw [show soM C (M.2.2 T) = 13 by omega, ef_13, if_pos (show (stN C (M.2.2 T).2.2.1).1 = 13 by rw [s2]; omega)]
          · rw [show soM C (M.2.2 T) = 14 by omega, ef_14, if_neg (show ¬ (stN C (M.2.2 T).2.2.1).1 = 13 by rw [s2]; omega)]
  · -- the others
    have ne : ∀ n : Int32, n ∈ [(0 : Int32), 1, 2, 3, 4, 5, 6, 7, 15, 8, 9, 13, 14] → ¬ p.toInt = n.toInt := fun n hn z => c n hn (t_eq.mpr z)
    have n0 := ne 0 (by decide)
    have n1 := ne 1 (by decide)
    have n2 := ne 2 (by decide)
    have n3 := ne 3 (by decide)
    have n4 := ne 4 (by decide)
    have n5 := ne 5 (by decide)
    have n6 := ne 6 (by decide)
    have n7 := ne 7 (by decide)
    have n8 := ne 8 (by decide)
    have n9 := ne 9 (by decide)
    have n13 := ne 13 (by decide)
    have n14 := ne 14 (by decide)
    have n15 := ne 15 (by decide)
    simp only [Int32.reduceToInt] at n0 n1 n2 n3 n4 n5 n6 n7 n8 n9 n13 n14 n15
    obtain ⟨w0, e1, e2⟩ := own n15
    have s3' : st.1 = 10 ∨ st.1 = 11 ∨ st.1 = 12 := by omega
    have ll := lkM_b (w := w) hX s1 s2 w0 (by omega)
    rw [rsF_b (Or.inr s3')] at ll
    refine fin _ x (AR_rf hM) (by omega) (Or.inr ⟨rfl, by rw [ll], fun _ => ?_, fun z => by omega⟩)
    rw [M1c_is (E := M) (v := 0) ?_ (tonone (by omega)) rfl]
    · exact g
    · rw [e2, ef_o s3']
end KMC
end
section
/-! the class: a choice is performed, with what its machine holds -/
section KMF
variable {G : kG} {q : kP} {d : Nat} {x x0 y z : gd} {o : Nat} {R : Nat → Nat → Int32} {F : Int32 → gd → Prop} {Fv : gd → Prop} {C : gCo} {M : gMa} {h h' : gTq} {t T w k c s : Nat} {e f : Int32} {wk : Option Nat}
/-- a thread settles: it stands as the machine says -/
theorem kh_settleM (hq : kV q) (ho : kiM q o) (hS : MS (rg x o) x o T) (hK : CK x C) (hN : NC C) (hl : KMl x o M) (hot : ∀ t, t < C.2.1.length → t ≠ T → kTq x o C t (M.2.2 t)) (hT : T < C.2.1.length) (t : Int32) (et : t.toInt = T) {lv : Nat → Int32} {st : gNs} (hs : C.1[s]? = some st) (hml : (st.2.1.length : Int) ≤ (x.1 60 13).toInt) (r0 : rg x o T 0 = 1) (r1 : rg x o T 1 = 0) (r2 : (rg x o T 2).toInt = (s : Nat)) (r3 : rg x o T 3 = 0) (r5 : rg x o T 5 = 0) (w0 : h.2.2.2.1 = 0) (r4 : rg x o T 4 = h.2.2.2.2.1) (r6 : rg x o T 6 = h.2.2.2.2.2.1 + 1) (r7 : (rg x o T 7).toInt = (h.2.2.2.2.2.2.1.length : Nat) ∧ ∀ i p, h.2.2.2.2.2.2.1[i]? = some p → (rg x o T ((x.1 o 9).toInt.toNat + 2 * i)).toInt = (p.1 : Nat) ∧ rg x o T ((x.1 o 9).toInt.toNat + 2 * i + 1) = p.2) (rl : ∀ p, p < st.2.1.length → rg x o T (8 + p) = lv p) (hF : ∀ y, MM y o → fm (sSt o) x y → KMm y o C (upT M T (thN C T h s lv)) → Fv y) : KT G q (d + 3) zk_X5_settle 0 [(0, vr o), (1, vi t)] [] x (rv Fv) := by
  have hO := kiM_O ho
  have nT : (x.1 60 10).toInt = C.2.1.length := hK.2.1.1
  have hA := (hS.2.2.1 T (by omega)).1
  obtain ⟨b1, b2, b3, b4, b5, b6, b7⟩ := MG_b hS.1 hS.2.1
  have e2 : (rg x o T 2).toInt.toNat = s := by rw [r2]; rfl
  refine kh_settle hq ho hS (by omega) _ et r3 hK hN r0 r1 (by rw [e2]; exact hs) rl hml (fun y hy fy gy uy vy hfin => hF y hy fy ?_)
  obtain ⟨n, r, hr, ⟨f0, f1, f2, f3, f4⟩, key⟩ := hfin
  rw [e2] at hr
  have ow := owR_is hr
  have fM : fm (sMk o) x y := fm_w fy (fun c k q => sSt_M q)
  obtain ⟨f6, f9, e13, e9, e8, e7, e10⟩ := sM_e hO fM
  refine ⟨KMl_e hS.2.1 f6 f9 uy.2 hl hS.1, fun t' ht' => ?_⟩
  show kTq y o C t' (upf M.2.2 T (thN C T h s lv) t')
  unfold upf
  by_cases c : t' = T
  · rw [if_pos c, c]
    unfold thN
    rw [ow]
    refine ⟨⟨f0, by show r.1 ≤ 3; omega⟩, f1, f2, ⟨?_, ?_, ?_, fun z => absurd w0 z⟩, ?_, ?_, ⟨?_, fun i p hp => ?_⟩, fun p hp => ?_, fun c1 => ?_⟩
    · show rg y o T 3 = if h.2.2.2.1 = 0 then 0 else _
      rw [if_pos w0, uy.1 3 (by omega) (by omega)]; exact r3
    · show rg y o T 5 = if h.2.2.2.1 = 2 then 1 else 0
      rw [if_neg (by omega), uy.1 5 (by omega) (by omega)]; exact r5
    · show h.2.2.2.1 ≤ 2
      omega
    · rw [uy.1 4 (by omega) (by omega)]; exact r4
    · rw [uy.1 6 (by omega) (by omega)]; exact r6
    · rw [uy.1 7 (by omega) (by omega)]; exact r7.1
    · have hp : h.2.2.2.2.2.2.1[i]? = some p := hp
      have hi := gt_lt hp
      have := (lt_in hS.1 hS.2.1 hA (i := i) (by rw [r7.1]; omega)).2
      rw [e9, vy _ (by omega) (by omega), vy _ (by omega) (by omega)]
      exact r7.2 i p hp
    · rw [e13] at hp; exact key p hp
    · obtain ⟨st', g1, g2, -⟩ := f4 c1
      have : stN C r.2.2.1 = st' := by unfold stN; rw [g1]; rfl
      show ((stN C r.2.2.1).2.1.length : Int) ≤ _
      rw [this]; exact g2
  · rw [if_neg c]
    exact kTq_e hS.1 hS.2.1 (hS.2.2.1 t' (by omega)).1 e13 e9 (fun k hk => gy t' k c hk) (hot t' ht' c)
/-- a thread is started -/
theorem kh_rouseM (hq : kV q) (ho : kiM q o) (hM : MM x o) (hK : CK x C) (hN : NC C) (g : KMm x o C M) (t : Int32) (et : t.toInt = T) (hT : T < C.2.1.length) (h0 : (M.2.2 T).1 = 0) (hn : (M.2.2 T).2.1 = 0) (hw0 : (M.2.2 T).2.2.2.1 = 0) {q9 : Nat × Nat} (hth : C.2.1[T]? = some q9) (hF : ∀ y, MM y o → fm (sSt o) x y → KMm y o C (upT M T (thN C T (M.2.2 T) q9.1 (M.2.2 T).2.2.2.2.2.2.2)) → Fv y) : KT G q (d + 4) zk_X5_rouse 0 [(0, vr o), (1, vi t)] [] x (rv Fv) := by
  have hO := kiM_O ho
  have nT : (x.1 60 10).toInt = C.2.1.length := hK.2.1.1
  have hT6 := MM_6 hM.1 (t := T) (by omega)
  obtain ⟨b1, b2, b3, b4, b5, b6, b7⟩ := MG_b hM.1 hM.2.1
  have hA := (hM.2.2 T (by omega)).1
  have gT := g.2 T hT
  refine kg_X5_rouse_0 hq ho _ (kh_set hq ho (MM_MS hM) hT6 _ _ _ et (show (0 : Int32).toInt = ((0 : Nat) : Int) from rfl) (by omega) (by omega) (fun c => by omega) (fun _ c => absurd c (by decide)) (fun c => by omega) (fun y hy fy ly gy wy => ⟨by rw [vp_in_iff]; omega, ?_⟩))
  have y9 : y.1 o 9 = x.1 o 9 := fy _ _ (by unfold sSt; omega)
  have eN : t.toNatClampNeg = T := by rw [t_cl, et]; rfl
  have hs := hy.1.2.2.2.2 T (by rw [fy 60 10 (by unfold sSt; omega)]; omega)
  rw [eN]
  refine kh_set hq ho hy hT6 _ _ _ et (show (2 : Int32).toInt = ((2 : Nat) : Int) from rfl) (by rw [y9]; omega) (by omega) (fun _ => hs) (fun c => by omega) (fun c => by omega) (fun z hz fz lz gz wz => ?_)
  have fxz : fm (sSt o) x z := fm_tr fy fz
  have z8 : z.1 o 8 = x.1 o 8 := fxz _ _ (by unfold sSt; omega)
  have z9 : z.1 o 9 = x.1 o 9 := fxz _ _ (by unfold sSt; omega)
  have z13 : z.1 60 13 = x.1 60 13 := fxz _ _ (by unfold sSt; omega)
  have e72 : (y.1 72 T).toInt = (q9.1 : Nat) := by rw [fy 72 T (by unfold sSt; omega)]; exact (hK.2.1.2 T q9 hth).1
  have z2 : rg z o T 2 = y.1 72 T := by rw [gz 2 (by rw [y9]; omega), if_pos rfl]
  have z0 : rg z o T 0 = 1 := by rw [gz 0 (by rw [y9]; omega), if_neg (by omega), gy 0 (by omega), if_pos rfl]
  have zu : ∀ k : Nat, ¬ k = 0 → ¬ k = 2 → (k : Int) < (x.1 o 9).toInt → rg z o T k = rg x o T k := fun k k0 k2 k9 => by rw [gz k (by rw [y9]; omega), if_neg k2, gy k (by omega), if_neg k0]
  have zv : sVx x z o T := sVx_tr hO fy wy wz
  obtain ⟨⟨st, s1, s2⟩, -⟩ := hN.2.1 q9 (List.mem_of_getElem? hth)
  have m13 := hM.1.1.2.2.2.1.1
  have zS : MS (rg z o) z o T := ⟨hz.1, hz.2.1, hz.2.2.1, fun _ _ _ _ => rfl⟩
  have zo : ∀ t k : Nat, t ≠ T → (k : Int) < (x.1 o 8).toInt → rg z o t k = rg x o t k := fun t k ht hk => hz.2.2.2 t k ht (by rw [z8]; exact hk)
  obtain ⟨q0, q1, q2, ⟨q3, q5, qw, -⟩, q4, q6, ⟨q7, ql⟩, qv, -⟩ := gT
  rw [if_pos hw0] at q3
  rw [if_neg (by omega)] at q5
  have hKz : CK z C := CK_St hO hK fxz
  refine kh_settleM (h := M.2.2 T) hq ho zS hKz hN (KMl_e hM.2.1 (fxz _ _ (by unfold sSt; omega)) (fxz _ _ (by unfold sSt; omega)) (lowE_tr hO fy ly lz) g.1 hM.1) (fun t' ht' hne => kTq_e hM.1 hM.2.1 (hM.2.2 t' (by omega)).1 z13 z9 (fun k hk => zo t' k hne hk) (g.2 t' ht')) hT _ et s1 (by rw [s2, z13]; exact m13) z0 (by rw [zu 1 (by omega) (by omega) (by omega), q1, hn]; rfl) (by rw [z2]; exact e72) (by rw [zu 3 (by omega) (by omega) (by omega)]; exact q3) (by rw [zu 5 (by omega) (by omega) (by omega)]; exact q5) hw0 (by rw [zu 4 (by omega) (by omega) (by omega)]; exact q4) (by rw [zu 6 (by omega) (by omega) (by omega)]; exact q6) ⟨by rw [zu 7 (by omega) (by omega) (by omega)]; exact q7, fun i p hp => ?_⟩ (fun p hp => by rw [s2] at hp; exact absurd hp (Nat.not_lt_zero _)) (fun w hw fw gw => rv_i (hF w hw (fm_tr fxz fw) gw))
  have hi := gt_lt hp
  have := (lt_in hM.1 hM.2.1 hA (i := i) (by rw [q7]; omega)).2
  rw [z9, zv _ (by omega) (by omega), zv _ (by omega) (by omega)]
  exact ql i p hp
/-- a late one comes -/
theorem kh_bring (hq : kV q) (ho : kiM q o) (hM : MM x o) (hK : CK x C) (g : KMm x o C M) {J : Nat} (t j : Int32) (et : t.toInt = T) (ej : j.toInt = J) (hT : T < C.2.1.length) (hJ : J < (M.2.2 T).2.2.2.2.2.2.1.length) (hF : ∀ y, MM y o → fm (sMk o) x y → y.1 (o + 20) = x.1 (o + 20) → KMm y o C (laM M T J) → Fv y) : KT G q (d + 2) zk_X5_bringLate 0 [(0, vr o), (1, vi t), (2, vi j)] [] x (rv Fv) := by
  have hO := kiM_O ho
  have nT : (x.1 60 10).toInt = C.2.1.length := hK.2.1.1
  have hT6 := MM_6 hM.1 (t := T) (by omega)
  have hA := (hM.2.2 T (by omega)).1
  obtain ⟨a1, a2, a3, a4, a5⟩ := (hM.2.2 T (by omega)).1
  obtain ⟨b1, b2, b3, b4, b5, b6, b7⟩ := MG_b hM.1 hM.2.1
  have c24 := hM.1.1.1
  have k1 : (1 : Int32).toInt = 1 := rfl
  have k0 : (0 : Int32).toInt = 0 := rfl
  have gT := g.2 T hT
  obtain ⟨q7, ql⟩ := gT.2.2.2.2.2.2.1
  obtain ⟨l, el⟩ : ∃ l, l = (M.2.2 T).2.2.2.2.2.2.1 := ⟨_, rfl⟩
  rw [← el] at q7 ql hJ
  have hJ7 : (J : Int) < (rg x o T 7).toInt := by omega
  obtain ⟨hw, -⟩ := lt_in hM.1 hM.2.1 hA hJ7
  have b5 := b5 hw
  obtain ⟨p, hp⟩ : ∃ p, l[J]? = some p := ⟨_, List.getElem?_eq_getElem hJ⟩
  obtain ⟨p1, p2⟩ := ql J p hp
  have hcell := a4 J hJ7
  have laE : laM M T J = upT (upC M p.1 p.2) T ((M.2.2 T).1, (M.2.2 T).2.1, (M.2.2 T).2.2.1, (M.2.2 T).2.2.2.1, (M.2.2 T).2.2.2.2.1, (M.2.2 T).2.2.2.2.2.1, l.eraseIdx J, (M.2.2 T).2.2.2.2.2.2.2) := by
    unfold laM
    rw [← el]
    simp only [hp]
  refine kg_X5_bringLate_0 hq ho _ _ (kp_lateCell hq ho hM.1 hM.2.1 _ _ et hT6 ej (by omega) (kh_lateValue hq ho hM.1 hM.2.1 _ _ et hT6 ej (by omega) ⟨by rw [vp_in_iff]; omega, fun x6 e6 => ?_⟩))
  have nc : (rg x o T ((x.1 o 9).toInt.toNat + 2 * J)).toNatClampNeg = p.1 := by rw [t_cl, p1]; rfl
  rw [nc, p2] at e6
  have r6 : ∀ t k, rg x6 o t k = rg x o t k := fun t k => rg_low hO (by omega) e6
  have f6 : fm (sSt o) x x6 := st_f e6
  have fM6 : fm (sMk o) x x6 := fm_w f6 (fun c k q => sSt_M q)
  have h6 : MM x6 o := MM_low hO hM fM6 r6
  have g6 : KMm x6 o C (upC M p.1 p.2) := KMm_c hO hM hK (by omega) e6 g
  have hK6 : CK x6 C := CK_M hO hK fM6
  have gS : ∀ {y : gd}, fm (sSt o) x y → y.1 o 9 = x.1 o 9 ∧ y.1 o 8 = x.1 o 8 ∧ y.1 o 3 = x.1 o 3 ∧ y.1 60 6 = x.1 60 6 ∧ y.1 60 10 = x.1 60 10 ∧ y.1 (o + 20) = x.1 (o + 20) := fun f => ⟨f _ _ (by unfold sSt; omega), f _ _ (by unfold sSt; omega), f _ _ (by unfold sSt; omega), f _ _ (by unfold sSt; omega), f _ _ (by unfold sSt; omega), funext (fun k => f _ _ (by unfold sSt; omega))⟩
  refine kp_get hq ho h6.1 h6.2.1 _ _ et (show (7 : Int32).toInt = ((7 : Nat) : Int) from rfl) hT6 (by omega) ?_
  rw [r6]
  obtain ⟨L, eL⟩ : ∃ L, L = rg x o T 7 - 1 := ⟨_, rfl⟩
  have iL : L.toInt = (rg x o T 7).toInt - 1 := by rw [eL, t_sub (by rw [k1]; omega) (by rw [k1]; omega), k1]
  rw [← eL]
  -- rows below K are moved
  have loop : ∀ (n : Nat) (k : Int32) {K : Nat} (y : gd), k.toInt = K → J ≤ K → (K : Int) ≤ L.toInt → L.toInt - K ≤ n → MM y o → fm (sSt o) x6 y → lowE x6 y o → (∀ t k : Nat, (k : Int) < (x.1 o 8).toInt → rg y o t k = if t = T ∧ (x.1 o 9).toInt.toNat + 2 * J ≤ k ∧ k < (x.1 o 9).toInt.toNat + 2 * K then rg x o T (k + 2) else rg x o t k) → KT G q (d + 2) zk_X5_bringLate 30 [(0, vr o), (1, vi t), (3, vi L), (4, vi k)] [] y (rv Fv) := by
    have fin : ∀ (y : gd), MM y o → fm (sSt o) x6 y → lowE x6 y o → (∀ t k : Nat, (k : Int) < (x.1 o 8).toInt → rg y o t k = if t = T ∧ (x.1 o 9).toInt.toNat + 2 * J ≤ k ∧ k < (x.1 o 9).toInt.toNat + 2 * L.toInt.toNat then rg x o T (k + 2) else rg x o t k) → KT G q (d + 1) zk_X5_setLate 0 [(0, vr o), (1, vi t), (2, vi L), (3, vi 0), (4, vi 0)] [] y (rv (fun x2 => KT G q (d + 1) zk_X5_set 0 [(0, vr o), (1, vi t), (2, vi 7), (3, vi L)] [] x2 (rv (fun x3 => rv Fv none x3)))) := by
      intro y hy fy6 ly gy
      have fy : fm (sSt o) x y := fm_tr f6 fy6
      obtain ⟨s9, s8, s3, s6, s10, s20⟩ := gS fy
      refine kh_setLate hq ho hy (by rw [s3]; exact hw) _ _ _ _ et (show L.toInt = ((L.toInt.toNat : Nat) : Int) by omega) hT6 (by omega) (by rw [s6, k0]; omega) (fun z hz fz lz gz => ?_)
      obtain ⟨z9, z8, z3, z6, z10, z20⟩ := gS (fm_tr fy fz)
      rw [s8, s9] at gz
      have au : ∀ t k : Nat, (k : Int) < (x.1 o 8).toInt → rg z o t k = if t = T ∧ (x.1 o 9).toInt.toNat + 2 * J ≤ k ∧ k < (x.1 o 9).toInt.toNat + 2 * L.toInt.toNat then rg x o T (k + 2) else if t = T ∧ ((x.1 o 9).toInt.toNat + 2 * L.toInt.toNat = k ∨ (x.1 o 9).toInt.toNat + 2 * L.toInt.toNat + 1 = k) then 0 else rg x o t k := fun t k hk => by
        rw [gz t k hk]
        by_cases c1 : t = T ∧ k = (x.1 o 9).toInt.toNat + 2 * L.toInt.toNat
        · rw [if_pos c1, if_neg (fun z => by omega), if_pos ⟨c1.1, Or.inl c1.2.symm⟩]
        · rw [if_neg c1]
          by_cases c2 : t = T ∧ k = (x.1 o 9).toInt.toNat + 2 * L.toInt.toNat + 1
          · rw [if_pos c2, if_neg (fun z => by omega), if_pos ⟨c2.1, Or.inr c2.2.symm⟩]
          · rw [if_neg c2, gy t k hk]
            by_cases c3 : t = T ∧ (x.1 o 9).toInt.toNat + 2 * J ≤ k ∧ k < (x.1 o 9).toInt.toNat + 2 * L.toInt.toNat
            · rw [if_pos c3, if_pos c3]
            · rw [if_neg c3, if_neg c3, if_neg (fun z => by omega)]
      have z7 : rg z o T 7 = rg x o T 7 := by rw [au T 7 (by omega), if_neg (fun z => by omega), if_neg (fun z => by omega)]
      have hz4 := (hz.2.2 T (by rw [z10]; omega)).1.2.2.2.1
      refine kh_seta (S := fun _ => False) hq ho hz _ _ _ et (show (7 : Int32).toInt = ((7 : Nat) : Int) from rfl) hT6 (by rw [z8]; omega) ⟨by omega, by omega⟩ (fun q => by omega) (fun _ => ⟨by omega, fun c => absurd (by rw [z3]; exact hw) c, fun i hi => hz4 i (by rw [z7]; omega)⟩) (fun i hi q => by rw [z9] at q; omega) (fun u hu fu lu gu => rv_i ?_)
      have fxu : fm (sSt o) x u := fm_tr (fm_tr fy fz) fu
      have fMu : fm (sMk o) x6 u := fm_w (fm_tr (fm_tr fy6 fz) fu) (fun c k q => sSt_M q)
      obtain ⟨u9, u8, u3, u6, u10, u20⟩ := gS fxu
      refine hF u hu.1 (fm_w fxu (fun c k q => sSt_M q)) u20 ?_
      rw [laE]
      rw [z8] at gu
      have bu : ∀ t k : Nat, (k : Int) < (x.1 o 8).toInt → rg u o t k = if t = T ∧ k = 7 then L else rg z o t k := gu
      have l6u : lowE x6 u o := fun j hj => by
        rw [lu j (by rw [(fm_tr fy6 fz) o 7 (by unfold sSt; omega)]; exact hj), lz j (by rw [fy6 o 7 (by unfold sSt; omega)]; exact hj), ly j hj]
      refine KMm_T hO h6 hK6 fMu l6u (fun t' k ht hk => ?_) g6 ?_
      · rw [f6 o 8 (by unfold sSt; omega)] at hk
        rw [bu t' k hk, if_neg (fun z => ht z.1), au t' k hk, if_neg (fun z => ht z.1), if_neg (fun z => ht z.1), r6]
      · have e' : ∀ k : Nat, ¬ k = 7 → (k : Int) < (x.1 o 9).toInt → rg u o T k = rg x o T k := fun k k7 k9 => by rw [bu T k (by omega), if_neg (fun z => k7 z.2), au T k (by omega), if_neg (fun z => by omega), if_neg (fun z => by omega)]
        have u13 : u.1 60 13 = x.1 60 13 := fxu _ _ (by unfold sSt; omega)
        obtain ⟨⟨v0, v0'⟩, v1, v2, ⟨v3, v5, vw⟩, v4, v6, -, vv, vk⟩ := gT
        refine ⟨⟨by rw [e' 0 (by omega) (by omega)]; exact v0, v0'⟩, by rw [e' 1 (by omega) (by omega)]; exact v1, by rw [e' 2 (by omega) (by omega)]; exact v2, ⟨by rw [e' 3 (by omega) (by omega)]; exact v3, by rw [e' 5 (by omega) (by omega)]; exact v5, vw⟩, by rw [e' 4 (by omega) (by omega)]; exact v4, by rw [e' 6 (by omega) (by omega)]; exact v6, ⟨?_, fun i p' hp' => ?_⟩, fun p' hp' => ?_, by rw [u13]; exact vk⟩
        · show _ = ((l.eraseIdx J).length : Int)
          rw [bu T 7 (by omega), if_pos ⟨rfl, rfl⟩, iL, List.length_eraseIdx_of_lt hJ]
          omega
        · have hp' : (l.eraseIdx J)[i]? = some p' := hp'
          have hi := gt_lt hp'
          rw [List.length_eraseIdx_of_lt hJ] at hi
          rw [List.getElem?_eraseIdx] at hp'
          rw [u9, bu T _ (by omega), if_neg (fun z => by omega), bu T _ (by omega), if_neg (fun z => by omega), au T _ (by omega), au T _ (by omega)]
          by_cases ci : i < J
          · rw [if_pos ci] at hp'
            rw [if_neg (fun z => by omega), if_neg (fun z => by omega), if_neg (fun z => by omega), if_neg (fun z => by omega)]
            exact ql i p' hp'
          · rw [if_neg ci] at hp'
            rw [if_pos ⟨rfl, by omega, by omega⟩, if_pos ⟨rfl, by omega, by omega⟩]
            have := ql (i + 1) p' hp'
            rw [show (x.1 o 9).toInt.toNat + 2 * i + 2 = (x.1 o 9).toInt.toNat + 2 * (i + 1) by omega, show (x.1 o 9).toInt.toNat + 2 * i + 1 + 2 = (x.1 o 9).toInt.toNat + 2 * (i + 1) + 1 by omega]
            exact this
        · rw [u13] at hp'
          rw [e' _ (by omega) (by push_cast; omega)]; exact vv p' hp'
    intro n
    induction n with
    | zero =>
      intro k K y ek hJK hk1 hk2 hy fy ly gy
      have eK : K = L.toInt.toNat := by omega
      rw [eK] at gy
      refine kg_X5_bringLate_30 hq ho _ _ _ ⟨fun _ => fin y hy fy ly gy, fun c => ?_⟩
      exfalso; rw [t_le] at c; omega
    | succ n ih =>
      intro k K y ek hJK hk1 hk2 hy fy6 ly gy
      refine kg_X5_bringLate_30 hq ho _ _ _ ⟨fun c => fin y hy fy6 ly ?_, fun c => ?_⟩
      · rw [t_le] at c
        have eK : K = L.toInt.toNat := by omega
        rw [eK] at gy; exact gy
      rw [t_le] at c
      have fy : fm (sSt o) x y := fm_tr f6 fy6
      obtain ⟨s9, s8, s3, s6, s10, s20⟩ := gS fy
      have ek1 : (k + 1).toInt = ((K + 1 : Nat) : Int) := by rw [t_add (by rw [k1]; omega) (by rw [k1]; omega), ek]; rfl
      have y7 : rg y o T 7 = rg x o T 7 := by rw [gy T 7 (by omega), if_neg (fun z => by omega)]
      have hy4 := (hy.2.2 T (by rw [s10]; omega)).1.2.2.2.1 (K + 1) (by rw [y7]; push_cast; omega)
      have v1 : rg y o T ((x.1 o 9).toInt.toNat + 2 * (K + 1)) = rg x o T ((x.1 o 9).toInt.toNat + 2 * (K + 1)) := by rw [gy T _ (by omega), if_neg (fun z => by omega)]
      have v2 : rg y o T ((x.1 o 9).toInt.toNat + 2 * (K + 1) + 1) = rg x o T ((x.1 o 9).toInt.toNat + 2 * (K + 1) + 1) := by rw [gy T _ (by omega), if_neg (fun z => by omega)]
      refine kp_lateCell hq ho hy.1 hy.2.1 _ _ et hT6 ek1 (by omega) (kh_lateValue hq ho hy.1 hy.2.1 _ _ et hT6 ek1 (by omega) (kh_setLate hq ho hy (by rw [s3]; exact hw) _ _ _ _ et ek hT6 (by omega) hy4 (fun z hz fz lz gz => ih (k + 1) z ek1 (by omega) (by push_cast; omega) (by push_cast; omega) hz (fm_tr fy6 fz) (lowE_tr hO fy6 ly lz) (fun t' k' hk' => ?_))))
      rw [s8, s9] at gz
      rw [gz t' k' hk', v1, v2]
      by_cases c1 : t' = T ∧ k' = (x.1 o 9).toInt.toNat + 2 * K
      · rw [if_pos c1, if_pos ⟨c1.1, by omega, by omega⟩, c1.2]
        rfl
      · rw [if_neg c1]
        by_cases c2 : t' = T ∧ k' = (x.1 o 9).toInt.toNat + 2 * K + 1
        · rw [if_pos c2, if_pos ⟨c2.1, by omega, by omega⟩, c2.2]
          rfl
        · rw [if_neg c2, gy t' k' hk']
          by_cases c3 : t' = T ∧ (x.1 o 9).toInt.toNat + 2 * J ≤ k' ∧ k' < (x.1 o 9).toInt.toNat + 2 * K
          · rw [if_pos c3, if_pos ⟨c3.1, c3.2.1, by omega⟩]
          · rw [if_neg c3, if_neg (fun z => by omega)]
  refine loop 8 _ x6 ej (Nat.le_refl _) (by omega) (by omega) h6 (fm_rf _ _) (fun _ _ => rfl) (fun t' k' hk' => ?_)
  rw [r6, if_neg (fun z => by omega)]
end KMF
end
