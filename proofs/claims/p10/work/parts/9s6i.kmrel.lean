/-! the class's machine holds the machine's state -/
def kTq (x : gd) (o : Nat) (C : gCo) (t : Nat) (h : gTq) : Prop :=
  (rg x o t 0 = Int32.ofNat h.1 ∧ h.1 ≤ 3) ∧ rg x o t 1 = Int32.ofNat h.2.1 ∧ (rg x o t 2).toInt = (h.2.2.1 : Nat) ∧
  (rg x o t 3 = (if h.2.2.2.1 = 0 then 0 else (stN C h.2.2.1).2.2.2.2.1 + 1) ∧ rg x o t 5 = (if h.2.2.2.1 = 2 then 1 else 0) ∧ h.2.2.2.1 ≤ 2 ∧ (¬ h.2.2.2.1 = 0 → (stN C h.2.2.1).1 = 7)) ∧
  rg x o t 4 = h.2.2.2.2.1 ∧ rg x o t 6 = h.2.2.2.2.2.1 + 1 ∧
  ((rg x o t 7).toInt = (h.2.2.2.2.2.2.1.length : Nat) ∧ ∀ i p, h.2.2.2.2.2.2.1[i]? = some p → (rg x o t ((x.1 o 9).toInt.toNat + 2 * i)).toInt = (p.1 : Nat) ∧ rg x o t ((x.1 o 9).toInt.toNat + 2 * i + 1) = p.2) ∧
  (∀ p : Nat, (p : Int) < (x.1 60 13).toInt → rg x o t (8 + p) = h.2.2.2.2.2.2.2 p) ∧
  (h.1 = 1 ∨ h.1 = 3 → ((stN C h.2.2.1).2.1.length : Int) ≤ (x.1 60 13).toInt)
/-- cells and locks -/
def KMl (x : gd) (o : Nat) (M : gMa) : Prop := (∀ c : Nat, (c : Int) < (x.1 60 6).toInt → x.1 (o + 5) c = M.1 c) ∧ ∀ l : Nat, (l : Int) < (x.1 60 9).toInt → x.1 (o + 5) ((x.1 60 6).toInt.toNat + 2 * l) = Int32.ofNat (M.2.1 l).1 ∧ (M.2.1 l).1 ≤ 6 ∧ x.1 (o + 5) ((x.1 60 6).toInt.toNat + 2 * l + 1) = (M.2.1 l).2
def KMm (x : gd) (o : Nat) (C : gCo) (M : gMa) : Prop := KMl x o M ∧ ∀ t, t < C.2.1.length → kTq x o C t (M.2.2 t)
section KMR
variable {G : kG} {q : kP} {d : Nat} {x x0 y z : gd} {o : Nat} {F : Int32 → gd → Prop} {Fv : gd → Prop} {C : gCo} {M : gMa} {h h' : gTq} {t T : Nat}
theorem sM_e (hO : o = 120 ∨ o = 220) (f : fm (sMk o) x y) : y.1 60 6 = x.1 60 6 ∧ y.1 60 9 = x.1 60 9 ∧ y.1 60 13 = x.1 60 13 ∧ y.1 o 9 = x.1 o 9 ∧ y.1 o 8 = x.1 o 8 ∧ y.1 o 7 = x.1 o 7 ∧ y.1 60 10 = x.1 60 10 := ⟨f _ _ (by unfold sMk; omega), f _ _ (by unfold sMk; omega), f _ _ (by unfold sMk; omega), f _ _ (by unfold sMk; omega), f _ _ (by unfold sMk; omega), f _ _ (by unfold sMk; omega), f _ _ (by unfold sMk; omega)⟩
theorem CK_M (hO : o = 120 ∨ o = 220) (hK : CK x C) (f : fm (sMk o) x y) : CK y C := CK_f hK (fun c k hc => f c k (by unfold sMk; omega))
/-- its late ones lie within the row -/
theorem lt_in (hC : CO x) (hG : MG x o) (hA : TA x o t) {i : Nat} (hi : (i : Int) < (rg x o t 7).toInt) : x.1 o 3 = 1 ∧ (((x.1 o 9).toInt.toNat + 2 * i + 1 : Nat) : Int) < (x.1 o 8).toInt := by
  obtain ⟨b1, b2, b3, b4, b5, -⟩ := MG_b hC hG
  have k0 : (0 : Int32).toInt = 0 := rfl
  have hw : x.1 o 3 = 1 := by
    by_cases hw : x.1 o 3 = 1
    · exact hw
    · have := hA.2.2.1 hw
      rw [this, k0] at hi; omega
  have := b5 hw
  have := hA.2.1
  exact ⟨hw, by omega⟩
theorem kTq_e (hC : CO x) (hG : MG x o) (hA : TA x o t) (e13 : y.1 60 13 = x.1 60 13) (e9 : y.1 o 9 = x.1 o 9) (e : ∀ k : Nat, (k : Int) < (x.1 o 8).toInt → rg y o t k = rg x o t k) (g : kTq x o C t h) : kTq y o C t h := by
  obtain ⟨b1, b2, b3, b4, b5, b6, b7⟩ := MG_b hC hG
  obtain ⟨⟨q0, q0'⟩, q1, q2, ⟨q3, q5, qw⟩, q4, q6, ⟨q7, ql⟩, qv, qk⟩ := g
  refine ⟨⟨by rw [e 0 (by omega)]; exact q0, q0'⟩, by rw [e 1 (by omega)]; exact q1, by rw [e 2 (by omega)]; exact q2, ⟨by rw [e 3 (by omega)]; exact q3, by rw [e 5 (by omega)]; exact q5, qw⟩, by rw [e 4 (by omega)]; exact q4, by rw [e 6 (by omega)]; exact q6, ⟨by rw [e 7 (by omega)]; exact q7, fun i p hp => ?_⟩, fun p hp => ?_, by rw [e13]; exact qk⟩
  · have hi := gt_lt hp
    have := (lt_in hC hG hA (i := i) (by rw [q7]; omega)).2
    rw [e9, e _ (by omega), e _ (by omega)]; exact ql i p hp
  · rw [e13] at hp; rw [e _ (by push_cast; omega)]; exact qv p hp
theorem KMl_e (hG : MG x o) (f6 : y.1 60 6 = x.1 60 6) (f9 : y.1 60 9 = x.1 60 9) (l : lowE x y o) (g : KMl x o M) (hC : CO x) : KMl y o M := by
  obtain ⟨g1, g2, g3, -⟩ := hG
  have c1 := hC.1.1
  have c2 := hC.1.2.1
  refine ⟨fun c hc => ?_, fun l' hl => ?_⟩
  · rw [f6] at hc; rw [l c (by omega)]; exact g.1 c hc
  · rw [f9] at hl
    rw [f6, l _ (by omega), l _ (by omega)]; exact g.2 l' hl
/-- nothing of the row changes -/
theorem KMm_fr (hO : o = 120 ∨ o = 220) (hM : MM x o) (hK : CK x C) (f6 : y.1 60 6 = x.1 60 6) (f9 : y.1 60 9 = x.1 60 9) (e13 : y.1 60 13 = x.1 60 13) (e9 : y.1 o 9 = x.1 o 9) (l : lowE x y o) (e : ∀ t k, rg y o t k = rg x o t k) (g : KMm x o C M) : KMm y o C M := by
  have nT : (x.1 60 10).toInt = C.2.1.length := hK.2.1.1
  exact ⟨KMl_e hM.2.1 f6 f9 l g.1 hM.1, fun t ht => kTq_e hM.1 hM.2.1 (hM.2.2 t (by omega)).1 e13 e9 (fun k _ => e t k) (g.2 t ht)⟩
/-- a thread's fields change -/
theorem KMm_T (hO : o = 120 ∨ o = 220) (hM : MM x o) (hK : CK x C) (f : fm (sMk o) x y) (l : lowE x y o) (e : ∀ t k : Nat, t ≠ T → (k : Int) < (x.1 o 8).toInt → rg y o t k = rg x o t k) (g : KMm x o C M) (g' : kTq y o C T h') : KMm y o C (upT M T h') := by
  have nT : (x.1 60 10).toInt = C.2.1.length := hK.2.1.1
  obtain ⟨f6, f9, e13, e9, -⟩ := sM_e hO f
  refine ⟨KMl_e hM.2.1 f6 f9 l g.1 hM.1, fun t ht => ?_⟩
  show kTq y o C t (upf M.2.2 T h' t)
  unfold upf
  by_cases c : t = T
  · rw [if_pos c, c]; exact g'
  · rw [if_neg c]; exact kTq_e hM.1 hM.2.1 (hM.2.2 t (by omega)).1 e13 e9 (fun k hk => e t k c hk) (g.2 t ht)
/-- a cell is written -/
theorem KMm_c (hO : o = 120 ∨ o = 220) (hM : MM x o) (hK : CK x C) {c : Nat} {v : Int32} (hc : (c : Int) < (x.1 60 6).toInt) (ey : y = si x (o + 5) c v) (g : KMm x o C M) : KMm y o C (upC M c v) := by
  have nT : (x.1 60 10).toInt = C.2.1.length := hK.2.1.1
  obtain ⟨g1, g2, g3, -⟩ := hM.2.1
  have c2 := hM.1.1.2.1
  have f : ∀ c' k, c' ≠ o + 5 → y.1 c' k = x.1 c' k := fun c' k hc' => by rw [ey, si_cell hc']
  have r : ∀ t k, rg y o t k = rg x o t k := fun t k => rg_low hO (by omega) ey
  refine ⟨⟨fun c' hc' => ?_, fun l hl => ?_⟩, fun t ht => kTq_e hM.1 hM.2.1 (hM.2.2 t (by omega)).1 (f _ _ (by omega)) (f _ _ (by omega)) (fun k _ => r t k) (g.2 t ht)⟩
  · rw [f 60 6 (by omega)] at hc'
    rw [ey, si_get]
    show _ = upf M.1 c v c'
    unfold upf
    by_cases e : c' = c
    · rw [if_pos ⟨rfl, e⟩, if_pos e]
    · rw [if_neg (fun z => e z.2), if_neg e]; exact g.1.1 c' hc'
  · rw [f 60 9 (by omega)] at hl
    rw [f 60 6 (by omega), ey, si_get, if_neg (fun z => by have := z.2; omega), si_get, if_neg (fun z => by have := z.2; omega)]
    exact g.1.2 l hl
theorem AR_KM {S : Nat → Prop} (hO : o = 120 ∨ o = 220) (hM : MM x o) (hK : CK x C) (a : AR S x y o) (l : lowE x y o) (e : ∀ t k, rg y o t k = rg x o t k) (g : KMm x o C M) : KMm y o C M := by
  obtain ⟨f6, f9, e13, e9, -⟩ := sM_e hO a.2.1
  exact KMm_fr hO hM hK f6 f9 e13 e9 l e g
/-- a lock is set -/
theorem kh_setLock {S : Nat → Prop} (hq : kV q) (ho : kiM q o) (hM : MM x o) (hK : CK x C) (g : KMm x o C M) (l a b : Int32) {L n : Nat} (eL : l.toInt = L) (hl : (L : Int) < (x.1 60 9).toInt) (ha : a + 1 = Int32.ofNat n) (hn : n ≤ 6) (hF : ∀ y, AR S x y o → (∀ t k, rg y o t k = rg x o t k) → KMm y o C (upL M L (n, b)) → Fv y) : KT G q d zk_X5_setLock 0 [(0, vr o), (1, vi l), (2, vi a), (3, vi b)] [] x (rv Fv) := by
  have nT : (x.1 60 10).toInt = C.2.1.length := hK.2.1.1
  have hO := kiM_O ho
  obtain ⟨e1, e2, e3, e4, e5⟩ := lk_ix hM.1 hM.2.1 (l := l) (by omega) (by omega)
  have c1 := hM.1.1.1
  refine kg_X5_setLock_0 hq ho _ _ _ ⟨by rw [vp_in_iff]; omega, fun x2 f2 => ?_⟩
  have q6 : x2.1 o 6 = x.1 o 6 := by rw [f2, si_cell (by omega)]
  have q7 : x2.1 o 7 = x.1 o 7 := by rw [f2, si_cell (by omega)]
  rw [q6]
  refine ⟨by rw [vp_in_iff]; omega, fun z fz => rv_i ?_⟩
  have n1 : (x.1 o 6 + 2 * l).toNatClampNeg = (x.1 60 6).toInt.toNat + 2 * L := by rw [t_cl, e1]; omega
  have n2 : (x.1 o 6 + 2 * l + 1).toNatClampNeg = (x.1 60 6).toInt.toNat + 2 * L + 1 := by rw [t_cl, e2]; omega
  rw [n1] at f2
  rw [n2] at fz
  have r : ∀ t k, rg z o t k = rg x o t k := fun t k => by
    rw [rg_low hO (j := (x.1 60 6).toInt.toNat + 2 * L + 1) (by rw [q7]; omega) fz, rg_low hO (by omega) f2]
  have fr : fm (fun c k => c = o + 5) x z := by rw [fz, f2]; exact fm_si (fm_si (fm_rf _ _) rfl) rfl
  have ar : AR S x z o := AR_row hO hM fr r
  have f : ∀ c' k, c' ≠ o + 5 → z.1 c' k = x.1 c' k := fun c' k hc' => fr _ _ hc'
  have gt : ∀ j, z.1 (o + 5) j = if j = (x.1 60 6).toInt.toNat + 2 * L + 1 then b else if j = (x.1 60 6).toInt.toNat + 2 * L then a + 1 else x.1 (o + 5) j := fun j => by
    rw [fz, si_get]
    by_cases c : j = (x.1 60 6).toInt.toNat + 2 * L + 1
    · rw [if_pos ⟨rfl, c⟩, if_pos c]
    · rw [if_neg (fun z => c z.2), if_neg c, f2, si_get]
      by_cases c' : j = (x.1 60 6).toInt.toNat + 2 * L
      · rw [if_pos ⟨rfl, c'⟩, if_pos c']
      · rw [if_neg (fun z => c' z.2), if_neg c']
  refine hF z ar r ⟨⟨fun c' hc' => ?_, fun l' hl' => ?_⟩, fun t ht => kTq_e hM.1 hM.2.1 (hM.2.2 t (by omega)).1 (f _ _ (by omega)) (f _ _ (by omega)) (fun k _ => r t k) (g.2 t ht)⟩
  · rw [f 60 6 (by omega)] at hc'
    rw [gt, if_neg (by omega), if_neg (by omega)]; exact g.1.1 c' hc'
  · rw [f 60 9 (by omega)] at hl'
    rw [f 60 6 (by omega), gt, gt]
    show _ = Int32.ofNat (upf M.2.1 L (n, b) l').1 ∧ (upf M.2.1 L (n, b) l').1 ≤ 6 ∧ _ = (upf M.2.1 L (n, b) l').2
    unfold upf
    by_cases c : l' = L
    · rw [if_pos c, if_neg (by omega), if_pos (by omega), if_pos (by omega)]; exact ⟨ha, hn, rfl⟩
    · rw [if_neg c, if_neg (by omega), if_neg (by omega), if_neg (by omega), if_neg (by omega)]; exact g.1.2 l' hl'
theorem kh_holder (hq : kV q) (ho : kiM q o) (hM : MM x o) (g : KMm x o C M) (l : Int32) {L : Nat} (eL : l.toInt = L) (hl : (L : Int) < (x.1 60 9).toInt) (h : F (Int32.ofNat (M.2.1 L).1 - 1) x) : KT G q d zk_X5_holder 0 [(0, vr o), (1, vi l)] [] x (ri F) := by
  obtain ⟨e1, e2, e3, e4, e5⟩ := lk_ix hM.1 hM.2.1 (l := l) (by omega) (by omega)
  have c1 := hM.1.1.1
  refine kg_X5_holder_0 hq ho _ ⟨by rw [vp_in_iff]; omega, ri_i ?_⟩
  have n1 : (x.1 o 6 + 2 * l).toNatClampNeg = (x.1 60 6).toInt.toNat + 2 * L := by rw [t_cl, e1]; omega
  rw [n1, (g.1.2 L hl).1]; exact h
theorem kh_often (hq : kV q) (ho : kiM q o) (hM : MM x o) (g : KMm x o C M) (l : Int32) {L : Nat} (eL : l.toInt = L) (hl : (L : Int) < (x.1 60 9).toInt) (h : F (M.2.1 L).2 x) : KT G q d zk_X5_often 0 [(0, vr o), (1, vi l)] [] x (ri F) := by
  obtain ⟨e1, e2, e3, e4, e5⟩ := lk_ix hM.1 hM.2.1 (l := l) (by omega) (by omega)
  have c1 := hM.1.1.1
  refine kg_X5_often_0 hq ho _ ⟨by rw [vp_in_iff]; omega, ri_i ?_⟩
  have n2 : (x.1 o 6 + 2 * l + 1).toNatClampNeg = (x.1 60 6).toInt.toNat + 2 * L + 1 := by rw [t_cl, e2]; omega
  rw [n2, (g.1.2 L hl).2.2]; exact h
/-- a lock's holder is nobody, or this thread -/
theorem hol_n : ∀ h, h < 7 → (Int32.ofNat h - 1 = -1 ↔ h = 0) := by decide +kernel
theorem kw_i (hA : TA x o t) (g : kTq x o C t h) : rg x o t 0 = 1 ↔ h.1 = 1 := by
  obtain ⟨⟨q0, q0'⟩, -⟩ := g
  have s : ∀ n, n < 4 → (Int32.ofNat n = 1 ↔ n = 1) := by decide +kernel
  rw [q0]; exact s _ (by omega)
end KMR
