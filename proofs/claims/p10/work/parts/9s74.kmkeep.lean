/-! the class: a state is added -/
/-- what the memory holds of a trying: states, whence they come, whether it is partly -/
def KX3 (C : gCo) (nl w : Nat) (x : gd) (o : Nat) (T : gTy) : Prop := ((x.1 o 0).toInt = (T.1.length : Nat) ∧ x.1 o 1 = if T.2 = true then 1 else 0) ∧ (∀ s p, T.1[s]? = some p → KPs C nl w x s p.1) ∧ TBx x T.1.length ∧ ∀ s p, T.1[s]? = some p → (s = 0 → (x.1 (o + 12) 0).toInt = 0) ∧ (0 < s → p.2.1 < s ∧ (x.1 (o + 10) s).toInt = (p.2.1 : Nat) ∧ (x.1 (o + 11) s).toInt = (p.2.2 : Nat) ∧ (x.1 (o + 12) s).toInt = (x.1 (o + 12) p.2.1).toInt + 1)
theorem cnt_ins {f g : Nat → Bool} {J : Nat} (h : ∀ j, ¬ j = J → g j = f j) : ∀ m, (List.range m).countP g ≤ (List.range m).countP f + (if J < m then 1 else 0) := by
  intro m
  induction m with
  | zero => exact Nat.le_add_right _ _
  | succ m ih =>
    rw [List.range_succ, List.countP_append, List.countP_append, List.countP_singleton, List.countP_singleton]
    by_cases c : m = J
    · rw [if_neg (by omega)] at ih
      have e1 : (if J < m + 1 then 1 else 0) = 1 := if_pos (by omega)
      have : (if g m = true then 1 else 0) ≤ 1 := by split <;> omega
      omega
    · rw [h m c]
      have : (if J < m then 1 else 0) ≤ (if J < m + 1 then 1 else 0) := by
        split
        · rw [if_pos (by omega)]; exact Nat.le_refl _
        · exact Nat.zero_le _
      omega
section KEP
variable {G : kG} {q : kP} {d : Nat} {x y z : gd} {F : Int32 → gd → Prop} {Fv : gd → Prop} {Fm : gd → kP → Prop} {X : String → gd → kP → Prop} {C : gCo} {M : gMa} {T : gTy} {nl w n s o : Nat}
theorem TB_ins (hT : TBx x n) {J : Nat} (hJ : J < 8192) (h0 : x.1 205 J = 0) (y4 : ∀ s, s < n → y.1 204 s = x.1 204 s) (yJ : (y.1 205 J).toInt = (n : Int) + 1) (y5 : ∀ j, ¬ j = J → y.1 205 j = x.1 205 j) (hp : ∃ p, p < 8192 ∧ J = ((y.1 204 n &&& 8191).toNatClampNeg + p) % 8192 ∧ ∀ i, i < p → ¬ x.1 205 (((y.1 204 n &&& 8191).toNatClampNeg + i) % 8192) = 0) : TBx y (n + 1) := by
  obtain ⟨t1, t2, t3⟩ := hT
  have k0 : (0 : Int32).toInt = 0 := rfl
  have nz : ∀ j, ¬ x.1 205 j = 0 → ¬ y.1 205 j = 0 := fun j hj => by
    rw [y5 j (fun e => hj (by rw [e]; exact h0))]; exact hj
  refine ⟨fun j hj => ?_, fun s hs => ?_, ?_⟩
  · by_cases c : j = J
    · rw [c, yJ]; omega
    · rw [y5 j c]
      have := t1 j hj
      omega
  · by_cases c : s = n
    · rw [c]
      obtain ⟨p, p1, p2, p3⟩ := hp
      exact ⟨p, p1, by rw [← p2]; exact yJ, fun i hi => nz _ (p3 i hi)⟩
    · obtain ⟨p, p1, p2, p3⟩ := t2 s (by omega)
      rw [y4 s (by omega)]
      refine ⟨p, p1, ?_, fun i hi => nz _ (p3 i hi)⟩
      rw [y5 _ (fun e => ?_)]
      · exact p2
      · rw [e, h0, k0] at p2; omega
  · have := cnt_ins (f := fun j => decide (¬ x.1 205 j = 0)) (g := fun j => decide (¬ y.1 205 j = 0)) (J := J) (fun j hj => by show decide _ = decide _; rw [y5 j hj]) 8192
    have : (if J < 8192 then 1 else 0) ≤ 1 := by split <;> omega
    omega
theorem pz7 (hM : MM x 220) {j : Nat} (hj : (j : Int) < (x.1 220 7).toInt) : (j : Int) < (x.1 220 5).toInt := by
  obtain ⟨b1, b2, b3, b4, b5, b6, b7⟩ := MG_b hM.1 hM.2.1
  have t6 := hM.1.1.2.2.1
  have g6 := hM.2.1.2.2.2.2.2
  have : 0 ≤ (x.1 220 8).toInt * (x.1 60 10).toInt := Int.mul_nonneg (by omega) (by omega)
  omega
theorem pzT (hM : MM x 220) {t k : Nat} (ht : (t : Int) < (x.1 60 10).toInt) (hk : k < usN x 220 t) : (pa x 220 t k : Int) < (x.1 220 5).toInt := by
  obtain ⟨b1, b2, b3, b4, b5, b6, b7⟩ := MG_b hM.1 hM.2.1
  refine pa_lt hM.2.1 ht ?_ (by omega)
  have hA := (hM.2.2 t ht).1
  unfold usN at hk
  by_cases c0 : (rg x 220 t 7).toInt = 0
  · omega
  · have := (lt_in hM.1 hM.2.1 hA (i := (rg x 220 t 7).toInt.toNat - 1) (by have := hA.2.1; omega)).2
    have := hA.2.1
    omega
theorem rw_in (hM : MM x 220) (hr : ∀ k : Nat, (k : Int) < (x.1 220 5).toInt → y.1 (220 + 5) k = x.1 (220 + 5) k) : rwS x 220 (y.1 (220 + 5)) := ⟨fun j hj => (hr j (pz7 hM hj)).symm, fun t k ht hk => (hr _ (pzT hM ht hk)).symm⟩
theorem KMm_in (hM : MM x 220) (hK : CK x C) (e : gmE x y 220) (hr : ∀ k : Nat, (k : Int) < (x.1 220 5).toInt → y.1 (220 + 5) k = x.1 (220 + 5) k) (g : KMm x 220 C M) : KMm y 220 C M := by
  have nT : (x.1 60 10).toInt = C.2.1.length := hK.2.1.1
  obtain ⟨b1, b2, b3, b4, b5, b6, b7⟩ := MG_b hM.1 hM.2.1
  refine ⟨KMl_e hM.2.1 e.1.1 e.1.2.1 (fun j hj => hr j (pz7 hM hj)) g.1 hM.1, fun t ht => kTq_e hM.1 hM.2.1 (hM.2.2 t (by omega)).1 e.1.2.2.2 e.2.2.2 (fun k hk => ?_) (g.2 t ht)⟩
  unfold rg
  rw [gm_pa e]
  exact hr _ (pa_lt hM.2.1 (by omega) hk (by omega))
theorem gm_ag (hc : agC x y) (hm : agM 220 x y) : gmE x y 220 := ⟨⟨hc _ _ (by omega), hc _ _ (by omega), hc _ _ (by omega), hc _ _ (by omega)⟩, hm _ (by omega) (by omega), hm _ (by omega) (by omega), hm _ (by omega) (by omega)⟩
theorem kpm_get (x : gd) (s k : Nat) (hk : (k : Int) < (x.1 220 5).toInt) : (kpM x s).1 (220 + 5) k = x.1 (1000 + s) k := by
  unfold kpM
  rw [scp_get, if_pos ⟨rfl, by omega, by rw [t_cl]; omega⟩, Nat.sub_zero, Nat.zero_add]
theorem kp_ag (hc : agC x y) (hm : agM 220 x y) : agC (kpM x s) (kpM y s) ∧ agM 220 (kpM x s) (kpM y s) := by
  have f : ∀ (x : gd) c k, ¬ c = 225 → (kpM x s).1 c k = x.1 c k := fun x c k hc => by unfold kpM; rw [scp_get, if_neg (fun z => hc z.1)]
  exact ⟨fun c k h => by rw [f x c k (by omega), f y c k (by omega)]; exact hc c k h, fun k h1 h2 => by rw [f x _ _ (by omega), f y _ _ (by omega)]; exact hm k h1 h2⟩
theorem kp_ag1 (hc : agC x y) (hm : agM 220 x y) : agC x (kpM y s) ∧ agM 220 x (kpM y s) := by
  have f : ∀ (x : gd) c k, ¬ c = 225 → (kpM x s).1 c k = x.1 c k := fun x c k hc => by unfold kpM; rw [scp_get, if_neg (fun z => hc z.1)]
  exact ⟨fun c k h => by rw [f y c k (by omega)]; exact hc c k h, fun k h1 h2 => by rw [f y _ _ (by omega)]; exact hm k h1 h2⟩
/-- a kept row stays -/
theorem KPs_ag (hK : CK x C) (hc : agC x y) (hm : agM 220 x y) (hr : ∀ k, y.1 (1000 + s) k = x.1 (1000 + s) k) (e4 : y.1 204 s = x.1 204 s) (k : KPs C nl w x s M) : KPs C nl w y s M := by
  obtain ⟨k1, k2, k3, k4, k5, k6⟩ := k
  have e5 : y.1 220 5 = x.1 220 5 := hm 5 (by omega) (by omega)
  have m1 : MM (kpM x s) 220 := k1
  obtain ⟨ac, am⟩ := kp_ag (s := s) hc hm
  have f5 : (kpM x s).1 220 5 = x.1 220 5 := by unfold kpM; rw [scp_get, if_neg (by omega)]
  have row : ∀ k : Nat, (k : Int) < ((kpM x s).1 220 5).toInt → (kpM y s).1 (220 + 5) k = (kpM x s).1 (220 + 5) k := fun k hk => by
    rw [f5] at hk
    rw [kpm_get y s k (by rw [e5]; exact hk), kpm_get x s k hk]; exact hr k
  have em := mx_same m1 (gm_ag ac am) (rw_in m1 row)
  exact ⟨KR_ag hc hm (fun k _ => hr k) k1, KMm_in m1 (kp_CK hK) (gm_ag ac am) row k2, k3, k4, k5, by rw [e4, em]; exact k6⟩
/-- a new row holds the machine's state -/
theorem KPs_new (hM : MM x 220) (hK : CK x C) (g : KMm x 220 C M) (qi : MIv C w M) (qc : MCn C nl M) (qn : NBm M) (hc : agC x y) (hm : agM 220 x y) (hr : ∀ k : Nat, (k : Int) < (x.1 220 5).toInt → y.1 (1000 + s) k = x.1 225 k) (e4 : y.1 204 s = mxO x 220) (hR : KR y s) : KPs C nl w y s M := by
  have e5 : y.1 220 5 = x.1 220 5 := hm 5 (by omega) (by omega)
  obtain ⟨ac, am⟩ := kp_ag1 (s := s) hc hm
  have row : ∀ k : Nat, (k : Int) < (x.1 220 5).toInt → (kpM y s).1 (220 + 5) k = x.1 (220 + 5) k := fun k hk => by
    rw [kpm_get y s k (by rw [e5]; exact hk)]; exact hr k hk
  have em := mx_same hM (gm_ag ac am) (rw_in hM row)
  exact ⟨hR, KMm_in hM hK (gm_ag ac am) row g, qi, qc, qn, by rw [e4, em]⟩
/-- what a trying holds stays where its memory stays -/
theorem KX3_f (hK : CK x C) (hc : agC x y) (hm : agM 220 x y) (hr : ∀ s k, s < T.1.length → y.1 (1000 + s) k = x.1 (1000 + s) k) (e4 : ∀ k, y.1 204 k = x.1 204 k) (e5 : ∀ k, y.1 205 k = x.1 205 k) (e0 : y.1 o 0 = x.1 o 0) (e1 : y.1 o 1 = x.1 o 1) (e10 : ∀ k, y.1 (o + 10) k = x.1 (o + 10) k) (e11 : ∀ k, y.1 (o + 11) k = x.1 (o + 11) k) (e12 : ∀ k, y.1 (o + 12) k = x.1 (o + 12) k) (h : KX3 C nl w x o T) : KX3 C nl w y o T := by
  obtain ⟨h0, h1, h2, h3⟩ := h
  refine ⟨by rw [e0, e1]; exact h0, fun s p hp => KPs_ag hK hc hm (fun k => hr s k (gt_lt hp)) (e4 s) (h1 s p hp), ?_, fun s p hp => ?_⟩
  · unfold TBx
    rw [show y.1 205 = x.1 205 from funext e5, show y.1 204 = x.1 204 from funext e4]
    exact h2
  · rw [e10, e11, e12, e12, e12]; exact h3 s p hp
theorem kt_addState3 (hq : kV q) (ho : kiT q o) (a b : Int32) (hz : TZ x o) (ha : a = -1 ∨ (0 ≤ a.toInt ∧ a.toInt < (x.1 o 0).toInt)) (hlt : (x.1 o 0).toInt < 3000) (h : ∀ y, fm (fun c k => (c = o ∧ k = 0) ∨ (k = (x.1 o 0).toInt.toNat ∧ o + 10 ≤ c ∧ c ≤ o + 12)) x y → TZ y o → (y.1 o 0).toInt = (x.1 o 0).toInt + 1 → y.1 (o + 10) (x.1 o 0).toInt.toNat = a → y.1 (o + 11) (x.1 o 0).toInt.toNat = b → (a = -1 → y.1 (o + 12) (x.1 o 0).toInt.toNat = 0) → (¬ a = -1 → (y.1 (o + 12) (x.1 o 0).toInt.toNat).toInt = (x.1 (o + 12) a.toInt.toNat).toInt + 1) → Fv y) : KT G q d zk_X10_addState 0 [(0, vr o), (1, vi a), (2, vi b)] [] x (rv Fv) := by
  have k3 : (3000 : Int32).toInt = 3000 := rfl
  have k1 : (1 : Int32).toInt = 1 := rfl
  have k0 : (0 : Int32).toInt = 0 := rfl
  obtain ⟨⟨b0, b1⟩, hf, hs⟩ := hz
  refine kg_X10_addState_0 hq ho _ _ ⟨fun c => ?_, fun c => ?_⟩
  · rw [t_le, k3] at c; omega
  clear c
  have eS : (x.1 o 0).toNatClampNeg = (x.1 o 0).toInt.toNat := rfl
  obtain ⟨n, hn⟩ : ∃ n, n = (x.1 o 0).toInt.toNat := ⟨_, rfl⟩
  rw [← hn] at h eS
  have v0 : vp_in (x.1 o 0) 3000 := by rw [vp_in_iff]; omega
  rw [eS]
  refine ⟨v0, fun x3 e3 => ?_⟩
  have f3 : fm (fun c k => c = o + 10 ∧ k = n) x x3 := by rw [e3]; exact fm_si (fm_rf _ _) ⟨rfl, rfl⟩
  rw [f3 o 0 (by omega), eS]
  refine ⟨v0, fun x5 e5 => ?_⟩
  have f5 : fm (fun c k => (c = o + 10 ∧ k = n) ∨ (c = o + 11 ∧ k = n)) x x5 := by rw [e5]; exact fm_si (fm_w f3 (fun c k q => Or.inl q)) (Or.inr ⟨rfl, rfl⟩)
  rw [f5 o 0 (by omega), eS]
  have fin : ∀ (w : Int32) (y z : gd), y = si x5 (o + 12) n w → z = si y o 0 (y.1 o 0 + 1) → (0 ≤ w.toInt ∧ w.toInt ≤ (x.1 o 0).toInt) → (a = -1 → w = 0) → (¬ a = -1 → (0 ≤ a.toInt ∧ a.toInt < (x.1 o 0).toInt ∧ w.toInt = (x.1 (o + 12) a.toInt.toNat).toInt + 1)) → rv Fv none z := by
    intro w y z ey ez hw hw1 hw2
    have gy : y.1 o 0 = x.1 o 0 := by rw [ey, si_cell (by omega), f5 o 0 (by omega)]
    rw [gy] at ez
    have g0 : z.1 o 0 = x.1 o 0 + 1 := by rw [ez, si_get, if_pos ⟨rfl, rfl⟩]
    have e1 : (x.1 o 0 + 1).toInt = (x.1 o 0).toInt + 1 := by rw [t_add (by rw [k1]; omega) (by rw [k1]; omega), k1]
    have g7 : ∀ k, z.1 (o + 7) k = x.1 (o + 7) k := fun k => by rw [ez, si_cell (by omega), ey, si_cell (by omega), f5 _ _ (by omega)]
    have g10 : ∀ k, ¬ k = n → z.1 (o + 10) k = x.1 (o + 10) k := fun k hk => by rw [ez, si_cell (by omega), ey, si_cell (by omega), f5 _ _ (by omega)]
    have g12 : ∀ k, ¬ k = n → z.1 (o + 12) k = x.1 (o + 12) k := fun k hk => by rw [ez, si_cell (by omega), ey, si_get, if_neg (fun q => hk q.2), f5 _ _ (by omega)]
    have n10 : z.1 (o + 10) n = a := by rw [ez, si_cell (by omega), ey, si_cell (by omega), e5, si_cell (by omega), e3, si_get, if_pos ⟨rfl, rfl⟩]
    have n11 : z.1 (o + 11) n = b := by rw [ez, si_cell (by omega), ey, si_cell (by omega), e5, si_get, if_pos ⟨rfl, rfl⟩]
    have n12 : z.1 (o + 12) n = w := by rw [ez, si_cell (by omega), ey, si_get, if_pos ⟨rfl, rfl⟩]
    refine rv_i (h z ?_ ?_ (by rw [g0, e1]) n10 n11 (fun c => by rw [n12]; exact hw1 c) (fun c => by rw [n12]; exact (hw2 c).2.2))
    · rw [ez, ey]; exact fm_si (fm_si (fm_w f5 (fun c k q => by omega)) (by omega)) (by omega)
    · unfold TZ; rw [g0, e1]
      refine ⟨by omega, fun f hf2 => ?_, fun s hs2 => ?_⟩
      · rw [g7]
        rcases hf f hf2 with e | e
        · exact Or.inl e
        · exact Or.inr (by omega)
      · by_cases h9 : s = n
        · rw [h9, n12, n10]
          refine ⟨by omega, ?_⟩
          by_cases ca : a = -1
          · rw [hw1 ca]; exact Or.inl rfl
          · obtain ⟨q1, q2, q3⟩ := hw2 ca
            exact Or.inr ⟨q1, by omega, by rw [g12 _ (by omega)]; exact q3⟩
        · obtain ⟨s1, s2⟩ := hs s (by omega)
          rw [g12 s h9, g10 s h9]
          refine ⟨s1, ?_⟩
          rcases s2 with e | ⟨q1, q2, q3⟩
          · exact Or.inl e
          · exact Or.inr ⟨q1, q2, by rw [g12 _ (by omega)]; exact q3⟩
  refine ⟨fun hn1 => ?_, fun hn1 => ⟨v0, fun y ey z ez => fin _ y z ey ez (by rw [k0]; omega) (fun _ => rfl) (fun c => absurd hn1 c)⟩⟩
  have ha2 : 0 ≤ a.toInt ∧ a.toInt < (x.1 o 0).toInt := by
    rcases ha with e | e
    · exact absurd e hn1
    · exact e
  have eA : a.toNatClampNeg = a.toInt.toNat := rfl
  rw [eA, f5 (o + 12) _ (by omega)]
  obtain ⟨s1, s2⟩ := hs a.toInt.toNat (by omega)
  have e1 : (x.1 (o + 12) a.toInt.toNat + 1).toInt = (x.1 (o + 12) a.toInt.toNat).toInt + 1 := by rw [t_add (by rw [k1]; omega) (by rw [k1]; omega), k1]
  refine ⟨by rw [vp_in_iff]; omega, v0, fun y ey z ez => fin _ y z ey ez ?_ (fun c => absurd c hn1) (fun _ => ⟨ha2.1, ha2.2, e1⟩)⟩
  rw [e1]; omega
end KEP
