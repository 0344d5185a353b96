/-! the class: whether a state is kept -/
/-- the memory, a kept row recalled -/
def kpM (x : gd) (s : Nat) : gd := scp x (1000 + s) 225 0 0 (x.1 220 5).toNatClampNeg
/-- a kept row holds a state, its mix stands beside it -/
def KPs (C : gCo) (nl w : Nat) (x : gd) (s : Nat) (M : gMa) : Prop := KR x s ∧ KMm (kpM x s) 220 C M ∧ MIv C w M ∧ MCn C nl M ∧ NBm M ∧ x.1 204 s = mxO (kpM x s) 220
/-- the table: each state lies behind where its mix points, no gap between -/
def TBx (x : gd) (n : Nat) : Prop := (∀ j : Nat, j < 8192 → 0 ≤ (x.1 205 j).toInt ∧ (x.1 205 j).toInt ≤ (n : Nat)) ∧ (∀ s, s < n → ∃ p, p < 8192 ∧ (x.1 205 (((x.1 204 s &&& 8191).toNatClampNeg + p) % 8192)).toInt = (s : Int) + 1 ∧ ∀ i, i < p → ¬ x.1 205 (((x.1 204 s &&& 8191).toNatClampNeg + i) % 8192) = 0) ∧ (List.range 8192).countP (fun j => decide (¬ x.1 205 j = 0)) ≤ n
theorem t_and8e {a : Int32} (h : 0 ≤ a.toInt) : (a &&& 8191).toInt = a.toInt % 8192 := by
  have e0 : (a &&& 8191).toBitVec.toNat = a.toBitVec.toNat % 8192 := by
    rw [Int32.toBitVec_and, BitVec.toNat_and]
    exact Nat.and_two_pow_sub_one_eq_mod _ 13
  have ea : a.toInt = (a.toBitVec.toNat : Int) := by
    show a.toBitVec.toInt = _
    have h : 0 ≤ a.toBitVec.toInt := h
    rw [BitVec.toInt_eq_toNat_cond] at h ⊢
    split at h
    · next c => rw [if_pos c]
    · have := a.toBitVec.isLt
      omega
  have eb : (a &&& 8191).toInt = ((a &&& 8191).toBitVec.toNat : Int) := by
    show (a &&& 8191).toBitVec.toInt = _
    exact BitVec.toInt_eq_toNat_of_lt (by rw [e0]; omega)
  rw [eb, e0, ea]
  omega
section KPT
variable {G : kG} {q : kP} {d : Nat} {x y z : gd} {F : Int32 → gd → Prop} {Fv : gd → Prop} {C : gCo} {M : gMa} {Ms : Nat → gMa} {nl w n s : Nat}
theorem kp_gm (x : gd) (s : Nat) : gmE x (kpM x s) 220 := by
  have f : ∀ c k, ¬ c = 225 → (kpM x s).1 c k = x.1 c k := fun c k hc => by unfold kpM; rw [scp_get, if_neg (fun z => hc z.1)]
  exact ⟨⟨f _ _ (by decide), f _ _ (by decide), f _ _ (by decide), f _ _ (by decide)⟩, f _ _ (by decide), f _ _ (by decide), f _ _ (by decide)⟩
theorem kp_CK (hK : CK x C) : CK (kpM x s) C := CK_f hK (fun c k hc => by unfold kpM; rw [scp_get, if_neg (fun z => by omega)])
theorem kp_row (hM : MM x 220) : rwS x 220 (x.1 (1000 + s)) ↔ rwS x 220 ((kpM x s).1 225) := by
  have b := sz_b hM.1 hM.2.1
  obtain ⟨b1, b2, b3, b4, b5, b6, b7⟩ := MG_b hM.1 hM.2.1
  have t6 := hM.1.1.2.2.1
  have g6 := hM.2.1.2.2.2.2.2
  have cp : ∀ j : Nat, (j : Int) < (x.1 220 5).toInt → (kpM x s).1 225 j = x.1 (1000 + s) j := fun j hj => by
    unfold kpM
    rw [scp_get, if_pos ⟨rfl, by omega, by rw [t_cl]; omega⟩, Nat.sub_zero, Nat.zero_add]
  have p7 : ∀ j : Nat, (j : Int) < (x.1 220 7).toInt → (j : Int) < (x.1 220 5).toInt := fun j hj => by
    have : 0 ≤ (x.1 220 8).toInt * (x.1 60 10).toInt := Int.mul_nonneg (by omega) (by omega)
    omega
  have pp : ∀ t k : Nat, (t : Int) < (x.1 60 10).toInt → k < usN x 220 t → (pa x 220 t k : Int) < (x.1 220 5).toInt := fun t k ht hk => by
    refine pa_lt hM.2.1 ht ?_ (by omega)
    have hA := (hM.2.2 t ht).1
    unfold usN at hk
    by_cases c0 : (rg x 220 t 7).toInt = 0
    · omega
    · have := (lt_in hM.1 hM.2.1 hA (i := (rg x 220 t 7).toInt.toNat - 1) (by have := hA.2.1; omega)).2
      have := hA.2.1
      omega
  unfold rwS
  refine and_congr (forall_congr' fun j => imp_congr_right fun hj => ?_) (forall_congr' fun t => forall_congr' fun k => imp_congr_right fun ht => imp_congr_right fun hk => ?_)
  · rw [cp j (p7 j hj)]
  · rw [cp _ (pp t k ht hk)]
/-- the machine's state is a kept one just where the rows are the same -/
theorem kp_one (hM : MM x 220) (hK : CK x C) (hN : NC C) (en : (x.1 60 9).toInt = (nl : Nat)) (g : KMm x 220 C M) (qc : MCn C nl M) (qn : NBm M) {M' : gMa} (k : KPs C nl w x s M') : (M = M' ↔ rwS x 220 (x.1 (1000 + s))) ∧ (M = M' → x.1 204 s = mxO x 220) := by
  obtain ⟨k1, k2, k3, k4, k5, k6⟩ := k
  have k1 : MM (kpM x s) 220 := k1
  have sm : M = M' → rwS x 220 ((kpM x s).1 225) := fun e => KMm_same hM hK (kp_gm x s) g (by rw [e]; exact k2)
  refine ⟨⟨fun e => (kp_row hM).mpr (sm e), fun r => KMm_one hM k1 hK (kp_CK hK) hN en (kp_gm x s) g k2 qc k4 qn k5 ((kp_row hM).mp r)⟩, fun e => ?_⟩
  rw [k6]
  exact mx_same hM (kp_gm x s) (sm e)
theorem kx_isKept3 (hq : kV q) (he : q.ex = true) (hM : MM x 220) (hn : q.kn ≤ 3000) (nk : n ≤ q.kn) (hK : CK x C) (hN : NC C) (en : (x.1 60 9).toInt = (nl : Nat)) (g : KMm x 220 C M) (qc : MCn C nl M) (qn : NBm M) (hs : ∀ s, s < n → KPs C nl w x s (Ms s)) (hT : TBx x n) (h : ∀ r y, gbool r → fm sKp x y → (0 ≤ (y.1 200 5).toInt ∧ (y.1 200 5).toInt < 8192) → y.1 200 6 = mxO x 220 → ((¬ r = 0 ∧ ∃ s, s < n ∧ Ms s = M) ∨ (r = 0 ∧ (∀ s, s < n → ¬ Ms s = M) ∧ x.1 205 (y.1 200 5).toNatClampNeg = 0 ∧ ∃ p, p < 8192 ∧ (y.1 200 5).toNatClampNeg = ((mxO x 220 &&& 8191).toNatClampNeg + p) % 8192 ∧ ∀ i, i < p → ¬ x.1 205 (((mxO x 220 &&& 8191).toNatClampNeg + i) % 8192) = 0)) → F r y) : KT G q (d + 3) zk_X2_isKept 0 [(0, vr 200)] [] x (ri F) := by
  have kM : (8192 : Int32).toInt = 8192 := rfl
  have k1 : (1 : Int32).toInt = 1 := rfl
  have k0 : (0 : Int32).toInt = 0 := rfl
  obtain ⟨hT1, hT2, hT3⟩ := hT
  have mm : ∀ y, fm sKp x y → MM y 220 := fun y f => MM_ag (fun c k hc => f c k (by unfold sKp; omega)) (fun k h1 h2 => f _ _ (by unfold sKp; omega)) (fun k hk => f _ _ (by unfold sKp; omega)) hM
  have rr : ∀ y, fm sKp x y → ∀ s, (rwS y 220 (y.1 (1000 + s)) ↔ rwS x 220 (x.1 (1000 + s))) := fun y f s => by
    have f7 : y.1 220 7 = x.1 220 7 := f _ _ (by unfold sKp; omega)
    have f8 : y.1 220 8 = x.1 220 8 := f _ _ (by unfold sKp; omega)
    have f9 : y.1 220 9 = x.1 220 9 := f _ _ (by unfold sKp; omega)
    have f5 : y.1 (220 + 5) = x.1 (220 + 5) := funext (fun k => f _ _ (by unfold sKp; omega))
    have fs : y.1 (1000 + s) = x.1 (1000 + s) := funext (fun k => f _ _ (by unfold sKp; omega))
    have f10 : y.1 60 10 = x.1 60 10 := f _ _ (by unfold sKp; omega)
    unfold rwS usN rg pa
    rw [f7, f8, f9, f5, fs, f10]
  obtain ⟨mx, emx⟩ : ∃ mx, mx = mxO x 220 := ⟨_, rfl⟩
  rw [← emx] at h
  obtain ⟨H, eH⟩ : ∃ H : Nat, H = (mx &&& 8191).toNatClampNeg := ⟨_, rfl⟩
  have H8 : H < 8192 := by have := t_and8 mx; rw [eH, t_cl]; omega
  rw [← eH] at h
  -- what was looked at is another state
  have loop : ∀ (m k : Nat) (i : Int32) (y : gd), i.toInt = k → k + m = 8192 → fm sKp x y → (y.1 200 5).toInt = (((H + k) % 8192 : Nat) : Int) → y.1 200 6 = mx → (∀ i, i < k → ¬ x.1 205 ((H + i) % 8192) = 0) → (∀ i s, i < k → (x.1 205 ((H + i) % 8192)).toInt = (s : Nat) + 1 → ¬ Ms s = M) → KT G q (d + 3) zk_X2_isKept 25 [(0, vr 200), (1, vi i)] [] y (ri F) := by
    intro m
    induction m with
    | zero =>
      intro k i y ei hm fy hy y6 hz hne
      exfalso
      have all : ∀ j ∈ List.range 8192, decide (¬ x.1 205 j = 0) = true := fun j hj => by
        have hj := List.mem_range.mp hj
        have := hz ((j + 8192 - H) % 8192) (by omega)
        rw [show (H + (j + 8192 - H) % 8192) % 8192 = j by omega] at this
        exact decide_eq_true this
      have := List.countP_eq_length.mpr all
      rw [List.length_range] at this
      omega
    | succ m ih =>
      intro k i y ei hm fy hy y6 hz hne
      refine kg_X2_isKept_25 hq he _ ⟨fun c => ?_, fun c => ?_⟩
      · exfalso; rw [t_le, kM] at c; omega
      have e1 : (i + 1).toInt = ((k + 1 : Nat) : Int) := by rw [t_add (by show _ ≤ _ + (1 : Int); omega) (by show _ + (1 : Int) ≤ _; omega), ei]; rfl
      have hy8 : 0 ≤ (y.1 200 5).toInt ∧ (y.1 200 5).toInt < 8192 := by omega
      have v8 : vp_in (y.1 200 5) 8192 := by rw [vp_in_iff]; omega
      obtain ⟨J, hJ⟩ : ∃ J : Nat, J = (y.1 200 5).toNatClampNeg := ⟨_, rfl⟩
      have eJ : J = (H + k) % 8192 := by rw [hJ, t_cl, hy]; rfl
      have hJ8 : J < 8192 := by omega
      rw [← hJ]
      rw [fy 205 J (by unfold sKp; omega)]
      refine ⟨v8, fun c0 => ri_i (h _ _ gbool_0 fy hy8 y6 (Or.inr ⟨rfl, fun s hs9 => ?_, by rw [← hJ]; exact c0, k, by omega, by rw [← hJ]; exact eJ, hz⟩)), fun c2 => ⟨v8, ?_⟩⟩
      · intro eM
        have kp := kp_one hM hK hN en g qc qn (hs s hs9)
        have em := kp.2 eM.symm
        obtain ⟨p, p8, p1, p2⟩ := hT2 s hs9
        rw [em, ← emx, ← eH] at p1 p2
        by_cases cp : p < k
        · exact hne p s cp p1 eM
        · by_cases cp2 : p = k
          · rw [cp2, ← eJ, c0, k0] at p1; omega
          · exact p2 k (by omega) (by rw [← eJ]; exact c0)
      have tj := hT1 J hJ8
      rw [t_eq, k0] at c2
      obtain ⟨s, hs9⟩ : ∃ s : Int32, s = x.1 205 J - 1 := ⟨_, rfl⟩
      have es : s.toInt = (x.1 205 J).toInt - 1 := by rw [hs9, t_sub (by rw [k1]; omega) (by rw [k1]; omega), k1]
      rw [← hs9]
      clear hs9
      have vs : vp_in s 3000 := by rw [vp_in_iff]; omega
      have eS : s.toNatClampNeg = s.toInt.toNat := rfl
      have hsn : s.toInt.toNat < n := by omega
      have kp := kp_one hM hK hN en g qc qn (hs s.toInt.toNat hsn)
      have go : ¬ Ms s.toInt.toNat = M → ∀ z w', fm sKp x z → z.1 200 5 = y.1 200 5 → z.1 200 6 = mx → w' = si z 200 5 ((z.1 200 5 + 1) &&& 8191) → KT G q (d + 3) zk_X2_isKept 25 [(0, vr 200), (1, vi (i + 1))] [] w' (ri F) := by
        intro nM z w' fz z5 z6 ew
        have w5 : w'.1 200 5 = (y.1 200 5 + 1) &&& 8191 := by rw [ew, si_get, if_pos ⟨rfl, rfl⟩, z5]
        have ep : (y.1 200 5 + 1).toInt = (y.1 200 5).toInt + 1 := by rw [t_add (by rw [k1]; omega) (by rw [k1]; omega), k1]
        refine ih (k + 1) _ w' e1 (by omega) (by rw [ew]; exact fm_si fz (by unfold sKp; omega)) ?_ ?_ (fun i hi => ?_) (fun i s9 hi hs9 => ?_)
        · rw [w5, t_and8e (by omega), ep, hy]
          omega
        · rw [ew, si_get, if_neg (by decide)]; exact z6
        · by_cases ck : i = k
          · rw [ck, ← eJ]
            intro z9
            rw [z9, k0] at c2
            exact c2 rfl
          · exact hz i (by omega)
        · by_cases ck : i = k
          · rw [ck, ← eJ] at hs9
            have : s9 = s.toInt.toNat := by omega
            rw [this]; exact nM
          · exact hne i s9 (by omega) hs9
      refine ⟨vs, fun cm z ez => go (fun eM => ?_) y z fy rfl y6 ez, fun cm => ⟨vs, fun u eu => ?_⟩⟩
      · have em := kp.2 eM.symm
        rw [eS, fy 204 _ (by unfold sKp; omega), y6] at cm
        exact cm (by rw [em, emx])
      · have hsk : s.toInt.toNat < q.kn := by omega
        rw [eS, ke_r hsk] at eu
        refine ⟨_, eu, ke_k (by omega), ke_m hq hsk, kh_isSame hq (Or.inr ⟨rfl, he⟩) (mm y fy) (ke_k (by omega)) (ke_m hq hsk) (fun r gr hr => ⟨fun r0 z ez => go (fun eM => ?_) y z fy rfl y6 ez, fun rn => ri_i (h _ _ gbool_1 fy hy8 y6 (Or.inl ⟨by decide, s.toInt.toNat, hsn, ?_⟩))⟩)⟩
        · exact (hr.mpr ((rr y fy _).mpr (kp.1.mp eM.symm))) r0
        · exact (kp.1.mpr ((rr y fy _).mp (hr.mp rn))).symm
  refine kg_X2_isKept_0 hq he (kh_mix hq (Or.inr ⟨rfl, he⟩) hM (fun x3 e3 x4 e4 => ?_))
  rw [← emx] at e3
  have g6 : x3.1 200 6 = mx := by rw [e3, si_get, if_pos ⟨rfl, rfl⟩]
  have g5 : x4.1 200 5 = mx &&& 8191 := by rw [e4, si_get, if_pos ⟨rfl, rfl⟩, g6]
  refine loop 8192 0 _ x4 rfl (by omega) (by rw [e4, e3]; exact fm_si (fm_si (fm_rf _ _) (by unfold sKp; omega)) (by unfold sKp; omega)) ?_ ?_ (fun i hi => absurd hi (Nat.not_lt_zero _)) (fun i s hi => absurd hi (Nat.not_lt_zero _))
  · have := t_and8 mx
    rw [g5]
    rw [t_cl] at eH
    omega
  · rw [e4, si_get, if_neg (by decide)]; exact g6
end KPT
