/-! the class: an act is done -/
section KMC
variable {G : kG} {q : kP} {d : Nat} {x x0 y z : gd} {o : Nat} {F : Int32 → gd → Prop} {Fv : gd → Prop} {C : gCo} {M : gMa} {h h' : gTq} {t T w k c s : Nat} {e f : Int32} {wk : Option Nat}
theorem rsF_b (h : s = 5 ∨ s = 10 ∨ s = 11 ∨ s = 12) : rsF C w M T s c = 0 := by
  unfold rsF
  rw [if_neg (fun z => by omega), if_neg (fun z => by omega), if_neg (fun z => by omega), if_neg (fun z => by omega), if_neg (fun z => by omega)]
theorem rsF_6 : rsF C w M T 6 c = if (M.2.1 c).1 = T + 1 then 0 else 3 := by
  unfold rsF
  by_cases h : (M.2.1 c).1 = T + 1
  · rw [if_neg (fun z => z.2 h), if_neg (fun z => by omega), if_neg (fun z => by omega), if_neg (fun z => by omega), if_neg (fun z => by omega), if_pos h]
  · rw [if_pos ⟨rfl, h⟩, if_neg h]
theorem rsF_7 (hs : s = 7 ∨ s = 8) : rsF C w M T s c = if (M.2.1 c).1 = T + 1 then 0 else 4 := by
  unfold rsF
  by_cases h : (M.2.1 c).1 = T + 1
  · rw [if_neg (fun z => by omega), if_neg (fun z => z.2 h), if_neg (fun z => by omega), if_neg (fun z => by omega), if_neg (fun z => by omega), if_pos h]
  · rw [if_neg (fun z => by omega), if_pos ⟨hs, h⟩, if_neg h]
theorem rsF_9 : rsF C w M T 9 c = if (M.2.2 c).1 = 0 then 0 else 7 := by
  unfold rsF
  by_cases h : (M.2.2 c).1 = 0
  · rw [if_neg (fun z => by omega), if_neg (fun z => by omega), if_neg (fun z => z.2 h), if_neg (fun z => by omega), if_neg (fun z => by omega), if_pos h]
  · rw [if_neg (fun z => by omega), if_neg (fun z => by omega), if_pos ⟨rfl, h⟩, if_neg h]
theorem rsF_13 (hs : s = 13 ∨ s = 14) : rsF C w M T s c = if ((s = 13 ∧ ¬ (M.2.2 T).2.2.2.2.2.1 = -1) ∨ (s = 14 ∧ (M.2.2 T).2.2.2.2.2.1 = -1)) then 8 else 0 := by
  unfold rsF
  rw [if_neg (fun z => by omega), if_neg (fun z => by omega), if_neg (fun z => by omega)]
  by_cases h : (s = 13 ∧ ¬ (M.2.2 T).2.2.2.2.2.1 = -1) ∨ (s = 14 ∧ (M.2.2 T).2.2.2.2.2.1 = -1)
  · rw [if_pos h, if_pos h]
  · rw [if_neg h, if_neg h, if_neg (fun z => by omega)]
/-- nothing is kept of it -/
theorem M1c_is {E : gMa} {v : Int32} (e9 : efM C w M T (soM C (M.2.2 T)) (lkM C w M T).2.1.toNatClampNeg (lkM C w M T).2.2.1 (lkM C w M T).2.2.2 wk = (E, v)) (hto : (stN C (M.2.2 T).2.2.1).2.2.2.1 = none) (hl : (E.2.2 T).2.2.2.2.2.2.2 = (M.2.2 T).2.2.2.2.2.2.2) : M1c C w M T wk = E := by
  unfold M1c
  rw [e9, toV_n hto, ← hl]
  exact upT_id rfl
/-- a lock's act looked at -/
theorem lkM_b {st : gNs} (hX : NXc C) (hst : C.1[(M.2.2 T).2.2.1]? = some st) (s2 : stN C (M.2.2 T).2.2.1 = st) (hw0 : (M.2.2 T).2.2.2.1 = 0) (h5 : 5 ≤ st.1 ∧ st.1 ≤ 12) : lkM C w M T = (rsF C w M T st.1 (obM C (M.2.2 T).2.2.1), st.2.2.2.2.1, 0, 0) := by
  obtain ⟨x1, x2, x3, -, x5, x6⟩ := hX _ st hst
  have z0 : st.2.2.2.2.2.2.2.1 = none := by
    cases hz : st.2.2.2.2.2.2.2.1 with
    | none => rfl
    | some Q9 => exact absurd (x1 (by rw [hz]; exact fun z => nomatch z)) (by omega)
  have z1 : st.2.2.2.2.2.2.2.2.1 = none := by
    cases hz : st.2.2.2.2.2.2.2.2.1 with
    | none => rfl
    | some Q9 => exact absurd (x3 (by rw [hz]; exact fun z => nomatch z)) (by omega)
  have z2 : st.2.2.2.2.2.2.2.2.2 = none := by
    cases hz : st.2.2.2.2.2.2.2.2.2 with
    | none => rfl
    | some Q9 => exact absurd (x2 (by rw [hz]; exact fun z => nomatch z)) (by omega)
  have li := lkI_n (M := M) (t := T) (C := C) (by rw [s2]; exact z0)
  rw [lkM_3 (w := w) hw0 (by rw [li]) (show evO (M.2.2 T).2.2.2.2.2.2.2 (Int32.ofNat T) (stN C (M.2.2 T).2.2.1).2.2.2.2.2.2.2.2.1 = some 0 by rw [s2, z1]; rfl) (show evO (M.2.2 T).2.2.2.2.2.2.2 (Int32.ofNat T) (stN C (M.2.2 T).2.2.1).2.2.2.2.2.2.2.2.2 = some 0 by rw [s2, z2]; rfl), li]
  unfold obM
  rw [s2]
theorem kh_act (hq : kV q) (ho : kiM q o) (hM : MM x o) (hK : CK x C) (hN : NC C) (hX : NXc C) (hX3 : NX3 C) (g : KMm x o C M) (wy : x.1 o 3 = Int32.ofNat w) (w01 : w = 0 ∨ w = 1) (t p wv : Int32) (et : t.toInt = T) (hT : T < C.2.1.length) (h1 : (M.2.2 T).1 = 1) (hp : p = Int32.ofNat (soM C (M.2.2 T))) (hu0 : wk = none → wv = -1) (hu1 : ∀ k, wk = some k → wv = Int32.ofNat k ∧ k ∈ waM C M (obM C (M.2.2 T).2.2.1)) (hF : ∀ r y, AR S346 x y o → (r = 0 → (p.toInt ≤ 4 → 0 ≤ (y.1 (o + 20) 2).toInt ∧ (y.1 (o + 20) 2).toInt < (x.1 60 6).toInt) ∧ (¬ p.toInt ≤ 4 → y.1 (o + 20) 2 = x.1 (o + 20) 2)) → ((¬ r = 0 ∧ r = Int32.ofNat (lkM C w M T).1 ∧ ¬ (lkM C w M T).1 = 0 ∧ KMm y o C M) ∨ (r = 0 ∧ (lkM C w M T).1 = 0 ∧ (¬ soM C (M.2.2 T) = 9 → KMm y o C (M1c C w M T wk)) ∧ (soM C (M.2.2 T) = 9 → y = x ∧ (M.2.2 (obM C (M.2.2 T).2.2.1)).1 = 0))) → F r y) : KT G q (d + 4) zk_X5_actFailure 0 [(0, vr o), (1, vi t), (2, vi (rg x o T 2)), (3, vi p), (4, vi wv)] [] x (ri F) := by
  have hO := kiM_O ho
  have nT : (x.1 60 10).toInt = C.2.1.length := hK.2.1.1
  have hT6 := MM_6 hM.1 (t := T) (by omega)
  have hA := (hM.2.2 T (by omega)).1
  have t6 := hM.1.1.2.2.1
  have k1 : (1 : Int32).toInt = 1 := rfl
  have gT := g.2 T hT
  obtain ⟨st, s1, s2, s3, s4, s5, kn, ns⟩ := kst_at hM hK hN hT gT
  obtain ⟨vs, eN, -⟩ := MM_st hM.1 hA
  rw [s3] at eN
  have hcs := (hM.1.2.2.2.1 _ s4).1
  obtain ⟨x1, x2, x3, x4, x5, x6⟩ := hX _ st s1
  have k85 : ¬ st.1 = 16 → x.1 85 (M.2.2 T).2.2.1 = st.2.2.2.2.1 := kn.2.2.2.2.1
  have obE : obM C (M.2.2 T).2.2.1 = st.2.2.2.2.1.toNatClampNeg := by unfold obM; rw [s2]
  -- its going is at an act
  have hgo := (hM.2.2 T (by omega)).2 (by rw [gT.1.1, h1]; rfl)
  have o16 : st.1 < 16 := by
    have := hgo.1
    rw [s3, s5] at this
    omega
  have so9 : soM C (M.2.2 T) < 16 ∧ (¬ soM C (M.2.2 T) = 15 → (M.2.2 T).2.2.2.1 = 0 ∧ soM C (M.2.2 T) = st.1) := by
    by_cases c0 : (M.2.2 T).2.2.2.1 = 0
    · have : soM C (M.2.2 T) = st.1 := by unfold soM; rw [if_pos c0, s2]
      exact ⟨by omega, fun _ => ⟨c0, this⟩⟩
    · have : soM C (M.2.2 T) = 15 := by unfold soM; rw [if_neg c0]
      exact ⟨by omega, fun z => absurd this z⟩
  have ep : p.toInt = (soM C (M.2.2 T) : Nat) := by rw [hp]; exact Int32.toInt_ofNat_of_lt (by omega)
  have own : ¬ p.toInt = 15 → (M.2.2 T).2.2.2.1 = 0 ∧ p.toInt = (st.1 : Nat) ∧ soM C (M.2.2 T) = st.1 := fun n15 => by
    obtain ⟨a, b⟩ := so9.2 (by omega)
    exact ⟨a, by omega, b⟩
  have fin : ∀ (r : Int32) (y : gd), AR (fun k => k = 4 ∨ k = 6) x y o → ¬ p.toInt ≤ 4 → ((¬ r = 0 ∧ r = Int32.ofNat (lkM C w M T).1 ∧ ¬ (lkM C w M T).1 = 0 ∧ KMm y o C M) ∨ (r = 0 ∧ (lkM C w M T).1 = 0 ∧ (¬ soM C (M.2.2 T) = 9 → KMm y o C (M1c C w M T wk)) ∧ (soM C (M.2.2 T) = 9 → y = x ∧ (M.2.2 (obM C (M.2.2 T).2.2.1)).1 = 0))) → ri F (some (vi r)) y := fun r y hy n4 hr => ri_i (hF r y (AR_w hy (fun k hk => by show k = 2 ∨ k = 3 ∨ k = 4 ∨ k = 6; omega)) (fun _ => ⟨fun c => absurd c n4, fun _ => hy.2.2.2 2 (by decide)⟩) hr)
  -- a lock that there is
  have lock : ∀ n : Nat, 5 ≤ n → n ≤ 8 → st.1 = n → st.2.2.2.2.1.toInt = (obM C (M.2.2 T).2.2.1 : Nat) ∧ ((obM C (M.2.2 T).2.2.1 : Nat) : Int) < (x.1 60 9).toInt := fun n n5 n8 en => by
    have a := hcs.2.1 (by omega) (by omega)
    rw [k85 (by omega)] at a
    rw [obE, t_cl]
    omega
  have tonone : ¬ (st.1 = 0 ∨ (2 ≤ st.1 ∧ st.1 ≤ 4) ∨ st.1 = 16 ∨ st.1 = 17 ∨ st.1 = 20) → (stN C (M.2.2 T).2.2.1).2.2.2.1 = none := fun z => by rw [s2]; exact x5 z
  have wake : p = 8 → ∀ a : Int32, (a = 0 ↔ st.2.2.2.2.2.2.1 = false) → KT G q (d + 4) zk_X5_actFailure 163 [(4, vi wv)] [vi a, vi (x.1 85 (M.2.2 T).2.2.1), vi t, vr o] x (ri F) := by
    intro c a ha
    have e5 : p.toInt = 8 := by rw [c]; rfl
    obtain ⟨w0, e1, e2⟩ := own (by omega)
    obtain ⟨l1, l2⟩ := lock 8 (by omega) (by omega) (by omega)
    have ll := lkM_b (w := w) hX s1 s2 w0 (by omega)
    rw [rsF_7 (Or.inr (by omega))] at ll
    rw [k85 (by omega)]
    refine kg_X5_actFailure_163 hq ho _ _ _ _ (kh_wake (S := fun k => k = 4 ∨ k = 6) (Or.inr rfl) hq ho hM hK hN g _ _ _ _ et hT l1 l2 st.2.2.2.2.2.2.1 ha wk hu0 hu1 (fun r y hy hr => fin _ y hy (by omega) ?_))
    rcases hr with ⟨er, hh, gy⟩ | ⟨er, hh, gy⟩
    · rw [if_neg hh] at ll
      rw [ll]
      exact Or.inl ⟨by rw [er]; decide, er, by show ¬ 4 = 0; decide, gy⟩
    · rw [if_pos hh] at ll
      refine Or.inr ⟨er, by rw [ll], fun _ => ?_, fun z => by omega⟩
      rw [M1c_is (E := wkU M C.2.1.length (fun o => (M.2.2 o).2.2.2.1 == 1 && (obM C (M.2.2 o).2.2.1 == (obM C (M.2.2 T).2.2.1) && (st.2.2.2.2.2.2.1 || wk == some o)))) (v := 0) ?_ (tonone (by omega)) ?_]
      · exact gy
      · rw [ll, show soM C (M.2.2 T) = 8 by omega, ef_8, ← obE]
        refine Prod.ext (Prod.ext rfl (Prod.ext rfl (funext fun i => ?_))) rfl
        unfold wkT wkU
        rw [s2]
        refine ite_congr (propext ?_) (fun _ => rfl) (fun _ => rfl)
        rw [Bool.and_eq_true, Bool.and_eq_true, Bool.or_eq_true, beq_iff_eq, beq_iff_eq, beq_iff_eq]
      · unfold wkU
        show (if T < C.2.1.length ∧ _ then _ else M.2.2 T).2.2.2.2.2.2.2 = _
        split <;> rfl
  refine kg_X5_actFailure_0 hq ho _ _ _ _ ⟨vs, ?_⟩
  rw [eN]
  refine ⟨fun c => ?_, fun c => ?_, fun c => ?_, fun c => ?_, fun c => ?_, fun c => ⟨vs, fun c84 => ?_, fun c84 => ?_⟩, fun c => ?_, fun c => ?_, fun c => ?_⟩
  · -- an access
    have c4 : ¬ p.toInt = 15 ∧ p.toInt ≤ 4 := by rcases c with rfl | rfl | rfl | rfl | rfl <;> decide
    obtain ⟨w0, e1, e2⟩ := own c4.1
    refine kh_access (wk := wk) hq ho hM hK hN hX hX3 g wy w01 _ _ et hT h1 w0 (by rw [s2]; omega) (by rw [s2, hp, e2]) (fun r y hy hd hr => ri_i (hF r y hy (fun r0 => ⟨fun _ => hd r0, fun z => absurd c4.2 z⟩) ?_))
    rcases hr with hr | ⟨a1, a2, a3⟩
    · exact Or.inl hr
    · exact Or.inr ⟨a1, a2, fun _ => a3, fun z => by omega⟩
  · -- take
    have e5 : p.toInt = 5 := by rw [c]; rfl
    obtain ⟨w0, e1, e2⟩ := own (by omega)
    obtain ⟨l1, l2⟩ := lock 5 (by omega) (by omega) (by omega)
    have ll := lkM_b (w := w) hX s1 s2 w0 (by omega)
    rw [k85 (by omega)]
    refine kh_often hq ho hM g _ l1 l2 (kh_setLock hq ho hM hK g _ _ _ l1 l2 (n := T + 1) (i32_of (by rw [t_add (by rw [k1]; omega) (by rw [k1]; omega), k1, et]; push_cast; rfl)) (by omega) (fun y hy ry gy => fin _ y hy (by omega) (Or.inr ⟨rfl, ?_, fun _ => ?_, fun z => by omega⟩)))
    · rw [ll]; exact rsF_b (Or.inl (by omega))
    · rw [M1c_is (E := upL M (obM C (M.2.2 T).2.2.1) (T + 1, (M.2.1 (obM C (M.2.2 T).2.2.1)).2 + 1)) (v := 0) ?_ (tonone (by omega)) rfl]
      · exact gy
      · rw [ll, show soM C (M.2.2 T) = 5 by omega, ef_5, ← obE]
  · -- give
    have e5 : p.toInt = 6 := by rw [c]; rfl
    obtain ⟨w0, e1, e2⟩ := own (by omega)
    obtain ⟨l1, l2⟩ := lock 6 (by omega) (by omega) (by omega)
    have ll := lkM_b (w := w) hX s1 s2 w0 (by omega)
    rw [show st.1 = 6 by omega, rsF_6] at ll
    rw [k85 (by omega)]
    refine kh_give hq ho hM hK g _ _ et hT6 l1 l2 (fun r y hy hr => fin _ y hy (by omega) ?_)
    rcases hr with ⟨er, hh, gy⟩ | ⟨er, hh, gy⟩
    · rw [if_neg hh] at ll
      rw [ll]
      exact Or.inl ⟨by rw [er]; decide, er, by show ¬ 3 = 0; decide, gy⟩
    · rw [if_pos hh] at ll
      refine Or.inr ⟨er, by rw [ll], fun _ => ?_, fun z => by omega⟩
      rw [M1c_is (E := upL M (obM C (M.2.2 T).2.2.1) (if (M.2.1 (obM C (M.2.2 T).2.2.1)).2 - 1 = 0 then 0 else T + 1, (M.2.1 (obM C (M.2.2 T).2.2.1)).2 - 1)) (v := 0) ?_ (tonone (by omega)) rfl]
      · exact gy
      · rw [ll, show soM C (M.2.2 T) = 6 by omega, ef_6, ← obE]
  · -- wait
    have e5 : p.toInt = 7 := by rw [c]; rfl
    obtain ⟨w0, e1, e2⟩ := own (by omega)
    obtain ⟨l1, l2⟩ := lock 7 (by omega) (by omega) (by omega)
    have ll := lkM_b (w := w) hX s1 s2 w0 (by omega)
    rw [rsF_7 (Or.inl (by omega))] at ll
    rw [k85 (by omega)]
    refine kh_wait hq ho hM hK hN g _ _ et hT h1 w0 (by rw [s2]; omega) (by rw [s2]) l1 l2 (fun r y hy hr => fin _ y hy (by omega) ?_)
    rcases hr with ⟨er, hh, gy⟩ | ⟨er, hh, gy⟩
    · rw [if_neg hh] at ll
      rw [ll]
      exact Or.inl ⟨by rw [er]; decide, er, by show ¬ 4 = 0; decide, gy⟩
    · rw [if_pos hh] at ll
      refine Or.inr ⟨er, by rw [ll], fun _ => ?_, fun z => by omega⟩
      rw [M1c_is (E := upT (upL M (obM C (M.2.2 T).2.2.1) (0, 0)) T ((M.2.2 T).1, (M.2.2 T).2.1, (M.2.2 T).2.2.1, 1, (M.2.1 (obM C (M.2.2 T).2.2.1)).2, (M.2.2 T).2.2.2.2.2)) (v := 0) ?_ (tonone (by omega)) (by rw [upT_at])]
      · exact gy
      · rw [ll, show soM C (M.2.2 T) = 7 by omega, ef_7, ← obE]
  · -- retake
    have e5 : p.toInt = 15 := by rw [c]; rfl
    have w0 : ¬ (M.2.2 T).2.2.2.1 = 0 := fun z => by
      have : soM C (M.2.2 T) = st.1 := by unfold soM; rw [if_pos z, s2]
      have := ns.1.2
      omega
    have o7 := gT.2.2.2.1.2.2.2 w0
    rw [s2] at o7
    obtain ⟨l1, l2⟩ := lock 7 (by omega) (by omega) (by omega)
    have ll := lkM_15 (w := w) (C := C) w0
    rw [s2] at ll
    rw [k85 (by omega)]
    refine kh_retake hq ho hM hK g _ _ et hT l1 l2 (fun y hy gy => fin _ y hy (by omega) (Or.inr ⟨rfl, by rw [ll], fun _ => ?_, fun z => by omega⟩))
    rw [M1c_is (E := upT (upL M (obM C (M.2.2 T).2.2.1) (T + 1, (M.2.2 T).2.2.2.2.1)) T ((M.2.2 T).1, (M.2.2 T).2.1, (M.2.2 T).2.2.1, 0, 0, (M.2.2 T).2.2.2.2.2)) (v := 0) ?_ (tonone (by omega)) (by rw [upT_at])]
    · exact gy
    · rw [ll, show soM C (M.2.2 T) = 15 by omega, ef_15, ← obE]
  · exact wake c 0 ⟨fun _ => by
      cases hb : st.2.2.2.2.2.2.1 with
      | true => exact absurd ((kn.2.2.2.1 (by have e5 : p.toInt = 8 := by rw [c]; rfl
                                              have := own (by omega)
                                              omega)).mpr hb) c84
      | false => rfl, fun _ => rfl⟩
  · exact wake c 1 ⟨fun z => absurd z (by decide), fun z => by
      have := (kn.2.2.2.1 (by have e5 : p.toInt = 8 := by rw [c]; rfl
                              have := own (by omega)
                              omega)).mp c84
      rw [z] at this; cases this⟩
  · -- start
    have e5 : p.toInt = 9 := by rw [c]; rfl
    obtain ⟨w0, e1, e2⟩ := own (by omega)
    have ll := lkM_b (w := w) hX s1 s2 w0 (by omega)
    rw [show st.1 = 9 by omega, rsF_9] at ll
    have a := hcs.2.2 (by omega) (by omega)
    rw [k85 (by omega)] at a ⊢
    have l1 : st.2.2.2.2.1.toInt = (obM C (M.2.2 T).2.2.1 : Nat) := by rw [obE, t_cl]; omega
    have gc := g.2 (obM C (M.2.2 T).2.2.1) (by omega)
    have s0 := sta_0 (M.2.2 (obM C (M.2.2 T).2.2.1)).1 (by have := gc.1.2; omega)
    refine kp_get hq ho hM.1 hM.2.1 _ _ l1 (show (0 : Int32).toInt = ((0 : Nat) : Int) from rfl) (by omega) (by omega) ⟨fun c0 => fin _ x (AR_rf hM) (by omega) (Or.inl ?_), fun c0 => fin _ x (AR_rf hM) (by omega) (Or.inr ⟨rfl, ?_, fun z => by omega, fun _ => ⟨rfl, ?_⟩⟩)⟩
    · rw [gc.1.1] at c0
      rw [if_neg (fun z => c0 (s0.mpr z))] at ll
      rw [ll]
      exact ⟨by decide, rfl, by show ¬ 7 = 0; decide, g⟩
    · rw [gc.1.1] at c0
      rw [if_pos (s0.mp c0)] at ll
      rw [ll]
    · rw [gc.1.1] at c0
      exact s0.mp c0
  · -- call, back
    have cc : p.toInt = 13 ∨ p.toInt = 14 := by rcases c with rfl | rfl <;> decide
    obtain ⟨w0, e1, e2⟩ := own (by omega)
    have z0 : st.2.2.2.2.2.2.2.1 = none := by
      cases hz : st.2.2.2.2.2.2.2.1 with
      | none => rfl
      | some Q9 => exact absurd (x1 (by rw [hz]; exact fun z => nomatch z)) (by omega)
    have z2 : st.2.2.2.2.2.2.2.2.2 = none := by
      cases hz : st.2.2.2.2.2.2.2.2.2 with
      | none => rfl
      | some Q9 => exact absurd (x2 (by rw [hz]; exact fun z => nomatch z)) (by omega)
    have li := lkI_n (M := M) (t := T) (C := C) (by rw [s2]; exact z0)
    have l0 : (lkI C M T).1 = 0 := by rw [li]
    refine kh_call (S := fun k => k = 4 ∨ k = 6) (Or.inl rfl) hq ho hM hK hN g _ _ et hT h1 (by rw [s2]; omega) (by rw [s2, hp, e2]) (fun r y hy hr => fin _ y hy (by omega) ?_)
    rcases hr with ⟨ev, er, gy⟩ | ⟨v9, ev, hr⟩
    · have ll := lkM_1 (w := w) w0 l0 ev
      rw [ll]
      exact Or.inl ⟨by rw [er]; decide, er, by show ¬ 1 = 0; decide, gy⟩
    · have ll := lkM_3 (w := w) w0 l0 ev (show evO (M.2.2 T).2.2.2.2.2.2.2 (Int32.ofNat T) (stN C (M.2.2 T).2.2.1).2.2.2.2.2.2.2.2.2 = some 0 by rw [s2, z2]; rfl)
      rw [rsF_13 (by rw [s2]; omega)] at ll
      rcases hr with ⟨er, bad, gy⟩ | ⟨er, bad, gy⟩
      · rw [if_pos bad] at ll
        rw [ll]
        exact Or.inl ⟨by rw [er]; decide, er, by show ¬ 8 = 0; decide, gy⟩
      · rw [if_neg bad] at ll
        refine Or.inr ⟨er, by rw [ll], fun _ => ?_, fun z => by omega⟩
        rw [M1c_is (E := upT M T ((M.2.2 T).1, (M.2.2 T).2.1, (M.2.2 T).2.2.1, (M.2.2 T).2.2.2.1, (M.2.2 T).2.2.2.2.1, if (stN C (M.2.2 T).2.2.1).1 = 13 then (stN C (M.2.2 T).2.2.1).2.2.2.2.1 else -1, (M.2.2 T).2.2.2.2.2.2)) (v := 0) ?_ (tonone (by omega)) (by rw [upT_at])]
        · exact gy
        · rcases cc with e13 | e13
          · rw [show soM C (M.2.2 T) = 13 by omega, ef_13, if_pos (show (stN C (M.2.2 T).2.2.1).1 = 13 by rw [s2]; omega)]
          · rw [show soM C (M.2.2 T) = 14 by omega, ef_14, if_neg (show ¬ (stN C (M.2.2 T).2.2.1).1 = 13 by rw [s2]; omega)]
  · -- the others
    have ne : ∀ n : Int32, n ∈ [(0 : Int32), 1, 2, 3, 4, 5, 6, 7, 15, 8, 9, 13, 14] → ¬ p.toInt = n.toInt := fun n hn z => c n hn (t_eq.mpr z)
    have n0 := ne 0 (by decide)
    have n1 := ne 1 (by decide)
    have n2 := ne 2 (by decide)
    have n3 := ne 3 (by decide)
    have n4 := ne 4 (by decide)
    have n5 := ne 5 (by decide)
    have n6 := ne 6 (by decide)
    have n7 := ne 7 (by decide)
    have n8 := ne 8 (by decide)
    have n9 := ne 9 (by decide)
    have n13 := ne 13 (by decide)
    have n14 := ne 14 (by decide)
    have n15 := ne 15 (by decide)
    simp only [Int32.reduceToInt] at n0 n1 n2 n3 n4 n5 n6 n7 n8 n9 n13 n14 n15
    obtain ⟨w0, e1, e2⟩ := own n15
    have s3' : st.1 = 10 ∨ st.1 = 11 ∨ st.1 = 12 := by omega
    have ll := lkM_b (w := w) hX s1 s2 w0 (by omega)
    rw [rsF_b (Or.inr s3')] at ll
    refine fin _ x (AR_rf hM) (by omega) (Or.inr ⟨rfl, by rw [ll], fun _ => ?_, fun z => by omega⟩)
    rw [M1c_is (E := M) (v := 0) ?_ (tonone (by omega)) rfl]
    · exact g
    · rw [e2, ef_o s3']
end KMC
