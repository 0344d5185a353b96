/-! the class: how a run begins, and its first choices -/
/-- a thread as the run begins: its fields -/
def FTh (y : gd) (o t : Nat) (r : gTr) : Prop := (∀ k, 3 ≤ k → k < 8 → rg y o t k = 0) ∧ rg y o t 0 = Int32.ofNat r.1 ∧ (r.1 = 1 ∨ r.1 = 3 → (rg y o t 2).toInt = (r.2.2.1 : Nat)) ∧ r.1 ≤ 3
def FSc (C : gCo) (f : Nat → gTr) (y : gd) (o : Nat) : Prop := fstS C f ∧ (∀ t, t < C.2.1.length → FTh y o t (f t)) ∧ ∀ j : Nat, (y.1 60 6).toInt ≤ j → (j : Int) < (y.1 o 7).toInt → y.1 (o + 5) j = 0
section KRF
variable {G : kG} {q : kP} {d : Nat} {x x0 y z : gd} {o : Nat} {F : Int32 → gd → Prop} {Fv : gd → Prop} {C : gCo}
theorem FTh_eq {t : Nat} {r : gTr} (e : ∀ k, k < 8 → rg y o t k = rg x o t k) (h : FTh x o t r) : FTh y o t r := by
  obtain ⟨h1, h2, h3, h4⟩ := h
  exact ⟨fun k k3 k8 => by rw [e k k8]; exact h1 k k3 k8, by rw [e 0 (by omega)]; exact h2, fun c => by rw [e 2 (by omega)]; exact h3 c, h4⟩
theorem kf_rouse (hq : kV q) (ho : kiM q o) (h : MM x o) {T : Nat} (t : Int32) (et : t.toInt = T) (hT : (T : Int) < (x.1 60 10).toInt) (h3 : rg x o T 3 = 0) (hK : CK x C) (hN : NC C) {q9 : Nat × Nat} (hth : C.2.1[T]? = some q9) (hF : ∀ y, MM y o → fm (sSt o) x y → (∀ t k : Nat, t ≠ T → (k : Int) < (x.1 o 8).toInt → rg y o t k = rg x o t k) → sUx x y o T → (∃ n r, setP C (Int32.ofNat T) n 0 q9.1 (fun _ => 0) = some r ∧ finR y o T r) → Fv y) : KT G q (d + 4) zk_X5_rouse 0 [(0, vr o), (1, vi t)] [] x (rv Fv) := by
  have hO := kiM_O ho
  have hT6 := MM_6 h.1 hT
  obtain ⟨b1, b2, b3, b4, -⟩ := MG_b h.1 h.2.1
  refine kg_X5_rouse_0 hq ho _ (kf_set hq ho (MM_MS h) hT6 _ _ _ et (show (0 : Int32).toInt = ((0 : Nat) : Int) from rfl) (by omega) (by omega) (fun c => by omega) (fun _ c => absurd c (by decide)) (fun c => by omega) (fun y hy fy ly gy => ⟨by rw [vp_in_iff]; omega, ?_⟩))
  have y9 : y.1 o 9 = x.1 o 9 := fy _ _ (by unfold sSt; omega)
  have eN : t.toNatClampNeg = T := by rw [t_cl, et]; rfl
  have hs := hy.1.2.2.2.2 T (by rw [fy 60 10 (by unfold sSt; omega)]; exact hT)
  rw [eN]
  refine kf_set hq ho hy hT6 _ _ _ et (show (2 : Int32).toInt = ((2 : Nat) : Int) from rfl) (by rw [y9]; omega) (by omega) (fun _ => hs) (fun c => by omega) (fun c => by omega) (fun z hz fz lz gz => ?_)
  have z8 : z.1 o 8 = x.1 o 8 := by rw [fz _ _ (by unfold sSt; omega), fy _ _ (by unfold sSt; omega)]
  have e72 : (y.1 72 T).toInt = (q9.1 : Nat) := by rw [fy 72 T (by unfold sSt; omega)]; exact (hK.2.1.2 T q9 hth).1
  have z2 : rg z o T 2 = y.1 72 T := by rw [gz 2 (by rw [y9]; omega), if_pos rfl]
  have z0 : rg z o T 0 = 1 := by rw [gz 0 (by rw [y9]; omega), if_neg (by omega), gy 0 (by omega), if_pos rfl]
  have zu : ∀ k, 3 ≤ k → k < 8 → rg z o T k = rg x o T k := fun k k3 k8 => by rw [gz k (by rw [y9]; omega), if_neg (by omega), gy k (by omega), if_neg (by omega)]
  have e2 : (rg z o T 2).toInt.toNat = q9.1 := by rw [z2, e72]; rfl
  obtain ⟨⟨st, s1, s2⟩, -⟩ := hN.2.1 q9 (List.mem_of_getElem? hth)
  have m13 := hz.1.1.2.2.2.1.1
  refine kf_settle (lv0 := fun _ => 0) hq ho hz (by rw [fz 60 10 (by unfold sSt; omega), fy 60 10 (by unfold sSt; omega)]; exact hT) _ et ?_ (CK_St hO (CK_St hO hK fy) fz) hN z0 (by rw [e2]; exact s1) (fun p hp => by rw [s2] at hp; exact absurd hp (Nat.not_lt_zero _)) (by rw [s2]; exact m13) (fun w hw fw gw uw hfin => rv_i (hF w hw (fm_tr (fm_tr fy fz) fw) (fun t k hne hk => gw t k hne (by rw [z8]; exact hk)) ⟨fun k k3 k8 => by rw [uw.1 k k3 k8]; exact zu k k3 k8, lowE_tr hO (fm_tr fy fz) (lowE_tr hO fy ly lz) uw.2⟩ ?_))
  · rw [zu 3 (by omega) (by omega)]; exact h3
  · rw [e2] at hfin; exact hfin
theorem kf_reset (hq : kV q) (ho : kiM q o) (hC : CO x) (hK : CK x C) (hN : NC C) (w : Int32) (hw : w = 0 ∨ w = 1) (hF : ∀ y, MM y o → fm (sRe o) x y → y.1 o 3 = w → (∃ f, FSc C f y o) → Fv y) : KT G q (d + 5) zk_X5_reset 0 [(0, vr o), (1, vi w)] [] x (rv Fv) := by
  have hO := kiM_O ho
  have k0 : (0 : Int32).toInt = 0 := rfl
  have k1 : (1 : Int32).toInt = 1 := rfl
  have k2 : (2 : Int32).toInt = 2 := rfl
  have k8 : (8 : Int32).toInt = 8 := rfl
  have k16 : (16 : Int32).toInt = 16 := rfl
  obtain ⟨c1, c2, c3, c4, -⟩ := hC.1
  refine kg_X5_reset_0 hq ho _ (fun x1 e1 x2 e2 x3 e3 x4 e4 => ?_)
  have f4 : fm (sRe o) x x4 := by
    rw [e4, e3, e2, e1]
    exact fm_si (fm_si (fm_si (fm_si (fm_rf _ _) (by unfold sRe; omega)) (by unfold sRe; omega)) (by unfold sRe; omega)) (by unfold sRe; omega)
  have g60 : ∀ k, ¬ k = 5 → x4.1 60 k = x.1 60 k := fun k hk => f4 _ _ (by unfold sRe; omega)
  have q1 : ∀ k, x1.1 60 k = x.1 60 k := fun k => by rw [e1, si_cell (by omega)]
  have q2 : ∀ k, x2.1 60 k = x.1 60 k := fun k => by rw [e2, si_cell (by omega)]; exact q1 k
  have q3 : ∀ k, x3.1 60 k = x.1 60 k := fun k => by rw [e3, si_cell (by omega)]; exact q2 k
  have w3 : x4.1 o 3 = w := by rw [e4, e3, e2, e1]; (simp only [si_get, sfl_get, Nat.reduceEqDiff, eq_self, and_false, false_and, and_true, true_and, if_true, if_false, reduceIte, reduceCtorEq])
  have w6 : x4.1 o 6 = x.1 60 6 := by rw [e4, e3, e2, q1]; (simp only [si_get, sfl_get, Nat.reduceEqDiff, eq_self, and_false, false_and, and_true, true_and, if_true, if_false, reduceIte, reduceCtorEq])
  have w7 : (x4.1 o 7).toInt = (x.1 60 6).toInt + 2 * (x.1 60 9).toInt := by
    have : x4.1 o 7 = x.1 60 6 + 2 * x.1 60 9 := by
      have x26 : x2.1 o 6 = x.1 60 6 := by rw [e2, q1]; (simp only [si_get, sfl_get, Nat.reduceEqDiff, eq_self, and_false, false_and, and_true, true_and, if_true, if_false, reduceIte, reduceCtorEq])
      rw [e4, e3, x26, q2]; (simp only [si_get, sfl_get, Nat.reduceEqDiff, eq_self, and_false, false_and, and_true, true_and, if_true, if_false, reduceIte, reduceCtorEq])
    have em : (2 * x.1 60 9).toInt = 2 * (x.1 60 9).toInt := by rw [t_mul (by rw [k2]; omega) (by rw [k2]; omega), k2]
    rw [this, t_add (by omega) (by omega), em]
  have w9 : (x4.1 o 9).toInt = 8 + (x.1 60 13).toInt := by
    have : x4.1 o 9 = 8 + x.1 60 13 := by rw [e4, q3]; (simp only [si_get, sfl_get, Nat.reduceEqDiff, eq_self, and_false, false_and, and_true, true_and, if_true, if_false, reduceIte, reduceCtorEq])
    rw [this, t_add (by rw [k8]; omega) (by rw [k8]; omega), k8]
  have p67 : ∀ s : Int32, s.toInt = (if w = 1 then 16 else 0) → KT G q (d + 5) zk_X5_reset 67 [(0, vr o)] [vi s, vi (x4.1 o 9), vr o] x4 (rv Fv) := by
    intro s hs
    have hs2 : 0 ≤ s.toInt ∧ s.toInt ≤ 16 := by rw [hs]; split <;> omega
    refine kg_X5_reset_67 hq ho _ _ (fun y1 ey1 y2 ey2 y3 ey3 => ?_)
    have f2 : fm (sRe o) x y2 := by rw [ey2, ey1]; exact fm_si (fm_si f4 (by unfold sRe; omega)) (by unfold sRe; omega)
    have f3 : fm (sRe o) x y3 := by rw [ey3]; exact fm_fl f2 (fun k _ => by unfold sRe; omega)
    have h60 : ∀ k, ¬ k = 5 → y3.1 60 k = x.1 60 k := fun k hk => f3 _ _ (by unfold sRe; omega)
    have yo : ∀ k, y3.1 o k = y2.1 o k := fun k => by rw [ey3, sfl_get, if_neg (by omega)]
    have v8 : (y3.1 o 8).toInt = 8 + (x.1 60 13).toInt + s.toInt := by
      have : y3.1 o 8 = x4.1 o 9 + s := by rw [yo, ey2, ey1]; (simp only [si_get, sfl_get, Nat.reduceEqDiff, eq_self, and_false, false_and, and_true, true_and, if_true, if_false, reduceIte, reduceCtorEq])
      rw [this, t_add (by omega) (by omega), w9]
    have v7 : y3.1 o 7 = x4.1 o 7 := by rw [yo, ey2, ey1]; (simp only [si_get, sfl_get, Nat.reduceEqDiff, eq_self, and_false, false_and, and_true, true_and, if_true, if_false, reduceIte, reduceCtorEq])
    have v3 : y3.1 o 3 = w := by rw [yo, ey2, ey1]; (simp only [si_get, sfl_get, Nat.reduceEqDiff, eq_self, and_false, false_and, and_true, true_and, if_true, if_false, reduceIte, reduceCtorEq]); exact w3
    have v6 : y3.1 o 6 = x.1 60 6 := by rw [yo, ey2, ey1]; (simp only [si_get, sfl_get, Nat.reduceEqDiff, eq_self, and_false, false_and, and_true, true_and, if_true, if_false, reduceIte, reduceCtorEq]); exact w6
    have v9 : (y3.1 o 9).toInt = 8 + (x.1 60 13).toInt := by
      have : y3.1 o 9 = x4.1 o 9 := by rw [yo, ey2, ey1]; (simp only [si_get, sfl_get, Nat.reduceEqDiff, eq_self, and_false, false_and, and_true, true_and, if_true, if_false, reduceIte, reduceCtorEq])
      rw [this]; exact w9
    have v5 : (y3.1 o 5).toInt = (y3.1 o 7).toInt + (y3.1 o 8).toInt * (x.1 60 10).toInt := by
      have a1 : y3.1 o 5 = y1.1 o 7 + y1.1 o 8 * y1.1 60 10 := by rw [yo, ey2]; (simp only [si_get, sfl_get, Nat.reduceEqDiff, eq_self, and_false, false_and, and_true, true_and, if_true, if_false, reduceIte, reduceCtorEq])
      have a2 : y1.1 o 7 = y3.1 o 7 := by rw [v7, ey1]; (simp only [si_get, sfl_get, Nat.reduceEqDiff, eq_self, and_false, false_and, and_true, true_and, if_true, if_false, reduceIte, reduceCtorEq])
      have a3 : y1.1 o 8 = y3.1 o 8 := by rw [yo, ey2]; (simp only [si_get, sfl_get, Nat.reduceEqDiff, eq_self, and_false, false_and, and_true, true_and, if_true, if_false, reduceIte, reduceCtorEq])
      have a4 : y1.1 60 10 = x.1 60 10 := by rw [ey1, si_cell (by omega)]; exact g60 10 (by omega)
      have hm : 0 ≤ (y3.1 o 8).toInt * (x.1 60 10).toInt ∧ (y3.1 o 8).toInt * (x.1 60 10).toInt ≤ 192 := by
        have : (x.1 60 10).toInt = 0 ∨ (x.1 60 10).toInt = 1 ∨ (x.1 60 10).toInt = 2 ∨ (x.1 60 10).toInt = 3 ∨ (x.1 60 10).toInt = 4 ∨ (x.1 60 10).toInt = 5 ∨ (x.1 60 10).toInt = 6 := by omega
        rcases this with e | e | e | e | e | e | e <;> rw [e] <;> omega
      have em := t_mul (a := y3.1 o 8) (b := x.1 60 10) (by omega) (by omega)
      rw [a1, a2, a3, a4, t_add (by rw [v7]; omega) (by rw [v7]; omega), em]
    have hC3 : CO y3 := CO_fm hC (fun c k hc => f3 c k (by unfold sRe; omega))
    have hG3 : MG y3 o := by
      unfold MG
      rw [h60 6 (by omega), h60 9 (by omega), h60 13 (by omega), h60 10 (by omega), v3, v6, v9, v8, v7, w7]
      refine ⟨hw, rfl, rfl, rfl, ?_, ?_⟩
      · rw [hs]
      · rw [v5, v8, v7, w7]
    have zero : ∀ t k : Nat, t < 6 → k < 32 → rg y3 o t k = 0 := by
      intro t k ht hk
      obtain ⟨b1, b2, -⟩ := MG_b hC3 hG3
      have hlt : pa y3 o t k < 228 := by
        unfold pa
        have : t * (y3.1 o 8).toInt.toNat ≤ 5 * 32 := Nat.mul_le_mul (by omega) (by omega)
        omega
      show y3.1 (o + 5) (pa y3 o t k) = 0
      generalize pa y3 o t k = n at hlt ⊢
      rw [ey3, sfl_get, if_pos ⟨rfl, hlt⟩]
    have zlow : ∀ j : Nat, j < 228 → y3.1 (o + 5) j = 0 := fun j hj => by rw [ey3, sfl_get, if_pos ⟨rfl, hj⟩]
    have hK3 : CK y3 C := CK_f hK (fun c k hc => f3 c k (by unfold sRe; omega))
    have nT : (x.1 60 10).toInt = C.2.1.length := hK.2.1.1
    have hM3 : MM y3 o := by
      refine ⟨hC3, hG3, fun t ht => ?_⟩
      have ht6 := MM_6 hC3 ht
      have h0 := fun k hk => zero t k ht6 hk
      have hs0 := hC3.2.2.2.2 t ht
      refine ⟨⟨?_, ?_, fun _ => h0 7 (by omega), fun j hj => ?_, fun _ => h0 3 (by omega)⟩, fun c => ?_⟩
      · rw [h0 2 (by omega), k0]; omega
      · rw [h0 7 (by omega)]; decide
      · rw [h0 7 (by omega), k0] at hj; omega
      · rw [h0 0 (by omega)] at c; exact absurd c (by decide)
    have fin : ∀ (z : gd) (k : Nat) (i : Int32), i.toInt = k → MM z o → fm (sSt o) y3 z → (∀ j : Nat, (x.1 60 6).toInt ≤ j → (j : Int) < (y3.1 o 7).toInt → z.1 (o + 5) j = 0) → (∃ f : Nat → gTr, ∀ t q, t < k → C.2.1[t]? = some q → fst1 C t q (f t) ∧ FTh z o t (f t)) → z.1 60 10 ≤ i → Fv z := by
      intro z k i ei hz fz hlk hf c
      have z10 : z.1 60 10 = x.1 60 10 := by rw [fz 60 10 (by unfold sSt; omega), h60 10 (by omega)]
      rw [z10, t_le] at c
      obtain ⟨f, hf⟩ := hf
      refine hF z hz (fm_tr f3 (fm_w fz (fun c k q => by unfold sSt at q; unfold sRe; omega))) (by rw [fz o 3 (by unfold sSt; omega)]; exact v3) ⟨f, fun t q hq => (hf t q (by have := gt_lt hq; omega) hq).1, fun t ht => (hf t _ (by omega) (List.getElem?_eq_getElem ht)).2, fun j h1 h2 => hlk j (by rw [fz 60 6 (by unfold sSt; omega), h60 6 (by omega)] at h1; exact h1) (by rw [fz o 7 (by unfold sSt; omega)] at h2; exact h2)⟩
    -- threads are roused
    have loop2 : ∀ (n k : Nat) (i : Int32) (z : gd), i.toInt = k → (x.1 60 10).toInt - k ≤ n → MM z o → fm (sSt o) y3 z → (∀ t : Nat, k ≤ t → t < 6 → ∀ j, j < 8 → rg z o t j = 0) → (∀ j : Nat, (x.1 60 6).toInt ≤ j → (j : Int) < (y3.1 o 7).toInt → z.1 (o + 5) j = 0) → (∃ f : Nat → gTr, ∀ t q, t < k → C.2.1[t]? = some q → fst1 C t q (f t) ∧ FTh z o t (f t)) → KT G q (d + 5) zk_X5_reset 136 [(0, vr o), (2, vi i)] [] z (rv Fv) := by
      intro n
      induction n with
      | zero =>
        intro k i z ei hn hz fz h0 hlk hf
        refine kg_X5_reset_136 hq ho _ ⟨fun c => rv_i (fin z k i ei hz fz hlk hf c), fun c => ?_⟩
        exfalso; rw [fz 60 10 (by unfold sSt; omega), h60 10 (by omega), t_le] at c; omega
      | succ n ih =>
        intro k i z ei hn hz fz h0 hlk hf
        have z10 : z.1 60 10 = x.1 60 10 := by rw [fz 60 10 (by unfold sSt; omega), h60 10 (by omega)]
        refine kg_X5_reset_136 hq ho _ ⟨fun c => rv_i (fin z k i ei hz fz hlk hf c), fun c => ?_⟩
        rw [z10, t_le] at c
        have e9 : (i + 1).toInt = ((k + 1 : Nat) : Int) := by rw [t_add (by rw [k1]; omega) (by rw [k1]; omega), ei]; rfl
        have hk : (k : Int) < (z.1 60 10).toInt := by rw [z10]; omega
        have kl : k < C.2.1.length := by rw [z10] at hk; omega
        obtain ⟨q9, hq9⟩ : ∃ q9, C.2.1[k]? = some q9 := ⟨_, List.getElem?_eq_getElem kl⟩
        have hKz : CK z C := CK_St hO hK3 fz
        have e73 : z.1 73 i.toNatClampNeg = Int32.ofNat q9.2 := by
          have eN : i.toNatClampNeg = k := by rw [t_cl, ei]; rfl
          rw [eN]; exact (hKz.2.1.2 k q9 hq9).2
        have q1 := (hN.2.1 q9 (List.mem_of_getElem? hq9)).2
        obtain ⟨f, hf⟩ := hf
        have ext : ∀ (u : gd) (r : gTr), (∀ t k' : Nat, t < k → k' < 8 → rg u o t k' = rg z o t k') → fst1 C k q9 r → FTh u o k r → ∃ f : Nat → gTr, ∀ t q, t < k + 1 → C.2.1[t]? = some q → fst1 C t q (f t) ∧ FTh u o t (f t) := fun u r eu h1 h2 => by
          refine ⟨fun t => if t = k then r else f t, fun t q ht hq => ?_⟩
          by_cases c9 : t = k
          · subst c9
            rw [hq9] at hq
            cases Option.some.inj hq
            show fst1 C t q9 (if t = t then r else f t) ∧ FTh u o t (if t = t then r else f t)
            rw [if_pos rfl]
            exact ⟨h1, h2⟩
          · show fst1 C t q (if t = k then r else f t) ∧ FTh u o t (if t = k then r else f t)
            rw [if_neg c9]
            obtain ⟨p1, p2⟩ := hf t q (by omega) hq
            exact ⟨p1, FTh_eq (fun k' hk' => eu t k' (by omega) hk') p2⟩
        refine ⟨by rw [vp_in_iff]; omega, fun n0 => ?_, fun c0 => ?_⟩
        · refine ih (k + 1) _ z e9 (by push_cast; omega) hz fz (fun t h1 h2 => h0 t (by omega) h2) hlk (ext z (0, 0, 0, fun _ => 0) (fun _ _ _ _ => rfl) (Or.inl ⟨?_, rfl⟩) ⟨fun j _ j8 => h0 k (Nat.le_refl _) (by omega) j j8, h0 k (Nat.le_refl _) (by omega) 0 (by omega), fun c => absurd c (by show ¬ (0 = 1 ∨ 0 = 3); decide), Nat.zero_le _⟩)
          rw [e73] at n0
          have : ¬ q9.2 = 0 := fun z => n0 (by rw [z]; rfl)
          omega
        · refine kf_rouse hq ho hz _ ei hk (h0 k (Nat.le_refl _) (by omega) 3 (by omega)) hKz hN hq9 (fun u hu fu gu uu hfin => ?_)
          obtain ⟨b1, b2, -⟩ := MG_b hz.1 hz.2.1
          obtain ⟨n9, r, hn9, g0, g2, g3⟩ := hfin
          refine ih (k + 1) _ u e9 (by push_cast; omega) hu (fm_tr fz fu) (fun t h1 h2 j hj => ?_) (fun j h1 h2 => ?_) (ext u r (fun t k' ht hk' => gu t k' (by omega) (by omega)) (Or.inr ⟨?_, n9, hn9⟩) ⟨fun j j3 j8 => ?_, g0, g2, by omega⟩)
          · rw [gu t j (by omega) (by omega)]
            exact h0 t (by omega) h2 j hj
          · rw [uu.2 j (by rw [fz o 7 (by unfold sSt; omega)]; exact h2)]
            exact hlk j h1 h2
          · rw [e73] at c0
            intro z1
            rw [z1] at c0
            exact absurd c0 (by decide)
          · rw [uu.1 j j3 j8]
            exact h0 k (Nat.le_refl _) (by omega) j j8
    -- cells are set
    have loop1 : ∀ (n k : Nat) (i : Int32) (z : gd), i.toInt = k → (x.1 60 6).toInt - k ≤ n → MM z o → fm (sSt o) y3 z → (∀ t j : Nat, rg z o t j = rg y3 o t j) → (∀ j : Nat, (x.1 60 6).toInt ≤ j → (j : Int) < (y3.1 o 7).toInt → z.1 (o + 5) j = 0) → KT G q (d + 5) zk_X5_reset 102 [(0, vr o), (2, vi i)] [] z (rv Fv) := by
      intro n
      induction n with
      | zero =>
        intro k i z ei hn hz fz rz hlk
        refine kg_X5_reset_102 hq ho _ ⟨fun _ => loop2 6 0 _ z rfl (by omega) hz fz (fun t _ ht j hj => by rw [rz]; exact zero t j ht (by omega)) hlk ⟨fun _ => (0, 0, 0, fun _ => 0), fun t q ht => absurd ht (Nat.not_lt_zero _)⟩, fun c => ?_⟩
        exfalso; rw [fz 60 6 (by unfold sSt; omega), h60 6 (by omega), t_le] at c; omega
      | succ n ih =>
        intro k i z ei hn hz fz rz hlk
        refine kg_X5_reset_102 hq ho _ ⟨fun _ => loop2 6 0 _ z rfl (by omega) hz fz (fun t _ ht j hj => by rw [rz]; exact zero t j ht (by omega)) hlk ⟨fun _ => (0, 0, 0, fun _ => 0), fun t q ht => absurd ht (Nat.not_lt_zero _)⟩, fun c => ⟨?_, ?_, fun u eu => ?_⟩⟩
        all_goals rw [fz 60 6 (by unfold sSt; omega), h60 6 (by omega), t_le] at c
        · rw [vp_in_iff]; omega
        · rw [vp_in_iff]; omega
        · have e9 : (i + 1).toInt = ((k + 1 : Nat) : Int) := by rw [t_add (by rw [k1]; omega) (by rw [k1]; omega), ei]; rfl
          have ru : ∀ t j, rg u o t j = rg z o t j := fun t j => rg_low hO (by rw [fz o 7 (by unfold sSt; omega), v7, w7, t_cl]; omega) eu
          exact ih (k + 1) _ u e9 (by push_cast; omega) (MM_low hO hz (fm_w (st_f eu) (fun c k q => sSt_M q)) ru) (fm_tr fz (st_f eu)) (fun t j => by rw [ru]; exact rz t j) (fun j h1 h2 => by rw [eu, si_get, if_neg (fun z => by have := z.2; rw [t_cl] at this; omega)]; exact hlk j h1 h2)
    exact loop1 24 0 _ y3 rfl (by omega) hM3 (fm_rf _ _) (fun _ _ => rfl) (fun j _ h2 => zlow j (by have := MG_b hC3 hG3; omega))
  rw [w3]
  refine ⟨fun c => p67 0 (by rw [if_neg c]; rfl), fun c => p67 16 (by rw [if_pos c]; rfl)⟩

theorem kf_holder (hq : kV q) (ho : kiM q o) (hC : CO x) (hG : MG x o) (l : Int32) (h0 : 0 ≤ l.toInt) (h1 : l.toInt < (x.1 60 9).toInt) (hz : ∀ j : Nat, (x.1 60 6).toInt ≤ j → (j : Int) < (x.1 o 7).toInt → x.1 (o + 5) j = 0) (h : F (-1) x) : KT G q d zk_X5_holder 0 [(0, vr o), (1, vi l)] [] x (ri F) := by
  obtain ⟨e1, e2, e3, e4, e5⟩ := lk_ix hC hG h0 h1
  refine kg_X5_holder_0 hq ho _ ⟨by rw [vp_in_iff]; omega, ri_i ?_⟩
  rw [hz _ (by rw [t_cl]; omega) (by rw [t_cl]; omega)]
  exact h
/-- whether a thread's act can be done, as the run begins -/
theorem kf_canAct (hq : kV q) (ho : kiM q o) (h : MM x o) {f : Nat → gTr} (hK : CK x C) (hN : NC C) (hS : FSc C f x o) (t : Int32) {T : Nat} (et : t.toInt = T) (hT : (T : Int) < (x.1 60 10).toInt) (hF : ∀ r : Int32, (¬ r = 0 → rg x o T 0 = 1) → (¬ r = 0 ↔ canN C f T) → F r x) : KT G q (d + 2) zk_X5_canAct 0 [(0, vr o), (1, vi t)] [] x (ri F) := by
  have hT6 := MM_6 h.1 hT
  have hA := (h.2.2 T hT).1
  obtain ⟨v, e, l⟩ := MM_st h.1 hA
  have hcs := h.1.2.2.2.1 _ l
  have t6 := h.1.1.2.2.1
  have k2 : (2 : Int32).toInt = 2 := rfl
  have nT : (x.1 60 10).toInt = C.2.1.length := hK.2.1.1
  obtain ⟨hs1, hs2, hs3⟩ := hS
  obtain ⟨th1, th2, th3, th4⟩ := hs2 T (by omega)
  have est2 : (rg x o T 2).toInt = (((rg x o T 2).toInt.toNat : Nat) : Int) := by have := hA.1.1; omega
  have g2 : ∀ {H : Int32 → gd → Prop}, H (rg x o T 2) x → KT G q (d + 1) zk_X5_get 0 [(0, vr o), (1, vi t), (2, vi 2)] [] x (ri H) := fun hh => kp_get hq ho h.1 h.2.1 _ _ et (show (2 : Int32).toInt = ((2 : Nat) : Int) from rfl) hT6 (by omega) hh
  have g7 : ∀ {H : Int32 → gd → Prop}, H 0 x → KT G q (d + 1) zk_X5_get 0 [(0, vr o), (1, vi t), (2, vi 7)] [] x (ri H) := fun hh => kp_get hq ho h.1 h.2.1 _ _ et (show (7 : Int32).toInt = ((7 : Nat) : Int) from rfl) hT6 (by omega) (by rw [th1 7 (by omega) (by omega)]; exact hh)
  have one : ∀ t', t' < C.2.1.length → (rg x o t' 0 = 1 ↔ (f t').1 = 1) ∧ (rg x o t' 0).toInt = ((f t').1 : Nat) := fun t' ht' => by
    obtain ⟨-, a2, -, a4⟩ := hs2 t' ht'
    have e9 : (Int32.ofNat (f t').1).toInt = ((f t').1 : Nat) := Int32.toInt_ofNat_of_lt (by omega)
    rw [a2]
    refine ⟨?_, e9⟩
    rw [t_eq, e9]
    show ((f t').1 : Int) = 1 ↔ _
    omega
  refine kg_X5_canAct_0 hq ho _ (kp_isGoing hq ho h.1 h.2.1 _ et hT6 (fun hg => ⟨fun _ => ?_, fun c => absurd c (by decide)⟩) (fun hg => ⟨fun c => absurd rfl c, fun _ => ri_i (hF _ (fun c => absurd rfl c) ⟨fun c => absurd rfl c, fun z => absurd ((one T (by omega)).1.mpr z.1) hg⟩)⟩))
  have f1 := (one T (by omega)).1.mp hg
  have es : (rg x o T 2).toInt.toNat = (f T).2.2.1 := by rw [th3 (Or.inl f1)]; rfl
  obtain ⟨st, hst⟩ : ∃ st, C.1[(rg x o T 2).toInt.toNat]? = some st := ⟨_, List.getElem?_eq_getElem (by
    have : (x.1 80 9).toInt = C.1.length := hK.1.1
    have l' : (((rg x o T 2).toInt.toNat : Nat) : Int) < (x.1 80 9).toInt := l
    omega)⟩
  have hst' : C.1[(f T).2.2.1]? = some st := by rw [← es]; exact hst
  have opE : opN C (f T).2.2.1 = st.1 := by unfold opN; simp only [hst']
  have obE : obN C (f T).2.2.1 = st.2.2.2.2.1.toNatClampNeg := by unfold obN; simp only [hst']
  obtain ⟨k81, -, -, -, k85, -⟩ := hK.1.2 _ st hst
  have yes : ¬ st.1 = 10 → ri F (some (vi 1)) x := fun n10 => ri_i (hF _ (fun _ => hg) ⟨fun _ => ⟨f1, fun z => absurd (opE.symm.trans z) n10⟩, fun _ => by decide⟩)
  have hop22 : st.1 < 22 := (hN.1 _ st hst).1.1
  have n10 : ∀ w : Int32, x.1 81 (rg x o T 2).toInt.toNat = w → ¬ w = 10 → ¬ st.1 = 10 := fun w e1 e2 z => e2 (by rw [← e1, k81, z]; rfl)
  refine g2 ⟨v, ?_⟩
  rw [e]
  refine kp_sortOf hq ho h.1 h.2.1 _ et hT6 hA (fun c3 => ?_) (fun c3 => absurd (th1 3 (by omega) (by omega)) c3)
  refine ⟨fun c => yes ?_, fun c1 => kp_goesLate hq ho h.1 _ est2 l (fun r _ => ⟨fun _ => yes (n10 _ c1 (by decide)), fun _ => g7 ⟨fun z => absurd rfl z, fun _ => yes (n10 _ c1 (by decide))⟩⟩), fun c5 => g7 ⟨fun z => absurd rfl z, fun _ => ?_⟩, fun c15 => ?_, fun c10 => g7 ⟨fun z => absurd rfl z, fun _ => ?_⟩, fun c => g7 ⟨fun z => absurd rfl z, fun _ => yes (n10 _ rfl (c 10 (by decide)))⟩⟩
  · rcases c with c | c | c | c <;> exact n10 _ c (by decide)
  · have h5 : sop x (rg x o T 2).toInt.toNat = 5 := by unfold sop; rw [c5]; rfl
    have hl := hcs.1.2.1 (by omega) (by omega)
    exact kf_holder hq ho h.1 h.2.1 _ hl.1 hl.2 hs3 ⟨fun _ => yes (n10 _ c5 (by decide)), fun z => absurd rfl z⟩
  · exfalso
    refine hcs.2.1.2 ?_
    unfold sop; rw [c15]; rfl
  · have h10 : sop x (rg x o T 2).toInt.toNat = 10 := by unfold sop; rw [c10]; rfl
    obtain ⟨u0, u1⟩ := hcs.1.2.2 (by omega) (by omega)
    have s10 : st.1 = 10 := by
      have a : (x.1 81 (rg x o T 2).toInt.toNat).toInt = 10 := h10
      rw [k81] at a
      rw [Int32.toInt_ofNat_of_lt (by omega)] at a
      omega
    have eo : st.2.2.2.2.1 = x.1 85 (rg x o T 2).toInt.toNat := (k85 (by omega)).symm
    have eu : (x.1 85 (rg x o T 2).toInt.toNat).toInt = (((x.1 85 (rg x o T 2).toInt.toNat).toNatClampNeg : Nat) : Int) := by rw [t_cl]; omega
    have ul : (x.1 85 (rg x o T 2).toInt.toNat).toNatClampNeg < C.2.1.length := by omega
    obtain ⟨uh1, uh2, uh3, uh4⟩ := hs2 _ ul
    have ou := (one _ ul).2
    have can : canN C f T ↔ 2 ≤ (f (x.1 85 (rg x o T 2).toInt.toNat).toNatClampNeg).1 := by
      unfold canN
      rw [opE, obE, eo]
      exact ⟨fun z => z.2 s10, fun z => ⟨f1, fun _ => z⟩⟩
    refine kp_get hq ho h.1 h.2.1 _ _ eu (show (0 : Int32).toInt = ((0 : Nat) : Int) from rfl) (by omega) (by omega) ⟨fun c => ri_i (hF _ (fun z => absurd rfl z) ⟨fun z => absurd rfl z, fun z => ?_⟩), fun c => kp_get hq ho h.1 h.2.1 _ _ eu (show (7 : Int32).toInt = ((7 : Nat) : Int) from rfl) (by omega) (by omega) ?_⟩
    · rw [t_lt, k2] at c
      have := can.mp z
      omega
    · rw [t_lt, k2] at c
      rw [uh1 7 (by omega) (by omega)]
      exact ⟨fun z => absurd rfl z, fun _ => ri_i (hF _ (fun _ => hg) ⟨fun _ => can.mpr (by omega), fun _ => by decide⟩)⟩

theorem FSc_Li (hO : o = 120 ∨ o = 220) {f : Nat → gTr} (fy : fm (sLi o) x y) (h : FSc C f x o) : FSc C f y o := by
  obtain ⟨h1, h2, h3⟩ := h
  refine ⟨h1, fun t ht => FTh_eq (fun k _ => rg_Li hO fy t k) (h2 t ht), fun j a b => ?_⟩
  rw [fy (o + 5) j (by unfold sLi; omega)]
  exact h3 j (by rw [← fy 60 6 (by unfold sLi; omega)]; exact a) (by rw [← fy o 7 (by unfold sLi; omega)]; exact b)
theorem kf_list (hq : kV q) (ho : kiM q o) (h : MM x o) (hL : LSk x o) (t j w : Int32) {T : Nat} (et : t.toInt = T) (hT : (T : Int) < (x.1 60 10).toInt) (hc : (j = -1 ∧ rg x o T 0 = 1) ∨ ∃ J : Nat, j.toInt = J ∧ (J : Int) < (rg x o T 7).toInt) (h84 : (x.1 o 13).toInt < 84) (hF : ∀ y, fm (sLi o) x y → LSk y o → (y.1 o 13).toInt = (x.1 o 13).toInt + 1 → Fv y) : KT G q d zk_X5_list 0 [(0, vr o), (1, vi t), (2, vi j), (3, vi w)] [] x (rv Fv) := by
  have hO := kiM_O ho
  have k84 : (84 : Int32).toInt = 84 := rfl
  obtain ⟨⟨l0, l1⟩, hl⟩ := id hL
  refine kg_X5_list_0 hq ho _ _ _ ⟨fun c => ?_, fun c => ?_⟩
  · exfalso; rw [t_le, k84] at c; omega
  rw [t_le, k84] at c
  have v : vp_in (x.1 o 13) 84 := by rw [vp_in_iff]; omega
  refine ⟨v, fun x3 e3 => ?_⟩
  have q3 : x3.1 o 13 = x.1 o 13 := by rw [e3, si_cell (by omega)]
  refine ⟨by rw [q3]; exact v, fun x5 e5 => ?_⟩
  rw [q3] at e5
  have q5 : x5.1 o 13 = x.1 o 13 := by rw [e5, si_cell (by omega)]; exact q3
  refine ⟨by rw [q5]; exact v, fun x7 e7 z ez => rv_i ?_⟩
  rw [q5] at e7
  have q7 : x7.1 o 13 = x.1 o 13 := by rw [e7, si_cell (by omega)]; exact q5
  rw [q7] at ez
  have f : fm (sLi o) x z := by
    rw [ez, e7, e5, e3]
    exact fm_si (fm_si (fm_si (fm_si (fm_rf _ _) (by unfold sLi; omega)) (by unfold sLi; omega)) (by unfold sLi; omega)) (Or.inl ⟨rfl, rfl⟩)
  have z13 : (z.1 o 13).toInt = (x.1 o 13).toInt + 1 := by
    have : z.1 o 13 = x.1 o 13 + 1 := by rw [ez, si_get, if_pos ⟨rfl, rfl⟩]
    rw [this, t_add (by show _ ≤ _ + (1 : Int); omega) (by show _ + (1 : Int) ≤ _; omega)]; rfl
  have eN : (((x.1 o 13).toNatClampNeg : Nat) : Int) = (x.1 o 13).toInt := by rw [t_cl]; omega
  refine hF z f ⟨by omega, fun i hi => ?_⟩ z13
  have rr := rg_Li hO f
  by_cases hi2 : i = (x.1 o 13).toNatClampNeg
  · have a1 : z.1 (o + 11) i = t := by rw [hi2, ez, si_cell (by omega), e7, si_cell (by omega), e5, si_cell (by omega), e3, si_get, if_pos ⟨rfl, rfl⟩]
    have a2 : z.1 (o + 12) i = j := by rw [hi2, ez, si_cell (by omega), e7, si_cell (by omega), e5, si_get, if_pos ⟨rfl, rfl⟩]
    rw [a1, a2]
    refine ⟨T, et, by rw [f 60 10 (by unfold sLi; omega)]; exact hT, ?_⟩
    rw [rr, rr]; exact hc
  · have a1 : z.1 (o + 11) i = x.1 (o + 11) i := by rw [ez, si_cell (by omega), e7, si_cell (by omega), e5, si_cell (by omega), e3, si_get, if_neg (fun q => hi2 q.2)]
    have a2 : z.1 (o + 12) i = x.1 (o + 12) i := by rw [ez, si_cell (by omega), e7, si_cell (by omega), e5, si_get, if_neg (fun q => hi2 q.2), e3, si_cell (by omega)]
    rw [a1, a2]
    obtain ⟨T2, p1, p2, p3⟩ := hl i (by omega)
    refine ⟨T2, p1, by rw [f 60 10 (by unfold sLi; omega)]; exact p2, ?_⟩
    rw [rr, rr]; exact p3
theorem kf_listAct (hq : kV q) (ho : kiM q o) (h : MM x o) {f : Nat → gTr} (hS : FSc C f x o) (hL : LSk x o) (t : Int32) {T : Nat} (et : t.toInt = T) (hT : (T : Int) < (x.1 60 10).toInt) (hTl : T < C.2.1.length) (hg : rg x o T 0 = 1) (h84 : (x.1 o 13).toInt < 84) (hF : ∀ y, fm (sLi o) x y → LSk y o → (y.1 o 13).toInt = (x.1 o 13).toInt + 1 → Fv y) : KT G q (d + 2) zk_X5_listAct 0 [(0, vr o), (1, vi t)] [] x (rv Fv) := by
  have hO := kiM_O ho
  have hT6 := MM_6 h.1 hT
  have hA := (h.2.2 T hT).1
  obtain ⟨v, e, l⟩ := MM_st h.1 hA
  have hcs := h.1.2.2.2.1 _ l
  have p57 : KT G q (d + 2) zk_X5_listAct 57 [(0, vr o), (1, vi t)] [] x (rv Fv) := kg_X5_listAct_57 hq ho _ (kf_list hq ho h hL _ _ _ et hT (Or.inl ⟨rfl, hg⟩) h84 (fun y fy hy ey => rv_i (hF y fy hy ey)))
  refine kg_X5_listAct_0 hq ho _ (kp_get hq ho h.1 h.2.1 _ _ et (show (2 : Int32).toInt = ((2 : Nat) : Int) from rfl) hT6 (by omega) ⟨v, ?_⟩)
  rw [e]
  refine kp_sortOf hq ho h.1 h.2.1 _ et hT6 hA (fun c3 => ⟨fun _ => p57, fun c8 => ⟨v, fun _ => p57, fun _ => ?_⟩⟩) (fun c3 => ⟨fun _ => p57, fun c8 => absurd c8 (by decide)⟩)
  have h8 : sop x (rg x o T 2).toInt.toNat = 8 := by unfold sop; rw [c8]; rfl
  have hl := hcs.1.2.1 (by omega) (by omega)
  refine kf_holder hq ho h.1 h.2.1 _ hl.1 hl.2 hS.2.2 ⟨fun _ => p57, fun z => ?_⟩
  exfalso
  rw [t_eq, tm1, et] at z
  omega
theorem chN_le {f : Nat → gTr} : ∀ n, chN C f n ≤ n := by
  intro n
  induction n with
  | zero => exact Nat.le_refl _
  | succ n ih =>
    rw [chN]
    split <;> omega
/-- the first choices -/
theorem kf_listChoices (hq : kV q) (ho : kiM q o) (h : MM x o) {f : Nat → gTr} (hK : CK x C) (hN : NC C) (hS : FSc C f x o) (hF : ∀ y, fm (sLi o) x y → LSk y o → (y.1 o 13).toInt = (chN C f C.2.1.length : Nat) → Fv y) : KT G q (d + 3) zk_X5_listChoices 0 [(0, vr o)] [] x (rv Fv) := by
  have hO := kiM_O ho
  have t6 := h.1.1.2.2.1
  have k1 : (1 : Int32).toInt = 1 := rfl
  have nT : (x.1 60 10).toInt = C.2.1.length := hK.2.1.1
  have loop : ∀ (n k : Nat) (t : Int32) (y : gd), t.toInt = k → (k : Int) ≤ (x.1 60 10).toInt → (x.1 60 10).toInt - k ≤ n → fm (sLi o) x y → LSk y o → (y.1 o 13).toInt = (chN C f k : Nat) → KT G q (d + 3) zk_X5_listChoices 7 [(0, vr o), (1, vi t)] [] y (rv Fv) := by
    intro n
    induction n with
    | zero =>
      intro k t y et hkl hn fy hy ey
      have ekk : k = C.2.1.length := by omega
      refine kg_X5_listChoices_7 hq ho _ ⟨fun _ => rv_i (hF y fy hy (by rw [← ekk]; exact ey)), fun c => ?_⟩
      exfalso; rw [fy 60 10 (by unfold sLi; omega), t_le] at c; omega
    | succ n ih =>
      intro k t y et hkl hn fy hy ey
      refine kg_X5_listChoices_7 hq ho _ ⟨fun c => rv_i (hF y fy hy ?_), fun c => ?_⟩
      · rw [fy 60 10 (by unfold sLi; omega), t_le] at c
        have ekk : k = C.2.1.length := by omega
        rw [← ekk]; exact ey
      rw [fy 60 10 (by unfold sLi; omega), t_le] at c
      have hk : (k : Int) < (x.1 60 10).toInt := by omega
      have e1 : (t + 1).toInt = ((k + 1 : Nat) : Int) := by rw [t_add (by rw [k1]; omega) (by rw [k1]; omega), et]; rfl
      have y10 : (k : Int) < (y.1 60 10).toInt := by rw [fy 60 10 (by unfold sLi; omega)]; exact hk
      have inner : ∀ z, fm (sLi o) x z → LSk z o → (z.1 o 13).toInt = (chN C f (k + 1) : Nat) → KT G q (d + 3) zk_X5_listChoices 33 [(0, vr o), (1, vi t), (2, vi 0)] [] z (rv Fv) := by
        intro z fz hz ez
        have hz9 := MM_Li hO fz h
        have z7 : rg z o k 7 = 0 := by rw [rg_Li hO fz]; exact (hS.2.1 k (by omega)).1 7 (by omega) (by omega)
        refine kg_X5_listChoices_33 hq ho _ _ (kp_get hq ho hz9.1 hz9.2.1 _ _ et (show (7 : Int32).toInt = ((7 : Nat) : Int) from rfl) (by omega) (by omega) ?_)
        rw [z7]
        exact ⟨fun _ => ih (k + 1) _ z e1 (by push_cast; omega) (by push_cast; omega) fz hz ez, fun c2 => absurd (by decide) c2⟩
      have hy9 := MM_Li hO fy h
      have hKy : CK y C := CK_f hK (fun c k hc => fy c k (by unfold sLi; omega))
      have hSy := FSc_Li hO fy hS
      have cl := chN_le (C := C) (f := f) k
      refine kf_canAct hq ho hy9 hKy hN hSy _ et y10 (fun r hr hcan => ⟨fun c0 => inner y fy hy ?_, fun c3 => kf_listAct hq ho hy9 hSy hy _ et y10 (by omega) (hr c3) (by omega) (fun z fz hz ez => inner z (fm_tr fy fz) hz ?_)⟩)
      · rw [chN, if_neg (fun z => hcan.mpr z c0), ey]; rfl
      · rw [chN, if_pos (hcan.mp c3), ez, ey]; push_cast; rfl
  refine kg_X5_listChoices_0 hq ho (fun x1 e1 => loop 6 0 _ x1 rfl (by omega) (by omega) (by rw [e1]; exact fm_si (fm_rf _ _) (Or.inl ⟨rfl, rfl⟩)) ⟨?_, fun i hi => ?_⟩ ?_)
  · have : x1.1 o 13 = 0 := by rw [e1, si_get, if_pos ⟨rfl, rfl⟩]
    rw [this]; decide
  · have : x1.1 o 13 = 0 := by rw [e1, si_get, if_pos ⟨rfl, rfl⟩]
    rw [this] at hi
    have k0 : (0 : Int32).toInt = 0 := rfl
    omega
  · have : x1.1 o 13 = 0 := by rw [e1, si_get, if_pos ⟨rfl, rfl⟩]
    rw [this]; rfl
end KRF
