/-! the class: how a run begins -/
/-- a run's beginning, threads below k done -/
noncomputable def fsK (C : gCo) (k : Nat) : gMa := ((fsM C).1, (fsM C).2.1, fun t => if t < k then (fsM C).2.2 t else th0)
section KMZ
variable {G : kG} {q : kP} {d : Nat} {x x0 y z : gd} {o : Nat} {F : Int32 → gd → Prop} {Fv : gd → Prop} {C : gCo} {t k : Nat}
theorem fsK_in (h : t < k) : (fsK C k).2.2 t = (fsM C).2.2 t := by
  show (if t < k then (fsM C).2.2 t else th0) = _
  rw [if_pos h]
theorem fsK_out (h : ¬ t < k) : (fsK C k).2.2 t = th0 := by
  show (if t < k then (fsM C).2.2 t else th0) = _
  rw [if_neg h]
theorem fsM_at {q9 : Nat × Nat} (h : C.2.1[k]? = some q9) : (fsM C).2.2 k = if q9.2 = 1 then th0 else thN C k th0 q9.1 (fun _ => 0) := by
  show (match C.2.1[k]? with | some q => if q.2 = 1 then th0 else thN C k th0 q.1 (fun _ => 0) | none => th0) = _
  rw [h]
theorem fsK_idle {q9 : Nat × Nat} (h : C.2.1[k]? = some q9) (h1 : q9.2 = 1) : fsK C (k + 1) = fsK C k := by
  unfold fsK
  refine Prod.ext rfl (Prod.ext rfl (funext fun i => ?_))
  show (if i < k + 1 then (fsM C).2.2 i else th0) = if i < k then (fsM C).2.2 i else th0
  by_cases c : i < k
  · rw [if_pos c, if_pos (by omega)]
  · rw [if_neg c]
    by_cases c1 : i = k
    · rw [if_pos (by omega), c1, fsM_at h, if_pos h1]
    · rw [if_neg (by omega)]
theorem fsK_go {q9 : Nat × Nat} (h : C.2.1[k]? = some q9) (h1 : ¬ q9.2 = 1) : fsK C (k + 1) = upT (fsK C k) k (thN C k th0 q9.1 (fun _ => 0)) := by
  unfold fsK upT upf
  refine Prod.ext rfl (Prod.ext rfl (funext fun i => ?_))
  show (if i < k + 1 then (fsM C).2.2 i else th0) = if i = k then _ else if i < k then (fsM C).2.2 i else th0
  by_cases c1 : i = k
  · rw [if_pos (by omega), if_pos c1, c1, fsM_at h, if_neg h1]
  · rw [if_neg c1]
    by_cases c : i < k
    · rw [if_pos c, if_pos (by omega)]
    · rw [if_neg c, if_neg (by omega)]
theorem kh_reset (hq : kV q) (ho : kiM q o) (hC : CO x) (hK : CK x C) (hN : NC C) (w : Int32) (hw : w = 0 ∨ w = 1) (hF : ∀ y, MM y o → fm (sRe o) x y → y.1 o 3 = w → KMm y o C (fsM C) → Fv y) : KT G q (d + 5) zk_X5_reset 0 [(0, vr o), (1, vi w)] [] x (rv Fv) := by
  have hO := kiM_O ho
  have k0 : (0 : Int32).toInt = 0 := rfl
  have k1 : (1 : Int32).toInt = 1 := rfl
  have k2 : (2 : Int32).toInt = 2 := rfl
  have k8 : (8 : Int32).toInt = 8 := rfl
  have k16 : (16 : Int32).toInt = 16 := rfl
  obtain ⟨c1, c2, c3, c4, -⟩ := hC.1
  refine kg_X5_reset_0 hq ho _ (fun x1 e1 x2 e2 x3 e3 x4 e4 => ?_)
  have f4 : fm (sRe o) x x4 := by
    rw [e4, e3, e2, e1]
    exact fm_si (fm_si (fm_si (fm_si (fm_rf _ _) (by unfold sRe; omega)) (by unfold sRe; omega)) (by unfold sRe; omega)) (by unfold sRe; omega)
  have g60 : ∀ k, ¬ k = 5 → x4.1 60 k = x.1 60 k := fun k hk => f4 _ _ (by unfold sRe; omega)
  have q1 : ∀ k, x1.1 60 k = x.1 60 k := fun k => by rw [e1, si_cell (by omega)]
  have q2 : ∀ k, x2.1 60 k = x.1 60 k := fun k => by rw [e2, si_cell (by omega)]; exact q1 k
  have q3 : ∀ k, x3.1 60 k = x.1 60 k := fun k => by rw [e3, si_cell (by omega)]; exact q2 k
  have w3 : x4.1 o 3 = w := by rw [e4, e3, e2, e1]; (simp only [si_get, sfl_get, Nat.reduceEqDiff, eq_self, and_false, false_and, and_true, true_and, if_true, if_false, reduceIte, reduceCtorEq])
  have w6 : x4.1 o 6 = x.1 60 6 := by rw [e4, e3, e2, q1]; (simp only [si_get, sfl_get, Nat.reduceEqDiff, eq_self, and_false, false_and, and_true, true_and, if_true, if_false, reduceIte, reduceCtorEq])
  have w7 : (x4.1 o 7).toInt = (x.1 60 6).toInt + 2 * (x.1 60 9).toInt := by
    have : x4.1 o 7 = x.1 60 6 + 2 * x.1 60 9 := by
      have x26 : x2.1 o 6 = x.1 60 6 := by rw [e2, q1]; (simp only [si_get, sfl_get, Nat.reduceEqDiff, eq_self, and_false, false_and, and_true, true_and, if_true, if_false, reduceIte, reduceCtorEq])
      rw [e4, e3, x26, q2]; (simp only [si_get, sfl_get, Nat.reduceEqDiff, eq_self, and_false, false_and, and_true, true_and, if_true, if_false, reduceIte, reduceCtorEq])
    have em : (2 * x.1 60 9).toInt = 2 * (x.1 60 9).toInt := by rw [t_mul (by rw [k2]; omega) (by rw [k2]; omega), k2]
    rw [this, t_add (by omega) (by omega), em]
  have w9 : (x4.1 o 9).toInt = 8 + (x.1 60 13).toInt := by
    have : x4.1 o 9 = 8 + x.1 60 13 := by rw [e4, q3]; (simp only [si_get, sfl_get, Nat.reduceEqDiff, eq_self, and_false, false_and, and_true, true_and, if_true, if_false, reduceIte, reduceCtorEq])
    rw [this, t_add (by rw [k8]; omega) (by rw [k8]; omega), k8]
  have p67 : ∀ s : Int32, s.toInt = (if w = 1 then 16 else 0) → KT G q (d + 5) zk_X5_reset 67 [(0, vr o)] [vi s, vi (x4.1 o 9), vr o] x4 (rv Fv) := by
    intro s hs
    have hs2 : 0 ≤ s.toInt ∧ s.toInt ≤ 16 := by rw [hs]; split <;> omega
    refine kg_X5_reset_67 hq ho _ _ (fun y1 ey1 y2 ey2 y3 ey3 => ?_)
    have f2 : fm (sRe o) x y2 := by rw [ey2, ey1]; exact fm_si (fm_si f4 (by unfold sRe; omega)) (by unfold sRe; omega)
    have f3 : fm (sRe o) x y3 := by rw [ey3]; exact fm_fl f2 (fun k _ => by unfold sRe; omega)
    have h60 : ∀ k, ¬ k = 5 → y3.1 60 k = x.1 60 k := fun k hk => f3 _ _ (by unfold sRe; omega)
    have yo : ∀ k, y3.1 o k = y2.1 o k := fun k => by rw [ey3, sfl_get, if_neg (by omega)]
    have v8 : (y3.1 o 8).toInt = 8 + (x.1 60 13).toInt + s.toInt := by
      have : y3.1 o 8 = x4.1 o 9 + s := by rw [yo, ey2, ey1]; (simp only [si_get, sfl_get, Nat.reduceEqDiff, eq_self, and_false, false_and, and_true, true_and, if_true, if_false, reduceIte, reduceCtorEq])
      rw [this, t_add (by omega) (by omega), w9]
    have v7 : y3.1 o 7 = x4.1 o 7 := by rw [yo, ey2, ey1]; (simp only [si_get, sfl_get, Nat.reduceEqDiff, eq_self, and_false, false_and, and_true, true_and, if_true, if_false, reduceIte, reduceCtorEq])
    have v3 : y3.1 o 3 = w := by rw [yo, ey2, ey1]; (simp only [si_get, sfl_get, Nat.reduceEqDiff, eq_self, and_false, false_and, and_true, true_and, if_true, if_false, reduceIte, reduceCtorEq]); exact w3
    have v6 : y3.1 o 6 = x.1 60 6 := by rw [yo, ey2, ey1]; (simp only [si_get, sfl_get, Nat.reduceEqDiff, eq_self, and_false, false_and, and_true, true_and, if_true, if_false, reduceIte, reduceCtorEq]); exact w6
    have v9 : (y3.1 o 9).toInt = 8 + (x.1 60 13).toInt := by
      have : y3.1 o 9 = x4.1 o 9 := by rw [yo, ey2, ey1]; (simp only [si_get, sfl_get, Nat.reduceEqDiff, eq_self, and_false, false_and, and_true, true_and, if_true, if_false, reduceIte, reduceCtorEq])
      rw [this]; exact w9
    have v5 : (y3.1 o 5).toInt = (y3.1 o 7).toInt + (y3.1 o 8).toInt * (x.1 60 10).toInt := by
      have a1 : y3.1 o 5 = y1.1 o 7 + y1.1 o 8 * y1.1 60 10 := by rw [yo, ey2]; (simp only [si_get, sfl_get, Nat.reduceEqDiff, eq_self, and_false, false_and, and_true, true_and, if_true, if_false, reduceIte, reduceCtorEq])
      have a2 : y1.1 o 7 = y3.1 o 7 := by rw [v7, ey1]; (simp only [si_get, sfl_get, Nat.reduceEqDiff, eq_self, and_false, false_and, and_true, true_and, if_true, if_false, reduceIte, reduceCtorEq])
      have a3 : y1.1 o 8 = y3.1 o 8 := by rw [yo, ey2]; (simp only [si_get, sfl_get, Nat.reduceEqDiff, eq_self, and_false, false_and, and_true, true_and, if_true, if_false, reduceIte, reduceCtorEq])
      have a4 : y1.1 60 10 = x.1 60 10 := by rw [ey1, si_cell (by omega)]; exact g60 10 (by omega)
      have hm : 0 ≤ (y3.1 o 8).toInt * (x.1 60 10).toInt ∧ (y3.1 o 8).toInt * (x.1 60 10).toInt ≤ 192 := by
        have : (x.1 60 10).toInt = 0 ∨ (x.1 60 10).toInt = 1 ∨ (x.1 60 10).toInt = 2 ∨ (x.1 60 10).toInt = 3 ∨ (x.1 60 10).toInt = 4 ∨ (x.1 60 10).toInt = 5 ∨ (x.1 60 10).toInt = 6 := by omega
        rcases this with e | e | e | e | e | e | e <;> rw [e] <;> omega
      have em := t_mul (a := y3.1 o 8) (b := x.1 60 10) (by omega) (by omega)
      rw [a1, a2, a3, a4, t_add (by rw [v7]; omega) (by rw [v7]; omega), em]
    have hC3 : CO y3 := CO_fm hC (fun c k hc => f3 c k (by unfold sRe; omega))
    have hG3 : MG y3 o := by
      unfold MG
      rw [h60 6 (by omega), h60 9 (by omega), h60 13 (by omega), h60 10 (by omega), v3, v6, v9, v8, v7, w7]
      refine ⟨hw, rfl, rfl, rfl, ?_, ?_⟩
      · rw [hs]
      · rw [v5, v8, v7, w7]
    have zero : ∀ t k : Nat, t < 6 → k < 32 → rg y3 o t k = 0 := by
      intro t k ht hk
      obtain ⟨b1, b2, -⟩ := MG_b hC3 hG3
      have hlt : pa y3 o t k < 228 := by
        unfold pa
        have : t * (y3.1 o 8).toInt.toNat ≤ 5 * 32 := Nat.mul_le_mul (by omega) (by omega)
        omega
      show y3.1 (o + 5) (pa y3 o t k) = 0
      generalize pa y3 o t k = n at hlt ⊢
      rw [ey3, sfl_get, if_pos ⟨rfl, hlt⟩]
    have zlow : ∀ j : Nat, j < 228 → y3.1 (o + 5) j = 0 := fun j hj => by rw [ey3, sfl_get, if_pos ⟨rfl, hj⟩]
    have hK3 : CK y3 C := CK_f hK (fun c k hc => f3 c k (by unfold sRe; omega))
    have nT : (x.1 60 10).toInt = C.2.1.length := hK.2.1.1
    have hM3 : MM y3 o := by
      refine ⟨hC3, hG3, fun t ht => ?_⟩
      have ht6 := MM_6 hC3 ht
      have h0 := fun k hk => zero t k ht6 hk
      have hs0 := hC3.2.2.2.2 t ht
      refine ⟨⟨?_, ?_, fun _ => h0 7 (by omega), fun j hj => ?_, fun _ => h0 3 (by omega)⟩, fun c => ?_⟩
      · rw [h0 2 (by omega), k0]; omega
      · rw [h0 7 (by omega)]; decide
      · rw [h0 7 (by omega), k0] at hj; omega
      · rw [h0 0 (by omega)] at c; exact absurd c (by decide)
    have fin : ∀ (z : gd) (k : Nat) (i : Int32), i.toInt = k → MM z o → fm (sSt o) y3 z → KMm z o C (fsK C k) → k ≤ C.2.1.length → z.1 60 10 ≤ i → Fv z := by
      intro z k i ei hz fz gz hk c
      have z10 : z.1 60 10 = x.1 60 10 := by rw [fz 60 10 (by unfold sSt; omega), h60 10 (by omega)]
      rw [z10, t_le] at c
      have ek : k = C.2.1.length := by omega
      refine hF z hz (fm_tr f3 (fm_w fz (fun c k q => by unfold sSt at q; unfold sRe; omega))) (by rw [fz o 3 (by unfold sSt; omega)]; exact v3) ⟨gz.1, fun t ht => ?_⟩
      have := gz.2 t ht
      rw [fsK_in (by omega)] at this
      exact this
    -- threads are roused
    have loop2 : ∀ (n k : Nat) (i : Int32) (z : gd), i.toInt = k → k ≤ C.2.1.length → (x.1 60 10).toInt - k ≤ n → MM z o → fm (sSt o) y3 z → KMm z o C (fsK C k) → KT G q (d + 5) zk_X5_reset 136 [(0, vr o), (2, vi i)] [] z (rv Fv) := by
      intro n
      induction n with
      | zero =>
        intro k i z ei hk hn hz fz gz
        refine kg_X5_reset_136 hq ho _ ⟨fun c => rv_i (fin z k i ei hz fz gz hk c), fun c => ?_⟩
        exfalso; rw [fz 60 10 (by unfold sSt; omega), h60 10 (by omega), t_le] at c; omega
      | succ n ih =>
        intro k i z ei hk hn hz fz gz
        have z10 : z.1 60 10 = x.1 60 10 := by rw [fz 60 10 (by unfold sSt; omega), h60 10 (by omega)]
        refine kg_X5_reset_136 hq ho _ ⟨fun c => rv_i (fin z k i ei hz fz gz hk c), fun c => ?_⟩
        rw [z10, t_le] at c
        have e9 : (i + 1).toInt = ((k + 1 : Nat) : Int) := by rw [t_add (by rw [k1]; omega) (by rw [k1]; omega), ei]; rfl
        have kl : k < C.2.1.length := by omega
        obtain ⟨q9, hq9⟩ : ∃ q9, C.2.1[k]? = some q9 := ⟨_, List.getElem?_eq_getElem kl⟩
        have hKz : CK z C := CK_St hO hK3 fz
        have e73 : z.1 73 i.toNatClampNeg = Int32.ofNat q9.2 := by
          have eN : i.toNatClampNeg = k := by rw [t_cl, ei]; rfl
          rw [eN]; exact (hKz.2.1.2 k q9 hq9).2
        have q1 := (hN.2.1 q9 (List.mem_of_getElem? hq9)).2
        have tk : (fsK C k).2.2 k = th0 := fsK_out (Nat.lt_irrefl _)
        refine ⟨by rw [vp_in_iff]; omega, fun n0 => ?_, fun c0 => ?_⟩
        · refine ih (k + 1) _ z e9 (by omega) (by push_cast; omega) hz fz ?_
          rw [e73] at n0
          have : ¬ q9.2 = 0 := fun z => n0 (by rw [z]; rfl)
          rw [fsK_idle hq9 (by omega)]
          exact gz
        · refine kh_rouseM hq ho hz hKz hN gz _ ei kl (by rw [tk]; rfl) (by rw [tk]; rfl) (by rw [tk]; rfl) hq9 (fun u hu fu gu => ih (k + 1) _ u e9 (by omega) (by push_cast; omega) hu (fm_tr fz fu) ?_)
          rw [tk] at gu
          rw [fsK_go hq9 (fun z1 => by rw [e73, z1] at c0; exact absurd c0 (by decide))]
          exact gu
    -- cells are set
    have nC : (x.1 60 6).toInt = C.2.2.1.length := hK.2.2.1.1
    have m13 := hC.1.2.2.2.1
    have go2 : ∀ (z : gd) (k : Nat), (x.1 60 6).toInt ≤ k → MM z o → fm (sSt o) y3 z → (∀ t j : Nat, rg z o t j = rg y3 o t j) → (∀ j : Nat, (x.1 60 6).toInt ≤ j → (j : Int) < (y3.1 o 7).toInt → z.1 (o + 5) j = 0) → (∀ c : Nat, c < k → (c : Int) < (x.1 60 6).toInt → z.1 (o + 5) c = (fsM C).1 c) → KMm z o C (fsK C 0) := by
      intro z k hk hz fz rz hlk hc
      have z6 : z.1 60 6 = x.1 60 6 := by rw [fz 60 6 (by unfold sSt; omega), h60 6 (by omega)]
      have z9 : z.1 60 9 = x.1 60 9 := by rw [fz 60 9 (by unfold sSt; omega), h60 9 (by omega)]
      have z13 : z.1 60 13 = x.1 60 13 := by rw [fz 60 13 (by unfold sSt; omega), h60 13 (by omega)]
      refine ⟨⟨fun c hc' => ?_, fun l hl => ?_⟩, fun t ht => ?_⟩
      · rw [z6] at hc'; exact hc c (by omega) hc'
      · rw [z9] at hl
        rw [z6, hlk _ (by omega) (by rw [v7, w7]; omega), hlk _ (by omega) (by rw [v7, w7]; omega)]
        exact ⟨rfl, Nat.zero_le _, rfl⟩
      · rw [fsK_out (Nat.not_lt_zero _)]
        have t6 : t < 6 := by omega
        have zz : ∀ j, j < 32 → rg z o t j = 0 := fun j hj => by rw [rz]; exact zero t j t6 hj
        refine ⟨⟨by rw [zz 0 (by omega)]; rfl, by show (0 : Nat) ≤ 3; decide⟩, by rw [zz 1 (by omega)]; rfl, by rw [zz 2 (by omega)]; rfl, ⟨by rw [zz 3 (by omega)]; rfl, by rw [zz 5 (by omega)]; rfl, by show (0 : Nat) ≤ 2; decide, fun z => absurd rfl z⟩, by rw [zz 4 (by omega)]; rfl, by rw [zz 6 (by omega)]; decide, ⟨by rw [zz 7 (by omega)]; rfl, (fun i p hp => nomatch hp)⟩, fun p hp => ?_, fun c => ?_⟩
        · rw [z13] at hp
          rw [zz (8 + p) (by omega)]; rfl
        · have c : (0 : Nat) = 1 ∨ (0 : Nat) = 3 := c
          omega
    have loop1 : ∀ (n k : Nat) (i : Int32) (z : gd), i.toInt = k → (x.1 60 6).toInt - k ≤ n → MM z o → fm (sSt o) y3 z → (∀ t j : Nat, rg z o t j = rg y3 o t j) → (∀ j : Nat, (x.1 60 6).toInt ≤ j → (j : Int) < (y3.1 o 7).toInt → z.1 (o + 5) j = 0) → (∀ c : Nat, c < k → (c : Int) < (x.1 60 6).toInt → z.1 (o + 5) c = (fsM C).1 c) → KT G q (d + 5) zk_X5_reset 102 [(0, vr o), (2, vi i)] [] z (rv Fv) := by
      intro n
      induction n with
      | zero =>
        intro k i z ei hn hz fz rz hlk hcs
        refine kg_X5_reset_102 hq ho _ ⟨fun _ => loop2 6 0 _ z rfl (by omega) (by omega) hz fz (go2 z k (by omega) hz fz rz hlk hcs), fun c => ?_⟩
        exfalso; rw [fz 60 6 (by unfold sSt; omega), h60 6 (by omega), t_le] at c; omega
      | succ n ih =>
        intro k i z ei hn hz fz rz hlk hcs
        have z6 : z.1 60 6 = x.1 60 6 := by rw [fz 60 6 (by unfold sSt; omega), h60 6 (by omega)]
        refine kg_X5_reset_102 hq ho _ ⟨fun c => loop2 6 0 _ z rfl (by omega) (by omega) hz fz (go2 z k (by rw [z6, t_le] at c; omega) hz fz rz hlk hcs), fun c => ?_⟩
        rw [z6, t_le] at c
        refine ⟨by rw [vp_in_iff]; omega, by rw [vp_in_iff]; omega, fun u eu => ?_⟩
        have eN : i.toNatClampNeg = k := by rw [t_cl, ei]; rfl
        rw [eN] at eu
        have e9 : (i + 1).toInt = ((k + 1 : Nat) : Int) := by rw [t_add (by rw [k1]; omega) (by rw [k1]; omega), ei]; rfl
        have hKz : CK z C := CK_St hO hK3 fz
        obtain ⟨cq, hcq⟩ : ∃ cq, C.2.2.1[k]? = some cq := ⟨_, List.getElem?_eq_getElem (by omega)⟩
        have e68 : z.1 68 k = cq.1 := (hKz.2.2.1.2 k cq hcq).1
        have fk : (fsM C).1 k = cq.1 := by show (match C.2.2.1[k]? with | some q => q.1 | none => 0) = _; rw [hcq]
        have ru : ∀ t j, rg u o t j = rg z o t j := fun t j => rg_low hO (by rw [fz o 7 (by unfold sSt; omega), v7, w7]; omega) eu
        have fu : fm (sSt o) z u := st_f eu
        refine ih (k + 1) _ u e9 (by push_cast; omega) (MM_low hO hz (fm_w fu (fun c k q => sSt_M q)) ru) (fm_tr fz fu) (fun t j => by rw [ru, rz]) (fun j h1 h2 => ?_) (fun c' h1 h2 => ?_)
        · rw [eu, si_get, if_neg (fun z => by omega)]; exact hlk j h1 h2
        · rw [eu, si_get]
          by_cases ck : c' = k
          · rw [if_pos ⟨rfl, ck⟩, ck, fk]; exact e68
          · rw [if_neg (fun z => ck z.2)]; exact hcs c' (by omega) h2
    exact loop1 24 0 _ y3 rfl (by omega) hM3 (fm_rf _ _) (fun _ _ => rfl) (fun j _ h2 => zlow j (by have := MG_b hC3 hG3; omega)) (fun c1 h1 => absurd h1 (Nat.not_lt_zero _))
  rw [w3]
  refine ⟨fun c => p67 0 (by rw [if_neg c]; rfl), fun c => p67 16 (by rw [if_pos c]; rfl)⟩
end KMZ
