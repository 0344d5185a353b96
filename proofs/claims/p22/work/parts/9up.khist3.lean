/-! the class: histories, with what they answer -/
/-- bits under 12 -/
def mb (u : Int32) (P : Nat → Bool) : Prop := ∀ i, i < 32 → bt u i = (decide (i < 12) && P i)
section MBT
variable {u v : Int32} {A P : Nat → Bool} {c : Nat}
theorem bt_and (a b : Int32) (i : Nat) : bt (a &&& b) i = (bt a i && bt b i) := by
  unfold bt
  rw [Int32.toBitVec_and, BitVec.getLsbD_and]
theorem bt_not {i : Nat} (hi : i < 32) : bt (v ^^^ (-1)) i = !bt v i := by
  have m : ((-1 : Int32).toBitVec).getLsbD i = true := by
    have e : (-1 : Int32).toBitVec = BitVec.allOnes 32 := rfl
    rw [e, BitVec.getLsbD_allOnes]
    exact decide_eq_true hi
  unfold bt
  rw [Int32.toBitVec_xor, BitVec.getLsbD_xor, m]
  cases v.toBitVec.getLsbD i <;> rfl
theorem bt_zero {i : Nat} : bt 0 i = false := by
  unfold bt
  show ((0#32).getLsbD i) = false
  exact BitVec.getLsbD_zero
theorem bt_eq0 : u = 0 ↔ ∀ i, i < 32 → bt u i = false := by
  constructor
  · intro h i _
    rw [h]; exact bt_zero
  · intro h
    apply Int32.toBitVec_inj.mp
    apply BitVec.eq_of_getLsbD_eq
    intro i hi
    have a := h i hi
    have b : bt 0 i = false := bt_zero
    unfold bt at a b
    rw [a, b]
theorem mb_0 : mb 0 (fun _ => false) := fun i hi => by rw [bt_zero, Bool.and_false]
theorem mb_cg (h : mb u A) (g : ∀ i, i < 12 → A i = P i) : mb u P := fun i hi => by
  rw [h i hi]
  by_cases c : i < 12
  · rw [g i c]
  · rw [decide_eq_false c, Bool.false_and, Bool.false_and]
theorem mb_or {i : Int32} (h : mb u P) (ei : i.toInt = (c : Nat)) (hc : c < 12) : mb (u ||| (1 <<< (i &&& 31 : Int32))) (upf P c true) := fun j hj => by
  have q := bt_bc (c := i) (by omega) (by omega) hj
  have cc : i.toNatClampNeg = c := by rw [t_cl, ei]; rfl
  unfold bc at q
  rw [bt_or, q, cc, h j hj]
  by_cases e : j = c
  · rw [e, upf_eq, decide_eq_true rfl, decide_eq_true hc, Bool.or_true]; rfl
  · rw [upf_ne e, decide_eq_false e, Bool.or_false]
theorem mb_sub (h : mb u A) (g : mb v P) : (u &&& (v ^^^ (-1))) = 0 ↔ ∀ i, i < 12 → A i = true → P i = true := by
  rw [bt_eq0]
  constructor
  · intro z i hi ha
    have := z i (by omega)
    rw [bt_and, bt_not (by omega), h i (by omega), g i (by omega), decide_eq_true hi, Bool.true_and, Bool.true_and, ha, Bool.true_and] at this
    cases hp : P i with
    | true => rfl
    | false => rw [hp] at this; exact nomatch this
  · intro z i hi
    rw [bt_and, bt_not hi, h i hi, g i hi]
    by_cases c : i < 12
    · rw [decide_eq_true c, Bool.true_and, Bool.true_and]
      cases ha : A i with
      | false => rfl
      | true => rw [z i c ha]; rfl
    · rw [decide_eq_false c, Bool.false_and, Bool.false_and]
theorem mb_dif (h : mb u A) (g : mb v P) : mb (u &&& (v ^^^ (-1))) (fun i => A i && !P i) := fun i hi => by
  rw [bt_and, bt_not hi, h i hi, g i hi]
  by_cases c : i < 12
  · rw [decide_eq_true c, Bool.true_and, Bool.true_and, Bool.true_and]
  · rw [decide_eq_false c, Bool.false_and, Bool.false_and, Bool.false_and]
theorem mb_bit {i : Int32} (h : mb u A) (ei : i.toInt = (c : Nat)) (hc : c < 12) : (u &&& (1 <<< (i &&& 31 : Int32))) = 0 ↔ A c = false := by
  have cc : i.toNatClampNeg = c := by rw [t_cl, ei]; rfl
  have q : ∀ j, j < 32 → bt (1 <<< (i &&& 31 : Int32)) j = decide (j = c) := fun j hj => by
    have q := bt_bc (c := i) (by omega) (by omega) hj
    unfold bc at q
    rw [q, cc]
  rw [bt_eq0]
  constructor
  · intro z
    have := z c (by omega)
    rw [bt_and, q c (by omega), h c (by omega), decide_eq_true hc, decide_eq_true rfl, Bool.true_and, Bool.and_true] at this
    exact this
  · intro z j hj
    rw [bt_and, q j hj, h j hj]
    by_cases e : j = c
    · rw [e, z, Bool.and_false, Bool.false_and]
    · rw [decide_eq_false e, Bool.and_false]
end MBT
/-- a set in a row, from a place on -/
def hsT (x : gd) (a b : Nat) (S : Nat × (Int32 → Bool)) : Prop := (∀ v, S.2 v = true ↔ ∃ i, i < S.1 ∧ x.1 a (i + b) = v) ∧ ∀ i j, i < S.1 → j < S.1 → x.1 a (i + b) = x.1 a (j + b) → i = j
/-- the row a holds what stands -/
def HS (x : gd) (s : Nat) (st : gHt) (a : Nat) : Prop := (s = 0 → x.1 a 0 = st.1) ∧ (s = 1 ∨ s = 2 → (x.1 a 0).toInt = (st.2.1.1 : Nat) ∧ ∀ i, i < st.2.1.1 → x.1 a (i + 1) = st.2.1.2 i) ∧ (s = 3 → (x.1 a 0).toInt = (st.2.2.1 : Nat) ∧ hsT x a 1 st.2.2)
def HBd (s : Nat) (st : gHt) (D : Nat) : Prop := (s = 1 ∨ s = 2 → st.2.1.1 ≤ D) ∧ (s = 3 → st.2.2.1 ≤ D)
theorem HBd_0 {s : Nat} : HBd s hs0 0 := ⟨fun _ => Nat.le_refl _, fun _ => Nat.le_refl _⟩
theorem sv_le {s D : Nat} {st : gHt} {k v : Int32} (h : HBd s st D) : HBd s (svH s st k v).2 (D + 1) := by
  refine ⟨fun c => ?_, fun c => ?_⟩
  · have b := h.1 c
    unfold svH
    rw [if_neg (by omega), if_neg (by omega)]
    by_cases c0 : k = 0
    · rw [if_pos c0]; show st.2.1.1 + 1 ≤ D + 1; omega
    · rw [if_neg c0]
      by_cases c1 : k = 1
      · rw [if_pos c1]
        by_cases z : st.2.1.1 = 0
        · rw [if_pos z]; show st.2.1.1 ≤ D + 1; omega
        · rw [if_neg z]
          by_cases s1 : s = 1
          · rw [if_pos s1]; show st.2.1.1 - 1 ≤ D + 1; omega
          · rw [if_neg s1]; show st.2.1.1 - 1 ≤ D + 1; omega
      · rw [if_neg c1]
        by_cases c2 : k = 2
        · rw [if_pos c2]; show st.2.1.1 ≤ D + 1; omega
        · rw [if_neg c2]; show 0 ≤ D + 1; omega
  · have b := h.2 c
    unfold svH
    rw [if_neg (by omega), if_pos c]
    by_cases c0 : k = 0
    · rw [if_pos c0]
      by_cases m : st.2.2.2 v = true
      · rw [if_pos m]; show st.2.2.1 ≤ D + 1; omega
      · rw [if_neg m]; show st.2.2.1 + 1 ≤ D + 1; omega
    · rw [if_neg c0]
      by_cases c1 : k = 1
      · rw [if_pos c1]
        by_cases m : st.2.2.2 v = true
        · rw [if_pos m]; show st.2.2.1 - 1 ≤ D + 1; omega
        · rw [if_neg m]; show st.2.2.1 ≤ D + 1; omega
      · rw [if_neg c1]
        by_cases c2 : k = 2
        · rw [if_pos c2]; show st.2.2.1 ≤ D + 1; omega
        · rw [if_neg c2]; show st.2.2.1 ≤ D + 1; omega
section KHS
variable {G : kG} {q : kP} {d : Nat} {x x0 y z : gd} {F : Int32 → gd → Prop} {Fv : gd → Prop} {L : Nat}
theorem kt_append (hq : kV q) (hh : q.hi = true) {a : Nat} (ka : kK a = .inr (.int, 14)) (ma : a ∈ (kf q).2.1) (v : Int32) (hl : (x.1 a 0).toInt = (L : Nat)) (l12 : L < 12) (h : ∀ y, fm (fun c k => c = a) x y → (y.1 a 0).toInt = ((L + 1 : Nat) : Int) → y.1 a (L + 1) = v → (∀ i, i < L → y.1 a (i + 1) = x.1 a (i + 1)) → Fv y) : KT G q d zk_X3_append 0 [(0, vr a), (1, vi v)] [] x (rv Fv) := by
  have k12 : (12 : Int32).toInt = 12 := rfl
  refine kg_X3_append_0 hq hh ka ma _ ⟨vin0 (by omega), fun c => ?_, fun c => ⟨vin0 (by omega), vin0 (by omega), fun x5 e5 => ⟨vin0 (by omega), ?_⟩⟩⟩
  · rw [tn0, t_le, k12] at c; omega
  rw [tn0] at c e5 ⊢
  have e1 : (x.1 a 0 + 1).toInt = ((L + 1 : Nat) : Int) := by rw [t_add (by show _ ≤ _ + (1 : Int); omega) (by show _ + (1 : Int) ≤ _; omega), hl]; rfl
  have g0 : x5.1 a 0 = x.1 a 0 + 1 := by rw [e5]; (simp only [si_get, sfl_get, Nat.reduceEqDiff, eq_self, and_false, false_and, and_true, true_and, if_true, if_false, reduceIte, reduceCtorEq])
  refine ⟨by rw [vp_in_iff, g0]; omega, fun z ez => rv_i (h z ?_ ?_ ?_ (fun i hi => ?_))⟩
  · rw [ez, e5]; exact fm_si (fm_si (fm_rf _ _) rfl) rfl
  all_goals have cL : (x5.1 a 0).toNatClampNeg = L + 1 := by rw [t_cl, g0, e1]; rfl
  all_goals rw [cL] at ez
  · rw [ez, si_get, if_neg (by omega), g0]; exact e1
  · rw [ez, si_get, if_pos ⟨rfl, rfl⟩]
  · rw [ez, si_get, if_neg (by omega), e5, si_get, if_neg (by omega)]
theorem kt_findv (hq : kV q) (hh : q.hi = true) {a : Nat} (ka : kK a = .inr (.int, 14)) (ma : a ∈ (kf q).2.1) (v : Int32) (hl : (x.1 a 0).toInt = (L : Nat)) (l12 : L ≤ 12) (h : ∀ r : Int32, ((r = -1 ∧ ∀ i, i < L → ¬ x.1 a (i + 1) = v) ∨ ∃ i, i < L ∧ r.toInt = ((i + 1 : Nat) : Int) ∧ x.1 a (i + 1) = v) → F r x) : KT G q d zk_X3_find 0 [(0, vr a), (1, vi v)] [] x (ri F) := by
  have loop : ∀ (n k : Nat) (i : Int32), i.toInt = ((k + 1 : Nat) : Int) → k ≤ L → (∀ j, j < k → ¬ x.1 a (j + 1) = v) → L - k ≤ n → KT G q d zk_X3_find 2 [(0, vr a), (1, vi v), (2, vi i)] [] x (ri F) := by
    intro n
    have fin : ∀ (k : Nat) (i : Int32), i.toInt = ((k + 1 : Nat) : Int) → (∀ j, j < k → ¬ x.1 a (j + 1) = v) → x.1 a (0 : Int32).toNatClampNeg < i → ri F (some (vi (-1))) x := fun k i ei hk c => by
      rw [tn0, t_lt] at c
      exact ri_i (h _ (Or.inl ⟨rfl, fun j hj => hk j (by omega)⟩))
    induction n with
    | zero =>
      intro k i ei kl hk hn
      refine kg_X3_find_2 hq hh ka ma _ _ ⟨vin0 (by omega), fun c => fin k i ei hk c, fun c => ?_⟩
      rw [tn0, t_lt] at c; omega
    | succ n ih =>
      intro k i ei kl hk hn
      refine kg_X3_find_2 hq hh ka ma _ _ ⟨vin0 (by omega), fun c => fin k i ei hk c, fun c => ?_⟩
      rw [tn0, t_lt] at c
      have e1 : (i + 1).toInt = ((k + 1 + 1 : Nat) : Int) := by rw [t_add (by show _ ≤ _ + (1 : Int); omega) (by show _ + (1 : Int) ≤ _; omega), ei]; rfl
      have ci : i.toNatClampNeg = k + 1 := by rw [t_cl, ei]; rfl
      rw [ci]
      refine ⟨by rw [vp_in_iff]; omega, fun ne => ih (k + 1) _ e1 (by omega) (fun j hj => ?_) (by omega), fun e => ri_i (h _ (Or.inr ⟨k, by omega, ei, e⟩))⟩
      by_cases cj : j = k
      · rw [cj]; exact ne
      · exact hk j (by omega)
  exact kg_X3_find_0 hq hh ka ma _ (loop L 0 _ rfl (by omega) (fun j hj => absurd hj (Nat.not_lt_zero _)) (by omega))
theorem kt_removeAt (hq : kV q) (hh : q.hi = true) {a : Nat} (ka : kK a = .inr (.int, 14)) (ma : a ∈ (kf q).2.1) (p : Int32) {P : Nat} (ep : p.toInt = ((P + 1 : Nat) : Int)) (hP : P < L) (hl : (x.1 a 0).toInt = (L : Nat)) (l12 : L ≤ 12) (h : ∀ r y, fm (fun c k => c = a) x y → r = x.1 a (P + 1) → (y.1 a 0).toInt = ((L - 1 : Nat) : Int) → (∀ i, i < L - 1 → y.1 a (i + 1) = if i < P then x.1 a (i + 1) else x.1 a (i + 1 + 1)) → F r y) : KT G q d zk_X3_removeAt 0 [(0, vr a), (1, vi p)] [] x (ri F) := by
  have k1 : (1 : Int32).toInt = 1 := rfl
  have loop : ∀ (n k : Nat) (i : Int32) (y : gd), i.toInt = ((k + 1 : Nat) : Int) → P ≤ k → k < L → fm (fun c k => c = a ∧ 1 ≤ k) x y → (∀ j, j < L → y.1 a (j + 1) = if j < P ∨ k ≤ j then x.1 a (j + 1) else x.1 a (j + 1 + 1)) → L - k ≤ n + 1 → KT G q d zk_X3_removeAt 6 [(0, vr a), (2, vi (x.1 a (P + 1))), (3, vi i)] [] y (ri F) := by
    intro n
    have out : ∀ (k : Nat) (y z : gd), L ≤ k + 1 → k < L → P ≤ k → fm (fun c k => c = a ∧ 1 ≤ k) x y → (∀ j, j < L → y.1 a (j + 1) = if j < P ∨ k ≤ j then x.1 a (j + 1) else x.1 a (j + 1 + 1)) → z = si y a (0 : Int32).toNatClampNeg ((y.1 a (0 : Int32).toNatClampNeg) - 1) → F (x.1 a (P + 1)) z := by
      intro k y z hk kl pk fy hy ez
      rw [tn0, fy a 0 (by omega)] at ez
      refine h _ _ (by rw [ez]; exact fm_si (fm_w fy (fun c k q => q.1)) rfl) rfl ?_ (fun i hi => ?_)
      · rw [ez, si_get, if_pos ⟨rfl, rfl⟩, t_sub (by rw [k1]; omega) (by rw [k1]; omega), k1, hl]; omega
      · rw [ez, si_get, if_neg (by omega), hy i (by omega)]
        by_cases c : i < P
        · rw [if_pos (Or.inl c), if_pos c]
        · rw [if_neg (by omega), if_neg c]
    induction n with
    | zero =>
      intro k i y ei pk kl fy hy hn
      refine kg_X3_removeAt_6 hq hh ka ma _ _ ⟨vin0 (by omega), fun _ => ⟨vin0 (by omega), vin0 (by omega), fun z ez => ri_i (out k y z (by omega) kl pk fy hy ez)⟩, fun c => ?_⟩
      rw [tn0, t_le, fy a 0 (by omega)] at c; omega
    | succ n ih =>
      intro k i y ei pk kl fy hy hn
      refine kg_X3_removeAt_6 hq hh ka ma _ _ ⟨vin0 (by omega), fun c => ⟨vin0 (by omega), vin0 (by omega), fun z ez => ri_i (out k y z ?_ kl pk fy hy ez)⟩, fun c => ?_⟩
      · rw [tn0, t_le, fy a 0 (by omega)] at c; omega
      rw [tn0, t_le, fy a 0 (by omega)] at c
      have e1 : (i + 1).toInt = ((k + 1 + 1 : Nat) : Int) := by rw [t_add (by show _ ≤ _ + (1 : Int); omega) (by show _ + (1 : Int) ≤ _; omega), ei]; rfl
      have ci : i.toNatClampNeg = k + 1 := by rw [t_cl, ei]; rfl
      have ci1 : (i + 1).toNatClampNeg = k + 1 + 1 := by rw [t_cl, e1]; rfl
      rw [ci, ci1]
      refine ⟨by rw [vp_in_iff, e1]; omega, by rw [vp_in_iff]; omega, fun z ez => ih (k + 1) _ z e1 (by omega) (by omega) ?_ (fun j hj => ?_) (by omega)⟩
      · rw [ez]; exact fm_si fy ⟨rfl, by omega⟩
      · rw [ez, si_get]
        by_cases cj : j = k
        · rw [if_pos ⟨rfl, by omega⟩, hy (k + 1) (by omega), if_pos (by omega), if_neg (by omega), cj]
        · rw [if_neg (by omega), hy j hj]
          by_cases cc : j < P ∨ k ≤ j
          · rw [if_pos cc, if_pos (by omega)]
          · rw [if_neg cc, if_neg (by omega)]
  have cp : p.toNatClampNeg = P + 1 := by rw [t_cl, ep]; rfl
  refine kg_X3_removeAt_0 hq hh ka ma _ ?_
  rw [cp]
  exact ⟨by rw [vp_in_iff]; omega, loop L P _ x ep (Nat.le_refl _) hP (fm_rf _ _) (fun j _ => by
    by_cases c : j < P ∨ P ≤ j
    · rw [if_pos c]
    · omega) (by omega)⟩
theorem kt_serveCell (hq : kV q) (hh : q.hi = true) {a : Nat} (ka : kK a = .inr (.int, 14)) (ma : a ∈ (kf q).2.1) (k v : Int32) {st : gHt} (hs : HS x 0 st a) (h : ∀ r y, fm (fun c k => c = a) x y → r = (svH 0 st k v).1 → HS y 0 (svH 0 st k v).2 a → F r y) : KT G q d zk_X3_serveCell 0 [(0, vr a), (1, vi k), (2, vi v)] [] x (ri F) := by
  have h0 := hs.1 rfl
  have e1 : (svH 0 st k v).1 = if k = 0 then 0 else st.1 := by unfold svH; rw [if_pos rfl]
  have e2 : (svH 0 st k v).2.1 = if k = 1 then st.1 else if k = 2 then st.1 + v else v := by unfold svH; rw [if_pos rfl]
  have g : ∀ (y : gd), fm (fun c k => c = a) x y → y.1 a 0 = (if k = 1 then st.1 else if k = 2 then st.1 + v else v) → KT G q d zk_X3_serveCell 24 [(1, vi k), (3, vi (x.1 a (0 : Int32).toNatClampNeg))] [] y (ri F) := fun y fy hy => by
    have hS : HS y 0 (svH 0 st k v).2 a := ⟨fun _ => by rw [e2]; exact hy, fun z => by omega, fun z => by omega⟩
    refine kg_X3_serveCell_24 hq hh ka ma _ _ ⟨fun c => ri_i (h _ _ fy ?_ hS), fun c => ri_i (h _ _ fy ?_ hS)⟩
    · rw [e1, if_neg c, tn0]; exact h0
    · rw [e1, if_pos c]
  refine kg_X3_serveCell_0 hq hh ka ma _ _ ⟨vin0 (by omega), fun c1 => g _ (fm_rf _ _) (by rw [if_pos c1]; exact h0), fun n1 => ⟨fun n2 => ⟨vin0 (by omega), fun z ez => g _ (by rw [ez]; exact fm_si (fm_rf _ _) rfl) ?_⟩, fun c2 => ⟨vin0 (by omega), fun z ez => g _ (by rw [ez]; exact fm_si (fm_rf _ _) rfl) ?_⟩⟩⟩
  · rw [if_neg n1, if_neg n2, ez, tn0, si_get, if_pos ⟨rfl, rfl⟩]
  · rw [if_neg n1, if_pos c2, ez, tn0, si_get, if_pos ⟨rfl, rfl⟩, h0]
theorem kt_serveRow (hq : kV q) (hh : q.hi = true) {a s D : Nat} (ka : kK a = .inr (.int, 14)) (ma : a ∈ (kf q).2.1) (k v : Int32) {st : gHt} (s12 : s = 1 ∨ s = 2) (es : x.1 180 10 = Int32.ofNat s) (hs : HS x s st a) (hb : HBd s st D) (hD : D < 12) (h : ∀ r y, fm (fun c k => c = a) x y → r = (svH s st k v).1 → HS y s (svH s st k v).2 a → F r y) : KT G q (d + 1) zk_X3_serveRow 0 [(0, vr 180), (1, vr a), (2, vi k), (3, vi v)] [] x (ri F) := by
  have k0 : (0 : Int32).toInt = 0 := rfl
  have k1 : (1 : Int32).toInt = 1 := rfl
  obtain ⟨hl, hr⟩ := hs.2.1 s12
  have bl := hb.1 s12
  have mk : ∀ (y : gd) (n : Nat) (f : Nat → Int32) (st' : gHt), st'.2.1 = (n, f) → (y.1 a 0).toInt = (n : Nat) → (∀ i, i < n → y.1 a (i + 1) = f i) → HS y s st' a := fun y n f st' e h1 h2 => ⟨fun z => by omega, fun _ => by rw [e]; exact ⟨h1, h2⟩, fun z => by omega⟩
  have sv : svH s st k v = (if k = 0 then (0, (st.1, (st.2.1.1 + 1, upf st.2.1.2 st.2.1.1 v), st.2.2))
    else if k = 1 then (if st.2.1.1 = 0 then (-1, st) else if s = 1 then (st.2.1.2 (st.2.1.1 - 1), (st.1, (st.2.1.1 - 1, st.2.1.2), st.2.2)) else (st.2.1.2 0, (st.1, (st.2.1.1 - 1, fun i => st.2.1.2 (i + 1)), st.2.2)))
    else if k = 2 then (Int32.ofNat st.2.1.1, st)
    else (Int32.ofNat st.2.1.1, (st.1, (0, st.2.1.2), st.2.2))) := by unfold svH; rw [if_neg (by omega), if_neg (by omega)]
  have x0 : x.1 a 0 = Int32.ofNat st.2.1.1 := i32_of hl
  refine kg_X3_serveRow_0 hq hh ka ma _ _ ⟨vin0 (by omega), fun c => kt_append hq hh ka ma _ hl (by omega) (fun y fy y0 yv yi => ri_i (h _ _ fy ?_ ?_)), fun c => ⟨fun nz => ?_, fun z => ri_i (h _ _ (fm_rf _ _) ?_ ?_)⟩, fun c => ri_i (h _ _ (fm_rf _ _) ?_ ?_), fun c => ⟨vin0 (by omega), fun z ez => ri_i (h _ _ (by rw [ez]; exact fm_si (fm_rf _ _) rfl) ?_ ?_)⟩⟩
  · rw [sv, if_pos c]
  · rw [sv, if_pos c]
    refine mk y _ _ _ rfl y0 (fun i hi => ?_)
    by_cases e : i = st.2.1.1
    · rw [e, upf_eq]; exact yv
    · rw [upf_ne e, yi i (by omega)]; exact hr i (by omega)
  · rw [tn0, t_eq, k0, hl] at nz
    have one : k = 1 → ∀ p, svH s st k v = p → (if st.2.1.1 = 0 then ((-1 : Int32), st) else if s = 1 then (st.2.1.2 (st.2.1.1 - 1), (st.1, (st.2.1.1 - 1, st.2.1.2), st.2.2)) else (st.2.1.2 0, (st.1, (st.2.1.1 - 1, fun i => st.2.1.2 (i + 1)), st.2.2))) = p := fun c p e => by
      have n0 : ¬ k = 0 := by rw [c]; decide
      rw [← e, sv, if_neg n0, if_pos c]
    have o1 := one c _ rfl
    rw [if_neg (show ¬ st.2.1.1 = 0 by omega)] at o1
    refine ⟨fun n1 => ?_, fun e1 => ?_⟩
    · have s1 : ¬ s = 1 := fun z => n1 (by rw [es, z]; rfl)
      rw [if_neg s1] at o1
      refine kg_X3_serveRow_63 hq hh ka ma _ (kt_removeAt hq hh ka ma 1 (P := 0) rfl (by omega) hl (by omega) (fun r y fy er y0 yi => ri_i (h _ _ fy ?_ ?_)))
      · rw [← o1, er]; exact hr 0 (by omega)
      · rw [← o1]
        refine mk y _ _ _ rfl y0 (fun i hi => ?_)
        rw [yi i hi, if_neg (Nat.not_lt_zero _)]
        exact hr (i + 1) (by omega)
    · have s1 : s = 1 := by
        rcases s12 with z | z
        · exact z
        · rw [es, z] at e1; exact absurd e1 (by decide)
      rw [if_pos s1] at o1
      rw [tn0]
      refine kg_X3_serveRow_63 hq hh ka ma _ (kt_removeAt hq hh ka ma _ (P := st.2.1.1 - 1) (by rw [hl]; omega) (by omega) hl (by omega) (fun r y fy er y0 yi => ri_i (h _ _ fy ?_ ?_)))
      · rw [← o1, er]; exact hr (st.2.1.1 - 1) (by omega)
      · rw [← o1]
        refine mk y _ _ _ rfl y0 (fun i hi => ?_)
        rw [yi i hi, if_pos (by omega)]
        exact hr i (by omega)
  · rw [tn0, t_eq, k0, hl] at z
    rw [sv, if_neg (by rw [c]; decide), if_pos c, if_pos (by omega)]
  · rw [tn0, t_eq, k0, hl] at z
    rw [sv, if_neg (by rw [c]; decide), if_pos c, if_pos (by omega)]
    exact hs
  · rw [sv, if_neg (by rw [c]; decide), if_neg (by rw [c]; decide), if_pos c, tn0]; exact x0
  · rw [sv, if_neg (by rw [c]; decide), if_neg (by rw [c]; decide), if_pos c]; exact hs
  · rw [sv, if_neg (c 0 (by decide)), if_neg (c 1 (by decide)), if_neg (c 2 (by decide)), tn0]; exact x0
  · rw [sv, if_neg (c 0 (by decide)), if_neg (c 1 (by decide)), if_neg (c 2 (by decide))]
    refine mk z _ _ _ rfl (by rw [ez, tn0, si_get, if_pos ⟨rfl, rfl⟩]; rfl) (fun i hi => absurd hi (Nat.not_lt_zero _))
/-- an element more, one less -/
theorem hsT_add {b a L : Nat} {m : Int32 → Bool} {v : Int32} (h : hsT x a b (L, m)) (nv : ¬ m v = true) (hv : y.1 a (L + b) = v) (hi : ∀ i, i < L → y.1 a (i + b) = x.1 a (i + b)) : hsT y a b (L + 1, fun w => if w = v then true else m w) := by
  obtain ⟨h1, h2⟩ := h
  have h1 : ∀ v, m v = true ↔ ∃ i, i < L ∧ x.1 a (i + b) = v := h1
  have h2 : ∀ i j, i < L → j < L → x.1 a (i + b) = x.1 a (j + b) → i = j := h2
  refine ⟨fun w => ?_, fun i j hi' hj' e => ?_⟩
  · show (if w = v then true else m w) = true ↔ ∃ i, i < L + 1 ∧ y.1 a (i + b) = w
    by_cases e : w = v
    · rw [if_pos e, e]
      exact ⟨fun _ => ⟨L, Nat.lt_succ_self _, hv⟩, fun _ => rfl⟩
    · rw [if_neg e, h1 w]
      constructor
      · rintro ⟨i, a1, a2⟩
        exact ⟨i, by omega, by rw [hi i a1]; exact a2⟩
      · rintro ⟨i, a1, a2⟩
        by_cases ei : i = L
        · rw [ei, hv] at a2; exact absurd a2.symm e
        · exact ⟨i, by omega, by rw [← hi i (by omega)]; exact a2⟩
  · have hi' : i < L + 1 := hi'
    have hj' : j < L + 1 := hj'
    by_cases ei : i = L
    · by_cases ej : j = L
      · omega
      · rw [ei, hv, hi j (by omega)] at e
        exact absurd ((h1 v).mpr ⟨j, by omega, e.symm⟩) nv
    · by_cases ej : j = L
      · rw [ej, hv, hi i (by omega)] at e
        exact absurd ((h1 v).mpr ⟨i, by omega, e⟩) nv
      · rw [hi i (by omega), hi j (by omega)] at e
        exact h2 i j (by omega) (by omega) e
/-- g: where each of the rest stood -/
theorem hsT_del {b a a' b' L P : Nat} {m : Int32 → Bool} {v : Int32} (h : hsT x a b (L, m)) (hP : P < L) (hv : x.1 a (P + b) = v) (g : Nat → Nat) (g1 : ∀ i, i < L - 1 → g i < L ∧ ¬ g i = P ∧ y.1 a' (i + b') = x.1 a (g i + b)) (g2 : ∀ j, j < L → ¬ j = P → ∃ i, i < L - 1 ∧ g i = j) (g3 : ∀ i j, i < L - 1 → j < L - 1 → g i = g j → i = j) : hsT y a' b' (L - 1, fun w => if w = v then false else m w) := by
  obtain ⟨h1, h2⟩ := h
  have h1 : ∀ v, m v = true ↔ ∃ i, i < L ∧ x.1 a (i + b) = v := h1
  have h2 : ∀ i j, i < L → j < L → x.1 a (i + b) = x.1 a (j + b) → i = j := h2
  refine ⟨fun w => ?_, fun i j hi hj e => ?_⟩
  · show (if w = v then false else m w) = true ↔ ∃ i, i < L - 1 ∧ y.1 a' (i + b') = w
    by_cases e : w = v
    · rw [if_pos e]
      refine ⟨fun z => (nomatch z), fun ⟨i, a1, a2⟩ => ?_⟩
      obtain ⟨c1, c2, c3⟩ := g1 i a1
      rw [c3, e, ← hv] at a2
      exact absurd (h2 _ _ c1 hP a2) c2
    · rw [if_neg e, h1 w]
      constructor
      · rintro ⟨j, a1, a2⟩
        obtain ⟨i, i1, i2⟩ := g2 j a1 (fun z => by rw [z, hv] at a2; exact e a2.symm)
        exact ⟨i, i1, by rw [(g1 i i1).2.2, i2]; exact a2⟩
      · rintro ⟨i, a1, a2⟩
        obtain ⟨c1, -, c3⟩ := g1 i a1
        exact ⟨g i, c1, by rw [← c3]; exact a2⟩
  · have hi : i < L - 1 := hi
    have hj : j < L - 1 := hj
    rw [(g1 i hi).2.2, (g1 j hj).2.2] at e
    exact g3 i j hi hj (h2 _ _ (g1 i hi).1 (g1 j hj).1 e)
theorem kt_serveSet (hq : kV q) (hh : q.hi = true) {a D : Nat} (ka : kK a = .inr (.int, 14)) (ma : a ∈ (kf q).2.1) (k v : Int32) {st : gHt} (hs : HS x 3 st a) (hb : HBd 3 st D) (hD : D < 12) (h : ∀ r y, fm (fun c k => c = a) x y → r = (svH 3 st k v).1 → HS y 3 (svH 3 st k v).2 a → F r y) : KT G q (d + 1) zk_X3_serveSet 0 [(0, vr a), (1, vi k), (2, vi v)] [] x (ri F) := by
  obtain ⟨hl, hS⟩ := hs.2.2 rfl
  have bl := hb.2 rfl
  have mk : ∀ (y : gd) (S : Nat × (Int32 → Bool)) (st' : gHt), st'.2.2 = S → (y.1 a 0).toInt = (S.1 : Nat) → hsT y a 1 S → HS y 3 st' a := fun y S st' e h1 h2 => ⟨fun z => by omega, fun z => by omega, fun _ => by rw [e]; exact ⟨h1, h2⟩⟩
  have sv : svH 3 st k v = (if k = 0 then (if st.2.2.2 v = true then (0, st) else (1, (st.1, st.2.1, (st.2.2.1 + 1, fun w => if w = v then true else st.2.2.2 w))))
    else if k = 1 then (if st.2.2.2 v = true then (1, (st.1, st.2.1, (st.2.2.1 - 1, fun w => if w = v then false else st.2.2.2 w))) else (0, st))
    else if k = 2 then (if st.2.2.2 v = true then 1 else 0, st)
    else (Int32.ofNat st.2.2.1, st)) := by unfold svH; rw [if_neg (by omega), if_pos rfl]
  have x0 : x.1 a 0 = Int32.ofNat st.2.2.1 := i32_of hl
  have s1 := hS.1 v
  refine kg_X3_serveSet_0 hq hh ka ma _ _ (kt_findv hq hh ka ma _ hl (by omega) (fun r hr => ?_))
  have inM : ¬ r = -1 → st.2.2.2 v = true := fun nr => by
    rcases hr with ⟨z, -⟩ | ⟨i, i1, -, i2⟩
    · exact absurd z nr
    · exact s1.mpr ⟨i, i1, i2⟩
  have noM : r = -1 → ¬ st.2.2.2 v = true := fun er m => by
    rcases hr with ⟨-, z⟩ | ⟨i, i1, i3, -⟩
    · obtain ⟨i, i1, i2⟩ := s1.mp m
      exact z i i1 i2
    · rw [er, tm1] at i3; omega
  have n1 : k = 1 → ¬ k = 0 := fun c z => absurd (c.symm.trans z) (by decide)
  have n2 : k = 2 → ¬ k = 0 ∧ ¬ k = 1 := fun c => ⟨fun z => absurd (c.symm.trans z) (by decide), fun z => absurd (c.symm.trans z) (by decide)⟩
  refine ⟨fun c => ⟨fun nr => ?_, fun er => ?_⟩, fun c => ⟨fun er => ?_, fun nr => ?_⟩, fun c => ⟨fun nr => ri_i (h _ _ (fm_rf _ _) ?_ ?_), fun er => ri_i (h _ _ (fm_rf _ _) ?_ ?_)⟩, fun c => ⟨vin0 (by omega), ri_i (h _ _ (fm_rf _ _) ?_ ?_)⟩⟩
  · have e : svH 3 st k v = (0, st) := by rw [sv, if_pos c, if_pos (inM nr)]
    exact kg_X3_serveSet_42 hq hh ka ma _ ⟨fun _ => ri_i (h _ _ (fm_rf _ _) (by rw [e]) (by rw [e]; exact hs)), fun z => absurd z nr⟩
  · have e : svH 3 st k v = (1, (st.1, st.2.1, (st.2.2.1 + 1, fun w => if w = v then true else st.2.2.2 w))) := by rw [sv, if_pos c, if_neg (noM er)]
    refine kt_append hq hh ka ma _ hl (by omega) (fun y fy y0 yv yi => kg_X3_serveSet_42 hq hh ka ma _ ⟨fun z => absurd er z, fun _ => ri_i (h _ _ fy (by rw [e]) ?_)⟩)
    rw [e]
    exact mk y _ _ rfl y0 (hsT_add hS (noM er) yv yi)
  · have e : svH 3 st k v = (0, st) := by rw [sv, if_neg (n1 c), if_pos c, if_neg (noM er)]
    exact kg_X3_serveSet_64 hq hh ka ma _ ⟨fun z => absurd er z, fun _ => ri_i (h _ _ (fm_rf _ _) (by rw [e]) (by rw [e]; exact hs))⟩
  · have e : svH 3 st k v = (1, (st.1, st.2.1, (st.2.2.1 - 1, fun w => if w = v then false else st.2.2.2 w))) := by rw [sv, if_neg (n1 c), if_pos c, if_pos (inM nr)]
    obtain ⟨P, p1, p2, p3⟩ : ∃ i, i < st.2.2.1 ∧ r.toInt = ((i + 1 : Nat) : Int) ∧ x.1 a (i + 1) = v := by
      rcases hr with ⟨z, -⟩ | z
      · exact absurd z nr
      · exact z
    refine kt_removeAt hq hh ka ma _ p2 p1 hl (by omega) (fun r9 y fy er y0 yi => kg_X3_serveSet_64 hq hh ka ma _ ⟨fun _ => ri_i (h _ _ fy (by rw [e]) ?_), fun z => absurd z nr⟩)
    rw [e]
    refine mk y _ _ rfl y0 (hsT_del hS p1 p3 (fun i => if i < P then i else i + 1) (fun i hi => ?_) (fun j hj nj => ?_) (fun i j hi hj e => ?_))
    · rw [yi i hi]
      by_cases c9 : i < P
      · simp only [if_pos c9]; exact ⟨by omega, by omega, trivial⟩
      · simp only [if_neg c9]; exact ⟨by omega, by omega, trivial⟩
    · by_cases c9 : j < P
      · exact ⟨j, by omega, by simp only [if_pos c9]⟩
      · exact ⟨j - 1, by omega, by simp only [if_neg (show ¬ j - 1 < P by omega)]; omega⟩
    · by_cases c9 : i < P <;> by_cases c8 : j < P <;> simp only [c9, c8, if_true, if_false] at e <;> omega
  · rw [sv, if_neg (n2 c).1, if_neg (n2 c).2, if_pos c, if_pos (inM nr)]
  · rw [sv, if_neg (n2 c).1, if_neg (n2 c).2, if_pos c]; exact hs
  · rw [sv, if_neg (n2 c).1, if_neg (n2 c).2, if_pos c, if_neg (noM er)]
  · rw [sv, if_neg (n2 c).1, if_neg (n2 c).2, if_pos c]; exact hs
  · rw [sv, if_neg (c 0 (by decide)), if_neg (c 1 (by decide)), if_neg (c 2 (by decide)), tn0]; exact x0
  · rw [sv, if_neg (c 0 (by decide)), if_neg (c 1 (by decide)), if_neg (c 2 (by decide))]; exact hs
theorem kt_serve (hq : kV q) (hh : q.hi = true) {a s D : Nat} (ka : kK a = .inr (.int, 14)) (ma : a ∈ (kf q).2.1) (k v : Int32) {st : gHt} (s4 : s < 4) (es : x.1 180 10 = Int32.ofNat s) (hs : HS x s st a) (hb : HBd s st D) (hD : D < 12) (h : ∀ r y, fm (fun c k => c = a) x y → r = (svH s st k v).1 → HS y s (svH s st k v).2 a → F r y) : KT G q (d + 2) zk_X3_serve 0 [(0, vr 180), (1, vr a), (2, vi k), (3, vi v)] [] x (ri F) := by
  have e3 : ∀ s, s < 4 → (Int32.ofNat s = 0 ↔ s = 0) ∧ (Int32.ofNat s = 3 ↔ s = 3) := by decide +kernel
  obtain ⟨z0, z3⟩ := e3 s s4
  rw [← es] at z0 z3
  refine kg_X3_serve_0 hq hh ka ma _ _ ⟨fun n0 => ⟨fun n3 => kt_serveRow hq hh ka ma _ _ (by have a : ¬ s = 0 := fun z => n0 (z0.mpr z); have b : ¬ s = 3 := fun z => n3 (z3.mpr z); omega) es hs hb hD (fun r y fy er hy => ri_i (h r y fy er hy)), fun c3 => ?_⟩, fun c0 => ?_⟩
  · have e := z3.mp c3
    subst e
    exact kt_serveSet hq hh ka ma _ _ hs hb hD (fun r y fy er hy => ri_i (h r y fy er hy))
  · have e := z0.mp c0
    subst e
    exact kt_serveCell hq hh ka ma _ _ hs (fun r y fy er hy => ri_i (h r y fy er hy))
end KHS
