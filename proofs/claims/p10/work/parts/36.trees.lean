theorem tot_up (S : Nat → Nat) (n s : Nat) : tot (fun t => if t = n then s else S t) (n + 1) = tot S n + s := by
  have a : ∀ k : Nat, k ≤ n → tot (fun t => if t = n then s else S t) k = tot S k := by
    intro k
    induction k with
    | zero => intro _; rfl
    | succ k ih =>
      intro h
      show tot (fun t => if t = n then s else S t) k + (if k = n then s else S k) = tot S k + S k
      rw [ih (by omega), if_neg (by omega)]
  show tot (fun t => if t = n then s else S t) n + (if n = n then s else S n) = _
  rw [a n (Nat.le_refl _), if_pos rfl]
theorem cl_up {a b : Int32} (h0 : 0 ≤ a.toInt) (h : b.toInt = a.toInt + 1) : b.toNatClampNeg = a.toNatClampNeg + 1 := by
  have := t_cl a
  have := t_cl b
  omega
theorem vB_NN {x y : gd} (h : NN x y) {s c : Nat} {e : Int32} (q : vB x 0 (vS x 0 17) s c e) : vB y 0 (vS y 0 17) s c e := vB_keep (Int.le_refl _) (NN_NL 0 _ h) (fun _ _ _ he g => vS_keep (Int.le_refl _) (NN_NL 0 _ h) _ _ _ _ he g) (Int.le_refl _) q
theorem PT_th {n n' : Int} {x y : gd} {e : Int32} {s : Nat} (q : PT n x) (h : NN x y) (h0 : 0 ≤ (x.1 0 25).toInt) (ef : (y.1 0 25).toInt = (x.1 0 25).toInt + 1) (ea : ∀ j : Nat, y.1 39 j = if j = (x.1 0 25).toNatClampNeg then e else x.1 39 j) (e26 : y.1 0 26 = x.1 0 26) (e40 : y.1 40 = x.1 40) (e27 : y.1 0 27 = x.1 0 27) (e41 : y.1 41 = x.1 41) (hv : vB x 0 (vS x 0 17) s 8 e) (hn : n + s ≤ n') : PT n' y := by
  obtain ⟨S, A, B, q1, q2, q3, q4⟩ := q
  have hc := cl_up h0 ef
  have hx := t_cl (x.1 0 25)
  refine ⟨(fun t => if t = (x.1 0 25).toNatClampNeg then s else S t), A, B, fun t ht => ?_, fun t ht => ?_, fun t ht => ?_, ?_⟩
  · rw [ea]
    by_cases c : t = (x.1 0 25).toNatClampNeg
    · rw [if_pos c]
      show vB y 0 (vS y 0 17) (if t = (x.1 0 25).toNatClampNeg then s else S t) 8 e
      rw [if_pos c]
      exact vB_NN h (hv)
    · rw [if_neg c]
      show vB y 0 (vS y 0 17) (if t = (x.1 0 25).toNatClampNeg then s else S t) 8 (x.1 39 t)
      rw [if_neg c]
      exact vB_NN h (q1 t (by omega))
  · rw [e40]; rw [e26] at ht
    exact vE_NK (NN_NL 0 0 h).1 (q2 t ht)
  · rw [e41]; rw [e27] at ht
    exact vE_NK (NN_NL 0 0 h).1 (q3 t ht)
  · rw [e26, e27, hc, tot_up]
    omega
theorem PT_al {n n' : Int} {x y : gd} {e : Int32} {s : Nat} (q : PT n x) (h : NN x y) (h0 : 0 ≤ (x.1 0 26).toInt) (ef : (y.1 0 26).toInt = (x.1 0 26).toInt + 1) (ea : ∀ j : Nat, y.1 40 j = if j = (x.1 0 26).toNatClampNeg then e else x.1 40 j) (e25 : y.1 0 25 = x.1 0 25) (e39 : y.1 39 = x.1 39) (e27 : y.1 0 27 = x.1 0 27) (e41 : y.1 41 = x.1 41) (hv : vE x s s 17 e) (hn : n + s ≤ n') : PT n' y := by
  obtain ⟨S, A, B, q1, q2, q3, q4⟩ := q
  have hc := cl_up h0 ef
  have hx := t_cl (x.1 0 26)
  refine ⟨S, (fun t => if t = (x.1 0 26).toNatClampNeg then s else A t), B, fun t ht => ?_, fun t ht => ?_, fun t ht => ?_, ?_⟩
  · rw [e39]; rw [e25] at ht
    exact vB_NN h (q1 t ht)
  · rw [ea]
    by_cases c : t = (x.1 0 26).toNatClampNeg
    · rw [if_pos c]
      show vE y (if t = (x.1 0 26).toNatClampNeg then s else A t) (if t = (x.1 0 26).toNatClampNeg then s else A t) 17 e
      rw [if_pos c]
      exact vE_NK (NN_NL 0 0 h).1 (hv)
    · rw [if_neg c]
      show vE y (if t = (x.1 0 26).toNatClampNeg then s else A t) (if t = (x.1 0 26).toNatClampNeg then s else A t) 17 (x.1 40 t)
      rw [if_neg c]
      exact vE_NK (NN_NL 0 0 h).1 (q2 t (by omega))
  · rw [e41]; rw [e27] at ht
    exact vE_NK (NN_NL 0 0 h).1 (q3 t ht)
  · rw [e25, e27, hc, tot_up]
    omega
theorem PT_fi {n n' : Int} {x y : gd} {e : Int32} {s : Nat} (q : PT n x) (h : NN x y) (h0 : 0 ≤ (x.1 0 27).toInt) (ef : (y.1 0 27).toInt = (x.1 0 27).toInt + 1) (ea : ∀ j : Nat, y.1 41 j = if j = (x.1 0 27).toNatClampNeg then e else x.1 41 j) (e25 : y.1 0 25 = x.1 0 25) (e39 : y.1 39 = x.1 39) (e26 : y.1 0 26 = x.1 0 26) (e40 : y.1 40 = x.1 40) (hv : vE x s s 17 e) (hn : n + s ≤ n') : PT n' y := by
  obtain ⟨S, A, B, q1, q2, q3, q4⟩ := q
  have hc := cl_up h0 ef
  have hx := t_cl (x.1 0 27)
  refine ⟨S, A, (fun t => if t = (x.1 0 27).toNatClampNeg then s else B t), fun t ht => ?_, fun t ht => ?_, fun t ht => ?_, ?_⟩
  · rw [e39]; rw [e25] at ht
    exact vB_NN h (q1 t ht)
  · rw [e40]; rw [e26] at ht
    exact vE_NK (NN_NL 0 0 h).1 (q2 t ht)
  · rw [ea]
    by_cases c : t = (x.1 0 27).toNatClampNeg
    · rw [if_pos c]
      show vE y (if t = (x.1 0 27).toNatClampNeg then s else B t) (if t = (x.1 0 27).toNatClampNeg then s else B t) 17 e
      rw [if_pos c]
      exact vE_NK (NN_NL 0 0 h).1 (hv)
    · rw [if_neg c]
      show vE y (if t = (x.1 0 27).toNatClampNeg then s else B t) (if t = (x.1 0 27).toNatClampNeg then s else B t) 17 (x.1 41 t)
      rw [if_neg c]
      exact vE_NK (NN_NL 0 0 h).1 (q3 t (by omega))
  · rw [e25, e26, hc, tot_up]
    omega
