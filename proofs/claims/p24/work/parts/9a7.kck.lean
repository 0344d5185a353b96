section
/-! the class: when it is linked, its code is what the numbers say -/
section KCK
variable {sN : Nat → Nat → Bool} {V K : Nat → Int32} {x y : gd} {L N : gU}
theorem CK_of (hS : ∀ a b, sN a b = true → sN b a = true) (hTr : ∀ a b c, sN a b = true → sN b c = true → sN a c = true) (nf : ¬ jFl sN K V L) (srt : (L.filterMap (te1 K V)).Pairwise (fun a b => a.1 < b.1)) (h : LPk sN V K L x) (hw : WC sN K (fun v => v ∈ L) (cds sN K L cd0)) (f : fm (fun c _ => c = 85 ∨ c = 86 ∨ c = 62 ∨ c = 63) x y) (l1 : ∀ j : Nat, (j : Int) < ssm x → LK1 x y j) (l2 : ∀ i : Nat, (i : Int) < (x.1 60 3).toInt → LK2 x y i) : CK y (codN sN V K L) := by
  obtain ⟨⟨hP, ⟨s1, s2⟩, -, ⟨b1, b2⟩, ⟨c1, c2⟩, ⟨a1, a2⟩, ⟨f1, f2⟩⟩, ⟨⟨p1, p2, p3⟩, -⟩, hM, hV, ⟨n, hH, hn⟩, hl, hmt⟩ := h
  obtain ⟨E, S, r, b, l, ec, -, -, w1, w2, w3⟩ := hw
  have e1 : (cds sN K L cd0).2.1 = S := by rw [ec]
  have e2 : (cds sN K L cd0).2.2.2.2.1 = b := by rw [ec]
  have e3 : (cds sN K L cd0).2.2.2.2.2 = l := by rw [ec]
  rw [e1] at s1 s2
  rw [e2] at b1 b2
  rw [e3] at a1 a2 f1 f2
  unfold codN
  rw [e1, e2, e3]
  have te9 : ∀ q ∈ L.filterMap (te1 K V), ¬ q.2.1 = 0 → q.2.2.1 = 0 := fun q hq h0 => te_sz hq h0
  have nt0 : ¬ jT sN V (L.filterMap (te1 K V)) := fun z => nf (Or.inl z)
  generalize L.filterMap (te1 K V) = T at *
  have nt : nTw sN T := fun j' j q' q lt h' h hs => nt0 ⟨j, q, h, Or.inl ⟨j', q', lt, h', hs⟩⟩
  have g : ∀ c k, ¬ c = 85 → ¬ c = 86 → ¬ c = 62 → ¬ c = 63 → y.1 c k = x.1 c k := fun c k h1 h2 h3 h4 => f c k (by omega)
  have g60 : ∀ k, y.1 60 k = x.1 60 k := fun k => g 60 k (by decide) (by decide) (by decide) (by decide)
  -- what names mean
  have cell : ∀ t : Nat, (t : Int) < mt x → (x.1 42 t = 6 ∨ x.1 42 t = 7) → x.1 45 (x.1 43 t).toNatClampNeg = Int32.ofNat (nmT sN 0 t T) ∧ x.1 46 (x.1 43 t).toNatClampNeg = Int32.ofNat (rsT sN T t) := fun t ht hu => by
    obtain ⟨k, q, hk, hq, hs⟩ := (hM t ht).1.2.2 hu
    have ek : (x.1 43 t).toNatClampNeg = k := by rw [t_cl, hk]; rfl
    obtain ⟨z1, z2, z3⟩ := p3 k q hq
    obtain ⟨m1, m2⟩ := nm_is hS hTr nt srt hq hs
    have er : rsT sN T t = q.2.2.1 := by unfold rsT; simp only [m2]
    rw [ek, er, m1]
    exact ⟨i32_of z3, i32_of z2⟩
  have num : ∀ (w t k : Nat) (q : Nat × Nat × Nat × Nat), ¬ w = 0 → (x.1 43 t).toInt = (k : Nat) → (tdS T w)[k]? = some q → sN q.1 t = true → x.1 43 t = Int32.ofNat (nmT sN w t T) := fun w t k q h0 hk hq hs => by
    obtain ⟨m1, -⟩ := nm_is hS hTr nt srt hq hs
    have lt := gt_lt hq
    rw [m1, nbT_len (fun p hp => ?_), List.length_take]
    · exact i32_of (by rw [hk]; omega)
    · obtain ⟨p1, p2⟩ := tdS_mem.mp (List.mem_of_mem_take hp)
      exact ⟨p2, te9 p p1 (by rw [p2]; exact h0)⟩
  -- sums
  have sum : ∀ {ks : gK} {E0 : gV} {v : Int32} {o : Option gU}, ks = E0.1 → sOo sN K E0 o → cSu sN V K (tPs sN V K L E0v) ks v o → kNs y v (o.map (nQs sN T V K ks)) := fun {ks E0 v o} ek so hc => by
    cases o with
    | none => exact hc
    | some N =>
      obtain ⟨q1, q2, q3, q4⟩ := so N rfl
      have hc : SUc (tPs sN V K L E0v) v (sPs sN V K (ks, [0], 0) N) := hc
      have a := SUk_lk hP hl l2 (g60 3) hc
      have e : (sPs sN V K (ks, [0], 0) N).map (lkF x) = sPs sN V K (ks, [0], 0) N := by
        conv => rhs; rw [← List.map_id (sPs sN V K (ks, [0], 0) N)]
        exact List.map_congr_left (fun q hq => lkF_no (sPs_n6 q1 q2 q hq))
      rw [e, sPs_t (T := T) q1 (fun v hv h3 => by rw [ek]; exact q4 v hv h3)] at a
      exact a
  have clm : ∀ {v : Int32} {N : gU}, clO K N → (∀ v ∈ N, v ∈ L) → SUc (tPs sN V K L E0v) v (sPs sN V K E0v N) → SUk y v ((nQs sN T V K [] N).map cQ) := fun {v N} hc hm hs => by
    obtain ⟨q1, q2, -, q4⟩ := hc
    have a := SUk_lk hP hl l2 (g60 3) hs
    have e : (sPs sN V K E0v N).map (lkF x) = (nQs sN T V K [] N).map cQ := by
      unfold sPs nQs
      rw [List.map_filterMap, List.map_filterMap]
      refine q4 _ _ (fun v hv h7 h12 => ?_) (fun i i7 i12 => ?_) (fun i j => rfl) (fun i j => rfl)
      · have sv := q2 v hv
        obtain ⟨E9, hA⟩ := HAs_mem hH v (hm v hv)
        have kd := q1 v hv
        obtain ⟨p, t, u⟩ := v
        rcases kd with e | e | e | e | ⟨e, -⟩ | ⟨-, e | e | e⟩
        · have e : p = 50 := e
          subst e
          show some (lkF x (if K t = 29 then 5 else 4, 0)) = some (if K t = 29 then 5 else 4, 0)
          rw [lkF_no]
          show ¬ (if K t = 29 then (5 : Int32) else 4) = 6
          split <;> decide
        · have e : p = 51 := e
          subst e
          show some (lkF x (kcv (K t), 0)) = some (kcv (K t), 0)
          rw [lkF_no (kcv_6 (sv.2.1 rfl))]
        · have e : p = 52 := e
          subst e
          rfl
        · have e : p = 53 := e
          subst e
          rfl
        · cases e
        · have e : p = 6 := e
          subst e
          obtain ⟨tn, u6⟩ := hA.2.1 rfl
          have tn : t < n := tn
          have u6 : x.1 42 t = 6 := u6
          have et : (Int32.ofNat t).toNatClampNeg = t := by rw [t_cl, Int32.toInt_ofNat_of_lt (by omega)]; rfl
          show some (lkF x (6, Int32.ofNat t)) = some (2, Int32.ofNat (nmT sN 0 t T))
          unfold lkF
          rw [if_pos rfl]
          show some ((2 : Int32), x.1 45 (x.1 43 (Int32.ofNat t).toNatClampNeg).toNatClampNeg + (if x.1 42 (Int32.ofNat t).toNatClampNeg = 7 then x.1 27 ((Int32.ofNat t).toNatClampNeg + 2) else 0)) = _
          rw [et, u6, if_neg (by decide), (cell t (by omega) (Or.inl u6)).1, Int32.add_zero]
        · exact absurd e h7
        · exact absurd e h12
      · obtain ⟨E9, hA⟩ := HAs_mem hH _ (hm _ i7)
        obtain ⟨tn, u7⟩ := hA.2.2.1 rfl
        have tn : i < n := tn
        have u7 : x.1 42 i = 7 ∨ x.1 42 i = 9 := u7
        have u7 : x.1 42 i = 7 := u7.elim id (fun z => absurd z (hM i (by omega)).2)
        have k2 : K (i + 2) = 2 := ((q2 _ i12).2.2.2.2 rfl).1
        have et : (Int32.ofNat i).toNatClampNeg = i := by rw [t_cl, Int32.toInt_ofNat_of_lt (by omega)]; rfl
        show some (lkF x (6, Int32.ofNat i)) = some (2, Int32.ofNat (nmT sN 0 i T) + V (i + 2))
        unfold lkF
        rw [if_pos rfl]
        show some ((2 : Int32), x.1 45 (x.1 43 (Int32.ofNat i).toNatClampNeg).toNatClampNeg + (if x.1 42 (Int32.ofNat i).toNatClampNeg = 7 then x.1 27 ((Int32.ofNat i).toNatClampNeg + 2) else 0)) = _
        rw [et, u7, if_pos rfl, (cell i (by omega) (Or.inr u7)).1, hV _ k2]
    rw [e] at a
    exact a
  refine ⟨⟨?_, fun j st hj => ?_⟩, ⟨?_, fun t q hq => ?_⟩, ⟨?_, fun j q hq => ?_⟩, ⟨?_, fun k Q hQ => ?_⟩, ⟨?_, fun k Q hQ => ?_⟩⟩
  · rw [g 80 9 (by decide) (by decide) (by decide) (by decide), s1]
    show _ = ((S.map _).length : Int)
    rw [List.length_map]
  · have hj : (S.map (nStp sN T V K))[j]? = some st := hj
    rw [List.getElem?_map] at hj
    obtain ⟨s0, g0, e⟩ := Option.map_eq_some_iff.mp hj
    subst e
    obtain ⟨-, E0, ⟨q1, ⟨q2, q2'⟩, q3, q4, q5, q5', q6, q7, q8, q9, so0, so1, so2⟩, -⟩ := w1 j s0 g0
    obtain ⟨k1, k2, k3, k4, k5, k6, k7, k8⟩ := s2 j s0 g0
    have ek : s0.2.2.1.1 = E0.1 := by rw [q1]
    have lj : (j : Int) < ssm x := by
      have := gt_lt g0
      show (j : Int) < (x.1 80 9).toInt
      omega
    have so : sop x j = (s0.1 : Nat) := by
      show (x.1 81 j).toInt = _
      rw [k1]
      exact Int32.toInt_ofNat_of_lt (by omega)
    obtain ⟨L1, L2⟩ := l1 j lj
    have gj : ∀ c, ¬ c = 85 → ¬ c = 86 → ¬ c = 62 → ¬ c = 63 → y.1 c j = x.1 c j := fun c => g c j
    refine ⟨by rw [gj 81 (by decide) (by decide) (by decide) (by decide)]; exact k1, ?_, ?_, ?_, fun n16 => ?_, fun o4 hx => ?_, ?_, ?_, ?_⟩
    · rw [gj 83 (by decide) (by decide) (by decide) (by decide), k2]
      show _ = ((slK s0.2.2.1.1).length : Int)
      rw [show (slK s0.2.2.1.1).length = s0.2.2.1.1.length from List.length_map _]
    · rw [gj 84 (by decide) (by decide) (by decide) (by decide)]; exact k3
    · rw [gj 84 (by decide) (by decide) (by decide) (by decide)]; exact k4
    · have n16 : ¬ s0.1 = 16 := n16
      show y.1 85 j = mOf sN T V s0
      have k5 := k5 n16
      by_cases c10 : s0.1 ≤ 10
      · obtain ⟨t, et, -⟩ := q4 c10
        rw [et] at k5
        have k5 : (if s0.1 = 13 then x.1 85 j = V t else (x.1 85 j).toInt = (t : Nat)) := k5
        rw [if_neg (by omega)] at k5
        obtain ⟨t', t1, t2, ⟨u1, u2, u3⟩, t3, t4⟩ := L1 (by omega)
        have ett : t' = t := by omega
        subst ett
        unfold mOf
        rw [et]
        show y.1 85 j = if s0.1 ≤ 4 then Int32.ofNat (nmT sN 0 t' T) else if s0.1 ≤ 8 then Int32.ofNat (nmT sN 1 t' T) else if s0.1 ≤ 10 then Int32.ofNat (nmT sN 2 t' T) else V t'
        by_cases c4 : s0.1 ≤ 4
        · rw [if_pos c4, (t3 (by omega)).1, (cell t' t2 (u1 (by omega))).1]
        · rw [if_neg c4, t4 (by omega)]
          by_cases c8 : s0.1 ≤ 8
          · rw [if_pos c8]
            obtain ⟨k, q, hk, hq, hs⟩ := (hM t' t2).1.1 (u2 (by omega) (by omega))
            exact num 1 t' k q (by decide) hk hq hs
          · rw [if_neg c8, if_pos c10]
            obtain ⟨k, q, hk, hq, hs⟩ := (hM t' t2).1.2.1 (u3 (by omega))
            exact num 2 t' k q (by decide) hk hq hs
      · rw [L2 (by omega)]
        unfold mOf
        by_cases c13 : s0.1 = 13
        · obtain ⟨t, et, -⟩ := q5 c13
          rw [et] at k5 ⊢
          have k5 : (if s0.1 = 13 then x.1 85 j = V t else (x.1 85 j).toInt = (t : Nat)) := k5
          rw [if_pos c13] at k5
          show x.1 85 j = if s0.1 ≤ 4 then _ else if s0.1 ≤ 8 then _ else if s0.1 ≤ 10 then _ else V t
          rw [if_neg (by omega), if_neg (by omega), if_neg (by omega)]
          exact k5
        · have en := q5' (by omega) c13
          rw [en] at k5 ⊢
          exact k5
    · have o4 : s0.1 ≤ 4 := o4
      have hx : ¬ s0.2.2.2.2.2.2.1.map (nQs sN T V K s0.2.2.1.1) = none := hx
      have hx : ¬ s0.2.2.2.2.2.2.1 = none := fun z => hx (by rw [z]; rfl)
      have fl := (q6 o4).mpr hx
      obtain ⟨t, et, -⟩ := q4 (by omega)
      have k5 := k5 (by omega)
      rw [et] at k5
      have k5 : (if s0.1 = 13 then x.1 85 j = V t else (x.1 85 j).toInt = (t : Nat)) := k5
      rw [if_neg (by omega)] at k5
      obtain ⟨t', t1, t2, ⟨u1, u2, u3⟩, t3, t4⟩ := L1 (by omega)
      have ett : t' = t := by omega
      subst ett
      show y.1 86 j = mSz sN T s0
      unfold mSz
      rw [if_pos fl, if_pos o4, (t3 (by omega)).2, (cell t' t2 (u1 (by omega))).2, et]
      rfl
    · rw [gj 87 (by decide) (by decide) (by decide) (by decide)]
      exact sum ek so0 k6
    · rw [gj 88 (by decide) (by decide) (by decide) (by decide)]
      exact sum ek so1 k7
    · rw [gj 89 (by decide) (by decide) (by decide) (by decide)]
      exact sum ek so2.1 k8
  · rw [g60]; exact b1
  · rw [g 72 t (by decide) (by decide) (by decide) (by decide), g 73 t (by decide) (by decide) (by decide) (by decide)]
    exact b2 t q hq
  · rw [g60]; exact c1
  · rw [g 68 j (by decide) (by decide) (by decide) (by decide), g 69 j (by decide) (by decide) (by decide) (by decide)]
    exact c2 j q hq
  · rw [g60, a1]
    show _ = (((clF 35 l).map _).length : Int)
    rw [List.length_map]
  · have hQ : ((clF 35 l).map (nQs sN T V K []))[k]? = some Q := hQ
    rw [List.getElem?_map] at hQ
    obtain ⟨N, g0, e⟩ := Option.map_eq_some_iff.mp hQ
    subst e
    rw [g 76 k (by decide) (by decide) (by decide) (by decide)]
    obtain ⟨q, hq, e9⟩ := List.mem_filterMap.mp (List.mem_of_getElem? g0)
    have e9 : q.2 = N := by
      split at e9
      · exact Option.some.inj e9
      · exact absurd e9 (by simp)
    obtain ⟨z1, z2⟩ := w3 q hq
    rw [e9] at z1 z2
    exact clm z1 z2 (a2 k N g0)
  · rw [g60, f1]
    show _ = (((clF 36 l).map _).length : Int)
    rw [List.length_map]
  · have hQ : ((clF 36 l).map (nQs sN T V K []))[k]? = some Q := hQ
    rw [List.getElem?_map] at hQ
    obtain ⟨N, g0, e⟩ := Option.map_eq_some_iff.mp hQ
    subst e
    rw [g 78 k (by decide) (by decide) (by decide) (by decide)]
    obtain ⟨q, hq, e9⟩ := List.mem_filterMap.mp (List.mem_of_getElem? g0)
    have e9 : q.2 = N := by
      split at e9
      · exact Option.some.inj e9
      · exact absurd e9 (by simp)
    obtain ⟨z1, z2⟩ := w3 q hq
    rw [e9] at z1 z2
    exact clm z1 z2 (f2 k N g0)
end KCK
end
section
/-! the class: sums are worked -/
section KWK
variable {G : kG} {q : kP} {d : Nat} {x x0 y z : gd} {F : Int32 → gd → Prop} {Fv : gd → Prop}
/-- what working a sum changes -/
def sWk (c k : Nat) : Prop := (c = 60 ∧ k = 5) ∨ c = 65
theorem CO_fm (h : CO x) (f : ∀ c k, (60 ≤ c ∧ c < 90 ∧ ¬ (c = 60 ∧ k = 5) ∧ c ≠ 65) → y.1 c k = x.1 c k) : CO y := by
  obtain ⟨h1, h2, h3, h4, h5⟩ := h
  have e60 : ∀ j, ¬ j = 5 → y.1 60 j = x.1 60 j := fun j hj => f _ _ (by omega)
  have es : ssm y = ssm x := by unfold ssm; rw [f 80 9 (by omega)]
  have ep : ∀ j, sop y j = sop x j := fun j => by unfold sop; rw [f 81 j (by omega)]
  have et : ∀ j, stg y j = stg x j := fun j => by unfold stg; rw [f 84 j (by omega)]
  refine ⟨?_, ?_, by omega, fun i hi => ⟨?_, ?_⟩, fun t ht => ?_⟩
  · rw [e60 6 (by omega), e60 9 (by omega), e60 10 (by omega), e60 13 (by omega), e60 14 (by omega), e60 16 (by omega)]; exact h1
  · rw [e60 3 (by omega)]
    refine ⟨h2.1, fun i hi c => ?_⟩
    rw [f 62 i (by omega)] at c
    rw [f 63 i (by omega)]; exact h2.2 i hi c
  · have := (h4 i (by omega)).1
    unfold CSa at this ⊢
    rw [ep, f 85 i (by omega), f 86 i (by omega), e60 6 (by omega), e60 9 (by omega), e60 10 (by omega)]; exact this
  · have := (h4 i (by omega)).2
    unfold CSb at this ⊢
    rw [ep, et, f 83 i (by omega), es, e60 13 (by omega), ep]; exact this
  · rw [e60 10 (by omega)] at ht
    rw [f 72 t (by omega), es]; exact h5 t ht
end KWK
end
section
/-! sums are worked: what comes of them -/
def biQ (k a b : Int32) : Option Int32 :=
  if k = 30 then some (if a = 0 then (if b = 0 then 0 else 1) else 1)
  else if k = 12 then some (if a = 0 then 0 else if b = 0 then 0 else 1)
  else if k = 51 then some (if a = b then 1 else 0)
  else if k = 52 then some (if a = b then 0 else 1)
  else if k = 53 then some (if b ≤ a then 0 else 1)
  else if k = 54 then some (if b < a then 0 else 1)
  else if k = 55 then some (if a ≤ b then 0 else 1)
  else if k = 56 then some (if a < b then 0 else 1)
  else if k = 57 then some (a + b)
  else if k = 58 then some (a - b)
  else if k = 59 then some (a * b)
  else if b = 0 then none
  else if k = 60 then some (a / b) else some (a - a / b * b)
def unQ (k a : Int32) : Int32 := if k = 29 then (if a = 0 then 1 else 0) else -a
/-- the values, the latest first; none: a division by 0 -/
def evQ (lv : Nat → Int32) (cv : Int32 → Int32) (me : Int32) : List gQ → List Int32 → Option (List Int32)
  | [], s => some s
  | q :: Q, s =>
    if q.1 = 1 then evQ lv cv me Q (q.2.2 :: s)
    else if q.1 = 2 then evQ lv cv me Q (lv q.2.1 :: s)
    else if q.1 = 3 then evQ lv cv me Q (me :: s)
    else if q.1 = 4 then evQ lv cv me Q (cv q.2.2 :: s)
    else if q.1 = 5 then evQ lv cv me Q (unQ q.2.2 (s.headD 0) :: s.tail)
    else match biQ q.2.2 (s.tail.headD 0) (s.headD 0) with
      | some r => evQ lv cv me Q (r :: s.tail.tail)
      | none => none
def wkQ (lv : Nat → Int32) (cv : Int32 → Int32) (me : Int32) (Q : List gQ) : Option Int32 := (evQ lv cv me Q []).map (fun s => s.headD 0)
/-- how high the values stand -/
def okQ : List gQ → Nat → Prop
  | [], h => h = 1
  | q :: Q, h => if q.1 = 5 then 1 ≤ h ∧ okQ Q h else if q.1 = 6 then 2 ≤ h ∧ okQ Q (h - 1) else h < 40 ∧ okQ Q (h + 1)
def qOk (q : gQ) : Prop := (1 ≤ q.1 ∧ q.1 ≤ 6) ∧ (q.1 = 5 → q.2.2 = 29 ∨ q.2.2 = 58) ∧ (q.1 = 6 → ¬ pst q.2.2 = 0)
/-- values stand in a row, the latest on top -/
def STK (a : Nat → Int32) : List Int32 → Prop
  | [] => True
  | v :: s => a s.length = v ∧ STK a s
section PWK
variable {lv : Nat → Int32} {cv : Int32 → Int32} {me : Int32} {Q : List gQ} {q : gQ} {s : List Int32} {a a' : Nat → Int32} {h : Nat} {sN : Nat → Nat → Bool} {T : gTd} {V K : Nat → Int32} {ks : gK} {N : gU}
theorem STK_eq : ∀ {s : List Int32}, (∀ i, i < s.length → a' i = a i) → STK a s → STK a' s := by
  intro s
  induction s with
  | nil => intro _ _; trivial
  | cons v s ih => intro e h; exact ⟨(e s.length (Nat.lt_succ_self _)).trans h.1, ih (fun i hi => e i (Nat.lt_succ_of_lt hi)) h.2⟩
theorem ev_1 (c : q.1 = 1) : evQ lv cv me (q :: Q) s = evQ lv cv me Q (q.2.2 :: s) := by rw [evQ, if_pos c]
theorem ev_2 (c : q.1 = 2) : evQ lv cv me (q :: Q) s = evQ lv cv me Q (lv q.2.1 :: s) := by rw [evQ, if_neg (by omega), if_pos c]
theorem ev_3 (c : q.1 = 3) : evQ lv cv me (q :: Q) s = evQ lv cv me Q (me :: s) := by rw [evQ, if_neg (by omega), if_neg (by omega), if_pos c]
theorem ev_4 (c : q.1 = 4) : evQ lv cv me (q :: Q) s = evQ lv cv me Q (cv q.2.2 :: s) := by rw [evQ, if_neg (by omega), if_neg (by omega), if_neg (by omega), if_pos c]
theorem ev_5 (c : q.1 = 5) {v : Int32} : evQ lv cv me (q :: Q) (v :: s) = evQ lv cv me Q (unQ q.2.2 v :: s) := by
  rw [evQ, if_neg (by omega), if_neg (by omega), if_neg (by omega), if_neg (by omega), if_pos c]; rfl
theorem ev_6 (c : q.1 = 6) {v u r : Int32} (hb : biQ q.2.2 u v = some r) : evQ lv cv me (q :: Q) (v :: u :: s) = evQ lv cv me Q (r :: s) := by
  rw [evQ, if_neg (by omega), if_neg (by omega), if_neg (by omega), if_neg (by omega), if_neg (by omega)]
  show (match biQ q.2.2 u v with | some r => evQ lv cv me Q (r :: s) | none => none) = _
  rw [hb]
theorem ev_6n (c : q.1 = 6) {v u : Int32} (hb : biQ q.2.2 u v = none) : evQ lv cv me (q :: Q) (v :: u :: s) = none := by
  rw [evQ, if_neg (by omega), if_neg (by omega), if_neg (by omega), if_neg (by omega), if_neg (by omega)]
  show (match biQ q.2.2 u v with | some r => evQ lv cv me Q (r :: s) | none => none) = _
  rw [hb]
theorem okQ_p (h1 : okQ (q :: Q) h) (c : 1 ≤ q.1 ∧ q.1 ≤ 4) : h < 40 ∧ okQ Q (h + 1) := by
  rw [okQ, if_neg (by omega), if_neg (by omega)] at h1
  exact h1
theorem okQ_5 (h1 : okQ (q :: Q) h) (c : q.1 = 5) : 1 ≤ h ∧ okQ Q h := by
  rw [okQ, if_pos c] at h1
  exact h1
theorem okQ_6 (h1 : okQ (q :: Q) h) (c : q.1 = 6) : 2 ≤ h ∧ okQ Q (h - 1) := by
  rw [okQ, if_neg (by omega), if_pos c] at h1
  exact h1
/-- the pieces of a text's sum -/
theorem nQ_ok {o : Bool} : ∀ {N : gU} {h : Nat}, sEv o N → okE N h → okQ (nQs sN T V K ks N) h := by
  intro N
  induction N with
  | nil => intro h _ g; exact g
  | cons v N ih =>
    intro h hs g
    have ih := fun h' g' => ih (h := h') (fun u hu => hs u (List.mem_cons_of_mem _ hu)) g'
    obtain ⟨k, i, j⟩ := v
    rw [okE] at g
    rcases hs _ List.mem_cons_self with e | e | e | e | ⟨-, e⟩ | ⟨-, e | e | e⟩
    · have e : k = 50 := e
      subst e
      rw [if_neg (show ¬ 50 = 7 by decide), if_pos rfl] at g
      show okQ ((5, 0, K i) :: nQs sN T V K ks N) h
      rw [okQ, if_pos rfl]
      exact ⟨g.1, ih _ g.2⟩
    · have e : k = 51 := e
      subst e
      rw [if_neg (show ¬ 51 = 7 by decide), if_neg (show ¬ 51 = 50 by decide), if_pos rfl] at g
      show okQ ((6, 0, K i) :: nQs sN T V K ks N) h
      rw [okQ, if_neg (show ¬ 6 = 5 by decide), if_pos rfl]
      exact ⟨g.1, ih _ g.2⟩
    · have e : k = 52 := e
      subst e
      rw [if_neg (show ¬ 52 = 7 by decide), if_neg (show ¬ 52 = 50 by decide), if_neg (show ¬ 52 = 51 by decide)] at g
      show okQ ((1, 0, V i) :: nQs sN T V K ks N) h
      rw [okQ, if_neg (show ¬ 1 = 5 by decide), if_neg (show ¬ 1 = 6 by decide)]
      exact ⟨g.1, ih _ g.2⟩
    · have e : k = 53 := e
      subst e
      rw [if_neg (show ¬ 53 = 7 by decide), if_neg (show ¬ 53 = 50 by decide), if_neg (show ¬ 53 = 51 by decide)] at g
      show okQ ((3, 0, 0) :: nQs sN T V K ks N) h
      rw [okQ, if_neg (show ¬ 3 = 5 by decide), if_neg (show ¬ 3 = 6 by decide)]
      exact ⟨g.1, ih _ g.2⟩
    · have e : k = 3 := e
      subst e
      rw [if_neg (show ¬ 3 = 7 by decide), if_neg (show ¬ 3 = 50 by decide), if_neg (show ¬ 3 = 51 by decide)] at g
      show okQ ((2, (kfi sN ks i).getD 0, 0) :: nQs sN T V K ks N) h
      rw [okQ, if_neg (show ¬ 2 = 5 by decide), if_neg (show ¬ 2 = 6 by decide)]
      exact ⟨g.1, ih _ g.2⟩
    · have e : k = 6 := e
      subst e
      rw [if_neg (show ¬ 6 = 7 by decide), if_neg (show ¬ 6 = 50 by decide), if_neg (show ¬ 6 = 51 by decide)] at g
      show okQ ((4, 0, Int32.ofNat (nmT sN 0 i T)) :: nQs sN T V K ks N) h
      rw [okQ, if_neg (show ¬ 4 = 5 by decide), if_neg (show ¬ 4 = 6 by decide)]
      exact ⟨g.1, ih _ g.2⟩
    · have e : k = 7 := e
      subst e
      rw [if_pos rfl] at g
      exact ih _ g
    · have e : k = 12 := e
      subst e
      rw [if_neg (show ¬ 12 = 7 by decide), if_neg (show ¬ 12 = 50 by decide), if_neg (show ¬ 12 = 51 by decide)] at g
      show okQ ((4, 0, Int32.ofNat (nmT sN 0 j T) + V i) :: nQs sN T V K ks N) h
      rw [okQ, if_neg (show ¬ 4 = 5 by decide), if_neg (show ¬ 4 = 6 by decide)]
      exact ⟨g.1, ih _ g.2⟩
/-- each of them: what it is; a local is known -/
theorem nQ_q {o : Bool} (hs : sEv o N) (hv : ∀ v ∈ N, sVv K v) (hk : ∀ v ∈ N, v.1 = 3 → ∃ p, kfi sN ks v.2.1 = some p) : ∀ q ∈ nQs sN T V K ks N, qOk q ∧ (q.1 = 2 → q.2.1 < ks.length) ∧ (o = false → ¬ q.1 = 4) := by
  intro q hq
  obtain ⟨v, hm, e⟩ := List.mem_filterMap.mp hq
  obtain ⟨h50, h51, -⟩ := hv v hm
  have h3 := hk v hm
  obtain ⟨k, i, j⟩ := v
  rcases hs _ hm with e9 | e9 | e9 | e9 | ⟨-, e9⟩ | ⟨ho, e9 | e9 | e9⟩
  · have e9 : k = 50 := e9
    subst e9
    cases Option.some.inj e
    exact ⟨⟨⟨Nat.le_of_ble_eq_true rfl, Nat.le_of_ble_eq_true rfl⟩, fun _ => h50 rfl, fun z => absurd z (show ¬ 5 = 6 by decide)⟩, fun z => absurd z (show ¬ 5 = 2 by decide), fun _ => show ¬ 5 = 4 by decide⟩
  · have e9 : k = 51 := e9
    subst e9
    cases Option.some.inj e
    exact ⟨⟨⟨Nat.le_of_ble_eq_true rfl, Nat.le_of_ble_eq_true rfl⟩, fun z => absurd z (show ¬ 6 = 5 by decide), fun _ => h51 rfl⟩, fun z => absurd z (show ¬ 6 = 2 by decide), fun _ => show ¬ 6 = 4 by decide⟩
  · have e9 : k = 52 := e9
    subst e9
    cases Option.some.inj e
    exact ⟨⟨⟨Nat.le_of_ble_eq_true rfl, Nat.le_of_ble_eq_true rfl⟩, fun z => absurd z (show ¬ 1 = 5 by decide), fun z => absurd z (show ¬ 1 = 6 by decide)⟩, fun z => absurd z (show ¬ 1 = 2 by decide), fun _ => show ¬ 1 = 4 by decide⟩
  · have e9 : k = 53 := e9
    subst e9
    cases Option.some.inj e
    exact ⟨⟨⟨Nat.le_of_ble_eq_true rfl, Nat.le_of_ble_eq_true rfl⟩, fun z => absurd z (show ¬ 3 = 5 by decide), fun z => absurd z (show ¬ 3 = 6 by decide)⟩, fun z => absurd z (show ¬ 3 = 2 by decide), fun _ => show ¬ 3 = 4 by decide⟩
  · have e9 : k = 3 := e9
    subst e9
    cases Option.some.inj e
    refine ⟨⟨⟨Nat.le_of_ble_eq_true rfl, Nat.le_of_ble_eq_true rfl⟩, fun z => absurd z (show ¬ 2 = 5 by decide), fun z => absurd z (show ¬ 2 = 6 by decide)⟩, fun _ => ?_, fun _ => show ¬ 2 = 4 by decide⟩
    obtain ⟨p, hp⟩ := h3 rfl
    have hp : kfi sN ks i = some p := hp
    show (kfi sN ks i).getD 0 < ks.length
    rw [hp]
    exact kfi_lt hp
  · have e9 : k = 6 := e9
    subst e9
    cases Option.some.inj e
    exact ⟨⟨⟨Nat.le_of_ble_eq_true rfl, Nat.le_of_ble_eq_true rfl⟩, fun z => absurd z (show ¬ 4 = 5 by decide), fun z => absurd z (show ¬ 4 = 6 by decide)⟩, fun z => absurd z (show ¬ 4 = 2 by decide), fun z => absurd (ho.symm.trans z) (by decide)⟩
  · have e9 : k = 7 := e9
    subst e9
    cases e
  · have e9 : k = 12 := e9
    subst e9
    cases Option.some.inj e
    exact ⟨⟨⟨Nat.le_of_ble_eq_true rfl, Nat.le_of_ble_eq_true rfl⟩, fun z => absurd z (show ¬ 4 = 5 by decide), fun z => absurd z (show ¬ 4 = 6 by decide)⟩, fun z => absurd z (show ¬ 4 = 2 by decide), fun z => absurd (ho.symm.trans z) (by decide)⟩
end PWK
end
section
/-! the code in numbers: what it is like -/
def aftN (st : gNs) : List Nat := if (st.1 = 0 ∨ (2 ≤ st.1 ∧ st.1 ≤ 4) ∨ st.1 = 16) ∧ st.2.2.2.1 = some st.2.1.length then st.2.2.1 :: st.2.1 else st.2.1
def sQo (sl : List Nat) (o : Option (List gQ)) : Prop := ∀ Q, o = some Q → okQ Q 0 ∧ ∀ q ∈ Q, qOk q ∧ (q.1 = 2 → q.2.1 < sl.length) ∧ ¬ q.1 = 4
def NS (S : List gNs) (j : Nat) (st : gNs) : Prop :=
  (st.1 < 22 ∧ ¬ st.1 = 15) ∧
  (¬ (st.1 = 20 ∨ st.1 = 21) → ∃ st', S[j + 1]? = some st' ∧ st'.2.1 <:+ aftN st) ∧
  (st.1 = 17 ∨ st.1 = 20 → ∃ n st', st.2.2.2.1 = some n ∧ S[n]? = some st' ∧ st'.2.1 <:+ st.2.1) ∧
  ((st.1 = 0 ∨ (2 ≤ st.1 ∧ st.1 ≤ 4) ∨ st.1 = 16) → ∃ p, st.2.2.2.1 = some p ∧ (p < st.2.1.length ∨ (p = st.2.1.length ∧ st.2.2.1 < 8))) ∧
  (st.2.1.Pairwise (fun a b => b < a) ∧ (∀ s ∈ st.2.1, s < st.2.2.1) ∧ st.2.2.1 ≤ 8) ∧
  ((1 ≤ st.1 ∧ st.1 ≤ 4) ∨ st.1 = 13 ∨ st.1 = 14 ∨ (16 ≤ st.1 ∧ st.1 ≤ 18) → ∃ Q, st.2.2.2.2.2.2.2.2.1 = some Q) ∧
  (st.1 = 4 → ∃ Q, st.2.2.2.2.2.2.2.2.2 = some Q) ∧
  sQo st.2.1 st.2.2.2.2.2.2.2.1 ∧ sQo st.2.1 st.2.2.2.2.2.2.2.2.1 ∧ sQo st.2.1 st.2.2.2.2.2.2.2.2.2 ∧ (19 ≤ st.1 → st.2.2.2.2.2.2.2.2.1 = none)
def NC (C : gCo) : Prop := (∀ j st, C.1[j]? = some st → NS C.1 j st) ∧ (∀ q ∈ C.2.1, (∃ st, C.1[q.1]? = some st ∧ st.2.1 = []) ∧ q.2 ≤ 1) ∧ ∀ Q, Q ∈ C.2.2.2.1 ∨ Q ∈ C.2.2.2.2 → okQ Q 0 ∧ ∀ q ∈ Q, qOk q ∧ ¬ q.1 = 2
section CNW
variable {sN : Nat → Nat → Bool} {T : gTd} {V K : Nat → Int32} {L : gU} {st : gSt} {P : Nat × Nat × Nat → Prop} {E : gV}
theorem slK_len {ks : gK} : (slK ks).length = ks.length := List.length_map _
theorem aft_N : aftN (nStp sN T V K st) = aft st := by
  show (if (st.1 = 0 ∨ (2 ≤ st.1 ∧ st.1 ≤ 4) ∨ st.1 = 16) ∧ st.2.2.2.1 = some (slK st.2.2.1.1).length then st.2.2.1.2 :: slK st.2.2.1.1 else slK st.2.2.1.1) = aft st
  rw [slK_len]
  rfl
theorem sQo_of {ks : gK} {o : Option gU} (ek : ks = E.1) (h : sOo sN K E o) : sQo (slK ks) (o.map (nQs sN T V K ks)) := fun Q hQ => by
  obtain ⟨N, g0, e⟩ := Option.map_eq_some_iff.mp hQ
  subst e
  obtain ⟨q1, q2, q3, q4⟩ := h N g0
  refine ⟨nQ_ok q1 q3, fun q hq => ?_⟩
  obtain ⟨a, b, c⟩ := nQ_q q1 q2 (fun v hv h3 => by rw [ek]; exact q4 v hv h3) q hq
  exact ⟨a, fun z => by rw [slK_len]; exact b z, c rfl⟩
theorem NC_of (h : WC sN K P (cds sN K L cd0)) : NC (codN sN V K L) := by
  obtain ⟨E, S, r, b, l, ec, -, -, w1, w2, w3⟩ := h
  have e1 : (cds sN K L cd0).2.1 = S := by rw [ec]
  have e2 : (cds sN K L cd0).2.2.2.2.1 = b := by rw [ec]
  have e3 : (cds sN K L cd0).2.2.2.2.2 = l := by rw [ec]
  unfold codN
  rw [e1, e2, e3]
  generalize L.filterMap (te1 K V) = T
  have at' : ∀ {j : Nat} {s : gSt}, S[j]? = some s → (S.map (nStp sN T V K))[j]? = some (nStp sN T V K s) := fun {j s} hj => by rw [List.getElem?_map, hj]; rfl
  have cl : ∀ {u : Nat} {Q : List gQ}, Q ∈ (clF u l).map (nQs sN T V K []) → okQ Q 0 ∧ ∀ q ∈ Q, qOk q ∧ ¬ q.1 = 2 := fun {u Q} hQ => by
    obtain ⟨N, hN, e⟩ := List.mem_map.mp hQ
    subst e
    obtain ⟨q, hq, e9⟩ := List.mem_filterMap.mp hN
    have e9 : q.2 = N := by
      split at e9
      · exact Option.some.inj e9
      · exact absurd e9 (by simp)
    obtain ⟨⟨z1, z2, z3, -⟩, -⟩ := w3 q hq
    rw [e9] at z1 z2 z3
    refine ⟨nQ_ok z1 z3, fun q hq => ?_⟩
    obtain ⟨a, b, -⟩ := nQ_q z1 z2 (fun v hv h3 => by
      rcases z1 v hv with e | e | e | e | ⟨e, -⟩ | ⟨-, e | e | e⟩
      · omega
      · omega
      · omega
      · omega
      · cases e
      · omega
      · omega
      · omega) q hq
    exact ⟨a, fun z => absurd (b z) (Nat.not_lt_zero _)⟩
  refine ⟨fun j st hj => ?_, fun q hq => ?_, fun Q hQ => hQ.elim (fun z => cl z) (fun z => cl z)⟩
  · have hj : (S.map (nStp sN T V K))[j]? = some st := hj
    rw [List.getElem?_map] at hj
    obtain ⟨s0, g0, e⟩ := Option.map_eq_some_iff.mp hj
    subst e
    obtain ⟨⟨f1, f2⟩, E0, ⟨q1, q2, q3, q4, q5, q5', q6, q7, q8, q9, so0, so1, so2⟩, ge⟩ := w1 j s0 g0
    have ek : s0.2.2.1.1 = E0.1 := by rw [q1]
    have en : s0.2.2.1.2 = E0.2.2 := by rw [q1]
    refine ⟨q2, fun c => ?_, fun c => ?_, fun c => ?_, ?_, fun c => ?_, fun c => ?_, sQo_of ek so0, sQo_of ek so1, sQo_of ek so2.1, fun c => by show s0.2.2.2.2.2.2.2.1.map _ = none; rw [so2.2.1 c]; rfl⟩
    · obtain ⟨s', a1, a2⟩ := f1 c
      exact ⟨_, at' a1, by rw [aft_N]; exact a2⟩
    · obtain ⟨n, s', a0, a1, a2⟩ := f2 c
      exact ⟨n, _, a0, at' a1, a2⟩
    · obtain ⟨p, a1, a2⟩ := q3 c
      refine ⟨p, a1, ?_⟩
      show p < (slK s0.2.2.1.1).length ∨ (p = (slK s0.2.2.1.1).length ∧ s0.2.2.1.2 < 8)
      rw [slK_len, ek, en]
      exact a2
    · show (slK s0.2.2.1.1).Pairwise _ ∧ (∀ s ∈ slK s0.2.2.1.1, s < s0.2.2.1.2) ∧ s0.2.2.1.2 ≤ 8
      rw [ek, en]
      exact ge
    · have := q8 c
      cases h9 : s0.2.2.2.2.2.2.2.1 with
      | none => exact absurd h9 this
      | some N => exact ⟨_, by show s0.2.2.2.2.2.2.2.1.map _ = _; rw [h9]; rfl⟩
    · have := q9 c
      cases h9 : s0.2.2.2.2.2.2.2.2 with
      | none => exact absurd h9 this
      | some N => exact ⟨_, by show s0.2.2.2.2.2.2.2.2.map _ = _; rw [h9]; rfl⟩
  · obtain ⟨⟨s, s1, s2⟩, a⟩ := w2 q hq
    exact ⟨⟨_, at' s1, by show slK s.2.2.1.1 = []; rw [s2]; rfl⟩, a⟩
/-- what belongs where -/
def NX2 (C : gCo) : Prop := ∀ (j : Nat) (st : gNs), C.1[j]? = some st → (¬ st.2.2.2.2.2.2.2.1 = none → st.1 ≤ 4) ∧ (¬ st.2.2.2.2.2.2.2.2.2 = none → st.1 = 4) ∧ (¬ st.2.2.2.2.2.2.2.2.1 = none → (1 ≤ st.1 ∧ st.1 ≤ 4) ∨ st.1 = 13 ∨ st.1 = 14 ∨ (16 ≤ st.1 ∧ st.1 ≤ 18)) ∧ (st.1 = 8 → st.2.2.2.2.2.1 = if st.2.2.2.2.2.2.1 = true then 1 else 0) ∧ (¬ (st.1 = 0 ∨ (2 ≤ st.1 ∧ st.1 ≤ 4) ∨ st.1 = 16 ∨ st.1 = 17 ∨ st.1 = 20) → st.2.2.2.1 = none)
theorem NX2_of (h : WC sN K P (cds sN K L cd0)) : NX2 (codN sN V K L) := by
  obtain ⟨E, S, r, b, l, ec, -, -, w1, w2, w3⟩ := h
  have e1 : (cds sN K L cd0).2.1 = S := by rw [ec]
  intro j st hj
  unfold codN at hj
  rw [e1] at hj
  generalize L.filterMap (te1 K V) = T at hj
  have hj : (S.map (nStp sN T V K))[j]? = some st := hj
  rw [List.getElem?_map] at hj
  obtain ⟨s0, g0, e⟩ := Option.map_eq_some_iff.mp hj
  subst e
  obtain ⟨-, E0, ⟨q1, q2, q3, q4, q5, q5', q6, q7, q8, q9, so0, so1, so2, q10, n1, n2, n3⟩, -⟩ := w1 j s0 g0
  refine ⟨fun c => ?_, fun c => ?_, fun c => ?_, fun c => ?_, n3⟩
  · rcases Nat.lt_or_ge 4 s0.1 with c5 | c5
    · exact absurd (show s0.2.2.2.2.2.2.1.map _ = none by rw [q7 c5]; rfl) c
    · exact c5
  · rcases Decidable.em (s0.1 = 4) with c5 | c5
    · exact c5
    · exact absurd (show s0.2.2.2.2.2.2.2.2.map _ = none by rw [n1 c5]; rfl) c
  · rcases Decidable.em ((1 ≤ s0.1 ∧ s0.1 ≤ 4) ∨ s0.1 = 13 ∨ s0.1 = 14 ∨ (16 ≤ s0.1 ∧ s0.1 ≤ 18)) with c5 | c5
    · exact c5
    · exact absurd (show s0.2.2.2.2.2.2.2.1.map _ = none by rw [n2 c5]; rfl) c
  · have c : s0.1 = 8 := c
    show mSz sN T s0 = if s0.2.2.2.2.2.1 = true then 1 else 0
    unfold mSz
    rw [if_neg (show ¬ s0.1 ≤ 4 by omega)]
end CNW
end
section
/-! a thread's own steps; how a run begins -/
/-- what becomes of a thread: 1 at an act, 2 ended, 3 failed; its number, its step, its locals -/
abbrev gTr := Nat × Nat × Nat × (Nat → Int32)
def fup (lv : Nat → Int32) (p : Nat) (v : Int32) : Nat → Int32 := fun j => if j = p then v else lv j
/-- one step: it is over, or goes on -/
def ow1 (me : Int32) (s : Nat) (st : gNs) (lv : Nat → Int32) : gTr ⊕ (Nat × (Nat → Int32)) :=
  if st.1 = 19 ∨ st.1 = 21 then .inl (2, 0, 0, lv)
  else if st.1 = 20 then .inr (st.2.2.2.1.getD 0, lv)
  else match wkQ lv (fun _ => 0) me (st.2.2.2.2.2.2.2.2.1.getD []) with
    | none => .inl (3, 1, s, lv)
    | some v => if st.1 = 18 ∧ v = 0 then .inl (3, 5, s, lv) else .inr (if st.1 = 17 ∧ v = 0 then st.2.2.2.1.getD 0 else s + 1, if st.1 = 16 then fup lv (st.2.2.2.1.getD 0) v else lv)
def setP (C : gCo) (me : Int32) : Nat → Nat → Nat → (Nat → Int32) → Option gTr
  | 0, _, _, _ => none
  | n + 1, own, s, lv => match C.1[s]? with
    | none => none
    | some st => if st.1 < 16 then some (1, 0, s, lv)
      else if st.1 < 20 ∧ 300 ≤ own then some (3, 6, s, lv)
      else match ow1 me s st lv with
        | .inl r => some r
        | .inr z => setP C me n (if st.1 < 20 then own + 1 else own) z.1 z.2
section POW
variable {C : gCo} {me : Int32} {n m own s : Nat} {lv : Nat → Int32} {st : gNs} {r r' : gTr}
theorem set_act (h : C.1[s]? = some st) (c : st.1 < 16) : setP C me (n + 1) own s lv = some (1, 0, s, lv) := by
  rw [setP]
  simp only [h]
  rw [if_pos c]
theorem set_6 (h : C.1[s]? = some st) (c : ¬ st.1 < 16) (c2 : st.1 < 20 ∧ 300 ≤ own) : setP C me (n + 1) own s lv = some (3, 6, s, lv) := by
  rw [setP]
  simp only [h]
  rw [if_neg c, if_pos c2]
theorem set_l (h : C.1[s]? = some st) (c : ¬ st.1 < 16) (c2 : ¬ (st.1 < 20 ∧ 300 ≤ own)) (e : ow1 me s st lv = .inl r) : setP C me (n + 1) own s lv = some r := by
  rw [setP]
  simp only [h]
  rw [if_neg c, if_neg c2, e]
theorem set_r {z : Nat × (Nat → Int32)} (h : C.1[s]? = some st) (c : ¬ st.1 < 16) (c2 : ¬ (st.1 < 20 ∧ 300 ≤ own)) (e : ow1 me s st lv = .inr z) : setP C me (n + 1) own s lv = setP C me n (if st.1 < 20 then own + 1 else own) z.1 z.2 := by
  rw [setP]
  simp only [h]
  rw [if_neg c, if_neg c2, e]
theorem set_up : ∀ {n m own s : Nat} {lv : Nat → Int32}, setP C me n own s lv = some r → n ≤ m → setP C me m own s lv = some r := by
  intro n
  induction n with
  | zero => intro m own s lv h; exact absurd h (by simp [setP])
  | succ n ih =>
    intro m own s lv h hm
    obtain ⟨m, rfl⟩ : ∃ k, m = k + 1 := ⟨m - 1, by omega⟩
    cases hs : C.1[s]? with
    | none =>
      rw [setP] at h
      simp only [hs] at h
      exact absurd h (by simp)
    | some st =>
      by_cases c : st.1 < 16
      · rw [set_act hs c] at h ⊢; exact h
      · by_cases c2 : st.1 < 20 ∧ 300 ≤ own
        · rw [set_6 hs c c2] at h ⊢; exact h
        · cases e : ow1 me s st lv with
          | inl r9 => rw [set_l hs c c2 e] at h ⊢; exact h
          | inr z =>
            rw [set_r hs c c2 e] at h ⊢
            exact ih h (by omega)
theorem set_det (h : setP C me n own s lv = some r) (g : setP C me m own s lv = some r') : r = r' := by
  have a := set_up (m := n + m) h (by omega)
  have b := set_up (m := n + m) g (by omega)
  exact Option.some.inj (a.symm.trans b)
end POW
section PCH
variable {C : gCo} {f g : Nat → gTr} {n : Nat}
end PCH
end
section
/-! the class: what comes of a sum -/
section KWF
variable {G : kG} {q : kP} {d : Nat} {x y z : gd} {F : Int32 → gd → Prop}
theorem pst_in {k : Int32} (h : ¬ pst k = 0) : k ∈ [(30 : Int32), 12, 51, 52, 53, 54, 55, 56, 57, 58, 59, 60, 28] := by
  apply Classical.byContradiction
  intro c
  exact h (pst_c (fun w hw e => c (by rw [e]; exact hw)))
theorem kf_operate (hq : kV q) {k : Int32} (hk : ¬ pst k = 0) (a b : Int32) (h : ∀ r y, (biQ k a b = some r ∧ y = x) ∨ (biQ k a b = none ∧ y = si x 60 5 1) → F r y) : KT G q d zk_X0_operate 0 [(0, vr 60), (1, vi (kcv k)), (2, vi a), (3, vi b)] [] x (ri F) := by
  have hm := pst_in hk
  have g : ∀ r, biQ k a b = some r → ri F (some (vi r)) x := fun r e => ri_i (h r x (Or.inl ⟨e, rfl⟩))
  have i1 : ∀ w ∈ [(30 : Int32), 12, 51, 52, 53, 54, 55, 56, 57, 58, 59, 60, 28], (kcv w = 60 → w = 30) ∧ (kcv w = 42 → w = 12) ∧ (kcv w = 11 → w = 51) ∧ (kcv w = 12 → w = 52) ∧ (kcv w = 13 → w = 53) ∧ (kcv w = 14 → w = 54) ∧ (kcv w = 15 → w = 55) ∧ (kcv w = 16 → w = 56) ∧ (kcv w = 17 → w = 57) ∧ (kcv w = 18 → w = 58) ∧ (kcv w = 19 → w = 59) ∧ (kcv w = 20 → w = 60) := by decide
  have i2 : ∀ w ∈ [(30 : Int32), 12, 51, 52, 53, 54, 55, 56, 57, 58, 59, 60, 28], (∀ u ∈ [(60 : Int32), (42 : Int32), (11 : Int32), (12 : Int32), (13 : Int32), (14 : Int32), (15 : Int32), (16 : Int32), (17 : Int32), (18 : Int32), (19 : Int32)], ¬ kcv w = u) → w = 60 ∨ w = 28 := by decide
  have i3 : kcv 60 = 20 := by decide
  obtain ⟨j1, j2, j3, j4, j5, j6, j7, j8, j9, j10, j11, j12⟩ := i1 k hm
  refine kg_X0_operate_0 hq _ _ _ ⟨fun c => ?_, fun c => ?_, fun c => ?_, fun c => ?_, fun c => ?_, fun c => ?_, fun c => ?_, fun c => ?_, fun c => ?_, fun c => ?_, fun c => ?_, fun c => ?_⟩
  · have e := j1 c
    subst e
    exact ⟨fun n => g 1 (by show some (if a = 0 then _ else (1 : Int32)) = _; rw [if_neg n]), fun z => ⟨fun z2 => g 0 (by show some (if a = 0 then (if b = 0 then (0 : Int32) else 1) else 1) = _; rw [if_pos z, if_pos z2]), fun n2 => g 1 (by show some (if a = 0 then (if b = 0 then (0 : Int32) else 1) else 1) = _; rw [if_pos z, if_neg n2])⟩⟩
  · have e := j2 c
    subst e
    exact ⟨fun z => g 0 (by show some (if a = 0 then (0 : Int32) else if b = 0 then 0 else 1) = _; rw [if_pos z]), fun n => ⟨fun z2 => g 0 (by show some (if a = 0 then (0 : Int32) else if b = 0 then 0 else 1) = _; rw [if_neg n, if_pos z2]), fun n2 => g 1 (by show some (if a = 0 then (0 : Int32) else if b = 0 then 0 else 1) = _; rw [if_neg n, if_neg n2])⟩⟩
  · have e := j3 c
    subst e
    exact ⟨fun n => g 0 (by show some (if a = b then (1 : Int32) else 0) = _; rw [if_neg n]), fun z => g 1 (by show some (if a = b then (1 : Int32) else 0) = _; rw [if_pos z])⟩
  · have e := j4 c
    subst e
    exact ⟨fun z => g 0 (by show some (if a = b then (0 : Int32) else 1) = _; rw [if_pos z]), fun n => g 1 (by show some (if a = b then (0 : Int32) else 1) = _; rw [if_neg n])⟩
  · have e := j5 c
    subst e
    exact ⟨fun z => g 0 (by show some (if b ≤ a then (0 : Int32) else 1) = _; rw [if_pos z]), fun n => g 1 (by show some (if b ≤ a then (0 : Int32) else 1) = _; rw [if_neg n])⟩
  · have e := j6 c
    subst e
    exact ⟨fun z => g 0 (by show some (if b < a then (0 : Int32) else 1) = _; rw [if_pos z]), fun n => g 1 (by show some (if b < a then (0 : Int32) else 1) = _; rw [if_neg n])⟩
  · have e := j7 c
    subst e
    exact ⟨fun z => g 0 (by show some (if a ≤ b then (0 : Int32) else 1) = _; rw [if_pos z]), fun n => g 1 (by show some (if a ≤ b then (0 : Int32) else 1) = _; rw [if_neg n])⟩
  · have e := j8 c
    subst e
    exact ⟨fun z => g 0 (by show some (if a < b then (0 : Int32) else 1) = _; rw [if_pos z]), fun n => g 1 (by show some (if a < b then (0 : Int32) else 1) = _; rw [if_neg n])⟩
  · have e := j9 c
    subst e
    exact g _ rfl
  · have e := j10 c
    subst e
    exact g _ rfl
  · have e := j11 c
    subst e
    exact g _ rfl
  · rcases i2 k hm c with e | e
    · subst e
      refine ⟨fun n => ⟨fun n20 => absurd i3 n20, fun _ => ⟨n, g _ ?_⟩⟩, fun z y ey => ri_i (h _ y (Or.inr ⟨?_, ey⟩))⟩
      · show (if b = 0 then none else some (a / b)) = _
        rw [if_neg n]
      · show (if b = 0 then none else some (a / b)) = _
        rw [if_pos z]
    · subst e
      refine ⟨fun n => ⟨fun _ => ⟨n, g _ ?_⟩, fun z20 => absurd z20 (by decide)⟩, fun z y ey => ri_i (h _ y (Or.inr ⟨?_, ey⟩))⟩
      · show (if b = 0 then none else some (a - a / b * b)) = _
        rw [if_neg n]
      · show (if b = 0 then none else some (a - a / b * b)) = _
        rw [if_pos z]
theorem cQ_n0 {q : gQ} (h : qOk q) : ¬ (cQ q).1 = 0 ∧ (q.1 = 6 → ¬ (cQ q).1 = 1 ∧ ¬ (cQ q).1 = 2 ∧ ¬ (cQ q).1 = 3 ∧ ¬ (cQ q).1 = 4 ∧ ¬ (cQ q).1 = 5) := by
  obtain ⟨k, p, a⟩ := q
  obtain ⟨h1, -, h6⟩ := h
  have h1 : 1 ≤ k ∧ k ≤ 6 := h1
  have cs : k = 1 ∨ k = 2 ∨ k = 3 ∨ k = 4 ∨ k = 5 ∨ k = 6 := by omega
  rcases cs with e | e | e | e | e | e <;> subst e
  · exact ⟨show ¬ (1 : Int32) = 0 by decide, fun z => absurd z (show ¬ 1 = 6 by decide)⟩
  · exact ⟨show ¬ (2 : Int32) = 0 by decide, fun z => absurd z (show ¬ 2 = 6 by decide)⟩
  · exact ⟨show ¬ (3 : Int32) = 0 by decide, fun z => absurd z (show ¬ 3 = 6 by decide)⟩
  · exact ⟨show ¬ (2 : Int32) = 0 by decide, fun z => absurd z (show ¬ 4 = 6 by decide)⟩
  · refine ⟨?_, fun z => absurd z (show ¬ 5 = 6 by decide)⟩
    show ¬ (if a = 29 then (5 : Int32) else 4) = 0
    split <;> decide
  · have key : ∀ w ∈ [(30 : Int32), 12, 51, 52, 53, 54, 55, 56, 57, 58, 59, 60, 28], ¬ kcv w = 0 ∧ ¬ kcv w = 1 ∧ ¬ kcv w = 2 ∧ ¬ kcv w = 3 ∧ ¬ kcv w = 4 ∧ ¬ kcv w = 5 := by decide
    have r := key a (pst_in (h6 rfl))
    exact ⟨r.1, fun _ => r.2⟩
/-- what of the row that it looks at a sum takes -/
def qVl (a : Nat → Int32) (n : Nat) (b : Int32) (lv : Nat → Int32) (cv : Int32 → Int32) (q : gQ) : Prop := (q.1 = 2 → vp_in (b + Int32.ofNat q.2.1) n ∧ a (b + Int32.ofNat q.2.1).toNatClampNeg = lv q.2.1) ∧ (q.1 = 4 → vp_in (b + q.2.2) n ∧ a (b + q.2.2).toNatClampNeg = cv q.2.2)
def wkR (x y : gd) (w : Option Int32) (r : Int32) : Prop := (∃ v, w = some v ∧ r = v ∧ y.1 60 5 = 0) ∨ (w = none ∧ y.1 60 5 = 1)
theorem kf_work (hq : kV q) {a2 n2 : Nat} (ka : kK a2 = .inr (.int, n2)) (ma : a2 ∈ (kf q).2.1) (ha : ¬ a2 = 60 ∧ ¬ a2 = 65) (s b t : Int32) {Q : List gQ} {lv : Nat → Int32} {cv : Int32 → Int32} (h8 : (x.1 60 3).toInt ≤ 800) (hS : SUk x s (Q.map cQ)) (ok : okQ Q 0) (hQ : ∀ p ∈ Q, qOk p ∧ qVl (x.1 a2) n2 b lv cv p) (h : ∀ r y, fm sWk x y → wkR x y (wkQ lv cv t Q) r → F r y) : KT G q (d + 1) zk_X0_work 0 [(0, vr 60), (1, vi s), (2, vr a2), (3, vi b), (4, vi t)] [] x (ri F) := by
  have k40 : (40 : Int32).toInt = 40 := rfl
  have k1 : (1 : Int32).toInt = 1 := rfl
  have k2 : (2 : Int32).toInt = 2 := rfl
  have k0 : (0 : Int32).toInt = 0 := rfl
  have c0 : (0 : Int32).toNatClampNeg = 0 := rfl
  have v0 : vp_in 0 40 := by rw [vp_in_iff]; decide
  obtain ⟨s0, s1, s2, s3⟩ := hS
  rw [List.length_map] at s1 s3
  have us := t_cl s
  have loop : ∀ (Q1 : List gQ) (m : Nat) (st : List Int32) (p i : Int32) (y : gd), (∀ j q, Q1[j]? = some q → Q[m + j]? = some q) → m + Q1.length = Q.length → okQ Q1 st.length → fm sWk x y → p.toInt = st.length → st.length ≤ 40 → i.toInt = s.toInt + m → y.1 60 5 = 0 → STK (y.1 65) st → evQ lv cv t Q1 st = evQ lv cv t Q [] → KT G q (d + 1) zk_X0_work 11 [(0, vr 60), (2, vr a2), (3, vi b), (4, vi t), (5, vi p), (6, vi i)] [] y (ri F) := by
    intro Q1
    induction Q1 with
    | nil =>
      intro m st p i y hsub hm hok fy ep l40 ei y5 hst hev
      have hok : st.length = 1 := hok
      have hm : m = Q.length := hm
      have eN : i.toNatClampNeg = s.toNatClampNeg + Q.length := by rw [t_cl]; omega
      have yz : y.1 62 i.toNatClampNeg = 0 := by rw [fy 62 _ (by unfold sWk; omega), eN]; exact s3
      have vi9 : vp_in i 800 := by rw [vp_in_iff]; omega
      have out : ri F (some (vi (y.1 65 (0 : Int32).toNatClampNeg))) y := by
        refine ri_i (h _ y fy (Or.inl ⟨_, ?_, rfl, y5⟩))
        unfold wkQ
        rw [← hev]
        cases st with
        | nil => exact absurd hok (by show ¬ 0 = 1; decide)
        | cons v st =>
          have e0 : st.length = 0 := by have : st.length + 1 = 1 := hok; omega
          have := hst.1
          rw [e0] at this
          rw [c0, this]
          rfl
      refine kg_X0_work_11 hq ka ma _ _ _ _ ⟨fun _ => ⟨v0, out⟩, fun c => ⟨fun _ => ⟨v0, out⟩, fun c2 => ⟨fun n5 => absurd y5 n5, fun _ => ⟨vi9, fun _ => ⟨v0, out⟩, fun n => absurd yz n⟩⟩⟩⟩
    | cons e Q1 ih =>
      intro m st p i y hsub hm hok fy ep l40 ei y5 hst hev
      have hm : m + (Q1.length + 1) = Q.length := hm
      have eN : i.toNatClampNeg = s.toNatClampNeg + m := by rw [t_cl]; omega
      have at0 : Q[m]? = some e := hsub 0 e rfl
      obtain ⟨qo, qv⟩ := hQ e (List.mem_of_getElem? at0)
      obtain ⟨p62, p63⟩ := s2 m (cQ e) (by rw [List.getElem?_map, at0]; rfl)
      have y62 : y.1 62 i.toNatClampNeg = (cQ e).1 := by rw [fy 62 _ (by unfold sWk; omega), eN]; exact p62
      have y63 : y.1 63 i.toNatClampNeg = (cQ e).2 := by rw [fy 63 _ (by unfold sWk; omega), eN]; exact p63
      have ya : y.1 a2 = x.1 a2 := by funext k; exact fy a2 k (by unfold sWk; omega)
      have vi9 : vp_in i 800 := by rw [vp_in_iff]; omega
      have i1 : (i + 1).toInt = s.toInt + ((m + 1 : Nat) : Int) := by rw [t_add (by rw [k1]; omega) (by rw [k1]; omega), k1, ei]; push_cast; omega
      have next : ∀ (st2 : List Int32) (p2 : Int32) (z : gd), okQ Q1 st2.length → fm sWk x z → p2.toInt = st2.length → st2.length ≤ 40 → z.1 60 5 = 0 → STK (z.1 65) st2 → evQ lv cv t Q1 st2 = evQ lv cv t Q [] → KT G q (d + 1) zk_X0_work 11 [(0, vr 60), (2, vr a2), (3, vi b), (4, vi t), (5, vi p2), (6, vi (i + 1))] [] z (ri F) := fun st2 p2 z a1 a2' a3 a4 a5 a6 a7 => ih (m + 1) st2 p2 (i + 1) z (fun j q hj => by rw [Nat.add_assoc, Nat.add_comm 1 j]; exact hsub (j + 1) q hj) (by omega) a1 a2' a3 a4 i1 a5 a6 a7
      have up := t_cl p
      -- a value is pushed
      have push : ∀ v : Int32, (1 ≤ e.1 ∧ e.1 ≤ 4) → evQ lv cv t (e :: Q1) st = evQ lv cv t Q1 (v :: st) → st.length < 40 → vp_in p 40 ∧ ∀ z, z = si y 65 p.toNatClampNeg v → KT G q (d + 1) zk_X0_work 11 [(0, vr 60), (2, vr a2), (3, vi b), (4, vi t), (5, vi (p + 1)), (6, vi (i + 1))] [] z (ri F) := fun v c14 hv lt => by
        refine ⟨by rw [vp_in_iff]; omega, fun z ez => next (v :: st) (p + 1) z (okQ_p hok c14).2 (by rw [ez]; exact fm_si fy (Or.inr rfl)) ?_ (by show st.length + 1 ≤ 40; omega) (by rw [ez, si_cell (by decide)]; exact y5) ⟨?_, STK_eq (fun j hj => ?_) hst⟩ (by rw [← hv]; exact hev)⟩
        · rw [t_add (by rw [k1]; omega) (by rw [k1]; omega), k1, ep]; rfl
        · rw [ez, si_get, if_pos ⟨rfl, by omega⟩]
        · rw [ez, si_get, if_neg (by omega)]
      obtain ⟨c62, c6⟩ := cQ_n0 qo
      have cs : e.1 = 1 ∨ e.1 = 2 ∨ e.1 = 3 ∨ e.1 = 4 ∨ e.1 = 5 ∨ e.1 = 6 := by have := qo.1; omega
      have p69 : (1 ≤ e.1 ∧ e.1 ≤ 4) → KT G q (d + 1) zk_X0_work 69 [(0, vr 60), (2, vr a2), (3, vi b), (4, vi t), (5, vi p), (6, vi i), (7, vi (cQ e).1)] [] y (ri F) := by
        intro c14
        have lt := (okQ_p hok c14).1
        refine kg_X0_work_69 hq ka ma _ _ _ _ _ ⟨fun c => ?_, fun _ => ?_⟩
        · exfalso; rw [t_le, k40] at c; omega
        rcases cs with c | c | c | c | c | c
        · have e1 : cQ e = (1, e.2.2) := if_pos c
          have := push e.2.2 c14 (ev_1 c) lt
          rw [y63, e1]
          exact ⟨fun n => absurd rfl n, fun _ => ⟨vi9, this⟩⟩
        · have e1 : cQ e = (2, Int32.ofNat e.2.1) := by unfold cQ; rw [if_neg (by omega), if_pos c]
          obtain ⟨w1, w2⟩ := qv.1 c
          have := push (lv e.2.1) c14 (ev_2 c) lt
          rw [y63, e1, ya]
          show (¬ (2 : Int32) = 1 → (¬ (2 : Int32) = 3 → vp_in i 800 ∧ vp_in (b + Int32.ofNat e.2.1) n2 ∧ vp_in p 40 ∧ ∀ z : gd, z = si y 65 p.toNatClampNeg (x.1 a2 (b + Int32.ofNat e.2.1).toNatClampNeg) → _) ∧ _) ∧ _
          rw [w2]
          exact ⟨fun _ => ⟨fun _ => ⟨vi9, w1, this⟩, fun z => absurd z (show ¬ (2 : Int32) = 3 by decide)⟩, fun z => absurd z (show ¬ (2 : Int32) = 1 by decide)⟩
        · have e1 : cQ e = (3, 0) := by unfold cQ; rw [if_neg (by omega), if_neg (by omega), if_pos c]
          have := push t c14 (ev_3 c) lt
          rw [e1]
          exact ⟨fun _ => ⟨fun n => absurd rfl n, fun _ => this⟩, fun z => absurd z (by decide)⟩
        · have e1 : cQ e = (2, e.2.2) := by unfold cQ; rw [if_neg (by omega), if_neg (by omega), if_neg (by omega), if_pos c]
          obtain ⟨w1, w2⟩ := qv.2 c
          have := push (cv e.2.2) c14 (ev_4 c) lt
          rw [y63, e1, ya]
          show (¬ (2 : Int32) = 1 → (¬ (2 : Int32) = 3 → vp_in i 800 ∧ vp_in (b + e.2.2) n2 ∧ vp_in p 40 ∧ ∀ z : gd, z = si y 65 p.toNatClampNeg (x.1 a2 (b + e.2.2).toNatClampNeg) → _) ∧ _) ∧ _
          rw [w2]
          exact ⟨fun _ => ⟨fun _ => ⟨vi9, w1, this⟩, fun z => absurd z (show ¬ (2 : Int32) = 3 by decide)⟩, fun z => absurd z (show ¬ (2 : Int32) = 1 by decide)⟩
        · omega
        · omega
      have p139 : e.1 = 5 → KT G q (d + 1) zk_X0_work 139 [(0, vr 60), (2, vr a2), (3, vi b), (4, vi t), (5, vi p), (6, vi i), (7, vi (cQ e).1)] [] y (ri F) := by
        intro c
        obtain ⟨h1, hok'⟩ := okQ_5 hok c
        cases st with
        | nil => exact absurd h1 (by show ¬ 1 ≤ 0; decide)
        | cons v st =>
          have ep : p.toInt = st.length + 1 := by rw [ep]; rfl
          have e1 : (p - 1).toInt = st.length := by rw [t_sub (by rw [k1]; omega) (by rw [k1]; omega), k1, ep]; omega
          have eN1 : (p - 1).toNatClampNeg = st.length := by rw [t_cl, e1]; rfl
          have l40 : st.length + 1 ≤ 40 := l40
          have vp : vp_in (p - 1) 40 := by rw [vp_in_iff]; omega
          have top : y.1 65 (p - 1).toNatClampNeg = v := by rw [eN1]; exact hst.1
          have ec : (cQ e).1 = if e.2.2 = 29 then 5 else 4 := by unfold cQ; rw [if_neg (by omega), if_neg (by omega), if_neg (by omega), if_neg (by omega), if_pos c]
          have put : ∀ (r : Int32) (z : gd), unQ e.2.2 v = r → z = si y 65 (p - 1).toNatClampNeg r → KT G q (d + 1) zk_X0_work 11 [(0, vr 60), (2, vr a2), (3, vi b), (4, vi t), (5, vi p), (6, vi (i + 1))] [] z (ri F) := fun r z er ez => by
            refine next (r :: st) p z hok' (by rw [ez]; exact fm_si fy (Or.inr rfl)) (by rw [ep]; rfl) l40 (by rw [ez, si_cell (by decide)]; exact y5) ⟨?_, STK_eq (fun j hj => ?_) hst.2⟩ ?_
            · rw [ez, si_get, if_pos ⟨rfl, eN1.symm⟩]
            · rw [ez, si_get, if_neg (by omega)]
            · rw [← hev, ev_5 c, er]
          refine kg_X0_work_139 hq ka ma _ _ _ _ _ ⟨fun cc => ?_, fun _ => ⟨vp, ?_⟩⟩
          · exfalso; rw [t_lt, k1] at cc; omega
          rw [top, ec]
          by_cases c29 : e.2.2 = 29
          · rw [if_pos c29]
            refine ⟨fun _ => ⟨fun n => ⟨vp, fun z ez => put 0 z ?_ ez⟩, fun z9 => ⟨vp, fun z ez => put 1 z ?_ ez⟩⟩, fun z => absurd z (by decide)⟩
            · unfold unQ; rw [if_pos c29, if_neg n]
            · unfold unQ; rw [if_pos c29, if_pos z9]
          · rw [if_neg c29]
            refine ⟨fun n => absurd rfl n, fun _ => ⟨vp, fun z ez => put _ z ?_ ez⟩⟩
            unfold unQ; rw [if_neg c29]
      have p6 : e.1 = 6 → (p < 2 → KT G q (d + 1) zk_X0_work 11 [(0, vr 60), (2, vr a2), (3, vi b), (4, vi t), (5, vi p), (6, vi (i + 1))] [] y (ri F)) ∧ (¬ p < 2 → vp_in ((p + (-1)) - 1) 40 ∧ vp_in (p + (-1)) 40 ∧ KT G q d zk_X0_operate 0 [(0, vr 60), (1, vi (cQ e).1), (2, vi (y.1 65 ((p + (-1)) - 1 : Int32).toNatClampNeg)), (3, vi (y.1 65 (p + (-1) : Int32).toNatClampNeg))] [] y (ri (fun r20 x19 => vp_in ((p + (-1)) - 1) 40 ∧ (∀ x22 : gd, x22 = si x19 65 ((p + (-1)) - 1 : Int32).toNatClampNeg r20 → KT G q (d + 1) zk_X0_work 11 [(0, vr 60), (2, vr a2), (3, vi b), (4, vi t), (5, vi (p + (-1))), (6, vi (i + 1))] [] x22 (ri F))))) := by
        intro c
        obtain ⟨h2, hok'⟩ := okQ_6 hok c
        cases st with
        | nil => exact absurd h2 (by show ¬ 2 ≤ 0; decide)
        | cons v st =>
          cases st with
          | nil => exact absurd h2 (by show ¬ 2 ≤ 1; decide)
          | cons u st =>
            have ep : p.toInt = st.length + 2 := by rw [ep]; rfl
            have l40 : st.length + 2 ≤ 40 := l40
            obtain ⟨p2, ep2⟩ : ∃ p2, p2 = p + (-1) := ⟨_, rfl⟩
            rw [← ep2]
            have e1 : p2.toInt = st.length + 1 := by rw [ep2, t_add (by rw [tm1]; omega) (by rw [tm1]; omega), tm1]; omega
            have e2 : (p2 - 1).toInt = st.length := by rw [t_sub (by rw [k1]; omega) (by rw [k1]; omega), k1, e1]; omega
            have n1 : p2.toNatClampNeg = st.length + 1 := by rw [t_cl, e1]; rfl
            have n2' : (p2 - 1).toNatClampNeg = st.length := by rw [t_cl, e2]; rfl
            have vp : vp_in (p2 - 1) 40 := by rw [vp_in_iff]; omega
            have ec : (cQ e).1 = kcv e.2.2 := by unfold cQ; rw [if_neg (by omega), if_neg (by omega), if_neg (by omega), if_neg (by omega), if_neg (by omega)]
            refine ⟨fun cc => ?_, fun _ => ⟨vp, by rw [vp_in_iff]; omega, ?_⟩⟩
            · exfalso; rw [t_lt, k2] at cc; omega
            have hu : y.1 65 (p2 - 1).toNatClampNeg = u := by rw [n2']; exact hst.2.1
            have hv : y.1 65 p2.toNatClampNeg = v := by rw [n1]; exact hst.1
            rw [hu, hv, ec]
            refine kf_operate hq (qo.2.2 c) u v (fun r z hz => ⟨vp, fun w ew => ?_⟩)
            rcases hz with ⟨hb, ez⟩ | ⟨hb, ez⟩
            · refine next (r :: st) p2 w hok' (by rw [ew, ez]; exact fm_si fy (Or.inr rfl)) (by rw [e1]; rfl) (by show st.length + 1 ≤ 40; omega) (by rw [ew, si_cell (by decide), ez]; exact y5) ⟨?_, STK_eq (fun j hj => ?_) hst.2.2⟩ ?_
              · rw [ew, si_get, if_pos ⟨rfl, n2'.symm⟩]
              · rw [ew, si_get, if_neg (by omega), ez]
              · rw [← hev, ev_6 c hb]
            · have w5 : w.1 60 5 = 1 := by rw [ew, si_cell (by decide), ez, si_get, if_pos ⟨rfl, rfl⟩]
              have fw : fm sWk x w := by rw [ew, ez]; exact fm_si (fm_si fy (Or.inl ⟨rfl, rfl⟩)) (Or.inr rfl)
              have hn : wkQ lv cv t Q = none := by unfold wkQ; rw [← hev, ev_6n c hb]; rfl
              have out : ri F (some (vi (w.1 65 (0 : Int32).toNatClampNeg))) w := ri_i (h _ w fw (Or.inr ⟨hn, w5⟩))
              refine kg_X0_work_11 hq ka ma _ _ _ _ ⟨fun _ => ⟨v0, out⟩, fun _ => ⟨fun _ => ⟨v0, out⟩, fun _ => ⟨fun _ => ⟨v0, out⟩, fun z5 => ?_⟩⟩⟩
              rw [w5] at z5
              exact absurd z5 (by decide)
      have neg : ¬ i < 0 := by rw [t_lt, k0]; omega
      have lt3 : ¬ y.1 60 3 ≤ i := by rw [fy 60 3 (by unfold sWk; omega), t_le]; omega
      refine kg_X0_work_11 hq ka ma _ _ _ _ ⟨fun cc => absurd cc neg, fun _ => ⟨fun cc => absurd cc lt3, fun _ => ⟨fun n5 => absurd y5 n5, fun _ => ⟨vi9, ?_⟩⟩⟩⟩
      rw [y62]
      refine ⟨fun z => absurd z c62, fun _ => ⟨vi9, ?_⟩⟩
      rcases cs with c | c | c | c | c | c
      · have e1 : (cQ e).1 = 1 := by unfold cQ; rw [if_pos c]
        refine ⟨fun _ => p69 (by omega), fun n => absurd e1 n⟩
      · have e1 : (cQ e).1 = 2 := by unfold cQ; rw [if_neg (by omega), if_pos c]
        exact ⟨fun _ => p69 (by omega), fun _ => ⟨fun _ => p69 (by omega), fun n => absurd e1 n⟩⟩
      · have e1 : (cQ e).1 = 3 := by unfold cQ; rw [if_neg (by omega), if_neg (by omega), if_pos c]
        exact ⟨fun _ => p69 (by omega), fun _ => ⟨fun _ => p69 (by omega), fun _ => ⟨fun n => absurd e1 n, fun _ => p69 (by omega)⟩⟩⟩
      · have e1 : (cQ e).1 = 2 := by unfold cQ; rw [if_neg (by omega), if_neg (by omega), if_neg (by omega), if_pos c]
        exact ⟨fun _ => p69 (by omega), fun _ => ⟨fun _ => p69 (by omega), fun n => absurd e1 n⟩⟩
      · have e1 : (cQ e).1 = 5 ∨ (cQ e).1 = 4 := by
          have : (cQ e).1 = if e.2.2 = 29 then 5 else 4 := by unfold cQ; rw [if_neg (by omega), if_neg (by omega), if_neg (by omega), if_neg (by omega), if_pos c]
          rw [this]
          split
          · exact Or.inl rfl
          · exact Or.inr rfl
        refine ⟨fun z => ?_, fun _ => ⟨fun z => ?_, fun _ => ⟨fun _ => ⟨fun _ => p139 c, fun n4 => ⟨fun n5 => ?_, fun _ => p139 c⟩⟩, fun z => ?_⟩⟩⟩
        · rcases e1 with e1 | e1 <;> (rw [e1] at z; exact absurd z (by decide))
        · rcases e1 with e1 | e1 <;> (rw [e1] at z; exact absurd z (by decide))
        · exact e1.elim (fun z => absurd z n5) (fun z => absurd z n4)
        · rcases e1 with e1 | e1 <;> (rw [e1] at z; exact absurd z (by decide))
      · obtain ⟨z1, z2, z3, z4, z5⟩ := c6 c
        exact ⟨fun z => absurd z z1, fun _ => ⟨fun z => absurd z z2, fun _ => ⟨fun _ => ⟨fun z => absurd z z4, fun _ => ⟨fun _ => p6 c, fun z => absurd z z5⟩⟩, fun z => absurd z z3⟩⟩⟩
  refine kg_X0_work_0 hq ka ma _ _ _ (fun x1 e1 => loop Q 0 [] 0 s x1 (fun j q hj => by rw [Nat.zero_add]; exact hj) (by omega) ok (by rw [e1]; exact fm_si (fm_rf _ _) (Or.inl ⟨rfl, rfl⟩)) rfl (by decide) (by omega) (by rw [e1, si_get, if_pos ⟨rfl, rfl⟩]) trivial rfl)
end KWF
end
