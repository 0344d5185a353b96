/-! the class: when it is linked, its code is what the numbers say -/
section KCK
variable {sN : Nat → Nat → Bool} {V K : Nat → Int32} {x y : gd} {L N : gU}
theorem CK_of (hS : ∀ a b, sN a b = true → sN b a = true) (hTr : ∀ a b c, sN a b = true → sN b c = true → sN a c = true) (nf : ¬ jFl sN K V L) (srt : (L.filterMap (te1 K V)).Pairwise (fun a b => a.1 < b.1)) (h : LPk sN V K L x) (hw : WC sN K (fun v => v ∈ L) (cds sN K L cd0)) (f : fm (fun c _ => c = 85 ∨ c = 86 ∨ c = 62 ∨ c = 63) x y) (l1 : ∀ j : Nat, (j : Int) < ssm x → LK1 x y j) (l2 : ∀ i : Nat, (i : Int) < (x.1 60 3).toInt → LK2 x y i) : CK y (codN sN V K L) := by
  obtain ⟨⟨hP, ⟨s1, s2⟩, -, ⟨b1, b2⟩, ⟨c1, c2⟩, ⟨a1, a2⟩, ⟨f1, f2⟩⟩, ⟨⟨p1, p2, p3⟩, -⟩, hM, hV, ⟨n, hH, hn⟩, hl, hmt⟩ := h
  obtain ⟨E, S, r, b, l, ec, -, -, w1, w2, w3⟩ := hw
  have e1 : (cds sN K L cd0).2.1 = S := by rw [ec]
  have e2 : (cds sN K L cd0).2.2.2.2.1 = b := by rw [ec]
  have e3 : (cds sN K L cd0).2.2.2.2.2 = l := by rw [ec]
  rw [e1] at s1 s2
  rw [e2] at b1 b2
  rw [e3] at a1 a2 f1 f2
  unfold codN
  rw [e1, e2, e3]
  have te9 : ∀ q ∈ L.filterMap (te1 K V), ¬ q.2.1 = 0 → q.2.2.1 = 0 := fun q hq h0 => te_sz hq h0
  have nt0 : ¬ jT sN V (L.filterMap (te1 K V)) := fun z => nf (Or.inl z)
  generalize L.filterMap (te1 K V) = T at *
  have nt : nTw sN T := fun j' j q' q lt h' h hs => nt0 ⟨j, q, h, Or.inl ⟨j', q', lt, h', hs⟩⟩
  have g : ∀ c k, ¬ c = 85 → ¬ c = 86 → ¬ c = 62 → ¬ c = 63 → y.1 c k = x.1 c k := fun c k h1 h2 h3 h4 => f c k (by omega)
  have g60 : ∀ k, y.1 60 k = x.1 60 k := fun k => g 60 k (by decide) (by decide) (by decide) (by decide)
  -- what names mean
  have cell : ∀ t : Nat, (t : Int) < mt x → (x.1 42 t = 6 ∨ x.1 42 t = 7) → x.1 45 (x.1 43 t).toNatClampNeg = Int32.ofNat (nmT sN 0 t T) ∧ x.1 46 (x.1 43 t).toNatClampNeg = Int32.ofNat (rsT sN T t) := fun t ht hu => by
    obtain ⟨k, q, hk, hq, hs⟩ := (hM t ht).1.2.2 hu
    have ek : (x.1 43 t).toNatClampNeg = k := by rw [t_cl, hk]; rfl
    obtain ⟨z1, z2, z3⟩ := p3 k q hq
    obtain ⟨m1, m2⟩ := nm_is hS hTr nt srt hq hs
    have er : rsT sN T t = q.2.2.1 := by unfold rsT; simp only [m2]
    rw [ek, er, m1]
    exact ⟨i32_of z3, i32_of z2⟩
  have num : ∀ (w t k : Nat) (q : Nat × Nat × Nat × Nat), ¬ w = 0 → (x.1 43 t).toInt = (k : Nat) → (tdS T w)[k]? = some q → sN q.1 t = true → x.1 43 t = Int32.ofNat (nmT sN w t T) := fun w t k q h0 hk hq hs => by
    obtain ⟨m1, -⟩ := nm_is hS hTr nt srt hq hs
    have lt := gt_lt hq
    rw [m1, nbT_len (fun p hp => ?_), List.length_take]
    · exact i32_of (by rw [hk]; omega)
    · obtain ⟨p1, p2⟩ := tdS_mem.mp (List.mem_of_mem_take hp)
      exact ⟨p2, te9 p p1 (by rw [p2]; exact h0)⟩
  -- sums
  have sum : ∀ {ks : gK} {E0 : gV} {v : Int32} {o : Option gU}, ks = E0.1 → sOo sN K E0 o → cSu sN V K (tPs sN V K L E0v) ks v o → kNs y v (o.map (nQs sN T V K ks)) := fun {ks E0 v o} ek so hc => by
    cases o with
    | none => exact hc
    | some N =>
      obtain ⟨q1, q2, q3, q4⟩ := so N rfl
      have hc : SUc (tPs sN V K L E0v) v (sPs sN V K (ks, [0], 0) N) := hc
      have a := SUk_lk hP hl l2 (g60 3) hc
      have e : (sPs sN V K (ks, [0], 0) N).map (lkF x) = sPs sN V K (ks, [0], 0) N := by
        conv => rhs; rw [← List.map_id (sPs sN V K (ks, [0], 0) N)]
        exact List.map_congr_left (fun q hq => lkF_no (sPs_n6 q1 q2 q hq))
      rw [e, sPs_t (T := T) q1 (fun v hv h3 => by rw [ek]; exact q4 v hv h3)] at a
      exact a
  have clm : ∀ {v : Int32} {N : gU}, clO K N → (∀ v ∈ N, v ∈ L) → SUc (tPs sN V K L E0v) v (sPs sN V K E0v N) → SUk y v ((nQs sN T V K [] N).map cQ) := fun {v N} hc hm hs => by
    obtain ⟨q1, q2, -, q4⟩ := hc
    have a := SUk_lk hP hl l2 (g60 3) hs
    have e : (sPs sN V K E0v N).map (lkF x) = (nQs sN T V K [] N).map cQ := by
      unfold sPs nQs
      rw [List.map_filterMap, List.map_filterMap]
      refine q4 _ _ (fun v hv h7 h12 => ?_) (fun i i7 i12 => ?_) (fun i j => rfl) (fun i j => rfl)
      · have sv := q2 v hv
        obtain ⟨E9, hA⟩ := HAs_mem hH v (hm v hv)
        have kd := q1 v hv
        obtain ⟨p, t, u⟩ := v
        rcases kd with e | e | e | e | ⟨e, -⟩ | ⟨-, e | e | e⟩
        · have e : p = 50 := e
          subst e
          show some (lkF x (if K t = 29 then 5 else 4, 0)) = some (if K t = 29 then 5 else 4, 0)
          rw [lkF_no]
          show ¬ (if K t = 29 then (5 : Int32) else 4) = 6
          split <;> decide
        · have e : p = 51 := e
          subst e
          show some (lkF x (kcv (K t), 0)) = some (kcv (K t), 0)
          rw [lkF_no (kcv_6 (sv.2.1 rfl))]
        · have e : p = 52 := e
          subst e
          rfl
        · have e : p = 53 := e
          subst e
          rfl
        · cases e
        · have e : p = 6 := e
          subst e
          obtain ⟨tn, u6⟩ := hA.2.1 rfl
          have tn : t < n := tn
          have u6 : x.1 42 t = 6 := u6
          have et : (Int32.ofNat t).toNatClampNeg = t := by rw [t_cl, Int32.toInt_ofNat_of_lt (by omega)]; rfl
          show some (lkF x (6, Int32.ofNat t)) = some (2, Int32.ofNat (nmT sN 0 t T))
          unfold lkF
          rw [if_pos rfl]
          show some ((2 : Int32), x.1 45 (x.1 43 (Int32.ofNat t).toNatClampNeg).toNatClampNeg + (if x.1 42 (Int32.ofNat t).toNatClampNeg = 7 then x.1 27 ((Int32.ofNat t).toNatClampNeg + 2) else 0)) = _
          rw [et, u6, if_neg (by decide), (cell t (by omega) (Or.inl u6)).1, Int32.add_zero]
        · exact absurd e h7
        · exact absurd e h12
      · obtain ⟨E9, hA⟩ := HAs_mem hH _ (hm _ i7)
        obtain ⟨tn, u7⟩ := hA.2.2.1 rfl
        have tn : i < n := tn
        have u7 : x.1 42 i = 7 ∨ x.1 42 i = 9 := u7
        have u7 : x.1 42 i = 7 := u7.elim id (fun z => absurd z (hM i (by omega)).2)
        have k2 : K (i + 2) = 2 := ((q2 _ i12).2.2.2.2 rfl).1
        have et : (Int32.ofNat i).toNatClampNeg = i := by rw [t_cl, Int32.toInt_ofNat_of_lt (by omega)]; rfl
        show some (lkF x (6, Int32.ofNat i)) = some (2, Int32.ofNat (nmT sN 0 i T) + V (i + 2))
        unfold lkF
        rw [if_pos rfl]
        show some ((2 : Int32), x.1 45 (x.1 43 (Int32.ofNat i).toNatClampNeg).toNatClampNeg + (if x.1 42 (Int32.ofNat i).toNatClampNeg = 7 then x.1 27 ((Int32.ofNat i).toNatClampNeg + 2) else 0)) = _
        rw [et, u7, if_pos rfl, (cell i (by omega) (Or.inr u7)).1, hV _ k2]
    rw [e] at a
    exact a
  refine ⟨⟨?_, fun j st hj => ?_⟩, ⟨?_, fun t q hq => ?_⟩, ⟨?_, fun j q hq => ?_⟩, ⟨?_, fun k Q hQ => ?_⟩, ⟨?_, fun k Q hQ => ?_⟩⟩
  · rw [g 80 9 (by decide) (by decide) (by decide) (by decide), s1]
    show _ = ((S.map _).length : Int)
    rw [List.length_map]
  · have hj : (S.map (nStp sN T V K))[j]? = some st := hj
    rw [List.getElem?_map] at hj
    obtain ⟨s0, g0, e⟩ := Option.map_eq_some_iff.mp hj
    subst e
    obtain ⟨-, E0, ⟨q1, ⟨q2, q2'⟩, q3, q4, q5, q5', q6, q7, q8, q9, so0, so1, so2⟩, -⟩ := w1 j s0 g0
    obtain ⟨k1, k2, k3, k4, k5, k6, k7, k8⟩ := s2 j s0 g0
    have ek : s0.2.2.1.1 = E0.1 := by rw [q1]
    have lj : (j : Int) < ssm x := by
      have := gt_lt g0
      show (j : Int) < (x.1 80 9).toInt
      omega
    have so : sop x j = (s0.1 : Nat) := by
      show (x.1 81 j).toInt = _
      rw [k1]
      exact Int32.toInt_ofNat_of_lt (by omega)
    obtain ⟨L1, L2⟩ := l1 j lj
    have gj : ∀ c, ¬ c = 85 → ¬ c = 86 → ¬ c = 62 → ¬ c = 63 → y.1 c j = x.1 c j := fun c => g c j
    refine ⟨by rw [gj 81 (by decide) (by decide) (by decide) (by decide)]; exact k1, ?_, ?_, ?_, fun n16 => ?_, fun o4 hx => ?_, ?_, ?_, ?_⟩
    · rw [gj 83 (by decide) (by decide) (by decide) (by decide), k2]
      show _ = ((slK s0.2.2.1.1).length : Int)
      rw [show (slK s0.2.2.1.1).length = s0.2.2.1.1.length from List.length_map _]
    · rw [gj 84 (by decide) (by decide) (by decide) (by decide)]; exact k3
    · rw [gj 84 (by decide) (by decide) (by decide) (by decide)]; exact k4
    · have n16 : ¬ s0.1 = 16 := n16
      show y.1 85 j = mOf sN T V s0
      have k5 := k5 n16
      by_cases c10 : s0.1 ≤ 10
      · obtain ⟨t, et, -⟩ := q4 c10
        rw [et] at k5
        have k5 : (if s0.1 = 13 then x.1 85 j = V t else (x.1 85 j).toInt = (t : Nat)) := k5
        rw [if_neg (by omega)] at k5
        obtain ⟨t', t1, t2, ⟨u1, u2, u3⟩, t3, t4⟩ := L1 (by omega)
        have ett : t' = t := by omega
        subst ett
        unfold mOf
        rw [et]
        show y.1 85 j = if s0.1 ≤ 4 then Int32.ofNat (nmT sN 0 t' T) else if s0.1 ≤ 8 then Int32.ofNat (nmT sN 1 t' T) else if s0.1 ≤ 10 then Int32.ofNat (nmT sN 2 t' T) else V t'
        by_cases c4 : s0.1 ≤ 4
        · rw [if_pos c4, (t3 (by omega)).1, (cell t' t2 (u1 (by omega))).1]
        · rw [if_neg c4, t4 (by omega)]
          by_cases c8 : s0.1 ≤ 8
          · rw [if_pos c8]
            obtain ⟨k, q, hk, hq, hs⟩ := (hM t' t2).1.1 (u2 (by omega) (by omega))
            exact num 1 t' k q (by decide) hk hq hs
          · rw [if_neg c8, if_pos c10]
            obtain ⟨k, q, hk, hq, hs⟩ := (hM t' t2).1.2.1 (u3 (by omega))
            exact num 2 t' k q (by decide) hk hq hs
      · rw [L2 (by omega)]
        unfold mOf
        by_cases c13 : s0.1 = 13
        · obtain ⟨t, et, -⟩ := q5 c13
          rw [et] at k5 ⊢
          have k5 : (if s0.1 = 13 then x.1 85 j = V t else (x.1 85 j).toInt = (t : Nat)) := k5
          rw [if_pos c13] at k5
          show x.1 85 j = if s0.1 ≤ 4 then _ else if s0.1 ≤ 8 then _ else if s0.1 ≤ 10 then _ else V t
          rw [if_neg (by omega), if_neg (by omega), if_neg (by omega)]
          exact k5
        · have en := q5' (by omega) c13
          rw [en] at k5 ⊢
          exact k5
    · have o4 : s0.1 ≤ 4 := o4
      have hx : ¬ s0.2.2.2.2.2.2.1.map (nQs sN T V K s0.2.2.1.1) = none := hx
      have hx : ¬ s0.2.2.2.2.2.2.1 = none := fun z => hx (by rw [z]; rfl)
      have fl := (q6 o4).mpr hx
      obtain ⟨t, et, -⟩ := q4 (by omega)
      have k5 := k5 (by omega)
      rw [et] at k5
      have k5 : (if s0.1 = 13 then x.1 85 j = V t else (x.1 85 j).toInt = (t : Nat)) := k5
      rw [if_neg (by omega)] at k5
      obtain ⟨t', t1, t2, ⟨u1, u2, u3⟩, t3, t4⟩ := L1 (by omega)
      have ett : t' = t := by omega
      subst ett
      show y.1 86 j = mSz sN T s0
      unfold mSz
      rw [if_pos fl, if_pos o4, (t3 (by omega)).2, (cell t' t2 (u1 (by omega))).2, et]
      rfl
    · rw [gj 87 (by decide) (by decide) (by decide) (by decide)]
      exact sum ek so0 k6
    · rw [gj 88 (by decide) (by decide) (by decide) (by decide)]
      exact sum ek so1 k7
    · rw [gj 89 (by decide) (by decide) (by decide) (by decide)]
      exact sum ek so2.1 k8
  · rw [g60]; exact b1
  · rw [g 72 t (by decide) (by decide) (by decide) (by decide), g 73 t (by decide) (by decide) (by decide) (by decide)]
    exact b2 t q hq
  · rw [g60]; exact c1
  · rw [g 68 j (by decide) (by decide) (by decide) (by decide), g 69 j (by decide) (by decide) (by decide) (by decide)]
    exact c2 j q hq
  · rw [g60, a1]
    show _ = (((clF 35 l).map _).length : Int)
    rw [List.length_map]
  · have hQ : ((clF 35 l).map (nQs sN T V K []))[k]? = some Q := hQ
    rw [List.getElem?_map] at hQ
    obtain ⟨N, g0, e⟩ := Option.map_eq_some_iff.mp hQ
    subst e
    rw [g 76 k (by decide) (by decide) (by decide) (by decide)]
    obtain ⟨q, hq, e9⟩ := List.mem_filterMap.mp (List.mem_of_getElem? g0)
    have e9 : q.2 = N := by
      split at e9
      · exact Option.some.inj e9
      · exact absurd e9 (by simp)
    obtain ⟨z1, z2⟩ := w3 q hq
    rw [e9] at z1 z2
    exact clm z1 z2 (a2 k N g0)
  · rw [g60, f1]
    show _ = (((clF 36 l).map _).length : Int)
    rw [List.length_map]
  · have hQ : ((clF 36 l).map (nQs sN T V K []))[k]? = some Q := hQ
    rw [List.getElem?_map] at hQ
    obtain ⟨N, g0, e⟩ := Option.map_eq_some_iff.mp hQ
    subst e
    rw [g 78 k (by decide) (by decide) (by decide) (by decide)]
    obtain ⟨q, hq, e9⟩ := List.mem_filterMap.mp (List.mem_of_getElem? g0)
    have e9 : q.2 = N := by
      split at e9
      · exact Option.some.inj e9
      · exact absurd e9 (by simp)
    obtain ⟨z1, z2⟩ := w3 q hq
    rw [e9] at z1 z2
    exact clm z1 z2 (f2 k N g0)
end KCK
