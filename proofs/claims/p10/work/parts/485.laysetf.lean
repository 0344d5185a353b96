/-! the statements of one word, and those that set: what is found wrong -/
section LWF0
end LWF0
theorem still_k {k a b : Nat} (h : [20, 21, 22].elem k = false) : still [(k, a, b)] := still_one ⟨fun (e : k = 20) => by rw [e] at h; exact absurd h (by decide), fun (e : k = 21) => by rw [e] at h; exact absurd h (by decide), fun (e : k = 22) => by rw [e] at h; exact absurd h (by decide)⟩
theorem vRr_st {x : gd} {r : Int32} {tg : Option Nat} {M : gU} (h : vRr x r tg M) : still M := by
  have sa : still (pma tg) := by cases tg with | none => exact still_nil | some t => exact still_k rfl
  have se : still (pme tg) := by cases tg with | none => exact still_nil | some t => exact still_k rfl
  obtain ⟨b, t, et, h⟩ := h
  rcases h with ⟨q1, q2, q3, q4, q5, q6⟩ | ⟨q1, q2, n, M1, q3, q4⟩ | ⟨q1, M1, q2, q3⟩ | ⟨q1, n, M1, M2, q2, q3, q4⟩ | ⟨q1, q2, n, m, M1, M2, M3, q3, q4, q5, q6⟩
  · rw [q3]; cases tg with | none => exact still_k rfl | some t => exact still_k rfl
  · rw [q4]; exact still_app sa (still_app (still_54 (vV_st q3)) (still_k rfl))
  · rw [q3]; exact still_app se (still_app (vQ_st q2) (still_k rfl))
  · rw [q4]; exact still_app se (still_app (vQ_st q2) (still_app (still_54 (vV_st q3)) (still_k rfl)))
  · rw [q6]; exact still_app se (still_app (vQ_st q3) (still_app (still_54 (vV_st q4)) (still_app (still_54 (vV_st q5)) (still_k rfl))))
section LWF
variable {sN : Nat → Nat → Bool} {T : gTd} {V K : Nat → Int32} {G : mG} {D : Nat} {x : gd} {Fv : gd → Prop}
theorem cAl_r {E : gV} {S : List gSt} {k : List Nat} {r r' : gRg} {w : List (Nat × Nat) × List (Nat × gU)} {tg : Option Nat} {tk i : Nat} : cAl sN (E, S, k, r, w) tg tk i = cAl sN (E, S, k, r', w) tg tk i := by
  show (match kfi sN E.1 i with | some _ => cSe sN (E, S, k, r, w) tg tk [(3, i, 0)] | none => _) = match kfi sN E.1 i with | some _ => cSe sN (E, S, k, r', w) tg tk [(3, i, 0)] | none => _
  cases kfi sN E.1 i with
  | none => rfl
  | some p =>
    show (match toL sN E.1 tg with | some p => _ | none => _) = match toL sN E.1 tg with | some p => _ | none => _
    cases toL sN E.1 tg <;> rfl
theorem sf_layWord {wn : Nat} {E : gV} (s : Int32) (ke : KEn x E) (ct : CT sN T V K x) (hwn : ((x.1 16 s.toNatClampNeg = 33 ∨ x.1 16 s.toNatClampNeg = 25) → wn = 2) ∧ (¬ (x.1 16 s.toNatClampNeg = 33 ∨ x.1 16 s.toNatClampNeg = 25) → wn = 1)) (hD : 4 ≤ D) (p : PL x) (hs : vp_in s 3000) (hs2 : vp_in (x.1 19 s.toNatClampNeg) 710) (hb : vp_in (x.1 17 s.toNatClampNeg) 710) (hn : (x.1 0 52).toInt ≤ 1499) (h : ∀ x', LQ x x' 1 0 → md pL pA x x' → LX x x' (mtP sN T wn (x.1 17 s.toNatClampNeg).toNatClampNeg = none) → (¬ mtP sN T wn (x.1 17 s.toNatClampNeg).toNatClampNeg = none → ∀ S i, K i = x.1 16 s.toNatClampNeg → SR sN T V K x S → SR sN T V K x' (S ++ [(opW (K i), i, knw E, none, some (x.1 17 s.toNatClampNeg).toNatClampNeg, decide (K i = 40), none, none, none)])) → Fv x') : MT G D z_layWord 0 [(0, vr 0), (1, vi s)] [] x (rv Fv) := by
  obtain ⟨D, rfl⟩ : ∃ D', D = D' + 3 := ⟨D - 3, by omega⟩
  obtain ⟨lb, wb, kb, hN, w0, n0, t1⟩ := id p
  have g := lb.2.1
  obtain ⟨esm, e7, tr, e5⟩ := id ct
  obtain ⟨X, eX⟩ : ∃ X : Prop, X = (mtP sN T wn (x.1 17 s.toNatClampNeg).toNatClampNeg = none) := ⟨_, rfl⟩
  rw [← eX] at h
  have p102 : ∀ (y : gd) (n w : Int32), md [41, 42] [] x y → WB y → LX x y X → 5 ≤ w.toInt → w.toInt ≤ 10 → 0 ≤ n.toInt → n.toInt < 6 → (w = 9 → n.toInt < (x.1 0 25).toInt) → w = Int32.ofNat (opW (x.1 16 s.toNatClampNeg)) → (¬ X → n.toInt = nmT sN wn (x.1 17 s.toNatClampNeg).toNatClampNeg T) → MT G (D + 3) z_layWord 102 [(0, vr 0), (1, vi s), (2, vi (x.1 16 s.toNatClampNeg)), (4, vi n)] [vi w] y (rv Fv) := by
    intro y n w m wy lx w1 w2 n1 n2 n3 hw hnn
    have lf := LF_wr m wy
    have e52 : y.1 0 52 = x.1 0 52 := m.1 52 (by decide)
    have sn : vp_in (y.1 0 52) 1500 := by rw [e52, vp_in_iff]; omega
    refine sg_layWord_102 _ _ _ _ (sf_layAct _ _ _ sn (KEn_md m (by decide) (by decide) (by decide) ke) (Or.inr ⟨hs, by rw [m.2.1 19 (by decide) (by decide)]; exact hs2⟩) (LB_md m rfl rfl lb).1 (fun z hz hzm => ?_))
    have fin : ∀ (v : Int32) (z2 : gd), v = (if x.1 16 s.toNatClampNeg = 40 then 1 else 0) → z2 = si z 57 (y.1 0 52).toNatClampNeg v → rv Fv none z2 := by
      intro v z2 hv e2
      have st := stp_57 (stp_a hz) e2
      refine rv_i (h z2 (LQ_tr (LQ_0 lf) (LQ_stp st wy (by rw [e52]; exact n0) (by rw [e52]; exact hn) (Or.inl rfl) (Or.inl rfl) (Or.inl rfl) (by decide) (Or.inr (Or.inr (Or.inr (Or.inr (Or.inr ⟨rfl, Or.inl rfl, Or.inr (Or.inl ⟨w1, w2, n1, n2, fun q => by rw [m.1 25 (by decide)]; exact n3 q, rfl⟩)⟩))))))) (md_tr m st.1 rfl rfl) (LX_md lx st.1 (by decide)) (fun nx S i hi hS => ?_))
      have hop : 5 ≤ opW (x.1 16 s.toNatClampNeg) ∧ opW (x.1 16 s.toNatClampNeg) ≤ 10 ∧ (wn = 1 → opW (x.1 16 s.toNatClampNeg) ≤ 8) ∧ (wn = 2 → 9 ≤ opW (x.1 16 s.toNatClampNeg)) := by
        have q1 := hwn.1
        have q2 := hwn.2
        unfold opW
        by_cases c36 : x.1 16 s.toNatClampNeg = 36
        · rw [if_pos c36]; exact ⟨by decide, by decide, fun _ => by decide, fun z => by rw [q2 (by rw [c36]; decide)] at z; omega⟩
        rw [if_neg c36]
        by_cases c22 : x.1 16 s.toNatClampNeg = 22
        · rw [if_pos c22]; exact ⟨by decide, by decide, fun _ => by decide, fun z => by rw [q2 (by rw [c22]; decide)] at z; omega⟩
        rw [if_neg c22]
        by_cases c38 : x.1 16 s.toNatClampNeg = 38
        · rw [if_pos c38]; exact ⟨by decide, by decide, fun _ => by decide, fun z => by rw [q2 (by rw [c38]; decide)] at z; omega⟩
        rw [if_neg c38]
        by_cases c33 : x.1 16 s.toNatClampNeg = 33
        · rw [if_pos c33]; exact ⟨by decide, by decide, fun z => by rw [q1 (Or.inl c33)] at z; omega, fun _ => by decide⟩
        rw [if_neg c33]
        by_cases c25 : x.1 16 s.toNatClampNeg = 25
        · rw [if_pos c25]; exact ⟨by decide, by decide, fun z => by rw [q1 (Or.inr c25)] at z; omega, fun _ => by decide⟩
        rw [if_neg c25]
        exact ⟨by decide, by decide, fun _ => by decide, fun z => by rw [q2 (fun w => w.elim c33 c25)] at z; omega⟩
      have hwn2 : wn = 1 ∨ wn = 2 := by
        by_cases c : x.1 16 s.toNatClampNeg = 33 ∨ x.1 16 s.toNatClampNeg = 25
        · exact Or.inr (hwn.1 c)
        · exact Or.inl (hwn.2 c)
      rw [hi]
      obtain ⟨o1, o2, o3, o4⟩ := hop
      refine SR_snoc hS lf st hn (by rw [e2, si_cell (by decide)]; exact hzm) (by show _ = mWh _; unfold mWh; rw [if_pos (by omega)]) (fun _ => hw) ?_ ?_ rfl rfl rfl rfl
      · show n = if opW (x.1 16 s.toNatClampNeg) ≤ 4 then _ else if opW (x.1 16 s.toNatClampNeg) ≤ 8 then Int32.ofNat (nmT sN 1 (x.1 17 s.toNatClampNeg).toNatClampNeg T) else if opW (x.1 16 s.toNatClampNeg) ≤ 10 then Int32.ofNat (nmT sN 2 (x.1 17 s.toNatClampNeg).toNatClampNeg T) else _
        have hnn2 := i32_of (hnn nx)
        rw [if_neg (by omega)]
        rcases hwn2 with c | c
        · rw [if_pos (o3 c), hnn2, c]
        · have := o4 c
          rw [if_neg (by omega), if_pos o2, hnn2, c]
      · show v = if decide (x.1 16 s.toNatClampNeg = 40) = true then (if opW (x.1 16 s.toNatClampNeg) ≤ 4 then _ else 1) else 0
        rw [hv, if_neg (show ¬ opW (x.1 16 s.toNatClampNeg) ≤ 4 by omega)]
        by_cases c : x.1 16 s.toNatClampNeg = 40
        · rw [if_pos c, if_pos (decide_eq_true c)]
        · rw [if_neg c, if_neg (fun z => c (of_decide_eq_true z))]
    exact ⟨fun c => ⟨sn, fun z2 => fin 0 z2 (by rw [if_neg c])⟩, fun c => ⟨sn, fun z2 => fin 1 z2 (by rw [if_pos c])⟩⟩
  have p41 : ∀ b : Int32, (b = 1 ∨ b = 2) → b.toInt = wn → (x.1 16 s.toNatClampNeg = 33 → b = 2) → MT G (D + 3) z_layWord 41 [(0, vr 0), (1, vi s), (2, vi (x.1 16 s.toNatClampNeg))] [vi b, vi (x.1 17 s.toNatClampNeg), vr 0] x (rv Fv) := by
    intro b hb2 hbn hb3
    refine sg_layWord_41 _ _ _ _ (sf_numberOf _ _ wn hbn hb lb wb tr (fun r y m wy hr lx hrn => ?_))
    rw [esm, ← eX] at lx hrn
    have n1 : 0 ≤ r.toInt ∧ r.toInt < 6 ∧ (b = 2 → r.toInt < (x.1 0 25).toInt) := by
      rcases hr with hr | ⟨k, h1, h2, h3⟩
      · rw [hr]; exact ⟨by decide, by decide, fun _ => by show (0 : Int) < _; omega⟩
      · have t := LB_t lb h1
        rw [h3]
        obtain ⟨_, _, g3, g4, g5, g6, _⟩ := g
        rcases t.2.1 with ⟨q, _⟩ | ⟨q, q1, q2⟩ | ⟨q, q1, q2⟩
        · rw [h2] at q; rcases hb2 with e | e <;> (rw [e] at q; exact absurd q (by decide))
        · exact ⟨q1, by omega, fun e => by rw [h2, e] at q; exact absurd q (by decide)⟩
        · exact ⟨q1, by omega, fun _ => q2⟩
    have f := fun (w : Int32) w1 w2 w3 hw => p102 y r w m wy lx w1 w2 n1.1 n1.2.1 w3 hw hrn
    refine ⟨fun c1 => ⟨fun c2 => ⟨fun c3 => ⟨fun c4 => ⟨fun c5 => f 8 (by decide) (by decide) (fun q => absurd q (by decide)) ?_, fun c5 => f 10 (by decide) (by decide) (fun q => absurd q (by decide)) ?_⟩, fun c4 => f 9 (by decide) (by decide) (fun _ => n1.2.2 (hb3 c4)) ?_⟩, fun c3 => f 7 (by decide) (by decide) (fun q => absurd q (by decide)) ?_⟩, fun c2 => f 6 (by decide) (by decide) (fun q => absurd q (by decide)) ?_⟩, fun c1 => f 5 (by decide) (by decide) (fun q => absurd q (by decide)) ?_⟩
    · unfold opW; rw [if_neg c1, if_neg c2, if_neg c3, if_neg c4, if_neg c5]; rfl
    · unfold opW; rw [if_neg c1, if_neg c2, if_neg c3, if_neg c4, if_pos c5]; rfl
    · unfold opW; rw [if_neg c1, if_neg c2, if_neg c3, if_pos c4]; rfl
    · unfold opW; rw [if_neg c1, if_neg c2, if_pos c3]; rfl
    · unfold opW; rw [if_neg c1, if_pos c2]; rfl
    · unfold opW; rw [if_pos c1]; rfl
  have p24 : ∀ b : Int32, (x.1 16 s.toNatClampNeg = 33 → ¬ b = 0) → (b = 0 → wn = 1) → (¬ b = 0 → wn = 2) → MT G (D + 3) z_layWord 24 [(0, vr 0), (1, vi s), (2, vi (x.1 16 s.toNatClampNeg))] [vi b] x (rv Fv) := fun b q b1 b2 => sg_layWord_24 _ _ _ ⟨hs, fun c => p41 1 (Or.inl rfl) (by rw [b1 c]; rfl) (fun e => absurd c (q e)), fun c => p41 2 (Or.inr rfl) (by rw [b2 c]; rfl) (fun _ => rfl)⟩
  exact sg_layWord_0 _ ⟨hs, fun c => p24 1 (fun _ => by decide) (fun q => absurd q (by decide)) (fun _ => hwn.1 (Or.inl c)), fun c => ⟨fun c2 => p24 0 (fun q => absurd q c) (fun _ => hwn.2 (fun z => z.elim c c2)) (fun q => absurd rfl q), fun c2 => p24 1 (fun _ => by decide) (fun q => absurd q (by decide)) (fun _ => hwn.1 (Or.inr c2))⟩⟩
theorem sf_laySet {a : Nat} {E : gV} {N : gU} (s : Int32) (ct : CT sN T V K x) (ke : KEn x E) (vs : vRs x (x.1 17 s.toNatClampNeg) (some (x.1 16 s.toNatClampNeg).toNatClampNeg) N) (hD : a + 5 ≤ D) (p : PL x) (hs : vp_in s 3000) (hs2 : vp_in (x.1 19 s.toNatClampNeg) 710) (ha : vp_in (x.1 16 s.toNatClampNeg) 710) (v : vR x a (x.1 17 s.toNatClampNeg)) (hw : (x.1 0 49).toInt + a ≤ 5980) (hn : (x.1 0 52).toInt ≤ 1499) (h : ∀ x', LQ x x' 1 (a + 3) → md pL pA x x' → LX x x' (flt sN T V N E) → CQ sN T V K x x' E N → Fv x') : MT G D z_laySet 0 [(0, vr 0), (1, vi s)] [] x (rv Fv) := by
  obtain ⟨D, rfl⟩ : ∃ D', D = D' + 4 := ⟨D - 4, by omega⟩
  obtain ⟨lb, wb, kb, hN, w0, n0, t1⟩ := id p
  obtain ⟨r, er⟩ : ∃ r, r = x.1 17 s.toNatClampNeg := ⟨_, rfl⟩
  rw [← er] at v vs
  obtain ⟨esm, e7, tr, e5⟩ := id ct
  obtain ⟨X, eX⟩ : ∃ X : Prop, X = flt sN T V N E := ⟨_, rfl⟩
  rw [← eX] at h
  obtain ⟨t', et'⟩ : ∃ t', t' = (x.1 16 s.toNatClampNeg).toNatClampNeg := ⟨_, rfl⟩
  rw [← et'] at vs
  obtain ⟨M0, vs0, hcase⟩ := vRs_none vs
  have w25 : ∀ u : Nat, [20, 21, 22].elem u = false → ¬ u = 20 ∧ ¬ u = 21 ∧ ¬ u = 22 := fun u hu => ⟨fun e => by rw [e] at hu; exact absurd hu (by decide), fun e => by rw [e] at hu; exact absurd hu (by decide), fun e => by rw [e] at hu; exact absurd hu (by decide)⟩
  have sN0 : still N := vRr_st vs.1
  have cqX : ∀ z : gd, X → CQ sN T V K x z E N := fun z hX nf => absurd (by rw [← eX]; exact hX) nf
  -- set to a local: its code
  have cqR : ∀ (y z : gd) (slot : Int32) (p : Nat), LF x y 0 0 → kfi sN E.1 t' = some p → slot.toInt = slt E.1 p → RQ sN T V K y z E M0 slot → (¬ X → ¬ flt sN T V M0 E) → CQ sN T V K x z E N := by
    intro y z slot p lf hk hsl rq hM0 nf hE S k w hS
    rw [← eX] at nf
    have hpl := kfi_lt hk
    obtain ⟨S', e1, s1, x1⟩ := rq (hM0 nf) hE S k w (some t') t' p hk (by
      show slot.toInt = ((if p = E.1.length then E.2.2 else slt E.1 p : Nat) : Int)
      rw [if_neg (by omega)]; exact hsl) (SR_keep lf hS)
    refine ⟨S', ?_, s1, x1⟩
    rw [exs_still sN0, ← e1]
    rcases hcase with ⟨_, _, t, _, q1, q2⟩ | ⟨_, _, q⟩ | ⟨_, q⟩
    · rw [q1, q2, cds_one, cds_one, cd_27, cd_24]; exact cAl_r
    · rw [q, cds_app, cds_one, cd_25]
    · rw [q, cds_app, cds_one, cd_26]
  -- set to a local
  have hloc : ¬ kfi sN E.1 t' = none → (flt sN T V M0 E ↔ X) := by
    intro hk
    rw [eX]
    rcases hcase with ⟨_, _, t, _, q1, q2⟩ | ⟨_, _, q⟩ | ⟨_, q⟩
    · rw [q1, q2, flt_one, flt_one, fv_24, fv_27]
      exact ⟨fun z => Or.inl ⟨z.1, Or.inr z.2⟩, fun z => z.elim (fun z => ⟨z.1, z.2.resolve_left hk⟩) (fun z => absurd z.1 hk)⟩
    · rw [q, flt_app, flt_one, fv_25, exs_one, exV_still (w25 25 rfl)]
      exact ⟨Or.inr, fun z => z.resolve_left (fun z => hk z.1)⟩
    · rw [q, flt_app, flt_one, fv_26, exs_one, exV_still (w25 26 rfl)]
      exact ⟨Or.inr, fun z => z.resolve_left hk⟩
  -- what is no sum goes to no cell
  have hno : kfi sN E.1 t' = none → ¬ x.1 15 r.toNatClampNeg = 10 → X := by
    intro hk c
    rw [eX]
    rcases hcase with ⟨q, _⟩ | ⟨q, _⟩ | ⟨_, q⟩
    · exact absurd q c
    · exact absurd q c
    · rw [q, flt_app, flt_one, fv_26]
      exact Or.inl hk
  have hal : kfi sN E.1 t' = none → x.1 15 r.toNatClampNeg = 10 → x.1 15 (x.1 16 r.toNatClampNeg).toNatClampNeg = 3 → kfi sN E.1 (x.1 19 (x.1 16 r.toNatClampNeg).toNatClampNeg).toNatClampNeg = none → X := by
    intro hk c1 c2 c3
    rw [eX]
    rcases hcase with ⟨_, _, t, q0, q1, q2⟩ | ⟨_, q, _⟩ | ⟨q, _⟩
    · rw [q0] at c3
      rw [q1, flt_one, fv_27]
      exact Or.inl ⟨c3, Or.inl hk⟩
    · exact absurd c2 q
    · exact absurd c1 q
  have hsum : kfi sN E.1 t' = none → x.1 15 r.toNatClampNeg = 10 → ∃ n M1, vV x false n (x.1 16 r.toNatClampNeg) M1 ∧ ((¬ plc sN T t' ∨ flt sN T V M1 E) ↔ X) ∧ (¬ X → ¬ E.2.1 = [] → ∀ S k w, cds sN K N (E, S, k, rg0, w) = (E, S ++ [(1, t', knw E, none, some t', false, none, some M1, none)], k, rg0, w)) := by
    intro hk c
    obtain ⟨⟨vb, t, et, vs⟩, vs2⟩ := vs
    rcases vs with ⟨q1, q2, q3, ⟨n, M1, q4⟩, q5, q6⟩ | ⟨q1, q2, n, M1, q3, q4⟩ | ⟨q1, _⟩ | ⟨q1, _⟩ | ⟨q1, _⟩
    · have hxx : ¬ X → ¬ kfi sN E.1 t = none := fun nx z => nx (by
        rw [eX, q3]
        show flt sN T V [(27, t', t)] E
        rw [flt_one, fv_27]
        exact Or.inl ⟨z, Or.inl hk⟩)
      have eM := (vV_c q4).2.2.1 q5
      refine ⟨n, M1, q4, ?_, fun nx hE S k w => ?_⟩
      rotate_left
      · rw [q3, eM, if_neg (by decide), q6]
        show cdV sN K (E, S, k, rg0, w) (27, t', t) = _
        rw [cd_27]
        unfold cAl
        cases hkt : kfi sN E.1 t with
        | none => exact absurd hkt (hxx nx)
        | some p =>
          show cSe sN (E, S, k, rg0, w) (some t') t' [(3, t, 0)] = _
          unfold cSe
          rw [show toL sN (E, S, k, rg0, w).1.1 (some t') = none from hk]
          rfl
      rw [eX, q3, eM, if_neg (by decide), flt_one, fv_3, q6]
      show _ ↔ flt sN T V [(27, t', t)] E
      rw [flt_one, fv_27]
      exact ⟨fun z => z.elim (fun z => Or.inr ⟨hk, z⟩) (fun z => Or.inl ⟨z, Or.inl hk⟩), fun z => z.elim (fun z => Or.inr z.1) (fun z => Or.inl z.2)⟩
    · refine ⟨n, M1, q3, ?_, fun nx hE S k w => ?_⟩
      rotate_left
      · rw [q4]
        show cds sN K ([(25, t', 0)] ++ ((M1 ++ [(54, 0, 0)]) ++ [(76, t, 0)])) (E, S, k, rg0, w) = _
        rw [cds_app, cds_one, cd_25, cds_app, cds_x (vV_sE q3) hE, cds_one, cd_76]
        unfold cSe
        rw [show toL sN (E, S, k, (([], [] ++ [M1], 0, false, some t', t') : gRg), w).1.1 (some t') = none from hk]
        rfl
      rw [eX, q4]
      show _ ↔ flt sN T V ([(25, t', 0)] ++ ((M1 ++ [(54, 0, 0)]) ++ [(76, t, 0)])) E
      rw [flt_app, flt_one, fv_25, exs_one, exV_still (w25 25 rfl), flt_end rfl, flt_sum]
      exact ⟨fun z => z.imp (fun z => ⟨hk, z⟩) id, fun z => z.imp (fun z => z.2) id⟩
    · rw [q1] at c; exact absurd c (by decide)
    · rcases q1 with ⟨q1, _⟩ | ⟨q1, _⟩ <;> (rw [q1] at c; exact absurd c (by decide))
    · rw [q1] at c; exact absurd c (by decide)
  have rv' : vp_in r 3000 := by rw [vp_in_iff]; have := v.1; omega
  have R : ∀ (y : gd) (slot : Int32) (Y : Prop), md [41, 42] [] x y → WB y → LX x y Y → (Y ∨ flt sN T V M0 E ↔ X) → 0 ≤ slot.toInt → slot.toInt < 8 → (∀ z, RQ sN T V K y z E M0 slot → CQ sN T V K x z E N) → MT G (D + 3) z_layR 0 [(0, vr 0), (1, vi r), (2, vi slot), (3, vi s)] [] y (rv (fun z => rv Fv none z)) := by
    intro y slot Y m wy lx hY h1 h2 hcq
    have lf := LF_wr m wy
    have mm : md pL pA x y := md_w m (by decide) (by decide)
    have e49 : y.1 0 49 = x.1 0 49 := m.1 49 (by decide)
    have e52 : y.1 0 52 = x.1 0 52 := m.1 52 (by decide)
    refine sf_layR r slot s (a := a) (M0 := M0) (by omega) (PL_up p lf mm) (vR_NK ⟨(NN_LF lf).1, fun c h1 h2 j hj => (NN_LF lf).2 c h1 (by omega) j hj⟩ v) (vRs_NF (NF_LF lf) vs0) (KEn_md mm (by decide) (by decide) (by decide) ke) (CT_md mm (by decide) rfl ct) h1 h2 hs (by rw [m.2.1 19 (by decide) (by decide)]; exact hs2) (by rw [e49]; exact hw) (by rw [e52]; exact hn) (fun z q mz lx2 rq => rv_i (h z ?_ (md_tr mm mz rfl rfl) (LX_eq (LX_tr lx lx2) hY) (hcq z rq)))
    exact LQ_mono (by omega) (by omega) (LQ_tr (LQ_0 lf) q)
  have ve : x.1 15 r.toNatClampNeg = 10 → vE x a a 17 (x.1 16 r.toNatClampNeg) := by
    intro c
    rcases v.2.2 with q | q | ⟨q, _⟩ | ⟨q, _⟩
    · exact q.2
    · rw [c] at q; exact absurd q.1 (by decide)
    · rw [c] at q; exact absurd q (by decide)
    · rw [c] at q; exact absurd q (by decide)
  have pv : x.1 15 r.toNatClampNeg = 10 → vp_in (x.1 16 r.toNatClampNeg) 3000 ∧ vp_in (x.1 19 (x.1 16 r.toNatClampNeg).toNatClampNeg) 710 := by
    intro c
    have q := ve c
    cases a with
    | zero => exact q.elim
    | succ a => exact ⟨by rw [vp_in_iff]; have := q.1; omega, q.2.2.2.1⟩
  have p158 : ∀ (y : gd) (n e : Int32), LF x y 0 (a + 1) → md pL pA x y → LX x y X → 0 ≤ n.toInt → n.toInt < 24 → wo y 0 e → (¬ X → ¬ E.2.1 = [] → n.toInt = nmT sN 0 t' T ∧ ∃ M1, SUm y e (nPs sN T V K E.1 M1) ∧ ∀ S k w, cds sN K N (E, S, k, rg0, w) = (E, S ++ [(1, t', knw E, none, some t', false, none, some M1, none)], k, rg0, w)) → MT G (D + 4) z_laySet 158 [(0, vr 0), (1, vi s), (5, vi e)] [vi n, vi 1, vr 0] y (rv Fv) := by
    intro y n e lf m lx n1 n2 q hcd
    have e52 : (y.1 0 52).toInt = (x.1 0 52).toInt := by have := lf.2.2.1; have := lf.2.2.2.1; omega
    have sn : vp_in (y.1 0 52) 1500 := by rw [vp_in_iff]; omega
    refine sg_laySet_158 _ _ _ _ (sf_layAct _ _ _ sn (KEn_md m (by decide) (by decide) (by decide) ke) (Or.inr ⟨hs, by rw [m.2.1 19 (by decide) (by decide)]; exact hs2⟩) (LB_md m rfl rfl lb).1 (fun z hz hzm => ⟨sn, fun z2 e2 => ?_⟩))
    have st := stp_59 (stp_a hz) e2
    refine rv_i (h z2 (LQ_mono (by omega) (by omega) (LQ_tr (LQ_0 lf) (LQ_stp st lf.2.1 (by omega) (by omega) (Or.inl rfl) q (Or.inl rfl) (by decide) (Or.inr (Or.inr (Or.inr (Or.inr (Or.inr ⟨rfl, Or.inl rfl, Or.inl ⟨by decide, by decide, n1, n2, by decide, Or.inl rfl⟩⟩)))))))) (md_tr m st.1 rfl rfl) (LX_md lx st.1 (by decide)) (fun nf hE S k w hS => ?_))
    rw [← eX] at nf
    obtain ⟨hnn, M1, hsu, hcds⟩ := hcd nf hE
    refine ⟨_, by rw [hcds, exs_still sN0], SR_snoc (st := (1, t', knw E, none, some t', false, none, some M1, none)) hS lf st hn (by rw [e2, si_cell (by decide)]; exact hzm) rfl (fun _ => rfl) (i32_of hnn) rfl rfl hsu rfl rfl, xtS_sn⟩
  have p107 : ∀ (y : gd) (c : Int32), md [41, 42] [] x y → WB y → LX x y (¬ plc sN T t') → kfi sN E.1 t' = none → (¬ x.1 15 r.toNatClampNeg = 10 → ¬ plc sN T t') → cN x c → (c = -1 → X) → (¬ c = -1 → (x.1 32 c.toNatClampNeg).toInt = nmT sN 0 t' T) → MT G (D + 4) z_laySet 107 [(0, vr 0), (1, vi s), (3, vi r), (4, vi c)] [] y (rv Fv) := by
    intro y c m wy lx hk hpl cn hcx hcn
    have lf := LF_wr m wy
    have mm : md pL pA x y := md_w m (by decide) (by decide)
    have e49 : y.1 0 49 = x.1 0 49 := m.1 49 (by decide)
    refine sg_laySet_107 _ _ _ ⟨rv', fun c2 => ⟨rv', ?_⟩, fun c2 => R y 0 _ m wy lx ?_ (by decide) (by decide) (fun z _ => cqX z (hno hk (by rw [← m.2.1 15 (by decide) (by decide)]; exact c2)))⟩
    rotate_left
    · rw [m.2.1 15 (by decide) (by decide)] at c2
      exact ⟨fun _ => hno hk c2, fun _ => Or.inl (hpl c2)⟩
    rw [m.2.1 15 (by decide) (by decide)] at c2
    rw [m.2.1 16 (by decide) (by decide)]
    obtain ⟨y1, y2, y3, y4, y5, y6, y7⟩ := PL_up p lf mm
    obtain ⟨n1, M1, vv1, hX1, hcd1⟩ := hsum hk c2
    refine sf_workOf 0 (n := a) (s := a) (M := M1) (by omega) (Or.inr ⟨vE_LF lf (ve c2), n1, vV_NF (NF_LF lf) vv1⟩) y4 y1 y2 (fun _ => KEn_md mm (by decide) (by decide) (by decide) ke) (CT_md mm (by decide) rfl ct) y5 (by rw [e49]; omega) (fun r2 z lw _ lx2 su2 _ => ?_)
    have hsu := fun nx : ¬ X => su2 (fun q => by have z := ve c2; rw [q] at z; exact absurd (vE_pos z) (by decide)) (fun q => nx (hX1.mp (Or.inr q)))
    have lx3 : LX x z X := LX_eq (LX_tr lx lx2) hX1
    have lf2 := LF_tr lf (LF_wk lw)
    have m2 : md pL pA x z := md_tr mm (LW_md lw) rfl rfl
    rw [show 0 + (a + 1) = a + 1 by omega] at lf2
    refine ⟨fun c3 => ?_, fun c3 => p158 z 0 _ lf2 m2 lx3 (by decide) (by decide) lw.2.2.2.2.2 (fun nx => absurd (hcx c3) nx)⟩
    obtain ⟨b1, b2, b3, b4⟩ := cN_v lb lf2 cn c3
    exact ⟨b1, p158 z _ _ lf2 m2 lx3 b2 (by omega) lw.2.2.2.2.2 (fun nx hE => ⟨by rw [m2.2.1 32 (by decide) (by decide)]; exact hcn c3, M1, hsu nx, hcd1 nx hE⟩)⟩
  have p87 : ∀ y : gd, md [41, 42] [] x y → WB y → X → MT G (D + 4) z_laySet 87 [(0, vr 0), (1, vi s), (3, vi r)] [] y (rv Fv) := by
    intro y m wy hX
    exact sg_laySet_87 _ _ ⟨rv', sf_wrongAt _ _ (by decide) (by rw [m.2.1 19 (by decide) (by decide)]; exact v.2.1) (LB_md m rfl rfl lb).1 wy (fun z mz wz gz => R z 0 True (md_tr m mz rfl rfl) wz (LX_yes trivial gz) ⟨fun _ => hX, fun _ => Or.inl trivial⟩ (by decide) (by decide) (fun w _ => cqX w hX))⟩
  refine sg_laySet_0 _ ⟨hs, sf_slotOf _ ha lb.1 ke (fun sl hsl => ⟨hs, fun c => ⟨hs, ?_⟩, fun c => ?_⟩)⟩
  · rw [← er]
    rw [esm, ← et'] at hsl
    have hk : kfi sN E.1 t' = none := by
      rcases hsl with ⟨_, q⟩ | ⟨q, _⟩
      · exact q
      · rw [c] at q; exact absurd q.1 (by decide)
    refine sf_cellOf _ _ (Or.inl rfl) ha lb wb tr (fun c2 y m wy hc lx hc2 hcn0 => ?_)
    rw [esm, ← et'] at hc2 hcn0
    have hcn : ¬ c2 = -1 → (x.1 32 c2.toNatClampNeg).toInt = nmT sN 0 t' T := fun q => (hcn0 q).1
    have hc3 : c2 = -1 ↔ ¬ plc sN T t' := by
      rw [hc2]
      exact ⟨fun z => z.1 rfl, fun z => ⟨fun _ => z, fun q => absurd q (by decide)⟩⟩
    have lx2 : LX x y (¬ plc sN T t') := LX_eq lx hc3
    have hcx : c2 = -1 → X := fun q => by
      by_cases c10 : x.1 15 r.toNatClampNeg = 10
      · obtain ⟨_, _, _, hX1, _⟩ := hsum hk c10
        exact hX1.mp (Or.inl (hc3.mp q))
      · exact hno hk c10
    have cn : cN x c2 := hc.imp id (fun q => ⟨q.1, q.2.1⟩)
    have e15 : y.1 15 = x.1 15 := m.2.1 15 (by decide) (by decide)
    have e16 : y.1 16 = x.1 16 := m.2.1 16 (by decide) (by decide)
    have e19 : y.1 19 = x.1 19 := m.2.1 19 (by decide) (by decide)
    refine ⟨fun z => p107 y c2 m wy lx2 hk (fun _ => hc3.mp z) cn hcx hcn, fun _ => ⟨rv', fun c3 => p87 y m wy (hno hk (by rw [← e15]; exact c3)), fun c3 => ?_⟩⟩
    rw [e15] at c3
    have pv3 := pv c3
    have ky : KEn y E := KEn_md m (by decide) (by decide) (by decide) ke
    have cy : CT sN T V K y := CT_md m (by decide) rfl ct
    refine sf_isCellAlone _ rv' (fun _ => by rw [e16, e19]; exact pv3) (LB_md m rfl rfl lb).1 ky (fun _ => ⟨fun _ => p107 y c2 m wy lx2 hk (fun q => absurd c3 q) cn hcx hcn, fun q => absurd rfl q⟩) (fun _ a3 a4 => ⟨fun q => absurd q (by decide), fun _ => ⟨rv', by rw [e16]; exact pv3.1, ?_⟩⟩)
    rw [cy.1, e16, e19] at a4
    rw [e15, e16] at a3
    exact sf_isCellName _ (by rw [e16, e19]; exact pv3.2) (LB_md m rfl rfl lb) cy.2.2.1 (fun r18 _ => ⟨fun _ => p107 y c2 m wy lx2 hk (fun q => absurd c3 q) cn hcx hcn, fun _ => p87 y m wy (hal hk c3 a3 a4)⟩)
  · rw [← er]
    rw [esm, ← et'] at hsl
    have hk : ¬ kfi sN E.1 t' = none := by
      rcases hsl with ⟨q, _⟩ | ⟨_, p, q, _⟩
      · exact absurd q c
      · rw [q]; simp
    have b := (hsl.resolve_left (fun q => c q.1)).1
    obtain ⟨-, p9, hp9, esl⟩ := hsl.resolve_left (fun q => c q.1)
    exact R x sl False (md_w (md_rf x) (by decide) (by decide)) wb (LX_no id) (by rw [false_or]; exact hloc hk) b.1 b.2 (fun z rq => cqR x z sl p9 (LF_wr (md_w (md_rf x) (by decide) (by decide)) wb) hp9 (by rw [esl]; exact KL_slt ke.2.2 (kfi_lt hp9)) rq (fun nx q => nx ((hloc hk).mp q)))
end LWF
