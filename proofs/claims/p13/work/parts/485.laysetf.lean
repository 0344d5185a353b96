section
/-! the statements of one word, and those that set: what is found wrong -/
section LWF0
end LWF0
theorem still_k {k a b : Nat} (h : [20, 21, 22].elem k = false) : still [(k, a, b)] := still_one ⟨fun (e : k = 20) => by rw [e] at h; exact absurd h (by decide), fun (e : k = 21) => by rw [e] at h; exact absurd h (by decide), fun (e : k = 22) => by rw [e] at h; exact absurd h (by decide)⟩
theorem vRr_st {x : gd} {r : Int32} {tg : Option Nat} {M : gU} (h : vRr x r tg M) : still M := by
  have sa : still (pma tg) := by cases tg with | none => exact still_nil | some t => exact still_k rfl
  have se : still (pme tg) := by cases tg with | none => exact still_nil | some t => exact still_k rfl
  obtain ⟨b, t, et, h⟩ := h
  rcases h with ⟨q1, q2, q3, q4, q5, q6⟩ | ⟨q1, q2, n, M1, q3, q4⟩ | ⟨q1, M1, q2, q3⟩ | ⟨q1, n, M1, M2, q2, q3, q4⟩ | ⟨q1, q2, n, m, M1, M2, M3, q3, q4, q5, q6⟩
  · rw [q3]; cases tg with | none => exact still_k rfl | some t => exact still_k rfl
  · rw [q4]; exact still_app sa (still_app (still_54 (vV_st q3)) (still_k rfl))
  · rw [q3]; exact still_app se (still_app (vQ_st q2) (still_k rfl))
  · rw [q4]; exact still_app se (still_app (vQ_st q2) (still_app (still_54 (vV_st q3)) (still_k rfl)))
  · rw [q6]; exact still_app se (still_app (vQ_st q3) (still_app (still_54 (vV_st q4)) (still_app (still_54 (vV_st q5)) (still_k rfl))))
section LWF
variable {sN : Nat → Nat → Bool} {T : gTd} {V K : Nat → Int32} {G : mG} {D : Nat} {x : gd} {Fv : gd → Prop}
theorem cAl_r {E : gV} {S : List gSt} {k : List Nat} {r r' : gRg} {w : List (Nat × Nat) × List (Nat × gU)} {tg : Option Nat} {tk i : Nat} : cAl sN (E, S, k, r, w) tg tk i = cAl sN (E, S, k, r', w) tg tk i := by
  show (match kfi sN E.1 i with | some _ => cSe sN (E, S, k, r, w) tg tk [(3, i, 0)] | none => _) = match kfi sN E.1 i with | some _ => cSe sN (E, S, k, r', w) tg tk [(3, i, 0)] | none => _
  cases kfi sN E.1 i with
  | none => rfl
  | some p =>
    show (match toL sN E.1 tg with | some p => _ | none => _) = match toL sN E.1 tg with | some p => _ | none => _
    cases toL sN E.1 tg <;> rfl
theorem sf_layWord {wn : Nat} {E : gV} (s : Int32) (ke : KEn x E) (ct : CT sN T V K x) (hwn : ((x.1 16 s.toNatClampNeg = 33 ∨ x.1 16 s.toNatClampNeg = 25) → wn = 2) ∧ (¬ (x.1 16 s.toNatClampNeg = 33 ∨ x.1 16 s.toNatClampNeg = 25) → wn = 1)) (hD : 4 ≤ D) (p : PL x) (hs : vp_in s 3000) (hs2 : vp_in (x.1 19 s.toNatClampNeg) 710) (hb : vp_in (x.1 17 s.toNatClampNeg) 710) (hn : (x.1 0 52).toInt ≤ 1499) (h : ∀ x', LQ x x' 1 0 → md pL pA x x' → LX x x' (mtP sN T wn (x.1 17 s.toNatClampNeg).toNatClampNeg = none) → (¬ mtP sN T wn (x.1 17 s.toNatClampNeg).toNatClampNeg = none → ∀ S i, K i = x.1 16 s.toNatClampNeg → SR sN T V K x S → SR sN T V K x' (S ++ [(opW (K i), i, knw E, none, some (x.1 17 s.toNatClampNeg).toNatClampNeg, decide (K i = 40), none, none, none)])) → Fv x') : MT G D z_layWord 0 [(0, vr 0), (1, vi s)] [] x (rv Fv) := by
  obtain ⟨D, rfl⟩ : ∃ D', D = D' + 3 := ⟨D - 3, by omega⟩
  obtain ⟨lb, wb, kb, hN, w0, n0, t1⟩ := id p
  have g := lb.2.1
  obtain ⟨esm, e7, tr, e5⟩ := id ct
  obtain ⟨X, eX⟩ : ∃ X : Prop, X = (mtP sN T wn (x.1 17 s.toNatClampNeg).toNatClampNeg = none) := ⟨_, rfl⟩
  rw [← eX] at h
  have p102 : ∀ (y : gd) (n w : Int32), md [41, 42] [] x y → WB y → LX x y X → 5 ≤ w.toInt → w.toInt ≤ 10 → 0 ≤ n.toInt → n.toInt < 6 → (w = 9 → n.toInt < (x.1 0 25).toInt) → w = Int32.ofNat (opW (x.1 16 s.toNatClampNeg)) → (¬ X → n.toInt = nmT sN wn (x.1 17 s.toNatClampNeg).toNatClampNeg T) → MT G (D + 3) z_layWord 102 [(0, vr 0), (1, vi s), (2, vi (x.1 16 s.toNatClampNeg)), (4, vi n)] [vi w] y (rv Fv) := by
    intro y n w m wy lx w1 w2 n1 n2 n3 hw hnn
    have lf := LF_wr m wy
    have e52 : y.1 0 52 = x.1 0 52 := m.1 52 (by decide)
    have sn : vp_in (y.1 0 52) 1500 := by rw [e52, vp_in_iff]; omega
    refine sg_layWord_102 _ _ _ _ (sf_layAct _ _ _ sn (KEn_md m (by decide) (by decide) (by decide) ke) (Or.inr ⟨hs, by rw [m.2.1 19 (by decide) (by decide)]; exact hs2⟩) (LB_md m rfl rfl lb).1 (fun z hz hzm => ?_))
    have fin : ∀ (v : Int32) (z2 : gd), v = (if x.1 16 s.toNatClampNeg = 40 then 1 else 0) → z2 = si z 57 (y.1 0 52).toNatClampNeg v → rv Fv none z2 := by
      intro v z2 hv e2
      have st := stp_57 (stp_a hz) e2
      refine rv_i (h z2 (LQ_tr (LQ_0 lf) (LQ_stp st wy (by rw [e52]; exact n0) (by rw [e52]; exact hn) (Or.inl rfl) (Or.inl rfl) (Or.inl rfl) (by decide) (Or.inr (Or.inr (Or.inr (Or.inr (Or.inr ⟨rfl, Or.inl rfl, Or.inr (Or.inl ⟨w1, w2, n1, n2, fun q => by rw [m.1 25 (by decide)]; exact n3 q, rfl⟩)⟩))))))) (md_tr m st.1 rfl rfl) (LX_md lx st.1 (by decide)) (fun nx S i hi hS => ?_))
      have hop : 5 ≤ opW (x.1 16 s.toNatClampNeg) ∧ opW (x.1 16 s.toNatClampNeg) ≤ 10 ∧ (wn = 1 → opW (x.1 16 s.toNatClampNeg) ≤ 8) ∧ (wn = 2 → 9 ≤ opW (x.1 16 s.toNatClampNeg)) := by
        have q1 := hwn.1
        have q2 := hwn.2
        unfold opW
        by_cases c36 : x.1 16 s.toNatClampNeg = 36
        · rw [if_pos c36]; exact ⟨by decide, by decide, fun _ => by decide, fun z => by rw [q2 (by rw [c36]; decide)] at z; omega⟩
        rw [if_neg c36]
        by_cases c22 : x.1 16 s.toNatClampNeg = 22
        · rw [if_pos c22]; exact ⟨by decide, by decide, fun _ => by decide, fun z => by rw [q2 (by rw [c22]; decide)] at z; omega⟩
        rw [if_neg c22]
        by_cases c38 : x.1 16 s.toNatClampNeg = 38
        · rw [if_pos c38]; exact ⟨by decide, by decide, fun _ => by decide, fun z => by rw [q2 (by rw [c38]; decide)] at z; omega⟩
        rw [if_neg c38]
        by_cases c33 : x.1 16 s.toNatClampNeg = 33
        · rw [if_pos c33]; exact ⟨by decide, by decide, fun z => by rw [q1 (Or.inl c33)] at z; omega, fun _ => by decide⟩
        rw [if_neg c33]
        by_cases c25 : x.1 16 s.toNatClampNeg = 25
        · rw [if_pos c25]; exact ⟨by decide, by decide, fun z => by rw [q1 (Or.inr c25)] at z; omega, fun _ => by decide⟩
        rw [if_neg c25]
        exact ⟨by decide, by decide, fun _ => by decide, fun z => by rw [q2 (fun w => w.elim c33 c25)] at z; omega⟩
      have hwn2 : wn = 1 ∨ wn = 2 := by
        by_cases c : x.1 16 s.toNatClampNeg = 33 ∨ x.1 16 s.toNatClampNeg = 25
        · exact Or.inr (hwn.1 c)
        · exact Or.inl (hwn.2 c)
      rw [hi]
      obtain ⟨o1, o2, o3, o4⟩ := hop
      refine SR_snoc hS lf st hn (by rw [e2, si_cell (by decide)]; exact hzm) (by show _ = mWh _; unfold mWh; rw [if_pos (by omega)]) (fun _ => hw) ?_ ?_ rfl rfl rfl rfl
      · show n = if opW (x.1 16 s.toNatClampNeg) ≤ 4 then _ else if opW (x.1 16 s.toNatClampNeg) ≤ 8 then Int32.ofNat (nmT sN 1 (x.1 17 s.toNatClampNeg).toNatClampNeg T) else if opW (x.1 16 s.toNatClampNeg) ≤ 10 then Int32.ofNat (nmT sN 2 (x.1 17 s.toNatClampNeg).toNatClampNeg T) else _
        have hnn2 := i32_of (hnn nx)
        rw [if_neg (by omega)]
        rcases hwn2 with c | c
        · rw [if_pos (o3 c), hnn2, c]
        · have := o4 c
          rw [if_neg (by omega), if_pos o2, hnn2, c]
      · show v = if decide (x.1 16 s.toNatClampNeg = 40) = true then (if opW (x.1 16 s.toNatClampNeg) ≤ 4 then _ else 1) else 0
        rw [hv, if_neg (show ¬ opW (x.1 16 s.toNatClampNeg) ≤ 4 by omega)]
        by_cases c : x.1 16 s.toNatClampNeg = 40
        · rw [if_pos c, if_pos (decide_eq_true c)]
        · rw [if_neg c, if_neg (fun z => c (of_decide_eq_true z))]
    exact ⟨fun c => ⟨sn, fun z2 => fin 0 z2 (by rw [if_neg c])⟩, fun c => ⟨sn, fun z2 => fin 1 z2 (by rw [if_pos c])⟩⟩
  have p41 : ∀ b : Int32, (b = 1 ∨ b = 2) → b.toInt = wn → (x.1 16 s.toNatClampNeg = 33 → b = 2) → MT G (D + 3) z_layWord 41 [(0, vr 0), (1, vi s), (2, vi (x.1 16 s.toNatClampNeg))] [vi b, vi (x.1 17 s.toNatClampNeg), vr 0] x (rv Fv) := by
    intro b hb2 hbn hb3
    refine sg_layWord_41 _ _ _ _ (sf_numberOf _ _ wn hbn hb lb wb tr (fun r y m wy hr lx hrn => ?_))
    rw [esm, ← eX] at lx hrn
    have n1 : 0 ≤ r.toInt ∧ r.toInt < 6 ∧ (b = 2 → r.toInt < (x.1 0 25).toInt) := by
      rcases hr with hr | ⟨k, h1, h2, h3⟩
      · rw [hr]; exact ⟨by decide, by decide, fun _ => by show (0 : Int) < _; omega⟩
      · have t := LB_t lb h1
        rw [h3]
        obtain ⟨_, _, g3, g4, g5, g6, _⟩ := g
        rcases t.2.1 with ⟨q, _⟩ | ⟨q, q1, q2⟩ | ⟨q, q1, q2⟩
        · rw [h2] at q; rcases hb2 with e | e <;> (rw [e] at q; exact absurd q (by decide))
        · exact ⟨q1, by omega, fun e => by rw [h2, e] at q; exact absurd q (by decide)⟩
        · exact ⟨q1, by omega, fun _ => q2⟩
    have f := fun (w : Int32) w1 w2 w3 hw => p102 y r w m wy lx w1 w2 n1.1 n1.2.1 w3 hw hrn
    refine ⟨fun c1 => ⟨fun c2 => ⟨fun c3 => ⟨fun c4 => ⟨fun c5 => f 8 (by decide) (by decide) (fun q => absurd q (by decide)) ?_, fun c5 => f 10 (by decide) (by decide) (fun q => absurd q (by decide)) ?_⟩, fun c4 => f 9 (by decide) (by decide) (fun _ => n1.2.2 (hb3 c4)) ?_⟩, fun c3 => f 7 (by decide) (by decide) (fun q => absurd q (by decide)) ?_⟩, fun c2 => f 6 (by decide) (by decide) (fun q => absurd q (by decide)) ?_⟩, fun c1 => f 5 (by decide) (by decide) (fun q => absurd q (by decide)) ?_⟩
    · unfold opW; rw [if_neg c1, if_neg c2, if_neg c3, if_neg c4, if_neg c5]; rfl
    · unfold opW; rw [if_neg c1, if_neg c2, if_neg c3, if_neg c4, if_pos c5]; rfl
    · unfold opW; rw [if_neg c1, if_neg c2, if_neg c3, if_pos c4]; rfl
    · unfold opW; rw [if_neg c1, if_neg c2, if_pos c3]; rfl
    · unfold opW; rw [if_neg c1, if_pos c2]; rfl
    · unfold opW; rw [if_pos c1]; rfl
  have p24 : ∀ b : Int32, (x.1 16 s.toNatClampNeg = 33 → ¬ b = 0) → (b = 0 → wn = 1) → (¬ b = 0 → wn = 2) → MT G (D + 3) z_layWord 24 [(0, vr 0), (1, vi s), (2, vi (x.1 16 s.toNatClampNeg))] [vi b] x (rv Fv) := fun b q b1 b2 => sg_layWord_24 _ _ _ ⟨hs, fun c => p41 1 (Or.inl rfl) (by rw [b1 c]; rfl) (fun e => absurd c (q e)), fun c => p41 2 (Or.inr rfl) (by rw [b2 c]; rfl) (fun _ => rfl)⟩
  exact sg_layWord_0 _ ⟨hs, fun c => p24 1 (fun _ => by decide) (fun q => absurd q (by decide)) (fun _ => hwn.1 (Or.inl c)), fun c => ⟨fun c2 => p24 0 (fun q => absurd q c) (fun _ => hwn.2 (fun z => z.elim c c2)) (fun q => absurd rfl q), fun c2 => p24 1 (fun _ => by decide) (fun q => absurd q (by decide)) (fun _ => hwn.1 (Or.inr c2))⟩⟩
theorem sf_laySet {a : Nat} {E : gV} {N : gU} (s : Int32) (ct : CT sN T V K x) (ke : KEn x E) (vs : vRs x (x.1 17 s.toNatClampNeg) (some (x.1 16 s.toNatClampNeg).toNatClampNeg) N) (hD : a + 5 ≤ D) (p : PL x) (hs : vp_in s 3000) (hs2 : vp_in (x.1 19 s.toNatClampNeg) 710) (ha : vp_in (x.1 16 s.toNatClampNeg) 710) (v : vR x a (x.1 17 s.toNatClampNeg)) (hw : (x.1 0 49).toInt + a ≤ 5980) (hn : (x.1 0 52).toInt ≤ 1499) (h : ∀ x', LQ x x' 1 (a + 3) → md pL pA x x' → LX x x' (flt sN T V N E) → CQ sN T V K x x' E N → Fv x') : MT G D z_laySet 0 [(0, vr 0), (1, vi s)] [] x (rv Fv) := by
  obtain ⟨D, rfl⟩ : ∃ D', D = D' + 4 := ⟨D - 4, by omega⟩
  obtain ⟨lb, wb, kb, hN, w0, n0, t1⟩ := id p
  obtain ⟨r, er⟩ : ∃ r, r = x.1 17 s.toNatClampNeg := ⟨_, rfl⟩
  rw [← er] at v vs
  obtain ⟨esm, e7, tr, e5⟩ := id ct
  obtain ⟨X, eX⟩ : ∃ X : Prop, X = flt sN T V N E := ⟨_, rfl⟩
  rw [← eX] at h
  obtain ⟨t', et'⟩ : ∃ t', t' = (x.1 16 s.toNatClampNeg).toNatClampNeg := ⟨_, rfl⟩
  rw [← et'] at vs
  obtain ⟨M0, vs0, hcase⟩ := vRs_none vs
  have w25 : ∀ u : Nat, [20, 21, 22].elem u = false → ¬ u = 20 ∧ ¬ u = 21 ∧ ¬ u = 22 := fun u hu => ⟨fun e => by rw [e] at hu; exact absurd hu (by decide), fun e => by rw [e] at hu; exact absurd hu (by decide), fun e => by rw [e] at hu; exact absurd hu (by decide)⟩
  have sN0 : still N := vRr_st vs.1
  have cqX : ∀ z : gd, X → CQ sN T V K x z E N := fun z hX nf => absurd (by rw [← eX]; exact hX) nf
  -- set to a local: its code
  have cqR : ∀ (y z : gd) (slot : Int32) (p : Nat), LF x y 0 0 → kfi sN E.1 t' = some p → slot.toInt = slt E.1 p → RQ sN T V K y z E M0 slot → (¬ X → ¬ flt sN T V M0 E) → CQ sN T V K x z E N := by
    intro y z slot p lf hk hsl rq hM0 nf hE S k w hS
    rw [← eX] at nf
    have hpl := kfi_lt hk
    obtain ⟨S', e1, s1, x1⟩ := rq (hM0 nf) hE S k w (some t') t' p hk (by
      show slot.toInt = ((if p = E.1.length then E.2.2 else slt E.1 p : Nat) : Int)
      rw [if_neg (by omega)]; exact hsl) (SR_keep lf hS)
    refine ⟨S', ?_, s1, x1⟩
    rw [exs_still sN0, ← e1]
    rcases hcase with ⟨_, _, t, _, q1, q2⟩ | ⟨_, _, q⟩ | ⟨_, q⟩
    · rw [q1, q2, cds_one, cds_one, cd_27, cd_24]; exact cAl_r
    · rw [q, cds_app, cds_one, cd_25]
    · rw [q, cds_app, cds_one, cd_26]
  -- set to a local
  have hloc : ¬ kfi sN E.1 t' = none → (flt sN T V M0 E ↔ X) := by
    intro hk
    rw [eX]
    rcases hcase with ⟨_, _, t, _, q1, q2⟩ | ⟨_, _, q⟩ | ⟨_, q⟩
    · rw [q1, q2, flt_one, flt_one, fv_24, fv_27]
      exact ⟨fun z => Or.inl ⟨z.1, Or.inr z.2⟩, fun z => z.elim (fun z => ⟨z.1, z.2.resolve_left hk⟩) (fun z => absurd z.1 hk)⟩
    · rw [q, flt_app, flt_one, fv_25, exs_one, exV_still (w25 25 rfl)]
      exact ⟨Or.inr, fun z => z.resolve_left (fun z => hk z.1)⟩
    · rw [q, flt_app, flt_one, fv_26, exs_one, exV_still (w25 26 rfl)]
      exact ⟨Or.inr, fun z => z.resolve_left hk⟩
  -- what is no sum goes to no cell
  have hno : kfi sN E.1 t' = none → ¬ x.1 15 r.toNatClampNeg = 10 → X := by
    intro hk c
    rw [eX]
    rcases hcase with ⟨q, _⟩ | ⟨q, _⟩ | ⟨_, q⟩
    · exact absurd q c
    · exact absurd q c
    · rw [q, flt_app, flt_one, fv_26]
      exact Or.inl hk
  have hal : kfi sN E.1 t' = none → x.1 15 r.toNatClampNeg = 10 → x.1 15 (x.1 16 r.toNatClampNeg).toNatClampNeg = 3 → kfi sN E.1 (x.1 19 (x.1 16 r.toNatClampNeg).toNatClampNeg).toNatClampNeg = none → X := by
    intro hk c1 c2 c3
    rw [eX]
    rcases hcase with ⟨_, _, t, q0, q1, q2⟩ | ⟨_, q, _⟩ | ⟨q, _⟩
    · rw [q0] at c3
      rw [q1, flt_one, fv_27]
      exact Or.inl ⟨c3, Or.inl hk⟩
    · exact absurd c2 q
    · exact absurd c1 q
  have hsum : kfi sN E.1 t' = none → x.1 15 r.toNatClampNeg = 10 → ∃ n M1, vV x false n (x.1 16 r.toNatClampNeg) M1 ∧ ((¬ plc sN T t' ∨ flt sN T V M1 E) ↔ X) ∧ (¬ X → ¬ E.2.1 = [] → ∀ S k w, cds sN K N (E, S, k, rg0, w) = (E, S ++ [(1, t', knw E, none, some t', false, none, some M1, none)], k, rg0, w)) := by
    intro hk c
    obtain ⟨⟨vb, t, et, vs⟩, vs2⟩ := vs
    rcases vs with ⟨q1, q2, q3, ⟨n, M1, q4⟩, q5, q6⟩ | ⟨q1, q2, n, M1, q3, q4⟩ | ⟨q1, _⟩ | ⟨q1, _⟩ | ⟨q1, _⟩
    · have hxx : ¬ X → ¬ kfi sN E.1 t = none := fun nx z => nx (by
        rw [eX, q3]
        show flt sN T V [(27, t', t)] E
        rw [flt_one, fv_27]
        exact Or.inl ⟨z, Or.inl hk⟩)
      have eM := (vV_c q4).2.2.1 q5
      refine ⟨n, M1, q4, ?_, fun nx hE S k w => ?_⟩
      rotate_left
      · rw [q3, eM, if_neg (by decide), q6]
        show cdV sN K (E, S, k, rg0, w) (27, t', t) = _
        rw [cd_27]
        unfold cAl
        cases hkt : kfi sN E.1 t with
        | none => exact absurd hkt (hxx nx)
        | some p =>
          show cSe sN (E, S, k, rg0, w) (some t') t' [(3, t, 0)] = _
          unfold cSe
          rw [show toL sN (E, S, k, rg0, w).1.1 (some t') = none from hk]
          rfl
      rw [eX, q3, eM, if_neg (by decide), flt_one, fv_3, q6]
      show _ ↔ flt sN T V [(27, t', t)] E
      rw [flt_one, fv_27]
      exact ⟨fun z => z.elim (fun z => Or.inr ⟨hk, z⟩) (fun z => Or.inl ⟨z, Or.inl hk⟩), fun z => z.elim (fun z => Or.inr z.1) (fun z => Or.inl z.2)⟩
    · refine ⟨n, M1, q3, ?_, fun nx hE S k w => ?_⟩
      rotate_left
      · rw [q4]
        show cds sN K ([(25, t', 0)] ++ ((M1 ++ [(54, 0, 0)]) ++ [(76, t, 0)])) (E, S, k, rg0, w) = _
        rw [cds_app, cds_one, cd_25, cds_app, cds_x (vV_sE q3) hE, cds_one, cd_76]
        unfold cSe
        rw [show toL sN (E, S, k, (([], [] ++ [M1], 0, false, some t', t') : gRg), w).1.1 (some t') = none from hk]
        rfl
      rw [eX, q4]
      show _ ↔ flt sN T V ([(25, t', 0)] ++ ((M1 ++ [(54, 0, 0)]) ++ [(76, t, 0)])) E
      rw [flt_app, flt_one, fv_25, exs_one, exV_still (w25 25 rfl), flt_end rfl, flt_sum]
      exact ⟨fun z => z.imp (fun z => ⟨hk, z⟩) id, fun z => z.imp (fun z => z.2) id⟩
    · rw [q1] at c; exact absurd c (by decide)
    · rcases q1 with ⟨q1, _⟩ | ⟨q1, _⟩ <;> (rw [q1] at c; exact absurd c (by decide))
    · rw [q1] at c; exact absurd c (by decide)
  have rv' : vp_in r 3000 := by rw [vp_in_iff]; have := v.1; omega
  have R : ∀ (y : gd) (slot : Int32) (Y : Prop), md [41, 42] [] x y → WB y → LX x y Y → (Y ∨ flt sN T V M0 E ↔ X) → 0 ≤ slot.toInt → slot.toInt < 8 → (∀ z, RQ sN T V K y z E M0 slot → CQ sN T V K x z E N) → MT G (D + 3) z_layR 0 [(0, vr 0), (1, vi r), (2, vi slot), (3, vi s)] [] y (rv (fun z => rv Fv none z)) := by
    intro y slot Y m wy lx hY h1 h2 hcq
    have lf := LF_wr m wy
    have mm : md pL pA x y := md_w m (by decide) (by decide)
    have e49 : y.1 0 49 = x.1 0 49 := m.1 49 (by decide)
    have e52 : y.1 0 52 = x.1 0 52 := m.1 52 (by decide)
    refine sf_layR r slot s (a := a) (M0 := M0) (by omega) (PL_up p lf mm) (vR_NK ⟨(NN_LF lf).1, fun c h1 h2 j hj => (NN_LF lf).2 c h1 (by omega) j hj⟩ v) (vRs_NF (NF_LF lf) vs0) (KEn_md mm (by decide) (by decide) (by decide) ke) (CT_md mm (by decide) rfl ct) h1 h2 hs (by rw [m.2.1 19 (by decide) (by decide)]; exact hs2) (by rw [e49]; exact hw) (by rw [e52]; exact hn) (fun z q mz lx2 rq => rv_i (h z ?_ (md_tr mm mz rfl rfl) (LX_eq (LX_tr lx lx2) hY) (hcq z rq)))
    exact LQ_mono (by omega) (by omega) (LQ_tr (LQ_0 lf) q)
  have ve : x.1 15 r.toNatClampNeg = 10 → vE x a a 17 (x.1 16 r.toNatClampNeg) := by
    intro c
    rcases v.2.2 with q | q | ⟨q, _⟩ | ⟨q, _⟩
    · exact q.2
    · rw [c] at q; exact absurd q.1 (by decide)
    · rw [c] at q; exact absurd q (by decide)
    · rw [c] at q; exact absurd q (by decide)
  have pv : x.1 15 r.toNatClampNeg = 10 → vp_in (x.1 16 r.toNatClampNeg) 3000 ∧ vp_in (x.1 19 (x.1 16 r.toNatClampNeg).toNatClampNeg) 710 := by
    intro c
    have q := ve c
    cases a with
    | zero => exact q.elim
    | succ a => exact ⟨by rw [vp_in_iff]; have := q.1; omega, q.2.2.2.1⟩
  have p158 : ∀ (y : gd) (n e : Int32), LF x y 0 (a + 1) → md pL pA x y → LX x y X → 0 ≤ n.toInt → n.toInt < 24 → wo y 0 e → (¬ X → ¬ E.2.1 = [] → n.toInt = nmT sN 0 t' T ∧ ∃ M1, SUm y e (nPs sN T V K E.1 M1) ∧ ∀ S k w, cds sN K N (E, S, k, rg0, w) = (E, S ++ [(1, t', knw E, none, some t', false, none, some M1, none)], k, rg0, w)) → MT G (D + 4) z_laySet 158 [(0, vr 0), (1, vi s), (5, vi e)] [vi n, vi 1, vr 0] y (rv Fv) := by
    intro y n e lf m lx n1 n2 q hcd
    have e52 : (y.1 0 52).toInt = (x.1 0 52).toInt := by have := lf.2.2.1; have := lf.2.2.2.1; omega
    have sn : vp_in (y.1 0 52) 1500 := by rw [vp_in_iff]; omega
    refine sg_laySet_158 _ _ _ _ (sf_layAct _ _ _ sn (KEn_md m (by decide) (by decide) (by decide) ke) (Or.inr ⟨hs, by rw [m.2.1 19 (by decide) (by decide)]; exact hs2⟩) (LB_md m rfl rfl lb).1 (fun z hz hzm => ⟨sn, fun z2 e2 => ?_⟩))
    have st := stp_59 (stp_a hz) e2
    refine rv_i (h z2 (LQ_mono (by omega) (by omega) (LQ_tr (LQ_0 lf) (LQ_stp st lf.2.1 (by omega) (by omega) (Or.inl rfl) q (Or.inl rfl) (by decide) (Or.inr (Or.inr (Or.inr (Or.inr (Or.inr ⟨rfl, Or.inl rfl, Or.inl ⟨by decide, by decide, n1, n2, by decide, Or.inl rfl⟩⟩)))))))) (md_tr m st.1 rfl rfl) (LX_md lx st.1 (by decide)) (fun nf hE S k w hS => ?_))
    rw [← eX] at nf
    obtain ⟨hnn, M1, hsu, hcds⟩ := hcd nf hE
    refine ⟨_, by rw [hcds, exs_still sN0], SR_snoc (st := (1, t', knw E, none, some t', false, none, some M1, none)) hS lf st hn (by rw [e2, si_cell (by decide)]; exact hzm) rfl (fun _ => rfl) (i32_of hnn) rfl rfl hsu rfl rfl, xtS_sn⟩
  have p107 : ∀ (y : gd) (c : Int32), md [41, 42] [] x y → WB y → LX x y (¬ plc sN T t') → kfi sN E.1 t' = none → (¬ x.1 15 r.toNatClampNeg = 10 → ¬ plc sN T t') → cN x c → (c = -1 → X) → (¬ c = -1 → (x.1 32 c.toNatClampNeg).toInt = nmT sN 0 t' T) → MT G (D + 4) z_laySet 107 [(0, vr 0), (1, vi s), (3, vi r), (4, vi c)] [] y (rv Fv) := by
    intro y c m wy lx hk hpl cn hcx hcn
    have lf := LF_wr m wy
    have mm : md pL pA x y := md_w m (by decide) (by decide)
    have e49 : y.1 0 49 = x.1 0 49 := m.1 49 (by decide)
    refine sg_laySet_107 _ _ _ ⟨rv', fun c2 => ⟨rv', ?_⟩, fun c2 => R y 0 _ m wy lx ?_ (by decide) (by decide) (fun z _ => cqX z (hno hk (by rw [← m.2.1 15 (by decide) (by decide)]; exact c2)))⟩
    rotate_left
    · rw [m.2.1 15 (by decide) (by decide)] at c2
      exact ⟨fun _ => hno hk c2, fun _ => Or.inl (hpl c2)⟩
    rw [m.2.1 15 (by decide) (by decide)] at c2
    rw [m.2.1 16 (by decide) (by decide)]
    obtain ⟨y1, y2, y3, y4, y5, y6, y7⟩ := PL_up p lf mm
    obtain ⟨n1, M1, vv1, hX1, hcd1⟩ := hsum hk c2
    refine sf_workOf 0 (n := a) (s := a) (M := M1) (by omega) (Or.inr ⟨vE_LF lf (ve c2), n1, vV_NF (NF_LF lf) vv1⟩) y4 y1 y2 (fun _ => KEn_md mm (by decide) (by decide) (by decide) ke) (CT_md mm (by decide) rfl ct) y5 (by rw [e49]; omega) (fun r2 z lw _ lx2 su2 _ => ?_)
    have hsu := fun nx : ¬ X => su2 (fun q => by have z := ve c2; rw [q] at z; exact absurd (vE_pos z) (by decide)) (fun q => nx (hX1.mp (Or.inr q)))
    have lx3 : LX x z X := LX_eq (LX_tr lx lx2) hX1
    have lf2 := LF_tr lf (LF_wk lw)
    have m2 : md pL pA x z := md_tr mm (LW_md lw) rfl rfl
    rw [show 0 + (a + 1) = a + 1 by omega] at lf2
    refine ⟨fun c3 => ?_, fun c3 => p158 z 0 _ lf2 m2 lx3 (by decide) (by decide) lw.2.2.2.2.2 (fun nx => absurd (hcx c3) nx)⟩
    obtain ⟨b1, b2, b3, b4⟩ := cN_v lb lf2 cn c3
    exact ⟨b1, p158 z _ _ lf2 m2 lx3 b2 (by omega) lw.2.2.2.2.2 (fun nx hE => ⟨by rw [m2.2.1 32 (by decide) (by decide)]; exact hcn c3, M1, hsu nx, hcd1 nx hE⟩)⟩
  have p87 : ∀ y : gd, md [41, 42] [] x y → WB y → X → MT G (D + 4) z_laySet 87 [(0, vr 0), (1, vi s), (3, vi r)] [] y (rv Fv) := by
    intro y m wy hX
    exact sg_laySet_87 _ _ ⟨rv', sf_wrongAt _ _ (by decide) (by rw [m.2.1 19 (by decide) (by decide)]; exact v.2.1) (LB_md m rfl rfl lb).1 wy (fun z mz wz gz => R z 0 True (md_tr m mz rfl rfl) wz (LX_yes trivial gz) ⟨fun _ => hX, fun _ => Or.inl trivial⟩ (by decide) (by decide) (fun w _ => cqX w hX))⟩
  refine sg_laySet_0 _ ⟨hs, sf_slotOf _ ha lb.1 ke (fun sl hsl => ⟨hs, fun c => ⟨hs, ?_⟩, fun c => ?_⟩)⟩
  · rw [← er]
    rw [esm, ← et'] at hsl
    have hk : kfi sN E.1 t' = none := by
      rcases hsl with ⟨_, q⟩ | ⟨q, _⟩
      · exact q
      · rw [c] at q; exact absurd q.1 (by decide)
    refine sf_cellOf _ _ (Or.inl rfl) ha lb wb tr (fun c2 y m wy hc lx hc2 hcn0 => ?_)
    rw [esm, ← et'] at hc2 hcn0
    have hcn : ¬ c2 = -1 → (x.1 32 c2.toNatClampNeg).toInt = nmT sN 0 t' T := fun q => (hcn0 q).1
    have hc3 : c2 = -1 ↔ ¬ plc sN T t' := by
      rw [hc2]
      exact ⟨fun z => z.1 rfl, fun z => ⟨fun _ => z, fun q => absurd q (by decide)⟩⟩
    have lx2 : LX x y (¬ plc sN T t') := LX_eq lx hc3
    have hcx : c2 = -1 → X := fun q => by
      by_cases c10 : x.1 15 r.toNatClampNeg = 10
      · obtain ⟨_, _, _, hX1, _⟩ := hsum hk c10
        exact hX1.mp (Or.inl (hc3.mp q))
      · exact hno hk c10
    have cn : cN x c2 := hc.imp id (fun q => ⟨q.1, q.2.1⟩)
    have e15 : y.1 15 = x.1 15 := m.2.1 15 (by decide) (by decide)
    have e16 : y.1 16 = x.1 16 := m.2.1 16 (by decide) (by decide)
    have e19 : y.1 19 = x.1 19 := m.2.1 19 (by decide) (by decide)
    refine ⟨fun z => p107 y c2 m wy lx2 hk (fun _ => hc3.mp z) cn hcx hcn, fun _ => ⟨rv', fun c3 => p87 y m wy (hno hk (by rw [← e15]; exact c3)), fun c3 => ?_⟩⟩
    rw [e15] at c3
    have pv3 := pv c3
    have ky : KEn y E := KEn_md m (by decide) (by decide) (by decide) ke
    have cy : CT sN T V K y := CT_md m (by decide) rfl ct
    refine sf_isCellAlone _ rv' (fun _ => by rw [e16, e19]; exact pv3) (LB_md m rfl rfl lb).1 ky (fun _ => ⟨fun _ => p107 y c2 m wy lx2 hk (fun q => absurd c3 q) cn hcx hcn, fun q => absurd rfl q⟩) (fun _ a3 a4 => ⟨fun q => absurd q (by decide), fun _ => ⟨rv', by rw [e16]; exact pv3.1, ?_⟩⟩)
    rw [cy.1, e16, e19] at a4
    rw [e15, e16] at a3
    exact sf_isCellName _ (by rw [e16, e19]; exact pv3.2) (LB_md m rfl rfl lb) cy.2.2.1 (fun r18 _ => ⟨fun _ => p107 y c2 m wy lx2 hk (fun q => absurd c3 q) cn hcx hcn, fun _ => p87 y m wy (hal hk c3 a3 a4)⟩)
  · rw [← er]
    rw [esm, ← et'] at hsl
    have hk : ¬ kfi sN E.1 t' = none := by
      rcases hsl with ⟨q, _⟩ | ⟨_, p, q, _⟩
      · exact absurd q c
      · rw [q]; simp
    have b := (hsl.resolve_left (fun q => c q.1)).1
    obtain ⟨-, p9, hp9, esl⟩ := hsl.resolve_left (fun q => c q.1)
    exact R x sl False (md_w (md_rf x) (by decide) (by decide)) wb (LX_no id) (by rw [false_or]; exact hloc hk) b.1 b.2 (fun z rq => cqR x z sl p9 (LF_wr (md_w (md_rf x) (by decide) (by decide)) wb) hp9 (by rw [esl]; exact KL_slt ke.2.2 (kfi_lt hp9)) rq (fun nx q => nx ((hloc hk).mp q)))
end LWF
end
section
/-! laying statements and blocks -/
def QL (x x' : gd) (s c : Nat) : Prop := LQ x x' s (2 * s) ∧ KS x' ∧ (x.1 0 43).toInt ≤ (x'.1 0 43).toInt ∧ (x.1 0 48).toInt ≤ (x'.1 0 48).toInt ∧ (x'.1 0 48).toInt ≤ (x.1 0 48).toInt + c
def QLB (x x' : gd) (s c : Nat) : Prop := LQ x x' (s - 2) (2 * s) ∧ KS x' ∧ x'.1 0 43 = x.1 0 43 ∧ (x.1 0 48).toInt ≤ (x'.1 0 48).toInt ∧ (x'.1 0 48).toInt ≤ (x.1 0 48).toInt + c
theorem QL_tr {x y z : gd} {s s' c c' : Nat} (a : QL x y s c) (b : QL y z s' c') : QL x z (s + s') (c + c') := by
  obtain ⟨a1, a2, a3, a4, a5⟩ := a
  obtain ⟨b1, b2, b3, b4, b5⟩ := b
  exact ⟨LQ_mono (by omega) (by omega) (LQ_tr a1 b1), b2, by omega, by omega, by omega⟩
theorem vS_LF {x y : gd} {n w : Nat} (f : LF x y n w) {m : Int} {k s c : Nat} {e : Int32} (q : vS x m k s c e) : vS y m k s c e := vS_keep (Int.le_refl _) (NN_NL m e.toInt (NN_LF f)) k s c e (Int.le_refl _) q
theorem ln_LF {x y : gd} {n w : Nat} (f : LF x y n w) {L : List (Int32 × Nat × Nat)} {e : Int32} (q : ln x e L) : ln y e L := by
  have nn := NN_LF f
  refine ln_keep (m := 0) (l := (x.1 0 13).toInt) (NN_NL 0 _ nn) L e (fun z hz => ?_) q
  exact ln_mem L e q z hz
theorem vB_LF {x y : gd} {n w : Nat} (f : LF x y n w) {m : Int} {k s c : Nat} {e : Int32} (q : vB x m (vS x m k) s c e) : vB y m (vS y m k) s c e := vB_keep (Int.le_refl _) (NN_NL m e.toInt (NN_LF f)) (fun _ _ _ he g => vS_keep (Int.le_refl _) (NN_NL m e.toInt (NN_LF f)) _ _ _ _ he g) (Int.le_refl _) q
/-- a statement of one step -/
theorem QL_1 {x z : gd} {s c w : Nat} (q : LQ x z 1 w) (m : md pL pA x z) (ks : KS x) (hw : w ≤ 2 * s) (hs : 2 ≤ s) : QL x z s c := by
  have e43 : z.1 0 43 = x.1 0 43 := m.1 43 (by decide)
  have e48 : z.1 0 48 = x.1 0 48 := m.1 48 (by decide)
  exact ⟨LQ_mono (by omega) hw q, KS_md m (by decide) (by decide) (by decide) (by decide) ks, by rw [e43]; omega, by rw [e48]; omega, by rw [e48]; omega⟩
end
section
/-! what statements leave known, and laying a block -/
def sufE (E E' : gV) : Prop := (∃ new, E'.1 = new ++ E.1) ∧ E'.2.1 = E.2.1
theorem sufE_rf {E : gV} : sufE E E := ⟨⟨[], rfl⟩, rfl⟩
theorem sufE_tr {E E' E2 : gV} (a : sufE E E') (b : sufE E' E2) : sufE E E2 := by
  obtain ⟨⟨n, a1⟩, a2⟩ := a
  obtain ⟨⟨m, b1⟩, b2⟩ := b
  exact ⟨⟨m ++ n, by rw [b1, a1, List.append_assoc]⟩, by rw [b2, a2]⟩
/-- a row of uses behind which the same locals are known -/
def nl (L : gU) : Prop := ∀ E : gV, (exs L E).1 = E.1 ∧ (exs L E).2.1 = E.2.1
theorem nl_still {L : gU} (h : still L) : nl L := fun E => by rw [exs_still h]; exact ⟨rfl, rfl⟩
theorem nl_app {L M : gU} (h : nl L) (g : nl M) : nl (L ++ M) := fun E => by
  rw [exs_app]
  exact ⟨(g _).1.trans (h E).1, (g _).2.trans (h E).2⟩
theorem nl_suf {L : gU} (h : nl L) (E : gV) : sufE E (exs L E) := ⟨⟨[], by rw [(h E).1]; rfl⟩, (h E).2⟩
theorem wB_mid {x : gd} {m : Int} {V : Int32 → gU → Prop} (hV : ∀ e M, V e M → ∀ E, sufE E (exs M E)) : ∀ R : gR, (∀ q ∈ R, V q.1.1 q.2) → ∀ E, sufE E (exs (R.flatMap Prod.snd) E) := by
  intro R
  induction R with
  | nil => intro _ E; exact sufE_rf
  | cons a r ih =>
    intro h E
    show sufE E (exs (a.2 ++ r.flatMap Prod.snd) E)
    rw [exs_app]
    exact sufE_tr (hV _ _ (h a List.mem_cons_self) E) (ih (fun q hq => h q (List.mem_cons_of_mem _ hq)) _)
theorem ex_20 {E : gV} {z : Nat} : exV E (20, z, 0) = (E.1, E.1.length :: E.2.1, E.2.2) := rfl
theorem ex_21 {E : gV} {z : Nat} : exV E (21, z, 0) = (E.1.drop (E.1.length - E.2.1.headD 0), E.2.1.tail, E.2.2) := rfl
theorem ex_close {E E2 : gV} {z : Nat} (h : sufE (exV E (20, z, 0)) E2) : exV E2 (21, z, 0) = (E.1, E.2.1, E2.2.2) := by
  obtain ⟨⟨n, h1⟩, h2⟩ := h
  rw [ex_20] at h1 h2
  have h1 : E2.1 = n ++ E.1 := h1
  have h2 : E2.2.1 = E.1.length :: E.2.1 := h2
  rw [ex_21, h1, h2]
  show ((n ++ E.1).drop ((n ++ E.1).length - E.1.length), E.2.1, E2.2.2) = _
  rw [List.length_append, Nat.add_sub_cancel, List.drop_left]
theorem wB_nl {x : gd} {m : Int} {V : Int32 → gU → Prop} {z : Nat} {e : Int32} {M : gU} (hV : ∀ e M, V e M → ∀ E, sufE E (exs M E)) (h : wB x m V z e M) : nl M := by
  obtain ⟨-, -, R, -, h5, rfl⟩ := h
  intro E
  rw [exs_app, exs_app, exs_one, exs_one, ex_close (wB_mid (x := x) (m := m) hV R (fun q hq => (h5 q hq).1) (exV E (20, z, 0)))]
  exact ⟨rfl, rfl⟩
section WDS
variable {x : gd} {m : Int} {V : Int32 → gU → Prop} {i : Nat} {w a b d e : Int32} {M : gU}
theorem wD_20 (h : w = 20) (q : wD x m V i w a b d e M) : ∃ N, vRs x b none N ∧ M = [(23, a.toNatClampNeg, 0)] ++ (N ++ [(22, a.toNatClampNeg, i)]) := by
  rw [h] at q
  unfold wD at q
  rcases q with ⟨g, q⟩ | ⟨g, q⟩ | ⟨g, q⟩ | ⟨g, q⟩ | ⟨g, q⟩ | ⟨g, q⟩ | ⟨g, q⟩ | ⟨g, q⟩ | ⟨g, q⟩ | ⟨g, q⟩ | ⟨g, q⟩
  all_goals first | exact absurd g (by decide) | exact q
theorem wD_21 (h : w = 21) (q : wD x m V i w a b d e M) : a.toNatClampNeg = i ∧ ∃ N, vRs x b (some i) N ∧ M = N ++ [(77, i, 0)] := by
  rw [h] at q
  unfold wD at q
  rcases q with ⟨g, q⟩ | ⟨g, q⟩ | ⟨g, q⟩ | ⟨g, q⟩ | ⟨g, q⟩ | ⟨g, q⟩ | ⟨g, q⟩ | ⟨g, q⟩ | ⟨g, q⟩ | ⟨g, q⟩ | ⟨g, q⟩
  all_goals first | exact absurd g (by decide) | exact q
theorem wD_22 (h : w = 22) (q : wD x m V i w a b d e M) : a.toNatClampNeg = i ∧ ∃ n1 n2 N1 N2, vV x false n1 b N1 ∧ vV x false n2 d N2 ∧ M = [(7, i, 0)] ++ ((N1 ++ [(54, 0, 0)]) ++ ((N2 ++ [(54, 0, 0)]) ++ [(78, i, 0)])) := by
  rw [h] at q
  unfold wD at q
  rcases q with ⟨g, q⟩ | ⟨g, q⟩ | ⟨g, q⟩ | ⟨g, q⟩ | ⟨g, q⟩ | ⟨g, q⟩ | ⟨g, q⟩ | ⟨g, q⟩ | ⟨g, q⟩ | ⟨g, q⟩ | ⟨g, q⟩
  all_goals first | exact absurd g (by decide) | exact q
theorem wD_23 (h : w = 23) (q : wD x m V i w a b d e M) : ∃ n1 N1 N2 N3, vV x false n1 a N1 ∧ wB x m V 3 b N2 ∧ b.toInt < e.toInt ∧ ((d = -1 ∧ N3 = []) ∨ (d.toInt < e.toInt ∧ 0 ≤ d.toInt ∧ ∃ j N4, N3 = [(62, j, 0)] ++ N4 ∧ (wB x m V 4 d N4 ∨ (¬ x.1 15 d.toNatClampNeg = 32 ∧ V d N4 ∧ ∃ N5, N4 = N5 ++ [(63, 0, 0)])))) ∧ M = (N1 ++ [(54, 0, 0)]) ++ ([(60, i, 0)] ++ (N2 ++ (N3 ++ [(63, 0, 0)]))) := by
  rw [h] at q
  unfold wD at q
  rcases q with ⟨g, q⟩ | ⟨g, q⟩ | ⟨g, q⟩ | ⟨g, q⟩ | ⟨g, q⟩ | ⟨g, q⟩ | ⟨g, q⟩ | ⟨g, q⟩ | ⟨g, q⟩ | ⟨g, q⟩ | ⟨g, q⟩
  all_goals first | exact absurd g (by decide) | exact q
theorem wD_24 (h : w = 24) (q : wD x m V i w a b d e M) : ∃ n1 N1 N2, vV x false n1 a N1 ∧ wB x m V 1 b N2 ∧ b.toInt < e.toInt ∧ M = (N1 ++ [(54, 0, 0)]) ++ ([(61, i, 0)] ++ N2) := by
  rw [h] at q
  unfold wD at q
  rcases q with ⟨g, q⟩ | ⟨g, q⟩ | ⟨g, q⟩ | ⟨g, q⟩ | ⟨g, q⟩ | ⟨g, q⟩ | ⟨g, q⟩ | ⟨g, q⟩ | ⟨g, q⟩ | ⟨g, q⟩ | ⟨g, q⟩
  all_goals first | exact absurd g (by decide) | exact q
theorem wD_25 (h : w = 25) (q : wD x m V i w a b d e M) : ∃ N2, wB x m V 2 b N2 ∧ b.toInt < e.toInt ∧ M = [(65, i, a.toNatClampNeg)] ++ N2 := by
  rw [h] at q
  unfold wD at q
  rcases q with ⟨g, q⟩ | ⟨g, q⟩ | ⟨g, q⟩ | ⟨g, q⟩ | ⟨g, q⟩ | ⟨g, q⟩ | ⟨g, q⟩ | ⟨g, q⟩ | ⟨g, q⟩ | ⟨g, q⟩ | ⟨g, q⟩
  all_goals first | exact absurd g (by decide) | exact q
theorem wD_26 (h : w = 26) (q : wD x m V i w a b d e M) : a = x.1 5 i ∧ ((¬ (a = 33 ∨ a = 25) ∧ M = [(66, i, b.toNatClampNeg)]) ∨ ((a = 33 ∨ a = 25) ∧ M = [(67, i, b.toNatClampNeg)])) := by
  rw [h] at q
  unfold wD at q
  rcases q with ⟨g, q⟩ | ⟨g, q⟩ | ⟨g, q⟩ | ⟨g, q⟩ | ⟨g, q⟩ | ⟨g, q⟩ | ⟨g, q⟩ | ⟨g, q⟩ | ⟨g, q⟩ | ⟨g, q⟩ | ⟨g, q⟩
  all_goals first | exact absurd g (by decide) | exact q
theorem wD_27 (h : w = 27) (q : wD x m V i w a b d e M) : (a = x.1 5 i ∧ (a = 20 ∨ a = 31)) ∧ M = [(68, i, 0)] := by
  rw [h] at q
  unfold wD at q
  rcases q with ⟨g, q⟩ | ⟨g, q⟩ | ⟨g, q⟩ | ⟨g, q⟩ | ⟨g, q⟩ | ⟨g, q⟩ | ⟨g, q⟩ | ⟨g, q⟩ | ⟨g, q⟩ | ⟨g, q⟩ | ⟨g, q⟩
  all_goals first | exact absurd g (by decide) | exact q
theorem wD_29 (h : w = 29) (q : wD x m V i w a b d e M) : ∃ n1 N1, vV x false n1 b N1 ∧ M = (N1 ++ [(54, 0, 0)]) ++ [(70, i, a.toNatClampNeg)] := by
  rw [h] at q
  unfold wD at q
  rcases q with ⟨g, q⟩ | ⟨g, q⟩ | ⟨g, q⟩ | ⟨g, q⟩ | ⟨g, q⟩ | ⟨g, q⟩ | ⟨g, q⟩ | ⟨g, q⟩ | ⟨g, q⟩ | ⟨g, q⟩ | ⟨g, q⟩
  all_goals first | exact absurd g (by decide) | exact q
/-- only an if's uses end so -/
theorem wD_63 {N : gU} (q : wD x m V i w a b d e (N ++ [(63, 0, 0)])) : w = 23 := by
  have key : ∀ {L : gU} {v : Nat × Nat × Nat}, N ++ [(63, 0, 0)] = L ++ [v] → (63, 0, 0) = v := fun e => by
    have := List.append_inj_right' e rfl
    simpa using this
  have no : ∀ {L : gU} {k p r : Nat}, ¬ 63 = k → N ++ [(63, 0, 0)] = L ++ [(k, p, r)] → w = 23 := fun hk e => absurd (congrArg Prod.fst (key e)) hk
  have wb : ∀ {z : Nat} {e' : Int32} {N2 : gU}, wB x m V z e' N2 → ∃ L, N2 = L ++ [(21, z, 0)] := fun h => by
    obtain ⟨-, -, R, -, -, h⟩ := h
    exact ⟨_, by rw [h, ← List.append_assoc]⟩
  unfold wD at q
  rcases q with ⟨g, N1, _, q⟩ | ⟨g, _, N1, _, q⟩ | ⟨g, _, _, _, N1, N2, _, _, q⟩ | ⟨g, _⟩ | ⟨g, _, N1, N2, _, q1, _, q⟩ | ⟨g, N2, q1, _, q⟩ | ⟨g, _, ⟨_, q⟩ | ⟨_, q⟩⟩ | ⟨g, _, q⟩ | ⟨g, _, _, N1, _, q⟩ | ⟨g, _, N1, _, q⟩ | ⟨g, _, q⟩
  · exact no (k := 22) (by decide) (q.trans (List.append_assoc _ _ _).symm)
  · exact no (k := 77) (by decide) q
  · exact no (k := 78) (p := i) (r := 0) (L := ([(7, i, 0)] ++ ((N1 ++ [(54, 0, 0)]) ++ (N2 ++ [(54, 0, 0)])))) (by decide) (q.trans (by simp only [List.append_assoc]))
  · exact g
  · obtain ⟨L, e1⟩ := wb q1
    exact no (k := 21) (p := 1) (r := 0) (L := ((N1 ++ [(54, 0, 0)]) ++ ([(61, i, 0)] ++ L))) (by decide) (q.trans (by rw [e1]; simp only [List.append_assoc]))
  · obtain ⟨L, e1⟩ := wb q1
    exact no (k := 21) (p := 2) (r := 0) (L := [(65, i, a.toNatClampNeg)] ++ L) (by decide) (q.trans (by rw [e1, List.append_assoc]))
  · exact no (k := 66) (L := []) (by decide) q
  · exact no (k := 67) (L := []) (by decide) q
  · exact no (k := 68) (L := []) (by decide) q
  · exact no (k := 69) (by decide) q
  · exact no (k := 70) (by decide) q
  · exact no (k := 68) (L := []) (by decide) q
end WDS
theorem wS_env {x : gd} {m : Int} : ∀ (k : Nat) (e : Int32) (M : gU), wSt x m k e M → (∀ E, sufE E (exs M E)) ∧ (¬ x.1 15 e.toNatClampNeg = 20 → nl M) := by
  intro k
  induction k with
  | zero => intro e M h; exact h.elim
  | succ k ih =>
    intro e M h
    obtain ⟨-, -, h⟩ := h
    have hV : ∀ e M, wSt x m k e M → ∀ E, sufE E (exs M E) := fun e M g => (ih e M g).1
    by_cases c20 : x.1 15 e.toNatClampNeg = 20
    · obtain ⟨N, h1, h2⟩ := wD_20 c20 h
      refine ⟨fun E => ?_, fun q => absurd c20 q⟩
      rw [h2, exs_app, exs_app, exs_still (E := E) (still_k (k := 23) (a := (x.1 16 e.toNatClampNeg).toNatClampNeg) (b := 0) rfl), exs_still (vRr_st h1.1), exs_one]
      exact ⟨⟨[((x.1 16 e.toNatClampNeg).toNatClampNeg, E.2.2)], rfl⟩, rfl⟩
    · have key : nl M := by
        unfold wD at h
        rcases h with ⟨g, _⟩ | ⟨g, _, N1, q1, q⟩ | ⟨g, _, _, _, N1, N2, q1, q2, q⟩ | ⟨g, n1, N1, N2, N3, q1, q2, _, q3, q⟩ | ⟨g, _, N1, N2, q1, q2, _, q⟩ | ⟨g, N2, q1, _, q⟩ | ⟨g, _, ⟨_, q⟩ | ⟨_, q⟩⟩ | ⟨g, _, q⟩ | ⟨g, _, _, N1, q1, q⟩ | ⟨g, _, N1, q1, q⟩ | ⟨g, _, q⟩
        · exact absurd g c20
        · rw [q]; exact nl_still (still_app (vRr_st q1.1) (still_k rfl))
        · rw [q]; exact nl_still (still_app (still_k rfl) (still_app (still_54 (vV_st q1)) (still_app (still_54 (vV_st q2)) (still_k rfl))))
        · rw [q]
          have n3 : nl N3 := by
            rcases q3 with ⟨_, q3⟩ | ⟨_, _, j, N4, q4, q5 | ⟨_, q5, N5, q6⟩⟩
            · rw [q3]; exact nl_still still_nil
            · rw [q4]; exact nl_app (nl_still (still_k rfl)) (wB_nl hV q5)
            · rw [q4]
              refine nl_app (nl_still (still_k rfl)) ((ih _ _ q5).2 (fun z => ?_))
              cases k with
              | zero => exact q5.elim
              | succ k =>
                rw [q6] at q5
                have := wD_63 q5.2.2
                rw [z] at this
                exact absurd this (by decide)
          exact nl_app (nl_still (still_54 (vV_st q1))) (nl_app (nl_still (still_k rfl)) (nl_app (wB_nl hV q2) (nl_app n3 (nl_still (still_k rfl)))))
        · rw [q]; exact nl_app (nl_still (still_54 (vV_st q1))) (nl_app (nl_still (still_k rfl)) (wB_nl hV q2))
        · rw [q]; exact nl_app (nl_still (still_k rfl)) (wB_nl hV q1)
        · rw [q]; exact nl_still (still_k rfl)
        · rw [q]; exact nl_still (still_k rfl)
        · rw [q]; exact nl_still (still_k rfl)
        · rw [q]; exact nl_still (still_app (still_54 (vV_st q1)) (still_k rfl))
        · rw [q]; exact nl_still (still_app (still_54 (vV_st q1)) (still_k rfl))
        · rw [q]; exact nl_still (still_k rfl)
      exact ⟨nl_suf key, fun _ => key⟩
/-! laying with what is known: XP before, XQ what it leaves -/
def XP (sN : Nat → Nat → Bool) (T : gTd) (V K : Nat → Int32) (x : gd) (E : gV) : Prop := KEn x E ∧ (x.1 0 48).toInt = E.2.2 ∧ CT sN T V K x ∧ (∀ p : Nat, p < E.1.length → (x.1 47 p).toInt ≤ (x.1 0 47).toInt) ∧ 0 ≤ (x.1 0 47).toInt
def XQ (sN : Nat → Nat → Bool) (T : gTd) (V K : Nat → Int32) (x x' : gd) (E : gV) (M : gU) (b : Int32) (s : Nat) : Prop := LX x x' (flt sN T V M E) ∧ XP sN T V K x' (exs M E) ∧ (∀ p : Nat, p < E.1.length → x'.1 47 p = x.1 47 p) ∧ (∀ p : Nat, E.1.length ≤ p → p < (exs M E).1.length → x'.1 47 p = b) ∧ (x.1 0 47).toInt ≤ (x'.1 0 47).toInt ∧ (x'.1 0 47).toInt ≤ (x.1 0 47).toInt + s
section XQS
variable {sN : Nat → Nat → Bool} {T : gTd} {V K : Nat → Int32} {x y z : gd} {E : gV} {M N : gU} {b : Int32} {s s' : Nat}
theorem XP_md {L A : List Nat} (h : md L A x y) (hL : [28, 43, 47, 48].all (fun k => !L.elem k) = true) (hA : [2, 5, 6, 7, 8, 30, 31, 32, 33, 34, 35, 45, 46, 47].all (fun k => !A.elem k) = true) (q : XP sN T V K x E) : XP sN T V K y E := by
  have f := fun k hk => h.1 k (all_no' hL k hk)
  have g := fun k (h0 : k ≠ 0) hk => h.2.1 k h0 (all_no' hA k hk)
  have hA2 : [2, 5, 6, 7, 8, 30, 31, 32, 33, 34, 35].all (fun k => !A.elem k) = true := by
    rw [List.all_eq_true]
    intro k hk
    have hk2 : k ∈ [2, 5, 6, 7, 8, 30, 31, 32, 33, 34, 35, 45, 46, 47] := by
      simp only [List.mem_cons, List.not_mem_nil, or_false] at hk ⊢
      omega
    exact List.all_eq_true.mp hA k hk2
  obtain ⟨q1, q2, q3, q4, q5⟩ := q
  refine ⟨KEn_md h (all_no' hL 43 (by decide)) (all_no' hA 45 (by decide)) (all_no' hA 46 (by decide)) q1, by rw [f 48 (by decide)]; exact q2, CT_md h (all_no' hL 28 (by decide)) hA2 q3, fun p hp => ?_, by rw [f 47 (by decide)]; exact q5⟩
  rw [g 47 (by decide) (by decide), f 47 (by decide)]
  exact q4 p hp
/-- a statement of no block, no let -/
theorem XQ_md (h : md pL pA x y) (xp : XP sN T V K x E) (lx : LX x y (flt sN T V M E)) (st : still M) : XQ sN T V K x y E M b s := by
  have e47 : y.1 0 47 = x.1 0 47 := h.1 47 (by decide)
  refine ⟨lx, ?_, fun p _ => by rw [h.2.1 47 (by decide) (by decide)], fun p h1 h2 => ?_, by rw [e47]; omega, by rw [e47]; omega⟩
  · rw [exs_still st]
    exact XP_md h rfl rfl xp
  · rw [exs_still st] at h2; omega
theorem XQ_tr (a : XQ sN T V K x y E M b s) (c : XQ sN T V K y z (exs M E) N b s') (h : E.1.length ≤ (exs M E).1.length) : XQ sN T V K x z E (M ++ N) b (s + s') := by
  obtain ⟨a1, a2, a3, a4, a5, a6⟩ := a
  obtain ⟨c1, c2, c3, c4, c5, c6⟩ := c
  refine ⟨LX_eq (LX_tr a1 c1) flt_app.symm, by rw [exs_app]; exact c2, fun p hp => by rw [c3 p (by omega), a3 p hp], fun p h1 h2 => ?_, by omega, by omega⟩
  rw [exs_app] at h2
  by_cases q : p < (exs M E).1.length
  · rw [c3 p q]; exact a4 p h1 q
  · exact c4 p (by omega) h2
theorem XQ_eq {M' : gU} (a : XQ sN T V K x y E M b s) (h : M = M') (hs : s ≤ s') : XQ sN T V K x y E M' b s' := by
  subst h
  obtain ⟨a1, a2, a3, a4, a5, a6⟩ := a
  exact ⟨a1, a2, a3, a4, a5, by omega⟩
theorem XQ_b {b' : Int32} (a : XQ sN T V K x y E M b s) (h : nl M) : XQ sN T V K x y E M b' s := by
  obtain ⟨a1, a2, a3, a4, a5, a6⟩ := a
  refine ⟨a1, a2, a3, fun p h1 h2 => ?_, a5, a6⟩
  rw [(h E).1] at h2
  omega
/-- nothing but steps behind it -/
theorem XQ_to {L A : List Nat} (a : XQ sN T V K x y E M b s) (h : md L A y z) (hL : [28, 41, 43, 47, 48].all (fun k => !L.elem k) = true) (hA : [2, 5, 6, 7, 8, 30, 31, 32, 33, 34, 35, 45, 46, 47].all (fun k => !A.elem k) = true) : XQ sN T V K x z E M b s := by
  have hL2 : [28, 43, 47, 48].all (fun k => !L.elem k) = true := by
    rw [List.all_eq_true]
    intro k hk
    have hk2 : k ∈ [28, 41, 43, 47, 48] := by
      simp only [List.mem_cons, List.not_mem_nil, or_false] at hk ⊢
      omega
    exact List.all_eq_true.mp hL k hk2
  obtain ⟨a1, a2, a3, a4, a5, a6⟩ := a
  have e47 : z.1 0 47 = y.1 0 47 := h.1 47 (all_no' hL 47 (by decide))
  have g47 : z.1 47 = y.1 47 := h.2.1 47 (by decide) (all_no' hA 47 (by decide))
  exact ⟨LX_md a1 h (all_no' hL 41 (by decide)), XP_md h hL2 hA a2, fun p hp => by rw [g47]; exact a3 p hp, fun p h1 h2 => by rw [g47]; exact a4 p h1 h2, by rw [e47]; exact a5, by rw [e47]; exact a6⟩
end XQS
theorem KL_suf {x : gd} {ks : gK} : ∀ {new : gK}, KL x (new ++ ks) → KL x ks := by
  intro new
  induction new with
  | nil => intro h; exact h
  | cons a n ih => intro h; exact ih h.2
def SfLS (sN : Nat → Nat → Bool) (T : gTd) (V K : Nat → Int32) (k : Nat) : Prop := ∀ (G : mG) (D : Nat) (x : gd) (Fv : gd → Prop) (m : Int) (s c : Nat) (e blk : Int32) (M : gU) (E : gV), 2 * k + 710 ≤ D → s ≤ 700 → vS x m k s c e → wSt x m k e M → PL x → KS x → XP sN T V K x E → (x.1 15 e.toNatClampNeg = 20 → ∀ p : Nat, p < E.1.length → (x.1 47 p = blk ↔ E.2.1.headD 0 ≤ p)) → blk.toInt ≤ (x.1 0 47).toInt → (x.1 0 47).toInt + s ≤ 5000 → (x.1 0 48).toInt + c ≤ 8 → (x.1 0 49).toInt + 2 * s ≤ 5980 → (x.1 0 52).toInt + s ≤ 1499 → (∀ x', QL x x' s c → XQ sN T V K x x' E M blk s → CQ sN T V K x x' E M → Fv x') → MT G D z_layS 0 [(0, vr 0), (1, vi e), (2, vi blk)] [] x (rv Fv)
theorem wS_LF {x y : gd} {n w : Nat} (f : LF x y n w) {m : Int} {k : Nat} {e : Int32} {M : gU} (q : wSt x m k e M) : wSt y m k e M := wS_keep (Int.le_refl _) (l := e.toInt) ⟨NN_NL m e.toInt (NN_LF f), f.1.2.1 5 (by decide) (by decide), f.1.2.1 7 (by decide) (by decide)⟩ k e M (Int.le_refl _) q
theorem wB_LF {x y : gd} {n w : Nat} (f : LF x y n w) {m : Int} {k z : Nat} {e : Int32} {M : gU} (q : wB x m (wSt x m k) z e M) : wB y m (wSt y m k) z e M := wB_keep (Int.le_refl _) (l := e.toInt) ⟨NN_NL m e.toInt (NN_LF f), f.1.2.1 5 (by decide) (by decide), f.1.2.1 7 (by decide) (by decide)⟩ (fun _ _ he g => wS_keep (Int.le_refl _) (l := e.toInt) ⟨NN_NL m e.toInt (NN_LF f), f.1.2.1 5 (by decide) (by decide), f.1.2.1 7 (by decide) (by decide)⟩ _ _ _ he g) (Int.le_refl _) q
theorem sf_layBlock {sN : Nat → Nat → Bool} {T : gTd} {V K : Nat → Int32} (k : Nat) (ih : SfLS sN T V K k) {G : mG} {D : Nat} {x : gd} {Fv : gd → Prop} {m : Int} {s c z0 : Nat} {e : Int32} {M : gU} {E : gV} (hD : 2 * k + 711 ≤ D) (hs : s ≤ 700) (v : vB x m (vS x m k) s c e) (wv : wB x m (wSt x m k) z0 e M) (p : PL x) (ks : KS x) (xp : XP sN T V K x E) (hb2 : (x.1 0 47).toInt + s ≤ 5000) (hc : (x.1 0 48).toInt + c ≤ 8) (hw : (x.1 0 49).toInt + 2 * s ≤ 5980) (hn : (x.1 0 52).toInt + s ≤ 1499) (h : ∀ x', QLB x x' s c → (∀ b, XQ sN T V K x x' E M b s) → CB sN T V K x x' E z0 M → Fv x') : MT G D z_layBlock 0 [(0, vr 0), (1, vi e)] [] x (rv Fv) := by
  obtain ⟨D, rfl⟩ : ∃ D', D = D' + 1 := ⟨D - 1, by omega⟩
  obtain ⟨v1, v2, v3, L, v4, v5, v6, v7⟩ := v
  obtain ⟨-, -, R, w4, w5, eM⟩ := wv
  obtain ⟨ke, sl, ct, ids, bl0⟩ := id xp
  have k1 : (1 : Int32).toInt = 1 := rfl
  have ev : vp_in e 3000 := by rw [vp_in_iff]; have := p.2.2.2.1; omega
  have hV : ∀ e M, wSt x m k e M → ∀ E, sufE E (exs M E) := fun e M g => (wS_env k e M g).1
  obtain ⟨E1, eE1⟩ : ∃ E1, E1 = exV E (20, z0, 0) := ⟨_, rfl⟩
  have E1a : E1.1 = E.1 := by rw [eE1]; rfl
  have E1b : E1.2.1 = E.1.length :: E.2.1 := by rw [eE1]; rfl
  have E1c : E1.2.2 = E.2.2 := by rw [eE1]; rfl
  obtain ⟨b, eb⟩ : ∃ b, b = x.1 0 47 + 1 := ⟨_, rfl⟩
  have hb : b.toInt = (x.1 0 47).toInt + 1 := by rw [eb, t_add (by omega) (by omega), k1]
  have loop : ∀ (L : List (Int32 × Nat × Nat)) (R : gR) (y : gd) (e4 : Int32) (s1 c1 : Nat) (N : gU), QL x y s1 c1 → ln y e4 L → ln y e4 (R.map Prod.fst) → (∀ q ∈ L, vS y m k q.2.1 q.2.2 q.1) → (∀ q ∈ R, wSt y m k q.1.1 q.2) → s1 + sm (fun q => q.2.1) L + 2 ≤ s → c1 + sm (fun q => q.2.2) L ≤ c → LX x y (flt sN T V N E1) → XP sN T V K y (exs N E1) → sufE E1 (exs N E1) → (∀ q : Nat, q < E.1.length → y.1 47 q = x.1 47 q) → (∀ q : Nat, E.1.length ≤ q → q < (exs N E1).1.length → y.1 47 q = b) → b.toInt ≤ (y.1 0 47).toInt → (y.1 0 47).toInt ≤ b.toInt + s1 → M = [(20, z0, 0)] ++ ((N ++ R.flatMap Prod.snd) ++ [(21, z0, 0)]) → (¬ flt sN T V N E1 → ∀ S k w, SR sN T V K x S → ∃ S', cds sN K ([(20, z0, 0)] ++ N) (E, S, k, rg0, w) = (exs N E1, S', k, rg0, w) ∧ SR sN T V K y S' ∧ xtS S S') → MT G (D + 1) z_layBlock 28 [(0, vr 0), (2, vi (x.1 0 43)), (3, vi b), (4, vi e4)] [] y (rv Fv) := by
    intro L
    induction L with
    | nil =>
      intro R y e4 s1 c1 N q l l2 _ _ h1 h2 lx xy su f1 f2 f3 f4 eM cq
      have l : e4 = -1 := l
      have h1 : s1 + 0 + 2 ≤ s := h1
      have h2 : c1 + 0 ≤ c := h2
      have eR : R = [] := by
        cases R with
        | nil => rfl
        | cons a r => rw [l] at l2; exact absurd l2.2.1.1 (by decide)
      rw [eR] at eM
      have eM : M = [(20, z0, 0)] ++ (N ++ [(21, z0, 0)]) := by rw [eM]; simp
      refine sg_layBlock_28 _ _ _ ⟨fun _ z ez => rv_i (h z ?_ (fun b' => ?_) ?_), fun q => absurd l q⟩
      rotate_left 2
      · intro nf S k w hS
        have mz := md_f y 43 (x.1 0 43)
        rw [← ez] at mz
        have lfz := LF_fr (md_w mz (by decide) (by decide)) q.1.1.2.1
        have nf2 : ¬ flt sN T V N E1 := fun w => nf (by
          rw [eM, flt_app, flt_app, exs_one, ← eE1]
          exact Or.inr (Or.inl w))
        obtain ⟨S', e9, s9, x9⟩ := cq nf2 S k w hS
        refine ⟨S', ?_, SR_keep lfz s9, x9⟩
        rw [eM, ← List.append_assoc, cds_app, e9, cds_one, cd_21, exs_app, exs_app, exs_one, exs_one, ← eE1]
      · obtain ⟨q1, q2, q3, q4, q5⟩ := q
        have mz := md_f y 43 (x.1 0 43)
        rw [← ez] at mz
        have e43 : z.1 0 43 = x.1 0 43 := by rw [ez, si_get, if_pos ⟨rfl, rfl⟩]
        have e48 : z.1 0 48 = y.1 0 48 := mz.1 48 (by decide)
        have lf := LF_fr (md_w mz (by decide) (by decide)) q1.1.2.1
        refine ⟨LQ_mono (by omega) (by omega) (LQ_tr q1 (LQ_0 lf)), ?_, e43, by rw [e48]; exact q4, by rw [e48]; omega⟩
        obtain ⟨k1, k2, k3, k4⟩ := q2
        have := ks.1
        refine ⟨by rw [e43]; exact ks.1, by rw [e43, e48]; omega, by rw [e48]; exact k3, fun j hj => ?_⟩
        rw [e43] at hj
        rw [mz.2.1 45 (by decide) (by decide), mz.2.1 46 (by decide) (by decide)]
        exact k4 j (by omega)
      · have mz := md_f y 43 (x.1 0 43)
        rw [← ez] at mz
        have e43 : z.1 0 43 = x.1 0 43 := by rw [ez, si_get, if_pos ⟨rfl, rfl⟩]
        have ex : exs M E = (E.1, E.2.1, (exs N E1).2.2) := by
          rw [eM, exs_app, exs_app, exs_one, exs_one, ← eE1]
          exact ex_close (by rw [← eE1]; exact su)
        obtain ⟨x1, x2, x3, x4, x5⟩ := xy
        obtain ⟨⟨new, su1⟩, su2⟩ := id su
        rw [E1a] at su1
        have kl : KL z E.1 := KL_e (mz.2.1 45 (by decide) (by decide)) (mz.2.1 46 (by decide) (by decide)) (KL_suf (new := new) (by rw [← su1]; exact x1.2.2))
        have e47 : z.1 0 47 = y.1 0 47 := mz.1 47 (by decide)
        have g47 : z.1 47 = y.1 47 := mz.2.1 47 (by decide) (by decide)
        have hl : E.1.length ≤ (exs N E1).1.length := by rw [su1, List.length_append]; omega
        refine ⟨LX_md (LX_eq lx ?_) mz (by decide), ?_, fun p hp => by rw [g47]; exact f1 p hp, fun p h1 h2 => ?_, by rw [e47]; omega, by rw [e47]; omega⟩
        · rw [eM, flt_app, flt_app, exs_one, ← eE1]
          exact ⟨fun w => Or.inr (Or.inl w), fun w => w.elim (fun w => absurd w (flt_k rfl)) (fun w => w.elim id (fun w => absurd w (flt_k rfl)))⟩
        · rw [ex]
          refine ⟨⟨by rw [e43]; exact ke.1, ke.2.1, kl⟩, by rw [mz.1 48 (by decide)]; exact x2, CT_md mz (by decide) rfl x3, fun p hp => ?_, by rw [e47]; exact x5⟩
          rw [g47, e47]
          exact x4 p (by show p < _; have : p < E.1.length := hp; omega)
        · rw [ex] at h2
          exact absurd h2 (by show ¬ p < E.1.length; omega)
    | cons a r ih2 =>
      intro R y e4 s1 c1 N q l l2 vs ws h1 h2 lx xy su f1 f2 f3 f4 eM cq
      obtain ⟨l1, l2a, l3⟩ := l
      have h1 : s1 + (a.2.1 + sm (fun q => q.2.1) r) + 2 ≤ s := h1
      have h2 : c1 + (a.2.2 + sm (fun q => q.2.2) r) ≤ c := h2
      have nm : ¬ e4 = -1 := fun z => by rw [z] at l2a; exact absurd l2a.1 (by decide)
      cases R with
      | nil => exact absurd l2 nm
      | cons aR rR =>
        obtain ⟨l1R, -, l3R⟩ := l2
        have wa := ws aR List.mem_cons_self
        rw [← l1R] at wa
        have py := PL_LF p q.1.1 (KS_KB q.2.1)
        have a48 := q.2.2.2.2
        have a4 := q.1.1.2.2.2.1
        have a6 := q.1.1.2.2.2.2.2.1
        obtain ⟨⟨new, su1⟩, su2⟩ := id su
        rw [E1a] at su1
        rw [E1b] at su2
        refine sg_layBlock_28 _ _ _ ⟨fun z => absurd z nm, fun _ => ih G D y _ m a.2.1 a.2.2 e4 b aR.2 (exs N E1) (by omega) (by omega) (by rw [l1]; exact vs a List.mem_cons_self) wa py q.2.1 xy (fun _ t ht => ?_) f3 (by omega) (by omega) (by omega) (by omega) (fun z qz xq cqz => ⟨by rw [vp_in_iff]; have := py.2.2.2.1; omega, ?_⟩)⟩
        · rw [su2]
          show y.1 47 t = b ↔ E.1.length ≤ t
          by_cases ct : t < E.1.length
          · rw [f1 t ct]
            refine ⟨fun w => ?_, fun w => by omega⟩
            have := ids t ct
            rw [w] at this
            omega
          · exact ⟨fun _ => by omega, fun w => f2 t w ht⟩
        have lf := qz.1.1
        have e20 : z.1 20 = y.1 20 := lf.1.2.1 20 (by decide) (by decide)
        rw [e20]
        obtain ⟨xq1, xq2, xq3, xq4, xq5, xq6⟩ := xq
        have sua := (wS_env k e4 aR.2 wa).1 (exs N E1)
        have hl : E.1.length ≤ (exs N E1).1.length := by rw [su1, List.length_append]; omega
        refine ih2 rR z _ (s1 + a.2.1) (c1 + a.2.2) (N ++ aR.2) (QL_tr q qz) (ln_LF lf l3) (ln_LF lf l3R) (fun q hq => vS_LF lf (vs q (List.mem_cons_of_mem _ hq))) (fun q hq => wS_LF lf (ws q (List.mem_cons_of_mem _ hq))) (by omega) (by omega) (LX_eq (LX_tr lx xq1) flt_app.symm) (by rw [exs_app]; exact xq2) (by rw [exs_app]; exact sufE_tr su sua) (fun t ht => by rw [xq3 t (by omega)]; exact f1 t ht) (fun t t1 t2 => ?_) (by omega) (by omega) ?_ ?_
        · rw [exs_app] at t2
          by_cases ct : t < (exs N E1).1.length
          · rw [xq3 t ct]; exact f2 t t1 ct
          · exact xq4 t (by omega) t2
        rotate_left
        · intro nf S k w hS
          rw [flt_app] at nf
          obtain ⟨S1, e1, s1, x1⟩ := cq (fun q => nf (Or.inl q)) S k w hS
          obtain ⟨S2, e2, s2, x2⟩ := cqz (fun q => nf (Or.inr q)) (by rw [su2]; exact List.cons_ne_nil _ _) S1 k w s1
          exact ⟨S2, by rw [← List.append_assoc, cds_app, e1, e2, exs_app], s2, xtS_tr x1 x2⟩
        · rw [eM]
          show _ = [(20, z0, 0)] ++ (((N ++ aR.2) ++ rR.flatMap Prod.snd) ++ [(21, z0, 0)])
          show [(20, z0, 0)] ++ ((N ++ (aR.2 ++ rR.flatMap Prod.snd)) ++ [(21, z0, 0)]) = _
          simp only [List.append_assoc]
  refine sg_layBlock_0 _ (fun y ey => ⟨ev, ?_⟩)
  have my := md_f x 47 (x.1 0 47 + 1)
  rw [← ey] at my
  have lf := LF_fr (md_w my (by decide) (by decide)) p.2.1
  have e43 : y.1 0 43 = x.1 0 43 := my.1 43 (by decide)
  have e48 : y.1 0 48 = x.1 0 48 := my.1 48 (by decide)
  have y47 : y.1 0 47 = b := by rw [ey, si_get, if_pos ⟨rfl, rfl⟩, eb]
  rw [my.2.1 16 (by decide) (by decide), y47]
  have xy : XP sN T V K y E1 := by
    refine ⟨⟨by rw [E1a, e43]; exact ke.1, by rw [E1a]; exact ke.2.1, by rw [E1a]; exact KL_e (my.2.1 45 (by decide) (by decide)) (my.2.1 46 (by decide) (by decide)) ke.2.2⟩, by rw [E1c, e48]; exact sl, CT_md my (by decide) rfl ct, fun t ht => ?_, by rw [y47]; omega⟩
    rw [E1a] at ht
    rw [my.2.1 47 (by decide) (by decide), y47]
    have := ids t ht
    omega
  refine loop L R y _ 0 0 [] ⟨LQ_mono (by omega) (by omega) (LQ_0 lf), KS_md my (by decide) (by decide) (by decide) (by decide) ks, by rw [e43]; omega, by rw [e48]; omega, by rw [e48]; omega⟩ (ln_LF lf v4) (ln_LF lf w4) (fun q hq => vS_LF lf (v5 q hq).1) (fun q hq => wS_LF lf (w5 q hq).1) (by omega) (by omega) (LX_md (LX_no (fun w => w)) my (by decide)) xy sufE_rf (fun t _ => by rw [my.2.1 47 (by decide) (by decide)]) (fun t t1 t2 => ?_) (by rw [y47]; omega) (by rw [y47]; omega) ?_ (fun _ S k w hS => ⟨S, by rw [List.append_nil, cds_one, cd_20, ← eE1]; rfl, SR_keep lf hS, xtS_rf⟩)
  · rw [exs_nil, E1a] at t2; omega
  · rw [eM, List.nil_append]
end
section
theorem vD_20 {x : gd} {m : Int} {V : Nat → Nat → Int32 → Prop} {s c : Nat} {w a b d e : Int32} (h : w = 20) (q : vD x m V s c w a b d e) : vp_in a 710 ∧ 1 ≤ c ∧ vR x (s - 1) b := by
  rw [h] at q
  unfold vD at q
  rcases q with ⟨g, q⟩ | ⟨g, q⟩ | ⟨g, q⟩ | ⟨g, q⟩ | ⟨g, q⟩ | ⟨g, q⟩ | ⟨g, q⟩ | g | ⟨g, q⟩ | ⟨g, q⟩ | g
  all_goals first | exact absurd g (by decide) | exact q
theorem vD_21 {x : gd} {m : Int} {V : Nat → Nat → Int32 → Prop} {s c : Nat} {w a b d e : Int32} (h : w = 21) (q : vD x m V s c w a b d e) : vp_in a 710 ∧ vR x (s - 1) b := by
  rw [h] at q
  unfold vD at q
  rcases q with ⟨g, q⟩ | ⟨g, q⟩ | ⟨g, q⟩ | ⟨g, q⟩ | ⟨g, q⟩ | ⟨g, q⟩ | ⟨g, q⟩ | g | ⟨g, q⟩ | ⟨g, q⟩ | g
  all_goals first | exact absurd g (by decide) | exact q
theorem vD_22 {x : gd} {m : Int} {V : Nat → Nat → Int32 → Prop} {s c : Nat} {w a b d e : Int32} (h : w = 22) (q : vD x m V s c w a b d e) : vp_in a 710 ∧ ∃ i j : Nat, i + j + 1 ≤ s ∧ vE x i i 17 b ∧ vE x j j 17 d := by
  rw [h] at q
  unfold vD at q
  rcases q with ⟨g, q⟩ | ⟨g, q⟩ | ⟨g, q⟩ | ⟨g, q⟩ | ⟨g, q⟩ | ⟨g, q⟩ | ⟨g, q⟩ | g | ⟨g, q⟩ | ⟨g, q⟩ | g
  all_goals first | exact absurd g (by decide) | exact q
theorem vD_23 {x : gd} {m : Int} {V : Nat → Nat → Int32 → Prop} {s c : Nat} {w a b d e : Int32} (h : w = 23) (q : vD x m V s c w a b d e) : ∃ i j q c1 c2 : Nat, i + j + q + 1 ≤ s ∧ c1 + c2 ≤ c ∧ vE x i i 17 a ∧ vB x m V j c1 b ∧ b.toInt < e.toInt ∧ (d = -1 ∨ (d.toInt < e.toInt ∧ (vB x m V q c2 d ∨ V q c2 d))) := by
  rw [h] at q
  unfold vD at q
  rcases q with ⟨g, q⟩ | ⟨g, q⟩ | ⟨g, q⟩ | ⟨g, q⟩ | ⟨g, q⟩ | ⟨g, q⟩ | ⟨g, q⟩ | g | ⟨g, q⟩ | ⟨g, q⟩ | g
  all_goals first | exact absurd g (by decide) | exact q
theorem vD_24 {x : gd} {m : Int} {V : Nat → Nat → Int32 → Prop} {s c : Nat} {w a b d e : Int32} (h : w = 24) (q : vD x m V s c w a b d e) : ∃ i j : Nat, i + j + 1 ≤ s ∧ vE x i i 17 a ∧ vB x m V j c b ∧ b.toInt < e.toInt := by
  rw [h] at q
  unfold vD at q
  rcases q with ⟨g, q⟩ | ⟨g, q⟩ | ⟨g, q⟩ | ⟨g, q⟩ | ⟨g, q⟩ | ⟨g, q⟩ | ⟨g, q⟩ | g | ⟨g, q⟩ | ⟨g, q⟩ | g
  all_goals first | exact absurd g (by decide) | exact q
theorem vD_25 {x : gd} {m : Int} {V : Nat → Nat → Int32 → Prop} {s c : Nat} {w a b d e : Int32} (h : w = 25) (q : vD x m V s c w a b d e) : vp_in a 710 ∧ vB x m V (s - 2) c b ∧ b.toInt < e.toInt := by
  rw [h] at q
  unfold vD at q
  rcases q with ⟨g, q⟩ | ⟨g, q⟩ | ⟨g, q⟩ | ⟨g, q⟩ | ⟨g, q⟩ | ⟨g, q⟩ | ⟨g, q⟩ | g | ⟨g, q⟩ | ⟨g, q⟩ | g
  all_goals first | exact absurd g (by decide) | exact q
theorem vD_26 {x : gd} {m : Int} {V : Nat → Nat → Int32 → Prop} {s c : Nat} {w a b d e : Int32} (h : w = 26) (q : vD x m V s c w a b d e) : vp_in b 710 := by
  rw [h] at q
  unfold vD at q
  rcases q with ⟨g, q⟩ | ⟨g, q⟩ | ⟨g, q⟩ | ⟨g, q⟩ | ⟨g, q⟩ | ⟨g, q⟩ | ⟨g, q⟩ | g | ⟨g, q⟩ | ⟨g, q⟩ | g
  all_goals first | exact absurd g (by decide) | exact q
theorem vD_28 {x : gd} {m : Int} {V : Nat → Nat → Int32 → Prop} {s c : Nat} {w a b d e : Int32} (h : w = 28) (q : vD x m V s c w a b d e) : vE x (s - 1) (s - 1) 17 a := by
  rw [h] at q
  unfold vD at q
  rcases q with ⟨g, q⟩ | ⟨g, q⟩ | ⟨g, q⟩ | ⟨g, q⟩ | ⟨g, q⟩ | ⟨g, q⟩ | ⟨g, q⟩ | g | ⟨g, q⟩ | ⟨g, q⟩ | g
  all_goals first | exact absurd g (by decide) | exact q
theorem vD_29 {x : gd} {m : Int} {V : Nat → Nat → Int32 → Prop} {s c : Nat} {w a b d e : Int32} (h : w = 29) (q : vD x m V s c w a b d e) : vp_in a 710 ∧ vE x (s - 1) (s - 1) 17 b := by
  rw [h] at q
  unfold vD at q
  rcases q with ⟨g, q⟩ | ⟨g, q⟩ | ⟨g, q⟩ | ⟨g, q⟩ | ⟨g, q⟩ | ⟨g, q⟩ | ⟨g, q⟩ | g | ⟨g, q⟩ | ⟨g, q⟩ | g
  all_goals first | exact absurd g (by decide) | exact q
theorem vD_30 {x : gd} {m : Int} {V : Nat → Nat → Int32 → Prop} {s c : Nat} {w a b d e : Int32} (h : w = 30) (q : vD x m V s c w a b d e) : vE x (s - 1) (s - 1) 17 a := by
  rw [h] at q
  unfold vD at q
  rcases q with ⟨g, q⟩ | ⟨g, q⟩ | ⟨g, q⟩ | ⟨g, q⟩ | ⟨g, q⟩ | ⟨g, q⟩ | ⟨g, q⟩ | g | ⟨g, q⟩ | ⟨g, q⟩ | g
  all_goals first | exact absurd g (by decide) | exact q
theorem vD_no {x : gd} {m : Int} {V : Nat → Nat → Int32 → Prop} {s c : Nat} {w a b d e : Int32} (h : w = 32) (q : vD x m V s c w a b d e) : False := by
  rw [h] at q
  unfold vD at q
  rcases q with ⟨g, q⟩ | ⟨g, q⟩ | ⟨g, q⟩ | ⟨g, q⟩ | ⟨g, q⟩ | ⟨g, q⟩ | ⟨g, q⟩ | g | ⟨g, q⟩ | ⟨g, q⟩ | g
  all_goals exact absurd g (by decide)
theorem LF_ok {x y : gd} {n w : Nat} (p : PL x) (lf : LF x y n w) (hn : (x.1 0 52).toInt + n ≤ 1499) : vp_in (y.1 0 52) 1500 ∧ TK y ∧ 0 ≤ (y.1 0 52).toInt ∧ (y.1 0 52).toInt ≤ 1499 := by
  have := p.2.2.2.2.2.1
  obtain ⟨a1, a2, a3, a4, a5, a6, a7, a8⟩ := lf
  exact ⟨by rw [vp_in_iff]; omega, (LB_md a1 rfl rfl p.1).1, by omega, by omega⟩
theorem LF_s {x y : gd} {n w : Nat} {s : Int32} (lf : LF x y n w) (hs : vp_in s 3000) (hs2 : vp_in (x.1 19 s.toNatClampNeg) 710) : s = -1 ∨ (vp_in s 3000 ∧ vp_in (y.1 19 s.toNatClampNeg) 710) := Or.inr ⟨hs, by rw [lf.1.2.1 19 (by decide) (by decide)]; exact hs2⟩
end
