/-! the model: a state looked at while trying, what it shows is noted -/
section LO3
variable {G : mG} {d D : Nat} {x z a : gd} {F : Int32 → gd → Prop} {Fv : gd → Prop} {C : gCo} {Ma : gMa} {wn : Nat}
/-- two threads' accesses race -/
def prR (C : gCo) (w : Nat) (M : gMa) (t o : Nat) : Prop := axM C w M t ∧ axM C w M o ∧ (lkM C w M t).2.1 = (lkM C w M o).2.1 ∧ srM (soM C (M.2.2 t)) (soM C (M.2.2 o))
theorem prR_rc {t o : Nat} (h : t < o) (ho : o < C.2.1.length) (p : prR C wn Ma t o) : rcM C wn Ma := ⟨o, t, h, ho, p.2.1, p.1, p.2.2.1.symm, fun q => p.2.2.2.1 ⟨q.2, q.1⟩, fun q => p.2.2.2.2 ⟨q.2, q.1⟩⟩
theorem lkI_n9 {T : Nat} (hX : NXc C) {st : gNs} (s1 : C.1[(Ma.2.2 T).2.2.1]? = some st) (s2 : stN C (Ma.2.2 T).2.2.1 = st) (o4 : st.1 ≤ 4) (c24 : C.2.2.1.length ≤ 24) (l0 : (lkI C Ma T).1 = 0) : 0 ≤ (lkI C Ma T).2.toInt ∧ (lkI C Ma T).2.toInt < C.2.2.1.length := by
  obtain ⟨x1, x2, x3, -, x5, x6⟩ := hX _ st s1
  obtain ⟨z1, z2, z3⟩ := x6 o4
  cases hix : st.2.2.2.2.2.2.2.1 with
  | none =>
    rw [lkI_n (by rw [s2]; exact hix), s2]
    exact ⟨z1, z2⟩
  | some Q =>
    have hix' : (stN C (Ma.2.2 T).2.2.1).2.2.2.2.2.2.2.1 = some Q := by rw [s2]; exact hix
    cases hwk : wkQ (Ma.2.2 T).2.2.2.2.2.2.2 (fun _ => 0) (Int32.ofNat T) Q with
    | none => rw [lkI_1 hix' hwk] at l0; exact absurd l0 (by decide)
    | some v =>
      by_cases cv : v < 0 ∨ (stN C (Ma.2.2 T).2.2.1).2.2.2.2.2.1 ≤ v
      · rw [lkI_2 hix' hwk cv] at l0; exact absurd l0 (by decide)
      · rw [lkI_0 hix' hwk cv, s2]
        rw [s2] at cv
        have v0 : 0 ≤ v.toInt := by
          have : ¬ v < 0 := fun z => cv (Or.inl z)
          rw [t_lt] at this
          have k0 : (0 : Int32).toInt = 0 := rfl
          omega
        have v1 : v.toInt < st.2.2.2.2.2.1.toInt := by
          have : ¬ st.2.2.2.2.2.1 ≤ v := fun z => cv (Or.inr z)
          rw [t_le] at this
          omega
        have z3 := z3 (by rw [hix]; exact fun z => nomatch z)
        have e5 : (st.2.2.2.2.1 + v).toInt = st.2.2.2.2.1.toInt + v.toInt := t_add (by omega) (by omega)
        show 0 ≤ (st.2.2.2.2.1 + v).toInt ∧ (st.2.2.2.2.1 + v).toInt < _
        omega
/-- a cell that is accessed is one of those that there are -/
theorem lkM_in {T : Nat} (hN : NC C) (hX : NXc C) (am : AM C wn Ma a) (ht : T < 6) (h1 : a.1 73 T = 1) (so4 : soM C (Ma.2.2 T) ≤ 4) (l0 : (lkM C wn Ma T).1 = 0) : 0 ≤ (lkM C wn Ma T).2.1.toInt ∧ (lkM C wn Ma T).2.1.toInt < C.2.2.1.length := by
  obtain ⟨av, hK, hM, hI, wy, -⟩ := am
  obtain ⟨kv, kn, -, -⟩ := RI_step av.1 ht h1
  obtain ⟨m73, l73, m75, m74, -⟩ := hM.2.2 T ht
  have l52 : (a.1 0 52).toInt = C.1.length := hK.1.1
  have nC : (a.1 0 23).toInt = C.2.2.1.length := hK.2.2.1.1
  have c24 : (a.1 0 23).toInt ≤ 24 := av.1.1.1.2.1
  obtain ⟨st, hst⟩ : ∃ st, C.1[(Ma.2.2 T).2.2.1]? = some st := ⟨_, List.getElem?_eq_getElem (by omega)⟩
  have esN := stN_is hst
  have w0 : (Ma.2.2 T).2.2.2.1 = 0 := by
    by_cases w0 : (Ma.2.2 T).2.2.2.1 = 0
    · exact w0
    · unfold soM at so4; rw [if_neg w0] at so4; omega
  have o4 : st.1 ≤ 4 := by unfold soM at so4; rw [if_pos w0, esN] at so4; exact so4
  rw [lkM_c w0]
  refine lkI_n9 hX hst esN o4 (by omega) ?_
  apply Classical.byContradiction
  intro c
  rw [lkM_i w0 c] at l0
  exact c l0
theorem sp_mayRace4 {s o : Int32} {k l : Nat} (es : s = Int32.ofNat k) (eo : o = Int32.ofNat l) (hk : k < 22) (hl : l < 22) (h : ∀ r : Int32, (¬ r = 0 ↔ k ≤ 4 ∧ l ≤ 4 ∧ srM k l) → F r x) : MT G (d + 1) z_mayRace 0 [(0, vr 0), (1, vi s), (2, vi o)] [] x (ri F) := by
  subst es
  subst eo
  exact sp_mayRace3 hk hl h
theorem sp_look3 {M : Int} (hN : NC C) (hX : NXc C) (hq2 : NCq C) (w01 : wn = 0 ∨ wn = 1) (w s : Int32) (wv : vp_in w 2) (am : AM C wn Ma a) (l26 : (a.1 0 26).toInt = (C.2.2.2.1.length : Nat)) (l27 : (a.1 0 27).toInt = (C.2.2.2.2.length : Nat)) (e : eqS (Sl a) a z) (s0 : 0 ≤ s.toInt) (s1 : s.toInt < M) (hf : fnd z w.toNatClampNeg M) (o0 : 0 ≤ (z.1 123 w.toNatClampNeg).toInt) (o1 : (z.1 123 w.toNatClampNeg).toInt < 3000) (hD : 5 ≤ D) (h : ∀ z', LKI z a w.toNatClampNeg M ((z.1 123 w.toNatClampNeg).toInt + 1) z' → FAm z z' w.toNatClampNeg s (fD C wn Ma 11) → Fv z') : MT G D z_look 0 [(0, vr 0), (1, vi w), (2, vi s)] [] z (rv Fv) := by
  obtain ⟨D, rfl⟩ : ∃ D', D = D' + 2 := ⟨D - 2, by omega⟩
  have k0 : (0 : Int32).toInt = 0 := rfl
  have k1 : (1 : Int32).toInt = 1 := rfl
  have k4 : (4 : Int32).toInt = 4 := rfl
  have n1 : ¬ (1 : Int32) = 0 := by decide
  obtain ⟨W, eW⟩ : ∃ W, W = w.toNatClampNeg := ⟨_, rfl⟩
  have W2 : W < 2 := by rw [eW]; exact vp_lt wv
  rw [← eW] at hf o0 o1 h
  obtain ⟨O, eO⟩ : ∃ O, O = (z.1 123 W).toInt := ⟨_, rfl⟩
  rw [← eO] at o0 o1 h
  have av := am.1
  obtain ⟨ri, wy, ch, c0, c84, fa⟩ := id av
  obtain ⟨g1, g2, g3, g4, g5, g6, g7, g8, g9, g10, _⟩ := id ri.1.1
  have wk1 := ri.1.2.2.1
  have wk2 := ri.1.2.2.2
  obtain ⟨-, hK, hM, hI, wyw, chE9⟩ := id am
  have nT : (a.1 0 25).toInt = C.2.1.length := hK.2.1.1
  have nC : (a.1 0 23).toInt = C.2.2.1.length := hK.2.2.1.1
  have n84 : (a.1 0 84).toInt = ((chM C wn Ma).length : Nat) := AM_n am
  have f25 : ∀ {y : gd}, eqS (Sm a) a y → y.1 0 25 = a.1 0 25 := fun e => cF e (by decide)
  have f24 : ∀ {y : gd}, eqS (Sm a) a y → y.1 0 24 = a.1 0 24 := fun e => cF e (by decide)
  have f73 : ∀ {y : gd}, eqS (Sm a) a y → ∀ t, t < 6 → y.1 73 t = Int32.ofNat (Ma.2.2 t).1 := fun e t ht => by rw [cA e (c := 73) (n := 6) (by decide) ht]; exact (hM.2.2 t ht).1
  have LKf : ∀ {B : Int} {y y' : gd}, md rL rA y y' → y'.1 126 = y.1 126 := fun m => m.2.1 126 (by decide) (by decide)
  -- threads: their acts
  obtain ⟨RB, hRB⟩ : ∃ RB : gd → (Nat → Nat → Prop) → Prop, ∀ y K, RB y K ↔ (LKI z a W M (O + 1) y ∧ ∃ b : Prop, (b → rcM C wn Ma) ∧ (∀ t o, t < o → o < C.2.1.length → K t o → prR C wn Ma t o → b) ∧ FAm z y W s (fun f => fD C wn Ma 10 f ∨ (f = 10 ∧ b))) := ⟨_, fun y K => Iff.rfl⟩
  have RBmd : ∀ {y y' : gd} {K : Nat → Nat → Prop}, RB y K → md rL rA y y' → eqS (Sm a) a y' → RB y' K := fun q m e' => by
    obtain ⟨q1, b, q2, q3, q4⟩ := (hRB _ _).mp q
    exact (hRB _ _).mpr ⟨LKI_md q1 m e', b, q2, q3, FAm_f (m.2.1 126 (by decide) (by decide)) q4⟩
  have RBc : ∀ {y y' : gd} {K : Nat → Nat → Prop}, RB y K → md [] [122, 124, 125, 127, 128] y y' → RB y' K := fun q m => by
    obtain ⟨q1, b, q2, q3, q4⟩ := (hRB _ _).mp q
    exact (hRB _ _).mpr ⟨LKI_c q1 m, b, q2, q3, FAm_f (m.2.1 126 (by decide) (by decide)) q4⟩
  have RBk : ∀ {y : gd} {K K' : Nat → Nat → Prop}, (∀ t o, t < o → o < C.2.1.length → K' t o → prR C wn Ma t o → K t o) → RB y K → RB y K' := fun hk q => by
    obtain ⟨q1, b, q2, q3, q4⟩ := (hRB _ _).mp q
    exact (hRB _ _).mpr ⟨q1, b, q2, fun t o h1 h2 h3 h4 => q3 t o h1 h2 (hk t o h1 h2 h3 h4) h4, q4⟩
  have RBe : ∀ {y : gd} {K : Nat → Nat → Prop}, RB y K → LKI z a W M (O + 1) y := fun q => ((hRB _ _).mp q).1
  have p292 : ∀ (n : Nat) (y : gd) (t : Int32), 0 ≤ t.toInt → (a.1 0 25).toInt - t.toInt ≤ n → RB y (fun t' _ => (t' : Int) < t.toInt) → MT G (D + 2) z_look 292 [(0, vr 0), (1, vi w), (2, vi s), (6, vi t)] [] y (rv Fv) := by
    intro n
    have fin : ∀ (y : gd) (t : Int32), (a.1 0 25).toInt ≤ t.toInt → RB y (fun t' _ => (t' : Int) < t.toInt) → rv Fv none y := by
      intro y t ht q
      obtain ⟨q1, b, q2, q3, q4⟩ := (hRB _ _).mp q
      refine rv_i (h y q1 (FAm_c (fun f hf9 => ?_) q4))
      constructor
      · rintro (c | ⟨c, cb⟩)
        · exact ⟨by have := c.1; omega, c.2⟩
        · exact ⟨by omega, by rw [c, fn_10]; exact q2 cb⟩
      · intro c
        by_cases c10 : f = 10
        · refine Or.inr ⟨c10, ?_⟩
          have rc := c.2
          rw [c10, fn_10] at rc
          obtain ⟨o, t', r1, r2, r3, r4, r5, r6⟩ := rc
          exact q3 t' o r1 r2 (by omega) ⟨r4, r3, r5.symm, fun q => r6.1 ⟨q.2, q.1⟩, fun q => r6.2 ⟨q.2, q.1⟩⟩
        · exact Or.inl ⟨by have := c.1; omega, c.2⟩
    induction n with
    | zero =>
      intro y t t0 hn ky
      exact sg_look_292 _ _ _ ⟨fun c => fin y t (by rw [t_le, f25 (RBe ky).2.1] at c; exact c) ky, fun c => absurd (t_le.mpr (by rw [f25 (RBe ky).2.1]; omega)) c⟩
    | succ n ih =>
      intro y t t0 hn ky
      refine sg_look_292 _ _ _ ⟨fun c => fin y t (by rw [t_le, f25 (RBe ky).2.1] at c; exact c) ky, fun c => ?_⟩
      rw [t_le, f25 (RBe ky).2.1] at c
      have tv : vp_in t 6 := by rw [vp_in_iff]; omega
      have ti : (t + 1).toInt = t.toInt + 1 := by rw [t_add (by omega) (by omega), k1]
      obtain ⟨T, eT⟩ : ∃ T, T = t.toNatClampNeg := ⟨_, rfl⟩
      have cT : t.toInt = (T : Nat) := by rw [eT]; exact (cl_i t0).symm
      have T6 : T < 6 := by omega
      have Tn : T < C.2.1.length := by omega
      have nx : ∀ y, RB y (fun t' _ => (t' : Int) < t.toInt ∨ t' = T) → MT G (D + 2) z_look 292 [(0, vr 0), (1, vi w), (2, vi s), (6, vi (t + 1))] [] y (rv Fv) := fun y ky => ih y (t + 1) (by omega) (by omega) (RBk (fun t' o h1 h2 h3 _ => by omega) ky)
      have nx0 : ¬ axM C wn Ma T → ∀ {y : gd} {K : Nat → Nat → Prop}, (∀ t' o : Nat, (t' : Int) < t.toInt → K t' o) → RB y K → MT G (D + 2) z_look 292 [(0, vr 0), (1, vi w), (2, vi s), (6, vi (t + 1))] [] y (rv Fv) := fun na y K hk ky => nx y (RBk (fun t' o h1 h2 h3 h4 => by
        rcases h3 with h3 | h3
        · exact hk t' o h3
        · rw [h3] at h4; exact absurd h4.1 na) ky)
      refine sp_hasAct3 hN hX w01 am (RBe ky).2.1 t tv (by omega) (fun nc y' m e' => ⟨fun q => absurd rfl q, fun _ => nx0 (fun q => nc (by rw [← eT]; exact q.1)) (fun _ _ q => q) (RBmd ky m e')⟩) (fun st st7 hcan y' m e' => ⟨fun _ => ?_, fun q => absurd q (by decide)⟩)
      rw [← eT] at hcan
      have ky' := RBmd ky m e'
      refine sp_locksOf t (by rw [f24 e']; exact g4) (fun mine => sp_lookAt3 hN hX w01 am e' t tv st st7 (by omega) (fun y7 x7 e7 m7 lp e88 e89 q89 q88 => ?_))
      have ky7 := RBmd ky' m7 e7
      obtain ⟨kv, kn, so, avv⟩ := RI_step ri (vt tv) st
      obtain ⟨r1, r2, r3⟩ := srt_of ri (vt tv) st
      have k74 : y7.1 74 t.toNatClampNeg = a.1 74 t.toNatClampNeg := cA e7 (n := 6) (by decide) (vt tv)
      have esl : eqS (Sl a) a y7 := eqS_w (Sl_Sm a) e7
      have es := srt_eq esl ri (vt tv)
      refine sp_sortOf t tv (by rw [k74]; exact kv) ?_
      rw [es]
      obtain ⟨ss, s22⟩ := srt_so hN am (vt tv) st st7
      obtain ⟨so', eso⟩ : ∃ q, q = srt a t.toNatClampNeg := ⟨_, rfl⟩
      obtain ⟨cc, ecc⟩ : ∃ q, q = y7.1 0 88 := ⟨_, rfl⟩
      unfold lkP at lp
      rw [← eso] at lp r1 r2 r3 ss ⊢
      rw [← e88, ← ecc] at lp
      rw [← e89] at lp
      rw [← eT] at q89 q88 ss s22
      rw [← ecc] at q88
      obtain ⟨l1, l2, l3⟩ := lp
      have eso4 : so'.toInt = (soM C (Ma.2.2 T) : Nat) := by rw [ss]; exact Int32.toInt_ofNat_of_lt (by omega)
      have fl : (y7.1 0 89 = 0) ↔ (lkM C wn Ma T).1 = 0 := by
        have z0 : ∀ n, n < 10 → (Int32.ofNat n = 0 ↔ n = 0) := by decide +kernel
        rw [q89]; exact z0 _ (by have := lkM_le (C := C) (w := wn) (M := Ma) (t := T); omega)
      -- races with the other threads
      have p464 : ∀ v : Int32, (¬ v = 0 ↔ y7.1 0 89 = 0) → ∀ (m : Nat) (u : gd) (o : Int32), t.toInt < o.toInt → (a.1 0 25).toInt - o.toInt ≤ m → RB u (fun t' o' => (t' : Int) < t.toInt ∨ (t' = T ∧ (o' : Int) < o.toInt)) → MT G (D + 2) z_look 464 [(0, vr 0), (1, vi w), (2, vi s), (6, vi t), (8, vi so'), (9, vi cc), (10, vi v), (11, vi o)] [] u (rv Fv) := by
        intro v hv m
        have full : ∀ (u : gd) (o : Int32), (a.1 0 25).toInt ≤ o.toInt → RB u (fun t' o' => (t' : Int) < t.toInt ∨ (t' = T ∧ (o' : Int) < o.toInt)) → MT G (D + 2) z_look 292 [(0, vr 0), (1, vi w), (2, vi s), (6, vi (t + 1))] [] u (rv Fv) := fun u o ho ku => nx u (RBk (fun t' o' h1 h2 h3 _ => by
          rcases h3 with h3 | h3
          · exact Or.inl h3
          · exact Or.inr ⟨h3, by omega⟩) ku)
        induction m with
        | zero =>
          intro u o o0' hm ku
          exact sg_look_464 _ _ _ _ _ _ _ ⟨fun c2 => full u o (by rw [t_le, f25 (RBe ku).2.1] at c2; exact c2) ku, fun c2 => absurd (t_le.mpr (by rw [f25 (RBe ku).2.1]; omega)) c2⟩
        | succ m ihm =>
          intro u o o0' hm ku
          refine sg_look_464 _ _ _ _ _ _ _ ⟨fun c2 => full u o (by rw [t_le, f25 (RBe ku).2.1] at c2; exact c2) ku, fun c2 => ?_⟩
          rw [t_le, f25 (RBe ku).2.1] at c2
          have ov : vp_in o 6 := by rw [vp_in_iff]; omega
          have oi : (o + 1).toInt = o.toInt + 1 := by rw [t_add (by omega) (by omega), k1]
          obtain ⟨Q, eQ⟩ : ∃ Q, Q = o.toNatClampNeg := ⟨_, rfl⟩
          have cQ : o.toInt = (Q : Nat) := by rw [eQ]; exact (cl_i (by omega)).symm
          have Qn : Q < C.2.1.length := by omega
          have TQ : T < Q := by omega
          have go : ¬ prR C wn Ma T Q → ∀ {u : gd}, RB u (fun t' o' => (t' : Int) < t.toInt ∨ (t' = T ∧ (o' : Int) < o.toInt)) → MT G (D + 2) z_look 464 [(0, vr 0), (1, vi w), (2, vi s), (6, vi t), (8, vi so'), (9, vi cc), (10, vi v), (11, vi (o + 1))] [] u (rv Fv) := fun np u ku => ihm u (o + 1) (by omega) (by omega) (RBk (fun t' o' h1 h2 h3 h4 => by
            rcases h3 with h3 | ⟨h3, h5⟩
            · exact Or.inl h3
            · by_cases eo : o' = Q
              · rw [h3, eo] at h4; exact absurd h4 np
              · exact Or.inr ⟨h3, by omega⟩) ku)
          refine sp_isAccess _ (fun sa => ⟨fun _ => nx0 (fun q => sa (by have := q.2.1; omega)) (fun _ _ q => Or.inl q) ku, fun q => absurd rfl q⟩) (fun sa => ⟨fun q => absurd q (by decide), fun _ => ⟨fun v0 => nx0 (fun q => hv.mpr (fl.mpr q.2.2.1) v0) (fun _ _ q => Or.inl q) ku, fun nv => ?_⟩⟩)
          have y89 := hv.mp nv
          have cr' := (l3 (by rw [y89, k0]; omega)).1 sa
          have cv : vp_in cc 24 := by rw [vp_in_iff]; exact cr'
          refine sp_hasAct3 hN hX w01 am (RBe ku).2.1 o ov (by omega) (fun nc u' mu eu => ⟨fun _ => go (fun q => nc (by rw [← eQ]; exact q.2.1.1)) (RBmd ku mu eu), fun q => absurd rfl q⟩) (fun so2 so7 hcan2 u' mu eu => ⟨fun q => absurd q (by decide), fun _ => ?_⟩)
          rw [← eQ] at hcan2
          have ku' := RBmd ku mu eu
          refine sp_lookAt3 hN hX w01 am eu o ov so2 so7 (by omega) (fun u9 x9 e9 m9 _ _ _ w89 w88 => ?_)
          have ku9 := RBmd ku' m9 e9
          rw [← eQ] at w89 w88
          have fl2 : (u9.1 0 89 = 0) ↔ (lkM C wn Ma Q).1 = 0 := by
            have z0 : ∀ n, n < 10 → (Int32.ofNat n = 0 ↔ n = 0) := by decide +kernel
            rw [w89]; exact z0 _ (by have := lkM_le (C := C) (w := wn) (M := Ma) (t := Q); omega)
          refine ⟨fun nf => go (fun q => nf (fl2.mpr q.2.1.2.2.1)) ku9, fun zf => ?_⟩
          obtain ⟨kv2, _, _, _⟩ := RI_step ri (vt ov) so2
          obtain ⟨ss2, s222⟩ := srt_so hN am (vt ov) so2 so7
          rw [← eQ] at ss2 s222
          refine sp_sortOf o ov (by rw [cA e9 (c := 74) (n := 6) (by decide) (vt ov)]; exact kv2) ?_
          rw [srt_eq (eqS_w (Sl_Sm a) e9) ri (vt ov), ← eQ]
          refine sp_mayRace4 ss ss2 s22 s222 (fun r hr => ⟨fun r0 => go (fun q => hr.mpr ⟨q.1.2.1, q.2.1.2.1, q.2.2.2⟩ r0) ku9, fun rn => ⟨fun ne => go (fun q => ne (by rw [w88, q88]; exact q.2.2.1.symm)) ku9, fun ee => ⟨cv, ?_⟩⟩⟩)
          have e37 : u9.1 37 cc.toNatClampNeg = if suM C cc.toNatClampNeg = true then 1 else 0 := by
            have hl : cc.toNatClampNeg < C.2.2.1.length := by
              have := lkM_in hN hX am T6 (by rw [eT]; exact st) (by omega) (fl.mp y89)
              rw [q88, t_cl]; omega
            rw [cA e9 (c := 37) (n := 24) (by decide) (vp_lt cv)]
            have hg := List.getElem?_eq_getElem hl
            rw [(hK.2.2.1.2 _ _ hg).2]
            unfold suM
            rw [hg]
          have ax1 : suM C cc.toNatClampNeg = false → prR C wn Ma T Q := fun su => ⟨⟨hcan, by omega, fl.mp y89, by rw [← q88]; exact su⟩, ⟨hcan2, (hr.mp rn).2.1, fl2.mp zf, by rw [← w88, ee]; exact su⟩, by rw [← q88, ← w88, ee], (hr.mp rn).2.2⟩
          refine ⟨fun sn => go (fun q => sn ?_) ku9, fun sz => ?_⟩
          · have := q.1.2.2.2
            rw [← q88] at this
            rw [e37, this]; rfl
          · have su : suM C cc.toNatClampNeg = false := by
              cases hsu : suM C cc.toNatClampNeg with
              | false => rfl
              | true => rw [e37, hsu] at sz; exact absurd sz (by decide)
            have pr := ax1 su
            refine sp_find3 w 10 s wv (f9 := 10) rfl (by omega) s0 s1 (by rw [← eW]; exact (RBe ku9).2.2.2.1) (fun u10 m10 o10 f10 t1 t2 t3 => ihm u10 (o + 1) (by omega) (by omega) ?_)
            rw [← eW] at o10 f10 t1 t2 t3
            obtain ⟨q1, b, q2, q3, q4⟩ := (hRB _ _).mp ku9
            refine (hRB _ _).mpr ⟨LKI_f q1 m10 o10 f10, True, fun _ => prR_rc TQ Qn pr, fun _ _ _ _ _ _ => trivial, FAm_c (fun f _ => ?_) (FAm_find s0 (by omega) t1 t2 t3 q4)⟩
            constructor
            · rintro ((c | c) | c)
              · exact Or.inl c
              · exact Or.inr ⟨c.1, trivial⟩
              · exact Or.inr ⟨c, trivial⟩
            · rintro (c | c)
              · exact Or.inl (Or.inl c)
              · exact Or.inr c.1
      -- locks that it holds
      have p400 : ∀ v : Int32, (¬ v = 0 ↔ y7.1 0 89 = 0) → ∀ (m : Nat) (u : gd) (l : Int32), 0 ≤ l.toInt → (a.1 0 24).toInt - l.toInt ≤ m → RB u (fun t' _ => (t' : Int) < t.toInt) → MT G (D + 2) z_look 400 [(0, vr 0), (1, vi w), (2, vi s), (6, vi t), (7, vi mine), (8, vi so'), (9, vi cc), (10, vi v), (11, vi l)] [] u (rv Fv) := by
        intro v hv m
        have last : ∀ u, RB u (fun t' _ => (t' : Int) < t.toInt) → MT G (D + 2) z_look 464 [(0, vr 0), (1, vi w), (2, vi s), (6, vi t), (8, vi so'), (9, vi cc), (10, vi v), (11, vi (t + 1))] [] u (rv Fv) := fun u ku => p464 v hv 6 u (t + 1) (by omega) (by omega) (RBk (fun t' o' h1 h2 h3 _ => by
          rcases h3 with h3 | h3
          · exact h3
          · omega) ku)
        induction m with
        | zero =>
          intro u l l0 hm ku
          exact sg_look_400 _ _ _ _ _ _ _ _ ⟨fun _ => last u ku, fun c2 => absurd (t_le.mpr (by rw [f24 (RBe ku).2.1]; omega)) c2⟩
        | succ m ihm =>
          intro u l l0 hm ku
          refine sg_look_400 _ _ _ _ _ _ _ _ ⟨fun _ => last u ku, fun c2 => ⟨fun _ => last u ku, fun e5 => ?_⟩⟩
          rw [t_le, f24 (RBe ku).2.1] at c2
          have li : (l + 1).toInt = l.toInt + 1 := by rw [t_add (by omega) (by omega), k1]
          have o := r2 (Or.inl (by rw [e5]; decide))
          have ccv : cc.toInt = (a.1 56 (a.1 74 t.toNatClampNeg).toNatClampNeg).toInt := by rw [l2 (Or.inl (by rw [e5]; decide))]
          have k6 : (6 : Int32).toInt = 6 := rfl
          have k36 : (36 : Int32).toInt = 36 := rfl
          have wb := vp_in_iff.mp wv
          have a1 : (36 * w).toInt = 36 * w.toInt := by rw [t_mul (by rw [k36]; omega) (by rw [k36]; omega), k36]
          have a2 : (6 * l).toInt = 6 * l.toInt := by rw [t_mul (by rw [k6]; omega) (by rw [k6]; omega), k6]
          have a3 : (36 * w + 6 * l).toInt = 36 * w.toInt + 6 * l.toInt := by rw [t_add (by omega) (by omega), a1, a2]
          refine ⟨fun _ => ihm u (l + 1) (by omega) (by omega) ku, fun _ => ⟨fun _ => ihm u (l + 1) (by omega) (by omega) ku, fun _ => ⟨?_, fun u6 e6 => ?_⟩⟩⟩
          · rw [vp_in_iff, t_add (by omega) (by omega), a3]; omega
          · have m6 := md_a u 128 (36 * w + 6 * l + cc).toNatClampNeg (vp_nar .boolean 1) (by decide)
            rw [← e6] at m6
            exact ihm u6 (l + 1) (by omega) (by omega) (RBc ku (md_w m6 (by decide) (by decide)))
      have p353 : ∀ v : Int32, (¬ v = 0 ↔ y7.1 0 89 = 0) → MT G (D + 2) z_look 353 [(0, vr 0), (1, vi w), (2, vi s), (6, vi t), (7, vi mine), (8, vi so'), (9, vi cc)] [vi v] y7 (rv Fv) := by
        intro v hv
        have q400 : ∀ u, RB u (fun t' _ => (t' : Int) < t.toInt) → MT G (D + 2) z_look 400 [(0, vr 0), (1, vi w), (2, vi s), (6, vi t), (7, vi mine), (8, vi so'), (9, vi cc), (10, vi v), (11, vi 0)] [] u (rv Fv) := fun u ku => p400 v hv 6 u 0 (by decide) (by rw [k0]; omega) ku
        refine sg_look_353 _ _ _ _ _ _ _ (sp_isAccess _ (fun _ => ⟨fun _ => q400 y7 ky7, fun q => absurd rfl q⟩) (fun sa => ⟨fun q => absurd q (by decide), fun _ => ⟨fun _ => q400 y7 ky7, fun ne => ?_⟩⟩))
        have cr' := (l1 sa).resolve_left ne
        have vv := (tmul (k := 24) (K := 24) (N := 48) (n := 24) rfl wv cr'.1 (by omega) (by omega) (by omega) (by omega)).1
        refine ⟨vv, vv, fun u7 e7' => ?_⟩
        have m7' := md_a y7 127 (24 * w + cc).toNatClampNeg (y7.1 127 (24 * w + cc).toNatClampNeg &&& mine) (by decide)
        rw [← e7'] at m7'
        exact q400 u7 (RBc ky7 (md_w m7' (by decide) (by decide)))
      rw [← ecc]
      exact ⟨fun c9 => p353 0 ⟨fun q => absurd rfl q, fun q => absurd q c9⟩, fun c9 => p353 1 ⟨fun _ => c9, fun _ => n1⟩⟩
  -- quiet
  obtain ⟨LF, hLF⟩ : ∃ LF : gd → Int → Nat → Prop, ∀ y B n, LF y B n ↔ (LKI z a W M B y ∧ FAm z y W s (fD C wn Ma n)) := ⟨_, fun y B n => Iff.rfl⟩
  have LFe : ∀ {y : gd} {B : Int} {n : Nat}, LF y B n → eqS (Sm a) a y := fun q => ((hLF _ _ _).mp q).1.2.1
  have LFmd : ∀ {y y' : gd} {B : Int} {n : Nat}, LF y B n → md rL rA y y' → eqS (Sm a) a y' → LF y' B n := fun q m e' => by
    obtain ⟨q1, q2⟩ := (hLF _ _ _).mp q
    exact (hLF _ _ _).mpr ⟨LKI_md q1 m e', FAm_f (m.2.1 126 (by decide) (by decide)) q2⟩
  have LFm : ∀ {y : gd} {B : Int} {n m : Nat}, n ≤ m → (∀ f, n ≤ f → f < m → ¬ fnM C wn Ma f) → LF y B n → LF y B m := fun hm hn q => by
    obtain ⟨q1, q2⟩ := (hLF _ _ _).mp q
    exact (hLF _ _ _).mpr ⟨q1, FAm_more hm hn q2⟩
  have fi : ∀ (y : gd) (f : Int32) (B : Int) (n : Nat), f.toInt = (n : Nat) → n < 11 → fnM C wn Ma n → LF y B n → ∀ Fq : gd → Prop, (∀ y', LF y' B (n + 1) → Fq y') → MT G (D + 1) z_find 0 [(0, vr 0), (1, vi w), (2, vi f), (3, vi s)] [] y (rv Fq) := by
    intro y f B n ef n11 fn ky Fq hq
    obtain ⟨q1, q2⟩ := (hLF _ _ _).mp ky
    refine sp_find3 w f s wv ef n11 s0 s1 (by rw [← eW]; exact q1.2.2.2.1) (fun u m o f' t1 t2 t3 => hq u ?_)
    rw [← eW] at o f' t1 t2 t3
    exact (hLF _ _ _).mpr ⟨LKI_f q1 m o f', FAm_c (fun f _ => fD_up fn f) (FAm_find s0 n11 t1 t2 t3 q2)⟩
  have p275 : ∀ (y : gd) (v : Int32), LF y (O + 1) 10 → MT G (D + 2) z_look 275 [(0, vr 0), (1, vi w), (2, vi s), (5, vi v)] [] y (rv Fv) := by
    intro y v ky
    obtain ⟨q1, q2⟩ := (hLF _ _ _).mp ky
    refine sg_look_275 _ _ _ ⟨wv, sp_one _ (fun r => ⟨wv, fun y5 e5 => ?_⟩)⟩
    have m5 := md_a y 124 w.toNatClampNeg (y.1 124 w.toNatClampNeg + r) (by decide)
    rw [← e5] at m5
    refine p292 6 y5 0 (by decide) (by rw [k0]; omega) (RBc ((hRB _ _).mpr ⟨q1, False, fun q => absurd q (fun q => q), fun t' o' _ _ h3 _ => by rw [k0] at h3; omega, FAm_c (fun f _ => ⟨Or.inl, fun q => q.elim id (fun q => absurd q.2 (fun q => q))⟩) q2⟩) (md_w m5 (by decide) (by decide)))
  have p262 : ∀ (y : gd) (v4 v5 : Int32), (¬ v4 = 0 ↔ fnM C wn Ma 9) → LF y (O + 1) 9 → MT G (D + 2) z_look 262 [(0, vr 0), (1, vi w), (2, vi s), (4, vi v4), (5, vi v5)] [] y (rv Fv) := fun y v4 v5 h9 ky => sg_look_262 _ _ _ _ ⟨fun z4 => p275 y v5 (LFm (n := 9) (by omega) (fun f h1 h2 q => h9.mpr (by rw [show f = 9 by omega] at q; exact q) z4) ky), fun n4 => fi y 9 (O + 1) 9 rfl (by omega) (h9.mp n4) ky _ (fun y' ky' => p275 y' v5 ky')⟩
  have up : ∀ {y : gd} {n : Nat}, LF y O n → LF y (O + 1) n := fun q => by
    obtain ⟨q, q2⟩ := (hLF _ _ _).mp q
    exact (hLF _ _ _).mpr ⟨⟨q.1, q.2.1, q.2.2.1, q.2.2.2.1, q.2.2.2.2.1, by have := q.2.2.2.2.2; omega⟩, q2⟩
  have f84 : ∀ {y : gd} {B : Int} {n : Nat}, LF y B n → (y.1 0 84 = 0 ↔ chM C wn Ma = []) := fun q => by
    have e84 : _ = a.1 0 84 := LFe q 0 84 (Or.inr (Or.inl ⟨rfl, rfl⟩))
    rw [e84, t_eq, k0, n84]
    constructor
    · intro q; exact List.eq_nil_of_length_eq_zero (by omega)
    · intro q; rw [q]; rfl
  have p228 : ∀ (y : gd) (v3 v4 v5 : Int32), (¬ v3 = 0 ↔ goM C Ma) → (¬ v4 = 0 ↔ fnM C wn Ma 9) → LF y O 8 → MT G (D + 2) z_look 228 [(0, vr 0), (1, vi w), (2, vi s), (3, vi v3), (4, vi v4), (5, vi v5)] [] y (rv Fv) := by
    intro y v3 v4 v5 h3 h9 ky
    refine sg_look_228 _ _ _ _ _ ⟨fun nz => p262 y v4 v5 h9 (LFm (n := 8) (by omega) (fun f h1 h2 q => nz ((f84 ky).mpr (by rw [show f = 8 by omega, fn_8] at q; exact q.1))) (up ky)), fun z84 => ⟨wv, wv, fun y4 e4 => ?_⟩⟩
    have ce := (f84 ky).mp z84
    obtain ⟨q1, q2⟩ := (hLF _ _ _).mp ky
    have m4 := md_a y 122 w.toNatClampNeg (y.1 122 w.toNatClampNeg + 1) (by decide)
    rw [← e4] at m4
    have k4' := LKI_c q1 (md_w m4 (by decide) (by decide))
    have b1 := k4'.2.2.2.2.1
    have b2 := k4'.2.2.2.2.2
    refine sp_addOutcome w wv (by rw [← eW]; exact b1) (by rw [← eW]; omega) (by rw [cF k4'.2.1 (by decide)]; exact g2) (fun y5 m5 o5 q0 q1 => ?_)
    rw [← eW] at o5 q0 q1
    have k5 : LF y5 (O + 1) 8 := by
      obtain ⟨q1', q2', q3', q4', q5', q6'⟩ := k4'
      refine (hLF _ _ _).mpr ⟨⟨mi_tr q1' (mi_of m5) rfl rfl, eqS_mi q2' (mi_of m5) rfl rfl (ssub_rf _), ow_tr q3' o5, ?_, q0, by omega⟩, FAm_f (by rw [m5.2.1 126 (by decide) (by decide), m4.2.1 126 (by decide) (by decide)]) q2⟩
      unfold fnd
      rw [m5.2.1 126 (by decide) (by decide)]
      exact q4'
    exact ⟨fun z3 => p262 y5 v4 v5 h9 (LFm (n := 8) (by omega) (fun f h1 h2 q => h3.mpr (by rw [show f = 8 by omega, fn_8] at q; exact q.2) z3) k5), fun n3 => fi y5 8 (O + 1) 8 rfl (by omega) (fn_8.mpr ⟨ce, h3.mp n3⟩) k5 _ (fun y' ky' => p262 y' v4 v5 h9 ky')⟩
  -- finals
  have no47 : ∀ {y : gd} {n : Nat}, (¬ (chM C wn Ma = [] ∧ ¬ goM C Ma)) → 4 ≤ n → n ≤ 8 → LF y O n → LF y O 8 := fun hno h4 h8 q => LFm h8 (fun f h1 h2 q => by
    obtain ⟨f', ef⟩ : ∃ f', f = 4 + f' := ⟨f - 4, by omega⟩
    rw [ef, fn_4 (by omega)] at q
    exact hno ⟨q.1, q.2.1⟩) q
  have p170 : ∀ (n k : Nat) (y : gd) (v3 v4 v5 i : Int32), (¬ v3 = 0 ↔ goM C Ma) → (¬ v4 = 0 ↔ fnM C wn Ma 9) → i.toInt = (k : Nat) → C.2.2.2.2.length - k ≤ n → k ≤ C.2.2.2.2.length → LF y O (4 + k) → MT G (D + 2) z_look 170 [(0, vr 0), (1, vi w), (2, vi s), (3, vi v3), (4, vi v4), (5, vi v5), (6, vi i)] [] y (rv Fv) := by
    intro n
    have fin : ∀ (k : Nat) (y : gd) (v3 v4 v5 : Int32), (¬ v3 = 0 ↔ goM C Ma) → (¬ v4 = 0 ↔ fnM C wn Ma 9) → k = C.2.2.2.2.length → LF y O (4 + k) → MT G (D + 2) z_look 228 [(0, vr 0), (1, vi w), (2, vi s), (3, vi v3), (4, vi v4), (5, vi v5)] [] y (rv Fv) := fun k y v3 v4 v5 h3 h9 ek ky => p228 y v3 v4 v5 h3 h9 (LFm (n := 4 + k) (by omega) (fun f h1 h2 q => by
      obtain ⟨f', ef⟩ : ∃ f', f = 4 + f' := ⟨f - 4, by omega⟩
      rw [ef, fn_4 (by omega)] at q
      obtain ⟨-, -, Q, hQ, -⟩ := q
      have := gt_lt hQ
      omega) ky)
    induction n with
    | zero =>
      intro k y v3 v4 v5 i h3 h9 ei hn hk ky
      exact sg_look_170 _ _ _ _ _ _ ⟨fun _ => fin k y v3 v4 v5 h3 h9 (by omega) ky, fun c => absurd (t_le.mpr (by rw [cF (LFe ky) (by decide)]; omega)) c⟩
    | succ n ih =>
      intro k y v3 v4 v5 i h3 h9 ei hn hk ky
      refine sg_look_170 _ _ _ _ _ _ ⟨fun c => fin k y v3 v4 v5 h3 h9 (by rw [t_le, cF (LFe ky) (by decide)] at c; omega) ky, fun c => ⟨fun nz => p228 y v3 v4 v5 h3 h9 (no47 (fun q => nz ((f84 ky).mpr q.1)) (by omega) (by omega) ky), fun z84 => ⟨fun n3 => p228 y v3 v4 v5 h3 h9 (no47 (fun q => q.2 (h3.mp n3)) (by omega) (by omega) ky), fun z3 => ?_⟩⟩⟩
      have ce := (f84 ky).mp z84
      have ng : ¬ goM C Ma := fun q => h3.mpr q z3
      rw [t_le, cF (LFe ky) (by decide)] at c
      have iv : vp_in i 4 := by rw [vp_in_iff]; omega
      have ii : (i + 1).toInt = ((k + 1 : Nat) : Int) := by rw [t_add (by omega) (by omega), k1, ei]; rfl
      have iK : i.toNatClampNeg = k := by rw [t_cl, ei]; rfl
      refine ⟨iv, ?_⟩
      rw [cA (LFe ky) (c := 66) (n := 4) (by decide) (vp_lt iv), iK]
      have hkl : k < C.2.2.2.2.length := by omega
      obtain ⟨Q, hQ⟩ : ∃ Q, C.2.2.2.2[k]? = some Q := ⟨_, List.getElem?_eq_getElem hkl⟩
      refine sp_claim hN hq2 (by omega) am (LFe ky) _ (Or.inr (List.mem_of_getElem? hQ)) (hK.2.2.2.2 k Q hQ) (by omega) (fun v y' m e' hb h01 => ?_)
      have ky' := LFmd ky m e'
      have fn : fnM C wn Ma (4 + k) ↔ badC Ma Q := by
        rw [fn_4 (by omega)]
        refine ⟨fun ⟨_, _, Q9, h9, b⟩ => ?_, fun b => ⟨ce, ng, Q, hQ, b⟩⟩
        rw [hQ] at h9
        rw [Option.some.inj h9]; exact b
      have p212 : badC Ma Q → MT G (D + 2) z_look 212 [(0, vr 0), (1, vi w), (2, vi s), (3, vi v3), (4, vi v4), (5, vi v5), (6, vi i)] [] y' (rv Fv) := fun b => sg_look_212 _ _ _ _ _ _ (fi y' (4 + i) O (4 + k) (by rw [t_add (by omega) (by omega), k4, ei]; push_cast; rfl) (by omega) (fn.mpr b) ky' _ (fun u ku => ih (k + 1) u _ _ _ _ h3 h9 ii (by omega) hkl ku))
      refine ⟨fun v0 => p212 (hb.mp (Or.inl v0)), fun vn => ⟨fun c82 => ih (k + 1) y' _ _ _ _ h3 h9 ii (by omega) hkl (LFm (n := 4 + k) (by omega) (fun f h1 h2 q => ?_) ky'), fun c82 => p212 (hb.mp (Or.inr (fun q => c82 (by rw [q, t_le]; exact Int.le_refl _))))⟩⟩
      rw [show f = 4 + k by omega] at q
      rcases hb.mpr (fn.mp q) with q | q
      · exact vn q
      · rcases h01 with e | e
        · exact q e
        · rw [e, t_le, k1, k0] at c82; omega
  -- always
  have p122 : ∀ (n k : Nat) (y : gd) (v3 v4 v5 i : Int32), (¬ v3 = 0 ↔ goM C Ma) → (¬ v4 = 0 ↔ fnM C wn Ma 9) → i.toInt = (k : Nat) → C.2.2.2.1.length - k ≤ n → k ≤ C.2.2.2.1.length → LF y O k → MT G (D + 2) z_look 122 [(0, vr 0), (1, vi w), (2, vi s), (3, vi v3), (4, vi v4), (5, vi v5), (6, vi i)] [] y (rv Fv) := by
    intro n
    have fin : ∀ (k : Nat) (y : gd) (v3 v4 v5 : Int32), (¬ v3 = 0 ↔ goM C Ma) → (¬ v4 = 0 ↔ fnM C wn Ma 9) → k = C.2.2.2.1.length → LF y O k → MT G (D + 2) z_look 170 [(0, vr 0), (1, vi w), (2, vi s), (3, vi v3), (4, vi v4), (5, vi v5), (6, vi 0)] [] y (rv Fv) := fun k y v3 v4 v5 h3 h9 ek ky => p170 _ 0 y v3 v4 v5 0 h3 h9 rfl (Nat.le_refl _) (Nat.zero_le _) (LFm (n := k) (by omega) (fun f h1 h2 q => by
      rw [fn_lt4 (by omega)] at q
      obtain ⟨Q, hQ, -⟩ := q
      have := gt_lt hQ
      omega) ky)
    induction n with
    | zero =>
      intro k y v3 v4 v5 i h3 h9 ei hn hk ky
      exact sg_look_122 _ _ _ _ _ _ ⟨fun _ => fin k y v3 v4 v5 h3 h9 (by omega) ky, fun c => absurd (t_le.mpr (by rw [cF (LFe ky) (by decide)]; omega)) c⟩
    | succ n ih =>
      intro k y v3 v4 v5 i h3 h9 ei hn hk ky
      refine sg_look_122 _ _ _ _ _ _ ⟨fun c => fin k y v3 v4 v5 h3 h9 (by rw [t_le, cF (LFe ky) (by decide)] at c; omega) ky, fun c => ?_⟩
      rw [t_le, cF (LFe ky) (by decide)] at c
      have iv : vp_in i 4 := by rw [vp_in_iff]; omega
      have ii : (i + 1).toInt = ((k + 1 : Nat) : Int) := by rw [t_add (by omega) (by omega), k1, ei]; rfl
      have iK : i.toNatClampNeg = k := by rw [t_cl, ei]; rfl
      refine ⟨iv, ?_⟩
      rw [cA (LFe ky) (c := 65) (n := 4) (by decide) (vp_lt iv), iK]
      have hkl : k < C.2.2.2.1.length := by omega
      obtain ⟨Q, hQ⟩ : ∃ Q, C.2.2.2.1[k]? = some Q := ⟨_, List.getElem?_eq_getElem hkl⟩
      refine sp_claim hN hq2 (by omega) am (LFe ky) _ (Or.inl (List.mem_of_getElem? hQ)) (hK.2.2.2.1 k Q hQ) (by omega) (fun v y' m e' hb h01 => ?_)
      have ky' := LFmd ky m e'
      have fn : fnM C wn Ma k ↔ badC Ma Q := by
        rw [fn_lt4 (by omega)]
        refine ⟨fun ⟨Q9, h9, b⟩ => ?_, fun b => ⟨Q, hQ, b⟩⟩
        rw [hQ] at h9
        rw [Option.some.inj h9]; exact b
      have p153 : badC Ma Q → MT G (D + 2) z_look 153 [(0, vr 0), (1, vi w), (2, vi s), (3, vi v3), (4, vi v4), (5, vi v5), (6, vi i)] [] y' (rv Fv) := fun b => sg_look_153 _ _ _ _ _ _ (fi y' i O k ei (by omega) (fn.mpr b) ky' _ (fun u ku => ih (k + 1) u _ _ _ _ h3 h9 ii (by omega) hkl ku))
      refine ⟨fun v0 => p153 (hb.mp (Or.inl v0)), fun vn => ⟨fun c82 => ih (k + 1) y' _ _ _ _ h3 h9 ii (by omega) hkl (LFm (n := k) (by omega) (fun f h1 h2 q => ?_) ky'), fun c82 => p153 (hb.mp (Or.inr (fun q => c82 (by rw [q, t_le]; exact Int.le_refl _))))⟩⟩
      rw [show f = k by omega] at q
      rcases hb.mpr (fn.mp q) with q | q
      · exact vn q
      · rcases h01 with e | e
        · exact q e
        · rw [e, t_le, k1, k0] at c82; omega
  -- going, failed, idle
  have p28 : ∀ (n k : Nat) (y : gd) (v3 v4 v5 i : Int32), i.toInt = (k : Nat) → C.2.1.length - k ≤ n → k ≤ C.2.1.length → (¬ v3 = 0 ↔ ∃ t, t < k ∧ (Ma.2.2 t).1 = 1) → (¬ v4 = 0 ↔ ∃ t, t < k ∧ (Ma.2.2 t).1 = 3) → LF y O 0 → MT G (D + 2) z_look 28 [(0, vr 0), (1, vi w), (2, vi s), (3, vi v3), (4, vi v4), (5, vi v5), (6, vi i)] [] y (rv Fv) := by
    intro n
    have fin : ∀ (k : Nat) (y : gd) (v3 v4 v5 : Int32), k = C.2.1.length → (¬ v3 = 0 ↔ ∃ t, t < k ∧ (Ma.2.2 t).1 = 1) → (¬ v4 = 0 ↔ ∃ t, t < k ∧ (Ma.2.2 t).1 = 3) → LF y O 0 → MT G (D + 2) z_look 122 [(0, vr 0), (1, vi w), (2, vi s), (3, vi v3), (4, vi v4), (5, vi v5), (6, vi 0)] [] y (rv Fv) := fun k y v3 v4 v5 ek h3 h4 ky => p122 _ 0 y v3 v4 v5 0 (by rw [h3, ek]; exact Iff.rfl) (by rw [h4, ek, fn_9]) rfl (Nat.le_refl _) (Nat.zero_le _) ky
    have st4 : ∀ k m : Nat, k < 4 → m < 4 → ((Int32.ofNat k = Int32.ofNat m) ↔ k = m) := fun k m hk hm => by
      have s : ∀ a, a < 4 → ∀ b, b < 4 → ((Int32.ofNat a = Int32.ofNat b) ↔ a = b) := by decide +kernel
      exact s k hk m hm
    induction n with
    | zero =>
      intro k y v3 v4 v5 i ei hn hk h3 h4 ky
      exact sg_look_28 _ _ _ _ _ _ ⟨fun _ => fin k y v3 v4 v5 (by clear h3 h4; omega) h3 h4 ky, fun c => absurd (t_le.mpr (by clear h3 h4; rw [f25 (LFe ky)]; omega)) c⟩
    | succ n ih =>
      intro k y v3 v4 v5 i ei hn hk h3 h4 ky
      refine sg_look_28 _ _ _ _ _ _ ⟨fun c => fin k y v3 v4 v5 (by clear h3 h4; rw [t_le, f25 (LFe ky)] at c; omega) h3 h4 ky, fun c => ?_⟩
      rw [t_le, f25 (LFe ky)] at c
      have hkl : k < C.2.1.length := by clear h3 h4; omega
      have k6 : k < 6 := by clear h3 h4; omega
      have iv : vp_in i 6 := by clear h3 h4; rw [vp_in_iff]; omega
      have ii : (i + 1).toInt = ((k + 1 : Nat) : Int) := by clear h3 h4; rw [t_add (by omega) (by omega), k1, ei]; rfl
      have iK : i.toNatClampNeg = k := by rw [t_cl, ei]; rfl
      have l3 : (Ma.2.2 k).1 ≤ 3 := (hM.2.2 k k6).2.1
      have y73 := f73 (LFe ky) k k6
      have mor : ∀ c : Nat, (∃ t, t < k + 1 ∧ (Ma.2.2 t).1 = c) ↔ ((∃ t, t < k ∧ (Ma.2.2 t).1 = c) ∨ (Ma.2.2 k).1 = c) := fun c => ⟨fun ⟨t, t1, t2⟩ => by
        by_cases e : t = k
        · rw [e] at t2; exact Or.inr t2
        · exact Or.inl ⟨t, by omega, t2⟩, fun q => q.elim (fun ⟨t, t1, t2⟩ => ⟨t, by omega, t2⟩) (fun q => ⟨k, by omega, q⟩)⟩
      have nx : ∀ (y : gd) (v3 v4 v5 : Int32), (¬ v3 = 0 ↔ ∃ t, t < k + 1 ∧ (Ma.2.2 t).1 = 1) → (¬ v4 = 0 ↔ ∃ t, t < k + 1 ∧ (Ma.2.2 t).1 = 3) → LF y O 0 → MT G (D + 2) z_look 28 [(0, vr 0), (1, vi w), (2, vi s), (3, vi v3), (4, vi v4), (5, vi v5), (6, vi (i + 1))] [] y (rv Fv) := fun y v3 v4 v5 a3 a4 ky => ih (k + 1) y v3 v4 v5 (i + 1) ii (by clear a3 a4 h3 h4 mor; omega) hkl a3 a4 ky
      have p79 : ∀ u v : Int32, (¬ u = 0 ↔ ∃ t, t < k + 1 ∧ (Ma.2.2 t).1 = 1) → (¬ v = 0 ↔ ∃ t, t < k + 1 ∧ (Ma.2.2 t).1 = 3) → MT G (D + 2) z_look 79 [(0, vr 0), (1, vi w), (2, vi s), (3, vi u), (5, vi v5), (6, vi i)] [vi v] y (rv Fv) := fun u v hu hv => sg_look_79 _ _ _ _ _ _ ⟨fun _ => nx _ _ _ _ hu hv ky, fun _ => ⟨iv, fun _ => nx _ _ _ _ hu hv ky, fun _ => sp_hasAct av (LFe ky) i iv (by clear h3 h4 hu hv mor; omega) (fun y' m e' => ⟨fun q => absurd rfl q, fun _ => nx _ _ _ _ hu hv (LFmd ky m e')⟩) (fun _ y' m e' => ⟨fun _ => nx _ _ _ _ hu hv (LFmd ky m e'), fun q => absurd q (by decide)⟩)⟩⟩
      have p57 : ∀ u : Int32, (¬ u = 0 ↔ ∃ t, t < k + 1 ∧ (Ma.2.2 t).1 = 1) → MT G (D + 2) z_look 57 [(0, vr 0), (1, vi w), (2, vi s), (4, vi v4), (5, vi v5), (6, vi i)] [vi u] y (rv Fv) := fun u hu => by
        refine sg_look_57 _ _ _ _ _ _ ⟨fun n4 => p79 _ _ hu ⟨fun _ => (mor 3).mpr (Or.inl (h4.mp n4)), fun _ => n1⟩, fun z4 => ⟨iv, ?_⟩⟩
        rw [iK, y73]
        refine ⟨fun nq => p79 _ _ hu ⟨fun q => absurd rfl q, fun q => ?_⟩, fun eq => p79 _ _ hu ⟨fun _ => (mor 3).mpr (Or.inr ((st4 _ 3 (by omega) (by decide)).mp eq)), fun _ => n1⟩⟩
        rcases (mor 3).mp q with q | q
        · exact absurd z4 (h4.mpr q)
        · exact absurd (by rw [q]; rfl) nq
      refine ⟨fun n3 => p57 _ ⟨fun _ => (mor 1).mpr (Or.inl (h3.mp n3)), fun _ => n1⟩, fun z3 => ⟨iv, ?_⟩⟩
      rw [iK, y73]
      refine ⟨fun nq => p57 _ ⟨fun q => absurd rfl q, fun q => ?_⟩, fun eq => p57 _ ⟨fun _ => (mor 1).mpr (Or.inr ((st4 _ 1 (by omega) (by decide)).mp eq)), fun _ => n1⟩⟩
      rcases (mor 1).mp q with q | q
      · exact absurd z3 (h3.mpr q)
      · exact absurd (by rw [q]; rfl) nq
  refine sg_look_0 _ _ (MT_up (by omega) (MTv_mono (fa G z e) (fun y q => ⟨wv, wv, fun y4 e4 => ?_⟩)))
  have m4 := md_a y 125 w.toNatClampNeg (y.1 125 w.toNatClampNeg + y.1 0 84) (by decide)
  rw [← e4] at m4
  have ky : LKI z a W M O y := by
    refine ⟨mi_w (mi_of q.2) (by decide) (by decide), q.1, ow_mi (mi_of q.2) rfl, ?_, by rw [q.2.2.1 123 (by decide) (by decide)]; omega, by rw [q.2.2.1 123 (by decide) (by decide)]; omega⟩
    unfold fnd
    rw [q.2.2.1 126 (by decide) (by decide)]
    exact hf
  refine p28 _ 0 y4 0 0 0 0 rfl (Nat.le_refl _) (Nat.zero_le _) ⟨fun q => absurd rfl q, fun ⟨t, t1, _⟩ => absurd t1 (Nat.not_lt_zero _)⟩ ⟨fun q => absurd rfl q, fun ⟨t, t1, _⟩ => absurd t1 (Nat.not_lt_zero _)⟩ ((hLF _ _ _).mpr ⟨LKI_c ky (md_w m4 (by decide) (by decide)), fun f _ => Or.inr ⟨fun q => absurd q.1.1 (Nat.not_lt_zero _), ?_⟩⟩)
  rw [m4.2.1 126 (by decide) (by decide), q.2.2.1 126 (by decide) (by decide)]
end LO3
