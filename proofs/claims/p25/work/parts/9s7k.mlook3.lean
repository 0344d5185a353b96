section
/-! the model: a state looked at while trying, what it shows is noted -/
section LO3
variable {G : mG} {d D : Nat} {x z a : gd} {F : Int32 → gd → Prop} {Fv : gd → Prop} {C : gCo} {Ma : gMa} {wn : Nat}
/-- two threads' accesses race -/
def prR (C : gCo) (w : Nat) (M : gMa) (t o : Nat) : Prop := axM C w M t ∧ axM C w M o ∧ (lkM C w M t).2.1 = (lkM C w M o).2.1 ∧ srM (soM C (M.2.2 t)) (soM C (M.2.2 o))
theorem prR_rc {t o : Nat} (h : t < o) (ho : o < C.2.1.length) (p : prR C wn Ma t o) : rcM C wn Ma := ⟨o, t, h, ho, p.2.1, p.1, p.2.2.1.symm, fun q => p.2.2.2.1 ⟨q.2, q.1⟩, fun q => p.2.2.2.2 ⟨q.2, q.1⟩⟩
theorem lkI_n9 {T : Nat} (hX : NXc C) {st : gNs} (s1 : C.1[(Ma.2.2 T).2.2.1]? = some st) (s2 : stN C (Ma.2.2 T).2.2.1 = st) (o4 : st.1 ≤ 4) (c24 : C.2.2.1.length ≤ 24) (l0 : (lkI C Ma T).1 = 0) : 0 ≤ (lkI C Ma T).2.toInt ∧ (lkI C Ma T).2.toInt < C.2.2.1.length := by
  obtain ⟨x1, x2, x3, -, x5, x6⟩ := hX _ st s1
  obtain ⟨z1, z2, z3⟩ := x6 o4
  cases hix : st.2.2.2.2.2.2.2.1 with
  | none =>
    rw [lkI_n (by rw [s2]; exact hix), s2]
    exact ⟨z1, z2⟩
  | some Q =>
    have hix' : (stN C (Ma.2.2 T).2.2.1).2.2.2.2.2.2.2.1 = some Q := by rw [s2]; exact hix
    cases hwk : wkQ (Ma.2.2 T).2.2.2.2.2.2.2 (fun _ => 0) (Int32.ofNat T) Q with
    | none => rw [lkI_1 hix' hwk] at l0; exact absurd l0 (by decide)
    | some v =>
      by_cases cv : v < 0 ∨ (stN C (Ma.2.2 T).2.2.1).2.2.2.2.2.1 ≤ v
      · rw [lkI_2 hix' hwk cv] at l0; exact absurd l0 (by decide)
      · rw [lkI_0 hix' hwk cv, s2]
        rw [s2] at cv
        have v0 : 0 ≤ v.toInt := by
          have : ¬ v < 0 := fun z => cv (Or.inl z)
          rw [t_lt] at this
          have k0 : (0 : Int32).toInt = 0 := rfl
          omega
        have v1 : v.toInt < st.2.2.2.2.2.1.toInt := by
          have : ¬ st.2.2.2.2.2.1 ≤ v := fun z => cv (Or.inr z)
          rw [t_le] at this
          omega
        have z3 := z3 (by rw [hix]; exact fun z => nomatch z)
        have e5 : (st.2.2.2.2.1 + v).toInt = st.2.2.2.2.1.toInt + v.toInt := t_add (by omega) (by omega)
        show 0 ≤ (st.2.2.2.2.1 + v).toInt ∧ (st.2.2.2.2.1 + v).toInt < _
        omega
/-- a cell that is accessed is one of those that there are -/
theorem lkM_in {T : Nat} (hN : NC C) (hX : NXc C) (am : AM C wn Ma a) (ht : T < 6) (h1 : a.1 73 T = 1) (so4 : soM C (Ma.2.2 T) ≤ 4) (l0 : (lkM C wn Ma T).1 = 0) : 0 ≤ (lkM C wn Ma T).2.1.toInt ∧ (lkM C wn Ma T).2.1.toInt < C.2.2.1.length := by
  obtain ⟨av, hK, hM, hI, wy, -⟩ := am
  obtain ⟨kv, kn, -, -⟩ := RI_step av.1 ht h1
  obtain ⟨m73, l73, m75, m74, -⟩ := hM.2.2 T ht
  have l52 : (a.1 0 52).toInt = C.1.length := hK.1.1
  have nC : (a.1 0 23).toInt = C.2.2.1.length := hK.2.2.1.1
  have c24 : (a.1 0 23).toInt ≤ 24 := av.1.1.1.2.1
  obtain ⟨st, hst⟩ : ∃ st, C.1[(Ma.2.2 T).2.2.1]? = some st := ⟨_, List.getElem?_eq_getElem (by omega)⟩
  have esN := stN_is hst
  have w0 : (Ma.2.2 T).2.2.2.1 = 0 := by
    by_cases w0 : (Ma.2.2 T).2.2.2.1 = 0
    · exact w0
    · unfold soM at so4; rw [if_neg w0] at so4; omega
  have o4 : st.1 ≤ 4 := by unfold soM at so4; rw [if_pos w0, esN] at so4; exact so4
  rw [lkM_c w0]
  refine lkI_n9 hX hst esN o4 (by omega) ?_
  apply Classical.byContradiction
  intro c
  rw [lkM_i w0 c] at l0
  exact c l0
theorem sp_mayRace4 {s o : Int32} {k l : Nat} (es : s = Int32.ofNat k) (eo : o = Int32.ofNat l) (hk : k < 22) (hl : l < 22) (h : ∀ r : Int32, (¬ r = 0 ↔ k ≤ 4 ∧ l ≤ 4 ∧ srM k l) → F r x) : MT G (d + 1) z_mayRace 0 [(0, vr 0), (1, vi s), (2, vi o)] [] x (ri F) := by
  subst es
  subst eo
  exact sp_mayRace3 hk hl h
theorem lkI_m9 {T : Nat} (h : ¬ (lkI C Ma T).1 = 0) : (lkI C Ma T).2 = -1 := by
  cases hix : (stN C (Ma.2.2 T).2.2.1).2.2.2.2.2.2.2.1 with
  | none => rw [lkI_n hix] at h; exact absurd rfl h
  | some Q =>
    cases hwk : wkQ (Ma.2.2 T).2.2.2.2.2.2.2 (fun _ => 0) (Int32.ofNat T) Q with
    | none => rw [lkI_1 hix hwk]
    | some v =>
      by_cases cv : v < 0 ∨ (stN C (Ma.2.2 T).2.2.1).2.2.2.2.2.1 ≤ v
      · rw [lkI_2 hix hwk cv]
      · rw [lkI_0 hix hwk cv] at h; exact absurd rfl h
theorem sp_one3 (v : Int32) {P : Prop} (hv : ¬ v = 0 ↔ P) (h : ∀ r : Int32, ((P ∧ r = 1) ∨ (¬ P ∧ r = 0)) → F r x) : MT G d z_one 0 [(0, vi v)] [] x (ri F) := sg_one_0 _ ⟨fun v0 => ri_i (h _ (Or.inr ⟨fun q => hv.mpr q v0, rfl⟩)), fun vn => ri_i (h _ (Or.inl ⟨hv.mp vn, rfl⟩))⟩
theorem sp_look3 {M : Int} {nl : Nat} {L : List (List Int32)} (hN : NC C) (hX : NXc C) (hq2 : NCq C) (w01 : wn = 0 ∨ wn = 1) (w s : Int32) (wv : vp_in w 2) (am : AM C wn Ma a) (hz0 : ∀ c, C.2.2.1.length ≤ c → Ma.1 c = 0) (l26 : (a.1 0 26).toInt = (C.2.2.2.1.length : Nat)) (l27 : (a.1 0 27).toInt = (C.2.2.2.2.length : Nat)) (e : eqS (Sl a) a z) (s0 : 0 ≤ s.toInt) (s1 : s.toInt < M) (hf : fnd z w.toNatClampNeg M) (o0 : 0 ≤ (z.1 123 w.toNatClampNeg).toInt) (o1 : (z.1 123 w.toNatClampNeg).toInt < 3000) (en : (a.1 0 24).toInt = (nl : Nat)) (hL : OUm z w.toNatClampNeg L) (hlt : L.length < 3000) (hso : soR L) (hll : ∀ t ∈ L, t.length = C.2.2.1.length) (hD : 5 ≤ D) (h : ∀ z', LKI z a w.toNatClampNeg M ((z.1 123 w.toNatClampNeg).toInt + 1) z' → FAm z z' w.toNatClampNeg s (fD C wn Ma 11) → LZ2 C wn nl Ma L (a.1 0 84) z z' w.toNatClampNeg C.2.1.length → Fv z') : MT G D z_look 0 [(0, vr 0), (1, vi w), (2, vi s)] [] z (rv Fv) := by
  obtain ⟨D, rfl⟩ : ∃ D', D = D' + 2 := ⟨D - 2, by omega⟩
  have k0 : (0 : Int32).toInt = 0 := rfl
  have k1 : (1 : Int32).toInt = 1 := rfl
  have k4 : (4 : Int32).toInt = 4 := rfl
  have n1 : ¬ (1 : Int32) = 0 := by decide
  obtain ⟨W, eW⟩ : ∃ W, W = w.toNatClampNeg := ⟨_, rfl⟩
  have W2 : W < 2 := by rw [eW]; exact vp_lt wv
  rw [← eW] at hf o0 o1 h hL
  obtain ⟨O, eO⟩ : ∃ O, O = (z.1 123 W).toInt := ⟨_, rfl⟩
  rw [← eO] at o0 o1 h
  have av := am.1
  obtain ⟨ri, wy, ch, c0, c84, fa⟩ := id av
  obtain ⟨g1, g2, g3, g4, g5, g6, g7, g8, g9, g10, _⟩ := id ri.1.1
  have wk1 := ri.1.2.2.1
  have wk2 := ri.1.2.2.2
  obtain ⟨-, hK, hM, hI, wyw, chE9⟩ := id am
  have nT : (a.1 0 25).toInt = C.2.1.length := hK.2.1.1
  have nC : (a.1 0 23).toInt = C.2.2.1.length := hK.2.2.1.1
  have n84 : (a.1 0 84).toInt = ((chM C wn Ma).length : Nat) := AM_n am
  have f25 : ∀ {y : gd}, eqS (Sm a) a y → y.1 0 25 = a.1 0 25 := fun e => cF e (by decide)
  have f24 : ∀ {y : gd}, eqS (Sm a) a y → y.1 0 24 = a.1 0 24 := fun e => cF e (by decide)
  have f73 : ∀ {y : gd}, eqS (Sm a) a y → ∀ t, t < 6 → y.1 73 t = Int32.ofNat (Ma.2.2 t).1 := fun e t ht => by rw [cA e (c := 73) (n := 6) (by decide) ht]; exact (hM.2.2 t ht).1
  have LKf : ∀ {B : Int} {y y' : gd}, md rL rA y y' → y'.1 126 = y.1 126 := fun m => m.2.1 126 (by decide) (by decide)
  have n6 : nl ≤ 6 := by omega
  obtain ⟨Z2, hZ2⟩ : ∃ Z2 : gd → Nat → Prop, ∀ y k, Z2 y k ↔ LZ2 C wn nl Ma L (a.1 0 84) z y W k := ⟨_, fun _ _ => Iff.rfl⟩
  have Zr : ∀ {y y' : gd} {k : Nat}, md rL rA y y' → Z2 y k → Z2 y' k := fun m q => (hZ2 _ _).mpr (LZ3_f (eqL_r m) ((hZ2 _ _).mp q))
  have Z6 : ∀ {y y' : gd} {k : Nat}, md [] [126] y y' → Z2 y k → Z2 y' k := fun m q => (hZ2 _ _).mpr (LZ3_f (eqL_6 m) ((hZ2 _ _).mp q))
  -- threads: their acts
  obtain ⟨RB, hRB⟩ : ∃ RB : gd → (Nat → Nat → Prop) → Prop, ∀ y K, RB y K ↔ (LKI z a W M (O + 1) y ∧ ∃ b : Prop, (b → rcM C wn Ma) ∧ (∀ t o, t < o → o < C.2.1.length → K t o → prR C wn Ma t o → b) ∧ FAm z y W s (fun f => fD C wn Ma 10 f ∨ (f = 10 ∧ b))) := ⟨_, fun y K => Iff.rfl⟩
  have RBmd : ∀ {y y' : gd} {K : Nat → Nat → Prop}, RB y K → md rL rA y y' → eqS (Sm a) a y' → RB y' K := fun q m e' => by
    obtain ⟨q1, b, q2, q3, q4⟩ := (hRB _ _).mp q
    exact (hRB _ _).mpr ⟨LKI_md q1 m e', b, q2, q3, FAm_f (m.2.1 126 (by decide) (by decide)) q4⟩
  have RBc : ∀ {y y' : gd} {K : Nat → Nat → Prop}, RB y K → md [] [122, 124, 125, 127, 128] y y' → RB y' K := fun q m => by
    obtain ⟨q1, b, q2, q3, q4⟩ := (hRB _ _).mp q
    exact (hRB _ _).mpr ⟨LKI_c q1 m, b, q2, q3, FAm_f (m.2.1 126 (by decide) (by decide)) q4⟩
  have RBk : ∀ {y : gd} {K K' : Nat → Nat → Prop}, (∀ t o, t < o → o < C.2.1.length → K' t o → prR C wn Ma t o → K t o) → RB y K → RB y K' := fun hk q => by
    obtain ⟨q1, b, q2, q3, q4⟩ := (hRB _ _).mp q
    exact (hRB _ _).mpr ⟨q1, b, q2, fun t o h1 h2 h3 h4 => q3 t o h1 h2 (hk t o h1 h2 h3 h4) h4, q4⟩
  have RBe : ∀ {y : gd} {K : Nat → Nat → Prop}, RB y K → LKI z a W M (O + 1) y := fun q => ((hRB _ _).mp q).1
  have p292 : ∀ (n : Nat) (y : gd) (t : Int32), 0 ≤ t.toInt → t.toInt ≤ (a.1 0 25).toInt → (a.1 0 25).toInt - t.toInt ≤ n → RB y (fun t' _ => (t' : Int) < t.toInt) → Z2 y t.toInt.toNat → MT G (D + 2) z_look 292 [(0, vr 0), (1, vi w), (2, vi s), (6, vi t)] [] y (rv Fv) := by
    intro n
    have fin : ∀ (y : gd) (t : Int32), t.toInt ≤ (a.1 0 25).toInt → (a.1 0 25).toInt ≤ t.toInt → RB y (fun t' _ => (t' : Int) < t.toInt) → Z2 y t.toInt.toNat → rv Fv none y := by
      intro y t ht9 ht q qz
      obtain ⟨q1, b, q2, q3, q4⟩ := (hRB _ _).mp q
      refine rv_i (h y q1 (FAm_c (fun f hf9 => ?_) q4) (by rw [show C.2.1.length = t.toInt.toNat by omega]; exact (hZ2 _ _).mp qz))
      constructor
      · rintro (c | ⟨c, cb⟩)
        · exact ⟨by have := c.1; omega, c.2⟩
        · exact ⟨by omega, by rw [c, fn_10]; exact q2 cb⟩
      · intro c
        by_cases c10 : f = 10
        · refine Or.inr ⟨c10, ?_⟩
          have rc := c.2
          rw [c10, fn_10] at rc
          obtain ⟨o, t', r1, r2, r3, r4, r5, r6⟩ := rc
          exact q3 t' o r1 r2 (by omega) ⟨r4, r3, r5.symm, fun q => r6.1 ⟨q.2, q.1⟩, fun q => r6.2 ⟨q.2, q.1⟩⟩
        · exact Or.inl ⟨by have := c.1; omega, c.2⟩
    induction n with
    | zero =>
      intro y t t0 t9 hn ky kz
      exact sg_look_292 _ _ _ ⟨fun c => fin y t t9 (by rw [t_le, f25 (RBe ky).2.1] at c; exact c) ky kz, fun c => absurd (t_le.mpr (by rw [f25 (RBe ky).2.1]; omega)) c⟩
    | succ n ih =>
      intro y t t0 t9 hn ky kz
      refine sg_look_292 _ _ _ ⟨fun c => fin y t t9 (by rw [t_le, f25 (RBe ky).2.1] at c; exact c) ky kz, fun c => ?_⟩
      rw [t_le, f25 (RBe ky).2.1] at c
      have tv : vp_in t 6 := by rw [vp_in_iff]; omega
      have ti : (t + 1).toInt = t.toInt + 1 := by rw [t_add (by omega) (by omega), k1]
      obtain ⟨T, eT⟩ : ∃ T, T = t.toNatClampNeg := ⟨_, rfl⟩
      have cT : t.toInt = (T : Nat) := by rw [eT]; exact (cl_i t0).symm
      have T6 : T < 6 := by omega
      have Tn : T < C.2.1.length := by omega
      have kz : Z2 y T := by rw [show T = t.toInt.toNat by omega]; exact kz
      have nx : ∀ y, RB y (fun t' _ => (t' : Int) < t.toInt ∨ t' = T) → Z2 y (T + 1) → MT G (D + 2) z_look 292 [(0, vr 0), (1, vi w), (2, vi s), (6, vi (t + 1))] [] y (rv Fv) := fun y ky kz => ih y (t + 1) (by omega) (by omega) (by omega) (RBk (fun t' o h1 h2 h3 _ => by omega) ky) (by rw [show (t + 1).toInt.toNat = T + 1 by omega]; exact kz)
      have nx0 : ¬ axM C wn Ma T → ∀ {y : gd} {K : Nat → Nat → Prop}, (∀ t' o : Nat, (t' : Int) < t.toInt → K t' o) → RB y K → Z2 y (T + 1) → MT G (D + 2) z_look 292 [(0, vr 0), (1, vi w), (2, vi s), (6, vi (t + 1))] [] y (rv Fv) := fun na y K hk ky kz => nx y (RBk (fun t' o h1 h2 h3 h4 => by
        rcases h3 with h3 | h3
        · exact hk t' o h3
        · rw [h3] at h4; exact absurd h4.1 na) ky) kz
      refine sp_hasAct3 hN hX w01 am (RBe ky).2.1 t tv (by omega) (fun nc y' m e' => ⟨fun q => absurd rfl q, fun _ => nx0 (fun q => nc (by rw [← eT]; exact q.1)) (fun _ _ q => q) (RBmd ky m e') ((hZ2 _ _).mpr (LZ2_n (by rw [eT]; exact nc) ((hZ2 _ _).mp (Zr m kz))))⟩) (fun st st7 hcan y' m e' => ⟨fun _ => ?_, fun q => absurd q (by decide)⟩)
      rw [← eT] at hcan
      have ky' := RBmd ky m e'
      refine sp_locksOf3 (nl := nl) (M := Ma) (T := T) t cT T6 (by rw [f24 e']; exact en) n6 (fun l hl => by rw [cA e' (c := 71) (n := 6) (by decide) (by omega)]; exact ⟨(hM.2.1 l (by omega)).1, (hM.2.1 l (by omega)).2.1⟩) (sp_lookAt3 hN hX w01 am e' t tv st st7 (by omega) (fun y7 x7 e7 m7 lp e88 e89 q89 q88 => ?_))
      have ky7 := RBmd ky' m7 e7
      have kz7 : Z2 y7 T := Zr m7 (Zr m kz)
      obtain ⟨kv, kn, so, avv⟩ := RI_step ri (vt tv) st
      obtain ⟨r1, r2, r3⟩ := srt_of ri (vt tv) st
      have k74 : y7.1 74 t.toNatClampNeg = a.1 74 t.toNatClampNeg := cA e7 (n := 6) (by decide) (vt tv)
      have esl : eqS (Sl a) a y7 := eqS_w (Sl_Sm a) e7
      have es := srt_eq esl ri (vt tv)
      refine sp_sortOf t tv (by rw [k74]; exact kv) ?_
      rw [es]
      obtain ⟨ss, s22⟩ := srt_so hN am (vt tv) st st7
      obtain ⟨so', eso⟩ : ∃ q, q = srt a t.toNatClampNeg := ⟨_, rfl⟩
      obtain ⟨cc, ecc⟩ : ∃ q, q = y7.1 0 88 := ⟨_, rfl⟩
      unfold lkP at lp
      rw [← eso] at lp r1 r2 r3 ss ⊢
      rw [← e88, ← ecc] at lp
      rw [← e89] at lp
      rw [← eT] at q89 q88 ss s22
      rw [← ecc] at q88
      obtain ⟨l1, l2, l3⟩ := lp
      have eso4 : so'.toInt = (soM C (Ma.2.2 T) : Nat) := by rw [ss]; exact Int32.toInt_ofNat_of_lt (by omega)
      have fl : (y7.1 0 89 = 0) ↔ (lkM C wn Ma T).1 = 0 := by
        have z0 : ∀ n, n < 10 → (Int32.ofNat n = 0 ↔ n = 0) := by decide +kernel
        rw [q89]; exact z0 _ (by have := lkM_le (C := C) (w := wn) (M := Ma) (t := T); omega)
      -- races with the other threads
      have p464 : ∀ v : Int32, (¬ v = 0 ↔ y7.1 0 89 = 0) → ∀ (m : Nat) (u : gd) (o : Int32), t.toInt < o.toInt → (a.1 0 25).toInt - o.toInt ≤ m → RB u (fun t' o' => (t' : Int) < t.toInt ∨ (t' = T ∧ (o' : Int) < o.toInt)) → Z2 u (T + 1) → MT G (D + 2) z_look 464 [(0, vr 0), (1, vi w), (2, vi s), (6, vi t), (8, vi so'), (9, vi cc), (10, vi v), (11, vi o)] [] u (rv Fv) := by
        intro v hv m
        have full : ∀ (u : gd) (o : Int32), (a.1 0 25).toInt ≤ o.toInt → RB u (fun t' o' => (t' : Int) < t.toInt ∨ (t' = T ∧ (o' : Int) < o.toInt)) → Z2 u (T + 1) → MT G (D + 2) z_look 292 [(0, vr 0), (1, vi w), (2, vi s), (6, vi (t + 1))] [] u (rv Fv) := fun u o ho ku uz => nx u (RBk (fun t' o' h1 h2 h3 _ => by
          rcases h3 with h3 | h3
          · exact Or.inl h3
          · exact Or.inr ⟨h3, by omega⟩) ku) uz
        induction m with
        | zero =>
          intro u o o0' hm ku uz
          exact sg_look_464 _ _ _ _ _ _ _ ⟨fun c2 => full u o (by rw [t_le, f25 (RBe ku).2.1] at c2; exact c2) ku uz, fun c2 => absurd (t_le.mpr (by rw [f25 (RBe ku).2.1]; omega)) c2⟩
        | succ m ihm =>
          intro u o o0' hm ku uz
          refine sg_look_464 _ _ _ _ _ _ _ ⟨fun c2 => full u o (by rw [t_le, f25 (RBe ku).2.1] at c2; exact c2) ku uz, fun c2 => ?_⟩
          rw [t_le, f25 (RBe ku).2.1] at c2
          have ov : vp_in o 6 := by rw [vp_in_iff]; omega
          have oi : (o + 1).toInt = o.toInt + 1 := by rw [t_add (by omega) (by omega), k1]
          obtain ⟨Q, eQ⟩ : ∃ Q, Q = o.toNatClampNeg := ⟨_, rfl⟩
          have cQ : o.toInt = (Q : Nat) := by rw [eQ]; exact (cl_i (by omega)).symm
          have Qn : Q < C.2.1.length := by omega
          have TQ : T < Q := by omega
          have go : ¬ prR C wn Ma T Q → ∀ {u : gd}, RB u (fun t' o' => (t' : Int) < t.toInt ∨ (t' = T ∧ (o' : Int) < o.toInt)) → Z2 u (T + 1) → MT G (D + 2) z_look 464 [(0, vr 0), (1, vi w), (2, vi s), (6, vi t), (8, vi so'), (9, vi cc), (10, vi v), (11, vi (o + 1))] [] u (rv Fv) := fun np u ku uz => ihm u (o + 1) (by omega) (by omega) (RBk (fun t' o' h1 h2 h3 h4 => by
            rcases h3 with h3 | ⟨h3, h5⟩
            · exact Or.inl h3
            · by_cases eo : o' = Q
              · rw [h3, eo] at h4; exact absurd h4 np
              · exact Or.inr ⟨h3, by omega⟩) ku) uz
          refine sp_isAccess _ (fun sa => ⟨fun _ => nx0 (fun q => sa (by have := q.2.1; omega)) (fun _ _ q => Or.inl q) ku uz, fun q => absurd rfl q⟩) (fun sa => ⟨fun q => absurd q (by decide), fun _ => ⟨fun v0 => nx0 (fun q => hv.mpr (fl.mpr q.2.2.1) v0) (fun _ _ q => Or.inl q) ku uz, fun nv => ?_⟩⟩)
          have y89 := hv.mp nv
          have cr' := (l3 (by rw [y89, k0]; omega)).1 sa
          have cv : vp_in cc 24 := by rw [vp_in_iff]; exact cr'
          refine sp_hasAct3 hN hX w01 am (RBe ku).2.1 o ov (by omega) (fun nc u' mu eu => ⟨fun _ => go (fun q => nc (by rw [← eQ]; exact q.2.1.1)) (RBmd ku mu eu) (Zr mu uz), fun q => absurd rfl q⟩) (fun so2 so7 hcan2 u' mu eu => ⟨fun q => absurd q (by decide), fun _ => ?_⟩)
          rw [← eQ] at hcan2
          have ku' := RBmd ku mu eu
          have uz' := Zr mu uz
          refine sp_lookAt3 hN hX w01 am eu o ov so2 so7 (by omega) (fun u9 x9 e9 m9 _ _ _ w89 w88 => ?_)
          have ku9 := RBmd ku' m9 e9
          have uz9 := Zr m9 uz'
          rw [← eQ] at w89 w88
          have fl2 : (u9.1 0 89 = 0) ↔ (lkM C wn Ma Q).1 = 0 := by
            have z0 : ∀ n, n < 10 → (Int32.ofNat n = 0 ↔ n = 0) := by decide +kernel
            rw [w89]; exact z0 _ (by have := lkM_le (C := C) (w := wn) (M := Ma) (t := Q); omega)
          refine ⟨fun nf => go (fun q => nf (fl2.mpr q.2.1.2.2.1)) ku9 uz9, fun zf => ?_⟩
          obtain ⟨kv2, _, _, _⟩ := RI_step ri (vt ov) so2
          obtain ⟨ss2, s222⟩ := srt_so hN am (vt ov) so2 so7
          rw [← eQ] at ss2 s222
          refine sp_sortOf o ov (by rw [cA e9 (c := 74) (n := 6) (by decide) (vt ov)]; exact kv2) ?_
          rw [srt_eq (eqS_w (Sl_Sm a) e9) ri (vt ov), ← eQ]
          refine sp_mayRace4 ss ss2 s22 s222 (fun r hr => ⟨fun r0 => go (fun q => hr.mpr ⟨q.1.2.1, q.2.1.2.1, q.2.2.2⟩ r0) ku9 uz9, fun rn => ⟨fun ne => go (fun q => ne (by rw [w88, q88]; exact q.2.2.1.symm)) ku9 uz9, fun ee => ⟨cv, ?_⟩⟩⟩)
          have e37 : u9.1 37 cc.toNatClampNeg = if suM C cc.toNatClampNeg = true then 1 else 0 := by
            have hl : cc.toNatClampNeg < C.2.2.1.length := by
              have := lkM_in hN hX am T6 (by rw [eT]; exact st) (by omega) (fl.mp y89)
              rw [q88, t_cl]; omega
            rw [cA e9 (c := 37) (n := 24) (by decide) (vp_lt cv)]
            have hg := List.getElem?_eq_getElem hl
            rw [(hK.2.2.1.2 _ _ hg).2]
            unfold suM
            rw [hg]
          have ax1 : suM C cc.toNatClampNeg = false → prR C wn Ma T Q := fun su => ⟨⟨hcan, by omega, fl.mp y89, by rw [← q88]; exact su⟩, ⟨hcan2, (hr.mp rn).2.1, fl2.mp zf, by rw [← w88, ee]; exact su⟩, by rw [← q88, ← w88, ee], (hr.mp rn).2.2⟩
          refine ⟨fun sn => go (fun q => sn ?_) ku9 uz9, fun sz => ?_⟩
          · have := q.1.2.2.2
            rw [← q88] at this
            rw [e37, this]; rfl
          · have su : suM C cc.toNatClampNeg = false := by
              cases hsu : suM C cc.toNatClampNeg with
              | false => rfl
              | true => rw [e37, hsu] at sz; exact absurd sz (by decide)
            have pr := ax1 su
            refine sp_find3 w 10 s wv (f9 := 10) rfl (by omega) s0 s1 (by rw [← eW]; exact (RBe ku9).2.2.2.1) (fun u10 m10 o10 f10 t1 t2 t3 => ihm u10 (o + 1) (by omega) (by omega) ?_ (Z6 m10 uz9))
            rw [← eW] at o10 f10 t1 t2 t3
            obtain ⟨q1, b, q2, q3, q4⟩ := (hRB _ _).mp ku9
            refine (hRB _ _).mpr ⟨LKI_f q1 m10 o10 f10, True, fun _ => prR_rc TQ Qn pr, fun _ _ _ _ _ _ => trivial, FAm_c (fun f _ => ?_) (FAm_find s0 (by omega) t1 t2 t3 q4)⟩
            constructor
            · rintro ((c | c) | c)
              · exact Or.inl c
              · exact Or.inr ⟨c.1, trivial⟩
              · exact Or.inr ⟨c, trivial⟩
            · rintro (c | c)
              · exact Or.inl (Or.inl c)
              · exact Or.inr c.1
      -- locks that it holds
      obtain ⟨stp, hst⟩ : ∃ st, C.1[(Ma.2.2 T).2.2.1]? = some st := by
        have m74 := (hM.2.2 T T6).2.2.2.1
        have l52 : (a.1 0 52).toInt = C.1.length := hK.1.1
        have kn9 := kn
        rw [← eT] at kn9
        exact ⟨_, List.getElem?_eq_getElem (by omega)⟩
      have esN := stN_is hst
      have w0f : ∀ {n : Nat}, soM C (Ma.2.2 T) = n → ¬ n = 15 → (Ma.2.2 T).2.2.2.1 = 0 ∧ stp.1 = n := fun {n} e hn => by
        by_cases w0 : (Ma.2.2 T).2.2.2.1 = 0
        · unfold soM at e; rw [if_pos w0, esN] at e; exact ⟨w0, e⟩
        · unfold soM at e; rw [if_neg w0] at e; exact absurd e.symm hn
      have endA : ∀ {u : gd} {j : Nat}, nl ≤ j → LZ3 C wn nl Ma L (a.1 0 84) z u W T (T + 1) j → Z2 u (T + 1) := fun hj q => (hZ2 _ _).mpr (LZ3_end q (fun a9 b9 h1 h2 h3 tk => by
        have e := hd_hi (M := Ma) (t := T) h2 nl (by omega)
        rw [tk.2.2.2.1] at e
        exact absurd e (by decide)))
      have endB : ∀ {u : gd} {j : Nat}, ¬ soM C (Ma.2.2 T) = 5 → LZ3 C wn nl Ma L (a.1 0 84) z u W T (T + 1) j → Z2 u (T + 1) := fun hs q => (hZ2 _ _).mpr (LZ3_end q (fun a9 b9 _ _ _ tk => hs tk.2.1))
      have p400 : ∀ v : Int32, (¬ v = 0 ↔ y7.1 0 89 = 0) → ∀ (m : Nat) (u : gd) (l : Int32), 0 ≤ l.toInt → l.toInt ≤ (a.1 0 24).toInt → (a.1 0 24).toInt - l.toInt ≤ m → RB u (fun t' _ => (t' : Int) < t.toInt) → LZ3 C wn nl Ma L (a.1 0 84) z u W T (T + 1) l.toInt.toNat → MT G (D + 2) z_look 400 [(0, vr 0), (1, vi w), (2, vi s), (6, vi t), (7, vi (hdN Ma T nl)), (8, vi so'), (9, vi cc), (10, vi v), (11, vi l)] [] u (rv Fv) := by
        intro v hv m
        have last : ∀ u, RB u (fun t' _ => (t' : Int) < t.toInt) → Z2 u (T + 1) → MT G (D + 2) z_look 464 [(0, vr 0), (1, vi w), (2, vi s), (6, vi t), (8, vi so'), (9, vi cc), (10, vi v), (11, vi (t + 1))] [] u (rv Fv) := fun u ku uz => p464 v hv 6 u (t + 1) (by omega) (by omega) (RBk (fun t' o' h1 h2 h3 _ => by
          rcases h3 with h3 | h3
          · exact h3
          · omega) ku) uz
        induction m with
        | zero =>
          intro u l l0 l9 hm ku uz
          exact sg_look_400 _ _ _ _ _ _ _ _ ⟨fun c2 => last u ku (endA (by rw [t_le, f24 (RBe ku).2.1] at c2; omega) uz), fun c2 => absurd (t_le.mpr (by rw [f24 (RBe ku).2.1]; omega)) c2⟩
        | succ m ihm =>
          intro u l l0 l9 hm ku uz
          refine sg_look_400 _ _ _ _ _ _ _ _ ⟨fun c2 => last u ku (endA (by rw [t_le, f24 (RBe ku).2.1] at c2; omega) uz), fun c2 => ⟨fun n5 => last u ku (endB (fun e => n5 (by rw [ss, e]; rfl)) uz), fun e5 => ?_⟩⟩
          rw [t_le, f24 (RBe ku).2.1] at c2
          have li : (l + 1).toInt = l.toInt + 1 := by rw [t_add (by omega) (by omega), k1]
          have o := r2 (Or.inl (by rw [e5]; decide))
          have ccv : cc.toInt = (a.1 56 (a.1 74 t.toNatClampNeg).toNatClampNeg).toInt := by rw [l2 (Or.inl (by rw [e5]; decide))]
          have k6 : (6 : Int32).toInt = 6 := rfl
          have k36 : (36 : Int32).toInt = 36 := rfl
          have wb := vp_in_iff.mp wv
          have a1 : (36 * w).toInt = 36 * w.toInt := by rw [t_mul (by rw [k36]; omega) (by rw [k36]; omega), k36]
          have a2 : (6 * l).toInt = 6 * l.toInt := by rw [t_mul (by rw [k6]; omega) (by rw [k6]; omega), k6]
          have a3 : (36 * w + 6 * l).toInt = 36 * w.toInt + 6 * l.toInt := by rw [t_add (by omega) (by omega), a1, a2]
          have so5 : soM C (Ma.2.2 T) = 5 := by
            have k5 : (5 : Int32).toInt = 5 := rfl
            rw [e5, k5] at eso4; omega
          obtain ⟨w0, st5⟩ := w0f so5 (by decide)
          have nix : (stN C (Ma.2.2 T).2.2.1).2.2.2.2.2.2.2.1 = none := by
            apply Classical.byContradiction
            intro q
            rw [esN] at q
            have := (hX _ stp hst).1 q
            omega
          have ecc2 : cc = (stN C (Ma.2.2 T).2.2.1).2.2.2.2.1 := by rw [q88, lkM_c w0, lkI_n nix]
          have obB : obM C (Ma.2.2 T).2.2.1 = cc.toInt.toNat := by unfold obM; rw [← ecc2, t_cl]
          obtain ⟨j, ej⟩ : ∃ j : Nat, l.toInt = j := ⟨l.toInt.toNat, by omega⟩
          have lK : l = Int32.ofNat j := i32_of ej
          have uz : LZ3 C wn nl Ma L (a.1 0 84) z u W T (T + 1) j := by rw [show j = l.toInt.toNat by omega]; exact uz
          have nj : ∀ u, RB u (fun t' _ => (t' : Int) < t.toInt) → LZ3 C wn nl Ma L (a.1 0 84) z u W T (T + 1) (j + 1) → MT G (D + 2) z_look 400 [(0, vr 0), (1, vi w), (2, vi s), (6, vi t), (7, vi (hdN Ma T nl)), (8, vi so'), (9, vi cc), (10, vi v), (11, vi (l + 1))] [] u (rv Fv) := fun u ku uz => ihm u (l + 1) (by omega) (by omega) (by omega) ku (by rw [show (l + 1).toInt.toNat = j + 1 by omega]; exact uz)
          refine ⟨fun nb => nj u ku (LZ3_no uz (fun b hb tk => nb (by rw [lK]; exact tk.2.2.2.1))), fun yb => ⟨fun el => nj u ku (LZ3_no uz (fun b hb tk => tk.2.2.1 (by rw [obB, ← el]; omega))), fun nel => ⟨?_, fun u6 e6 => ?_⟩⟩⟩
          · rw [vp_in_iff, t_add (by omega) (by omega), a3]; omega
          · have m6 := md_a u 128 (36 * w + 6 * l + cc).toNatClampNeg (vp_nar .boolean 1) (by decide)
            rw [← e6] at m6
            refine nj u6 (RBc ku (md_w m6 (by decide) (by decide))) (LZ3_yes (B := cc.toInt.toNat) W2 (by omega) (by omega) ?_ uz (fun b hb => ⟨fun tk => tk.2.2.2.2.trans obB, fun e => ⟨hcan, so5, fun q => nel ?_, by rw [← lK]; exact yb, e.trans obB.symm⟩⟩))
            · rw [e6]
              congr 1
              rw [t_cl, t_add (by omega) (by omega), a3]
              rw [t_cl] at eW
              omega
            · rw [t_eq]
              rw [obB] at q
              omega
      have p353 : ∀ v : Int32, (¬ v = 0 ↔ y7.1 0 89 = 0) → MT G (D + 2) z_look 353 [(0, vr 0), (1, vi w), (2, vi s), (6, vi t), (7, vi (hdN Ma T nl)), (8, vi so'), (9, vi cc)] [vi v] y7 (rv Fv) := by
        intro v hv
        have q400 : ∀ u, RB u (fun t' _ => (t' : Int) < t.toInt) → LZ3 C wn nl Ma L (a.1 0 84) z u W T (T + 1) 0 → MT G (D + 2) z_look 400 [(0, vr 0), (1, vi w), (2, vi s), (6, vi t), (7, vi (hdN Ma T nl)), (8, vi so'), (9, vi cc), (10, vi v), (11, vi 0)] [] u (rv Fv) := fun u ku uz => p400 v hv 6 u 0 (by decide) (by rw [k0]; omega) (by rw [k0]; omega) ku uz
        have nca : ¬ (soM C (Ma.2.2 T) ≤ 4 ∧ (lkI C Ma T).1 = 0) → LZ3 C wn nl Ma L (a.1 0 84) z y7 W T (T + 1) 0 := fun hn => LZ2_c ((hZ2 _ _).mp kz7) W2 (fun _ _ => rfl) (fun _ _ => rfl) (fun c hc => by
          unfold caT
          rw [if_neg (fun q => hn ⟨q.2.1, q.2.2.1⟩)])
        have ccI : soM C (Ma.2.2 T) ≤ 4 → cc = (lkI C Ma T).2 := fun h4 => by rw [q88, lkM_c (w0f rfl (by omega)).1]
        have cc0 : soM C (Ma.2.2 T) ≤ 4 → (lkI C Ma T).1 = 0 → 0 ≤ cc.toInt := fun h4 l0 => by
          rw [ccI h4]
          exact (lkI_n9 hX hst esN (by have := (w0f (n := soM C (Ma.2.2 T)) rfl (by omega)).2; omega) (by omega) l0).1
        refine sg_look_353 _ _ _ _ _ _ _ (sp_isAccess _ (fun na => ⟨fun _ => q400 y7 ky7 (nca (fun q => na (by have := q.1; omega))), fun q => absurd rfl q⟩) (fun sa => ⟨fun q => absurd q (by decide), fun _ => ⟨fun em => q400 y7 ky7 (nca (fun q => ?_)), fun ne => ?_⟩⟩))
        · have := cc0 q.1 q.2
          rw [em, tm1] at this; omega
        have cr' := (l1 sa).resolve_left ne
        obtain ⟨vv, ev⟩ := tmul (k := 24) (K := 24) (N := 48) (n := 24) rfl wv cr'.1 (by omega) (by omega) (by omega) (by omega)
        rw [← eW] at ev
        have h4 : soM C (Ma.2.2 T) ≤ 4 := by omega
        have l0 : (lkI C Ma T).1 = 0 := by
          apply Classical.byContradiction
          intro q
          exact ne ((ccI h4).trans (lkI_m9 q))
        refine ⟨vv, vv, fun u7 e7' => ?_⟩
        have m7' := md_a y7 127 (24 * w + cc).toNatClampNeg (y7.1 127 (24 * w + cc).toNatClampNeg &&& hdN Ma T nl) (by decide)
        rw [← e7'] at m7'
        refine q400 u7 (RBc ky7 (md_w m7' (by decide) (by decide))) (LZ2_c ((hZ2 _ _).mp kz7) W2 (fun c hc => by rw [e7', si_cell hc]) (fun j hj => ?_) (fun c hc => ?_))
        · rw [e7', ev, si_get, if_neg (fun q => hj cc.toNatClampNeg (by rw [t_cl]; omega) q.2)]
        · unfold caT
          by_cases ec : c = cc.toNatClampNeg
          · rw [e7', ev, si_get, if_pos ⟨rfl, by rw [ec]⟩, if_pos ⟨hcan, h4, l0, by rw [← ccI h4]; exact ec.symm⟩, ec]
          · rw [e7', ev, si_get, if_neg (fun q => ec (by have := q.2; omega)), if_neg (fun q => ec (by rw [ccI h4]; exact q.2.2.2.symm))]
      rw [← ecc]
      exact ⟨fun c9 => p353 0 ⟨fun q => absurd rfl q, fun q => absurd q c9⟩, fun c9 => p353 1 ⟨fun _ => c9, fun _ => n1⟩⟩
  -- quiet
  obtain ⟨LF, hLF⟩ : ∃ LF : gd → Int → Nat → Prop, ∀ y B n, LF y B n ↔ (LKI z a W M B y ∧ FAm z y W s (fD C wn Ma n) ∧ (B = O → LZ0 L (a.1 0 84) z y W) ∧ (B = O + 1 → LZ1 C wn Ma L (a.1 0 84) z y W)) := ⟨_, fun y B n => Iff.rfl⟩
  have LFe : ∀ {y : gd} {B : Int} {n : Nat}, LF y B n → eqS (Sm a) a y := fun q => ((hLF _ _ _).mp q).1.2.1
  have LFmd : ∀ {y y' : gd} {B : Int} {n : Nat}, LF y B n → md rL rA y y' → eqS (Sm a) a y' → LF y' B n := fun q m e' => by
    obtain ⟨q1, q2, q3, q4⟩ := (hLF _ _ _).mp q
    exact (hLF _ _ _).mpr ⟨LKI_md q1 m e', FAm_f (m.2.1 126 (by decide) (by decide)) q2, fun e => LZ0_f (eqL_r m) (q3 e), fun e => LZ1_f (eqL_r m) (q4 e)⟩
  have LFm : ∀ {y : gd} {B : Int} {n m : Nat}, n ≤ m → (∀ f, n ≤ f → f < m → ¬ fnM C wn Ma f) → LF y B n → LF y B m := fun hm hn q => by
    obtain ⟨q1, q2, q34⟩ := (hLF _ _ _).mp q
    exact (hLF _ _ _).mpr ⟨q1, FAm_more hm hn q2, q34⟩
  have fi : ∀ (y : gd) (f : Int32) (B : Int) (n : Nat), f.toInt = (n : Nat) → n < 11 → fnM C wn Ma n → LF y B n → ∀ Fq : gd → Prop, (∀ y', LF y' B (n + 1) → Fq y') → MT G (D + 1) z_find 0 [(0, vr 0), (1, vi w), (2, vi f), (3, vi s)] [] y (rv Fq) := by
    intro y f B n ef n11 fn ky Fq hq
    obtain ⟨q1, q2, q3, q4⟩ := (hLF _ _ _).mp ky
    refine sp_find3 w f s wv ef n11 s0 s1 (by rw [← eW]; exact q1.2.2.2.1) (fun u m o f' t1 t2 t3 => hq u ?_)
    rw [← eW] at o f' t1 t2 t3
    exact (hLF _ _ _).mpr ⟨LKI_f q1 m o f', FAm_c (fun f _ => fD_up fn f) (FAm_find s0 n11 t1 t2 t3 q2), fun e => LZ0_f (eqL_6 m) (q3 e), fun e => LZ1_f (eqL_6 m) (q4 e)⟩
  have p275 : ∀ (y : gd) (v : Int32), (¬ v = 0 ↔ idM C wn Ma) → LF y (O + 1) 10 → MT G (D + 2) z_look 275 [(0, vr 0), (1, vi w), (2, vi s), (5, vi v)] [] y (rv Fv) := by
    intro y v hv ky
    obtain ⟨q1, q2, -, q4⟩ := (hLF _ _ _).mp ky
    have q4 := q4 rfl
    refine sg_look_275 _ _ _ ⟨wv, sp_one3 v hv (fun r hr => ⟨wv, fun y5 e5 => ?_⟩)⟩
    have z5 : LZ2 C wn nl Ma L (a.1 0 84) z y5 W 0 := by
      obtain ⟨h1, h2, h3, h4, h5, h6⟩ := q4
      rw [← eW] at e5
      have e : ∀ c, ¬ c = 124 → y5.1 c = y.1 c := fun c hc => by rw [e5, si_cell hc]
      refine ⟨⟨?_, ?_, by rw [e 125 (by omega)]; exact h3, fun v v1 v2 => ?_⟩, fun c hc => by rw [e 127 (by omega), h4]; rfl, fun a9 _ b9 _ => ?_⟩
      · rcases h1 with ⟨q1, q2, q3⟩ | ⟨q1, q2, q3⟩
        · exact Or.inl ⟨q1, by rw [e 122 (by omega)]; exact q2, OUm_f (e 123 (by omega)) (e 129 (by omega)) q3⟩
        · exact Or.inr ⟨q1, by rw [e 122 (by omega)]; exact q2, OUm_f (e 123 (by omega)) (e 129 (by omega)) q3⟩
      · rcases hr with ⟨r1, r2⟩ | ⟨r1, r2⟩
        · exact Or.inl ⟨r1, by rw [e5, si_get, if_pos ⟨rfl, rfl⟩, h2, r2]⟩
        · exact Or.inr ⟨r1, by rw [e5, si_get, if_pos ⟨rfl, rfl⟩, h2, r2, Int32.add_zero]⟩
      · obtain ⟨a1, a2, a3, a4, a5, a6⟩ := h6 v v1 v2
        exact ⟨by rw [e 122 (by omega)]; exact a1, by rw [e5, si_get, if_neg (fun q => v2 q.2)]; exact a2, by rw [e 125 (by omega)]; exact a3, fun c hc => by rw [e 127 (by omega)]; exact a4 c hc, fun k hk => by rw [e 128 (by omega)]; exact a5 k hk, fun j hj => by rw [e 129 (by omega)]; exact a6 j hj⟩
      · rw [e 128 (by omega), h5, if_neg (Nat.not_lt_zero _)]
        exact ⟨Or.inl, fun q => q.elim id (fun ⟨t, q, _⟩ => absurd q (Nat.not_lt_zero _))⟩
    have m5 := md_a y 124 w.toNatClampNeg (y.1 124 w.toNatClampNeg + r) (by decide)
    rw [← e5] at m5
    refine p292 6 y5 0 (by decide) (by rw [k0]; omega) (by rw [k0]; omega) (RBc ((hRB _ _).mpr ⟨q1, False, fun q => absurd q (fun q => q), fun t' o' _ _ h3 _ => by rw [k0] at h3; omega, FAm_c (fun f _ => ⟨Or.inl, fun q => q.elim id (fun q => absurd q.2 (fun q => q))⟩) q2⟩) (md_w m5 (by decide) (by decide))) ((hZ2 _ _).mpr z5)
  have p262 : ∀ (y : gd) (v4 v5 : Int32), (¬ v4 = 0 ↔ fnM C wn Ma 9) → (¬ v5 = 0 ↔ idM C wn Ma) → LF y (O + 1) 9 → MT G (D + 2) z_look 262 [(0, vr 0), (1, vi w), (2, vi s), (4, vi v4), (5, vi v5)] [] y (rv Fv) := fun y v4 v5 h9 h5 ky => sg_look_262 _ _ _ _ ⟨fun z4 => p275 y v5 h5 (LFm (n := 9) (by omega) (fun f h1 h2 q => h9.mpr (by rw [show f = 9 by omega] at q; exact q) z4) ky), fun n4 => fi y 9 (O + 1) 9 rfl (by omega) (h9.mp n4) ky _ (fun y' ky' => p275 y' v5 h5 ky')⟩
  have up : ∀ {y : gd} {n : Nat}, ¬ chM C wn Ma = [] → LF y O n → LF y (O + 1) n := fun hc q => by
    obtain ⟨q, q2, q3, -⟩ := (hLF _ _ _).mp q
    exact (hLF _ _ _).mpr ⟨⟨q.1, q.2.1, q.2.2.1, q.2.2.2.1, q.2.2.2.2.1, by have := q.2.2.2.2.2; omega⟩, q2, fun e => by omega, fun _ => LZ0_1 hc (q3 rfl)⟩
  have f84 : ∀ {y : gd} {B : Int} {n : Nat}, LF y B n → (y.1 0 84 = 0 ↔ chM C wn Ma = []) := fun q => by
    have e84 : _ = a.1 0 84 := LFe q 0 84 (Or.inr (Or.inl ⟨rfl, rfl⟩))
    rw [e84, t_eq, k0, n84]
    constructor
    · intro q; exact List.eq_nil_of_length_eq_zero (by omega)
    · intro q; rw [q]; rfl
  have p228 : ∀ (y : gd) (v3 v4 v5 : Int32), (¬ v3 = 0 ↔ goM C Ma) → (¬ v4 = 0 ↔ fnM C wn Ma 9) → (¬ v5 = 0 ↔ idM C wn Ma) → LF y O 8 → MT G (D + 2) z_look 228 [(0, vr 0), (1, vi w), (2, vi s), (3, vi v3), (4, vi v4), (5, vi v5)] [] y (rv Fv) := by
    intro y v3 v4 v5 h3 h9 h5 ky
    refine sg_look_228 _ _ _ _ _ ⟨fun nz => p262 y v4 v5 h9 h5 (LFm (n := 8) (by omega) (fun f h1 h2 q => nz ((f84 ky).mpr (by rw [show f = 8 by omega, fn_8] at q; exact q.1))) (up (fun q => nz ((f84 ky).mpr q)) ky)), fun z84 => ⟨wv, wv, fun y4 e4 => ?_⟩⟩
    have ce := (f84 ky).mp z84
    obtain ⟨q1, q2, q3, -⟩ := (hLF _ _ _).mp ky
    have q3 := q3 rfl
    have m4 := md_a y 122 w.toNatClampNeg (y.1 122 w.toNatClampNeg + 1) (by decide)
    rw [← e4] at m4
    have k4' := LKI_c q1 (md_w m4 (by decide) (by decide))
    have b1 := k4'.2.2.2.2.1
    have b2 := k4'.2.2.2.2.2
    rw [← eW] at e4
    refine sp_addOutcome3 (r := roM C Ma) (L := L) (N := C.2.2.1.length) w wv eW.symm hlt (by rw [cF k4'.2.1 (by decide)]; exact nC) (by omega) hso hll (by unfold roM; rw [List.length_map, List.length_range]) (fun c v hv => ?_) (fun c c1 c2 => by rw [cA k4'.2.1 (c := 70) (n := 24) (by decide) c2, hM.1 c c2]; exact hz0 c c1) (OUm_f (by rw [e4, si_cell (by decide)]) (by rw [e4, si_cell (by decide)]) q3.2.2.2.2.2.1) (fun y5 m5 o5 q0 q1 ou5 x5 => ?_)
    · obtain ⟨r1, r2⟩ := ro_at hv
      rw [r2, cA k4'.2.1 (c := 70) (n := 24) (by decide) (by omega)]
      exact hM.1 c (by omega)
    have z15 : LZ1 C wn Ma L (a.1 0 84) z y5 W := by
      obtain ⟨h1, h2, h3, h4, h5', h6, h7⟩ := q3
      have e : ∀ c, ¬ c = 122 → ¬ c = 123 → ¬ c = 129 → (c = 124 ∨ c = 125 ∨ c = 127 ∨ c = 128) → y5.1 c = y.1 c := fun c c1 c2 c3 c4 => by
        rw [show y5.1 c = y4.1 c by rcases c4 with e | e | e | e <;> rw [e] <;> exact m5.2.1 _ (by decide) (by decide), e4, si_cell c1]
      have e22 : ∀ v, y5.1 122 v = y4.1 122 v := fun v => by rw [m5.2.1 122 (by decide) (by decide)]
      refine ⟨Or.inl ⟨ce, by rw [e22, e4, si_get, if_pos ⟨rfl, rfl⟩, h1], ou5⟩, by rw [e 124 (by omega) (by omega) (by omega) (by omega)]; exact h2, by rw [e 125 (by omega) (by omega) (by omega) (by omega)]; exact h3, by rw [e 127 (by omega) (by omega) (by omega) (by omega)]; exact h4, by rw [e 128 (by omega) (by omega) (by omega) (by omega)]; exact h5', fun v v1 v2 => ?_⟩
      obtain ⟨a1, a2, a3, a4, a5, a6⟩ := h7 v v1 v2
      exact ⟨by rw [e22, e4, si_get, if_neg (fun q => v2 q.2)]; exact a1, by rw [e 124 (by omega) (by omega) (by omega) (by omega)]; exact a2, by rw [e 125 (by omega) (by omega) (by omega) (by omega)]; exact a3, fun c hc => by rw [e 127 (by omega) (by omega) (by omega) (by omega)]; exact a4 c hc, fun k hk => by rw [e 128 (by omega) (by omega) (by omega) (by omega)]; exact a5 k hk, fun j hj => by rw [x5 v v2 v1 j hj, e4, si_cell (by decide)]; exact a6 j hj⟩
    have k5 : LF y5 (O + 1) 8 := by
      obtain ⟨q1', q2', q3', q4', q5', q6'⟩ := k4'
      refine (hLF _ _ _).mpr ⟨⟨mi_tr q1' (mi_of m5) rfl rfl, eqS_mi q2' (mi_of m5) rfl rfl (ssub_rf _), ow_tr q3' o5, ?_, q0, by omega⟩, FAm_f (by rw [m5.2.1 126 (by decide) (by decide), m4.2.1 126 (by decide) (by decide)]) q2, fun e => by omega, fun _ => z15⟩
      unfold fnd
      rw [m5.2.1 126 (by decide) (by decide)]
      exact q4'
    exact ⟨fun z3 => p262 y5 v4 v5 h9 h5 (LFm (n := 8) (by omega) (fun f h1 h2 q => h3.mpr (by rw [show f = 8 by omega, fn_8] at q; exact q.2) z3) k5), fun n3 => fi y5 8 (O + 1) 8 rfl (by omega) (fn_8.mpr ⟨ce, h3.mp n3⟩) k5 _ (fun y' ky' => p262 y' v4 v5 h9 h5 ky')⟩
  -- finals
  have no47 : ∀ {y : gd} {n : Nat}, (¬ (chM C wn Ma = [] ∧ ¬ goM C Ma)) → 4 ≤ n → n ≤ 8 → LF y O n → LF y O 8 := fun hno h4 h8 q => LFm h8 (fun f h1 h2 q => by
    obtain ⟨f', ef⟩ : ∃ f', f = 4 + f' := ⟨f - 4, by omega⟩
    rw [ef, fn_4 (by omega)] at q
    exact hno ⟨q.1, q.2.1⟩) q
  have p170 : ∀ (n k : Nat) (y : gd) (v3 v4 v5 i : Int32), (¬ v3 = 0 ↔ goM C Ma) → (¬ v4 = 0 ↔ fnM C wn Ma 9) → (¬ v5 = 0 ↔ idM C wn Ma) → i.toInt = (k : Nat) → C.2.2.2.2.length - k ≤ n → k ≤ C.2.2.2.2.length → LF y O (4 + k) → MT G (D + 2) z_look 170 [(0, vr 0), (1, vi w), (2, vi s), (3, vi v3), (4, vi v4), (5, vi v5), (6, vi i)] [] y (rv Fv) := by
    intro n
    have fin : ∀ (k : Nat) (y : gd) (v3 v4 v5 : Int32), (¬ v3 = 0 ↔ goM C Ma) → (¬ v4 = 0 ↔ fnM C wn Ma 9) → (¬ v5 = 0 ↔ idM C wn Ma) → k = C.2.2.2.2.length → LF y O (4 + k) → MT G (D + 2) z_look 228 [(0, vr 0), (1, vi w), (2, vi s), (3, vi v3), (4, vi v4), (5, vi v5)] [] y (rv Fv) := fun k y v3 v4 v5 h3 h9 h5 ek ky => p228 y v3 v4 v5 h3 h9 h5 (LFm (n := 4 + k) (by omega) (fun f h1 h2 q => by
      obtain ⟨f', ef⟩ : ∃ f', f = 4 + f' := ⟨f - 4, by omega⟩
      rw [ef, fn_4 (by omega)] at q
      obtain ⟨-, -, Q, hQ, -⟩ := q
      have := gt_lt hQ
      omega) ky)
    induction n with
    | zero =>
      intro k y v3 v4 v5 i h3 h9 h5 ei hn hk ky
      exact sg_look_170 _ _ _ _ _ _ ⟨fun _ => fin k y v3 v4 v5 h3 h9 h5 (by omega) ky, fun c => absurd (t_le.mpr (by rw [cF (LFe ky) (by decide)]; omega)) c⟩
    | succ n ih =>
      intro k y v3 v4 v5 i h3 h9 h5 ei hn hk ky
      refine sg_look_170 _ _ _ _ _ _ ⟨fun c => fin k y v3 v4 v5 h3 h9 h5 (by rw [t_le, cF (LFe ky) (by decide)] at c; omega) ky, fun c => ⟨fun nz => p228 y v3 v4 v5 h3 h9 h5 (no47 (fun q => nz ((f84 ky).mpr q.1)) (by omega) (by omega) ky), fun z84 => ⟨fun n3 => p228 y v3 v4 v5 h3 h9 h5 (no47 (fun q => q.2 (h3.mp n3)) (by omega) (by omega) ky), fun z3 => ?_⟩⟩⟩
      have ce := (f84 ky).mp z84
      have ng : ¬ goM C Ma := fun q => h3.mpr q z3
      rw [t_le, cF (LFe ky) (by decide)] at c
      have iv : vp_in i 4 := by rw [vp_in_iff]; omega
      have ii : (i + 1).toInt = ((k + 1 : Nat) : Int) := by rw [t_add (by omega) (by omega), k1, ei]; rfl
      have iK : i.toNatClampNeg = k := by rw [t_cl, ei]; rfl
      refine ⟨iv, ?_⟩
      rw [cA (LFe ky) (c := 66) (n := 4) (by decide) (vp_lt iv), iK]
      have hkl : k < C.2.2.2.2.length := by omega
      obtain ⟨Q, hQ⟩ : ∃ Q, C.2.2.2.2[k]? = some Q := ⟨_, List.getElem?_eq_getElem hkl⟩
      refine sp_claim hN hq2 (by omega) am (LFe ky) _ (Or.inr (List.mem_of_getElem? hQ)) (hK.2.2.2.2 k Q hQ) (by omega) (fun v y' m e' hb h01 => ?_)
      have ky' := LFmd ky m e'
      have fn : fnM C wn Ma (4 + k) ↔ badC Ma Q := by
        rw [fn_4 (by omega)]
        refine ⟨fun ⟨_, _, Q9, h9, b⟩ => ?_, fun b => ⟨ce, ng, Q, hQ, b⟩⟩
        rw [hQ] at h9
        rw [Option.some.inj h9]; exact b
      have p212 : badC Ma Q → MT G (D + 2) z_look 212 [(0, vr 0), (1, vi w), (2, vi s), (3, vi v3), (4, vi v4), (5, vi v5), (6, vi i)] [] y' (rv Fv) := fun b => sg_look_212 _ _ _ _ _ _ (fi y' (4 + i) O (4 + k) (by rw [t_add (by omega) (by omega), k4, ei]; push_cast; rfl) (by omega) (fn.mpr b) ky' _ (fun u ku => ih (k + 1) u _ _ _ _ h3 h9 h5 ii (by omega) hkl ku))
      refine ⟨fun v0 => p212 (hb.mp (Or.inl v0)), fun vn => ⟨fun c82 => ih (k + 1) y' _ _ _ _ h3 h9 h5 ii (by omega) hkl (LFm (n := 4 + k) (by omega) (fun f h1 h2 q => ?_) ky'), fun c82 => p212 (hb.mp (Or.inr (fun q => c82 (by rw [q, t_le]; exact Int.le_refl _))))⟩⟩
      rw [show f = 4 + k by omega] at q
      rcases hb.mpr (fn.mp q) with q | q
      · exact vn q
      · rcases h01 with e | e
        · exact q e
        · rw [e, t_le, k1, k0] at c82; omega
  -- always
  have p122 : ∀ (n k : Nat) (y : gd) (v3 v4 v5 i : Int32), (¬ v3 = 0 ↔ goM C Ma) → (¬ v4 = 0 ↔ fnM C wn Ma 9) → (¬ v5 = 0 ↔ idM C wn Ma) → i.toInt = (k : Nat) → C.2.2.2.1.length - k ≤ n → k ≤ C.2.2.2.1.length → LF y O k → MT G (D + 2) z_look 122 [(0, vr 0), (1, vi w), (2, vi s), (3, vi v3), (4, vi v4), (5, vi v5), (6, vi i)] [] y (rv Fv) := by
    intro n
    have fin : ∀ (k : Nat) (y : gd) (v3 v4 v5 : Int32), (¬ v3 = 0 ↔ goM C Ma) → (¬ v4 = 0 ↔ fnM C wn Ma 9) → (¬ v5 = 0 ↔ idM C wn Ma) → k = C.2.2.2.1.length → LF y O k → MT G (D + 2) z_look 170 [(0, vr 0), (1, vi w), (2, vi s), (3, vi v3), (4, vi v4), (5, vi v5), (6, vi 0)] [] y (rv Fv) := fun k y v3 v4 v5 h3 h9 h5 ek ky => p170 _ 0 y v3 v4 v5 0 h3 h9 h5 rfl (Nat.le_refl _) (Nat.zero_le _) (LFm (n := k) (by omega) (fun f h1 h2 q => by
      rw [fn_lt4 (by omega)] at q
      obtain ⟨Q, hQ, -⟩ := q
      have := gt_lt hQ
      omega) ky)
    induction n with
    | zero =>
      intro k y v3 v4 v5 i h3 h9 h5 ei hn hk ky
      exact sg_look_122 _ _ _ _ _ _ ⟨fun _ => fin k y v3 v4 v5 h3 h9 h5 (by omega) ky, fun c => absurd (t_le.mpr (by rw [cF (LFe ky) (by decide)]; omega)) c⟩
    | succ n ih =>
      intro k y v3 v4 v5 i h3 h9 h5 ei hn hk ky
      refine sg_look_122 _ _ _ _ _ _ ⟨fun c => fin k y v3 v4 v5 h3 h9 h5 (by rw [t_le, cF (LFe ky) (by decide)] at c; omega) ky, fun c => ?_⟩
      rw [t_le, cF (LFe ky) (by decide)] at c
      have iv : vp_in i 4 := by rw [vp_in_iff]; omega
      have ii : (i + 1).toInt = ((k + 1 : Nat) : Int) := by rw [t_add (by omega) (by omega), k1, ei]; rfl
      have iK : i.toNatClampNeg = k := by rw [t_cl, ei]; rfl
      refine ⟨iv, ?_⟩
      rw [cA (LFe ky) (c := 65) (n := 4) (by decide) (vp_lt iv), iK]
      have hkl : k < C.2.2.2.1.length := by omega
      obtain ⟨Q, hQ⟩ : ∃ Q, C.2.2.2.1[k]? = some Q := ⟨_, List.getElem?_eq_getElem hkl⟩
      refine sp_claim hN hq2 (by omega) am (LFe ky) _ (Or.inl (List.mem_of_getElem? hQ)) (hK.2.2.2.1 k Q hQ) (by omega) (fun v y' m e' hb h01 => ?_)
      have ky' := LFmd ky m e'
      have fn : fnM C wn Ma k ↔ badC Ma Q := by
        rw [fn_lt4 (by omega)]
        refine ⟨fun ⟨Q9, h9, b⟩ => ?_, fun b => ⟨Q, hQ, b⟩⟩
        rw [hQ] at h9
        rw [Option.some.inj h9]; exact b
      have p153 : badC Ma Q → MT G (D + 2) z_look 153 [(0, vr 0), (1, vi w), (2, vi s), (3, vi v3), (4, vi v4), (5, vi v5), (6, vi i)] [] y' (rv Fv) := fun b => sg_look_153 _ _ _ _ _ _ (fi y' i O k ei (by omega) (fn.mpr b) ky' _ (fun u ku => ih (k + 1) u _ _ _ _ h3 h9 h5 ii (by omega) hkl ku))
      refine ⟨fun v0 => p153 (hb.mp (Or.inl v0)), fun vn => ⟨fun c82 => ih (k + 1) y' _ _ _ _ h3 h9 h5 ii (by omega) hkl (LFm (n := k) (by omega) (fun f h1 h2 q => ?_) ky'), fun c82 => p153 (hb.mp (Or.inr (fun q => c82 (by rw [q, t_le]; exact Int.le_refl _))))⟩⟩
      rw [show f = k by omega] at q
      rcases hb.mpr (fn.mp q) with q | q
      · exact vn q
      · rcases h01 with e | e
        · exact q e
        · rw [e, t_le, k1, k0] at c82; omega
  -- going, failed, idle
  have p28 : ∀ (n k : Nat) (y : gd) (v3 v4 v5 i : Int32), i.toInt = (k : Nat) → C.2.1.length - k ≤ n → k ≤ C.2.1.length → (¬ v3 = 0 ↔ ∃ t, t < k ∧ (Ma.2.2 t).1 = 1) → (¬ v4 = 0 ↔ ∃ t, t < k ∧ (Ma.2.2 t).1 = 3) → (¬ v5 = 0 ↔ ∃ t, t < k ∧ (Ma.2.2 t).1 = 1 ∧ ¬ canM C wn Ma t) → LF y O 0 → MT G (D + 2) z_look 28 [(0, vr 0), (1, vi w), (2, vi s), (3, vi v3), (4, vi v4), (5, vi v5), (6, vi i)] [] y (rv Fv) := by
    intro n
    have fin : ∀ (k : Nat) (y : gd) (v3 v4 v5 : Int32), k = C.2.1.length → (¬ v3 = 0 ↔ ∃ t, t < k ∧ (Ma.2.2 t).1 = 1) → (¬ v4 = 0 ↔ ∃ t, t < k ∧ (Ma.2.2 t).1 = 3) → (¬ v5 = 0 ↔ ∃ t, t < k ∧ (Ma.2.2 t).1 = 1 ∧ ¬ canM C wn Ma t) → LF y O 0 → MT G (D + 2) z_look 122 [(0, vr 0), (1, vi w), (2, vi s), (3, vi v3), (4, vi v4), (5, vi v5), (6, vi 0)] [] y (rv Fv) := fun k y v3 v4 v5 ek h3 h4 h5 ky => p122 _ 0 y v3 v4 v5 0 (by rw [h3, ek]; exact Iff.rfl) (by rw [h4, ek, fn_9]) (by rw [h5, ek]; exact Iff.rfl) rfl (Nat.le_refl _) (Nat.zero_le _) ky
    have st4 : ∀ k m : Nat, k < 4 → m < 4 → ((Int32.ofNat k = Int32.ofNat m) ↔ k = m) := fun k m hk hm => by
      have s : ∀ a, a < 4 → ∀ b, b < 4 → ((Int32.ofNat a = Int32.ofNat b) ↔ a = b) := by decide +kernel
      exact s k hk m hm
    induction n with
    | zero =>
      intro k y v3 v4 v5 i ei hn hk h3 h4 h5 ky
      exact sg_look_28 _ _ _ _ _ _ ⟨fun _ => fin k y v3 v4 v5 (by clear h3 h4 h5; omega) h3 h4 h5 ky, fun c => absurd (t_le.mpr (by clear h3 h4 h5; rw [f25 (LFe ky)]; omega)) c⟩
    | succ n ih =>
      intro k y v3 v4 v5 i ei hn hk h3 h4 h5 ky
      refine sg_look_28 _ _ _ _ _ _ ⟨fun c => fin k y v3 v4 v5 (by clear h3 h4 h5; rw [t_le, f25 (LFe ky)] at c; omega) h3 h4 h5 ky, fun c => ?_⟩
      rw [t_le, f25 (LFe ky)] at c
      have hkl : k < C.2.1.length := by clear h3 h4 h5; omega
      have k6 : k < 6 := by clear h3 h4 h5; omega
      have iv : vp_in i 6 := by clear h3 h4 h5; rw [vp_in_iff]; omega
      have ii : (i + 1).toInt = ((k + 1 : Nat) : Int) := by clear h3 h4 h5; rw [t_add (by omega) (by omega), k1, ei]; rfl
      have iK : i.toNatClampNeg = k := by rw [t_cl, ei]; rfl
      have l3 : (Ma.2.2 k).1 ≤ 3 := (hM.2.2 k k6).2.1
      have y73 := f73 (LFe ky) k k6
      have mor : ∀ c : Nat, (∃ t, t < k + 1 ∧ (Ma.2.2 t).1 = c) ↔ ((∃ t, t < k ∧ (Ma.2.2 t).1 = c) ∨ (Ma.2.2 k).1 = c) := fun c => ⟨fun ⟨t, t1, t2⟩ => by
        by_cases e : t = k
        · rw [e] at t2; exact Or.inr t2
        · exact Or.inl ⟨t, by omega, t2⟩, fun q => q.elim (fun ⟨t, t1, t2⟩ => ⟨t, by omega, t2⟩) (fun q => ⟨k, by omega, q⟩)⟩
      have nx : ∀ (y : gd) (v3 v4 v5 : Int32), (¬ v3 = 0 ↔ ∃ t, t < k + 1 ∧ (Ma.2.2 t).1 = 1) → (¬ v4 = 0 ↔ ∃ t, t < k + 1 ∧ (Ma.2.2 t).1 = 3) → (¬ v5 = 0 ↔ ∃ t, t < k + 1 ∧ (Ma.2.2 t).1 = 1 ∧ ¬ canM C wn Ma t) → LF y O 0 → MT G (D + 2) z_look 28 [(0, vr 0), (1, vi w), (2, vi s), (3, vi v3), (4, vi v4), (5, vi v5), (6, vi (i + 1))] [] y (rv Fv) := fun y v3 v4 v5 a3 a4 a5 ky => ih (k + 1) y v3 v4 v5 (i + 1) ii (by clear a3 a4 a5 h3 h4 h5 mor; omega) hkl a3 a4 a5 ky
      have mid : (∃ t, t < k + 1 ∧ (Ma.2.2 t).1 = 1 ∧ ¬ canM C wn Ma t) ↔ ((∃ t, t < k ∧ (Ma.2.2 t).1 = 1 ∧ ¬ canM C wn Ma t) ∨ ((Ma.2.2 k).1 = 1 ∧ ¬ canM C wn Ma k)) := ⟨fun ⟨t, t1, t2⟩ => by
        by_cases e : t = k
        · rw [e] at t2; exact Or.inr t2
        · exact Or.inl ⟨t, by omega, t2⟩, fun q => q.elim (fun ⟨t, t1, t2⟩ => ⟨t, by omega, t2⟩) (fun q => ⟨k, by omega, q⟩)⟩
      have p79 : ∀ u v : Int32, (¬ u = 0 ↔ ∃ t, t < k + 1 ∧ (Ma.2.2 t).1 = 1) → (¬ v = 0 ↔ ∃ t, t < k + 1 ∧ (Ma.2.2 t).1 = 3) → MT G (D + 2) z_look 79 [(0, vr 0), (1, vi w), (2, vi s), (3, vi u), (5, vi v5), (6, vi i)] [vi v] y (rv Fv) := fun u v hu hv => by
        refine sg_look_79 _ _ _ _ _ _ ⟨fun n5 => nx _ _ _ _ hu hv ⟨fun _ => mid.mpr (Or.inl (h5.mp n5)), fun _ => n1⟩ ky, fun z5 => ⟨iv, ?_⟩⟩
        rw [iK, y73]
        refine ⟨fun ng => nx _ _ _ _ hu hv ⟨fun q => absurd rfl q, fun q => ?_⟩ ky, fun eg => sp_hasAct3 hN hX w01 am (LFe ky) i iv (by clear h3 h4 h5 hu hv mor mid; omega) (fun nc y' m e' => ⟨fun q => absurd rfl q, fun _ => nx _ _ _ _ hu hv ⟨fun _ => mid.mpr (Or.inr ⟨(st4 _ 1 (by omega) (by decide)).mp eg, by rw [← iK]; exact nc⟩), fun _ => n1⟩ (LFmd ky m e')⟩) (fun _ _ hc y' m e' => ⟨fun _ => nx _ _ _ _ hu hv ⟨fun q => absurd rfl q, fun q => ?_⟩ (LFmd ky m e'), fun q => absurd q (by decide)⟩)⟩
        · rcases mid.mp q with q | q
          · exact absurd z5 (h5.mpr q)
          · exact absurd (by rw [q.1]; rfl) ng
        · rcases mid.mp q with q | q
          · exact absurd z5 (h5.mpr q)
          · rw [iK] at hc
            exact absurd hc q.2
      have p57 : ∀ u : Int32, (¬ u = 0 ↔ ∃ t, t < k + 1 ∧ (Ma.2.2 t).1 = 1) → MT G (D + 2) z_look 57 [(0, vr 0), (1, vi w), (2, vi s), (4, vi v4), (5, vi v5), (6, vi i)] [vi u] y (rv Fv) := fun u hu => by
        refine sg_look_57 _ _ _ _ _ _ ⟨fun n4 => p79 _ _ hu ⟨fun _ => (mor 3).mpr (Or.inl (h4.mp n4)), fun _ => n1⟩, fun z4 => ⟨iv, ?_⟩⟩
        rw [iK, y73]
        refine ⟨fun nq => p79 _ _ hu ⟨fun q => absurd rfl q, fun q => ?_⟩, fun eq => p79 _ _ hu ⟨fun _ => (mor 3).mpr (Or.inr ((st4 _ 3 (by omega) (by decide)).mp eq)), fun _ => n1⟩⟩
        rcases (mor 3).mp q with q | q
        · exact absurd z4 (h4.mpr q)
        · exact absurd (by rw [q]; rfl) nq
      refine ⟨fun n3 => p57 _ ⟨fun _ => (mor 1).mpr (Or.inl (h3.mp n3)), fun _ => n1⟩, fun z3 => ⟨iv, ?_⟩⟩
      rw [iK, y73]
      refine ⟨fun nq => p57 _ ⟨fun q => absurd rfl q, fun q => ?_⟩, fun eq => p57 _ ⟨fun _ => (mor 1).mpr (Or.inr ((st4 _ 1 (by omega) (by decide)).mp eq)), fun _ => n1⟩⟩
      rcases (mor 1).mp q with q | q
      · exact absurd z3 (h3.mpr q)
      · exact absurd (by rw [q]; rfl) nq
  refine sg_look_0 _ _ (MT_up (by omega) (MTv_mono (fa G z e) (fun y q => ⟨wv, wv, fun y4 e4 => ?_⟩)))
  have m4 := md_a y 125 w.toNatClampNeg (y.1 125 w.toNatClampNeg + y.1 0 84) (by decide)
  rw [← e4] at m4
  have ky : LKI z a W M O y := by
    refine ⟨mi_w (mi_of q.2) (by decide) (by decide), q.1, ow_mi (mi_of q.2) rfl, ?_, by rw [q.2.2.1 123 (by decide) (by decide)]; omega, by rw [q.2.2.1 123 (by decide) (by decide)]; omega⟩
    unfold fnd
    rw [q.2.2.1 126 (by decide) (by decide)]
    exact hf
  refine p28 _ 0 y4 0 0 0 0 rfl (Nat.le_refl _) (Nat.zero_le _) ⟨fun q => absurd rfl q, fun ⟨t, t1, _⟩ => absurd t1 (Nat.not_lt_zero _)⟩ ⟨fun q => absurd rfl q, fun ⟨t, t1, _⟩ => absurd t1 (Nat.not_lt_zero _)⟩ ⟨fun q => absurd rfl q, fun ⟨t, t1, _⟩ => absurd t1 (Nat.not_lt_zero _)⟩ ((hLF _ _ _).mpr ⟨LKI_c ky (md_w m4 (by decide) (by decide)), fun f _ => Or.inr ⟨fun q => absurd q.1.1 (Nat.not_lt_zero _), ?_⟩, fun _ => ?_, fun e => by omega⟩)
  · rw [m4.2.1 126 (by decide) (by decide), q.2.2.1 126 (by decide) (by decide)]
  · rw [← eW] at e4
    have qe : ∀ c, c = 122 ∨ c = 123 ∨ c = 124 ∨ c = 125 ∨ c = 127 ∨ c = 128 ∨ c = 129 → y.1 c = z.1 c := fun c hc => by
      rcases hc with e | e | e | e | e | e | e <;> rw [e] <;> exact q.2.2.1 _ (by decide) (by decide)
    have e : ∀ c, ¬ c = 125 → (c = 122 ∨ c = 123 ∨ c = 124 ∨ c = 125 ∨ c = 127 ∨ c = 128 ∨ c = 129) → y4.1 c = z.1 c := fun c hc h9 => by rw [e4, si_cell hc]; exact qe c h9
    have e84 : y.1 0 84 = a.1 0 84 := q.1 0 84 (Or.inr (Or.inl ⟨rfl, rfl⟩))
    refine ⟨by rw [e 122 (by omega) (by omega)], by rw [e 124 (by omega) (by omega)], by rw [e4, si_get, if_pos ⟨rfl, rfl⟩, qe 125 (by omega), e84], e 127 (by omega) (by omega), e 128 (by omega) (by omega), OUm_f (e 123 (by omega) (by omega)) (e 129 (by omega) (by omega)) hL, fun v v1 v2 => ?_⟩
    exact ⟨by rw [e 122 (by omega) (by omega)], by rw [e 124 (by omega) (by omega)], by rw [e4, si_get, if_neg (fun q => v2 q.2), qe 125 (by omega)], fun c hc => by rw [e 127 (by omega) (by omega)], fun k hk => by rw [e 128 (by omega) (by omega)], fun j hj => by rw [e 129 (by omega) (by omega)]⟩
end LO3
end
section
/-! what else a compiled program is like -/
section PCD
variable {x : gd} {C : gCo} {nl : Nat}
theorem so_of (hK : CK x C) (hN : NC C) {s : Nat} {st : gNs} (hs : C.1[s]? = some st) : (s : Int) < ssm x ∧ sop x s = (st.1 : Nat) := by
  have n22 := (hN.1 s st hs).1.1
  obtain ⟨k81, -⟩ := hK.1.2 s st hs
  refine ⟨?_, ?_⟩
  · have := gt_lt hs
    have e : (x.1 80 9).toInt = C.1.length := hK.1.1
    show (s : Int) < (x.1 80 9).toInt
    omega
  · show (x.1 81 s).toInt = _
    rw [k81]
    exact Int32.toInt_ofNat_of_lt (by omega)
/-- locks that there are -/
theorem LkN_of (hC : CO x) (hK : CK x C) (hN : NC C) (en : (x.1 60 9).toInt = (nl : Nat)) : LkN C nl := by
  intro s st hs h5 h8
  obtain ⟨l, so⟩ := so_of hK hN hs
  obtain ⟨k81, -, -, -, k85, -⟩ := hK.1.2 s st hs
  have a := (hC.2.2.2.1 s l).1.2.1 (by omega) (by omega)
  rw [k85 (by omega)] at a
  rw [t_cl]
  omega
theorem NXc_of (hC : CO x) (hK : CK x C) (hN : NC C) (h2 : NX2 C) : NXc C := by
  intro s st hs
  obtain ⟨a1, a2, a3, a4, a5⟩ := h2 s st hs
  refine ⟨a1, a2, a3, a4, a5, fun h4 => ?_⟩
  obtain ⟨l, so⟩ := so_of hK hN hs
  obtain ⟨k81, -, -, -, k85, k86, -⟩ := hK.1.2 s st hs
  have nC : (x.1 60 6).toInt = C.2.2.1.length := hK.2.2.1.1
  have b := (hC.2.2.2.1 s l).1.1 (by omega)
  rw [k85 (by omega)] at b
  refine ⟨by omega, by omega, fun hx => ?_⟩
  rw [k86 h4 hx] at b
  omega
end PCD
end
section
/-! the model: a state's next, before and behind the finding of its choices -/
theorem st_exM {C : gCo} {w i : Nat} {M : gMa} {a : gd} {ch : gCh} (gc : GC C) (w01 : w = 0 ∨ w = 1) (h : AM C w M a) (hch : (chM C w M)[i]? = some ch) : ∃ b a', RI b (Sl b) ∧ wy01 b ∧ MM1 b C (doM C w M ch) ∧ Tr a i b ∧ AM C w (doM C w M ch) a' ∧ fcA b a' ∧ md [84] [86, 87, 88] b a' := by
  obtain ⟨hN, hX, l6⟩ := gc
  obtain ⟨⟨ri, wy, chv, c0, c84, fa⟩, hK, hM, hI, w68, hE⟩ := h
  have hi : (i : Int) < (a.1 0 84).toInt := by have := gt_lt hch; rw [hE.1]; omega
  obtain ⟨_, _, _, ⟨t0, t6⟩, co⟩ := chv i hi
  have tv : vp_in (a.1 86 i) 6 := by rw [vp_in_iff]; exact ⟨t0, t6⟩
  obtain ⟨e86, e87, e88⟩ := hE.2 i ch hch
  have cm := List.mem_of_getElem? hch
  obtain ⟨i1, i2, i3⟩ := ch_in cm
  have hI' := MIv_do hX l6 hI cm
  have ct : (a.1 86 i).toNatClampNeg = ch.1 := by
    rw [e86, t_cl, Int32.toInt_ofNat_of_lt (by omega)]; rfl
  have st : ∃ b, RI b (Sl b) ∧ wy01 b ∧ MK b C ∧ MM1 b C (doM C w M ch) ∧ b.1 0 68 = Int32.ofNat w ∧ Tr a i b := by
    by_cases c : a.1 87 i = -1
    · have g := co.resolve_right (fun z => by rw [c] at z; exact absurd z.1 (by decide))
      have cn : ch.2.1 = none := by
        cases h9 : ch.2.1 with
        | none => rfl
        | some j =>
          have j8 : j < 9 := by
            have := i3 j h9
            have q := (ri.2 ch.1 (by omega)).2.2.2.1
            have := (hM.2.2 ch.1 (by omega)).2.2.2.2.2.2.2.2.1.1
            omega
          rw [h9] at e87
          rw [e87] at c
          have c : Int32.ofNat j = -1 := c
          have : ∀ n, n < 9 → ¬ Int32.ofNat n = -1 := by decide +kernel
          exact absurd c (this j j8)
      have dE : doM C w M ch = acM C w M ch.1 ch.2.2 := by unfold doM; rw [cn]
      obtain ⟨o, b, S', ⟨eo, rb, ss, as', ap, mb⟩, m, q⟩ := ds_doAct3 (d := 0) (wk := ch.2.2) (Fv := fun y S1 => RI y S1 ∧ ssub (Sl a) S1 ∧ acS S1 ∧ acP (srt a (a.1 86 i).toNatClampNeg) y ∧ MM1 y C (acM C w M (a.1 86 i).toNatClampNeg ch.2.2)) (a.1 86 i) (a.1 88 i) tv ri g.2.1 g.2.2 hK hN hX hM (WMw_WM hI.1) w68 w01 (by
        cases h9 : ch.2.2 with
        | none => rw [h9] at e88; exact Or.inl ⟨rfl, e88⟩
        | some k =>
          rw [h9] at e88
          have k6 := (i2 cn).2.2 k h9
          unfold waM at k6
          have := List.mem_range.mp (List.mem_filter.mp k6).1
          exact Or.inr ⟨k, rfl, by omega, e88⟩) (fun y S1 h1 h2 h3 h4 h5 => ⟨h1, h2, h3, h4, h5⟩)
      rw [ct] at mb
      refine ⟨b, RI_Sl rb, by unfold wy01; rw [m.1 68 (by decide)]; exact wy, MK_md m rfl rfl hK, by rw [dE]; exact mb, by rw [m.1 68 (by decide)]; exact w68, fun _ G z e => MT_mono (q G z e) (fun o2 z' w => ?_), fun n => absurd c n⟩
      rw [w.1, eo]
      refine rv_i ⟨eqS_w (Sl_in rb) w.2.1, w.2.2, ?_⟩
      unfold acP
      rw [w.2.1 0 88 (Or.inr as'.1), w.2.1 0 89 (Or.inr as'.2.1)]
      exact ap
    · have g := co.resolve_left (fun z => c z.1)
      obtain ⟨j, hj⟩ : ∃ j, ch.2.1 = some j := by
        cases h9 : ch.2.1 with
        | none => rw [h9] at e87; exact absurd e87 c
        | some j => exact ⟨j, rfl⟩
      rw [hj] at e87
      have e87 : a.1 87 i = Int32.ofNat j := e87
      have dE : doM C w M ch = laM M ch.1 j := by unfold doM; rw [hj]
      have j8 : j < 9 := by
        have := i3 j hj
        have q := (ri.2 ch.1 (by omega)).2.2.2.1
        have := (hM.2.2 ch.1 (by omega)).2.2.2.2.2.2.2.2.1.1
        omega
      have ej : (a.1 87 i).toInt.toNat = j := by rw [e87, Int32.toInt_ofNat_of_lt (by omega)]; rfl
      obtain ⟨o, b, S', ⟨eo, rb, ss, mb, mm⟩, m, q⟩ := ds_doLate3 (d := 4) (C := C) (M := M) (Fv := fun y S1 => RI y S1 ∧ ssub (Sl a) S1 ∧ md [] [70, 80, 81, 82] a y ∧ MM1 y C (laM M (a.1 86 i).toNatClampNeg (a.1 87 i).toInt.toNat)) (a.1 86 i) (a.1 87 i) tv ri g.1 g.2 hM (fun y S1 h1 h2 h3 h4 => ⟨h1, h2, h3, h4⟩)
      rw [ct, ej] at mm
      refine ⟨b, RI_Sl rb, by unfold wy01; rw [m.1 68 (by decide)]; exact wy, MK_md m rfl rfl hK, by rw [dE]; exact mm, by rw [m.1 68 (by decide)]; exact w68, fun n => absurd n c, fun _ G z e => MT_mono (q G z e) (fun o2 z' w => ?_)⟩
      rw [w.1, eo]
      exact rv_i ⟨eqS_w (Sl_in rb) w.2.1, w.2.2⟩
  obtain ⟨b, h1, h2, hKb, hMb, wb, h3⟩ := st
  obtain ⟨a', g1, g2, g3, g4⟩ := fc_exM h1 h2 hKb hN hX hMb wb w01 (fun z t ht => (hI'.1 t ht).2.2.2 z)
  exact ⟨b, a', h1, h2, hMb, h3, ⟨g1, MK_md g3 rfl rfl hKb, MM1_md g3 rfl hMb, hI', by rw [g3.1 68 (by decide)]; exact wb, g4⟩, g2, g3⟩
end
section
/-! the model: a row is kept just where the state is -/
section MKP
variable {y b : gd} {A : Nat → gd} {C : gCo} {M : gMa} {T : gTy} {nl s : Nat}
theorem row_kept (hN : NC C) (l24 : C.2.2.1.length ≤ 24) (l6 : C.2.1.length ≤ 6) (n6 : nl ≤ 6) (hA : ∀ s p, T.1[s]? = some p → MM1 (A s) C p.1 ∧ MCn C nl p.1 ∧ NBm p.1) (hrow : ∀ s, s < T.1.length → ∀ i, i < 222 → y.1 133 (240 * s + i) = pv (A s) i) (hb : MM1 b C M) (mc : MCn C nl M) (nb : NBm M) (l8 : ∀ t, t < 6 → (b.1 80 t).toInt ≤ 8) (hs : s < T.1.length) : (∀ i, i < 222 → y.1 133 (240 * s + i) = pv b i) ↔ ∃ p, T.1[s]? = some p ∧ p.1 = M := by
  have hg := List.getElem?_eq_getElem hs
  obtain ⟨a1, a2, a3⟩ := hA s _ hg
  constructor
  · intro h
    exact ⟨_, hg, (rows_one hN l24 l6 n6 hb a1 mc a2 nb a3 l8 (fun i hi => by rw [← h i hi, hrow s hs i hi])).symm⟩
  · rintro ⟨p, h1, h2⟩ i hi
    rw [hrow s hs i hi]
    rw [hg] at h1
    have e := Option.some.inj h1
    rw [e, h2] at a1
    exact rows_same a1 hb i hi
/-- sought and not found: it is new; found: it is not -/
theorem kept_new (h : ∀ s, s < T.1.length → ((∀ i, i < 222 → y.1 133 (240 * s + i) = pv b i) ↔ ∃ p, T.1[s]? = some p ∧ p.1 = M)) (hn : ∀ s, s < T.1.length → ¬ ∀ i, i < 222 → y.1 133 (240 * s + i) = pv b i) : ¬ ∃ q ∈ T.1, q.1 = M := by
  rintro ⟨q, q1, q2⟩
  obtain ⟨s, hs⟩ := List.mem_iff_getElem?.mp q1
  exact hn s (gt_lt hs) ((h s (gt_lt hs)).mpr ⟨q, hs, q2⟩)
theorem kept_old (h : ∀ s, s < T.1.length → ((∀ i, i < 222 → y.1 133 (240 * s + i) = pv b i) ↔ ∃ p, T.1[s]? = some p ∧ p.1 = M)) (hs : s < T.1.length) (hr : ∀ i, i < 222 → y.1 133 (240 * s + i) = pv b i) : ∃ q ∈ T.1, q.1 = M := by
  obtain ⟨p, h1, h2⟩ := (h s hs).mp hr
  exact ⟨p, List.mem_of_getElem? h1, h2⟩
end MKP
end
section
/-! the model: a trying begins with nothing told -/
/-- the other way's are left, also whether it is partly -/
def LW3 (z y : gd) (W : Nat) : Prop := LW2 z y W ∧ ∀ v, v < 2 → ¬ v = W → y.1 121 v = z.1 121 v
section MFG
variable {G : mG} {d : Nat} {z y y' u : gd} {Fv : gd → Prop} {W nl : Nat}
theorem LW2_tr (a : LW2 z y W) (b : LW2 y y' W) : LW2 z y' W := fun v h1 h2 => by
  obtain ⟨a1, a2, a3, a4, a5, a6⟩ := a v h1 h2
  obtain ⟨b1, b2, b3, b4, b5, b6⟩ := b v h1 h2
  exact ⟨b1.trans a1, b2.trans a2, b3.trans a3, fun c hc => (b4 c hc).trans (a4 c hc), fun k hk => (b5 k hk).trans (a5 k hk), fun j hj => (b6 j hj).trans (a6 j hj)⟩
theorem LW3_tr (a : LW3 z y W) (b : LW3 y y' W) : LW3 z y' W := ⟨LW2_tr a.1 b.1, fun v h1 h2 => (b.2 v h1 h2).trans (a.2 v h1 h2)⟩
theorem LW3_e (e : ∀ c, c = 121 ∨ c = 122 ∨ c = 124 ∨ c = 125 ∨ c = 127 ∨ c = 128 ∨ c = 129 → y.1 c = z.1 c) : LW3 z y W := ⟨fun v _ _ => ⟨by rw [e 122 (by omega)], by rw [e 124 (by omega)], by rw [e 125 (by omega)], fun c _ => by rw [e 127 (by omega)], fun k _ => by rw [e 128 (by omega)], fun j _ => by rw [e 129 (by omega)]⟩, fun v _ _ => by rw [e 121 (by omega)]⟩
/-- a cell of the way itself is written -/
theorem LW3_si {c j : Nat} {x : Int32} (hW : W < 2) (h : ((c = 120 ∨ c = 121 ∨ c = 122 ∨ c = 123 ∨ c = 124 ∨ c = 125) ∧ j = W) ∨ c = 126 ∨ (c = 127 ∧ ∃ i, i < 24 ∧ j = 24 * W + i) ∨ (c = 128 ∧ ∃ i, i < 36 ∧ j = 36 * W + i)) : LW3 z (si z c j x) W := by
  have g : ∀ c' j', ¬ (c' = c ∧ j' = j) → (si z c j x).1 c' j' = z.1 c' j' := fun c' j' hn => by rw [si_get, if_neg hn]
  refine ⟨fun v v1 v2 => ⟨g _ _ ?_, g _ _ ?_, g _ _ ?_, fun i hi => g _ _ ?_, fun i hi => g _ _ ?_, fun i hi => g _ _ ?_⟩, fun v v1 v2 => g _ _ ?_⟩ <;>
  · rintro ⟨q1, q2⟩
    rcases h with ⟨h1, h2⟩ | h1 | ⟨h1, i9, h2, h3⟩ | ⟨h1, i9, h2, h3⟩ <;> omega
theorem sp_forgetTrying3 (w : Int32) (wv : vp_in w 2) (eW : w.toNatClampNeg = W) (en : (z.1 0 24).toInt = (nl : Nat)) (h : ∀ z', md [] [120, 121, 122, 123, 124, 125, 126, 127, 128] z z' → ow W z z' → z'.1 120 W = 0 → z'.1 121 W = 0 → z'.1 123 W = 0 → (∀ f : Nat, f < 11 → z'.1 126 (11 * W + f) = -1) → MLo z' W (lo0 nl) → LW3 z z' W → Fv z') : MT G d z_forgetTrying 0 [(0, vr 0), (1, vi w)] [] z (rv Fv) := by
  have k0 : (0 : Int32).toInt = 0 := rfl
  have k1 : (1 : Int32).toInt = 1 := rfl
  have k11 : (11 : Int32).toInt = 11 := rfl
  have k24 : (24 : Int32).toInt = 24 := rfl
  have k36 : (36 : Int32).toInt = 36 := rfl
  have zb : vp_nar .boolean 0 = 0 := by decide
  have W2 : W < 2 := by rw [← eW]; exact vp_lt wv
  have eV : ((1 : Int32) <<< (z.1 0 24 &&& 31)) - 1 = (lo0 nl).2.2.2.1 0 := by rw [i32_of en]; rfl
  obtain ⟨K, hK⟩ : ∃ K : gd → Prop, ∀ y, K y ↔ (md [] [120, 121, 122, 123, 124, 125, 126, 127, 128] z y ∧ ow W z y ∧ (y.1 120 W = 0 ∧ y.1 121 W = 0 ∧ y.1 122 W = 0 ∧ y.1 123 W = 0 ∧ y.1 124 W = 0 ∧ y.1 125 W = 0) ∧ LW3 z y W) := ⟨_, fun _ => Iff.rfl⟩
  have Kst : ∀ {y y3 : gd} {c j : Nat} {v : Int32}, K y → y3 = si y c j v → md [] [c] y y3 → (c = 126 ∨ c = 127 ∨ c = 128) → ow W y y3 → LW3 y y3 W → md [] [120, 121, 122, 123, 124, 125, 126, 127, 128] z y3 → K y3 := by
    intro y y3 c j v ky e3 m3 hc o3 l3 mz
    obtain ⟨a1, a2, ⟨a3, a4, a5, a6, a7, a8⟩, a9⟩ := (hK _).mp ky
    have e : ∀ c', ¬ c' = c → y3.1 c' = y.1 c' := fun c' hc' => by rw [e3, si_cell hc']
    exact (hK _).mpr ⟨mz, ow_tr a2 o3, ⟨by rw [e 120 (by omega)]; exact a3, by rw [e 121 (by omega)]; exact a4, by rw [e 122 (by omega)]; exact a5, by rw [e 123 (by omega)]; exact a6, by rw [e 124 (by omega)]; exact a7, by rw [e 125 (by omega)]; exact a8⟩, LW3_tr a9 l3⟩
  have p103 : ∀ (n i' : Nat) (y : gd) (i : Int32), i.toInt = i' → 36 - i' ≤ n → i' ≤ 36 → K y → (∀ f : Nat, f < 11 → y.1 126 (11 * W + f) = -1) → (∀ c, c < 24 → y.1 127 (24 * W + c) = (lo0 nl).2.2.2.1 0) → (∀ k, k < i' → y.1 128 (36 * W + k) = 0) → MT G d z_forgetTrying 103 [(0, vr 0), (1, vi w), (2, vi i)] [] y (rv Fv) := by
    intro n
    have fin : ∀ (i' : Nat) (y : gd) (i : Int32), i.toInt = i' → i' ≤ 36 → K y → (∀ f : Nat, f < 11 → y.1 126 (11 * W + f) = -1) → (∀ c, c < 24 → y.1 127 (24 * W + c) = (lo0 nl).2.2.2.1 0) → (∀ k, k < i' → y.1 128 (36 * W + k) = 0) → (36 : Int32) ≤ i → rv Fv none y := by
      intro i' y i ei hi ky hf h7 h8 c
      rw [t_le, k36] at c
      have e36 : i' = 36 := by clear hf h7 h8; omega
      obtain ⟨a1, a2, ⟨a3, a4, a5, a6, a7, a8⟩, a9⟩ := (hK _).mp ky
      refine rv_i (h y a1 a2 a3 a4 a6 hf ⟨by rw [a5]; rfl, by rw [a7]; rfl, by rw [a8]; rfl, fun c hc => h7 c hc, fun a ha b hb => ?_, [], by rw [a6]; rfl, rfl, fun r => Iff.rfl, fun i r hr => (by cases hr), fun i r hr => (by cases hr), List.Pairwise.nil⟩ a9)
      have e0 : y.1 128 (36 * W + 6 * a + b) = 0 := by
        have := h8 (6 * a + b) (by clear hf h7 h8; omega)
        rw [show 36 * W + 6 * a + b = 36 * W + (6 * a + b) by clear hf h7 h8; omega]; exact this
      rw [e0]
      refine ⟨fun q => absurd rfl q, fun q => ?_⟩
      have q : ((0 : Int32) >>> (Int32.ofNat b &&& 31)) &&& 1 = 1 := q
      rw [km_0 b (by omega)] at q
      exact absurd q (by decide)
    induction n with
    | zero =>
      intro i' y i ei hn hi ky hf h7 h8
      exact sg_forgetTrying_103 _ _ ⟨fun c => fin i' y i ei hi ky hf h7 h8 c, fun c => absurd (t_le.mpr (by clear hf h7 h8; rw [k36]; omega)) c⟩
    | succ n ih =>
      intro i' y i ei hn hi ky hf h7 h8
      refine sg_forgetTrying_103 _ _ ⟨fun c => fin i' y i ei hi ky hf h7 h8 c, fun c => ?_⟩
      rw [t_le, k36] at c
      have hi2 : i' < 36 := by clear hf h7 h8; omega
      have ii : (i + 1).toInt = ((i' + 1 : Nat) : Int) := by clear hf h7 h8; rw [t_add (by omega) (by omega), k1, ei]; rfl
      obtain ⟨v, ev⟩ := tmul (w := w) (i := i) (K := 36) (N := 72) (n := 36) k36 wv (by clear hf h7 h8; omega) (by clear hf h7 h8; omega) (by omega) (by omega) (by omega)
      have iK : i.toNatClampNeg = i' := by rw [t_cl, ei]; rfl
      rw [eW, iK] at ev
      rw [ev, zb]
      refine ⟨v, fun y3 e3 => ?_⟩
      have m3 := md_a y 128 (36 * W + i') 0 (by decide)
      rw [← e3] at m3
      have g : ∀ c', ¬ c' = 128 → y3.1 c' = y.1 c' := fun c' hc' => by rw [e3, si_cell hc']
      refine ih (i' + 1) y3 (i + 1) ii (by clear hf h7 h8; omega) hi2 (Kst ky e3 m3 (by omega) (ow_mi (mi_of m3) rfl) (by rw [e3]; exact LW3_si W2 (Or.inr (Or.inr (Or.inr ⟨rfl, i', hi2, rfl⟩)))) (md_tr ((hK _).mp ky).1 m3 rfl rfl)) (fun f hf' => by rw [g 126 (by omega)]; exact hf f hf') (fun c hc => by rw [g 127 (by omega)]; exact h7 c hc) (fun k hk => ?_)
      rw [e3, si_get]
      by_cases q : k = i'
      · rw [if_pos ⟨rfl, by rw [q]⟩]
      · rw [if_neg (fun z => q (by have := z.2; omega))]
        exact h8 k (by clear hf h7 h8; omega)
  have p70 : ∀ (n i' : Nat) (y : gd) (i : Int32), i.toInt = i' → 24 - i' ≤ n → i' ≤ 24 → K y → (∀ f : Nat, f < 11 → y.1 126 (11 * W + f) = -1) → (∀ c, c < i' → y.1 127 (24 * W + c) = (lo0 nl).2.2.2.1 0) → MT G d z_forgetTrying 70 [(0, vr 0), (1, vi w), (2, vi i)] [] y (rv Fv) := by
    intro n
    have fin : ∀ (i' : Nat) (y : gd) (i : Int32), i.toInt = i' → i' ≤ 24 → K y → (∀ f : Nat, f < 11 → y.1 126 (11 * W + f) = -1) → (∀ c, c < i' → y.1 127 (24 * W + c) = (lo0 nl).2.2.2.1 0) → (24 : Int32) ≤ i → MT G d z_forgetTrying 103 [(0, vr 0), (1, vi w), (2, vi 0)] [] y (rv Fv) := by
      intro i' y i ei hi ky hf h7 c
      rw [t_le, k24] at c
      exact p103 36 0 y 0 rfl (by omega) (by omega) ky hf (fun c hc => h7 c (by clear hf h7; omega)) (fun k hk => absurd hk (Nat.not_lt_zero _))
    induction n with
    | zero =>
      intro i' y i ei hn hi ky hf h7
      exact sg_forgetTrying_70 _ _ ⟨fun c => fin i' y i ei hi ky hf h7 c, fun c => absurd (t_le.mpr (by clear hf h7; rw [k24]; omega)) c⟩
    | succ n ih =>
      intro i' y i ei hn hi ky hf h7
      refine sg_forgetTrying_70 _ _ ⟨fun c => fin i' y i ei hi ky hf h7 c, fun c => ?_⟩
      rw [t_le, k24] at c
      have hi2 : i' < 24 := by clear hf h7; omega
      have ii : (i + 1).toInt = ((i' + 1 : Nat) : Int) := by clear hf h7; rw [t_add (by omega) (by omega), k1, ei]; rfl
      obtain ⟨v, ev⟩ := tmul (w := w) (i := i) (K := 24) (N := 48) (n := 24) k24 wv (by clear hf h7; omega) (by clear hf h7; omega) (by omega) (by omega) (by omega)
      have iK : i.toNatClampNeg = i' := by rw [t_cl, ei]; rfl
      rw [eW, iK] at ev
      have e24 : y.1 0 24 = z.1 0 24 := (mi_of ((hK _).mp ky).1).1 24 (by decide)
      rw [ev, e24, eV]
      refine ⟨v, fun y3 e3 => ?_⟩
      have m3 := md_a y 127 (24 * W + i') ((lo0 nl).2.2.2.1 0) (by decide)
      rw [← e3] at m3
      have g : ∀ c', ¬ c' = 127 → y3.1 c' = y.1 c' := fun c' hc' => by rw [e3, si_cell hc']
      refine ih (i' + 1) y3 (i + 1) ii (by clear hf h7; omega) hi2 (Kst ky e3 m3 (by omega) (ow_mi (mi_of m3) rfl) (by rw [e3]; exact LW3_si W2 (Or.inr (Or.inr (Or.inl ⟨rfl, i', hi2, rfl⟩)))) (md_tr ((hK _).mp ky).1 m3 rfl rfl)) (fun f hf' => by rw [g 126 (by omega)]; exact hf f hf') (fun c hc => ?_)
      rw [e3, si_get]
      by_cases q : c = i'
      · rw [if_pos ⟨rfl, by rw [q]⟩]
      · rw [if_neg (fun z => q (by have := z.2; omega))]
        exact h7 c (by clear hf h7; omega)
  have p44 : ∀ (n : Nat) (y : gd) (i : Int32), 0 ≤ i.toInt → i.toInt ≤ 11 → 11 - i.toInt ≤ n → K y → (∀ f : Nat, (f : Int) < i.toInt → y.1 126 (11 * W + f) = -1) → MT G d z_forgetTrying 44 [(0, vr 0), (1, vi w), (2, vi i)] [] y (rv Fv) := by
    intro n
    have fin : ∀ (y : gd), K y → (∀ f : Nat, f < 11 → y.1 126 (11 * W + f) = -1) → MT G d z_forgetTrying 70 [(0, vr 0), (1, vi w), (2, vi 0)] [] y (rv Fv) := fun y ky hf => p70 24 0 y 0 rfl (by omega) (by omega) ky hf (fun c hc => absurd hc (Nat.not_lt_zero _))
    induction n with
    | zero =>
      intro y i i0 i1 hn ky hf
      exact sg_forgetTrying_44 _ _ ⟨fun _ => fin y ky (fun f hf' => hf f (by omega)), fun c => absurd (t_le.mpr (by rw [k11]; omega)) c⟩
    | succ n ih =>
      intro y i i0 i1 hn ky hf
      refine sg_forgetTrying_44 _ _ ⟨fun c => fin y ky (fun f hf' => hf f (by rw [t_le, k11] at c; omega)), fun c => ?_⟩
      rw [t_le, k11] at c
      have ii : (i + 1).toInt = i.toInt + 1 := by rw [t_add (by omega) (by omega), k1]
      have ci := cl_i i0
      obtain ⟨v, e⟩ := t11 wv i0 (by omega)
      rw [eW] at e
      rw [e]
      refine ⟨v, fun y3 e3 => ?_⟩
      have m3 := md_a y 126 (11 * W + i.toNatClampNeg) (-1) (by decide)
      rw [← e3] at m3
      refine ih y3 (i + 1) (by omega) (by omega) (by omega) (Kst ky e3 m3 (by omega) (by rw [e3]; exact ow_si W2 (Or.inr (Or.inl ⟨rfl, _, by omega, rfl⟩))) (by rw [e3]; exact LW3_si W2 (Or.inr (Or.inl rfl))) (md_tr ((hK _).mp ky).1 m3 rfl rfl)) (fun f hf' => ?_)
      rw [e3, si_get]
      by_cases q : (126 : Nat) = 126 ∧ 11 * W + f = 11 * W + i.toNatClampNeg
      · rw [if_pos q]
      · rw [if_neg q]; exact hf f (by omega)
  refine sg_forgetTrying_0 _ ?_
  rw [eW, zb]
  refine ⟨wv, fun y2 e2 => ⟨wv, fun y4 e4 => ⟨wv, fun y6 e6 => ⟨wv, fun y8 e8 => ⟨wv, fun y10 e10 => ⟨wv, fun y12 e12 => ?_⟩⟩⟩⟩⟩⟩
  have m2 := md_a z 120 W 0 (by decide)
  rw [← e2] at m2
  have m4 := md_a y2 121 W 0 (by decide)
  rw [← e4] at m4
  have m6 := md_a y4 122 W 0 (by decide)
  rw [← e6] at m6
  have m8 := md_a y6 123 W 0 (by decide)
  rw [← e8] at m8
  have m10 := md_a y8 124 W 0 (by decide)
  rw [← e10] at m10
  have m12 := md_a y10 125 W 0 (by decide)
  rw [← e12] at m12
  have o2 : ow W z y2 := by rw [e2]; exact ow_si W2 (Or.inl ⟨Or.inl rfl, rfl⟩)
  have o8 : ow W y6 y8 := by rw [e8]; exact ow_si W2 (Or.inl ⟨Or.inr rfl, rfl⟩)
  have l2 : LW3 z y2 W := by rw [e2]; exact LW3_si W2 (Or.inl ⟨by omega, rfl⟩)
  have l4 : LW3 y2 y4 W := by rw [e4]; exact LW3_si W2 (Or.inl ⟨by omega, rfl⟩)
  have l6 : LW3 y4 y6 W := by rw [e6]; exact LW3_si W2 (Or.inl ⟨by omega, rfl⟩)
  have l8 : LW3 y6 y8 W := by rw [e8]; exact LW3_si W2 (Or.inl ⟨by omega, rfl⟩)
  have l10 : LW3 y8 y10 W := by rw [e10]; exact LW3_si W2 (Or.inl ⟨by omega, rfl⟩)
  have l12 : LW3 y10 y12 W := by rw [e12]; exact LW3_si W2 (Or.inl ⟨by omega, rfl⟩)
  refine p44 11 y12 0 (by decide) (by decide) (by decide) ((hK _).mpr ⟨md_tr (md_tr (L3 := []) (A3 := [120, 121, 122, 123, 124]) (md_tr (L3 := []) (A3 := [120, 121, 122, 123]) (md_tr (L3 := []) (A3 := [120, 121, 122]) (md_tr (L3 := []) (A3 := [120, 121]) m2 m4 rfl rfl) m6 rfl rfl) m8 rfl rfl) m10 rfl rfl) m12 rfl rfl, ow_tr (ow_tr (ow_tr (ow_tr (ow_tr o2 (ow_mi (mi_of m4) rfl)) (ow_mi (mi_of m6) rfl)) o8) (ow_mi (mi_of m10) rfl)) (ow_mi (mi_of m12) rfl), ⟨?_, ?_, ?_, ?_, ?_, ?_⟩, LW3_tr (LW3_tr (LW3_tr (LW3_tr (LW3_tr l2 l4) l6) l8) l10) l12⟩) (fun f hf => by rw [k0] at hf; omega)
  · rw [m12.2.1 120 (by decide) (by decide), m10.2.1 120 (by decide) (by decide), m8.2.1 120 (by decide) (by decide), m6.2.1 120 (by decide) (by decide), m4.2.1 120 (by decide) (by decide), e2, si_get, if_pos ⟨rfl, rfl⟩]
  · rw [m12.2.1 121 (by decide) (by decide), m10.2.1 121 (by decide) (by decide), m8.2.1 121 (by decide) (by decide), m6.2.1 121 (by decide) (by decide), e4, si_get, if_pos ⟨rfl, rfl⟩]
  · rw [m12.2.1 122 (by decide) (by decide), m10.2.1 122 (by decide) (by decide), m8.2.1 122 (by decide) (by decide), e6, si_get, if_pos ⟨rfl, rfl⟩]
  · rw [m12.2.1 123 (by decide) (by decide), m10.2.1 123 (by decide) (by decide), e8, si_get, if_pos ⟨rfl, rfl⟩]
  · rw [m12.2.1 124 (by decide) (by decide), e10, si_get, if_pos ⟨rfl, rfl⟩]
  · rw [e12, si_get, if_pos ⟨rfl, rfl⟩]
/-- what stays of it: all but the rows -/
def MLc (y : gd) (W : Nat) (l : gLo) : Prop := (y.1 122 W).toInt = (l.1 : Nat) ∧ (y.1 124 W).toInt = (l.2.1 : Nat) ∧ (y.1 125 W).toInt = (l.2.2.1 : Nat) ∧ (∀ c, c < 24 → y.1 127 (24 * W + c) = l.2.2.2.1 c) ∧ (∀ a, a < 6 → ∀ b, b < 6 → (¬ y.1 128 (36 * W + 6 * a + b) = 0 ↔ (l.2.2.2.2.1 a >>> (Int32.ofNat b &&& 31)) &&& 1 = 1)) ∧ OUs y W l.2.2.2.2.2
theorem MLc_of {l : gLo} (e : ∀ c, c = 122 ∨ c = 123 ∨ c = 124 ∨ c = 125 ∨ c = 127 ∨ c = 128 → y'.1 c = y.1 c) (hs : OUs y' W l.2.2.2.2.2) (h : MLo y W l) : MLc y' W l := by
  obtain ⟨h1, h2, h3, h4, h5, -⟩ := h
  exact ⟨by rw [e 122 (by omega)]; exact h1, by rw [e 124 (by omega)]; exact h2, by rw [e 125 (by omega)]; exact h3, fun c hc => by rw [e 127 (by omega)]; exact h4 c hc, fun a ha b hb => by rw [e 128 (by omega)]; exact h5 a ha b hb, hs⟩
theorem MLo_f {l : gLo} (e : eqL y y') (h : MLo y W l) : MLo y' W l := by
  obtain ⟨h1, h2, h3, h4, h5, h6⟩ := h
  exact ⟨by rw [e 122 (by omega)]; exact h1, by rw [e 124 (by omega)]; exact h2, by rw [e 125 (by omega)]; exact h3, fun c hc => by rw [e 127 (by omega)]; exact h4 c hc, fun a ha b hb => by rw [e 128 (by omega)]; exact h5 a ha b hb, OUm_f (e 123 (by omega)) (e 129 (by omega)) h6⟩
end MFG
end
section
/-! the model: outcomes are put in order -/
/-- rows of 24 from row B on -/
def RWm (u : gd) (B : Nat) (Q : List (List Int32)) : Prop := ∀ i r, Q[i]? = some r → r.length = 24 ∧ ∀ c v, r[c]? = some v → u.1 129 (24 * (B + i) + c) = v
/-- what stays while rows change places: u holds P, of the rows that Q has -/
def SQm (z u : gd) (W : Nat) (Q P : List (List Int32)) : Prop := md [] [129] z u ∧ (∀ j, (j < 72000 * W ∨ 72000 * W + 72000 ≤ j) → u.1 129 j = z.1 129 j) ∧ RWm u (3000 * W) P ∧ P.length = Q.length ∧ (∀ r, r ∈ P ↔ r ∈ Q) ∧ P.Pairwise (fun a b => ¬ a = b)
/-- the first c places of rows m, m + 1 are changed -/
def SWi (u v : gd) (B m c : Nat) : Prop := (∀ t, ¬ (24 * (B + m) ≤ t ∧ t < 24 * (B + m) + 48) → v.1 129 t = u.1 129 t) ∧ (∀ t, t < 24 → v.1 129 (24 * (B + m) + t) = if t < c then u.1 129 (24 * (B + (m + 1)) + t) else u.1 129 (24 * (B + m) + t)) ∧ (∀ t, t < 24 → v.1 129 (24 * (B + (m + 1)) + t) = if t < c then u.1 129 (24 * (B + m) + t) else u.1 129 (24 * (B + (m + 1)) + t))
section MSO
variable {G : mG} {d : Nat} {z u u' v x7 : gd} {F : Int32 → gd → Prop} {Fv : gd → Prop} {B m c I W : Nat} {A Bs R Q P : List (List Int32)} {a r s : List Int32}
theorem li_last {α : Type} : ∀ {m : Nat} {l : List α}, l.length = m + 1 → ∃ A a, l = A ++ [a] ∧ A.length = m := by
  intro m
  induction m with
  | zero =>
    intro l h
    cases l with
    | nil => cases h
    | cons b l =>
      cases l with
      | nil => exact ⟨[], b, rfl, rfl⟩
      | cons e l => cases h
  | succ m ih =>
    intro l h
    cases l with
    | nil => cases h
    | cons b l =>
      obtain ⟨A, a, e, hA⟩ := ih (l := l) (Nat.succ.inj h)
      exact ⟨b :: A, a, by rw [e]; rfl, by rw [List.length_cons, hA]⟩
theorem t24e {i c : Int32} {I c' : Nat} (ei : i.toInt = I) (i1 : I < 6000) (ec : c.toInt = c') (c1 : c' < 24) : (24 * i + c).toNatClampNeg = 24 * I + c' := by
  have k2 : (24 : Int32).toInt = 24 := rfl
  have m2 : (24 * i).toInt = 24 * i.toInt := by rw [t_mul (by rw [k2]; omega) (by rw [k2]; omega), k2]
  rw [t_cl, t_add (by omega) (by omega), m2]; omega
theorem sp_isLess3 (a b : Int32) {A A' : Nat} (ea : a.toInt = A) (a1 : A < 6000) (eb : b.toInt = A') (b1 : A' < 6000) (lr : r.length = 24) (ls : s.length = 24) (hr : ∀ c v, r[c]? = some v → z.1 129 (24 * A + c) = v) (hs : ∀ c v, s[c]? = some v → z.1 129 (24 * A' + c) = v) (h0 : ¬ ltR r s = true → F 0 z) (h1 : ltR r s = true → F 1 z) : MT G d z_isLess 0 [(0, vr 0), (1, vi a), (2, vi b)] [] z (ri F) := by
  have k1 : (1 : Int32).toInt = 1 := rfl
  have k24 : (24 : Int32).toInt = 24 := rfl
  have loop : ∀ (n c' : Nat) (c : Int32), c.toInt = c' → 24 - c' ≤ n → c' ≤ 24 → r.take c' = s.take c' → MT G d z_isLess 2 [(0, vr 0), (1, vi a), (2, vi b), (3, vi c)] [] z (ri F) := by
    intro n
    have fin : ∀ (c' : Nat) (c : Int32), c.toInt = c' → c' ≤ 24 → r.take c' = s.take c' → (24 : Int32) ≤ c → ri F (some (vi 0)) z := by
      intro c' c ec hc ht q
      rw [t_le, k24] at q
      rw [List.take_of_length_le (by omega), List.take_of_length_le (by omega)] at ht
      exact ri_i (h0 (by rw [ht, ltR_irr]; decide))
    induction n with
    | zero =>
      intro c' c ec hn hc ht
      exact sg_isLess_2 _ _ _ ⟨fun q => fin c' c ec hc ht q, fun q => absurd (t_le.mpr (by rw [k24]; omega)) q⟩
    | succ n ih =>
      intro c' c ec hn hc ht
      refine sg_isLess_2 _ _ _ ⟨fun q => fin c' c ec hc ht q, fun q => ?_⟩
      rw [t_le, k24] at q
      have hc2 : c' < 24 := by omega
      have ci : (c + 1).toInt = ((c' + 1 : Nat) : Int) := by rw [t_add (by omega) (by omega), k1, ec]; rfl
      have va := t24 (i := a) (c := c) (by omega) (by omega) (by omega) (by omega)
      have vb := t24 (i := b) (c := c) (by omega) (by omega) (by omega) (by omega)
      obtain ⟨u, hu⟩ : ∃ u, r[c']? = some u := ⟨_, List.getElem?_eq_getElem (by omega)⟩
      obtain ⟨v, hv⟩ : ∃ v, s[c']? = some v := ⟨_, List.getElem?_eq_getElem (by omega)⟩
      rw [t24e ea a1 ec hc2, t24e eb b1 ec hc2, hr c' u hu, hs c' v hv]
      refine ⟨va, vb, fun e => ih (c' + 1) _ ci (by omega) hc2 (by rw [List.take_succ, List.take_succ, ht, hu, hv, e]), fun ne => ⟨va, vb, fun le => ri_i (h0 ?_), fun nle => ri_i (h1 ?_)⟩⟩
      · rw [ltR_at ht hu hv ne, decide_eq_true_iff]
        rw [t_le] at le
        rw [t_lt]; omega
      · rw [ltR_at ht hu hv ne]
        rw [t_le] at nle
        exact decide_eq_true (by rw [t_lt]; omega)
  exact sg_isLess_0 _ _ (loop 24 0 0 rfl (by omega) (by omega) rfl)
theorem SWi_go (h : SWi u v B m c) (hc : c < 24) (e : x7 = si (si v 129 (24 * (B + (m + 1)) + c) (v.1 129 (24 * (B + m) + c))) 129 (24 * (B + m) + c) (v.1 129 (24 * (B + (m + 1)) + c))) : SWi u x7 B m (c + 1) := by
  obtain ⟨h1, h2, h3⟩ := h
  have g : ∀ t, x7.1 129 t = if t = 24 * (B + m) + c then v.1 129 (24 * (B + (m + 1)) + c) else if t = 24 * (B + (m + 1)) + c then v.1 129 (24 * (B + m) + c) else v.1 129 t := by
    intro t
    rw [e, si_get]
    by_cases e1 : t = 24 * (B + m) + c
    · rw [if_pos ⟨rfl, e1⟩, if_pos e1]
    · rw [if_neg (fun q => e1 q.2), if_neg e1, si_get]
      by_cases e2 : t = 24 * (B + (m + 1)) + c
      · rw [if_pos ⟨rfl, e2⟩, if_pos e2]
      · rw [if_neg (fun q => e2 q.2), if_neg e2]
  refine ⟨fun t ht => ?_, fun t ht => ?_, fun t ht => ?_⟩
  · rw [g, if_neg (by clear h1 h2 h3 g; omega), if_neg (by clear h1 h2 h3 g; omega)]; exact h1 t ht
  · rw [g]
    by_cases e1 : t = c
    · rw [e1, if_pos rfl, if_pos (Nat.lt_succ_self _), h3 c hc, if_neg (Nat.lt_irrefl _)]
    · rw [if_neg (by clear h1 h2 h3 g; omega), if_neg (by clear h1 h2 h3 g; omega), h2 t ht]
      by_cases c2 : t < c
      · rw [if_pos c2, if_pos (Nat.lt_succ_of_lt c2)]
      · rw [if_neg c2, if_neg (by clear h1 h2 h3 g; omega)]
  · rw [g]
    by_cases e1 : t = c
    · rw [e1, if_neg (by clear h1 h2 h3 g; omega), if_pos rfl, if_pos (Nat.lt_succ_self _), h2 c hc, if_neg (Nat.lt_irrefl _)]
    · rw [if_neg (by clear h1 h2 h3 g; omega), if_neg (by clear h1 h2 h3 g; omega), h3 t ht]
      by_cases c2 : t < c
      · rw [if_pos c2, if_pos (Nat.lt_succ_of_lt c2)]
      · rw [if_neg c2, if_neg (by clear h1 h2 h3 g; omega)]
/-- two rows change places -/
theorem ms_swap (w Bi i j : Int32) (hB : B + m + 1 < 6000) (ej : j.toInt = ((B + (m + 1) : Nat) : Int)) (hF : ∀ v, md [] [129] u v → SWi u v B m 24 → MT G (d + 1) z_sortOutcomes 25 [(0, vr 0), (1, vi w), (2, vi Bi), (3, vi i), (4, vi (j + -1))] [] v (rv Fv)) : MT G (d + 1) z_sortOutcomes 47 [(0, vr 0), (1, vi w), (2, vi Bi), (3, vi i), (4, vi j), (5, vi 0)] [] u (rv Fv) := by
  have k1 : (1 : Int32).toInt = 1 := rfl
  have k24 : (24 : Int32).toInt = 24 := rfl
  have ej1 : (j - 1).toInt = ((B + m : Nat) : Int) := by rw [t_sub (by omega) (by omega), k1, ej]; push_cast; omega
  have loop : ∀ (n c' : Nat) (c : Int32) (v : gd), c.toInt = c' → 24 - c' ≤ n → c' ≤ 24 → md [] [129] u v → SWi u v B m c' → MT G (d + 1) z_sortOutcomes 47 [(0, vr 0), (1, vi w), (2, vi Bi), (3, vi i), (4, vi j), (5, vi c)] [] v (rv Fv) := by
    intro n
    have fin : ∀ (c' : Nat) (c : Int32) (v : gd), c.toInt = c' → c' ≤ 24 → md [] [129] u v → SWi u v B m c' → (24 : Int32) ≤ c → MT G (d + 1) z_sortOutcomes 25 [(0, vr 0), (1, vi w), (2, vi Bi), (3, vi i), (4, vi (j + -1))] [] v (rv Fv) := by
      intro c' c v ec hc mv sv q
      rw [t_le, k24] at q
      have e : c' = 24 := by omega
      rw [e] at sv
      exact hF v mv sv
    induction n with
    | zero =>
      intro c' c v ec hn hc mv sv
      exact sg_sortOutcomes_47 _ _ _ _ _ ⟨fun q => fin c' c v ec hc mv sv q, fun q => absurd (t_le.mpr (by rw [k24]; omega)) q⟩
    | succ n ih =>
      intro c' c v ec hn hc mv sv
      refine sg_sortOutcomes_47 _ _ _ _ _ ⟨fun q => fin c' c v ec hc mv sv q, fun q => ?_⟩
      rw [t_le, k24] at q
      have hc2 : c' < 24 := by omega
      have ci : (c + 1).toInt = ((c' + 1 : Nat) : Int) := by rw [t_add (by omega) (by omega), k1, ec]; rfl
      have va := t24 (i := j) (c := c) (by omega) (by omega) (by omega) (by omega)
      have vb := t24 (i := j - 1) (c := c) (by omega) (by omega) (by omega) (by omega)
      rw [t24e ej (by omega) ec hc2, t24e ej1 (by omega) ec hc2]
      refine ⟨va, vb, va, fun x5 e5 => ⟨vb, fun y7 e7 => ?_⟩⟩
      have m5 := md_a v 129 (24 * (B + (m + 1)) + c') (v.1 129 (24 * (B + m) + c')) (by decide)
      rw [← e5] at m5
      have m7 := md_a x5 129 (24 * (B + m) + c') (v.1 129 (24 * (B + (m + 1)) + c')) (by decide)
      rw [← e7] at m7
      exact ih (c' + 1) (c + 1) y7 ci (by omega) hc2 (md_tr (md_tr (L3 := []) (A3 := [129]) mv m5 rfl rfl) m7 rfl rfl) (SWi_go sv hc2 (by rw [e7, e5]))
  exact loop 24 0 0 u rfl (by omega) (by omega) (md_w (md_rf u) (by decide) (by decide)) ⟨fun _ _ => rfl, fun t _ => by rw [if_neg (Nat.not_lt_zero _)], fun t _ => by rw [if_neg (Nat.not_lt_zero _)]⟩
theorem RWm_swap (hA : A.length = m) (h : RWm u B (A ++ a :: r :: R)) (g : SWi u v B m 24) : RWm v B (A ++ r :: a :: R) := by
  obtain ⟨v1, v2, v3⟩ := g
  have ga : (A ++ a :: r :: R)[m]? = some a := by rw [List.getElem?_append_right (by omega), hA, Nat.sub_self]; rfl
  have gr : (A ++ a :: r :: R)[m + 1]? = some r := by rw [List.getElem?_append_right (by omega), hA, show m + 1 - m = 1 by omega]; rfl
  obtain ⟨la, ha⟩ := h m a ga
  obtain ⟨lr, hr⟩ := h (m + 1) r gr
  intro x rr hx
  by_cases x1 : x = m
  · rw [x1, List.getElem?_append_right (by omega), hA, Nat.sub_self] at hx
    have er : r = rr := Option.some.inj hx
    rw [← er]
    refine ⟨lr, fun t o ho => ?_⟩
    have tl := gt_lt ho
    rw [lr] at tl
    rw [x1, v2 t tl, if_pos tl]; exact hr t o ho
  · by_cases x2 : x = m + 1
    · rw [x2, List.getElem?_append_right (by omega), hA, show m + 1 - m = 1 by omega] at hx
      have er : a = rr := Option.some.inj hx
      rw [← er]
      refine ⟨la, fun t o ho => ?_⟩
      have tl := gt_lt ho
      rw [la] at tl
      rw [x2, v3 t tl, if_pos tl]; exact ha t o ho
    · have hx2 : (A ++ a :: r :: R)[x]? = some rr := by
        by_cases x3 : x < m
        · rw [List.getElem?_append_left (by omega)] at hx ⊢; exact hx
        · rw [List.getElem?_append_right (by omega), hA] at hx ⊢
          obtain ⟨o, eo⟩ : ∃ o, x - m = o + 1 + 1 := ⟨x - m - 2, by omega⟩
          rw [eo] at hx ⊢
          exact hx
      obtain ⟨l9, h9⟩ := h x rr hx2
      refine ⟨l9, fun t o ho => ?_⟩
      have tl := gt_lt ho
      rw [l9] at tl
      rw [v1 _ (by clear v1 v2 v3 h9 ha hr h; omega)]; exact h9 t o ho
theorem sw_mem {e : List Int32} : e ∈ A ++ r :: a :: R ↔ e ∈ A ++ a :: r :: R := by
  rw [List.mem_append, List.mem_append, List.mem_cons, List.mem_cons, List.mem_cons, List.mem_cons]
  constructor
  · rintro (y | y | y | y)
    · exact Or.inl y
    · exact Or.inr (Or.inr (Or.inl y))
    · exact Or.inr (Or.inl y)
    · exact Or.inr (Or.inr (Or.inr y))
  · rintro (y | y | y | y)
    · exact Or.inl y
    · exact Or.inr (Or.inr (Or.inl y))
    · exact Or.inr (Or.inl y)
    · exact Or.inr (Or.inr (Or.inr y))
theorem sw_nd (h : (A ++ a :: r :: R).Pairwise (fun a b => ¬ a = b)) : (A ++ r :: a :: R).Pairwise (fun a b => ¬ a = b) := by
  obtain ⟨d1, d2, d3⟩ := List.pairwise_append.mp h
  obtain ⟨d4, d5⟩ := List.pairwise_cons.mp d2
  obtain ⟨d6, d7⟩ := List.pairwise_cons.mp d5
  have ne : ¬ r = a := fun e => d4 r (List.mem_cons_self ..) e.symm
  refine List.pairwise_append.mpr ⟨d1, List.pairwise_cons.mpr ⟨fun b hb => ?_, List.pairwise_cons.mpr ⟨fun b hb => d4 b (List.mem_cons_of_mem _ hb), d7⟩⟩, fun x hx b hb => d3 x hx b ?_⟩
  · rcases List.mem_cons.mp hb with y | y
    · rw [y]; exact ne
    · exact d6 b y
  · rcases List.mem_cons.mp hb with y | y
    · rw [y]; exact List.mem_cons_of_mem _ (List.mem_cons_self ..)
    · rcases List.mem_cons.mp y with y | y
      · rw [y]; exact List.mem_cons_self ..
      · exact List.mem_cons_of_mem _ (List.mem_cons_of_mem _ y)
theorem SQm_swap (W3 : m + 1 < 3000) (hA : A.length = m) (h : SQm z u W Q (A ++ a :: r :: R)) (mv : md [] [129] u v) (g : SWi u v (3000 * W) m 24) : SQm z v W Q (A ++ r :: a :: R) := by
  obtain ⟨q1, q2, q3, q4, q5, q6⟩ := h
  refine ⟨md_tr q1 mv rfl rfl, fun t ht => ?_, RWm_swap hA q3 g, ?_, fun e => by rw [← q5 e]; exact sw_mem, sw_nd q6⟩
  · rw [g.1 t (by clear q2 q3 q5 q6 g; omega)]; exact q2 t ht
  · rw [← q4, List.length_append, List.length_append]; rfl
theorem ms_nxt (hl : A.length + Bs.length = I) (hs : soR (A ++ Bs)) (hb : ∀ b ∈ Bs, ltR r b = true) (ha : ∀ a ∈ A, ltR a r = true) : soR ((A ++ r :: (Bs ++ R)).take (I + 1)) := by
  have e : (A ++ r :: (Bs ++ R)).take (I + 1) = A ++ r :: Bs := by
    rw [show A ++ r :: (Bs ++ R) = (A ++ r :: Bs) ++ R by rw [List.append_assoc]; rfl]
    rw [List.take_append_of_le_length (by rw [List.length_append, List.length_cons]; omega), List.take_of_length_le (by rw [List.length_append, List.length_cons]; omega)]
  rw [e]
  obtain ⟨h1, h2, h3⟩ := List.pairwise_append.mp hs
  refine List.pairwise_append.mpr ⟨h1, List.pairwise_cons.mpr ⟨hb, h2⟩, fun a ha9 b hb9 => ?_⟩
  rcases List.mem_cons.mp hb9 with q | q
  · rw [q]; exact ha a ha9
  · exact h3 a ha9 b q
/-- a row goes down to its place -/
theorem ms_b6 {B m J : Nat} (a : B ≤ 3000) (b : m + 1 ≤ J) (c : J < 3000) : B + (m + 1) < 6000 := by omega
theorem ms_in (w Bi i : Int32) {B0 : Nat} (e0 : 3000 * W = B0) (W2 : B0 ≤ 3000) (b1 : Bi.toInt = (B0 : Nat)) (hI : I < 3000) (hF : ∀ v P, SQm z v W Q P → soR (P.take (I + 1)) → MT G (d + 1) z_sortOutcomes 10 [(0, vr 0), (1, vi w), (2, vi Bi), (3, vi (i + 1))] [] v (rv Fv)) : ∀ (m : Nat) (A : List (List Int32)) (r : List Int32) (Bs R : List (List Int32)) (u : gd) (j : Int32), A.length = m → m + Bs.length = I → j.toInt = ((B0 + m : Nat) : Int) → SQm z u W Q (A ++ r :: (Bs ++ R)) → soR (A ++ Bs) → (∀ b ∈ Bs, ltR r b = true) → MT G (d + 1) z_sortOutcomes 25 [(0, vr 0), (1, vi w), (2, vi Bi), (3, vi i), (4, vi j)] [] u (rv Fv) := by
  have k1 : (1 : Int32).toInt = 1 := rfl
  intro m
  induction m with
  | zero =>
    intro A r Bs R u j hA hl ej kp hs hb
    have eA : A = [] := List.eq_nil_of_length_eq_zero hA
    have ej0 : j.toInt = (B0 : Nat) := ej
    exact sg_sortOutcomes_25 _ _ _ _ ⟨fun _ => hF u _ kp (ms_nxt (by rw [hA]; exact hl) hs hb (fun a ha => by rw [eA] at ha; cases ha)), fun q => absurd (t_le.mpr (by rw [ej0, b1]; exact Int.le_refl _)) q⟩
  | succ m ihm =>
    intro A r Bs R u j hA hl ej kp hs hb
    have eji : j.toInt = (B0 : Int) + m + 1 := by rw [ej]; exact Int.natCast_add B0 (m + 1)
    have mI : m + 1 ≤ I := by rw [← hl]; exact Nat.le_add_right _ _
    refine sg_sortOutcomes_25 _ _ _ _ ⟨fun q => ?_, fun q => ?_⟩
    · rw [t_le, eji, b1] at q
      exact absurd q (by clear kp hs hb hF ihm; omega)
    obtain ⟨A', a, eA, lA'⟩ := li_last hA
    have eP : A ++ r :: (Bs ++ R) = A' ++ a :: r :: (Bs ++ R) := by rw [eA, List.append_assoc]; rfl
    have kp2 := kp
    rw [eP] at kp2
    have q3 := kp2.2.2.1
    rw [e0] at q3
    have q6 := kp2.2.2.2.2.2
    have ga : (A' ++ a :: r :: (Bs ++ R))[m]? = some a := by rw [List.getElem?_append_right (Nat.le_of_eq lA'), lA', Nat.sub_self]; rfl
    have gr : (A' ++ a :: r :: (Bs ++ R))[m + 1]? = some r := by rw [List.getElem?_append_right (by rw [lA']; exact Nat.le_succ _), lA', Nat.add_sub_cancel_left]; rfl
    obtain ⟨la, ha⟩ := q3 m a ga
    obtain ⟨lr, hr⟩ := q3 (m + 1) r gr
    have ej1 : (j - 1).toInt = ((B0 + m : Nat) : Int) := by
      rw [t_sub (by rw [eji, k1]; clear kp kp2 q3 hs hb hF ihm hr ha; omega) (by rw [eji, k1]; clear kp kp2 q3 hs hb hF ihm hr ha; omega), k1, eji, Int.natCast_add]
      exact Int.add_sub_cancel _ _
    have ejm : (j + -1).toInt = ((B0 + m : Nat) : Int) := by
      rw [t_add (by rw [eji, tm1]; clear kp kp2 q3 hs hb hF ihm hr ha; omega) (by rw [eji, tm1]; clear kp kp2 q3 hs hb hF ihm hr ha; omega), tm1, eji, Int.natCast_add]
      exact Int.add_neg_cancel_right _ _
    have ne : ¬ r = a := fun e => (List.pairwise_cons.mp (List.pairwise_append.mp q6).2.1).1 r (List.mem_cons_self ..) e.symm
    have hs' : soR (A' ++ a :: Bs) := by rw [eA, List.append_assoc] at hs; exact hs
    have b6 : B0 + (m + 1) < 6000 := ms_b6 W2 mI hI
    have b5 : B0 + m < 6000 := Nat.lt_of_succ_lt b6
    refine sp_isLess3 (A := B0 + (m + 1)) (A' := B0 + m) j (j - 1) ej b6 ej1 b5 lr la hr ha (fun nl => ⟨fun _ => ?_, fun z9 => absurd rfl z9⟩) (fun lt => ⟨fun z9 => absurd z9 (by decide), fun _ => ?_⟩)
    · have lar : ltR a r = true := (ltR_tot (by rw [lr, la]) ne).resolve_left nl
      refine hF u _ kp (ms_nxt (by rw [hA]; exact hl) hs hb (fun b hb9 => ?_))
      rw [eA] at hb9
      rcases List.mem_append.mp hb9 with y | y
      · exact ltR_tr ((List.pairwise_append.mp hs').2.2 b y a (List.mem_cons_self ..)) lar
      · rw [List.mem_singleton.mp y]; exact lar
    · refine ms_swap (B := B0) (m := m) w Bi i j b6 ej (fun v mv sv => ihm A' r (a :: Bs) R v (j + -1) lA' (by rw [List.length_cons, ← hl]; exact (Nat.add_right_comm m 1 Bs.length).symm) ejm (SQm_swap (Nat.lt_of_le_of_lt mI hI) lA' kp2 mv (by rw [e0]; exact sv)) hs' (fun b hb9 => ?_))
      rcases List.mem_cons.mp hb9 with y | y
      · rw [y]; exact lt
      · exact hb b y
theorem soR_1 : ∀ Q : List (List Int32), soR (Q.take 1)
  | [] => List.Pairwise.nil
  | q :: Q => by
    rw [List.take_succ_cons, List.take_zero]
    exact List.pairwise_singleton _ _
theorem sp_sortOutcomes3 (w : Int32) (wv : vp_in w 2) (eW : w.toNatClampNeg = W) (eO : (z.1 123 W).toInt = (Q.length : Nat)) (o1 : Q.length ≤ 3000) (hQ : RWm z (3000 * W) Q) (nd : Q.Pairwise (fun a b => ¬ a = b)) (h : ∀ z' S, SQm z z' W Q S → soR S → Fv z') : MT G (d + 1) z_sortOutcomes 0 [(0, vr 0), (1, vi w)] [] z (rv Fv) := by
  have k1 : (1 : Int32).toInt = 1 := rfl
  have tv := vp_in_iff.mp wv
  have W2 : W < 2 := by rw [← eW]; exact vp_lt wv
  have cw : w.toInt = (W : Nat) := by rw [t_cl] at eW; clear eO hQ nd h; omega
  obtain ⟨Bi, eB⟩ : ∃ B, B = 3000 * w := ⟨_, rfl⟩
  obtain ⟨B0, e0⟩ : ∃ B0, 3000 * W = B0 := ⟨_, rfl⟩
  have b13 : Bi.toInt = (B0 : Nat) ∧ B0 ≤ 3000 := by
    rcases (show W = 0 ∨ W = 1 by clear eO hQ nd h; omega) with c | c
    · have w0 : w = 0 := t_eq.mpr (by rw [cw, c]; rfl)
      rw [eB, ← e0, c, w0]; decide
    · have w1 : w = 1 := t_eq.mpr (by rw [cw, c]; rfl)
      rw [eB, ← e0, c, w1]; decide
  obtain ⟨b1, b3⟩ := b13
  obtain ⟨O, hO⟩ : ∃ O, O = z.1 123 W := ⟨_, rfl⟩
  rw [← hO] at eO
  obtain ⟨q, eq⟩ : ∃ q, q = Q.length := ⟨_, rfl⟩
  rw [← eq] at eO o1
  have bo : (Bi + O).toInt = (B0 : Int) + q := by rw [t_add (by rw [b1, eO]; clear hQ nd h; omega) (by rw [b1, eO]; clear hQ nd h; omega), b1, eO]
  have y123 : ∀ {y : gd} {P : List (List Int32)}, SQm z y W Q P → y.1 123 w.toNatClampNeg = O := fun kp => by rw [kp.1.2.1 123 (by decide) (by decide), eW, hO]
  have lP : ∀ {y : gd} {P : List (List Int32)}, SQm z y W Q P → P.length = q := fun kp => by rw [kp.2.2.2.1, eq]
  have p10 : ∀ (n I : Nat) (P : List (List Int32)) (y : gd) (i : Int32), 1 ≤ I → I ≤ 3001 → i.toInt = (B0 : Int) + I → q - I ≤ n → SQm z y W Q P → soR (P.take I) → MT G (d + 1) z_sortOutcomes 10 [(0, vr 0), (1, vi w), (2, vi Bi), (3, vi i)] [] y (rv Fv) := by
    intro n
    have fin : ∀ (I : Nat) (P : List (List Int32)) (y : gd) (i : Int32), i.toInt = (B0 : Int) + I → SQm z y W Q P → soR (P.take I) → Bi + O ≤ i → rv Fv none y := by
      intro I P y i ei kp hs c
      rw [t_le, bo, ei] at c
      have l := lP kp
      rw [List.take_of_length_le (by rw [l]; clear kp hs hQ nd h; omega)] at hs
      exact rv_i (h y P kp hs)
    induction n with
    | zero =>
      intro I P y i I1 I3 ei hn kp hs
      refine sg_sortOutcomes_10 _ _ _ ⟨wv, ?_⟩
      rw [y123 kp]
      exact ⟨fun c => fin I P y i ei kp hs c, fun c => absurd (t_le.mpr (by rw [bo, ei]; clear kp hs hQ nd h fin; omega)) c⟩
    | succ n ih =>
      intro I P y i I1 I3 ei hn kp hs
      refine sg_sortOutcomes_10 _ _ _ ⟨wv, ?_⟩
      rw [y123 kp]
      refine ⟨fun c => fin I P y i ei kp hs c, fun c => ?_⟩
      rw [t_le, bo, ei] at c
      have hI : I < q := by clear kp hs hQ nd h fin ih; omega
      have l := lP kp
      have ii : (i + 1).toInt = (B0 : Int) + (I + 1 : Nat) := by
        rw [t_add (by rw [ei, k1]; clear kp hs hQ nd h fin ih; omega) (by rw [ei, k1]; clear kp hs hQ nd h fin ih; omega), k1, ei, Int.add_assoc]; rfl
      have hIP : I < P.length := by rw [l]; exact hI
      obtain ⟨r, hr⟩ : ∃ r, P.drop I = r :: P.drop (I + 1) := ⟨_, List.drop_eq_getElem_cons hIP⟩
      have eP : P = P.take I ++ r :: ([] ++ P.drop (I + 1)) := by
        rw [List.nil_append, ← hr, List.take_append_drop]
      refine ms_in w Bi i (B0 := B0) e0 b3 b1 (I := I) (by clear kp hs hQ nd h fin ih; omega) (fun v P' kp' hs' => ih (I + 1) P' v (i + 1) (Nat.le_add_left _ _) (by clear kp hs hQ nd h fin ih kp' hs'; omega) ii (by clear kp hs hQ nd h fin ih kp' hs'; omega) kp' hs') I (P.take I) r [] (P.drop (I + 1)) y i (by rw [List.length_take]; exact Nat.min_eq_left (Nat.le_of_lt hIP)) rfl (by rw [ei]; exact (Int.natCast_add _ _).symm) (by rw [← eP]; exact kp) (by rw [List.append_nil]; exact hs) (fun b hb => by cases hb)
  refine sg_sortOutcomes_0 _ ?_
  rw [← eB]
  exact p10 q 1 Q z (Bi + 1) (Nat.le_refl _) (by decide) (by rw [t_add (by rw [b1, k1]; clear hQ nd h; omega) (by rw [b1, k1]; clear hQ nd h; omega), k1, b1]; rfl) (Nat.sub_le _ _) ⟨md_w (md_rf z) (by decide) (by decide), fun _ _ => rfl, hQ, rfl, fun _ => Iff.rfl, nd⟩ (soR_1 Q)
end MSO
end
section
/-! the model: the outcomes in order, as they are told -/
/-- a row with the places that are beyond all cells -/
def pdR (r : List Int32) : List Int32 := r ++ List.replicate (24 - r.length) 0
section PDR
variable {z y y' : gd} {W N c : Nat} {r s : List Int32} {L Q S : List (List Int32)}
theorem pd_len (h : r.length ≤ 24) : (pdR r).length = 24 := by
  unfold pdR
  rw [List.length_append, List.length_replicate]; omega
theorem pd_lo (h : c < r.length) : (pdR r)[c]? = r[c]? := by
  unfold pdR
  exact List.getElem?_append_left h
theorem pd_hi (h1 : r.length ≤ c) (h2 : c < 24) : (pdR r)[c]? = some 0 := by
  unfold pdR
  rw [List.getElem?_append_right h1, List.getElem?_replicate, if_pos (by omega)]
theorem ltR_app : ∀ {r s t : List Int32}, r.length = s.length → ltR r s = true → ltR (r ++ t) (s ++ t) = true := by
  intro r
  induction r with
  | nil => intro s t h1 h2; cases s <;> exact absurd h2 (by simp [ltR])
  | cons a r ih =>
    intro s t h1 h2
    cases s with
    | nil => cases h1
    | cons b s =>
      show ltR (a :: (r ++ t)) (b :: (s ++ t)) = true
      rw [ltR] at h2 ⊢
      by_cases e : a = b
      · rw [if_pos e] at h2 ⊢
        exact ih (Nat.succ.inj h1) h2
      · rw [if_neg e] at h2 ⊢
        exact h2
theorem ltR_pd (h : r.length = s.length) (g : ltR r s = true) : ltR (pdR r) (pdR s) = true := by
  unfold pdR
  rw [h]
  exact ltR_app h g
theorem pd_inj (h : r.length = s.length) (g : pdR r = pdR s) : r = s := by
  unfold pdR at g
  exact List.append_inj_left g h
theorem OUm_sort (h : OUm y W L) (so : soR L) (hl : ∀ r ∈ L, r.length = N) (n24 : N ≤ 24) (l3 : L.length ≤ 3000) : ∃ Q : List (List Int32), (y.1 123 W).toInt = (Q.length : Nat) ∧ Q.length ≤ 3000 ∧ RWm y (3000 * W) Q ∧ Q.Pairwise (fun a b => ¬ a = b) ∧ ∀ y' S, SQm y y' W Q S → soR S → OUs y' W L := by
  obtain ⟨K, K1, K2, K3, K4, K5, K6⟩ := h
  have kl : ∀ r ∈ K, r.length = N := fun r hr => hl r ((K3 r).mp hr)
  refine ⟨K.map pdR, by rw [List.length_map]; exact K1, by rw [List.length_map, K2]; exact l3, fun i r' hr' => ?_, ?_, fun y' S sq ss => ?_⟩
  · rw [List.getElem?_map] at hr'
    cases hk : K[i]? with
    | none => rw [hk] at hr'; cases hr'
    | some r =>
      rw [hk] at hr'
      have er : pdR r = r' := Option.some.inj hr'
      have lr := kl r (List.mem_of_getElem? hk)
      rw [← er]
      refine ⟨pd_len (by omega), fun c v hv => ?_⟩
      have cl := gt_lt hv
      rw [pd_len (by omega)] at cl
      rw [show 24 * (3000 * W + i) + c = 72000 * W + 24 * i + c by omega]
      by_cases c1 : c < r.length
      · rw [pd_lo c1] at hv; exact K4 i r hk c v hv
      · rw [pd_hi (by omega) cl] at hv
        rw [K5 i r hk c (by omega) cl]; exact Option.some.inj hv
  · rw [List.pairwise_map]
    exact List.Pairwise.imp_of_mem (fun ha hb h e => h (pd_inj (by rw [kl _ ha, kl _ hb]) e)) K6
  · have eS : S = L.map pdR := by
      refine soR_eq ss ?_ (fun r => ?_)
      · unfold soR
        rw [List.pairwise_map]
        exact List.Pairwise.imp_of_mem (fun ha hb h => ltR_pd (by rw [hl _ ha, hl _ hb]) h) so
      · rw [sq.2.2.2.2.1 r, List.mem_map, List.mem_map]
        exact ⟨fun ⟨a, h1, h2⟩ => ⟨a, (K3 a).mp h1, h2⟩, fun ⟨a, h1, h2⟩ => ⟨a, (K3 a).mpr h1, h2⟩⟩
    refine ⟨by rw [sq.1.2.1 123 (by decide) (by decide), K1, K2], l3, fun i r hr => ?_⟩
    have lr := hl r (List.mem_of_getElem? hr)
    obtain ⟨-, g⟩ := sq.2.2.1 i (pdR r) (by rw [eS, List.getElem?_map, hr]; rfl)
    have e : ∀ c, 24 * (3000 * W + i) + c = 72000 * W + 24 * i + c := fun c => by omega
    exact ⟨by omega, fun c v hv => by rw [← e c]; exact g c v (by rw [pd_lo (gt_lt hv)]; exact hv), fun c c1 c2 => by rw [← e c]; exact g c 0 (pd_hi c1 c2)⟩
theorem LW3_sq (W2 : W < 2) (h : SQm z y W Q S) : LW3 z y W := by
  have e : ∀ c, c = 121 ∨ c = 122 ∨ c = 124 ∨ c = 125 ∨ c = 127 ∨ c = 128 → y.1 c = z.1 c := fun c hc => by
    rcases hc with e | e | e | e | e | e <;> rw [e] <;> exact h.1.2.1 _ (by decide) (by decide)
  exact ⟨fun v v1 v2 => ⟨by rw [e 122 (by omega)], by rw [e 124 (by omega)], by rw [e 125 (by omega)], fun c _ => by rw [e 127 (by omega)], fun k _ => by rw [e 128 (by omega)], fun j hj => h.2.1 _ (by omega)⟩, fun v _ _ => by rw [e 121 (by omega)]⟩
end PDR
end
section
/-! the model: all that the program can do, as the machine says -/
/-- what is told of all states, the other way's left -/
def TKx (z9 : gd) (C : gCo) (nl wn W : Nat) (T : gTy) (y : gd) : Prop := MLo y W (loS C wn nl T T.1.length) ∧ BLo (loS C wn nl T T.1.length) T.1.length ∧ LW3 z9 y W
def TJo (C : gCo) (nl wn : Nat) (A : Nat → gd) (W : Nat) (T : gTy) (y : gd) : Prop := (∀ s p, T.1[s]? = some p → AM C wn p.1 (A s) ∧ MCn C nl p.1 ∧ NBm p.1) ∧ FN3 C wn (fun f => y.1 126 (11 * W + f)) T T.1.length ∧ (y.1 121 W = if T.2 = true then 1 else 0) ∧ ∀ s9 p9, T.1[s9]? = some p9 → 0 < s9 → (y.1 130 (3000 * W + s9)).toInt = (p9.2.1 : Nat) ∧ (y.1 131 (3000 * W + s9)).toInt = (p9.2.2 : Nat)
def TJe (z9 : gd) (C : gCo) (nl wn W : Nat) (T : gTy) (y : gd) : Prop := MLc y W (loS C wn nl T T.1.length) ∧ LW3 z9 y W
/-- a lock that is taken is one of those that there are -/
theorem ob_lt {C : gCo} {nl w : Nat} {M : gMa} (hLk : LkN C nl) (n6 : nl ≤ 6) (t : Nat) (h5 : soM C (M.2.2 t) = 5) (_ : canM C w M t) : obM C (M.2.2 t).2.2.1 < 6 := by
  have w0 : (M.2.2 t).2.2.2.1 = 0 := by
    by_cases w0 : (M.2.2 t).2.2.2.1 = 0
    · exact w0
    · unfold soM at h5; rw [if_neg w0] at h5; omega
  unfold soM at h5
  rw [if_pos w0] at h5
  cases hs : C.1[(M.2.2 t).2.2.1]? with
  | none =>
    unfold stN at h5
    rw [hs] at h5
    exact absurd h5 (by decide)
  | some st =>
    have e := stN_is hs
    rw [e] at h5
    have := hLk _ st hs (by omega) (by omega)
    unfold obM
    rw [e]; omega
/-- what the memory tells of a trying's states -/
def TJ (z9 : gd) (C : gCo) (nl wn : Nat) (A : Nat → gd) (W : Nat) (T : gTy) (y : gd) : Prop := (∀ s p, T.1[s]? = some p → AM C wn p.1 (A s) ∧ MCn C nl p.1 ∧ NBm p.1) ∧ FN3 C wn (fun f => y.1 126 (11 * W + f)) T T.1.length ∧ (y.1 121 W = if T.2 = true then 1 else 0) ∧ (∀ s p, T.1[s]? = some p → 0 < s → (y.1 130 (3000 * W + s)).toInt = (p.2.1 : Nat) ∧ (y.1 131 (3000 * W + s)).toInt = (p.2.2 : Nat)) ∧ TKx z9 C nl wn W T y
theorem TJ_f {z9 : gd} {C : gCo} {nl wn W : Nat} {A : Nat → gd} {T : gTy} {y y' : gd} (e1 : y'.1 121 = y.1 121) (e2 : y'.1 126 = y.1 126) (e3 : y'.1 130 = y.1 130) (e4 : y'.1 131 = y.1 131) (e5 : eqL y y') (h : TJ z9 C nl wn A W T y) : TJ z9 C nl wn A W T y' := by
  obtain ⟨h1, h2, h3, h4, h5, h6, h7⟩ := h
  exact ⟨h1, by rw [e2]; exact h2, by rw [e1]; exact h3, by rw [e3, e4]; exact h4, MLo_f e5 h5, h6, LW2_f e5 h7.1, fun v h1 h2 => by rw [e1]; exact h7.2 v h1 h2⟩
theorem TJ_mi {z9 : gd} {C : gCo} {nl wn W : Nat} {A : Nat → gd} {T : gTy} {y y' : gd} {L B : List Nat} (m : mi L B y y') (hN : [121, 126, 130, 131, 122, 123, 124, 125, 127, 128, 129].all (fun k => !B.elem k) = true) (h : TJ z9 C nl wn A W T y) : TJ z9 C nl wn A W T y' := by
  have g := fun k (h0 : k ≠ 0) hk => m.2 k h0 (all_no hN k hk)
  exact TJ_f (g 121 (by decide) (by decide)) (g 126 (by decide) (by decide)) (g 130 (by decide) (by decide)) (g 131 (by decide) (by decide)) (fun c hc => by rcases hc with e | e | e | e | e | e | e <;> rw [e] <;> exact g _ (by decide) (by decide)) h
/-- rows kept can be sought -/
def hcR (y : gd) (n : Nat) : Prop := hsR y (n : Nat) ∧ chC y n
theorem hcR_f {y y' : gd} {n : Nat} (e1 : y.1 134 = y'.1 134) (e2 : y.1 135 = y'.1 135) (e3 : ∀ s i, s < n → i < 222 → y'.1 133 (240 * s + i) = y.1 133 (240 * s + i)) (h : hcR y n) : hcR y' n := by
  obtain ⟨h1, h2⟩ := h
  refine ⟨by unfold hsR at h1 ⊢; rw [← e1, ← e2]; exact h1, fun s hs => ?_⟩
  obtain ⟨f, hf⟩ := h2 s hs
  refine ⟨f, ?_⟩
  rw [← e1, ← e2, hsO_cg (r := rwZ y' s) (r' := rwZ y s) (fun i hi => e3 s i hs hi)]
  exact hf
theorem hcR_mi {y y' : gd} {n : Nat} {L B : List Nat} (m : mi L B y y') (hN : [133, 134, 135].all (fun k => !B.elem k) = true) (h : hcR y n) : hcR y' n := by
  have g := fun k (h0 : k ≠ 0) hk => m.2 k h0 (all_no hN k hk)
  exact hcR_f (g 134 (by decide) (by decide)).symm (g 135 (by decide) (by decide)).symm (fun s i _ _ => by rw [g 133 (by decide) (by decide)]) h
/-- a state is added to a trying: what the memory tells of it, but the findings -/
theorem TJ_ad {z9 : gd} {C : gCo} {nl wn W k i : Nat} {A A' : Nat → gd} {T : gTy} {y y' y2 : gd} {M : gMa} {v : Int32} (h : TJ z9 C nl wn A W T y) (hA : ∀ s, ¬ s = T.1.length → A' s = A s) (am : AM C wn M (A' T.1.length)) (mc : MCn C nl M) (nb : NBm M) (e121 : y2.1 121 = y.1 121) (e126 : y'.1 126 = y.1 126) (e130 : ∀ s, ¬ s = T.1.length → y2.1 130 (3000 * W + s) = y.1 130 (3000 * W + s)) (e131 : ∀ s, ¬ s = T.1.length → y2.1 131 (3000 * W + s) = y.1 131 (3000 * W + s)) (f130 : (y2.1 130 (3000 * W + T.1.length)).toInt = (k : Nat)) (f131 : (y2.1 131 (3000 * W + T.1.length)).toInt = (i : Nat)) (ev : v.toInt = (T.1.length : Nat)) (fa : FAm y' y2 W v (fD C wn M 11)) (hLk : LkN C nl) (n6 : nl ≤ 6) (h3k : T.1.length < 3000) (h84 : (chM C wn M).length ≤ 84) {n : Int32} (n84 : n.toInt = ((chM C wn M).length : Nat)) (eL : eqL y y') (e121y : y'.1 121 = y.1 121) (lz : LZ2 C wn nl M (loS C wn nl T T.1.length).2.2.2.2.2 n y' y2 W C.2.1.length) : TJ z9 C nl wn A' W (T.1 ++ [(M, k, i)], T.2) y2 := by
  obtain ⟨h1, h2, h3, h4, h5, h6, h7⟩ := h
  have cs : ∀ s p, ((T.1 ++ [(M, k, i)], T.2) : gTy).1[s]? = some p → (¬ s = T.1.length ∧ T.1[s]? = some p) ∨ (s = T.1.length ∧ p = (M, k, i)) := by
    intro s p hp
    have hp : (T.1 ++ [(M, k, i)])[s]? = some p := hp
    by_cases c : s < T.1.length
    · rw [List.getElem?_append_left c] at hp
      exact Or.inl ⟨by omega, hp⟩
    · have hl := gt_lt hp
      rw [List.length_append, List.length_singleton] at hl
      have es : s = T.1.length := by omega
      rw [es, List.getElem?_append_right (Nat.le_refl _), Nat.sub_self] at hp
      exact Or.inr ⟨es, (Option.some.inj hp).symm⟩
  have hl : ((T.1 ++ [(M, k, i)], T.2) : gTy).1.length = T.1.length + 1 := by
    show (T.1 ++ _).length = _
    rw [List.length_append, List.length_singleton]
  have pre : ∀ s, s < T.1.length → ((T.1 ++ [(M, k, i)], T.2) : gTy).1[s]? = T.1[s]? := fun s hs => by
    show (T.1 ++ [(M, k, i)])[s]? = _
    exact List.getElem?_append_left hs
  have last : ((T.1 ++ [(M, k, i)], T.2) : gTy).1[T.1.length]? = some (M, k, i) := by
    show (T.1 ++ [(M, k, i)])[T.1.length]? = _
    rw [List.getElem?_append_right (Nat.le_refl _), Nat.sub_self]; rfl
  have elo : loS C wn nl (T.1 ++ [(M, k, i)], T.2) (T.1.length + 1) = loM C wn nl M (loS C wn nl T T.1.length) := by rw [loS_go last, loS_T pre]
  refine ⟨fun s p hp => ?_, ?_, by rw [e121]; exact h3, fun s p hp s0 => ?_, ?_, ?_, ?_⟩
  · rcases cs s p hp with ⟨c1, c2⟩ | ⟨c1, c2⟩
    · rw [hA s c1]; exact h1 s p c2
    · rw [c1, c2]; exact ⟨am, mc, nb⟩
  · rw [hl]
    refine FN3_next (x7 := fun f => y'.1 126 (11 * W + f)) (p := (M, k, i)) ev ?_ (FN3_T (T := T) (fun s hs => ?_) (by rw [e126]; exact h2)) fa
    · show (T.1 ++ [(M, k, i)])[T.1.length]? = _
      rw [List.getElem?_append_right (Nat.le_refl _), Nat.sub_self]; rfl
    · show (T.1 ++ [(M, k, i)])[s]? = _
      exact List.getElem?_append_left hs
  · rcases cs s p hp with ⟨c1, c2⟩ | ⟨c1, c2⟩
    · rw [e130 s c1, e131 s c1]; exact h4 s p c2 s0
    · rw [c1, c2]; exact ⟨f130, f131⟩
  · rw [hl, elo]
    exact MLo_next h3k h6 h84 (ob_lt hLk n6) n84 (MLo_f eL h5) lz
  · rw [hl, elo]
    exact BLo_next h6 h84
  · exact ⟨LW2_tr (LW2_f eL h7.1) lz.1.2.2.2, fun v v1 v2 => by rw [e121]; exact h7.2 v v1 v2⟩
section TRY3
variable {G : mG} {d D : Nat} {x z a : gd} {F : Int32 → gd → Prop} {Fv : gd → Prop} {C : gCo} {nl wn lim : Nat}
theorem sp_tryAll3 (gc : GC C) (hq2 : NCq C) (hLk : LkN C nl) (n6 : nl ≤ 6) (l24 : C.2.2.1.length ≤ 24) (w01n : wn = 0 ∨ wn = 1) (w l : Int32) (ewn : w = Int32.ofNat wn) (wv : vp_in w 2) (cp : CP z) (hKz : MK z C) (l26 : (z.1 0 26).toInt = (C.2.2.2.1.length : Nat)) (l27 : (z.1 0 27).toInt = (C.2.2.2.2.length : Nat)) (en : (z.1 0 24).toInt = (nl : Nat)) (hw : z.1 0 68 = w) (el : l.toInt = (lim : Nat)) (l1 : 1 ≤ l.toInt) (l3 : l.toInt ≤ 3000) (hD : 7 ≤ D) (h : ∀ (A : Nat → gd) (y : gd), (tryM C wn lim).1.length ≤ 3000 → TI z w.toNatClampNeg A (tryM C wn lim).1.length y → TJo C nl wn A w.toNatClampNeg (tryM C wn lim) y → TJe z C nl wn w.toNatClampNeg (tryM C wn lim) y → Fv y) : MT G D z_tryAll 0 [(0, vr 0), (1, vi w), (2, vi l)] [] z (rv Fv) := by
  obtain ⟨D, rfl⟩ : ∃ D', D = D' + 2 := ⟨D - 2, by omega⟩
  have n6L := n6
  have hN := gc.1
  have hX := gc.2.1
  have l6 := gc.2.2
  have b1n : vp_nar .boolean 1 = 1 := by decide
  have k0 : (0 : Int32).toInt = 0 := rfl
  have k1 : (1 : Int32).toInt = 1 := rfl
  have k24 : (240 : Int32).toInt = 240 := rfl
  have k40 : (4096 : Int32).toInt = 4096 := rfl
  have k3 : (3000 : Int32).toInt = 3000 := rfl
  have nb1 : ¬ vp_nar .boolean 1 = 0 := by decide
  obtain ⟨W, eW⟩ : ∃ W, W = w.toNatClampNeg := ⟨_, rfl⟩
  have W2 : W < 2 := by rw [eW]; exact vp_lt wv
  have wb := vp_in_iff.mp wv
  have cw := cl_i wb.1
  rw [← eW] at h cw
  have e32 : w32 W = w := by
    unfold w32
    by_cases q : W = 0
    · rw [if_pos q]; exact t_eq.mpr (by rw [k0]; omega)
    · rw [if_neg q]; exact t_eq.mpr (by rw [k1]; omega)
  have w01 : w = 0 ∨ w = 1 := by rw [← e32]; exact w32_01 W
  obtain ⟨a0, am0, av0, e68, pa0, st0, b0, mb0, first⟩ := start_exM cp hKz hN hX w01n w ewn w01
  -- a row unpacked
  have unp : ∀ (A : Nat → gd) (M f : Nat) (y : gd) (i : Int32) (Fq : gd → Prop), M ≤ 3000 → f < M → i.toInt = f → TI z W A M y → (∀ y', TI z W A M y' → md [] uA y y' → eqS (Sl (A f)) (A f) y' → Fq y') → MT G (D + 1) z_unpack 0 [(0, vr 0), (1, vr 133), (2, vi (240 * i))] [] y (rv Fq) := by
    intro A M f y i Fq hM hf hi q hq
    have b1 : (240 * i).toInt = 240 * i.toInt := by rw [t_mul (by rw [k24]; omega) (by rw [k24]; omega), k24]
    have cb : (240 * i).toNatClampNeg = 240 * f := by have := cl_i (a := 240 * i) (by omega); omega
    refine sp_unpack (Or.inl rfl) mk_133 ml_133 (240 * i) (by omega) (by omega) (by omega) (fun y' m' r' => ?_)
    rw [cb] at r'
    have q' := TI_mi q (mi_of m') rfl rfl rfl
    obtain ⟨p1, p2⟩ := q.2.2.2.2.2.2.2.2 f hf
    have rr := (q.2.2.2.2.2.2.1 f hf).2
    have av := (q.2.2.2.2.2.2.1 f hf).1.1
    refine hq y' q' m' (un_eq ?_ ?_ (fun t ht => ((av.1).2 t ht).2.2.2.1) (fun k hk => by rw [r' k hk, rr k hk]))
    · exact prE_tr (prE_sy p1) (prE_mi (prE_rf z) q'.1 rfl rfl)
    · rw [q'.1.1 68 (by decide), p2]
  have p320 : ∀ (A : Nat → gd) (T : gTy) (y : gd), T = tryM C wn lim → T.1.length ≤ 3000 → TI z W A T.1.length y → TJ z C nl wn A W T y → MT G (D + 2) z_tryAll 320 [(0, vr 0), (1, vi w)] [] y (rv Fv) := by
    intro A T y eT hM q qj
    subst eT
    have bl := qj.2.2.2.2.2.1.2.2.2
    obtain ⟨Q, Q1, Q2, Q3, Q4, Q5⟩ := OUm_sort (qj.2.2.2.2.1.2.2.2.2.2) (loS_so _).1 (loS_so _).2 l24 (by omega)
    refine sg_tryAll_320 _ (sp_sortOutcomes3 (Q := Q) w wv eW.symm Q1 Q2 Q3 Q4 (fun y' S sq so => rv_i ?_))
    have m' := sq.1
    exact h A y' hM (TI_mi q (mi_of m') rfl rfl rfl) ⟨qj.1, by rw [m'.2.1 126 (by decide) (by decide)]; exact qj.2.1, by rw [m'.2.1 121 (by decide) (by decide)]; exact qj.2.2.1, by rw [m'.2.1 130 (by decide) (by decide), m'.2.1 131 (by decide) (by decide)]; exact qj.2.2.2.1⟩ ⟨MLc_of (fun c hc => by rcases hc with e | e | e | e | e | e <;> rw [e] <;> exact m'.2.1 _ (by decide) (by decide)) (Q5 y' S sq so) qj.2.2.2.2.1, LW3_tr qj.2.2.2.2.2.2 (LW3_sq W2 sq)⟩
  have p75 : ∀ (n : Nat) (A : Nat → gd) (T : gTy) (y : gd) (f : Int32), 0 ≤ f.toInt → f.toInt ≤ 3000 → 3000 - f.toInt ≤ n → 1 ≤ T.1.length → (T.1.length : Int) ≤ l.toInt → TI z W A T.1.length y → TJ z C nl wn A W T y → (y.1 121 W = 0 → hcR y T.1.length) → bfS C wn lim (3001 - f.toNatClampNeg) f.toNatClampNeg T = tryM C wn lim → MT G (D + 2) z_tryAll 75 [(0, vr 0), (1, vi w), (2, vi l), (4, vi f)] [] y (rv Fv) := by
    intro n
    induction n with
    | zero =>
      intro A T y f f0 f3 hn M1 Ml q qj hs hb
      obtain ⟨M, eM⟩ : ∃ M, M = T.1.length := ⟨_, rfl⟩
      have e120 := q.2.2.1
      have cf0 := cl_i f0
      rw [← eM] at e120 M1 Ml
      refine sg_tryAll_75 _ _ _ ⟨wv, ?_⟩
      rw [← eW, e120]
      exact ⟨fun _ => p320 A T y ((bfS_end (List.getElem?_eq_none (by omega))).symm.trans hb) (by omega) q qj, fun c => absurd (t_le.mpr (by rw [ofN (by omega)]; omega)) c⟩
    | succ n ih =>
      intro A T y f f0 f3 hn M1 Ml q qj hs hb
      obtain ⟨M, eM⟩ : ∃ M, M = T.1.length := ⟨_, rfl⟩
      have e120 := q.2.2.1
      have cf0 := cl_i f0
      rw [← eM] at e120 M1 Ml
      refine sg_tryAll_75 _ _ _ ⟨wv, ?_⟩
      rw [← eW, e120]
      refine ⟨fun c => p320 A T y ((bfS_end (List.getElem?_eq_none (by rw [t_le, ofN (by omega)] at c; omega))).symm.trans hb) (by omega) q qj, fun c => ⟨wv, fun np => p320 A T y ((bfS_p ?_ _ _).symm.trans hb) (by omega) q qj, fun np => ?_⟩⟩
      · apply Classical.byContradiction
        intro c9
        have := qj.2.2.1
        rw [if_neg c9] at this
        exact np this
      rw [t_le, ofN (by omega)] at c
      have hs := hs np
      have cf := cl_i f0
      obtain ⟨fn, efn⟩ : ∃ fn, fn = f.toNatClampNeg := ⟨_, rfl⟩
      rw [← efn] at cf hb
      have fM : fn < T.1.length := by omega
      obtain ⟨p, hp⟩ : ∃ p, T.1[fn]? = some p := ⟨_, List.getElem?_eq_getElem fM⟩
      rw [show 3001 - fn = (3000 - fn) + 1 by omega, bfS_go hp] at hb
      obtain ⟨amf, mcf, nbf⟩ := qj.1 fn p hp
      have fi : (f + 1).toInt = f.toInt + 1 := by rw [t_add (by omega) (by omega), k1]
      have fi1 : (f + 1).toNatClampNeg = fn + 1 := by have := cl_i (a := f + 1) (by omega); omega
      refine unp A T.1.length fn y f _ (by omega) fM (by omega) q (fun y5 q5 m5 eq5 => ?_)
      have avf := (q5.2.2.2.2.2.2.1 fn (by omega)).1.1
      refine MT_up (by omega) (MTv_mono (avf.2.2.2.2.2 G y5 eq5) (fun y6 g6 => ?_))
      have q6 := TI_mi q5 (mi_of g6.2) rfl rfl rfl
      have e84 : y6.1 0 84 = (A fn).1 0 84 := g6.1 0 84 (Or.inr (Or.inl ⟨rfl, rfl⟩))
      have hs6 := hcR_mi (mi_of g6.2) rfl (hcR_mi (mi_of m5) rfl hs)
      have qj6 := TJ_mi (mi_of g6.2) rfl (TJ_mi (mi_of m5) rfl qj)
      have c84 := avf.2.2.2.2.1
      have c840 := avf.2.2.2.1
      obtain ⟨C84, eC⟩ : ∃ C, C = (A fn).1 0 84 := ⟨_, rfl⟩
      have eL := AM_n amf
      rw [e84, ← eC]
      rw [← eC] at c84 c840 eL
      -- the choices of this state
      have p122 : ∀ (m : Nat) (A2 : Nat → gd) (u : gd) (i : Int32), 0 ≤ i.toInt → i.toInt ≤ C84.toInt → C84.toInt - i.toInt ≤ m → ((onS C wn lim fn p.1 i.toNatClampNeg T).1.length : Int) ≤ l.toInt → A2 fn = A fn → TI z W A2 (onS C wn lim fn p.1 i.toNatClampNeg T).1.length u → TJ z C nl wn A2 W (onS C wn lim fn p.1 i.toNatClampNeg T) u → (u.1 121 W = 0 → hcR u (onS C wn lim fn p.1 i.toNatClampNeg T).1.length) → MT G (D + 2) z_tryAll 122 [(0, vr 0), (1, vi w), (2, vi l), (4, vi f), (5, vi C84), (6, vi i)] [] u (rv Fv) := by
        intro m
        induction m with
        | zero =>
          intro A2 u i i0 iC hm ml ea qu quj hu
          have ci := cl_i i0
          have pre := (onS_pre (C := C) (w := wn) (lim := lim) (M := p.1) fM fn i.toNatClampNeg).2
          exact sg_tryAll_122 _ _ _ _ _ ⟨fun _ => ih A2 _ u (f + 1) (by omega) (by omega) (by omega) (by omega) ml qu quj hu (by rw [fi1, show 3001 - (fn + 1) = 3000 - fn by omega, show i.toNatClampNeg = (chM C wn p.1).length by omega]; exact hb), fun c => absurd (t_le.mpr (by omega)) c⟩
        | succ m ihm =>
          intro A2 u i i0 iC hm ml ea qu quj hu
          have ci := cl_i i0
          obtain ⟨j, ej⟩ : ∃ j, j = i.toNatClampNeg := ⟨_, rfl⟩
          obtain ⟨pr1, pre⟩ := onS_pre (C := C) (w := wn) (lim := lim) (M := p.1) fM fn j
          rw [← ej] at ml qu quj hu ci
          obtain ⟨T2, eT2⟩ : ∃ T2, T2 = onS C wn lim fn p.1 j T := ⟨_, rfl⟩
          rw [← eT2] at pr1 pre ml qu quj hu
          have nxt : onS C wn lim fn p.1 (chM C wn p.1).length T = T2 → MT G (D + 2) z_tryAll 75 [(0, vr 0), (1, vi w), (2, vi l), (4, vi (f + 1))] [] u (rv Fv) := fun e9 => ih A2 T2 u (f + 1) (by omega) (by omega) (by omega) (by omega) ml qu quj hu (by rw [fi1, show 3001 - (fn + 1) = 3000 - fn by omega, ← e9]; exact hb)
          refine sg_tryAll_122 _ _ _ _ _ ⟨fun c => nxt (by rw [t_le] at c; rw [eT2, show j = (chM C wn p.1).length by omega]), fun c => ⟨wv, ?_⟩⟩
          rw [t_le] at c
          rw [← eW]
          have e121u := quj.2.2.1
          refine ⟨fun np => nxt (by
            have pt : (onS C wn lim fn p.1 j T).2 = true := by
              apply Classical.byContradiction
              intro c9
              rw [← eT2] at c9
              rw [if_neg c9] at e121u
              exact np e121u
            rw [eT2]
            exact onS_stop pt _ (by omega)), fun np => ?_⟩
          have hu := hu np
          have pf : ¬ (onS C wn lim fn p.1 j T).2 = true := fun z9 => by
            rw [← eT2] at z9
            rw [if_pos z9] at e121u
            rw [e121u] at np
            exact absurd np (by decide)
          have jl : j < (chM C wn p.1).length := by omega
          obtain ⟨ch, hch⟩ : ∃ ch, (chM C wn p.1)[j]? = some ch := ⟨_, List.getElem?_eq_getElem jl⟩
          have hgo := onS_go (lim := lim) (k := fn) pf hch
          rw [← eT2] at hgo
          obtain ⟨M2, eM2⟩ : ∃ M2, M2 = T2.1.length := ⟨_, rfl⟩
          have fm : fn < M2 := by omega
          have m1 : 1 ≤ M2 := by omega
          rw [← eM2] at ml qu hu
          have iv : vp_in i 200 := by rw [vp_in_iff]; omega
          have ii : (i + 1).toInt = i.toInt + 1 := by rw [t_add (by omega) (by omega), k1]
          have ii1 : (i + 1).toNatClampNeg = j + 1 := by have := cl_i (a := i + 1) (by omega); omega
          refine unp A2 M2 fn u f _ (by omega) fm (by omega) qu (fun u4 q4 m4' eq4 => ?_)
          rw [ea] at eq4
          refine MT_up (by omega) (MTv_mono (avf.2.2.2.2.2 G u4 eq4) (fun u5 g5 => ?_))
          have q5' := TI_mi q4 (mi_of g5.2) rfl rfl rfl
          have hu5 := hcR_mi (mi_of g5.2) rfl (hcR_mi (mi_of m4') rfl hu)
          have quj5 := TJ_mi (mi_of g5.2) rfl (TJ_mi (mi_of m4') rfl quj)
          have p5' : u5.1 121 W = 0 := by rw [g5.2.2.1 121 (by decide) (by decide), m4'.2.1 121 (by decide) (by decide)]; exact np
          have lt84 : ((i.toNatClampNeg : Nat) : Int) < ((A fn).1 0 84).toInt := by rw [← eC]; omega
          obtain ⟨b, a', rb, wyb, mmb, trb, am', fb, mb⟩ := st_exM gc w01n amf (i := i.toNatClampNeg) (by rw [← ej]; exact hch)
          have av' := am'.1
          have cmem := List.mem_of_getElem? hch
          have lbI : (C.2.2.1.length : Int) < 2147483648 := by omega
          have mc' : MCn C nl (doM C wn p.1 ch) := MCn_do hN hX hLk lbI l6 mcf amf.2.2.2.1 cmem
          have nb' : NBm (doM C wn p.1 ch) := NBm_do nbf
          obtain ⟨u86, u87, u88, _, _⟩ := avf.2.2.1 i.toNatClampNeg lt84
          have e86 := g5.1 _ _ (Or.inr u86)
          have e87 := g5.1 _ _ (Or.inr u87)
          have e88 := g5.1 _ _ (Or.inr u88)
          have el5 : eqS (Sl (A fn)) (A fn) u5 := eqS_w (Sl_Sm _) g5.1
          rw [e86, e87, e88]
          -- the state come to: is it new?
          have p206 : ∀ v : gd, eqS (Sl b) b v → md rL rA u5 v → MT G (D + 2) z_tryAll 206 [(0, vr 0), (1, vi w), (2, vi l), (4, vi f), (5, vi C84), (6, vi i)] [] v (rv Fv) := by
            intro v ev mv
            have qv := TI_mi q5' (mi_of mv) rfl rfl rfl
            have hv := hcR_mi (mi_of mv) rfl hu5
            have qvj := TJ_mi (mi_of mv) rfl quj5
            have pv0 : v.1 121 W = 0 := by rw [mv.2.1 121 (by decide) (by decide)]; exact p5'
            have kept : ∀ s, s < T2.1.length → ((∀ k, k < 222 → v.1 133 (240 * s + k) = pv b k) ↔ ∃ p9, T2.1[s]? = some p9 ∧ p9.1 = doM C wn p.1 ch) := fun s hs9 => row_kept hN l24 l6 n6 (A := A2) (fun s p9 h9 => ⟨(qvj.1 s p9 h9).1.2.2.1, (qvj.1 s p9 h9).2⟩) (fun s hs8 => (qv.2.2.2.2.2.2.1 s (by omega)).2) mmb mc' nb' (fun t ht => (rb.2 t ht).2.2.2.1) hs9
            have e120 := qv.2.2.1
            have oM := ofN (M := M2) (by omega)
            refine sg_tryAll_206 _ _ _ _ _ (sp_seek3 w wv (m := M2) (by rw [← eW, e120, oM]) (by omega) hv.1 hv.2 (fun t ht => by rw [cA ev (c := 80) (n := 6) (by decide) ht]; exact (rb.2 t ht).2.2.2.1) (fun r v1 mv1 lo alt => ⟨wv, ?_⟩))
            rw [← eW, e120] at alt
            have cM : (Int32.ofNat M2).toNatClampNeg = M2 := by have := cl_i (a := Int32.ofNat M2) (by omega); omega
            have mv1' : mi [136] [133, 134, 135] v v1 := mi_of mv1
            have qv1j := TJ_mi mv1' rfl qvj
            have e120' : v1.1 120 W = Int32.ofNat M2 := by rw [mv1.2.1 120 (by decide) (by decide), e120]
            have e121' : v1.1 121 W = 0 := by rw [mv1.2.1 121 (by decide) (by decide)]; exact pv0
            -- the rows before stay
            have qv1 : TI z W A2 M2 v1 := by
              obtain ⟨t1, t2, t3, t4, t5, t6, t7, t8, t9⟩ := qv
              have g := fun k (h0 : k ≠ 0) hk => mv1.2.1 k h0 hk
              refine ⟨mi_tr t1 (mi_of mv1) rfl rfl, ow_tr t2 (ow_mi (mi_of mv1) rfl), e120', by rw [g 123 (by decide) (by decide)]; exact t4, by rw [g 123 (by decide) (by decide)]; exact t5, ?_, fun s hs2 => ⟨?_, fun k hk => ?_⟩, t8, t9⟩
              · unfold fnd
                rw [g 126 (by decide) (by decide)]
                exact t6
              · have r9 := (t7 s hs2).1
                unfold TN at r9 ⊢
                rw [g 130 (by decide) (by decide), g 131 (by decide) (by decide), g 132 (by decide) (by decide)]
                exact r9
              · rw [lo _ (by omega)]
                exact (t7 s hs2).2 k hk
            rw [← eW, e120']
            have nx : ∀ (A3 : Nat → gd) (T3 : gTy) (u : gd), adS lim fn j T2 (doM C wn p.1 ch) = T3 → (T3.1.length : Int) ≤ l.toInt → A3 fn = A fn → TI z W A3 T3.1.length u → TJ z C nl wn A3 W T3 u → (u.1 121 W = 0 → hcR u T3.1.length) → MT G (D + 2) z_tryAll 122 [(0, vr 0), (1, vi w), (2, vi l), (4, vi f), (5, vi C84), (6, vi (i + 1))] [] u (rv Fv) := fun A3 T3 u eT3 h2 h4 h5 h5j h6 => by
              have e9 : onS C wn lim fn p.1 (i + 1).toNatClampNeg T = T3 := by rw [ii1, hgo]; exact eT3
              exact ihm A3 u (i + 1) (by omega) (by omega) (by omega) (by rw [e9]; exact h2) h4 (by rw [e9]; exact h5) (by rw [e9]; exact h5j) (by rw [e9]; exact h6)
            rcases alt with ⟨er, row, hsn, hcn, hno⟩ | ⟨s9, r0, r1, hso, hco, hyes⟩
            rotate_left
            · have old : ∃ q ∈ T2.1, q.1 = doM C wn p.1 ch := kept_old kept (s := s9) (by omega) (fun k hk => by rw [hyes k hk]; exact pv_eq ev hk)
              refine ⟨fun _ => nx A2 T2 v1 (adS_old old) (by rw [← eM2]; exact ml) ea (by rw [← eM2]; exact qv1) qv1j (fun _ => by rw [← eM2]; exact ⟨hso, hco⟩), fun er => ?_⟩
              rw [er, oM] at r1
              omega
            have new : ¬ ∃ q ∈ T2.1, q.1 = doM C wn p.1 ch := kept_new kept (fun s hs9 h9 => hno s (by omega) (fun k hk => by rw [h9 k hk]; exact (pv_eq ev hk).symm))
            refine ⟨fun ne => absurd er ne, fun _ => ⟨fun nl' => ?_, fun el' => ⟨wv, fun v18 e18 => ?_⟩⟩⟩
            rotate_left
            · -- the limit
              have m18 := md_a v1 121 W (vp_nar .boolean 1) (by decide)
              rw [← e18] at m18
              have e121n : v18.1 121 W = 1 := by rw [e18, si_get, if_pos ⟨rfl, rfl⟩]; exact b1n
              have full : lim ≤ T2.1.length := by
                rw [er] at el'
                have := t_eq.mp el'
                rw [oM] at this
                omega
              obtain ⟨g1, g2, g3, g4, g5k, g6k, g7k⟩ := qv1j
              refine nx A2 (T2.1, true) v18 (adS_full new full) (by show (T2.1.length : Int) ≤ _; rw [← eM2]; exact ml) ea (by show TI z W A2 T2.1.length v18; rw [← eM2]; exact TI_mi qv1 (mi_of m18) rfl rfl rfl) ⟨g1, ?_, ?_, ?_, ?_, ?_, ?_⟩ (fun q9 => ?_)
              · rw [m18.2.1 126 (by decide) (by decide)]; exact FN3_T (T := T2) (fun _ _ => rfl) g2
              · exact e121n
              · rw [m18.2.1 130 (by decide) (by decide), m18.2.1 131 (by decide) (by decide)]; exact g4
              · show MLo v18 W (loS C wn nl (T2.1, true) T2.1.length)
                rw [show loS C wn nl (T2.1, true) T2.1.length = loS C wn nl T2 T2.1.length from loS_T (fun _ _ => rfl)]
                exact MLo_f (fun c hc => by rcases hc with e | e | e | e | e | e | e <;> rw [e] <;> exact m18.2.1 _ (by decide) (by decide)) g5k
              · show BLo (loS C wn nl (T2.1, true) T2.1.length) T2.1.length
                rw [show loS C wn nl (T2.1, true) T2.1.length = loS C wn nl T2 T2.1.length from loS_T (fun _ _ => rfl)]
                exact g6k
              · exact LW3_tr g7k (by rw [e18]; exact LW3_si W2 (Or.inl ⟨by omega, rfl⟩))
              · rw [e121n] at q9
                exact absurd q9 (by decide)
            -- a new state
            have Ml' : (M2 : Int) < l.toInt := by
              by_cases q9 : (M2 : Int) = l.toInt
              · exact absurd (by rw [er]; exact t_eq.mpr (by rw [oM]; exact q9)) nl'
              · omega
            have rv2 := tmul (k := 3000) (K := 3000) (N := 6000) (n := 3000) (i := r) rfl wv (by rw [er, oM]; omega) (by rw [er, oM]; omega) (by omega) (by omega) (by omega)
            have fv2 := tmul (k := 3000) (K := 3000) (N := 6000) (n := 3000) (i := f) rfl wv f0 (by omega) (by omega) (by omega) (by omega)
            rw [← eW, ← efn] at fv2
            rw [← eW, er, cM] at rv2
            rw [er, rv2.2, fv2.2]
            refine ⟨rv2.1, fun v7 e7 => ⟨rv2.1, fun v9 e9 => ⟨fv2.1, rv2.1, fun v12 e12 => ⟨wv, wv, fun v15 e15 => ?_⟩⟩⟩⟩
            have m7 := md_a v1 130 (3000 * W + M2) f (by decide)
            rw [← e7] at m7
            have m9 := md_a v7 131 (3000 * W + M2) i (by decide)
            rw [← e9] at m9
            have m12 := md_a v9 132 (3000 * W + M2) (v9.1 132 (3000 * W + fn) + 1) (by decide)
            rw [← e12] at m12
            have f120 : v12.1 120 W = Int32.ofNat M2 := by rw [m12.2.1 120 (by decide) (by decide), m9.2.1 120 (by decide) (by decide), m7.2.1 120 (by decide) (by decide), e120']
            rw [f120] at e15
            have m15 := md_a v12 120 W (Int32.ofNat M2 + 1) (by decide)
            rw [← e15] at m15
            have MM : md [] [120, 130, 131, 132] v1 v15 := md_tr (md_tr (L3 := []) (A3 := [130, 131, 132]) (md_tr (L3 := []) (A3 := [130, 131]) m7 m9 rfl rfl) m12 rfl rfl) m15 rfl rfl
            have o12 : ow W v1 v15 := by
              refine ow_tr (y := v12) (ow_tr (y := v9) (ow_tr (y := v7) ?_ ?_) ?_) ?_
              · rw [e7]; exact ow_si W2 (Or.inr (Or.inr ⟨Or.inl rfl, M2, by omega, rfl⟩))
              · rw [e9]; exact ow_si W2 (Or.inr (Or.inr ⟨Or.inr (Or.inl rfl), M2, by omega, rfl⟩))
              · rw [e12]; exact ow_si W2 (Or.inr (Or.inr ⟨Or.inr (Or.inr rfl), M2, by omega, rfl⟩))
              · rw [e15]; exact ow_si W2 (Or.inl ⟨Or.inl rfl, rfl⟩)
            have g120 : v15.1 120 W = Int32.ofNat (M2 + 1) := by
              rw [e15, si_get, if_pos ⟨rfl, rfl⟩]
              refine t_eq.mpr ?_
              rw [t_add (by omega) (by omega), oM, k1, ofN (by omega)]; omega
            have h130 : ∀ s : Nat, ¬ s = M2 → v15.1 130 (3000 * W + s) = v1.1 130 (3000 * W + s) := fun s hs2 => by rw [e15, si_cell (by decide), e12, si_cell (by decide), e9, si_cell (by decide), e7, si_ne 130 _ (by omega)]
            have h131 : ∀ s : Nat, ¬ s = M2 → v15.1 131 (3000 * W + s) = v1.1 131 (3000 * W + s) := fun s hs2 => by rw [e15, si_cell (by decide), e12, si_cell (by decide), e9, si_ne 131 _ (by omega), e7, si_cell (by decide)]
            have h132 : ∀ s : Nat, ¬ s = M2 → v15.1 132 (3000 * W + s) = v1.1 132 (3000 * W + s) := fun s hs2 => by rw [e15, si_cell (by decide), e12, si_ne 132 _ (by omega), e9, si_cell (by decide), e7, si_cell (by decide)]
            have i130 : v15.1 130 (3000 * W + M2) = f := by rw [e15, si_cell (by decide), e12, si_cell (by decide), e9, si_cell (by decide), e7, si_get, if_pos ⟨rfl, rfl⟩]
            have i131 : v15.1 131 (3000 * W + M2) = i := by rw [e15, si_cell (by decide), e12, si_cell (by decide), e9, si_get, if_pos ⟨rfl, rfl⟩]
            have i132 : v15.1 132 (3000 * W + M2) = v1.1 132 (3000 * W + fn) + 1 := by rw [e15, si_cell (by decide), e12, si_get, if_pos ⟨rfl, rfl⟩, e9, si_cell (by decide), e7, si_cell (by decide)]
            have j133 : v15.1 133 = v1.1 133 := MM.2.1 133 (by decide) (by decide)
            obtain ⟨A3, eA3⟩ : ∃ A3 : Nat → gd, A3 = fun s => if s = M2 then a' else A2 s := ⟨_, rfl⟩
            have A3n : ∀ s : Nat, ¬ s = M2 → A3 s = A2 s := fun s hs2 => by rw [eA3]; simp only [if_neg hs2]
            have A3m : A3 M2 = a' := by rw [eA3]; simp only [if_pos]
            have eva : eqS (Sl a') a' v := sl_sw mb ev
            -- the chain of far stays small
            have farb : ∀ s : Nat, s < M2 → 0 ≤ (v1.1 132 (3000 * W + s)).toInt ∧ (v1.1 132 (3000 * W + s)).toInt ≤ s := by
              intro s
              induction s using Nat.strongRecOn with
              | ind s ihs =>
                intro hs2
                obtain ⟨_, t2, t3, t4⟩ := (qv1.2.2.2.2.2.2.1 s hs2).1
                refine ⟨t2, ?_⟩
                by_cases q9 : s = 0
                · have := t3 q9; omega
                · obtain ⟨p, p1, p2, p3, _⟩ := t4 (by omega)
                  have := (ihs p p1 (by omega)).2
                  omega
            have ff := farb fn fm
            have j132 : (v15.1 132 (3000 * W + M2)).toInt = (v1.1 132 (3000 * W + fn)).toInt + 1 := by rw [i132, t_add (by omega) (by omega), k1]
            have q15 : TI z W A3 (M2 + 1) v15 := by
              obtain ⟨t1, t2, t3, t4, t5, t6, t7, t8, t9⟩ := qv1
              refine ⟨mi_tr t1 (mi_of MM) rfl rfl, ow_tr t2 o12, g120, by rw [MM.2.1 123 (by decide) (by decide)]; exact t4, by rw [MM.2.1 123 (by decide) (by decide)]; omega, ?_, fun s hs2 => ?_, ?_, fun s hs2 => ?_⟩
              · unfold fnd at t6 ⊢
                rw [MM.2.1 126 (by decide) (by decide)]
                exact fun g hg => (t6 g hg).imp id (fun w => by omega)
              · by_cases q9 : s = M2
                · rw [q9]
                  refine ⟨⟨by rw [A3m]; exact av', by omega, fun z9 => by omega, fun _ => ⟨fn, fm, by rw [i130]; omega, ?_, by rw [i131]; exact i0, ?_, ?_⟩⟩, fun k hk => ?_⟩
                  · rw [h132 fn (by omega)]; exact j132
                  · rw [i131, A3n fn (by omega), ea, ← eC]; omega
                  · rw [i131, A3n fn (by omega), ea, A3m]; exact ⟨b, trb, fb⟩
                  · rw [A3m, j133, row k hk]; exact pv_eq eva hk
                · obtain ⟨⟨u1, u2, u3, u4⟩, u5'⟩ := t7 s (by omega)
                  refine ⟨⟨by rw [A3n s q9]; exact u1, by rw [h132 s q9]; exact u2, by rw [h132 s q9]; exact u3, fun z9 => ?_⟩, fun k hk => by rw [A3n s q9, j133]; exact u5' k hk⟩
                  obtain ⟨p, p1, p2, p3, p4, p5, p6⟩ := u4 z9
                  refine ⟨p, p1, by rw [h130 s q9]; exact p2, by rw [h132 s q9, h132 p (by omega)]; exact p3, by rw [h131 s q9]; exact p4, by rw [h131 s q9, A3n p (by omega)]; exact p5, by rw [h131 s q9, A3n p (by omega), A3n s q9]; exact p6⟩
              · rw [A3n 0 (by omega)]; exact t8
              · by_cases q9 : s = M2
                · rw [q9, A3m]
                  have pz : prE z v := prE_mi (prE_rf z) qv.1 rfl rfl
                  have pav : prE a' v := prE_eqS eva
                  refine ⟨prE_tr pz (prE_sy pav), ?_⟩
                  rw [← cF eva (k := 68) (by decide), qv.1.1 68 (by decide)]
                · rw [A3n s q9]; exact t9 s (by omega)
            have e15s : eqS (Sl a') a' v15 := eqS_mi eva (mi_tr (L3 := [136]) (A3 := [133, 134, 135, 120, 130, 131, 132]) (mi_of mv1) (mi_of MM) rfl rfl) rfl rfl (Sl_Sm a')
            have o15 := q15.2.2.2.1
            have o15b : (v15.1 123 W).toInt ≤ M2 := by rw [MM.2.1 123 (by decide) (by decide)]; exact qv1.2.2.2.2.1
            have eqv15 : eqL v1 v15 := fun c hc => by rcases hc with e | e | e | e | e | e | e <;> rw [e] <;> exact MM.2.1 _ (by decide) (by decide)
            have pa' : prE z a' := by have := (q15.2.2.2.2.2.2.2.2 M2 (by omega)).1; rw [A3m] at this; exact this
            refine sp_look3 hN hX hq2 w01n w (Int32.ofNat M2) wv am' mc'.1 (by rw [pa'.1 26 (by decide)]; exact l26) (by rw [pa'.1 27 (by decide)]; exact l27) e15s (by omega) (M := ((M2 + 1 : Nat) : Int)) (by omega) (by rw [← eW]; exact q15.2.2.2.2.2.1) (by rw [← eW]; exact o15) (by rw [← eW]; omega) (nl := nl) (L := (loS C wn nl T2 T2.1.length).2.2.2.2.2) (by rw [pa'.1 24 (by decide)]; exact en) (by rw [← eW]; exact (MLo_f eqv15 qv1j.2.2.2.2.1).2.2.2.2.2) (by have := qv1j.2.2.2.2.2.1.2.2.2; omega) (loS_so _).1 (loS_so _).2 (by omega) (fun v16 k16 fa16 lz16 => ?_)
            rw [← eW] at k16 fa16 lz16
            obtain ⟨n1, n2, n3, n4, n5, n6⟩ := k16
            have g := fun k (h0 : k ≠ 0) hk => n1.2 k h0 hk
            have hl3 : ((T2.1 ++ [(doM C wn p.1 ch, fn, j)], T2.2) : gTy).1.length = M2 + 1 := by
              show (T2.1 ++ _).length = _
              rw [List.length_append, List.length_singleton, ← eM2]
            refine nx A3 (T2.1 ++ [(doM C wn p.1 ch, fn, j)], T2.2) v16 (adS_new new (by omega)) (by rw [hl3]; omega) (by rw [A3n fn (by omega)]; exact ea) ?_ ?_ (fun _ => ?_)
            rotate_left
            · refine TJ_ad (y' := v15) (v := Int32.ofNat M2) qv1j (fun s hs9 => A3n s (by omega)) (by rw [← eM2, A3m]; exact am') mc' nb' ?_ (MM.2.1 126 (by decide) (by decide)) (fun s hs9 => ?_) (fun s hs9 => ?_) ?_ ?_ (by rw [oM, eM2]) fa16 hLk n6L (by omega) (by have := AM_n am'; have := am'.1.2.2.2.2.1; omega) (AM_n am') eqv15 (MM.2.1 121 (by decide) (by decide)) lz16
              · rw [g 121 (by decide) (by decide), MM.2.1 121 (by decide) (by decide)]
              · rw [g 130 (by decide) (by decide)]; exact h130 s (by omega)
              · rw [g 131 (by decide) (by decide)]; exact h131 s (by omega)
              · rw [← eM2, g 130 (by decide) (by decide), i130]; omega
              · rw [← eM2, g 131 (by decide) (by decide), i131]; omega
            rotate_left
            · rw [hl3]
              obtain ⟨t1, t2, t3, t4, t5, t6, t7, t8, t9⟩ := q15
              refine ⟨mi_tr t1 n1 rfl rfl, ow_tr t2 n3, by rw [g 120 (by decide) (by decide)]; exact t3, n5, by omega, n4, fun s hs2 => ?_, t8, t9⟩
              have r9 := t7 s hs2
              unfold TR TN at r9 ⊢
              rw [g 130 (by decide) (by decide), g 131 (by decide) (by decide), g 132 (by decide) (by decide), g 133 (by decide) (by decide)]
              exact r9
            · rw [hl3]
              refine hcR_f (y := v1) ?_ ?_ (fun s k _ _ => ?_) ⟨by push_cast; exact hsn, hcn⟩
              · rw [g 134 (by decide) (by decide), MM.2.1 134 (by decide) (by decide)]
              · rw [g 135 (by decide) (by decide), MM.2.1 135 (by decide) (by decide)]
              · rw [g 133 (by decide) (by decide), j133]
          refine ⟨iv, fun cl => ⟨iv, iv, ?_⟩, fun cl => ⟨iv, iv, ?_⟩⟩
          · exact MT_up (by omega) (MTv_mono (trb.1 cl G u5 el5) (fun v q9 => p206 v q9.1 q9.2.1))
          · exact MT_up (by omega) (MTv_mono (trb.2 cl G u5 el5) (fun v q9 => p206 v q9.1 q9.2))
      have z00 : (0 : Int32).toNatClampNeg = 0 := rfl
      exact p122 84 A y6 0 (by decide) (by rw [k0]; omega) (by rw [k0]; omega) (by rw [z00]; show (T.1.length : Int) ≤ _; rw [← eM]; exact Ml) rfl (by rw [z00]; exact q6) (by rw [z00]; exact qj6) (fun _ => by rw [z00]; exact hs6)
  -- the beginning
  refine sg_tryAll_0 _ _ (sp_forgetTrying3 (W := W) w wv eW.symm en (fun y1 m1 o1 n120 n121 n123 nf ml1 lw1 => ?_))
  have loop : ∀ (n : Nat) (y : gd) (i : Int32), 0 ≤ i.toInt → i.toInt ≤ 4096 → 4096 - i.toInt ≤ n → md [] [135] y1 y → (∀ k : Nat, (k : Int) < i.toInt → y.1 135 k = -1) → MT G (D + 2) z_tryAll 7 [(0, vr 0), (1, vi w), (2, vi l), (3, vi i)] [] y (rv Fv) := by
    have last : ∀ y : gd, md [] [135] y1 y → (∀ k : Nat, k < 4096 → y.1 135 k = -1) → MT G (D + 1) z_setFirst 0 [(0, vr 0)] [] y (rv (fun x2 => MT G (D + 1) z_seek 0 [(0, vr 0), (1, vi w)] [] x2 (ri (fun r4 x3 => vp_in w 2 ∧ (∀ x6 : gd, x6 = si x3 120 (w : Int32).toNatClampNeg 1 → vp_in (3000 * w) 6000 ∧ (∀ x8 : gd, x8 = si x6 130 (3000 * w : Int32).toNatClampNeg (-1) → vp_in (3000 * w) 6000 ∧ (∀ x10 : gd, x10 = si x8 132 (3000 * w : Int32).toNatClampNeg 0 → MT G (D + 1) z_look 0 [(0, vr 0), (1, vi w), (2, vi 0)] [] x10 (rv (fun x11 => MT G (D + 2) z_tryAll 75 [(0, vr 0), (1, vi w), (2, vi l), (4, vi 0)] [] x11 (rv Fv))))))))))  := by
      intro y my hh
      have mzy : mi [] [120, 121, 122, 123, 124, 125, 126, 127, 128, 135] z y := mi_tr (mi_of m1) (mi_of my) rfl rfl
      have py : prE z y := prE_mi (prE_rf z) mzy rfl rfl
      have wy' : y.1 0 68 = w := by rw [mzy.1 68 (by decide)]; exact hw
      refine MTv_mono (first G (D + 1) y (by omega) py wy') (fun y2 g2 => ?_)
      have e2 : eqS (Sl a0) a0 y2 := sl_sw mb0 g2.1
      have y120 : y2.1 120 W = 0 := by rw [g2.2.2.1 120 (by decide) (by decide), my.2.1 120 (by decide) (by decide)]; exact n120
      have y121 : y2.1 121 W = 0 := by rw [g2.2.2.1 121 (by decide) (by decide), my.2.1 121 (by decide) (by decide)]; exact n121
      have y123 : y2.1 123 W = 0 := by rw [g2.2.2.1 123 (by decide) (by decide), my.2.1 123 (by decide) (by decide)]; exact n123
      have y126 : ∀ f : Nat, f < 11 → y2.1 126 (11 * W + f) = -1 := fun f hf => by rw [g2.2.2.1 126 (by decide) (by decide), my.2.1 126 (by decide) (by decide)]; exact nf f hf
      have y135 : y2.1 135 = y.1 135 := g2.2.2.1 135 (by decide) (by decide)
      refine sp_seek3 w wv (m := 0) (by rw [← eW, y120]; rfl) (by omega) ⟨fun k hk => Or.inl (by rw [y135]; exact hh k hk), fun s hs2 => by omega⟩ (fun s hs2 => absurd hs2 (Nat.not_lt_zero _)) (fun t ht => by rw [cA e2 (c := 80) (n := 6) (by decide) ht]; exact (av0.1.2 t ht).2.2.2.1) (fun r y3 m3 lo alt => ⟨wv, fun y6 e6 => ?_⟩)
      rcases alt with ⟨er, row, hsn, hcn, -⟩ | ⟨s9, r0, _⟩
      rotate_left
      · exact absurd r0 (Nat.not_lt_zero _)
      have bw : (3000 * w).toInt = 3000 * w.toInt := by rw [t_mul (by rw [k3]; omega) (by rw [k3]; omega), k3]
      have bv : vp_in (3000 * w) 6000 := by rw [vp_in_iff]; omega
      have cb : (3000 * w).toNatClampNeg = 3000 * W + 0 := by have := cl_i (a := 3000 * w) (by omega); omega
      rw [cb]
      rw [← eW] at e6
      refine ⟨bv, fun y8 e8 => ⟨bv, fun y10 e10 => ?_⟩⟩
      have m6 := md_a y3 120 W 1 (by decide)
      rw [← e6] at m6
      have m8 := md_a y6 130 (3000 * W + 0) (-1) (by decide)
      rw [← e8] at m8
      have m10 := md_a y8 132 (3000 * W + 0) 0 (by decide)
      rw [← e10] at m10
      have MM : md [] [120, 130, 132] y3 y10 := md_tr (md_tr (L3 := []) (A3 := [120, 130]) m6 m8 rfl rfl) m10 rfl rfl
      have o310 : ow W y3 y10 := by
        refine ow_tr (y := y8) (ow_tr (y := y6) ?_ ?_) ?_
        · rw [e6]; exact ow_si W2 (Or.inl ⟨Or.inl rfl, rfl⟩)
        · rw [e8]; exact ow_si W2 (Or.inr (Or.inr ⟨Or.inl rfl, 0, by omega, rfl⟩))
        · rw [e10]; exact ow_si W2 (Or.inr (Or.inr ⟨Or.inr (Or.inr rfl), 0, by omega, rfl⟩))
      have oz3 : ow W z y3 := ow_tr (ow_tr (ow_tr o1 (ow_mi (mi_of my) rfl)) (ow_mi (mi_of g2.2) rfl)) (ow_mi (mi_of m3) rfl)
      have mz10 : mi tL tA' z y10 := mi_tr (mi_tr (L3 := tL) (A3 := tA') (mi_tr (L3 := tL) (A3 := tA') mzy (mi_of g2.2) rfl rfl) (mi_of m3) rfl rfl) (mi_of MM) rfl rfl
      have h132 : y10.1 132 (3000 * W + 0) = 0 := by rw [e10, si_get, if_pos ⟨rfl, rfl⟩]
      have h120 : y10.1 120 W = Int32.ofNat 1 := by rw [m10.2.1 120 (by decide) (by decide), m8.2.1 120 (by decide) (by decide), e6, si_get, if_pos ⟨rfl, rfl⟩]; rfl
      have h123 : y10.1 123 W = 0 := by rw [MM.2.1 123 (by decide) (by decide), m3.2.1 123 (by decide) (by decide)]; exact y123
      have h126 : fnd y10 W 1 := fun f hf => Or.inl (by rw [MM.2.1 126 (by decide) (by decide), m3.2.1 126 (by decide) (by decide)]; exact y126 f hf)
      have q10 : TI z W (fun _ => a0) 1 y10 := by
        refine ⟨mz10, ow_tr oz3 o310, h120, by rw [h123]; decide, by rw [h123]; decide, h126, fun s hs2 => ⟨⟨av0, ?_, fun _ => ?_, fun z9 => by omega⟩, fun k hk => ?_⟩, by rw [e32]; exact st0, fun s hs2 => ⟨pa0, by rw [hw]; exact e68⟩⟩
        · rw [show s = 0 by omega, h132]; decide
        · rw [show s = 0 by omega, h132]; rfl
        · rw [show s = 0 by omega, MM.2.1 133 (by decide) (by decide)]
          exact (row k hk).trans (pv_eq e2 hk)
      have eL10 : ∀ c, c = 122 ∨ c = 123 ∨ c = 124 ∨ c = 125 ∨ c = 127 ∨ c = 128 ∨ c = 129 → y10.1 c = y1.1 c := fun c hc => by
        rw [show y10.1 c = y3.1 c by rcases hc with e | e | e | e | e | e | e <;> rw [e] <;> exact MM.2.1 _ (by decide) (by decide), show y3.1 c = y2.1 c by rcases hc with e | e | e | e | e | e | e <;> rw [e] <;> exact m3.2.1 _ (by decide) (by decide), show y2.1 c = y.1 c by rcases hc with e | e | e | e | e | e | e <;> rw [e] <;> exact g2.2.2.1 _ (by decide) (by decide)]
        rcases hc with e | e | e | e | e | e | e <;> rw [e] <;> exact my.2.1 _ (by decide) (by decide)
      have ml10 : MLo y10 W (lo0 nl) := MLo_f eL10 ml1
      have n840 := AM_n am0
      have c840 : ((chM C wn (fsM C)).length : Nat) ≤ 84 := by have := am0.1.2.2.2.2.1; omega
      have e121z : ∀ v, v < 2 → ¬ v = W → y10.1 121 v = z.1 121 v := fun v v1 v2 => by
        rw [MM.2.1 121 (by decide) (by decide), m3.2.1 121 (by decide) (by decide), g2.2.2.1 121 (by decide) (by decide), my.2.1 121 (by decide) (by decide)]
        exact lw1.2 v v1 v2
      have e10s : eqS (Sl a0) a0 y10 := eqS_mi e2 (mi_tr (L3 := [136]) (A3 := [133, 134, 135, 120, 130, 132]) (mi_of m3) (mi_of MM) rfl rfl) rfl rfl (Sl_Sm a0)
      refine sp_look3 hN hX hq2 w01n w 0 wv am0 (MCn_fs (C := C) (nl := nl)).1 (by rw [pa0.1 26 (by decide)]; exact l26) (by rw [pa0.1 27 (by decide)]; exact l27) e10s (by decide) (M := 1) (by decide) (by rw [← eW]; exact h126) (by rw [← eW, h123]; decide) (by rw [← eW, h123]; decide) (nl := nl) (L := []) (by rw [pa0.1 24 (by decide)]; exact en) (by rw [← eW]; exact ml10.2.2.2.2.2) (by decide) List.Pairwise.nil (fun t ht => by cases ht) (by omega) (fun y11 k11 fa11 lz11 => ?_)
      rw [← eW] at k11 fa11 lz11
      obtain ⟨n1, n2, n3, n4, n5, n6⟩ := k11
      rw [h123, k0] at n6
      have g := fun k (h0 : k ≠ 0) hk => n1.2 k h0 hk
      have e121e : y11.1 121 W = 0 := by rw [g 121 (by decide) (by decide), MM.2.1 121 (by decide) (by decide), m3.2.1 121 (by decide) (by decide)]; exact y121
      have y126' : ∀ f : Nat, f < 11 → y10.1 126 (11 * W + f) = -1 := fun f hf => by rw [MM.2.1 126 (by decide) (by decide), m3.2.1 126 (by decide) (by decide)]; exact y126 f hf
      have one : ∀ (s : Nat) (p : gMa × Nat × Nat), (([(fsM C, 0, 0)], false) : gTy).1[s]? = some p → s = 0 ∧ p = (fsM C, 0, 0) := fun s p hp => by
        cases s with
        | zero => exact ⟨rfl, (Option.some.inj hp).symm⟩
        | succ s => exact nomatch hp
      refine p75 3000 (fun _ => a0) ([(fsM C, 0, 0)], false) y11 0 (by decide) (by decide) (by decide) (Nat.le_refl 1) (by show ((1 : Nat) : Int) ≤ _; omega) ?_ ⟨fun s p hp => ?_, ?_, e121e, fun s p hp s0 => ?_, ?_, ?_, ?_⟩ (fun _ => ?_) rfl
      rotate_left
      · rw [(one s p hp).2]; exact ⟨am0, MCn_fs, NBm_fs⟩
      · exact FN3_next (k := 0) (x7 := fun f => y10.1 126 (11 * W + f)) (p := (fsM C, 0, 0)) rfl rfl (fun f hf => Or.inl ⟨y126' f hf, fun s p hs => absurd hs (Nat.not_lt_zero _)⟩) fa11
      · rw [(one s p hp).1] at s0; exact absurd s0 (Nat.lt_irrefl _)
      · show MLo y11 W (loM C wn nl (fsM C) (lo0 nl))
        exact MLo_next (k := 0) (by omega) ⟨Nat.le_refl _, Nat.le_refl _, Nat.le_refl _, Nat.le_refl _⟩ c840 (ob_lt hLk n6L) n840 ml10 lz11
      · show BLo (loM C wn nl (fsM C) (lo0 nl)) (0 + 1)
        exact BLo_next ⟨Nat.le_refl _, Nat.le_refl _, Nat.le_refl _, Nat.le_refl _⟩ c840
      · exact ⟨LW2_tr (LW2_f (y := y1) eL10 lw1.1) lz11.1.2.2.2, fun v v1 v2 => by rw [g 121 (by decide) (by decide)]; exact e121z v v1 v2⟩
      rotate_left
      · obtain ⟨t1, t2, t3, t4, t5, t6, t7, t8, t9⟩ := q10
        refine ⟨mi_tr t1 n1 rfl rfl, ow_tr t2 n3, by rw [g 120 (by decide) (by decide)]; exact t3, n5, by show _ ≤ ((1 : Nat) : Int); omega, n4, fun s hs2 => ?_, t8, t9⟩
        have r9 := t7 s hs2
        unfold TR TN at r9 ⊢
        rw [g 130 (by decide) (by decide), g 131 (by decide) (by decide), g 132 (by decide) (by decide), g 133 (by decide) (by decide)]
        exact r9
      · refine hcR_f (y := y3) ?_ ?_ (fun s k _ _ => ?_) ⟨hsn, hcn⟩
        · rw [g 134 (by decide) (by decide), MM.2.1 134 (by decide) (by decide)]
        · rw [g 135 (by decide) (by decide), MM.2.1 135 (by decide) (by decide)]
        · rw [g 133 (by decide) (by decide), MM.2.1 133 (by decide) (by decide)]
    intro n
    induction n with
    | zero =>
      intro y i i0 i1 hn my hh
      exact sg_tryAll_7 _ _ _ ⟨fun _ => last y my (fun k hk => hh k (by omega)), fun c => absurd (t_le.mpr (by rw [k40]; omega)) c⟩
    | succ n ih =>
      intro y i i0 i1 hn my hh
      refine sg_tryAll_7 _ _ _ ⟨fun c => last y my (fun k hk => hh k (by rw [t_le, k40] at c; omega)), fun c => ?_⟩
      rw [t_le, k40] at c
      have ci := cl_i i0
      have ii : (i + 1).toInt = i.toInt + 1 := by rw [t_add (by omega) (by omega), k1]
      refine ⟨by rw [vp_in_iff]; omega, fun y13 e13 => ?_⟩
      have m13 := md_a y 135 i.toNatClampNeg (-1) (by decide)
      rw [← e13] at m13
      refine ih y13 (i + 1) (by omega) (by omega) (by omega) (md_tr my m13 rfl rfl) (fun k hk => ?_)
      rw [e13, si_get]
      by_cases q : (135 : Nat) = 135 ∧ k = i.toNatClampNeg
      · rw [if_pos q]
      · rw [if_neg q]; exact hh k (by omega)
  exact loop 4096 y1 0 (by decide) (by decide) (by decide) (md_w (md_rf y1) (by decide) (by decide)) (fun k hk => by rw [k0] at hk; omega)
end TRY3
end
section
/-! claims: nothing of a thread in them, and cells that there are -/
def n5N (N : gU) : Prop := ∀ v ∈ N, ¬ v.1 = 53 ∧ (v.1 = 12 → (7, v.2.2, 0) ∈ N)
def n5T (L L' : gU) : Prop := ∃ N, L' = L ++ N ∧ n5N N
section NT5
variable {K V : Nat → Int32} {L L' L2 M N : gU} {o : Bool} {sN : Nat → Nat → Bool}
theorem n5N_app (h : n5N M) (g : n5N N) : n5N (M ++ N) := fun v hv => by
  rcases List.mem_append.mp hv with h1 | h1
  · exact ⟨(h v h1).1, fun e => List.mem_append_left _ ((h v h1).2 e)⟩
  · exact ⟨(g v h1).1, fun e => List.mem_append_right _ ((g v h1).2 e)⟩
theorem n5T_rf : n5T L L := ⟨[], by rw [List.append_nil], fun _ h => by cases h⟩
theorem n5T_tr (h : n5T L L') (g : n5T L' L2) : n5T L L2 := by
  obtain ⟨N, e, h⟩ := h
  obtain ⟨N2, e2, g⟩ := g
  exact ⟨N ++ N2, by rw [e2, e, List.append_assoc], n5N_app h g⟩
theorem n5T_k {k a b : Nat} (h : ¬ k = 53) (h' : ¬ k = 12) : n5T L (L ++ [(k, a, b)]) := ⟨_, rfl, fun v hv => by rw [List.mem_singleton.mp hv]; exact ⟨h, fun e => absurd e h'⟩⟩
theorem n5T_7 {i j : Nat} : n5T L (L ++ [(7, i, 0), (12, j, i)]) := ⟨_, rfl, fun v hv => by
  rcases List.mem_cons.mp hv with e | e
  · rw [e]; exact ⟨by show ¬ 7 = 53; decide, fun z => absurd z (by show ¬ 7 = 12; decide)⟩
  · rw [List.mem_singleton.mp e]; exact ⟨by show ¬ 12 = 53; decide, fun _ => List.mem_cons_self⟩⟩
theorem pt_n5T {w : Int32} {q r : Nat × gU} (h : pt K w q = some r) : n5T q.2 r.2 := by
  obtain ⟨-, -, e⟩ := pt_is h
  rw [e]; exact n5T_rf
abbrev ng5 (rE : Nat → Nat → gU → gOp) : Prop := ∀ s i L q, rE s i L = some q → n5T L q.2
theorem pW_n5T {rE : Nat → Nat → gU → gOp} {th : Nat} (hr : ng5 rE) : ∀ (f j : Nat) (L : gU) (q : Nat × gU), pW rE K th f j L = some q → n5T L q.2 := by
  intro f
  induction f with
  | zero => intro j L q h; exact absurd h (by simp [pW])
  | succ f ih =>
    intro j L q h
    rw [pW] at h
    split at h
    · split at h
      · obtain ⟨z, hz, h2⟩ := Option.bind_eq_some_iff.mp h
        exact n5T_tr (hr _ _ _ _ hz) (n5T_tr (n5T_k (by decide) (by decide)) (ih _ _ _ h2))
      · exact absurd h (by simp)
    · cases Option.some.inj h; exact n5T_rf
theorem pO_n5T {rE : Nat → Nat → gU → gOp} (hr : ng5 rE) (ho : o = true) {i : Nat} {q : Nat × gU} (h32 : ¬ K i = 32) (h : pO rE K o i L = some q) : n5T L q.2 := by
  unfold pO at h
  split at h
  · exact absurd h (by simp)
  · split at h
    · cases Option.some.inj h; exact n5T_k (by decide) (by decide)
    · split at h
      · obtain ⟨z, hz, h2⟩ := Option.bind_eq_some_iff.mp h
        exact n5T_tr (hr _ _ _ _ hz) (pt_n5T h2)
      · split at h
        · split at h
          · split at h
            · cases Option.some.inj h; exact n5T_7
            · exact absurd h (by simp)
          · cases Option.some.inj h; exact n5T_k (by decide) (by decide)
        · exact absurd h (by simp)
theorem pE_n5T (ho : o = true) : ∀ f : Nat, ng5 (pE K o f) := by
  intro f
  induction f with
  | zero => intro s i L q h; exact absurd h (by simp [pE])
  | succ f ih =>
    intro s i L q h
    rw [pE] at h
    split at h
    · rename_i hb
      obtain ⟨z, hz, h2⟩ := Option.bind_eq_some_iff.mp h
      refine n5T_tr ?_ (pW_n5T ih _ _ _ _ h2)
      split at hz
      · split at hz
        · obtain ⟨y, hy, h3⟩ := Option.bind_eq_some_iff.mp hz
          cases Option.some.inj h3
          exact n5T_tr (ih _ _ _ _ hy) (n5T_k (by decide) (by decide))
        · exact absurd hz (by simp)
      · refine pO_n5T ih ho (fun e => ?_) hz
        rw [e] at hb
        rcases hb with z | ⟨-, z⟩ | z | z | z | z
        · exact absurd z (by decide)
        · rw [ho] at z; cases z
        · exact absurd z (by decide)
        · exact absurd z (by decide)
        · exact absurd z (by decide)
        · exact absurd z (by decide)
    · exact absurd h (by simp)
theorem pX_n5T {f i : Nat} {q : Nat × gU} (h : pX K true f i L = some q) : n5T L q.2 := by
  obtain ⟨z, hz, h2⟩ := Option.bind_eq_some_iff.mp h
  refine n5T_tr (pE_n5T rfl f _ _ _ _ hz) ?_
  unfold pan at h2
  cases Option.some.inj h2
  exact n5T_k (by decide) (by decide)
/-- the claims so far -/
def WDc (c : gCd) : Prop := ∃ E S r b l, c = (E, S, [], r, b, l) ∧ E.2.1 = [] ∧ r.1 = [] ∧ ∀ q ∈ l, n5N q.2
variable {c : gCd} {i j n t : Nat} {T : gTd} {E : gV}
theorem WDc_th {q : Nat} (h : WDc c) (hB : PBt K 0 0 q N) (nf : ¬ flt sN T V N E0v) : WDc (cds sN K ([(34, i, j)] ++ N) c) ∧ eqE (exs N E0v) E0v := by
  obtain ⟨E, S, r, b, l, rfl, hE, hr, h3⟩ := h
  obtain ⟨b1, b2, b3⟩ := hB sN T V E0v nf gEe_0 rfl
  obtain ⟨S', e, g⟩ := b3 S [] (b ++ [(S.length, j)], l)
  have b2 : exs N E0v = ([], [], q) := b2
  refine ⟨⟨([], [], q), S' ++ [(21, 0, knw ([], [], q), none, none, false, none, none, none)], rg0, b ++ [(S.length, j)], l, ?_, rfl, rfl, h3⟩, by rw [b2]; exact ⟨rfl, rfl⟩⟩
  rw [cds_app, cds_one, cd_34, e]
  rfl
theorem WDc_cl {u : Nat} (hu : u = 35 ∨ u = 36) (h : WDc c) (hs : sEv true N) (hP : n5N N) : WDc (cds sN K ([(u, i, 0)] ++ (N ++ [(54, 0, 0)])) c) := by
  obtain ⟨E, S, ⟨cu, su, pl, ro, tg, tk⟩, b, l, rfl, hE, hr, h3⟩ := h
  have hr : cu = [] := hr
  subst hr
  have e1 : cdV sN K (E, S, [], ([], su, pl, ro, tg, tk), b, l) (u, i, 0) = (E, S, [], ([], su, u, ro, tg, tk), b, l) := by
    rcases hu with rfl | rfl
    · exact cd_35
    · exact cd_36
  have e2 : cds sN K ([(u, i, 0)] ++ (N ++ [(54, 0, 0)])) (E, S, [], ([], su, pl, ro, tg, tk), b, l) = (E, S, [], ([], su, u, ro, tg, tk), b, l ++ [(u, N)]) := by
    rw [cds_app, cds_one, e1, cds_app, cds_sum (r := ([], su, u, ro, tg, tk)) hs (fun _ => hE), cds_one]
    show cdV sN K (E, S, [], ([] ++ N, su, u, ro, tg, tk), b, l) (54, 0, 0) = _
    rw [List.nil_append]
    unfold cdV
    rw [if_neg (by decide), if_neg (by decide), if_pos rfl, if_pos hE]
  rw [e2]
  refine ⟨_, _, _, _, _, rfl, hE, rfl, fun q hq => ?_⟩
  rcases List.mem_append.mp hq with hq | hq
  · exact h3 q hq
  · rw [List.mem_singleton.mp hq]
    exact hP
theorem WDc_no (h : WDc c) (hN : dul N) (hE : eqE E E0v) : WDc (cds sN K N c) ∧ eqE (exs N E) E0v := by
  rw [cds_no hN]
  refine ⟨h, ?_⟩
  rw [exs_still (fun v hv => by have := hN v hv; omega)]
  exact hE
theorem pD_g {n : gN} {q : gN × Nat × gU} (h : pD K V n i L = some q) : ∃ N, q.2.2 = L ++ N ∧ ∀ sN T V' E c, WDc c → eqE E E0v → ¬ flt sN T V' N E → WDc (cds sN K N c) ∧ eqE (exs N E) E0v := by
  have cell : ∀ t, (pCl K V n.1 i t L).bind (fun q => some ((q.1, n.2), q.2)) = some q → ∃ N, q.2.2 = L ++ N ∧ ∀ sN T V' E c, WDc c → eqE E E0v → ¬ flt sN T V' N E → WDc (cds sN K N c) ∧ eqE (exs N E) E0v := fun t h => by
    obtain ⟨z, hz, e⟩ := Option.bind_eq_some_iff.mp h
    obtain ⟨N, eN, hN⟩ := pCl_f hz
    cases Option.some.inj e
    exact ⟨N, eN, fun sN T V' E c hc hE _ => WDc_no hc hN hE⟩
  have blk : ∀ (t a j : Nat) (v : gN), (pBk (pS K 16) K 0 0 t (L ++ [(34, a, j)])).bind (fun q => some (v, q.2)) = some q → ∃ N, q.2.2 = L ++ N ∧ ∀ sN T V' E c, WDc c → eqE E E0v → ¬ flt sN T V' N E → WDc (cds sN K N c) ∧ eqE (exs N E) E0v := fun t a j v h => by
    obtain ⟨z, hz, e⟩ := Option.bind_eq_some_iff.mp h
    obtain ⟨N, eN, hN⟩ := pBk_f (pS_f 16 (Nat.le_refl _)) hz
    cases Option.some.inj e
    refine ⟨[(34, a, j)] ++ N, by show z.2.2 = _; rw [eN, List.append_assoc], fun sN T V' E c hc hE nf => ?_⟩
    have s34 : still [(34, a, j)] := st_k (by decide)
    obtain ⟨-, nf⟩ := nf_app nf s34
    obtain ⟨r1, r2⟩ := WDc_th (i := a) (j := j) hc hN (fun y => nf ((flt_q hE).mpr y))
    refine ⟨r1, ?_⟩
    rw [exs_app, exs_still s34]
    exact eqE_tr (exs_q hE) r2
  have clm : ∀ (u : Nat) (v : gN), u = 35 ∨ u = 36 → ((pX K true 16 (i + 1) (L ++ [(u, i, 0)])).bind (pt K 67)).bind (fun q => some (v, q)) = some q → ∃ N, q.2.2 = L ++ N ∧ ∀ sN T V' E c, WDc c → eqE E E0v → ¬ flt sN T V' N E → WDc (cds sN K N c) ∧ eqE (exs N E) E0v := fun u v hu h => by
    obtain ⟨z, hz, e⟩ := Option.bind_eq_some_iff.mp h
    obtain ⟨y, hy, h2⟩ := Option.bind_eq_some_iff.mp hz
    obtain ⟨N, eN, hs, hw⟩ := pX_sW hy
    obtain ⟨N', eN', hn5⟩ := pX_n5T hy
    have eNN : N' = N ++ [(54, 0, 0)] := List.append_cancel_left (eN'.symm.trans eN)
    have hn : n5N N := fun v hv => by
      have h9 := hn5 v (by rw [eNN]; exact List.mem_append_left _ hv)
      refine ⟨h9.1, fun e12 => ?_⟩
      have h8 := h9.2 e12
      rw [eNN] at h8
      rcases List.mem_append.mp h8 with h7 | h7
      · exact h7
      · have := congrArg (fun z : Nat × Nat × Nat => z.1) (List.mem_singleton.mp h7)
        exact absurd this (by show ¬ 7 = 54; decide)
    obtain ⟨-, -, e2⟩ := pt_is h2
    cases Option.some.inj e
    refine ⟨[(u, i, 0)] ++ (N ++ [(54, 0, 0)]), ?_, fun sN T V' E c hc hE _ => ⟨WDc_cl hu hc hs hn, ?_⟩⟩
    · show z.2 = _
      rw [e2]
      show y.2 = _
      rw [eN, List.append_assoc]
    · rw [exs_still (still_app (st_k (by omega)) (still_app (sEv_st hs) (st_k (by decide))))]
      exact hE
  unfold pD at h
  split at h
  · split at h
    · exact cell _ h
    · exact absurd h (by simp)
  · split at h
    · exact cell _ h
    · split at h
      · split at h
        · cases Option.some.inj h
          exact ⟨[(33, i + 1, 0)], rfl, fun sN T V' E c hc hE _ => WDc_no hc (dul_one (by decide)) hE⟩
        · exact absurd h (by simp)
      · split at h
        · split at h
          · exact blk _ _ 1 _ h
          · exact absurd h (by simp)
        · split at h
          · split at h
            · exact blk _ _ 0 _ h
            · exact absurd h (by simp)
          · split at h
            · split at h
              · exact clm 35 _ (Or.inl rfl) h
              · exact absurd h (by simp)
            · split at h
              · split at h
                · exact clm 36 _ (Or.inr rfl) h
                · exact absurd h (by simp)
              · exact absurd h (by simp)
theorem pAl_g : ∀ (m : Nat) (n : gN) (i : Nat) (L : gU) (q : gN × Nat × gU), pAl K V m n i L = some q → ∃ N, q.2.2 = L ++ N ∧ ∀ sN T V' E c, WDc c → eqE E E0v → ¬ flt sN T V' N E → WDc (cds sN K N c) := by
  intro m
  induction m with
  | zero => intro n i L q h; exact absurd h (by simp [pAl])
  | succ m ih =>
    intro n i L q h
    rw [pAl] at h
    split at h
    · cases Option.some.inj h
      exact ⟨[], by rw [List.append_nil], fun sN T V' E c hc _ _ => hc⟩
    · obtain ⟨z, hz, h2⟩ := Option.bind_eq_some_iff.mp h
      obtain ⟨M, eM, hM⟩ := pD_g hz
      obtain ⟨N, eN, hN⟩ := ih _ _ _ _ h2
      refine ⟨M ++ N, by rw [eN, eM, List.append_assoc], fun sN T V' E c hc hE nf => ?_⟩
      rw [flt_app] at nf
      obtain ⟨r1, r2⟩ := hM sN T V' E c hc hE (fun y => nf (Or.inl y))
      rw [cds_app]
      exact hN sN T V' _ _ r1 r2 (fun y => nf (Or.inr y))
theorem cod_c {n : gN} (h : pAl K V 701 (0, 0, 0, 0, 0) 0 [] = some (n, j, L)) (nf : ¬ jFl sN K V L) : WDc (cds sN K L cd0) := by
  obtain ⟨N, eN, hN⟩ := pAl_g _ _ _ _ _ h
  have eN : L = N := eN
  rw [← eN] at hN
  exact hN sN _ V E0v cd0 ⟨E0v, [], rg0, [], [], rfl, rfl, rfl, fun q hq => (by cases hq)⟩ ⟨rfl, rfl⟩ (fun y => nf (Or.inr y))
theorem flt_mm : ∀ {L : gU} {E : gV} {v : Nat × Nat × Nat}, ¬ flt sN T V L E → v ∈ L → ∃ E', ¬ fv sN T V E' v := by
  intro L
  induction L with
  | nil => intro E v _ hv; cases hv
  | cons a L ih =>
    intro E v nf hv
    have n1 : ¬ fv sN T V E a := fun z => nf (Or.inl z)
    have n2 : ¬ flt sN T V L (exV E a) := fun z => nf (Or.inr z)
    rcases List.mem_cons.mp hv with e | e
    · rw [e]; exact ⟨E, n1⟩
    · exact ih n2 e
/-- claims, in numbers, but for what is below 0 -/
def NCu (C : gCo) : Prop := ∀ Q, Q ∈ C.2.2.2.1 ∨ Q ∈ C.2.2.2.2 → ∀ p ∈ Q, ¬ p.1 = 3 ∧ (p.1 = 4 → p.2.2.toInt < C.2.2.1.length)
theorem NCu_of {n : gN} (h : pAl K V 701 (0, 0, 0, 0, 0) 0 [] = some (n, j, L)) (nf : ¬ jFl sN K V L) (l24 : (cel K V L).length ≤ 24) : NCu (codN sN V K L) := by
  have hc : celP K V L := pAl_cP 701 _ _ _ _ celP_0 h
  obtain ⟨E, S, r, b, l, ec, -, -, w1, w2, w3⟩ := cod_ok h nf
  obtain ⟨E', S', r', b', l', ec', -, -, w4⟩ := cod_c h nf
  have el : l' = l := by
    have e9 := ec'.symm.trans ec
    exact congrArg (fun z : gCd => z.2.2.2.2.2) e9
  rw [el] at w4
  have e3 : (cds sN K L cd0).2.2.2.2.2 = l := by rw [ec]
  obtain ⟨T, eT⟩ : ∃ T, T = L.filterMap (te1 K V) := ⟨_, rfl⟩
  have nfl : ¬ flt sN T V L E0v := fun z => nf (Or.inr (by rw [← eT]; exact z))
  have cs : (codN sN V K L).2.2.1 = cel K V L := rfl
  -- a cell's number
  have num : ∀ t q, mtP sN T 0 t = some q → ∀ i, i < max q.2.2.1 1 → nmT sN 0 t T + i < (cel K V L).length := fun t q hm i hi => by
    obtain ⟨T1, T2, a1, a2, a3⟩ := nm_first hm
    obtain ⟨p, hp⟩ := hc.2 T1 q T2 (by rw [← eT]; exact a1) a2
    rw [a3]
    exact gt_lt (hp i hi)
  have cl : ∀ u Q, Q ∈ (clF u l).map (nQs sN T V K []) → ∀ p ∈ Q, ¬ p.1 = 3 ∧ (p.1 = 4 → p.2.2.toInt < (cel K V L).length) := fun u Q hQ p hp => by
    obtain ⟨N, hN, e⟩ := List.mem_map.mp hQ
    subst e
    obtain ⟨q, hq, e9⟩ := List.mem_filterMap.mp hN
    have e9 : q.2 = N := by
      split at e9
      · exact Option.some.inj e9
      · exact absurd e9 (by simp)
    obtain ⟨-, z4⟩ := w3 q hq
    have z5 := w4 q hq
    rw [e9] at z4 z5
    obtain ⟨v, hv, e⟩ := List.mem_filterMap.mp hp
    have inL := z4 v hv
    obtain ⟨n53, h12⟩ := z5 v hv
    unfold nQt at e
    split at e
    · cases e; exact ⟨by show ¬ 1 = 3; decide, fun z => absurd z (by show ¬ 1 = 4; decide)⟩
    · split at e
      · cases e; exact ⟨by show ¬ 2 = 3; decide, fun z => absurd z (by show ¬ 2 = 4; decide)⟩
      · split at e
        · next e6 =>
          cases e
          refine ⟨by show ¬ 4 = 3; decide, fun _ => ?_⟩
          obtain ⟨E9, n9⟩ := flt_mm nfl inL
          have pl : plc sN T v.2.1 := Classical.byContradiction (fun z => n9 (Or.inr (Or.inl ⟨e6, z⟩)))
          obtain ⟨q9, hm, -⟩ := pl
          have := num _ _ hm 0 (by omega)
          show (Int32.ofNat (nmT sN 0 v.2.1 T)).toInt < _
          rw [Int32.toInt_ofNat_of_lt (by omega)]
          omega
        · split at e
          · next e12 =>
            cases e
            refine ⟨by show ¬ 4 = 3; decide, fun _ => ?_⟩
            obtain ⟨E9, n9⟩ := flt_mm nfl inL
            obtain ⟨E7, n7⟩ := flt_mm nfl (z4 _ (h12 e12))
            have rw7 : ∃ n, rwc sN T v.2.2 n := Classical.byContradiction (fun z => n7 (Or.inr (Or.inr (Or.inl ⟨rfl, z⟩))))
            obtain ⟨m, hm⟩ := rw7
            have lt : ¬ (m : Int) ≤ (V v.2.1).toInt := fun z => n9 (Or.inr (Or.inr (Or.inr (Or.inl ⟨e12, m, hm, z⟩))))
            obtain ⟨q9, hm1, hm2, hm3⟩ := hm
            have b0 := num _ _ hm1 (m - 1) (by omega)
            have lo := Int32.le_toInt (V v.2.1)
            have ofm : (Int32.ofNat (nmT sN 0 v.2.2 T)).toInt = (nmT sN 0 v.2.2 T : Nat) := Int32.toInt_ofNat_of_lt (by omega)
            show (Int32.ofNat (nmT sN 0 v.2.2 T) + V v.2.1).toInt < _
            rw [t_add (by omega) (by omega), ofm]
            omega
          · split at e
            · cases e; exact ⟨by show ¬ 5 = 3; decide, fun z => absurd z (by show ¬ 5 = 4; decide)⟩
            · split at e
              · cases e; exact ⟨by show ¬ 6 = 3; decide, fun z => absurd z (by show ¬ 6 = 4; decide)⟩
              · exact absurd e (by simp)
  intro Q hQ
  rw [cs]
  unfold codN at hQ
  rw [e3, ← eT] at hQ
  exact hQ.elim (fun z => cl 35 Q z) (fun z => cl 36 Q z)
theorem NCq_of {x : gd} {C : gCo} (hC : CO x) (hK : CK x C) (h : NCu C) : NCq C := by
  have key : ∀ (r : Int32) (Q : List gQ), SUk x r (Q.map cQ) → ∀ p ∈ Q, p.1 = 4 → 0 ≤ p.2.2.toInt := fun r Q hS p hp h4 => by
    obtain ⟨i, hi⟩ := List.mem_iff_getElem?.mp hp
    obtain ⟨s1, s2, s3, -⟩ := hS
    have hl := gt_lt hi
    obtain ⟨e1, e2⟩ := s3 i (cQ p) (by rw [List.getElem?_map, hi]; rfl)
    have c4 : cQ p = (2, p.2.2) := by
      unfold cQ
      rw [if_neg (by omega), if_neg (by omega), if_neg (by omega), if_pos h4]
    rw [c4] at e1 e2
    have cr := t_cl r
    rw [List.length_map] at s2
    have := hC.2.1.2 (r.toNatClampNeg + i) (by omega) e1
    rw [e2] at this
    exact this.1
  intro Q hQ p hp
  obtain ⟨a, b⟩ := h Q hQ p hp
  refine ⟨a, fun h4 => ⟨?_, b h4⟩⟩
  rcases hQ with hQ | hQ
  · obtain ⟨k, hk⟩ := List.mem_iff_getElem?.mp hQ
    exact key _ Q (hK.2.2.2.1.2 k Q hk) p hp h4
  · obtain ⟨k, hk⟩ := List.mem_iff_getElem?.mp hQ
    exact key _ Q (hK.2.2.2.2.2 k Q hk) p hp h4
end NT5
end
section
/-! the model: what stays of a trying; show() -/
def TYo (C : gCo) (wn : Nat) (z : gd) (T : gTy) : Prop := (z.1 120 wn).toInt = (T.1.length : Nat) ∧ T.1.length ≤ 3000 ∧ FN3 C wn (fun f => z.1 126 (11 * wn + f)) T T.1.length ∧ ∀ s p, T.1[s]? = some p → (s = 0 → (z.1 132 (3000 * wn + s)).toInt = 0) ∧ (0 < s → (z.1 130 (3000 * wn + s)).toInt = (p.2.1 : Nat) ∧ (z.1 131 (3000 * wn + s)).toInt = (p.2.2 : Nat) ∧ (z.1 132 (3000 * wn + s)).toInt = (z.1 132 (3000 * wn + p.2.1)).toInt + 1)
section TYC
variable {C : gCo} {wn nl : Nat} {z y : gd} {T : gTy}
theorem FN3_c {x7 y7 : Nat → Int32} {k : Nat} (e : ∀ f, f < 11 → y7 f = x7 f) (h : FN3 C wn x7 T k) : FN3 C wn y7 T k := fun f hf => by rw [e f hf]; exact h f hf
theorem TYo_f (e1 : y.1 120 = z.1 120) (e2 : y.1 126 = z.1 126) (e3 : y.1 130 = z.1 130) (e4 : y.1 131 = z.1 131) (e5 : y.1 132 = z.1 132) (h : TYo C wn z T) : TYo C wn y T := by
  unfold TYo at h ⊢
  rw [e1, e2, e3, e4, e5]
  exact h
theorem TYo_mi {L A : List Nat} (m : mi L A z y) (hA : [120, 126, 130, 131, 132].all (fun k => !A.elem k) = true) (h : TYo C wn z T) : TYo C wn y T := by
  have g := fun k (h0 : k ≠ 0) hk => m.2 k h0 (all_no hA k hk)
  exact TYo_f (g 120 (by decide) (by decide)) (g 126 (by decide) (by decide)) (g 130 (by decide) (by decide)) (g 131 (by decide) (by decide)) (g 132 (by decide) (by decide)) h
theorem TYo_ow {W : Nat} (hW : TW C wn T) (hw : wn < 2) (ne : ¬ wn = W) (o : ow W z y) (h : TYo C wn z T) : TYo C wn y T := by
  obtain ⟨o1, -, o3, o4⟩ := o wn hw ne
  obtain ⟨h1, h2, h3, h4⟩ := h
  refine ⟨by rw [o1]; exact h1, h2, FN3_c (fun f hf => o3 f hf) h3, fun s p hp => ?_⟩
  have hs := gt_lt hp
  obtain ⟨a, b⟩ := h4 s p hp
  obtain ⟨e1, e2, e3⟩ := o4 s (by omega)
  refine ⟨fun z0 => by rw [e3]; exact a z0, fun s0 => ?_⟩
  have lt := ((hW s p hp).2 s0).1
  rw [e1, e2, e3, (o4 p.2.1 (by omega)).2.2]
  exact b s0
theorem TYo_of {A : Nat → gd} {z0 : gd} (hM : T.1.length ≤ 3000) (ti : TI z0 wn A T.1.length z) (tj : TJo C nl wn A wn T z) : TYo C wn z T := by
  obtain ⟨-, -, t3, -, -, -, t7, -, -⟩ := ti
  obtain ⟨-, j2, -, j4⟩ := tj
  refine ⟨by rw [t3, ofN hM], hM, j2, fun s p hp => ?_⟩
  obtain ⟨-, -, n3, n4⟩ := (t7 s (gt_lt hp)).1
  refine ⟨n3, fun s0 => ?_⟩
  obtain ⟨b1, b2⟩ := j4 s p hp s0
  obtain ⟨q, q1, q2, q3, -⟩ := n4 s0
  have eq : q = p.2.1 := by omega
  rw [eq] at q3
  exact ⟨b1, b2, q3⟩
theorem MK_mi {w w' : gd} {C : gCo} {L A : List Nat} (m : mi L A w w') (hL : mfL.all (fun k => !L.elem k) = true) (hA : mfA.all (fun k => !A.elem k) = true) (h : MK w C) : MK w' C := MK_f h (fun k hk => m.1 k (all_no hL k hk)) (fun c hc => m.2 c (mfA_0 c hc) (all_no hA c hc))
/-- how far a state is -/
theorem TYo_d (hW : TW C wn T) (h : TYo C wn z T) : ∀ n s p, s ≤ n → T.1[s]? = some p → (z.1 132 (3000 * wn + s)).toInt = ((pth T s).length : Nat) := by
  intro n
  induction n with
  | zero =>
    intro s p hs hp
    have e : s = 0 := by omega
    subst e
    exact (h.2.2.2 0 p hp).1 rfl
  | succ n ih =>
    intro s p hs hp
    by_cases s0 : s = 0
    · subst s0
      exact (h.2.2.2 0 p hp).1 rfl
    · obtain ⟨a2, a3, a4⟩ := (h.2.2.2 s p hp).2 (by omega)
      obtain ⟨hl, p', ch, h1, h2, h3⟩ := (hW s p hp).2 (by omega)
      rw [a4, ih p.2.1 p' (by omega) h1, pth_s hW (by omega) hp, List.length_append, List.length_singleton]
      rfl
end TYC
/-! refusals with their number -/
def rfK (k : Int32) (z z' : gd) : Prop := mi [0] [] z z' ∧ z'.1 0 0 = k
section RFK
variable {G : mG} {d D : Nat} {z : gd} {F : Int32 → gd → Prop}
theorem sc_refk {y : gd} (b k : Int32) (hy : z0 z y) (hk : 0 < k.toInt) (h0 : b = 0 → F 0 y) (h1 : ¬ b = 0 → ∀ y', rfK k z y' → F 1 y') : MT G d z_refuses 0 [(0, vr 0), (1, vi b), (2, vi k)] [] y (ri F) :=
  sp_refuses b k hy.2 hk h0 (fun c => h1 c _ ⟨mi_tr hy.1 (mi_of (md_f y 0 k)) rfl rfl, by rw [si_get, if_pos ⟨rfl, rfl⟩]⟩)
theorem sc_noRunk {y : gd} (hy : z0 z y) (h0 : ¬ y.1 0 67 = 0 → F 0 y) (h1 : y.1 0 67 = 0 → ∀ y', rfK 1 z y' → F 1 y') : MT G (d + 1) z_noRun 0 [(0, vr 0)] [] y (ri F) := by
  refine sg_noRun_0 ⟨fun c => sg_noRun_13 _ (sc_refk _ _ hy (by decide) (fun _ => ⟨gbool_0, ri_i (h0 c)⟩) (fun q => absurd rfl q)), fun c => sg_noRun_13 _ (sc_refk _ _ hy (by decide) (fun q => absurd q (by decide)) (fun _ y' m => ⟨gbool_1, ri_i (h1 c y' m)⟩))⟩
end RFK
/-- there is a way to show it -/
def shG (C : gCo) (Tw : Nat → gTy) (z : gd) (w f : Int32) : Prop := ∃ wn s : Nat, (wn = 0 ∨ wn = 1) ∧ w = Int32.ofNat wn ∧ 0 ≤ f.toInt ∧ f.toInt < 11 ∧ ¬ z.1 119 wn = 0 ∧ fsF C wn (Tw wn) f.toInt.toNat s ∧ (pth (Tw wn) s).length ≤ 400
theorem fsF_u {C : gCo} {w f s s' : Nat} {T : gTy} (h : fsF C w T f s) (g : fsF C w T f s') : s = s' := by
  obtain ⟨p, a1, a2, a3⟩ := h
  obtain ⟨p', b1, b2, b3⟩ := g
  apply Classical.byContradiction
  intro ne
  by_cases lt : s < s'
  · exact b3 s p lt a1 a2
  · exact a3 s' p' (by omega) b1 b2
section TSW
variable {G : mG} {d D : Nat} {x z a : gd} {F : Int32 → gd → Prop} {Fv : gd → Prop} {C : gCo}
theorem wn_eq {w : Int32} {wn wn' : Nat} (h1 : wn = 0 ∨ wn = 1) (h2 : wn' = 0 ∨ wn' = 1) (e1 : w = Int32.ofNat wn) (e2 : w = Int32.ofNat wn') : wn = wn' := by
  rcases h1 with rfl | rfl <;> rcases h2 with rfl | rfl
  · rfl
  · rw [e1] at e2; exact absurd e2 (by decide)
  · rw [e1] at e2; exact absurd e2 (by decide)
  · rfl
theorem sc_show {Tw : Nat → gTy} (q : MI z) (gc : GC C) (hK : ¬ z.1 0 66 = 0 → MK z C) (w f : Int32) (hT : ∀ wn, (wn = 0 ∨ wn = 1) → ¬ z.1 119 wn = 0 → TYo C wn z (Tw wn) ∧ TW C wn (Tw wn)) (hD : 8 ≤ D) (h01 : ¬ ((w = 0 ∨ w = 1) ∧ 0 ≤ f.toInt ∧ f.toInt < 11) → ∀ z', rfK 1 z z' → F 0 z') (h02 : ((w = 0 ∨ w = 1) ∧ 0 ≤ f.toInt ∧ f.toInt < 11) → ¬ shG C Tw z w f → ∀ z', rfK 2 z z' → F 0 z') (h1 : ∀ (wn s : Nat) z', (wn = 0 ∨ wn = 1) → w = Int32.ofNat wn → 0 ≤ f.toInt → f.toInt < 11 → ¬ z.1 119 wn = 0 → fsF C wn (Tw wn) f.toInt.toNat s → (pth (Tw wn) s).length ≤ 400 → HistC C wn z' → mi (0 :: 67 :: 68 :: dL) (138 :: dA) z z' → z'.1 0 0 = 0 → z'.1 0 67 = 1 → (z'.1 0 94).toInt = ((pth (Tw wn) s).length : Nat) → (∀ k v, (pth (Tw wn) s)[k]? = some v → c96 z' k = v) → F (z'.1 0 94) z') : MT G D z_show 0 [(0, vr 0), (1, vi w), (2, vi f)] [] z (ri F) := by
  obtain ⟨D, rfl⟩ : ∃ D', D = D' + 1 := ⟨D - 1, by omega⟩
  have k0 : (0 : Int32).toInt = 0 := rfl
  have k1 : (1 : Int32).toInt = 1 := rfl
  have km1 : (-1 : Int32).toInt = -1 := rfl
  have k4 : (400 : Int32).toInt = 400 := rfl
  refine sg_show_0 _ _ (fun y e => ?_)
  have hy := z0_s e
  have no : ∀ wn : Nat, (wn = 0 ∨ wn = 1) → w = Int32.ofNat wn → 0 ≤ f.toInt → f.toInt < 11 → ¬ shG C Tw z w f → ∀ y', rfK 2 z y' → ri F (some (vi 0)) y' := fun wn w01 ew f0 f1 hn y' m => ri_i (h02 ⟨by rcases w01 with e9 | e9 <;> rw [ew, e9]; exact Or.inl rfl; exact Or.inr rfl, f0, f1⟩ hn y' m)
  have qy := (MI_0 hy.1 q).1
  have g119 : y.1 119 = z.1 119 := hy.1.2 119 (by decide) (by simp)
  have p75 : ∀ wn : Nat, (wn = 0 ∨ wn = 1) → w = Int32.ofNat wn → vp_in w 2 → 0 ≤ f.toInt → f.toInt < 11 → ∀ s b : Int32, (b = 0 → ¬ y.1 119 wn = 0 ∧ ∃ S : Nat, s.toInt = (S : Nat) ∧ fsF C wn (Tw wn) f.toInt.toNat S) → (¬ b = 0 → ¬ shG C Tw z w f) → MT G (D + 1) z_show 75 [(0, vr 0), (1, vi w), (3, vi s)] [vi b, vr 0] y (ri F) := by
    intro wn w01 ew wv f0 f1 s b hb hb2
    refine sg_show_75 _ _ _ (sc_refk b 2 hy (by decide) (fun b0 => ⟨fun q => absurd rfl q, fun _ => ?_⟩) (fun nb y' m => ⟨fun _ => no wn w01 ew f0 f1 (hb2 nb) y' m, fun q => absurd q (by decide)⟩))
    obtain ⟨tr, S, es, hfs⟩ := hb b0
    obtain ⟨W, eW⟩ : ∃ W, W = w.toNatClampNeg := ⟨_, rfl⟩
    have eWn : W = wn := by rw [eW, ew]; rcases w01 with e9 | e9 <;> rw [e9] <;> rfl
    have tz : ¬ z.1 119 wn = 0 := by rw [← g119]; exact tr
    obtain ⟨tyz, hTW⟩ := hT wn w01 tz
    obtain ⟨T, eT⟩ : ∃ T, T = Tw wn := ⟨_, rfl⟩
    have h1 := fun z' => h1 wn S z' w01 ew f0 f1 tz hfs
    rw [← eT] at tyz hTW hfs h1
    have ty : TYo C wn y T := TYo_mi hy.1 rfl tyz
    obtain ⟨p9, hp9, -⟩ := id hfs
    have hc : ¬ y.1 0 66 = 0 := (qy.2.2.2 wn (by omega) tr).1
    have cp := qy.2.1 hc
    have hKz := hK (by rw [← hy.1.1 66 (by decide)]; exact hc)
    have b3 := ty.2.1
    have sS := gt_lt hp9
    have ix : ∀ (c : Int32) (c' : Nat), c.toInt = (c' : Nat) → c' < T.1.length → vp_in (3000 * w + c) 6000 ∧ (3000 * w + c).toNatClampNeg = 3000 * wn + c' := fun c c' ec c1 => by
      have := tmul (k := 3000) (K := 3000) (N := 6000) (n := 3000) (i := c) rfl wv (by omega) (by omega) (by omega) (by omega) (by omega)
      have cc := t_cl c
      rw [← eW, eWn] at this
      rw [show c.toNatClampNeg = c' by omega] at this
      exact this
    obtain ⟨sv, se⟩ := ix s S es sS
    have dS := TYo_d hTW ty S S p9 (Nat.le_refl _) hp9
    obtain ⟨N, eN⟩ : ∃ N, N = y.1 132 (3000 * w + s).toNatClampNeg := ⟨_, rfl⟩
    have dN : N.toInt = ((pth T S).length : Nat) := by rw [eN, se]; exact dS
    rw [← eN]
    -- the run gone again
    have loop : (pth T S).length ≤ 400 → ∀ (m : Nat) (u : gd) (k : Nat) (i : Int32), i.toInt = (k : Nat) → k ≤ (pth T S).length → (pth T S).length - k ≤ m → HistC C wn u → (u.1 0 94).toInt = (k : Nat) → (∀ j v, (pth T S)[j]? = some v → (u.1 138 j).toInt = (v : Nat)) → (∀ j v, j < k → (pth T S)[j]? = some v → c96 u j = v) → u.1 0 67 = 1 → mi (67 :: 68 :: dL) (138 :: dA) y u → MT G (D + 1) z_show 186 [(0, vr 0), (4, vi N), (5, vi i)] [] u (ri F) := by
      intro N4
      have end' : ∀ (u : gd) (k : Nat), k = (pth T S).length → HistC C wn u → (u.1 0 94).toInt = (k : Nat) → (∀ j v, j < k → (pth T S)[j]? = some v → c96 u j = v) → u.1 0 67 = 1 → mi (67 :: 68 :: dL) (138 :: dA) y u → ri F (some (vi (u.1 0 94))) u := fun u k ek hu u94 u96 u67 mu => ri_i (h1 u N4 hu (mi_tr hy.1 mu rfl rfl) (by rw [mu.1 0 (by decide)]; exact hy.2) u67 (by rw [u94, ek]) (fun j v hj => u96 j v (by rw [ek]; exact gt_lt hj) hj))
      intro m
      induction m with
      | zero =>
        intro u k i ei hk hm hu u94 u138 u96 u67 mu
        exact sg_show_186 _ _ ⟨fun _ => end' u k (by omega) hu u94 u96 u67 mu, fun c => absurd (t_le.mpr (by omega)) c⟩
      | succ m ih =>
        intro u k i ei hk hm hu u94 u138 u96 u67 mu
        refine sg_show_186 _ _ ⟨fun c => end' u k (by rw [t_le] at c; omega) hu u94 u96 u67 mu, fun c => ?_⟩
        rw [t_le] at c
        have kl : k < (pth T S).length := by omega
        have ci : i.toNatClampNeg = k := by rw [t_cl, ei]; rfl
        refine ⟨by rw [vp_in_iff]; omega, ?_⟩
        rw [ci]
        have hg := List.getElem?_eq_getElem kl
        obtain ⟨v, ev⟩ : ∃ v, v = (pth T S)[k] := ⟨_, rfl⟩
        rw [← ev] at hg
        have e138 := u138 k v hg
        -- the choice is one of those that there are
        obtain ⟨c9, hc9⟩ : ∃ c9 : Nat → Nat, ∀ j v, (pth T S)[j]? = some v → c9 j = v := ⟨fun j => ((pth T S)[j]?).getD 0, fun j v hj => congrArg (fun z : Option Nat => z.getD 0) hj⟩
        obtain ⟨-, r2⟩ := pth_run hTW S S p9 (Nat.le_refl _) hp9 c9 hc9
        have rE : runM C wn c9 k = runM C wn (c96 u) k := runM_cg (fun j hj => by
          have hgj := List.getElem?_eq_getElem (show j < (pth T S).length by omega)
          rw [hc9 j _ hgj, u96 j _ hj hgj])
        have lt := r2 k kl
        rw [hc9 k v hg, rE] at lt
        have e84 := HistC_n hu
        have ek : (u.1 0 94).toInt.toNat = k := by rw [u94]; rfl
        rw [ek] at e84
        have ii : (i + 1).toInt = ((k + 1 : Nat) : Int) := by rw [t_add (by omega) (by omega), k1, ei]; rfl
        refine sc_more gc hu (by omega) _ (by omega) (by omega) (by omega) (fun u' hu' df => ?_)
        obtain ⟨mm, e94, e96, e96b⟩ := df
        have cu : (u.1 0 94).toNatClampNeg = k := by rw [t_cl]; exact ek
        rw [cu] at e96 e96b
        refine ih u' (k + 1) (i + 1) ii kl (by omega) hu' (by rw [e94, u94]; push_cast; rfl) (fun j v hj => by rw [mm.2 138 (by decide) (by decide)]; exact u138 j v hj) (fun j v9 hj hv => ?_) (by rw [mm.1 67 (by decide)]; exact u67) (mi_tr mu mm rfl rfl)
        show (u'.1 96 j).toNatClampNeg = v9
        by_cases cj : j = k
        · rw [cj, e96, t_cl]
          rw [cj, hg] at hv
          have hv := Option.some.inj hv
          rw [e138, hv]; rfl
        · rw [e96b j cj]
          exact u96 j v9 (by omega) hv
    -- the way back to the first state
    have back : (pth T S).length ≤ 400 → ∀ (n : Nat) (u : gd) (c i : Int32) (U : Nat) (pU : gMa × Nat × Nat) (r : List Nat), i.toInt = (n : Int) - 1 → c.toInt = (U : Nat) → T.1[U]? = some pU → (pth T U).length = n → pth T S = pth T U ++ r → mi [] [138] y u → (∀ j v, r[j]? = some v → (u.1 138 (n + j)).toInt = (v : Nat)) → MT G (D + 1) z_show 135 [(0, vr 0), (1, vi w), (3, vi c), (4, vi N), (5, vi i)] [] u (ri F) := by
      intro N4 n
      induction n with
      | zero =>
        intro u c i U pU r ei ec hU hl hr mu hu
        have e0 : pth T U = [] := List.eq_nil_of_length_eq_zero hl
        rw [e0, List.nil_append] at hr
        refine sg_show_135 _ _ _ _ ⟨fun _ => ?_, fun cc => absurd (t_lt.mpr (by rw [k0]; omega)) cc⟩
        rw [ew]
        refine sc_startRun gc (CP_mi mu rfl rfl cp) (MK_mi mu rfl rfl (MK_mi hy.1 rfl rfl hKz)) w01 (by omega) (fun u' hh sf => ?_)
        obtain ⟨mm, f94, -, f67, f68⟩ := sf
        refine loop N4 (pth T S).length u' 0 0 rfl (Nat.zero_le _) (by omega) hh (by rw [f94]; rfl) (fun j v hj => ?_) (fun j v hj => absurd hj (Nat.not_lt_zero _)) f67 (mi_tr mu mm rfl rfl)
        rw [mm.2 138 (by decide) (by decide)]
        rw [hr] at hj
        have := hu j v hj
        rw [Nat.zero_add] at this
        exact this
      | succ n ih =>
        intro u c i U pU r ei ec hU hl hr mu hu
        have hlen : (pth T S).length = (n + 1) + r.length := by rw [hr, List.length_append, hl]
        have U0 : 0 < U := by
          apply Classical.byContradiction
          intro c9
          rw [show U = 0 by omega, pth_0] at hl
          cases hl
        have UL := gt_lt hU
        obtain ⟨a2, a3, a4⟩ := (ty.2.2.2 U pU hU).2 U0
        obtain ⟨hlt, p', ch, g1, g2, g3⟩ := (hTW U pU hU).2 U0
        have ps := pth_s hTW U0 hU
        push_cast at ei
        refine sg_show_135 _ _ _ _ ⟨fun cc => ?_, fun cc => ?_⟩
        · rw [t_lt, k0] at cc; exfalso; omega
        obtain ⟨cv, ce⟩ := ix c U ec UL
        have ci : i.toNatClampNeg = n := by rw [t_cl, ei]; omega
        have lv : vp_in i 400 := by rw [vp_in_iff]; omega
        refine ⟨cv, lv, fun v ev => ⟨cv, ?_⟩⟩
        rw [ce, ci] at ev
        rw [ce]
        have mv := md_a u 138 n (u.1 131 (3000 * wn + U)) (by decide)
        rw [← ev] at mv
        have g130 : v.1 130 = y.1 130 := by rw [mv.2.1 130 (by decide) (by decide), mu.2 130 (by decide) (by decide)]
        have g131 : u.1 131 = y.1 131 := mu.2 131 (by decide) (by decide)
        rw [g131] at ev
        rw [g130]
        obtain ⟨j9, ej⟩ : ∃ j, j = i + (-1) := ⟨_, rfl⟩
        have ji : j9.toInt = (n : Int) - 1 := by rw [ej, t_add (by rw [km1]; omega) (by rw [km1]; omega), km1]; omega
        rw [← ej]
        clear ej
        have hl' : (pth T pU.2.1).length = n := by rw [ps, List.length_append, List.length_singleton] at hl; omega
        refine ih v _ j9 pU.2.1 p' (pU.2.2 :: r) ji a2 g1 hl' (by rw [hr, ps, List.append_assoc]; rfl) (mi_tr mu (mi_of mv) rfl rfl) (fun j v9 hj => ?_)
        cases j with
        | zero =>
          have hj : pU.2.2 = v9 := Option.some.inj hj
          rw [Nat.add_zero, ev, si_get, if_pos ⟨rfl, rfl⟩, ← hj]
          exact a3
        | succ j =>
          have hj : r[j]? = some v9 := hj
          have := hu j v9 hj
          rw [ev, si_ne 138 _ (by omega), show n + (j + 1) = n + 1 + j by omega]
          exact this
    have p106 : ∀ b : Int32, (b = 0 → (pth T S).length ≤ 400) → (¬ b = 0 → ¬ (pth T S).length ≤ 400) → MT G (D + 1) z_show 106 [(0, vr 0), (1, vi w), (3, vi s)] [vi b, vr 0] y (ri F) := by
      intro b hb hb2
      refine sg_show_106 _ _ _ (sc_refk b 2 hy (by decide) (fun b0 => ⟨fun _ => ⟨sv, ?_⟩, fun q => absurd rfl q⟩) (fun nb y' m => ⟨fun q => absurd q (by decide), fun _ => no wn w01 ew f0 f1 (fun hg => hb2 nb ?_) y' m⟩))
      · rw [← eN]
        have N4 := hb b0
        obtain ⟨j, ej⟩ : ∃ j, j = N - 1 := ⟨_, rfl⟩
        have ji : j.toInt = ((pth T S).length : Int) - 1 := by rw [ej, t_sub (by rw [k1]; omega) (by rw [k1]; omega), k1, dN]
        rw [← ej]
        exact back N4 (pth T S).length y s j S p9 [] ji es hp9 rfl (List.append_nil _).symm ⟨fun _ _ => rfl, fun _ _ _ => rfl⟩ (fun j v hj => nomatch hj)
      · obtain ⟨wn', s', a1, a2, -, -, -, a6, a7⟩ := hg
        have e1 := wn_eq a1 w01 a2 ew
        rw [e1, ← eT] at a6 a7
        rw [fsF_u hfs a6]; exact a7
    exact ⟨sv, fun c => p106 0 (fun _ => by rw [t_le, k4] at c; omega) (fun z => absurd rfl z), fun c => p106 1 (fun q => absurd q (by decide)) (fun _ z9 => c (t_le.mpr (by rw [k4]; omega)))⟩
  have p63 : ∀ wn : Nat, (wn = 0 ∨ wn = 1) → w = Int32.ofNat wn → vp_in w 2 → 0 ≤ f.toInt → f.toInt < 11 → ∀ s : Int32, (s = -1 → ¬ shG C Tw z w f) → (¬ s = -1 → ¬ y.1 119 wn = 0 ∧ ∃ S : Nat, s.toInt = (S : Nat) ∧ fsF C wn (Tw wn) f.toInt.toNat S) → MT G (D + 1) z_show 63 [(0, vr 0), (1, vi w)] [vi s] y (ri F) := fun wn w01 ew wv f0 f1 s hs hs2 => sg_show_63 _ _ ⟨fun ne => p75 wn w01 ew wv f0 f1 s 0 (fun _ => hs2 ne) (fun z => absurd rfl z), fun e9 => p75 wn w01 ew wv f0 f1 s 1 (fun q => absurd q (by decide)) (fun _ => hs e9)⟩
  have p30 : ∀ b : Int32, (b = 0 → (vp_in w 2 ∧ (w = 0 ∨ w = 1)) ∧ 0 ≤ f.toInt ∧ f.toInt < 11) → (¬ b = 0 → ¬ ((w = 0 ∨ w = 1) ∧ 0 ≤ f.toInt ∧ f.toInt < 11)) → MT G (D + 1) z_show 30 [(0, vr 0), (1, vi w), (2, vi f)] [vi b, vr 0] y (ri F) := by
    intro b hb hb2
    refine sg_show_30 _ _ _ (sc_refk b 1 hy (by decide) (fun b0 => ⟨fun _ => ?_, fun q => absurd rfl q⟩) (fun nb y' m => ⟨fun q => absurd q (by decide), fun _ => ri_i (h01 (hb2 nb) y' m)⟩))
    obtain ⟨⟨wv, hw⟩, f0, f1⟩ := hb b0
    obtain ⟨wn, w01, ew, ewn⟩ := w_nat hw
    obtain ⟨fv, fe⟩ := t11 wv f0 f1
    rw [ewn]
    refine ⟨wv, fun t0 => p63 wn w01 ew wv f0 f1 _ (fun _ hg => ?_) (fun z => absurd rfl z), fun tr => ⟨fv, p63 wn w01 ew wv f0 f1 _ (fun e1 hg => ?_) (fun ne => ⟨tr, ?_⟩)⟩⟩
    · obtain ⟨wn', s', a1, a2, -, -, a5, -⟩ := hg
      rw [wn_eq a1 w01 a2 ew, ← g119] at a5
      exact a5 t0
    · rw [fe, ewn] at e1
      obtain ⟨wn', s', a1, a2, -, -, -, ⟨p9, c1, c2, -⟩, -⟩ := hg
      have e2 := wn_eq a1 w01 a2 ew
      rw [e2] at c1 c2
      have ty : TYo C wn y (Tw wn) := TYo_mi hy.1 rfl (hT wn w01 (by rw [← g119]; exact tr)).1
      have cf := t_cl f
      rcases ty.2.2.1 f.toInt.toNat (by omega) with ⟨-, g2⟩ | ⟨s9, p8, -, g2, -⟩
      · exact g2 s' p9 (gt_lt c1) c1 c2
      · have g2 : (y.1 126 (11 * wn + f.toNatClampNeg)).toInt = (s9 : Nat) := g2
        rw [e1, km1] at g2; omega
    · rw [fe, ewn] at ne ⊢
      have ty : TYo C wn y (Tw wn) := TYo_mi hy.1 rfl (hT wn w01 (by rw [← g119]; exact tr)).1
      rcases ty.2.2.1 f.toInt.toNat (by omega) with ⟨g1, -⟩ | ⟨s9, p8, g1, g2, g3, g4, g5⟩
      · exact absurd g1 ne
      · exact ⟨s9, g2, p8, g3, g4, g5⟩
  refine sp_in _ _ _ ⟨fun c1 => p30 1 (fun q => absurd q (by decide)) (fun _ hg => ?_), fun c1 => sp_in _ _ _ ⟨fun c2 => p30 0 (fun _ => ⟨w_in (bi_ne.mp c1), f_in (bi_ne.mp c2)⟩) (fun z => absurd rfl z), fun c2 => p30 1 (fun q => absurd q (by decide)) (fun _ hg => ?_)⟩⟩
  · refine bi_eq.mp c1 ?_
    rcases hg.1 with e9 | e9 <;> rw [e9]
    · exact ⟨by decide, by decide⟩
    · exact ⟨by decide, by decide⟩
  · refine bi_eq.mp c2 ⟨t_le.mpr (by rw [k0]; exact hg.2.1), t_le.mpr ?_⟩
    have k10 : (10 : Int32).toInt = 10 := rfl
    have := hg.2.2
    rw [k10]; omega
end TSW
end
section
/-! the model: attempt() -/
/-- what stays of all states' -/
def TYx (C : gCo) (wn : Nat) (z : gd) (T : gTy) : Prop := (z.1 121 wn = if T.2 = true then 1 else 0) ∧ MLc z wn (loS C wn (z.1 0 24).toInt.toNat T T.1.length)
def TYc (C : gCo) (wn : Nat) (z : gd) (T : gTy) : Prop := TYo C wn z T ∧ TYx C wn z T
theorem TYx_f {C : gCo} {wn : Nat} {z y : gd} {T : gTy} (e0 : y.1 0 24 = z.1 0 24) (e : ∀ c, c = 121 ∨ c = 122 ∨ c = 123 ∨ c = 124 ∨ c = 125 ∨ c = 127 ∨ c = 128 ∨ c = 129 → y.1 c = z.1 c) (h : TYx C wn z T) : TYx C wn y T := by
  unfold TYx MLc OUs at h ⊢
  rw [e0, e 121 (by omega), e 122 (by omega), e 123 (by omega), e 124 (by omega), e 125 (by omega), e 127 (by omega), e 128 (by omega), e 129 (by omega)]
  exact h
theorem TYx_mi {C : gCo} {wn : Nat} {z y : gd} {T : gTy} {L A : List Nat} (m : mi L A z y) (hL : [24].all (fun k => !L.elem k) = true) (hA : [121, 122, 123, 124, 125, 127, 128, 129].all (fun k => !A.elem k) = true) (h : TYx C wn z T) : TYx C wn y T := by
  have g := fun k (h0 : k ≠ 0) hk => m.2 k h0 (all_no hA k hk)
  refine TYx_f (m.1 24 (all_no hL 24 (by decide))) (fun c hc => ?_) h
  rcases hc with e | e | e | e | e | e | e | e <;> rw [e] <;> exact g _ (by decide) (by decide)
theorem TYc_mi {C : gCo} {wn : Nat} {z y : gd} {T : gTy} {L A : List Nat} (m : mi L A z y) (hL : [24].all (fun k => !L.elem k) = true) (hA : [120, 126, 130, 131, 132, 121, 122, 123, 124, 125, 127, 128, 129].all (fun k => !A.elem k) = true) (h : TYc C wn z T) : TYc C wn y T := ⟨TYo_mi m (all_sub hA rfl) h.1, TYx_mi m hL (all_sub hA rfl) h.2⟩
/-- one way's trying leaves the other's -/
theorem TYx_ow {C : gCo} {wn W : Nat} {z y : gd} {T : gTy} (hw : wn < 2) (ne : ¬ wn = W) (e0 : y.1 0 24 = z.1 0 24) (o : ow W z y) (l : LW3 z y W) (h : TYx C wn z T) : TYx C wn y T := by
  obtain ⟨h1, h2, h3, h4, h5, h6, h7⟩ := h
  obtain ⟨l1, l2, l3, l4, l5, l6⟩ := l.1 wn hw ne
  have o3 := (o wn hw ne).2.1
  refine ⟨by rw [l.2 wn hw ne]; exact h1, ?_⟩
  unfold MLc
  rw [e0, l1, l2, l3]
  refine ⟨h2, h3, h4, fun c hc => by rw [l4 c hc]; exact h5 c hc, fun a ha b hb => ?_, by rw [o3]; exact h7.1, h7.2.1, fun i r hr => ?_⟩
  rotate_left
  · obtain ⟨g1, g2, g3⟩ := h7.2.2 i r hr
    have hi := gt_lt hr
    have h3 := h7.2.1
    have e : ∀ c, c < 24 → y.1 129 (72000 * wn + 24 * i + c) = z.1 129 (72000 * wn + 24 * i + c) := fun c hc => by
      have := l6 (24 * i + c) (by omega)
      rw [show 72000 * wn + (24 * i + c) = 72000 * wn + 24 * i + c by omega] at this
      exact this
    exact ⟨g1, fun c v hv => by rw [e c (by have := gt_lt hv; omega)]; exact g2 c v hv, fun c c1 c2 => by rw [e c c2]; exact g3 c c1 c2⟩
  rw [show 36 * wn + 6 * a + b = 36 * wn + (6 * a + b) by omega, l5 (6 * a + b) (by omega), show 36 * wn + (6 * a + b) = 36 * wn + 6 * a + b by omega]
  exact h6 a ha b hb
section TAT
variable {G : mG} {d D : Nat} {x z a : gd} {F : Int32 → gd → Prop} {Fv : gd → Prop} {C : gCo} {nl wr : Nat}
theorem sc_attempt (q : MI z) (gc : GC C) (hK : ¬ z.1 0 66 = 0 → MK z C ∧ NCq C ∧ LkN C nl ∧ nl ≤ 6 ∧ C.2.2.1.length ≤ 24 ∧ (z.1 0 26).toInt = (C.2.2.2.1.length : Nat) ∧ (z.1 0 27).toInt = (C.2.2.2.2.length : Nat) ∧ (z.1 0 24).toInt = (nl : Nat)) (hH : ¬ z.1 0 67 = 0 → HistC C wr z) (w l : Int32) (hD : 8 ≤ D) (h01 : z.1 0 66 = 0 → ∀ z', rfK 1 z z' → F 0 z') (h02 : ¬ z.1 0 66 = 0 → ¬ ((w = 0 ∨ w = 1) ∧ 1 ≤ l.toInt ∧ l.toInt ≤ 3000) → ∀ z', rfK 2 z z' → F 0 z') (h1 : ∀ (wn lim : Nat) z', (wn = 0 ∨ wn = 1) → w = Int32.ofNat wn → l.toInt = (lim : Nat) → 1 ≤ lim → lim ≤ 3000 → ¬ z.1 0 66 = 0 → PM z z' → z'.1 0 0 = 0 → (z'.1 0 67 = z.1 0 67 ∧ z'.1 0 94 = z.1 0 94 ∧ z'.1 96 = z.1 96 ∧ (¬ z.1 0 67 = 0 → HistC C wr z')) → TYc C wn z' (tryM C wn lim) → ¬ z'.1 119 wn = 0 → (∀ w', ¬ w' = wn → z'.1 119 w' = z.1 119 w') → ow wn z z' → LW3 z z' wn → F (z'.1 120 w.toNatClampNeg) z') : MT G D z_attempt 0 [(0, vr 0), (1, vi w), (2, vi l)] [] z (ri F) := by
  obtain ⟨D, rfl⟩ : ∃ D', D = D' + 1 := ⟨D - 1, by omega⟩
  have k0 : (0 : Int32).toInt = 0 := rfl
  have k1 : (1 : Int32).toInt = 1 := rfl
  have k3 : (3000 : Int32).toInt = 3000 := rfl
  have z0' : (0 : Int32).toNatClampNeg = 0 := rfl
  refine sg_attempt_0 _ _ (fun y e => ?_)
  have hy := z0_s e
  have b1n : ¬ vp_nar .boolean 1 = 0 := by decide
  have y66 : y.1 0 66 = z.1 0 66 := hy.1.1 66 (by decide)
  have y67 : y.1 0 67 = z.1 0 67 := hy.1.1 67 (by decide)
  have hHy : ¬ y.1 0 67 = 0 → HistC C wr y := fun h9 => HistC_0 hy.1 (hH (by rw [← y67]; exact h9))
  have qy := (MI_0 hy.1 q).1
  have y2 : y.1 0 2 = z.1 0 2 := hy.1.1 2 (by decide)
  have p51 : ¬ y.1 0 66 = 0 → ∀ b : Int32, (b = 0 → (vp_in w 2 ∧ (w = 0 ∨ w = 1)) ∧ 1 ≤ l.toInt ∧ l.toInt ≤ 3000) → (¬ b = 0 → ¬ ((w = 0 ∨ w = 1) ∧ 1 ≤ l.toInt ∧ l.toInt ≤ 3000)) → MT G (D + 1) z_attempt 51 [(0, vr 0), (1, vi w), (2, vi l)] [vi b, vr 0] y (ri F) := by
    intro hc b hb hb2
    refine sg_attempt_51 _ _ _ (sc_refk b 2 hy (by decide) (fun b0 => ⟨fun _ => ?_, fun q => absurd rfl q⟩) (fun nb y' m => ⟨fun q => absurd q (by decide), fun _ => ri_i (h02 (by rw [← y66]; exact hc) (hb2 nb) y' m)⟩))
    obtain ⟨⟨wv, w01⟩, l1, l3⟩ := hb b0
    obtain ⟨wn, w01n, ew, ewn⟩ := w_nat w01
    obtain ⟨lim, elm⟩ : ∃ lim : Nat, l.toInt = lim := ⟨l.toInt.toNat, by omega⟩
    have hcz : ¬ z.1 0 66 = 0 := by rw [← y66]; exact hc
    obtain ⟨hKz, hq2, hLk, n6, l24, l26, l27, en⟩ := hK hcz
    have h1 := fun z' => h1 wn lim z' w01n ew elm (by omega) (by omega) hcz
    obtain ⟨W, eW⟩ : ∃ W, W = w.toNatClampNeg := ⟨_, rfl⟩
    have W2 : W < 2 := by rw [eW]; exact vp_lt wv
    have eWn : W = wn := by rw [eW]; exact ewn
    have cp := qy.2.1 hc
    -- the trying itself; u: behind the state kept
    have p81 : ∀ u : gd, mi [136] [136] y u → (¬ y.1 0 67 = 0 → ∀ i : Nat, i < 222 → u.1 136 i = pv y i) → MT G (D + 1) z_attempt 81 [(0, vr 0), (1, vi w), (2, vi l), (3, vi (y.1 0 68))] [] u (ri F) := by
      intro u mu ru
      refine sg_attempt_81 _ _ _ (fun u1 e1 => ?_)
      have m1 := md_f u 68 w
      rw [← e1] at m1
      have h168 : u1.1 0 68 = w := by rw [e1, si_get, if_pos ⟨rfl, rfl⟩]
      have myu1 : mi [68, 136] [136] y u1 := mi_tr mu (mi_of m1) rfl rfl
      refine sp_tryAll3 gc hq2 hLk n6 l24 w01n w l ew wv (CP_mi myu1 rfl rfl cp) (MK_mi myu1 rfl rfl (MK_mi hy.1 rfl rfl hKz)) (by rw [myu1.1 26 (by decide), hy.1.1 26 (by decide)]; exact l26) (by rw [myu1.1 27 (by decide), hy.1.1 27 (by decide)]; exact l27) (by rw [myu1.1 24 (by decide), hy.1.1 24 (by decide)]; exact en) h168 elm l1 l3 (by omega) (fun A v hM ti tj te => ⟨wv, fun v4 e4 v5 e5 => ?_⟩)
      rw [← eW] at ti tj e4 te
      have te : TJe u1 C nl wn wn (tryM C wn lim) v := by rw [eWn] at te; exact te
      obtain ⟨M, eM⟩ : ∃ M, M = (tryM C wn lim).1.length := ⟨_, rfl⟩
      have tyc0 : TYo C wn v (tryM C wn lim) := by rw [eWn] at ti tj; exact TYo_of hM ti tj
      rw [← eM] at hM ti
      have m4 := md_a v 119 W (vp_nar .boolean 1) (by decide)
      rw [← e4] at m4
      have m5 := md_f v4 68 (y.1 0 68)
      rw [← e5] at m5
      have h5 : v5.1 0 68 = y.1 0 68 := by rw [e5, si_get, if_pos ⟨rfl, rfl⟩]
      have mv5 : mi [68] [119] v v5 := mi_tr (mi_of m4) (mi_of m5) rfl rfl
      have my5 : mi (68 :: tL) (119 :: 136 :: tA') y v5 := mi_tr (mi_tr (L3 := 68 :: tL) (A3 := 136 :: tA') myu1 ti.1 rfl rfl) mv5 rfl rfl
      have pr5 : prE y v5 := prE_mi (prE_rf y) my5 rfl rfl
      have tyW : TY v5 W := TY_mi mv5 rfl rfl (TY_TI hM ti)
      have tyc5 : TYo C wn v5 (tryM C wn lim) := TYo_mi mv5 rfl tyc0
      have v24 : v.1 0 24 = z.1 0 24 := by rw [ti.1.1 24 (by decide), myu1.1 24 (by decide), hy.1.1 24 (by decide)]
      have tyx0 : TYx C wn v (tryM C wn lim) := by
        refine ⟨by rw [eWn] at tj; exact tj.2.2.1, ?_⟩
        rw [v24, en]
        exact te.1
      have tyx5 : TYx C wn v5 (tryM C wn lim) := TYx_mi mv5 rfl rfl tyx0
      have la : LW3 z y wn := LW3_e (fun c hc => by rcases hc with e | e | e | e | e | e | e <;> rw [e] <;> exact hy.1.2 _ (by decide) (by simp))
      have lb : LW3 y u1 wn := LW3_e (fun c hc => by rcases hc with e | e | e | e | e | e | e <;> rw [e] <;> exact myu1.2 _ (by decide) (by decide))
      have lc : LW3 v v5 wn := LW3_e (fun c hc => by rcases hc with e | e | e | e | e | e | e <;> rw [e] <;> exact mv5.2 _ (by decide) (by decide))
      have lw5 : LW3 z v5 wn := LW3_tr (LW3_tr (LW3_tr la lb) te.2) lc
      have e119w : ¬ v5.1 119 wn = 0 := by rw [m5.2.1 119 (by decide) (by decide), e4, ← eWn, si_get, if_pos ⟨rfl, rfl⟩]; exact b1n
      have g119 : y.1 119 = z.1 119 := hy.1.2 119 (by decide) (by simp)
      have v0 : v5.1 0 0 = 0 := by rw [my5.1 0 (by decide)]; exact hy.2
      have owz : ow wn z y := ow_mi hy.1 rfl
      have ow5 : ow W y v5 := ow_tr (ow_tr (ow_mi myu1 rfl) ti.2.1) (ow_mi mv5 rfl)
      have e119 : ∀ w' : Nat, ¬ w' = W → v5.1 119 w' = y.1 119 w' := fun w' hw' => by
        rw [m5.2.1 119 (by decide) (by decide), e4, si_ne 119 w' hw', ti.1.2 119 (by decide) (by decide), myu1.2 119 (by decide) (by decide)]
      have tys : ∀ w' : Nat, w' < 2 → ¬ v5.1 119 w' = 0 → ¬ v5.1 0 66 = 0 ∧ TY v5 w' := by
        intro w' hw' hn
        refine ⟨by rw [my5.1 66 (by decide)]; exact hc, ?_⟩
        by_cases q9 : w' = W
        · rw [q9]; exact tyW
        · rw [e119 w' q9] at hn
          exact TY_ow hw' q9 ow5 pr5 (qy.2.2.2 w' hw' hn).2
      have g5 : G0 v5 := G0_mi my5 rfl rfl qy.1
      have cp5 : CP v5 := CP_mi my5 rfl rfl cp
      have o119 : ∀ w', ¬ w' = wn → v5.1 119 w' = z.1 119 w' := fun w' hw' => by rw [← g119]; exact e119 w' (by rw [eWn]; exact hw')
      have owy : ow wn z v5 := ow_tr owz (by rw [← eWn]; exact ow5)
      refine ⟨fun n67 => ⟨wv, ri_i (h1 v5 (PM_0 hy.1 ⟨⟨g5, fun _ => cp5, fun q9 => absurd n67 q9, tys⟩, my5.1 2 (by decide), fun k hk => my5.1 k (all_no (M := mfL) rfl k hk), fun c hc => my5.2 c (mfA_0 c hc) (all_no (M := mfA) rfl c hc)⟩) v0 ⟨by rw [my5.1 67 (by decide)]; exact y67, by rw [my5.1 94 (by decide)]; exact hy.1.1 94 (by decide), by rw [my5.2 96 (by decide) (by decide)]; exact hy.1.2 96 (by decide) (by simp), fun h9 => absurd (show z.1 0 67 = 0 by rw [← y67, ← my5.1 67 (by decide)]; exact n67) h9⟩ ⟨tyc5, tyx5⟩ e119w o119 owy lw5)⟩, fun h67 => ?_⟩
      rw [my5.1 67 (by decide)] at h67
      obtain ⟨s, n, q1, q2, q3, q4, q5, q6, q7⟩ := hHy h67
      have av := (q2 n (Nat.le_refl _)).1
      have el : eqS (Sl (s n)) (s n) y := eqS_w (Sl_Sm _) q4
      have r136 : ∀ i : Nat, i < 222 → v5.1 136 (0 + i) = pv (s n) i := fun i hi => by
        rw [Nat.zero_add, m5.2.1 136 (by decide) (by decide), m4.2.1 136 (by decide) (by decide), ti.1.2 136 (by decide) (by decide), m1.2.1 136 (by decide) (by decide), ru h67 i hi]
        exact pv_eq el hi
      refine sp_unpack (Or.inr rfl) mk_136 ml_136 0 (by decide) (by decide) (by decide) (fun v8 m8 r8 => ?_)
      rw [z0'] at r8
      have e8 : eqS (Sl (s n)) (s n) v8 := by
        refine un_eq ?_ ?_ (fun t ht => (av.1.2 t ht).2.2.2.1) (fun i hi => by rw [r8 i hi, r136 i hi])
        · exact prE_tr (prE_eqS el) (prE_mi pr5 (mi_of m8) rfl rfl)
        · rw [m8.1 68 (by decide), h5, cF el (by decide)]
      refine MT_up (by omega) (MTv_mono (av.2.2.2.2.2 G v8 e8) (fun v9 g9 => ⟨wv, ri_i ?_⟩))
      have m59 : mi [82, 84, 88, 89, 90, 91, 92, 93] [70, 71, 72, 73, 74, 75, 76, 77, 78, 79, 80, 81, 82, 84, 86, 87, 88] v5 v9 := mi_tr (mi_of m8) (mi_of g9.2) rfl rfl
      have my9 : mi (68 :: tL) (119 :: 136 :: tA') y v9 := mi_tr my5 m59 rfl rfl
      have h9 : v9.1 0 68 = y.1 0 68 := by rw [m59.1 68 (by decide)]; exact h5
      have c9 : c96 v9 = c96 y := by unfold c96; rw [my9.2 96 (by decide) (by decide)]
      have histc : HistC C wr v9 := ⟨s, n, by rw [my9.1 94 (by decide)]; exact q1, by rw [c9]; exact q2, by rw [c9, my9.2 96 (by decide) (by decide)]; exact q3, g9.1, by rw [h9]; exact St_pr (prE_mi (prE_rf y) my9 rfl rfl) q5, by rw [h9]; exact q6, HA_mi my9 rfl rfl q7⟩
      have hist : Hist v9 := HistC_H histc
      refine h1 v9 (PM_0 hy.1 ⟨⟨G0_mi my9 rfl rfl qy.1, fun _ => CP_mi my9 rfl rfl cp, fun _ => ⟨by rw [my9.1 66 (by decide)]; exact hc, hist⟩, fun w' hw' hn => ?_⟩, my9.1 2 (by decide), fun k hk => my9.1 k (all_no (M := mfL) rfl k hk), fun c hc => my9.2 c (mfA_0 c hc) (all_no (M := mfA) rfl c hc)⟩) (by rw [m59.1 0 (by decide)]; exact v0) ⟨by rw [my9.1 67 (by decide)]; exact y67, by rw [my9.1 94 (by decide)]; exact hy.1.1 94 (by decide), by rw [my9.2 96 (by decide) (by decide)]; exact hy.1.2 96 (by decide) (by simp), fun _ => histc⟩ ⟨TYo_mi m59 rfl tyc5, TYx_mi m59 rfl rfl tyx5⟩ (by rw [m59.2 119 (by decide) (by decide)]; exact e119w) (fun w' hw' => by rw [m59.2 119 (by decide) (by decide)]; exact o119 w' hw') (ow_tr owy (ow_mi m59 rfl)) (LW3_tr lw5 (LW3_e (fun c hc => by rcases hc with e | e | e | e | e | e | e <;> rw [e] <;> exact m59.2 _ (by decide) (by decide))))
      rw [m59.2 119 (by decide) (by decide)] at hn
      exact ⟨by rw [my9.1 66 (by decide)]; exact hc, TY_mi m59 rfl rfl (tys w' hw' hn).2⟩
    refine ⟨fun n67 => p81 y ⟨fun _ _ => rfl, fun _ _ _ => rfl⟩ (fun q => absurd n67 q), fun h67 => ?_⟩
    obtain ⟨s, n, q1, q2, q3, q4, q5, q6, q7⟩ := hHy h67
    refine sp_pack (Or.inr rfl) mk_136 ml_136 0 (by decide) (by decide) (by decide) (fun t ht => by rw [cA q4 (c := 80) (n := 6) (by decide) ht]; exact ((q2 n (Nat.le_refl _)).1.1.2 t ht).2.2.2.1) (fun u mu _ ru _ => p81 u (mi_of mu) (fun _ i hi => ?_))
    have := ru i hi
    rw [z0', Nat.zero_add] at this
    exact this
  have p18 : ∀ b : Int32, (b = 0 → ¬ y.1 0 66 = 0) → (¬ b = 0 → y.1 0 66 = 0) → MT G (D + 1) z_attempt 18 [(0, vr 0), (1, vi w), (2, vi l)] [vi b, vr 0] y (ri F) := by
    intro b hb hb9
    refine sg_attempt_18 _ _ _ (sc_refk b 1 hy (by decide) (fun b0 => ⟨fun q => absurd rfl q, fun _ => sp_in _ _ _ ⟨fun c1 => p51 (hb b0) 1 (fun q => absurd q (by decide)) (fun _ z9 => ?_), fun c1 => sp_in _ _ _ ⟨fun c2 => p51 (hb b0) 0 (fun _ => ⟨w_in (bi_ne.mp c1), ?_⟩) (fun z9 => absurd rfl z9), fun c2 => p51 (hb b0) 1 (fun q => absurd q (by decide)) (fun _ z9 => ?_)⟩⟩⟩) (fun nb y' m => ⟨fun _ => ri_i (h01 (by rw [← y66]; exact hb9 nb) y' m), fun q => absurd q (by decide)⟩))
    · refine bi_eq.mp c1 ?_
      rcases z9.1 with e9 | e9 <;> rw [e9]
      · exact ⟨by decide, by decide⟩
      · exact ⟨by decide, by decide⟩
    rotate_left
    · exact bi_eq.mp c2 ⟨t_le.mpr (by rw [k1]; exact z9.2.1), t_le.mpr (by rw [k3]; exact z9.2.2)⟩
    obtain ⟨a1, a2⟩ := bi_ne.mp c2
    rw [t_le, k1] at a1
    rw [t_le, k3] at a2
    exact ⟨a1, a2⟩
  exact ⟨fun c => p18 0 (fun _ => c) (fun z9 => absurd rfl z9), fun c => p18 1 (fun q => absurd q (by decide)) (fun _ => c)⟩
end TAT
end
