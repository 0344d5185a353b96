/-! the class: blocks are closed; statements -/
abbrev E1 : Nat → Prop := fun i => i = 1000000
/-- outside a thread -/
def OT (x0 x : gd) : Prop := SU x ∧ FR x ∧ RI0 x (x.1 60 13).toInt ∧ SCs x E0 ∧ x.1 100 5 = 0 ∧ fm sR x0 x ∧ 2 * ssm x ≤ nx x
/-- within a thread, between statements -/
def IT (x0 x : gd) : Prop := (BB x0 x (x.1 60 13).toInt E0 ∨ (BB x0 x (x.1 60 13).toInt E1 ∧ x.1 23 (x.1 100 4).toNatClampNeg = 54)) ∧ 1 ≤ om x ∧ om x ≤ 17 ∧ 2 * ssm x + om x ≤ nx x
section KCL
variable {G : kG} {q : kP} {d : Nat} {x x0 y z : gd} {F : Int32 → gd → Prop} {Fv : gd → Prop} {X : String → gd → Prop} {P : Option gv → gd → Prop} {M : Int} {E : Nat → Prop}
theorem kb_endIf (hq : kV q) (hB : BB x0 x M E) (s : Int32) {n : Nat} (es : s.toInt = n) (hn : (n : Int) < ssm x) (hsm : ssm x < 400) (hop : sop x n = 17 ∨ sop x n = 20) (hE : ∀ i : Nat, (i : Int) < ssm x → E i → i = n) (h : ∀ y, BB x0 y M E0 → nx y = nx x → ssm y = ssm x → om y ≤ om x → (1 ≤ om x → 1 ≤ om y) → y.1 60 13 = x.1 60 13 → Fv y) : KT G q d zk_X7_endIf 0 [(0, vr 100), (1, vi s)] [] x (rv Fv) := by
  have eN : s.toNatClampNeg = n := by rw [t_cl, es]; rfl
  have k0 : (0 : Int32).toInt = 0 := rfl
  have k20 : (20 : Int32).toInt = 20 := rfl
  refine kg_X7_endIf_0 hq _ ⟨by rw [vp_in_iff]; omega, fun x2 e2 => ?_⟩
  rw [eN] at e2
  have hB2 : BB x0 x2 M E1 := BB_E (BB_tg hB (by omega) hn hop e2 ⟨hB.2.2.1.2.2.2.1.1, Int.le_refl _, fun _ => Or.inl hn⟩) (fun _ => rfl) (fun i hi he _ => by
    have : ssm x2 = ssm x := by unfold ssm; rw [e2, si_cell (by decide)]
    exact absurd (hE i (by omega) he.1) he.2)
  have f2 : fm (fun c k => c = 84) x x2 := by rw [e2]; exact fm_si (fm_rf _ _) rfl
  have loop : ∀ (m : Nat) (k : Int32) (y : gd), BB x0 y M E1 → fm (fun c k => c = 84 ∨ (c = 100 ∧ k = 13)) x y → om y ≤ om x → (1 ≤ om x → 1 ≤ om y) → 0 ≤ k.toInt → k.toInt + om y ≤ 18 → om y ≤ m → KT G q d zk_X7_endIf 18 [(0, vr 100), (2, vi k)] [] y (rv Fv) := by
    intro m
    induction m with
    | zero =>
      intro k y hBy fy o1 o2 hk0 hk hm
      have o0 := (BB_om hBy).1.1
      refine kg_X7_endIf_18 hq _ ⟨fun c => ?_, fun c => ⟨fun c2 => rv_i (h y ?_ ?_ ?_ o1 o2 (fy _ _ (by omega))), fun c2 => ?_⟩⟩
      · exfalso; rw [t_le, k20] at c; omega
      · refine ⟨hBy.1, hBy.2.1, hBy.2.2.1, fun i hi he => hBy.2.2.2.1 i hi (fun e => ?_), hBy.2.2.2.2.1, hBy.2.2.2.2.2.1, fun _ k hk2 => by omega, hBy.2.2.2.2.2.2.2⟩
        have : ssm y = ssm x := by unfold ssm; rw [fy 80 9 (by omega)]
        have e' : i = 1000000 := e
        omega
      · unfold nx; rw [fy 100 4 (by omega)]
      · unfold ssm; rw [fy 80 9 (by omega)]
      · exfalso; rw [t_le, k0] at c2; unfold om at *; omega
    | succ m ih =>
      intro k y hBy fy o1 o2 hk0 hk hm
      have o0 := (BB_om hBy).1.1
      have esm : ssm y = ssm x := by unfold ssm; rw [fy 80 9 (by omega)]
      have out : (TIk y) → Fv y := fun hT => by
        refine h y ⟨hBy.1, hBy.2.1, hBy.2.2.1, fun i hi he => hBy.2.2.2.1 i hi (fun e => ?_), hBy.2.2.2.2.1, hBy.2.2.2.2.2.1, fun _ => hT, hBy.2.2.2.2.2.2.2⟩ ?_ esm o1 o2 (fy _ _ (by omega))
        · have e' : i = 1000000 := e
          omega
        · unfold nx; rw [fy 100 4 (by omega)]
      refine kg_X7_endIf_18 hq _ ⟨fun c => ?_, fun c => ⟨fun c2 => rv_i (out (fun k hk2 => ?_)), fun c2 => ?_⟩⟩
      · exfalso; rw [t_le, k20] at c; omega
      · rw [t_le, k0] at c2; unfold om at *; omega
      rw [t_le, k0] at c2
      have o1' : 1 ≤ om y := by unfold om at *; omega
      have e13 : (y.1 100 13 - 1).toInt = om y - 1 := t_sub (by show _ ≤ _ - (1 : Int); unfold om at *; omega) (by show _ - (1 : Int) ≤ _; unfold om at *; omega)
      have n13 : (y.1 100 13 - 1).toNatClampNeg = (om y).toNat - 1 := by rw [t_cl, e13]; omega
      refine ⟨by rw [vp_in_iff, e13]; omega, fun c3 => rv_i (out (fun k hk2 => ?_)), fun c3 x5 e5 => ?_⟩
      · rw [n13] at c3
        have : k = (om y).toNat - 1 := by omega
        rw [this]; exact c3
      rw [n13] at c3
      obtain ⟨ky, oy, cy⟩ := BB_k hBy
      have hop1 := oy.2.1 ((om y).toNat - 1) (by omega)
      have hpos : 0 < (om y).toNat - 1 := by
        refine Nat.pos_of_ne_zero (fun e => ?_)
        have := (hop1.1 e).1
        rw [c3] at this
        exact absurd this (by decide)
      obtain ⟨-, t, t1, t2, -, -, t5⟩ := hop1.2.1 hpos
      have t20 := t5 (Or.inr c3)
      have f5 : fm (fun c k => c = 100 ∧ k = 13) y x5 := by rw [e5]; exact fm_si (fm_rf _ _) ⟨rfl, rfl⟩
      have q5 : om x5 = om y - 1 := by
        have : x5.1 100 13 = y.1 100 13 - 1 := by rw [e5]; (simp only [si_get, sfl_get, Nat.reduceEqDiff, eq_self, and_false, false_and, and_true, true_and, if_true, if_false, reduceIte, reduceCtorEq])
        unfold om at *; rw [this]; exact e13
      have hB5 := BB_pop hBy o1' (fm_w f5 (fun c k q => ⟨q.1, Or.inr q.2⟩)) q5 (by rw [f5 100 9 (by omega)]; exact ⟨ky.1.1, Int.le_refl _⟩) (fun j hj => by rw [f5 100 9 (by omega)]; exact (oy.2.1 j (by omega)).2.2.2)
      have m5 : (x5.1 100 13).toNatClampNeg = (om y).toNat - 1 := by
        rw [t_cl]; show (om x5).toNat = _; omega
      have s5 : x5.1 112 ((om y).toNat - 1) = y.1 112 ((om y).toNat - 1) := f5 _ _ (by omega)
      have tN : (y.1 112 ((om y).toNat - 1)).toNatClampNeg = t := by rw [t_cl, t1]; rfl
      have sm5 : ssm x5 = ssm y := by unfold ssm; rw [f5 80 9 (by omega)]
      refine ⟨by rw [vp_in_iff]; show 0 ≤ om x5 ∧ om x5 < _; omega, ?_⟩
      rw [m5, s5]
      refine ⟨by rw [vp_in_iff]; omega, fun x8 e8 => ?_⟩
      rw [tN] at e8
      have p5 : sop x5 t = 20 := by unfold sop at t20 ⊢; rw [f5 81 t (by omega)]; exact t20
      have hB8 : BB x0 x8 M E1 := BB_E (BB_tg hB5 (by omega) (n := t) (by omega) (Or.inr p5) e8 ⟨hB5.2.2.1.2.2.2.1.1, Int.le_refl _, fun _ => Or.inl (by show (t : Int) < ssm x5; omega)⟩) (fun _ => rfl) (fun i hi he hne => by
        rcases he with ⟨e | e | e, e2⟩
        · exact absurd e hne
        · exact absurd (by omega) e2
        · exact absurd e hne)
      have f8 : fm (fun c k => c = 84) x5 x8 := by rw [e8]; exact fm_si (fm_rf _ _) rfl
      have o8 : om x8 = om x5 := by unfold om; rw [f8 100 13 (by omega)]
      have ek : (k + 1).toInt = k.toInt + 1 := t_add (by show _ ≤ _ + (1 : Int); omega) (by show _ + (1 : Int) ≤ _; omega)
      exact ih (k + 1) x8 hB8 (fm_tr fy (fm_tr (fm_w f5 (fun c k q => Or.inr q)) (fm_w f8 (fun c k q => Or.inl q)))) (by omega) (fun _ => by omega) (by omega) (by omega) (by omega)
  have o2 : om x2 = om x := by unfold om; rw [f2 100 13 (by omega)]
  have o18 := (BB_om hB).1
  exact loop 18 _ x2 hB2 (fm_w f2 (fun c k q => Or.inl q)) (by omega) (by omega) (by decide) (by rw [k0]; omega) (by omega)
theorem kb_openElse (hq : kV q) (hx : RX x0 X) (hB : BB x0 x M E) (s : Int32) {n : Nat} (es : s.toInt = n) (hn : (n : Int) < ssm x) (h1 : 1 ≤ om x) (ho : om x ≤ 16) (ha : 2 * ssm x + om x ≤ nx x) (hop : sop x n = 17) (hE : ∀ i : Nat, (i : Int) < ssm x → E i → i = n) (hs : x.1 23 (x.1 100 4).toNatClampNeg = 48) (h : ∀ y, (BB x0 y M E0 ∨ (BB x0 y M E1 ∧ y.1 23 (y.1 100 4).toNatClampNeg = 54)) → nx x < nx y → ssm y = ssm x + 1 → om y = om x + 1 → 2 * ssm y + om y ≤ nx y + 2 → y.1 60 13 = x.1 60 13 → Fv y) : KE G q (d + 9) zk_X7_openElse 0 [(0, vr 100), (1, vi s)] [] x (rv Fv) X := by
  have eN : s.toNatClampNeg = n := by rw [t_cl, es]; rfl
  obtain ⟨a1, a2, a3, a4, a5⟩ := BB_400 hB (by omega)
  have vs : vp_in s 400 := by rw [vp_in_iff]; omega
  refine kg_X7_openElse_0 hq _ ⟨vs, kp_add hq _ _ _ a1 a2 (fun w hA vin => ⟨vs, fun z ez => ?_⟩)⟩
  obtain ⟨f1, f2, f3, f4, f5⟩ := hA
  rw [eN] at ez
  have k20 : (20 : Int32).toInt = 20 := rfl
  have hSA : SA w M (x.1 80 9).toNatClampNeg := by
    unfold SA sop stg
    rw [f3, f4, k20]
    exact ⟨by omega, ⟨a4, a5⟩, fun c => by omega, fun c => by omega⟩
  have hBw := BB_add hB (n := (x.1 80 9).toNatClampNeg) (by omega) f1 f2 hSA
  have pn : sop w n = 17 := by unfold sop at hop ⊢; rw [f1 81 n (by omega)]; exact hop
  have hBz := BB_tg hBw (by omega) (n := n) (by omega) (Or.inl pn) ez ⟨by show 0 ≤ ssm w; omega, Int.le_refl _, fun c => by omega⟩
  have fz : fm (fun c k => c = 84) w z := by rw [ez]; exact fm_si (fm_rf _ _) rfl
  have nz : nx z = nx x := by unfold nx; rw [fz 100 4 (by omega), f1 100 4 (by omega)]
  have sz : ssm z = ssm x + 1 := by
    have : ssm z = ssm w := by unfold ssm; rw [fz 80 9 (by omega)]
    omega
  have oz : om z = om x := by unfold om; rw [fz 100 13 (by omega), f1 100 13 (by omega)]
  have z4 : z.1 100 4 = x.1 100 4 := by rw [fz 100 4 (by omega), f1 100 4 (by omega)]
  have t84 : ¬ (x.1 80 9).toNatClampNeg = n := by omega
  have z84 : z.1 84 (x.1 80 9).toNatClampNeg = -1 := by rw [ez, si_get, if_neg (fun q => t84 q.2)]; exact f5
  have z81 : z.1 81 (x.1 80 9).toNatClampNeg = 20 := by rw [ez, si_cell (by decide)]; exact f3
  refine kb_pass hq hx hBz (by rw [z4, fz 23 _ (by omega), f1 23 _ (by omega), hs]; decide) (fun y hBy ny gy => kp_sort hq hBy.1.1 ?_)
  have ey := GS_om gy
  have sy := GS_sm gy
  have y81 : y.1 81 (x.1 80 9).toNatClampNeg = 20 := by rw [GS_at gy _ _ (by unfold sSum; omega)]; exact z81
  have y84 : y.1 84 (x.1 80 9).toNatClampNeg = -1 := by rw [GS_at gy _ _ (by unfold sSum; omega)]; exact z84
  have y13 : y.1 60 13 = x.1 60 13 := by rw [GS_at gy _ _ (by unfold sSum; omega), fz 60 13 (by omega), f1 60 13 (by omega)]
  have hEE : ∀ i : Nat, (i : Int) < ssm y → (E i ∨ i = (x.1 80 9).toNatClampNeg) ∧ i ≠ n → (i : Int) = ssm x ∧ stg y i = -1 := by
    rintro i hi ⟨e | e, e2⟩
    · by_cases hi3 : (i : Int) < ssm x
      · exact absurd (hE i hi3 e) e2
      · have : i = (x.1 80 9).toNatClampNeg := by omega
        rw [this]; exact ⟨a3, by unfold stg; rw [y84]; rfl⟩
    · rw [e]; exact ⟨a3, by unfold stg; rw [y84]; rfl⟩
  have nb : ∀ k : Int32, (k = 4 ∨ k = 5) → NB y k (x.1 80 9) := by
    intro k hk
    have hk' : (1 ≤ k.toInt ∧ k.toInt ≤ 5) ∧ ¬ k = 1 ∧ ¬ k = 3 ∧ ¬ k = 2 := by rcases hk with rfl | rfl <;> decide
    refine ⟨fun c => by omega, fun _ => ⟨hk'.1, (x.1 80 9).toNatClampNeg, a3.symm, by omega, fun c => ?_, fun c => absurd c hk'.2.2.2, fun _ => by unfold sop; rw [y81]; rfl⟩⟩
    rcases c with c | c
    · exact absurd c hk'.2.1
    · exact absurd c hk'.2.2.1
  refine ⟨fun _ => kb_openBlock hq hx hBy (by omega) (by omega) 4 _ (by decide) (Or.inr (by decide)) (nb 4 (Or.inl rfl)) (fun i hi he => Or.inr (hEE i hi he)) (fun u hBu nu su ou u13 => rv_i (h u (Or.inl hBu) (by omega) (by omega) (by omega) (by omega) (by rw [u13]; exact y13))), fun c => kb_enter hq hBy (by omega) (by omega) 5 _ (Or.inr (by decide)) (nb 5 (Or.inr rfl)) (fun i hi he _ => (hEE i hi he).2) (fun u hBu nu su ou fu u4 => rv_i (h u (Or.inr ⟨BB_E hBu (fun _ => rfl) (fun i hi he hne => ?_), ?_⟩) (by omega) (by omega) (by omega) (by omega) (by rw [fu 60 13 (by omega)]; exact y13)))⟩
  · rcases he with ⟨e, -⟩ | ⟨-, e, e2⟩
    · exact absurd e hne
    · exact absurd (hEE i (by omega) e).1 e2
  · rw [u4, fu 23 _ (by omega)]; exact c
theorem kb_endThread (hq : kV q) (hB : BB x0 x M E) (ho : om x = 0) (hM : M ≤ (x.1 60 13).toInt) (hE : ∀ i : Nat, (i : Int) < ssm x → ¬ E i) (ha : 2 * ssm x + 2 ≤ nx x) (h : ∀ y, OT x0 y → nx y = nx x → Fv y) : KT G q (d + 1) zk_X7_endThread 0 [(0, vr 100)] [] x (rv Fv) := by
  obtain ⟨a1, a2, a3, a4, a5⟩ := BB_400 hB (by omega)
  refine kg_X7_endThread_0 hq (kp_add hq _ _ _ a1 a2 (fun w hA vin z ez => rv_i ?_))
  obtain ⟨f1, f2, f3, f4, f5⟩ := hA
  obtain ⟨hS, hF, ⟨r1, r2, r3, ⟨r4, r6⟩, r7⟩, hC, r5, r0, hI⟩ := hB
  have f : fm (fun c k => (81 ≤ c ∧ c ≤ 89 ∧ k = (x.1 80 9).toNatClampNeg) ∨ (c = 80 ∧ k = 9) ∨ (c = 100 ∧ k = 5)) x z := by rw [ez]; exact fm_si (fm_w f1 (fun c k q => by omega)) (Or.inr (Or.inr ⟨rfl, rfl⟩))
  have z5 : z.1 100 5 = 0 := by rw [ez]; (simp only [si_get, sfl_get, Nat.reduceEqDiff, eq_self, and_false, false_and, and_true, true_and, if_true, if_false, reduceIte, reduceCtorEq])
  have es : ssm z = ssm x + 1 := by
    have : z.1 80 9 = w.1 80 9 := by rw [ez]; (simp only [si_get, sfl_get, Nat.reduceEqDiff, eq_self, and_false, false_and, and_true, true_and, if_true, if_false, reduceIte, reduceCtorEq])
    unfold ssm at *; rw [this]; exact f2
  have z81 : z.1 81 (x.1 80 9).toNatClampNeg = 21 := by rw [ez]; (simp only [si_get, sfl_get, Nat.reduceEqDiff, eq_self, and_false, false_and, and_true, true_and, if_true, if_false, reduceIte, reduceCtorEq]); exact f3
  have z83 : z.1 83 (x.1 80 9).toNatClampNeg = 0 := by rw [ez]; (simp only [si_get, sfl_get, Nat.reduceEqDiff, eq_self, and_false, false_and, and_true, true_and, if_true, if_false, reduceIte, reduceCtorEq]); exact f4
  have e4 : nx z = nx x := by unfold nx; rw [f 100 4 (by omega)]
  have la : La x z := ⟨fun c k q1 q2 => f c k (by omega), by omega, fun j _ => f 42 j (by omega)⟩
  have k21 : (21 : Int32).toInt = 21 := rfl
  have k0 : (0 : Int32).toInt = 0 := rfl
  have z13 : z.1 60 13 = x.1 60 13 := f _ _ (by omega)
  refine h z ⟨?_, ?_, ⟨fun c => absurd z5 c, NM_fm r2 (fun c k q1 q2 q3 q4 => f c k (by omega)) (f _ _ (by omega)) (f _ _ (by omega)), ?_, ⟨by omega, fun i hi => ?_⟩, ?_⟩, fun i hi _ => ?_, z5, fm_tr r0 (fm_w f (fun c k q => by unfold sR; omega)), by omega⟩ e4
  · obtain ⟨⟨hT, b1, b2, b3⟩, ⟨u1, u2⟩, hp, hP⟩ := hS
    unfold SU SV US RB mt
    rw [f 20 7 (by omega), f 60 3 (by omega), e4]
    refine ⟨⟨kT_fm hT la.1, b1, b2, b3⟩, ⟨fun j h1 h2 => ?_, fun j h1 h2 => ?_⟩, hp, fun i hi => La_PQ la (f _ _ (by omega)) (f _ _ (by omega)) (hP i hi)⟩
    · rw [f 42 j (by omega)]; exact u1 j h1 h2
    · rw [f 42 j (by omega)] at h2; rw [f 42 _ (by omega)]; exact u2 j h1 h2
  · unfold FR at hF ⊢
    rw [f 100 4 (by omega), f 42 _ (by omega)]; exact hF
  · unfold CD at r3 ⊢
    rw [f 60 6 (by omega), f 60 9 (by omega), f 60 10 (by omega), f 60 14 (by omega), f 60 16 (by omega), z13, f 40 8 (by omega), f 40 10 (by omega)]
    exact ⟨r3.1, r3.2.1, r3.2.2.1, r3.2.2.2.1, r3.2.2.2.2.1, r3.2.2.2.2.2.1, fun c => absurd z5 c⟩
  · by_cases hi2 : i = (x.1 80 9).toNatClampNeg
    · rw [hi2]
      unfold SA sop stg
      rw [z81, z83, k21, k0]
      exact ⟨by omega, by omega, fun c => by omega, fun c => by omega⟩
    · exact SA_La la (f _ _ (by omega)) (f _ _ (by omega)) (f _ _ (by omega)) (f _ _ (by omega)) (by rw [z13]; exact hM) (r6 i (by omega))
  · unfold TS at r7 ⊢
    rw [f 60 10 (by omega)]
    refine ⟨fun t ht => ?_, fun _ => Or.inr ?_⟩
    · rw [f 72 t (by omega)]
      obtain ⟨p1, p2, -⟩ := r7.1 t ht
      exact ⟨p1, by omega, fun _ => by omega⟩
    · have : (ssm z).toNat - 1 = (x.1 80 9).toNatClampNeg := by omega
      rw [this]; exact z81
  · by_cases hi2 : i = (x.1 80 9).toNatClampNeg
    · rw [hi2]
      refine SC_no ?_ ?_ <;> (unfold sop; rw [z81]; decide)
    · have := hC i (by omega) (hE i (by omega))
      unfold SC at this ⊢
      have ep : sop z i = sop x i := by unfold sop; rw [f 81 i (by omega)]
      have et : stg z i = stg x i := by unfold stg; rw [f 84 i (by omega)]
      rw [ep, et]
      intro c
      rcases this c with ⟨p1, p2, j, p3, p4⟩ | ⟨p1, p2, p3, p4⟩
      · omega
      · refine Or.inr ⟨p1, by omega, fun _ => by omega, fun c20 => ?_⟩
        rcases p4 c20 with g1 | g1
        · exact Or.inl g1
        · by_cases hlt : (i : Int) < stg x i
          · exact Or.inl hlt
          · refine Or.inr ?_
            unfold sop at g1 ⊢
            rw [f 81 _ (by omega)]; exact g1
theorem kb_closeBlock (hq : kV q) (hx : RX x0 X) (hB : BB x0 x (x.1 60 13).toInt E0) (h1 : 1 ≤ om x) (ho : om x ≤ 17) (ha : 2 * ssm x + om x ≤ nx x) (h : ∀ y, (IT x0 y ∨ OT x0 y) → nx x < nx y → Fv y) : KE G q (d + 10) zk_X7_closeBlock 0 [(0, vr 100)] [] x (rv Fv) X := by
  refine kg_X7_closeBlock_0 hq (kb_need hq hx hB 24 (by decide) (fun _ x1 hB1 n1 g1 x2 e2 => ?_))
  have o1 := GS_om g1
  have s1 := GS_sm g1
  have m13 : x1.1 60 13 = x.1 60 13 := GS_at g1 _ _ (by unfold sSum; omega)
  have e13 : (x1.1 100 13 - 1).toInt = om x1 - 1 := t_sub (by show _ ≤ _ - (1 : Int); unfold om at *; omega) (by show _ - (1 : Int) ≤ _; unfold om at *; omega)
  have q2 : x2.1 100 13 = x1.1 100 13 - 1 := by rw [e2]; (simp only [si_get, sfl_get, Nat.reduceEqDiff, eq_self, and_false, false_and, and_true, true_and, if_true, if_false, reduceIte, reduceCtorEq])
  have N2 : (x2.1 100 13).toNatClampNeg = (om x1).toNat - 1 := by rw [q2, t_cl, e13]; omega
  have v2 : vp_in (x2.1 100 13) 20 := by rw [q2, vp_in_iff, e13]; omega
  refine ⟨v2, fun x4 e4 => ?_⟩
  rw [N2] at e4
  have f2 : fm (fun c k => c = 100 ∧ k = 13) x1 x2 := by rw [e2]; exact fm_si (fm_rf _ _) ⟨rfl, rfl⟩
  rw [f2 113 _ (by omega)] at e4
  have q4 : x4.1 100 13 = x2.1 100 13 := by rw [e4]; (simp only [si_get, sfl_get, Nat.reduceEqDiff, eq_self, and_false, false_and, and_true, true_and, if_true, if_false, reduceIte, reduceCtorEq])
  have f4 : fm (fun c k => c = 100 ∧ (k = 9 ∨ k = 13)) x1 x4 := by rw [e4]; exact fm_si (fm_w f2 (fun c k q => ⟨q.1, Or.inr q.2⟩)) ⟨rfl, Or.inl rfl⟩
  have k4 : x4.1 100 9 = x1.1 113 ((om x1).toNat - 1) := by rw [e4]; (simp only [si_get, sfl_get, Nat.reduceEqDiff, eq_self, and_false, false_and, and_true, true_and, if_true, if_false, reduceIte, reduceCtorEq])
  have o4 : om x4 = om x1 - 1 := by unfold om at *; rw [q4, q2]; exact e13
  obtain ⟨kk, oo, cc⟩ := BB_k hB1
  have hop := oo.2.1 ((om x1).toNat - 1) (by omega)
  have hB4 := BB_pop hB1 (by omega) f4 o4 (by rw [k4]; exact hop.2.2) (fun j hj => by rw [k4]; exact oo.2.2.1 j _ (by omega) (by omega))
  have n4 : nx x4 = nx x1 := by unfold nx; rw [f4 100 4 (by omega)]
  have s4 : ssm x4 = ssm x1 := by unfold ssm; rw [f4 80 9 (by omega)]
  have m4 : x4.1 60 13 = x.1 60 13 := by rw [f4 60 13 (by omega)]; exact m13
  refine ⟨by rw [q4]; exact v2, by rw [q4]; exact v2, ?_⟩
  rw [q4, N2, f4 111 _ (by omega), f4 112 _ (by omega)]
  -- the block's step
  have step : ∀ k : Int32, x1.1 111 ((om x1).toNat - 1) = k → ¬ k = 0 → ∃ t : Nat, (x1.1 112 ((om x1).toNat - 1)).toInt = t ∧ (t : Int) < ssm x1 ∧ 1 ≤ om x4 ∧ (k = 1 ∨ k = 3 → sop x4 t = 17) ∧ (k = 2 → sop x4 t = 5) ∧ (k = 4 ∨ k = 5 → sop x4 t = 20) := by
    intro k ek hk
    have hpos : 0 < (om x1).toNat - 1 := by
      refine Nat.pos_of_ne_zero (fun e => hk ?_)
      rw [← ek]; exact (hop.1 e).1
    obtain ⟨-, t, t1, t2, t3⟩ := hop.2.1 hpos
    refine ⟨t, t1, t2, by omega, ?_⟩
    rw [← ek]
    unfold sop at t3 ⊢
    rw [f4 81 t (by omega)]; exact t3
  have hR5 : ∀ k : Int32, x1.1 111 ((om x1).toNat - 1) = k → (k = 1 ∨ k = 2) → ∀ y, om y = om x4 → (∀ j, y.1 111 j = x1.1 111 j) → TIk y := by
    intro k ek hk y oy fy j hj
    rw [fy j]
    intro c
    have := hB1.2.2.2.2.2.2.2 j (by omega) c
    have hj1 : j + 1 = (om x1).toNat - 1 := by omega
    rw [hj1, ek] at this
    rcases hk with rfl | rfl <;> revert this <;> decide
  have hE4 : ∀ (t : Nat), (x1.1 112 ((om x1).toNat - 1)).toInt = t → ∀ i : Nat, (i : Int) < ssm x4 → (E0 i ∨ (i : Int) = (x1.1 112 ((om x1).toNat - 1)).toInt ∨ i = 1000000) → i = t := by
    intro t et i hi he
    have b2 := hB1.1.1.2.2.1
    rcases he with e | e | e
    · exact absurd e (fun e => e)
    · omega
    · omega
  obtain ⟨a1, a2, a3, a4, a5⟩ := BB_400 hB4 (by omega)
  refine ⟨fun c => ?_, fun c => ?_, fun c => ?_, fun c => ?_, fun c => ?_⟩
  · -- while
    obtain ⟨t, t1, t2, t3, t4, -⟩ := step 1 c (by decide)
    have p17 := t4 (Or.inl rfl)
    have tN : (x1.1 112 ((om x1).toNat - 1)).toNatClampNeg = t := by rw [t_cl, t1]; rfl
    have vt : vp_in (x1.1 112 ((om x1).toNat - 1)) 400 := by rw [vp_in_iff]; omega
    refine ⟨vt, kp_add hq _ _ _ a1 a2 (fun w hA vin => ⟨vin, fun x12 e12 => ⟨vt, fun x14 e14 => rv_i ?_⟩⟩)⟩
    obtain ⟨f1, g2, g3, g4, g5⟩ := hA
    rw [tN] at e14
    have k20 : (20 : Int32).toInt = 20 := rfl
    have hSA : SA w (x.1 60 13).toInt (x4.1 80 9).toNatClampNeg := by
      unfold SA sop stg
      rw [g3, g4, k20]
      exact ⟨by omega, ⟨a4, a5⟩, fun c => by omega, fun c => by omega⟩
    have hBw := BB_add hB4 (n := (x4.1 80 9).toNatClampNeg) (by omega) f1 g2 hSA
    have pw : sop w t = 17 := by unfold sop at p17 ⊢; rw [f1 81 t (by omega)]; exact p17
    have pn : sop w (x4.1 80 9).toNatClampNeg = 20 := by unfold sop; rw [g3]; rfl
    have hB12 := BB_tg hBw (by omega) (n := (x4.1 80 9).toNatClampNeg) (by omega) (Or.inr pn) e12 ⟨by omega, by omega, fun _ => Or.inr (by rw [t1]; exact pw)⟩
    have f12 : fm (fun c k => c = 84) w x12 := by rw [e12]; exact fm_si (fm_rf _ _) rfl
    have s12 : ssm x12 = ssm w := by unfold ssm; rw [f12 80 9 (by omega)]
    have p12 : sop x12 t = 17 := by unfold sop at pw ⊢; rw [f12 81 t (by omega)]; exact pw
    have hB14 := BB_tg hB12 (by omega) (n := t) (by omega) (Or.inl p12) e14 ⟨by show 0 ≤ ssm x12; omega, Int.le_refl _, fun c => by omega⟩
    have f14 : fm (fun c k => c = 84) x12 x14 := by rw [e14]; exact fm_si (fm_rf _ _) rfl
    have F : fm (fun c k => (81 ≤ c ∧ c ≤ 89) ∨ (c = 80 ∧ k = 9)) x4 x14 := fm_tr (fm_tr (fm_w f1 (fun c k q => by omega)) (fm_w f12 (fun c k q => by omega))) (fm_w f14 (fun c k q => by omega))
    have s14 : ssm x14 = ssm x4 + 1 := by
      have : ssm x14 = ssm x12 := by unfold ssm; rw [f14 80 9 (by omega)]
      omega
    have n14 : nx x14 = nx x4 := by unfold nx; rw [F 100 4 (by omega)]
    have o14 : om x14 = om x4 := by unfold om; rw [F 100 13 (by omega)]
    have hT : TIk x14 := hR5 1 c (Or.inl rfl) x14 o14 (fun j => by rw [F 111 j (by omega), f4 111 j (by omega)])
    refine h x14 (Or.inl ⟨Or.inl ?_, by omega, by omega, by omega⟩) (by omega)
    rw [F 60 13 (by omega), m4]
    refine ⟨hB14.1, hB14.2.1, hB14.2.2.1, fun i hi _ => ?_, hB14.2.2.2.2.1, hB14.2.2.2.2.2.1, fun _ => hT, hB14.2.2.2.2.2.2.2⟩
    refine hB14.2.2.2.1 i hi (fun e => ?_)
    obtain ⟨⟨e | e, e2⟩, e3⟩ := e
    · by_cases hi4 : (i : Int) < ssm x4
      · exact e3 (hE4 t t1 i hi4 e)
      · exact e2 (by omega)
    · exact e2 e
  · -- lock
    obtain ⟨t, t1, t2, t3, -, t4, -⟩ := step 2 c (by decide)
    have p5 := t4 rfl
    have tN : (x1.1 112 ((om x1).toNat - 1)).toNatClampNeg = t := by rw [t_cl, t1]; rfl
    have vt : vp_in (x1.1 112 ((om x1).toNat - 1)) 400 := by rw [vp_in_iff]; omega
    refine ⟨vt, kp_add hq _ _ _ a1 a2 (fun w hA vin => ⟨vt, vin, fun x14 e14 => rv_i ?_⟩)⟩
    obtain ⟨f1, g2, g3, g4, g5⟩ := hA
    rw [tN, f1 85 t (by omega)] at e14
    have fz : fm (fun c k => (81 ≤ c ∧ c ≤ 89 ∧ k = (x4.1 80 9).toNatClampNeg) ∨ (c = 80 ∧ k = 9)) x4 x14 := by rw [e14]; exact fm_si f1 (Or.inl ⟨by omega, by omega, rfl⟩)
    have es : ssm x14 = ssm x4 + 1 := by
      have : x14.1 80 9 = w.1 80 9 := by rw [e14]; (simp only [si_get, sfl_get, Nat.reduceEqDiff, eq_self, and_false, false_and, and_true, true_and, if_true, if_false, reduceIte, reduceCtorEq])
      unfold ssm at *; rw [this]; exact g2
    have z81 : x14.1 81 (x4.1 80 9).toNatClampNeg = 6 := by rw [e14]; (simp only [si_get, sfl_get, Nat.reduceEqDiff, eq_self, and_false, false_and, and_true, true_and, if_true, if_false, reduceIte, reduceCtorEq]); exact g3
    have z83 : x14.1 83 (x4.1 80 9).toNatClampNeg = x4.1 100 9 := by rw [e14]; (simp only [si_get, sfl_get, Nat.reduceEqDiff, eq_self, and_false, false_and, and_true, true_and, if_true, if_false, reduceIte, reduceCtorEq]); exact g4
    have z85 : x14.1 85 (x4.1 80 9).toNatClampNeg = x4.1 85 t := by rw [e14]; (simp only [si_get, sfl_get, Nat.reduceEqDiff, eq_self, and_false, false_and, and_true, true_and, if_true, if_false, reduceIte, reduceCtorEq])
    have k6 : (6 : Int32).toInt = 6 := rfl
    have n14 : nx x14 = nx x4 := by unfold nx; rw [fz 100 4 (by omega)]
    have o14 : om x14 = om x4 := by unfold om; rw [fz 100 13 (by omega)]
    have hSA : SA x14 (x.1 60 13).toInt (x4.1 80 9).toNatClampNeg := by
      have g := hB4.2.2.1.2.2.2.1.2 t (by omega)
      unfold SA at g
      rw [p5] at g
      obtain ⟨u, u1, u2, -, u4, -⟩ := g.2.2.1 (by omega)
      unfold SA sop stg
      rw [z81, z83, z85, k6]
      refine ⟨by omega, ⟨a4, a5⟩, fun _ => ⟨u, u1, by omega, fun c => by omega, fun _ _ => ?_, fun c => by omega⟩, fun c => by omega⟩
      rw [fz 42 u (by omega)]; exact u4 (by omega) (by omega)
    have hB14 := BB_add hB4 (n := (x4.1 80 9).toNatClampNeg) (by omega) fz es hSA
    have hT : TIk x14 := hR5 2 c (Or.inr rfl) x14 o14 (fun j => by rw [fz 111 j (by omega), f4 111 j (by omega)])
    refine h x14 (Or.inl ⟨Or.inl ?_, by omega, by omega, by omega⟩) (by omega)
    rw [fz 60 13 (by omega), m4]
    refine ⟨hB14.1, hB14.2.1, hB14.2.2.1, fun i hi _ => ?_, hB14.2.2.2.2.1, hB14.2.2.2.2.2.1, fun _ => hT, hB14.2.2.2.2.2.2.2⟩
    by_cases hin : i = (x4.1 80 9).toNatClampNeg
    · rw [hin]
      refine SC_no ?_ ?_ <;> (unfold sop; rw [z81]; decide)
    · by_cases hit : i = t
      · rw [hit]
        refine SC_no ?_ ?_ <;> (unfold sop at p5 ⊢; rw [fz 81 t (by omega)]; omega)
      · refine hB14.2.2.2.1 i hi (fun e => ?_)
        rcases e with e | e
        · exact hit (hE4 t t1 i (by omega) e)
        · exact hin e
  · -- if
    obtain ⟨t, t1, t2, t3, t4, -⟩ := step 3 c (by decide)
    have p17 := t4 (Or.inr rfl)
    refine kp_sort hq hB4.1.1 ⟨fun _ => kb_endIf hq hB4 _ t1 (by omega) (by omega) (Or.inl p17) (hE4 t t1) (fun y hBy ny sy oy oy1 y13 => rv_i (h y (Or.inl ⟨Or.inl ?_, oy1 t3, by omega, by omega⟩) (by omega))), fun c48 => kb_openElse hq hx hB4 _ t1 (by omega) t3 (by omega) (by omega) p17 (hE4 t t1) c48 (fun y hy ny sy oy acc y13 => rv_i (h y (Or.inl ⟨?_, by omega, by omega, by omega⟩) (by omega)))⟩
    · rw [y13, m4]; exact hBy
    · rw [y13, m4]; exact hy
  · -- else
    obtain ⟨t, t1, t2, t3, -, -, t4⟩ := step 4 c (by decide)
    have p20 := t4 (Or.inl rfl)
    refine kb_endIf hq hB4 _ t1 (by omega) (by omega) (Or.inr p20) (hE4 t t1) (fun y hBy ny sy oy oy1 y13 => rv_i (h y (Or.inl ⟨Or.inl ?_, oy1 t3, by omega, by omega⟩) (by omega)))
    rw [y13, m4]; exact hBy
  · -- the thread's end
    have b2 := hB1.1.1.2.2.1
    by_cases h0 : (om x1).toNat - 1 = 0
    · refine kb_endThread hq hB4 (by omega) (by rw [m4]; exact Int.le_refl _) (fun i hi e => ?_) (by omega) (fun y hy ny => rv_i (h y (Or.inr hy) (by omega)))
      have g := (hop.1 h0).2
      rcases e with e | e | e
      · exact e
      · rw [g, tm1] at e; omega
      · omega
    · exfalso
      obtain ⟨⟨p1, p5⟩, -⟩ := hop.2.1 (Nat.pos_of_ne_zero h0)
      have c1 := c 1 (by decide)
      have c2 := c 2 (by decide)
      have c3 := c 3 (by decide)
      have c4 := c 4 (by decide)
      have hT := hB1.2.2.2.2.2.2.1 (fun e => e) ((om x1).toNat - 1) (by omega)
      clear h hE4 hR5 step c
      ((try simp only [t_lt, t_le, t_eq, t_cl, tm1, vp_in_iff, Int32.toInt_add, Int32.toInt_sub, Int32.toInt_mul, Int32.reduceToInt, Nat.reducePow] at *) <;> (try simp (disch := omega) only [bm] at *) <;> omega)
end KCL
