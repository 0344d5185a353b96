section
/-! the class: a thread begins; definitions; all is read -/
section KDJ
variable {G : kG} {q : kP} {d : Nat} {x x0 y z xs : gd} {F : Int32 → gd → Prop} {Fv : gd → Prop} {X : String → gd → Prop} {P : Option gv → gd → Prop} {K V : Nat → Int32} {sN : Nat → Nat → Bool} {e : Nat} {Ev : gV} {Ml N : gU} {T : gTd} {n : gN} {W : gD}
/-- within a thread: what is still to be read -/
def THb (K V : Nat → Int32) (sN : Nat → Nat → Bool) (e : Nat) (Ev : gV) (x y : gd) (L : gU) (T : gTd) (n : gN) (W : gD) : Prop := ∃ (N : gU) (W1 : gTs) (i0 t b : Nat), RIw K V sN e Ev x y N ∧ EN K e y [0] (exs N Ev) ∧ (y.1 100 7).toInt = ((0 : Nat) : Int) ∧ W = W1.bind (fun q => some ((n.1, n.2.1, n.2.2.1 + 1, n.2.2.2), q.2)) ∧ W1 = pBk (pS K 16) K 0 0 i0 (L ++ [(34, t, b)]) ∧ W1 = eS K [0] 0 (nn y) (L ++ N) ∧ TBk y (T ++ [(t, 2, 0, 0)]) ∧ CNk y (n.1, n.2.1, n.2.2.1 + 1, n.2.2.2) ∧ La x y ∧ CGb sN V K Ev x y N
theorem kh_beginThread (hq : kV q) (L : gU) (hx : W = none → RX x0 X) (eW : W = pD K V n (nn x) L) (hk : K (nn x) = 23 ∨ K (nn x) = 37) (hA : KA K V sN e x) (hn0 : nn x ≤ e) (hTb : TBk x T) (hCn : CNk x n) (hE1 : Ev.1 = []) (hE2 : Ev.2.1 = []) (hI : OT x0 x) (h : ∀ y, BB x0 y (y.1 60 13).toInt E0 → 1 ≤ om y → om y ≤ 17 → 2 * ssm y + om y ≤ nx y → nx x < nx y → THb K V sN e Ev x y L T n W → Fv y) : KE G q (d + 9) zk_X7_beginThread 0 [(0, vr 100)] [] x (rv Fv) X := by
  have k6 : (6 : Int32).toInt = 6 := rfl
  have k0 : (0 : Int32).toInt = 0 := rfl
  have hB := OT_b hI
  have acc := hI.2.2.2.2.2.2
  have hC := hB.2.2.1.2.2.1
  have t0 := hB.2.2.1.2.1.2.2.1
  have p42 : (x.1 60 10).toInt < 6 → ∀ (a : Int32) (y : gd) (b9 : Nat), ((a = 0 ∧ b9 = 0) ∨ (a = 1 ∧ b9 = 1)) → (∀ c k, ccS c k → y.1 c k = x.1 c k) → OTb x0 y → GS x y → RIw K V sN e Ev x y [] → W = (if (K (nn y) = 37 ∧ nn y < 700) ∧ K (nn y + 1) = 1 ∧ nn y + 1 < 700 then (pBk (pS K 16) K 0 0 (nn y + 2) (L ++ [(34, nn y + 1, b9)])).bind (fun q => some ((n.1, n.2.1, n.2.2.1 + 1, n.2.2.2), q.2)) else none) → KE G q (d + 9) zk_X7_beginThread 42 [(0, vr 100), (1, vi (x.1 60 10)), (2, vi a)] [] y (rv Fv) X := by
    intro c a y b9 hab hcy hBy gy hRy hWy
    have ln := gy.1.2.1
    refine kg_X7_beginThread_42 hq _ _ (kh_need hq 67 37 (by decide) (by decide) (by decide) (fun no => hx (by rw [hWy, if_neg (fun z => no z.1)])) hBy hRy (fun kk c7 y1 hB1 n1 g1 en1 hR1 _ hc1 => kh_needFor hq 2 1 1 (by decide) (by decide) (by decide) (by decide) (fun no => hx (by rw [hWy, if_neg (fun z => no (by rw [en1]; exact z.2))])) hB1 hR1.1 hR1.2.1 (fun kk2 c8 w hBw nw gw enw hAw hnw eu ht hcw => ?_)))
    rw [en1] at kk2 c8
    rw [if_pos ⟨⟨kk, c7⟩, kk2, c8⟩] at hWy
    have b10 := hB1.1.1.2.1
    have hRw : RIw K V sN e Ev x w ([] ++ [(34, nn y1, b9)]) := RI_use hR1 b10 gw.1 hAw hnw enw (HAs_one.mpr (HA_34.mpr ⟨by omega, eu⟩)) (fun _ => HBs_one.mpr (by rw [eu]; exact HB_t (Or.inr (Or.inr (Or.inr rfl)))))
    have hRw : RIw K V sN e Ev x w [(34, nn y1, b9)] := hRw
    have enw2 : nn w = nn y + 2 := by omega
    rw [← enw2, ← en1] at hWy
    obtain ⟨W1, eW1⟩ : ∃ W1, W1 = pBk (pS K 16) K 0 0 (nn w) (L ++ [(34, nn y1, b9)]) := ⟨_, rfl⟩
    rw [← eW1] at hWy
    have gg := GS_tr (GS_tr gy g1) gw
    obtain ⟨hS, hF, ⟨r1, hNw, hCw, ⟨r4, r6⟩, r7⟩, hSC, r5, r0⟩ := id hBw
    have w10 : w.1 60 10 = x.1 60 10 := GS_at gg _ _ (by unfold sSum; omega)
    have w40 : w.1 40 10 = x.1 60 10 := by rw [← hCw.2.2.1, w10]
    have t10 : 0 ≤ (x.1 60 10).toInt := by have := hNw.2.2.1.1; rw [w40] at this; exact this
    have e1 : (x.1 60 10 + 1).toInt = (x.1 60 10).toInt + 1 := t_add (by show _ ≤ _ + (1 : Int); omega) (by show _ + (1 : Int) ≤ _; omega)
    have eT : (((x.1 60 10).toNatClampNeg : Nat) : Int) = (x.1 60 10).toInt := by rw [t_cl]; omega
    have vt : vp_in (x.1 60 10) 6 := by rw [vp_in_iff]; omega
    refine kf_tellThread hq _ hNw.2.2.1.1 (by rw [w40]; exact c) (fun u fuS cu u50 => ⟨vt, fun x6 e6 => ⟨vt, fun x8 e8 x9 e9 x10 e10 x11 e11 x12 e12 z ez => ?_⟩⟩)
    have fu : fm (fun c k => (c = 40 ∧ k = 10) ∨ c = 50) w u := fm_w fuS (fun c k q => by omega)
    have eN8 : (((w.1 40 10).toNatClampNeg : Nat) : Int) = (w.1 40 10).toInt := by
      have := hNw.2.2.1.1
      rw [t_cl]; omega
    have hu : ∀ i : Nat, (i : Int) < (w.1 40 10).toInt + 1 → ((i : Int) < (w.1 40 10).toInt ∧ u.1 50 i = w.1 50 i) ∨ u.1 50 i = y1.1 100 4 := by
      intro i hi
      by_cases hi2 : i = (w.1 40 10).toNatClampNeg
      · rw [hi2]; exact Or.inr u50
      · exact Or.inl ⟨by omega, fuS 50 i (by omega)⟩
    have f : fm (fun c k => (c = 40 ∧ k = 10) ∨ c = 50 ∨ c = 73 ∨ (c = 72 ∧ k = (x.1 60 10).toNatClampNeg) ∨ (c = 60 ∧ k = 10) ∨ (c = 100 ∧ (k = 5 ∨ k = 7 ∨ k = 9 ∨ k = 13))) w z := by
      rw [ez, e12, e11, e10, e9, e8, e6]
      exact fm_si (fm_si (fm_si (fm_si (fm_si (fm_si (fm_si (fm_w fu (fun c k q => by omega)) (by omega)) (by omega)) (by omega)) (by omega)) (by omega)) (by omega)) (by omega)
    have z10 : z.1 60 10 = x.1 60 10 + 1 := by rw [ez, e12, e11, e10, e9, e8, e6]; (simp only [si_get, sfl_get, Nat.reduceEqDiff, eq_self, and_false, false_and, and_true, true_and, if_true, if_false, reduceIte, reduceCtorEq]); rw [fu 60 10 (by omega), w10]
    have z40 : z.1 40 10 = x.1 60 10 + 1 := by rw [ez, e12, e11, e10, e9, e8, e6]; (simp only [si_get, sfl_get, Nat.reduceEqDiff, eq_self, and_false, false_and, and_true, true_and, if_true, if_false, reduceIte, reduceCtorEq]); rw [cu, w40]
    have z72 : z.1 72 (x.1 60 10).toNatClampNeg = w.1 80 9 := by rw [ez, e12, e11, e10, e9, e8, e6]; (simp only [si_get, sfl_get, Nat.reduceEqDiff, eq_self, and_false, false_and, and_true, true_and, if_true, if_false, reduceIte, reduceCtorEq]); exact fu _ _ (by omega)
    have z5 : z.1 100 5 = 1 := by rw [ez]; (simp only [si_get, sfl_get, Nat.reduceEqDiff, eq_self, and_false, false_and, and_true, true_and, if_true, if_false, reduceIte, reduceCtorEq])
    have z7 : z.1 100 7 = 0 := by rw [ez, e12, e11, e10]; (simp only [si_get, sfl_get, Nat.reduceEqDiff, eq_self, and_false, false_and, and_true, true_and, if_true, if_false, reduceIte, reduceCtorEq])
    have z9 : z.1 100 9 = 0 := by rw [ez, e12, e11]; (simp only [si_get, sfl_get, Nat.reduceEqDiff, eq_self, and_false, false_and, and_true, true_and, if_true, if_false, reduceIte, reduceCtorEq])
    have z13 : z.1 100 13 = 0 := by rw [ez, e12]; (simp only [si_get, sfl_get, Nat.reduceEqDiff, eq_self, and_false, false_and, and_true, true_and, if_true, if_false, reduceIte, reduceCtorEq])
    have om0 : om z = 0 := by unfold om; rw [z13]; rfl
    have e4 : nx z = nx w := by unfold nx; rw [f 100 4 (by omega)]
    have es : ssm z = ssm w := by unfold ssm; rw [f 80 9 (by omega)]
    have sx : ssm w = ssm x := GS_sm gg
    have la : La w z := ⟨fun c k q1 q2 => f c k (by omega), by omega, fun j _ => f 42 j (by omega)⟩
    have tkk : ∀ a, tk w a → tk z a := fun a ha => by unfold tk at ha ⊢; rw [f 20 7 (by omega)]; exact ha
    have m13 : z.1 60 13 = w.1 60 13 := f _ _ (by omega)
    have hBz : BB x0 z (w.1 60 13).toInt E0 := by
      refine ⟨?_, ?_, ⟨fun _ => ⟨?_, ?_⟩, ?_, ?_, ⟨by omega, fun i hi => SA_La la (f _ _ (by omega)) (f _ _ (by omega)) (f _ _ (by omega)) (f _ _ (by omega)) (Int.le_refl _) (r6 i (by omega))⟩, ?_⟩, fun i hi he => ?_, by rw [z5]; decide, fm_tr r0 (fm_w f (fun c k q => by unfold sR; omega)), fun _ k hk => by omega, fun k hk => by omega⟩
      · obtain ⟨⟨hT, b1, b2, b3⟩, ⟨u1, u2⟩, hp, hP⟩ := hS
        unfold SU SV US RB mt
        rw [f 20 7 (by omega), f 60 3 (by omega), e4]
        refine ⟨⟨kT_fm hT la.1, b1, b2, b3⟩, ⟨fun j h1 h2 => ?_, fun j h1 h2 => ?_⟩, hp, fun i hi => La_PQ la (f _ _ (by omega)) (f _ _ (by omega)) (hP i hi)⟩
        · rw [f 42 j (by omega)]; exact u1 j h1 h2
        · rw [f 42 j (by omega)] at h2; rw [f 42 _ (by omega)]; exact u2 j h1 h2
      · unfold FR at hF ⊢
        rw [f 100 4 (by omega), f 42 _ (by omega)]; exact hF
      · unfold KN
        rw [z9, k0]
        exact ⟨by omega, fun i hi => by omega⟩
      · unfold OPs
        rw [om0, z9, z7, k0]
        exact ⟨by omega, fun k hk => by omega, fun j k hj hk => by omega, by omega, by omega⟩
      · unfold NM
        rw [z40, e1, f 40 6 (by omega), f 40 8 (by omega), f 60 6 (by omega)]
        refine ⟨hNw.1, hNw.2.1, by omega, fun i hi => ?_, fun i hi => ?_, fun i hi => ?_⟩
        · rw [f 44 i (by omega), f 45 i (by omega), f 46 i (by omega)]
          obtain ⟨p1, p2⟩ := hNw.2.2.2.1 i hi
          exact ⟨tkk _ p1, p2⟩
        · rw [f 48 i (by omega)]; exact tkk _ (hNw.2.2.2.2.1 i hi)
        · have zi : z.1 50 i = u.1 50 i := by rw [ez, e12, e11, e10, e9, e8, e6]; (simp only [si_get, sfl_get, Nat.reduceEqDiff, eq_self, and_false, false_and, and_true, true_and, if_true, if_false, reduceIte, reduceCtorEq])
          rw [zi]
          rcases hu i (by rw [w40]; exact hi) with ⟨g1, g2⟩ | g
          · rw [g2]; exact tkk _ (hNw.2.2.2.2.2 i g1)
          · rw [g]; exact tkk _ ht
      · unfold CD at hCw ⊢
        rw [z10, z40, f 60 6 (by omega), f 60 9 (by omega), f 40 8 (by omega), f 60 14 (by omega), f 60 16 (by omega), m13, z9, k0]
        exact ⟨hCw.1, hCw.2.1, rfl, hCw.2.2.2.1, hCw.2.2.2.2.1, hCw.2.2.2.2.2.1, fun _ => hCw.2.2.2.2.2.1.1⟩
      · unfold TS
        rw [z10, e1, z5, es]
        refine ⟨fun t ht => ?_, fun c => absurd c (by decide)⟩
        by_cases ht2 : t = (x.1 60 10).toNatClampNeg
        · rw [ht2, z72]
          exact ⟨r4, Int.le_refl _, fun c => absurd c (by decide)⟩
        · rw [f 72 t (by omega)]
          obtain ⟨p1, p2, -⟩ := r7.1 t (by rw [w10]; omega)
          exact ⟨p1, p2, fun c => absurd c (by decide)⟩
      · have := hSC i (by omega) he
        unfold SC at this ⊢
        have ep : ∀ j, sop z j = sop w j := fun j => by unfold sop; rw [f 81 j (by omega)]
        have et : stg z i = stg w i := by unfold stg; rw [f 84 i (by omega)]
        rw [ep, et, es, ep]
        intro c
        rcases this c with ⟨-, p2, -⟩ | ⟨p1, p2, p3, p4⟩
        · exact absurd r5 p2
        · exact Or.inr ⟨p1, p2, fun c5 => by rw [z5] at c5; exact absurd c5 (by decide), p4⟩
    have b2 := hS.1.2.2.1
    have nzw : nn z = nn w := by unfold nn; rw [f 100 4 (by omega)]
    have hRz : RIw K V sN e Ev x z [(34, nn y1, b9)] := RI_st hRw (f _ _ (by omega)) (fun j => f _ _ (by omega)) (fun c k q1 q2 => f _ _ (by omega))
    have hVz : KV' K e z Ev := by
      unfold KV'
      rw [hE1, z9]
      exact ⟨rfl, fun p k hp => by simp at hp⟩
    have hSz : SKs z (om z).toNat [] [] := by rw [om0]; exact ⟨rfl, rfl⟩
    have z9c : (z.1 100 9).toNatClampNeg = 0 := by rw [z9]; rfl
    refine kd_openBlock hq 0 _ (fun no => hx (by rw [hWy, eW1, pBk, if_neg (by rw [← nzw]; exact no)]; rfl)) hRz hVz (z9 := 0) (by decide) hSz hBz (by omega) (by omega) (by decide) (Or.inl (fun k hk => by omega)) ⟨fun _ => ⟨rfl, rfl⟩, fun c => by omega⟩ (fun i hi he => absurd he (fun e => e)) (fun v hBv nv sv ov v13 kk3 c9 env lav hRv hVv hSv v7 hpu => rv_i (h v ?_ (by omega) (by omega) (by omega) (by omega) ⟨[(34, nn y1, b9)] ++ [(20, 0, 0)], W1, nn w, nn y1, b9, RI_dull hRv (dull_k (by decide)), ?_, ?_, hWy, eW1, ?_, ?_, ?_, ?_, ?_⟩))
    · rw [v13, m13]; exact hBv
    · have ex : exs ([(34, nn y1, b9)] ++ [(20, 0, 0)]) Ev = (Ev.1, Ev.1.length :: Ev.2.1, Ev.2.2) := by rw [exs_app, exs_still (L := [(34, nn y1, b9)]) (stl_k (by decide))]; rfl
      rw [ex, hE2]
      rw [z9c] at hSv
      refine ⟨hVv, ?_, ⟨[], ?_⟩⟩
      · rw [hE1]; exact hSv
      · rw [hE1]; rfl
    · rw [v7, z7]; rfl
    · rw [nzw] at kk3 c9 env
      have hb := eS_block (K := K) (z := 0) (u := []) (f := 16) (c := 0) (i := nn w) (L := L ++ [(34, nn y1, b9)]) (by decide) rfl kk3 c9
      rw [← eW1] at hb
      have e0 : (fun q : Nat × Nat × gU => eC K 0 [] q.1 q.2.1 q.2.2) = some := by funext q; exact eC_0
      have bs : Option.bind W1 some = W1 := by cases W1 <;> rfl
      rw [e0, bs] at hb
      rw [hb, env, List.append_assoc]
    · refine TBk_e ?_ lav.2
      have et : (y1.1 100 4).toNatClampNeg = nn y1 := rfl
      have hTw : TBk w T := TBk_e hTb (TBe_GS gg)
      have r := TBk_thread (z := z) (t := y1.1 100 4) hTw (by rw [z40, e1, w40]) (by rw [ez, e12, e11, e10, e9, e8, e6]; (simp only [si_get, sfl_get, Nat.reduceEqDiff, eq_self, and_false, false_and, and_true, true_and, if_true, if_false, reduceIte, reduceCtorEq]); exact u50) (fun i hi => by
        have zi : z.1 50 i = u.1 50 i := by rw [ez, e12, e11, e10, e9, e8, e6]; (simp only [si_get, sfl_get, Nat.reduceEqDiff, eq_self, and_false, false_and, and_true, true_and, if_true, if_false, reduceIte, reduceCtorEq])
        rw [zi]; exact fuS 50 i (by omega)) (fun c k hc => f c k (by omega))
      exact r
    · refine CNk_e ?_ lav.2
      obtain ⟨m1, m2, m3, m4, m5⟩ := CNk_e hCn (TBe_GS gg)
      refine ⟨by rw [f 60 6 (by omega)]; exact m1, by rw [f 60 9 (by omega)]; exact m2, ?_, by rw [f 60 14 (by omega)]; exact m4, by rw [f 60 16 (by omega)]; exact m5⟩
      show (z.1 60 10).toInt = ((n.2.2.1 + 1 : Nat) : Int)
      rw [z10, e1]
      rw [w10] at m3
      omega
    · exact La_tr (La_tr gg.1 la) lav.1
    · obtain ⟨w0, q1, q2⟩ := hpu
      have hcx : ∀ c k, ccS c k → w.1 c k = x.1 c k := fun c k q => (hcw c k q).trans ((hc1 c k q).trans (hcy c k q))
      have oz : ∀ c k, ¬ (c = 73 ∧ k = (x.1 60 10).toNatClampNeg) → ¬ (c = 72 ∧ k = (x.1 60 10).toNatClampNeg) → ¬ (c = 60 ∧ k = 10) → ¬ c = 100 → z.1 c k = u.1 c k := fun c k a1 a2 a3 a4 => by
        rw [ez, si_cell a4, e12, si_cell a4, e11, si_cell a4, e10, si_cell a4, e9, si_get, if_neg a3, e8, si_get, if_neg a2, e6, si_get, if_neg a1]
      refine CGb_thread (y := z) (fun c k q a1 a2 a3 a4 => (oz c k a3 a2 a1 a4).trans ((fu c k (by unfold ccS at q; omega)).trans (hcx c k q))) (by rw [z10, e1]) (by rw [z72]; exact hcx 80 9 (Or.inr (Or.inl ⟨by decide, by decide⟩))) ?_ z13 hB.2.2.2.2.1 hE1 hE2 q1 q2
      have z73 : z.1 73 (x.1 60 10).toNatClampNeg = vp_nar .boolean a := by rw [ez, e12, e11, e10, e9, e8, e6]; (simp only [si_get, sfl_get, Nat.reduceEqDiff, eq_self, and_false, false_and, and_true, true_and, if_true, if_false, reduceIte, reduceCtorEq])
      rw [z73]
      rcases hab with ⟨a1, a2⟩ | ⟨a1, a2⟩ <;> (rw [a1, a2]; rfl)
  have hR0 : RIw K V sN e Ev x x [] := ⟨hA, hn0, UR_0 rfl⟩
  have i23 : x.1 23 (x.1 100 4).toNatClampNeg = 53 ↔ K (nn x) = 23 := KA_k hA hn0 53 (by decide)
  have hc3 := hCn.2.2.1
  refine kg_X7_beginThread_0 hq ⟨fun c => kg_X7_beginThread_19 hq _ (kp_sort hq hB.1.1 ⟨fun c2 => ?_, fun c2 => ?_⟩), fun c => kh_refuse hq (hx ?_) hB _⟩
  · rw [t_lt, k6] at c
    have k37 : K (nn x) = 37 := hk.resolve_left (fun z => c2 (i23.mpr z))
    refine kg_X7_beginThread_33 hq _ _ ⟨fun _ => p42 c _ x 0 (Or.inl ⟨rfl, rfl⟩) (fun c k _ => rfl) hB GS_rf hR0 ?_, fun q => absurd rfl q⟩
    rw [eW]
    unfold pD
    rw [if_neg (by rw [k37]; decide), if_neg (by rw [k37]; decide), if_neg (by rw [k37]; decide), if_neg (by rw [k37]; decide), if_pos k37]
    by_cases cc : nn x < 700 ∧ K (nn x + 1) = 1 ∧ nn x + 1 < 700
    · rw [if_pos ⟨by omega, cc⟩, if_pos ⟨⟨k37, cc.1⟩, cc.2⟩]
    · rw [if_neg (fun z => cc z.2), if_neg (fun z => cc ⟨z.1.2, z.2⟩)]
  · rw [t_lt, k6] at c
    have k23 := i23.mp c2
    have hW : W = if n.2.2.1 < 6 ∧ nn x < 700 ∧ (K (nn x + 1) = 37 ∧ nn x + 1 < 700) ∧ K (nn x + 2) = 1 ∧ nn x + 2 < 700 then (pBk (pS K 16) K 0 0 (nn x + 3) (L ++ [(34, nn x + 2, 1)])).bind (fun q => some ((n.1, n.2.1, n.2.2.1 + 1, n.2.2.2), q.2)) else none := by
      rw [eW]
      unfold pD
      rw [if_neg (by rw [k23]; decide), if_neg (by rw [k23]; decide), if_neg (by rw [k23]; decide), if_pos k23]
    refine kg_X7_beginThread_33 hq _ _ ⟨fun q => absurd q (by decide), fun _ => kh_pass hq (fun c7 => hx (by rw [hW, if_neg (fun z => absurd z.2.1 (by omega))])) hB hR0 (by rw [k23]; decide) (by rw [k23]; decide) (fun c7 y hBy ny gy eny hRy _ hcy => p42 c _ y 1 (Or.inr ⟨rfl, rfl⟩) hcy hBy gy hRy ?_)⟩
    rw [hW, eny]
    by_cases cc : (K (nn x + 1) = 37 ∧ nn x + 1 < 700) ∧ K (nn x + 2) = 1 ∧ nn x + 2 < 700
    · rw [if_pos ⟨by omega, c7, cc⟩, if_pos cc]
    · rw [if_neg (fun z => cc z.2.2), if_neg cc]
  · have c3 : ¬ n.2.2.1 < 6 := by
      rw [t_lt, k6] at c
      omega
    rw [eW]
    unfold pD
    rcases hk with k | k
    · rw [if_neg (by rw [k]; decide), if_neg (by rw [k]; decide), if_neg (by rw [k]; decide), if_pos k, if_neg (fun z => c3 z.1)]
    · rw [if_neg (by rw [k]; decide), if_neg (by rw [k]; decide), if_neg (by rw [k]; decide), if_neg (by rw [k]; decide), if_pos k, if_neg (fun z => c3 z.1)]
theorem kh_definition (hq : kV q) (L : gU) (hx : W = none → RX x0 X) (eW : W = pD K V n (nn x) L) (hA : KA K V sN e x) (hn0 : nn x ≤ e) (hTb : TBk x T) (hCn : CNk x n) (hE1 : Ev.1 = []) (hE2 : Ev.2.1 = []) (hI : OT x0 x) (h : ∀ y N n', OT x0 y → nx x < nx y → RIw K V sN e Ev x y N → still N → W = some (n', nn y, L ++ N) → TBk y (T ++ N.filterMap (te1 K V)) → CNk y n' → La x y → CGo sN V K Ev x y N → Fv y) (h2 : ∀ y, BB x0 y (y.1 60 13).toInt E0 → 1 ≤ om y → om y ≤ 17 → 2 * ssm y + om y ≤ nx y → nx x < nx y → THb K V sN e Ev x y L T n W → Fv y) : KE G q (d + 11) zk_X7_definition 0 [(0, vr 100)] [] x (rv Fv) X := by
  have hB := OT_b hI
  have hKs : K (nn x) = kc (x.1 23 (nn x)) := (hA.1 _ hn0).symm
  have ki : ∀ s k : Int32, kc s = k → x.1 23 (x.1 100 4).toNatClampNeg = s → K (nn x) = k := fun s k e1 e2 => by rw [hKs, ← e1]; exact congrArg kc e2
  have ik : ∀ s k : Int32, kc s = k → ¬ k = -1 → K (nn x) = k → x.1 23 (x.1 100 4).toNatClampNeg = s := fun s k e1 e2 e3 => kc_i (by rw [e1, ← e3]; exact hA.1 _ hn0) (by rw [e1]; exact e2)
  refine kg_X7_definition_0 hq (kp_sort hq hB.1.1 ⟨fun c => kh_cellDefinition hq L hx eW (c.symm.imp (ki 64 34 (by decide)) (ki 47 17 (by decide))) hA hn0 hTb hCn hI (fun y N n' a1 a2 a3 a4 a5 a6 a7 a8 a9 => rv_i (h y N n' a1 a2 a3 a4 a5 a6 a7 a8 a9)), fun c => kh_lockDefinition hq L hx eW (ki 57 27 (by decide) c) hA hn0 hTb hCn hI (fun y N n' a1 a2 a3 a4 a5 a6 a7 a8 a9 => rv_i (h y N n' a1 a2 a3 a4 a5 a6 a7 a8 a9)), fun c => kh_beginThread hq L hx eW (c.imp (ki 53 23 (by decide)) (ki 67 37 (by decide))) hA hn0 hTb hCn hE1 hE2 hI (fun y a1 a2 a3 a4 a5 a6 => rv_i (h2 y a1 a2 a3 a4 a5 a6)), fun c => kh_claim hq L hx eW (c.imp (ki 41 11 (by decide)) (ki 51 21 (by decide))) hA hn0 hTb hCn hE2 hI (fun y N n' a1 a2 a3 a4 a5 a6 a7 a8 a9 => rv_i (h y N n' a1 a2 a3 a4 a5 a6 a7 a8 a9)), fun c => kh_refuse hq (hx ?_) hB _⟩)
  have no : ∀ s k : Int32, s ∈ [(47 : Int32), (64 : Int32), (57 : Int32), (53 : Int32), (67 : Int32), (41 : Int32), (51 : Int32)] → kc s = k → ¬ k = -1 → ¬ K (nn x) = k := fun s k hs e1 e2 e3 => c s hs (ik s k e1 e2 e3)
  rw [eW]
  unfold pD
  rw [if_neg (no 64 34 (by decide) (by decide) (by decide)), if_neg (no 47 17 (by decide) (by decide) (by decide)), if_neg (no 57 27 (by decide) (by decide) (by decide)), if_neg (no 53 23 (by decide) (by decide) (by decide)), if_neg (no 67 37 (by decide) (by decide) (by decide)), if_neg (no 41 11 (by decide) (by decide) (by decide)), if_neg (no 51 21 (by decide) (by decide) (by decide))]
end KDJ
end
section
/-! the class: all is read -/
section KDK
variable {G : kG} {q : kP} {d : Nat} {x x0 y z xs : gd} {F : Int32 → gd → Prop} {Fv : gd → Prop} {X : String → gd → Prop} {P : Option gv → gd → Prop} {K V : Nat → Int32} {sN : Nat → Nat → Bool} {e : Nat} {Ev : gV} {Ml N : gU} {T : gTd} {n : gN} {W : gD}
/-- outside a thread, L read -/
def RAo (K V : Nat → Int32) (sN : Nat → Nat → Bool) (e : Nat) (x xs y : gd) (W : gD) : Prop := ∃ (L : gU) (n : gN) (m : Nat), OT x y ∧ RIw K V sN e E0v xs y L ∧ (exs L E0v).1 = [] ∧ (exs L E0v).2.1 = [] ∧ TBk y (L.filterMap (te1 K V)) ∧ CNk y n ∧ W = pAl K V m n (nn y) L ∧ 701 ≤ m + nn y ∧ CCp sN V K y (cds sN K L cd0) (ces K V L (0, 0, [])) (tPs sN V K L E0v) ∧ eqE (cds sN K L cd0).1 (exs L E0v) ∧ rgO (cds sN K L cd0).2.2.2.1
/-- within one -/
def RAi (K V : Nat → Int32) (sN : Nat → Nat → Bool) (e : Nat) (x xs y : gd) (W : gD) : Prop := ∃ (L u : _) (c m i0 i1 : Nat) (n : gN) (L0 : gU) (W1 : gTs), (BB x y (y.1 60 13).toInt E0 ∧ W1 = eS K u c (nn y) L ∨ (BB x y (y.1 60 13).toInt E1 ∧ y.1 23 (y.1 100 4).toNatClampNeg = 54) ∧ W1 = eX K u c (nn y) L) ∧ 1 ≤ om y ∧ om y ≤ 17 ∧ 2 * ssm y + om y ≤ nx y ∧ RIw K V sN e E0v xs y L ∧ EN K e y u (exs L E0v) ∧ (y.1 100 7).toInt = (c : Nat) ∧ W1 = pBk (pS K 16) K 0 0 i0 L0 ∧ TBk y (L0.filterMap (te1 K V)) ∧ CNk y n ∧ W = W1.bind (fun q => pAl K V m n q.2.1 q.2.2) ∧ i1 < nn y ∧ 701 ≤ m + 1 + i1 ∧ CCp sN V K y (cds sN K L cd0) (ces K V L (0, 0, [])) (tPs sN V K L E0v) ∧ eqE (cds sN K L cd0).1 (exs L E0v) ∧ (cds sN K L cd0).2.2.2.1 = rg0
theorem kh_readAll (hq : kV q) (hT : kT x) (hA : KA K V sN e x) (hx : W = none → RX x X) (eW : W = pAl K V 701 (0, 0, 0, 0, 0) 0 []) (h : ∀ y n L, OT x y → W = some (n, nn y, L) → K (nn y) = 0 → KA K V sN e y → nn y ≤ e → HAs sN (y.1 42) (nn y) L E0v → (∀ j, j < nn y → ¬ y.1 42 j = 0 → HBs sN L E0v j (y.1 42 j)) → TBk y (L.filterMap (te1 K V)) → CNk y n → CCp sN V K y (cds sN K L cd0) (ces K V L (0, 0, [])) (tPs sN V K L E0v) → Fv y) : KE G q (d + 13) zk_X7_readAll 0 [(0, vr 100)] [] x (rv Fv) X := by
  have k0 : (0 : Int32).toInt = 0 := rfl
  have k700 : (700 : Int32).toInt = 700 := rfl
  obtain ⟨xs, exs0⟩ : ∃ xs : gd, nn xs = 0 := ⟨si x 100 4 0, by unfold nn; (simp only [si_get, sfl_get, Nat.reduceEqDiff, eq_self, and_false, false_and, and_true, true_and, if_true, if_false, reduceIte, reduceCtorEq]); rfl⟩
  have loop : ∀ (m : Nat) (k : Int32) (y : gd), (RAi K V sN e x xs y W ∨ RAo K V sN e x xs y W) → 0 ≤ k.toInt → k.toInt ≤ nx y → 700 - nx y < m → KE G q (d + 13) zk_X7_readAll 31 [(0, vr 100), (1, vi k)] [] y (rv Fv) X := by
    intro m
    induction m with
    | zero =>
      intro k y hy k0' kn hn
      have b2 : nx y ≤ 700 := by
        rcases hy with ⟨L, u, c, m, i0, i1, n, L0, W1, e | e, -⟩ | ⟨L, n, m, e, -⟩
        · exact e.1.1.1.2.2.1
        · exact e.1.1.1.1.2.2.1
        · exact e.1.1.2.2.1
      omega
    | succ m ih =>
      intro k y hy k0' kn hn
      have hR : RB y := by
        rcases hy with ⟨L, u, c, m, i0, i1, n, L0, W1, e | e, -⟩ | ⟨L, n, m, e, -⟩
        · exact e.1.1.1
        · exact e.1.1.1.1
        · exact e.1.1
      have b1 := hR.2.1
      have b2 := hR.2.2.1
      have cy := nn_is b1
      have ek : (k + 1).toInt = k.toInt + 1 := t_add (by show _ ≤ _ + (1 : Int); omega) (by show _ + (1 : Int) ≤ _; omega)
      have next : ∀ z, (RAi K V sN e x xs z W ∨ RAo K V sN e x xs z W) → nx y < nx z → KE G q (d + 13) zk_X7_readAll 31 [(0, vr 100), (1, vi (k + 1))] [] z (rv Fv) X := fun z hz nz => ih (k + 1) z hz (by omega) (by omega) (by omega)
      have up : ∀ z : gd, nx y < nx z → nn y < nn z := fun z nz => by
        have := nn_is (x := z) (by omega)
        omega
      have inth : ¬ y.1 100 5 = 0 → RAi K V sN e x xs y W := fun c => by
        rcases hy with e | ⟨L, n, m, e, -⟩
        · exact e
        · exact absurd e.2.2.2.2.1 c
      have outh : y.1 100 5 = 0 → RAo K V sN e x xs y W := fun c => by
        rcases hy with ⟨L, u, c9, m, i0, i1, n, L0, W1, e | e, -⟩ | e
        · exact absurd c e.1.2.2.2.2.1
        · exact absurd c e.1.1.2.2.2.2.1
        · exact e
      have pin : ¬ y.1 100 5 = 0 → KE G q (d + 13) zk_X7_readAll 52 [(0, vr 100), (1, vi k)] [] y (rv Fv) X := by
        intro c
        obtain ⟨L, u, c9, m9, i0, i1, n, L0, W1, hb, o1, o17, acc, hRI, hEN, h7, eW1, hTb, hCn, hWW, hi1, hm, hcc, hce, hcr⟩ := inth c
        have i64 : y.1 23 (y.1 100 4).toNatClampNeg = 24 ↔ K (nn y) = 64 := KA_k hRI.1 hRI.2.1 24 (by decide)
        have hx1 : W1 = none → RX x X := fun no => hx (by rw [hWW, no]; rfl)
        refine kg_X7_readAll_52 hq _ ⟨fun _ => kp_sort hq hR ⟨fun c24 => ?_, fun c24 => ?_⟩, fun z => absurd z c⟩
        · have k64 : ¬ K (nn y) = 64 := fun z => c24 (i64.mpr z)
          have eWX : W1 = eX K u c9 (nn y) L := by
            rcases hb with ⟨hB, e⟩ | ⟨-, e⟩
            · have oS : (om y).toNat = ((om y).toNat - 1) + 1 := by omega
              have hSx := hEN.2.1
              rw [oS] at hSx
              obtain ⟨z9, u2, B2, eu, -, z95, -⟩ := SKs_top hSx (hB.2.2.2.2.2.2.1 (fun e => e) ((om y).toNat - 1) (by omega))
              rw [e, eu, eS_stmt z95 k64]
            · exact e
          refine kd_statement hq c9 L hx1 eWX h7 hRI.1 hRI.2.1 hEN ⟨hb.imp (fun e => e.1) (fun e => e.1), o1, o17, acc⟩ (fun z N u9 c8 hBz oz1 oz17 az hRz hENz lz z7 hWz nz hCG => next z (Or.inl ⟨L ++ N, u9, c8, m9, i0, i1, n, L0, W1, Or.inl ⟨hBz, hWz⟩, oz1, oz17, az, RI_on b1 hRI lz.1 hRz, by rw [exs_app]; exact hENz, z7, eW1, TBk_e hTb lz.2, CNk_e hCn lz.2, hWW, Nat.lt_trans hi1 (up z nz), hm, by rw [cds_app, ces_app, tPs_app, exs_app]; exact hCG _ _ _ hce hcr hcc⟩) nz)
        · have k64 := i64.mp c24
          obtain ⟨hB, eWS⟩ : BB x y (y.1 60 13).toInt E0 ∧ W1 = eS K u c9 (nn y) L := by
            rcases hb with e | ⟨⟨-, e⟩, -⟩
            · exact e
            · rw [e] at c24; exact absurd c24 (by decide)
          refine kd_closeBlock hq c9 L hx1 eWS k64 hRI.1 hRI.2.1 hEN hB o1 o17 acc (fun z N u9 hbz oz1 oz17 az hRz hENz lz z7 nz hCG => next z (Or.inl ⟨L ++ N, u9, c9, m9, i0, i1, n, L0, W1, hbz, oz1, oz17, az, RI_on b1 hRI lz.1 hRz, by rw [exs_app]; exact hENz, by rw [z7]; exact h7, eW1, TBk_e hTb lz.2, CNk_e hCn lz.2, hWW, Nat.lt_trans hi1 (up z nz), hm, by rw [cds_app, ces_app, tPs_app, exs_app]; exact hCG _ _ _ hce hcr hcc⟩) nz) (fun z N hOz hRz e1 e2 lz hWz nz hCG => next z (Or.inr ⟨L ++ N, n, m9, hOz, RI_on b1 hRI lz.1 hRz, by rw [exs_app]; exact e1, by rw [exs_app]; exact e2, ?_, CNk_e hCn lz.2, ?_, ?_, ?_⟩) nz)
          · rw [eW1] at hWz
            have := nT_te (K := K) (V := V) (pBk_nT (pS_nT 16) hWz)
            rw [this]
            exact TBk_e hTb lz.2
          · rw [hWW, hWz]; rfl
          · have := up z nz
            omega
          · rw [cds_app, ces_app, tPs_app, exs_app]
            obtain ⟨h1, h2, h3⟩ := hCG _ _ _ hce hcr hcc
            exact ⟨h1, h2, 0, h3⟩
      have pout : y.1 100 5 = 0 → ¬ y.1 23 (y.1 100 4).toNatClampNeg = 0 → KE G q (d + 13) zk_X7_readAll 52 [(0, vr 100), (1, vi k)] [] y (rv Fv) X := by
        intro c c0
        obtain ⟨L, n, m9, hO, hRI, e1, e2, hTb, hCn, hWW, hm, hcc, hce, hcr⟩ := outh c
        obtain ⟨m8, rfl⟩ : ∃ k, m9 = k + 1 := ⟨m9 - 1, by omega⟩
        have k00 : ¬ K (nn y) = 0 := fun z => c0 ((KA_k hRI.1 hRI.2.1 0 (by decide)).mpr z)
        rw [pAl, if_neg k00] at hWW
        obtain ⟨W1, eW1⟩ : ∃ W1, W1 = pD K V n (nn y) L := ⟨_, rfl⟩
        rw [← eW1] at hWW
        have hx1 : W1 = none → RX x X := fun no => hx (by rw [hWW, no]; rfl)
        refine kg_X7_readAll_52 hq _ ⟨fun z => absurd c z, fun _ => kh_definition (Ev := exs L E0v) hq L hx1 eW1 hRI.1 hRI.2.1 hTb hCn e1 e2 hO (fun z N n' hOz nz hRz hN hWz hTz hCz lz hCG => next z (Or.inr ⟨L ++ N, n', m8, hOz, RI_on b1 hRI lz hRz, by rw [exs_app, exs_still hN]; exact e1, by rw [exs_app, exs_still hN]; exact e2, by rw [List.filterMap_append]; exact hTz, hCz, by rw [hWW, hWz]; rfl, ?_, by rw [cds_app, ces_app, tPs_app, exs_app]; exact hCG _ _ _ hce hcr hcc⟩) nz) (fun z hBz o1 o17 az nz hTH => next z (Or.inl ?_) nz)⟩
        · have := up z nz
          omega
        · obtain ⟨N, W2, i0, t, b, hRz, hENz, z7, hWz, eW2, hWS, hTz, hCz, lz, hCG⟩ := hTH
          refine ⟨L ++ N, [0], 0, m8, i0, nn y, _, L ++ [(34, t, b)], W2, Or.inl ⟨hBz, hWS⟩, o1, o17, az, RI_on b1 hRI lz hRz, by rw [exs_app]; exact hENz, z7, eW2, by rw [List.filterMap_append]; exact hTz, hCz, ?_, up z nz, hm, by rw [cds_app, ces_app, tPs_app, exs_app]; exact hCG _ _ _ hce hcr hcc⟩
          rw [hWW, hWz, Option.bind_assoc]
          rfl
      refine kg_X7_readAll_31 hq _ ⟨fun c => ?_, fun _ => ⟨fun c => pin c, fun c => kp_sort hq hR ⟨fun c0 => rv_i ?_, fun c0 => pout c c0⟩⟩⟩
      · exfalso; rw [t_lt, k700] at c; omega
      · obtain ⟨L, n, m9, hO, hRI, e1, e2, hTb, hCn, hWW, hm, hcc, hce, hcr⟩ := outh c
        obtain ⟨m8, rfl⟩ : ∃ k, m9 = k + 1 := ⟨m9 - 1, by omega⟩
        have k00 : K (nn y) = 0 := (KA_k hRI.1 hRI.2.1 0 (by decide)).mp c0
        rw [pAl, if_pos k00] at hWW
        exact h y n L hO hWW k00 hRI.1 hRI.2.1 hRI.2.2.1 (fun j hj hu => hRI.2.2.2 j (by omega) hj hu) hTb hCn hcc
  refine kg_X7_readAll_0 hq (kp_names_clear hq (fun x1 f1 n6 n8 n10 nu => kp_code_clear hq (fun x2 f2 c80 c3 c6 c9 c10 c13 c14 c16 x3 e3 x4 e4 z ez => ?_)))
  have f : fm (fun c k => c = 40 ∨ c = 42 ∨ c = 43 ∨ c = 60 ∨ (c = 80 ∧ k = 9) ∨ (c = 100 ∧ (k = 4 ∨ k = 5 ∨ k = 6))) x z := by
    rw [ez, e4, e3]
    exact fm_si (fm_si (fm_si (fm_tr (fm_w f1 (fun c k q => by omega)) (fm_w f2 (fun c k q => by omega))) (by omega)) (by omega)) (by omega)
  have g2 : ∀ c k, c ≠ 100 → z.1 c k = x2.1 c k := fun c k hc => by rw [ez, e4, e3, si_cell hc, si_cell hc, si_cell hc]
  have z4 : z.1 100 4 = 0 := by rw [ez, e4, e3]; (simp only [si_get, sfl_get, Nat.reduceEqDiff, eq_self, and_false, false_and, and_true, true_and, if_true, if_false, reduceIte, reduceCtorEq])
  have z5 : z.1 100 5 = 0 := by rw [ez]; (simp only [si_get, sfl_get, Nat.reduceEqDiff, eq_self, and_false, false_and, and_true, true_and, if_true, if_false, reduceIte, reduceCtorEq])
  have nz : nx z = 0 := by unfold nx; rw [z4]; rfl
  have sz : ssm z = 0 := by unfold ssm; rw [g2 80 9 (by decide), c80]; rfl
  have z42 : ∀ j, j < 702 → z.1 42 j = 0 := fun j hj => by rw [g2 42 j (by decide), f2 42 j (by omega)]; exact nu j hj
  have z6 : ∀ k, z.1 60 k = x2.1 60 k := fun k => g2 60 k (by decide)
  have z40 : ∀ k, z.1 40 k = x1.1 40 k := fun k => by rw [g2 40 k (by decide), f2 40 k (by omega)]
  have hTz : kT z := kT_fm hT (fun c k q1 q2 => f c k (by omega))
  have mz : 0 ≤ mt z := by obtain ⟨-, n, en, -⟩ := hTz; unfold mt; omega
  have hRz : RIw K V sN e E0v xs z [] := ⟨KA_fm hA (fun c k q1 q2 => f c k (by omega)), by unfold nn; rw [z4]; exact Nat.zero_le _, UR_0 (by rw [exs0]; unfold nn; rw [z4]; rfl)⟩
  have nnz : nn z = 0 := by unfold nn; rw [z4]; rfl
  refine loop 701 _ z (Or.inr ⟨[], (0, 0, 0, 0, 0), 701, ⟨⟨⟨hTz, by omega, by omega, by omega⟩, ⟨fun j _ h2 => z42 j h2, fun j h1 _ => by omega⟩, ?_, fun i hi => ?_⟩, ?_, ⟨fun c => absurd z5 c, ?_, ?_, ⟨by omega, fun i hi => by omega⟩, ?_⟩, fun i hi => by omega, z5, fm_w f (fun c k q => by unfold sR; omega), by omega⟩, hRz, rfl, rfl, ?_, ?_, by rw [nnz]; exact eW, by omega, ?_, ⟨rfl, rfl⟩, 0, rfl⟩) (by decide) (by rw [k0]; omega) (by omega)
  · rw [z6, c3]; decide
  · rw [z6, c3, k0] at hi; omega
  · unfold FR; rw [z4]; exact z42 _ (by decide)
  · unfold NM
    rw [z40, z40, z40, n6, n8, n10, k0]
    exact ⟨by omega, by omega, by omega, fun i hi => by omega, fun i hi => by omega, fun i hi => by omega⟩
  · unfold CD
    rw [z6, z6, z6, z6, z6, z6, z40, z40, c6, c9, c10, c14, c16, c13, n8, n10, k0]
    exact ⟨by omega, rfl, rfl, by omega, by omega, by omega, fun c => absurd z5 c⟩
  · unfold TS
    rw [z6, c10, k0]
    exact ⟨fun t ht => by omega, fun _ => Or.inl sz⟩
  · have z46 : z.1 40 6 = 0 := by rw [z40, n6]
    have z48 : z.1 40 8 = 0 := by rw [z40, n8]
    have z410 : z.1 40 10 = 0 := by rw [z40, n10]
    have z66 : z.1 60 6 = 0 := by rw [z6, c6]
    unfold TBk
    rw [z46, z48, z410, z66]
    exact ⟨⟨rfl, ⟨Int.le_refl _, rfl⟩, fun i q hq => by simp [tdS] at hq⟩, ⟨rfl, fun i q hq => by simp [tdS] at hq⟩, rfl, fun i q hq => by simp [tdS] at hq⟩
  · unfold CNk
    rw [z6, z6, z6, z6, z6, c6, c9, c10, c14, c16]
    exact ⟨rfl, rfl, rfl, rfl, rfl⟩
  · have cc : CCp sN V K z cd0 (0, 0, []) [] := by
      refine ⟨⟨by rw [z6, c3]; rfl, fun i q _ hq => by simp at hq⟩, ⟨by show ssm z = _; rw [sz]; rfl, fun j st hj => by simp at hj⟩, ⟨fun q => absurd z5 q, fun _ => rfl⟩, ⟨by rw [z6, c10]; rfl, fun t q hq => by simp at hq⟩, ⟨by rw [z6, c6]; rfl, fun j q hq => by simp at hq⟩, ⟨by rw [z6, c14]; rfl, fun k N hN => by simp [clF] at hN⟩, ⟨by rw [z6, c16]; rfl, fun k N hN => by simp [clF] at hN⟩⟩
    exact cc
end KDK
end
section
/-! what the class's judge finds, and what the row of uses says -/
/-- the first row told of that name -/
def rwK (R : Nat → Nat → Prop) (T : gTd) (t k : Nat) (q : Nat × Nat × Nat × Nat) : Prop := (tdS T 0)[k]? = some q ∧ 0 < q.2.2.1 ∧ R q.1 t ∧ ∀ (k' : Nat) (q' : Nat × Nat × Nat × Nat), k' < k → (tdS T 0)[k']? = some q' → 0 < q'.2.2.1 → ¬ R q'.1 t
def CFp (R : Nat → Nat → Prop) (Vx U : Nat → Int32) (T : gTd) (j : Nat) : Prop := (U j = 1 ∧ ∃ q ∈ T, q.1 < j ∧ R q.1 j) ∨ U j = 2 ∨ U j = 3 ∨ (U j = 4 ∧ ∀ q ∈ T, q.2.1 = 1 → ¬ R q.1 j) ∨ (U j = 5 ∧ ∀ q ∈ T, q.2.1 = 2 → ¬ R q.1 j) ∨ (U j = 6 ∧ ∀ q ∈ T, q.2.1 = 0 → q.2.2.1 = 0 → ¬ R q.1 j) ∨ (U j = 7 ∧ ∀ q ∈ T, q.2.1 = 0 → 0 < q.2.2.1 → ¬ R q.1 j) ∨ U j = 8 ∨ U j = 9 ∨ U j = 10 ∨ (U j = 11 ∧ ¬ (1 ≤ (Vx j).toInt ∧ (Vx j).toInt ≤ 8)) ∨ (U j = 12 ∧ ∃ (k : Nat) (q : Nat × Nat × Nat × Nat), rwK R T (j - 2) k q ∧ ((q.2.2.1 : Nat) : Int) ≤ (Vx j).toInt) ∨ (U j = 13 ∧ 3 < (Vx j).toInt)
section CFJ
variable {sN : Nat → Nat → Bool} {R : Nat → Nat → Prop} {K V Vx U : Nat → Int32} {T : gTd} {L : gU} {n j : Nat} {E : gV} {v : Nat × Nat × Nat}
theorem CF_o1 (h : CFp R Vx U T j) (hu : U j = 1) : ∃ q ∈ T, q.1 < j ∧ R q.1 j := by
  unfold CFp at h
  rw [hu] at h
  rcases h with ⟨-, h⟩ | h | h | ⟨h, -⟩ | ⟨h, -⟩ | ⟨h, -⟩ | ⟨h, -⟩ | h | h | h | ⟨h, -⟩ | ⟨h, -⟩ | ⟨h, -⟩
  · exact h
  · exact absurd h (by decide)
  · exact absurd h (by decide)
  · exact absurd h (by decide)
  · exact absurd h (by decide)
  · exact absurd h (by decide)
  · exact absurd h (by decide)
  · exact absurd h (by decide)
  · exact absurd h (by decide)
  · exact absurd h (by decide)
  · exact absurd h (by decide)
  · exact absurd h (by decide)
  · exact absurd h (by decide)
theorem CF_o4 (h : CFp R Vx U T j) (hu : U j = 4) : ∀ q ∈ T, q.2.1 = 1 → ¬ R q.1 j := by
  unfold CFp at h
  rw [hu] at h
  rcases h with ⟨h, -⟩ | h | h | ⟨-, h⟩ | ⟨h, -⟩ | ⟨h, -⟩ | ⟨h, -⟩ | h | h | h | ⟨h, -⟩ | ⟨h, -⟩ | ⟨h, -⟩
  · exact absurd h (by decide)
  · exact absurd h (by decide)
  · exact absurd h (by decide)
  · exact h
  · exact absurd h (by decide)
  · exact absurd h (by decide)
  · exact absurd h (by decide)
  · exact absurd h (by decide)
  · exact absurd h (by decide)
  · exact absurd h (by decide)
  · exact absurd h (by decide)
  · exact absurd h (by decide)
  · exact absurd h (by decide)
theorem CF_o5 (h : CFp R Vx U T j) (hu : U j = 5) : ∀ q ∈ T, q.2.1 = 2 → ¬ R q.1 j := by
  unfold CFp at h
  rw [hu] at h
  rcases h with ⟨h, -⟩ | h | h | ⟨h, -⟩ | ⟨-, h⟩ | ⟨h, -⟩ | ⟨h, -⟩ | h | h | h | ⟨h, -⟩ | ⟨h, -⟩ | ⟨h, -⟩
  · exact absurd h (by decide)
  · exact absurd h (by decide)
  · exact absurd h (by decide)
  · exact absurd h (by decide)
  · exact h
  · exact absurd h (by decide)
  · exact absurd h (by decide)
  · exact absurd h (by decide)
  · exact absurd h (by decide)
  · exact absurd h (by decide)
  · exact absurd h (by decide)
  · exact absurd h (by decide)
  · exact absurd h (by decide)
theorem CF_o6 (h : CFp R Vx U T j) (hu : U j = 6) : ∀ q ∈ T, q.2.1 = 0 → q.2.2.1 = 0 → ¬ R q.1 j := by
  unfold CFp at h
  rw [hu] at h
  rcases h with ⟨h, -⟩ | h | h | ⟨h, -⟩ | ⟨h, -⟩ | ⟨-, h⟩ | ⟨h, -⟩ | h | h | h | ⟨h, -⟩ | ⟨h, -⟩ | ⟨h, -⟩
  · exact absurd h (by decide)
  · exact absurd h (by decide)
  · exact absurd h (by decide)
  · exact absurd h (by decide)
  · exact absurd h (by decide)
  · exact h
  · exact absurd h (by decide)
  · exact absurd h (by decide)
  · exact absurd h (by decide)
  · exact absurd h (by decide)
  · exact absurd h (by decide)
  · exact absurd h (by decide)
  · exact absurd h (by decide)
theorem CF_o7 (h : CFp R Vx U T j) (hu : U j = 7) : ∀ q ∈ T, q.2.1 = 0 → 0 < q.2.2.1 → ¬ R q.1 j := by
  unfold CFp at h
  rw [hu] at h
  rcases h with ⟨h, -⟩ | h | h | ⟨h, -⟩ | ⟨h, -⟩ | ⟨h, -⟩ | ⟨-, h⟩ | h | h | h | ⟨h, -⟩ | ⟨h, -⟩ | ⟨h, -⟩
  · exact absurd h (by decide)
  · exact absurd h (by decide)
  · exact absurd h (by decide)
  · exact absurd h (by decide)
  · exact absurd h (by decide)
  · exact absurd h (by decide)
  · exact h
  · exact absurd h (by decide)
  · exact absurd h (by decide)
  · exact absurd h (by decide)
  · exact absurd h (by decide)
  · exact absurd h (by decide)
  · exact absurd h (by decide)
theorem CF_o11 (h : CFp R Vx U T j) (hu : U j = 11) : ¬ (1 ≤ (Vx j).toInt ∧ (Vx j).toInt ≤ 8) := by
  unfold CFp at h
  rw [hu] at h
  rcases h with ⟨h, -⟩ | h | h | ⟨h, -⟩ | ⟨h, -⟩ | ⟨h, -⟩ | ⟨h, -⟩ | h | h | h | ⟨-, h⟩ | ⟨h, -⟩ | ⟨h, -⟩
  · exact absurd h (by decide)
  · exact absurd h (by decide)
  · exact absurd h (by decide)
  · exact absurd h (by decide)
  · exact absurd h (by decide)
  · exact absurd h (by decide)
  · exact absurd h (by decide)
  · exact absurd h (by decide)
  · exact absurd h (by decide)
  · exact absurd h (by decide)
  · exact h
  · exact absurd h (by decide)
  · exact absurd h (by decide)
theorem CF_o12 (h : CFp R Vx U T j) (hu : U j = 12) : ∃ (k : Nat) (q : Nat × Nat × Nat × Nat), rwK R T (j - 2) k q ∧ ((q.2.2.1 : Nat) : Int) ≤ (Vx j).toInt := by
  unfold CFp at h
  rw [hu] at h
  rcases h with ⟨h, -⟩ | h | h | ⟨h, -⟩ | ⟨h, -⟩ | ⟨h, -⟩ | ⟨h, -⟩ | h | h | h | ⟨h, -⟩ | ⟨-, h⟩ | ⟨h, -⟩
  · exact absurd h (by decide)
  · exact absurd h (by decide)
  · exact absurd h (by decide)
  · exact absurd h (by decide)
  · exact absurd h (by decide)
  · exact absurd h (by decide)
  · exact absurd h (by decide)
  · exact absurd h (by decide)
  · exact absurd h (by decide)
  · exact absurd h (by decide)
  · exact absurd h (by decide)
  · exact h
  · exact absurd h (by decide)
theorem CF_o13 (h : CFp R Vx U T j) (hu : U j = 13) : 3 < (Vx j).toInt := by
  unfold CFp at h
  rw [hu] at h
  rcases h with ⟨h, -⟩ | h | h | ⟨h, -⟩ | ⟨h, -⟩ | ⟨h, -⟩ | ⟨h, -⟩ | h | h | h | ⟨h, -⟩ | ⟨h, -⟩ | ⟨-, h⟩
  · exact absurd h (by decide)
  · exact absurd h (by decide)
  · exact absurd h (by decide)
  · exact absurd h (by decide)
  · exact absurd h (by decide)
  · exact absurd h (by decide)
  · exact absurd h (by decide)
  · exact absurd h (by decide)
  · exact absurd h (by decide)
  · exact absurd h (by decide)
  · exact absurd h (by decide)
  · exact absurd h (by decide)
  · exact h
theorem CF_i1 (hu : U j = 1) (hc : ∃ q ∈ T, q.1 < j ∧ R q.1 j) : CFp R Vx U T j := Or.inl ⟨hu, hc⟩
theorem CF_i2 (hu : U j = 2) : CFp R Vx U T j := Or.inr (Or.inl hu)
theorem CF_i3 (hu : U j = 3) : CFp R Vx U T j := Or.inr (Or.inr (Or.inl hu))
theorem CF_i4 (hu : U j = 4) (hc : ∀ q ∈ T, q.2.1 = 1 → ¬ R q.1 j) : CFp R Vx U T j := Or.inr (Or.inr (Or.inr (Or.inl ⟨hu, hc⟩)))
theorem CF_i5 (hu : U j = 5) (hc : ∀ q ∈ T, q.2.1 = 2 → ¬ R q.1 j) : CFp R Vx U T j := Or.inr (Or.inr (Or.inr (Or.inr (Or.inl ⟨hu, hc⟩))))
theorem CF_i6 (hu : U j = 6) (hc : ∀ q ∈ T, q.2.1 = 0 → q.2.2.1 = 0 → ¬ R q.1 j) : CFp R Vx U T j := Or.inr (Or.inr (Or.inr (Or.inr (Or.inr (Or.inl ⟨hu, hc⟩)))))
theorem CF_i7 (hu : U j = 7) (hc : ∀ q ∈ T, q.2.1 = 0 → 0 < q.2.2.1 → ¬ R q.1 j) : CFp R Vx U T j := Or.inr (Or.inr (Or.inr (Or.inr (Or.inr (Or.inr (Or.inl ⟨hu, hc⟩))))))
theorem CF_i8 (hu : U j = 8) : CFp R Vx U T j := Or.inr (Or.inr (Or.inr (Or.inr (Or.inr (Or.inr (Or.inr (Or.inl hu)))))))
theorem CF_i9 (hu : U j = 9) : CFp R Vx U T j := Or.inr (Or.inr (Or.inr (Or.inr (Or.inr (Or.inr (Or.inr (Or.inr (Or.inl hu))))))))
theorem CF_i10 (hu : U j = 10) : CFp R Vx U T j := Or.inr (Or.inr (Or.inr (Or.inr (Or.inr (Or.inr (Or.inr (Or.inr (Or.inr (Or.inl hu)))))))))
theorem CF_i11 (hu : U j = 11) (hc : ¬ (1 ≤ (Vx j).toInt ∧ (Vx j).toInt ≤ 8)) : CFp R Vx U T j := Or.inr (Or.inr (Or.inr (Or.inr (Or.inr (Or.inr (Or.inr (Or.inr (Or.inr (Or.inr (Or.inl ⟨hu, hc⟩))))))))))
theorem CF_i12 (hu : U j = 12) (hc : ∃ (k : Nat) (q : Nat × Nat × Nat × Nat), rwK R T (j - 2) k q ∧ ((q.2.2.1 : Nat) : Int) ≤ (Vx j).toInt) : CFp R Vx U T j := Or.inr (Or.inr (Or.inr (Or.inr (Or.inr (Or.inr (Or.inr (Or.inr (Or.inr (Or.inr (Or.inr (Or.inl ⟨hu, hc⟩)))))))))))
theorem CF_i13 (hu : U j = 13) (hc : 3 < (Vx j).toInt) : CFp R Vx U T j := Or.inr (Or.inr (Or.inr (Or.inr (Or.inr (Or.inr (Or.inr (Or.inr (Or.inr (Or.inr (Or.inr (Or.inr (⟨hu, hc⟩))))))))))))
theorem CF_n0 (h : CFp R Vx U T j) : ¬ U j = 0 := by
  intro hu
  unfold CFp at h
  rw [hu] at h
  rcases h with ⟨h, -⟩ | h | h | ⟨h, -⟩ | ⟨h, -⟩ | ⟨h, -⟩ | ⟨h, -⟩ | h | h | h | ⟨h, -⟩ | ⟨h, -⟩ | ⟨h, -⟩
  · exact absurd h (by decide)
  · exact absurd h (by decide)
  · exact absurd h (by decide)
  · exact absurd h (by decide)
  · exact absurd h (by decide)
  · exact absurd h (by decide)
  · exact absurd h (by decide)
  · exact absurd h (by decide)
  · exact absurd h (by decide)
  · exact absurd h (by decide)
  · exact absurd h (by decide)
  · exact absurd h (by decide)
  · exact absurd h (by decide)
theorem mt_no {w t : Nat} : mtP sN T w t = none ↔ ∀ q ∈ T, q.2.1 = w → ¬ sN q.1 t = true := by
  unfold mtP
  rw [List.find?_eq_none]
  constructor
  · intro h q hq e c
    exact h q hq (by simp [e, c])
  · intro h q hq c
    simp at c
    exact h q hq c.1 c.2
theorem mt_so {w t : Nat} {q : Nat × Nat × Nat × Nat} (h : mtP sN T w t = some q) : q ∈ T ∧ q.2.1 = w ∧ sN q.1 t = true := by
  unfold mtP at h
  have a := List.mem_of_find?_eq_some h
  have b := List.find?_some h
  simp at b
  exact ⟨a, b.1, b.2⟩
theorem tdS_mem {w : Nat} {q : Nat × Nat × Nat × Nat} : q ∈ tdS T w ↔ q ∈ T ∧ q.2.1 = w := by
  unfold tdS
  rw [List.mem_filter]
  simp
theorem rw_so {t k : Nat} {q : Nat × Nat × Nat × Nat} (h : rwK R T t k q) : q ∈ T ∧ q.2.1 = 0 ∧ 0 < q.2.2.1 ∧ R q.1 t := by
  obtain ⟨h1, h2, h3, -⟩ := h
  obtain ⟨a, b⟩ := tdS_mem.mp (List.mem_of_getElem? h1)
  exact ⟨a, b, h2, h3⟩
theorem fst_ex {α : Type} {l : List α} {Q : α → Prop} : ∀ (k : Nat) (a : α), l[k]? = some a → Q a → ∃ (k : Nat) (a : α), l[k]? = some a ∧ Q a ∧ ∀ (k' : Nat) (a' : α), k' < k → l[k']? = some a' → ¬ Q a' := by
  intro k
  induction k using Nat.strongRecOn with
  | ind k ih =>
    intro a h hq
    by_cases c : ∃ (k' : Nat) (a' : α), k' < k ∧ l[k']? = some a' ∧ Q a'
    · obtain ⟨k', a', h1, h2, h3⟩ := c
      exact ih k' h1 a' h2 h3
    · exact ⟨k, a, h, hq, fun k' a' h1 h2 h3 => c ⟨k', a', h1, h2, h3⟩⟩
theorem rw_ex {t : Nat} {q : Nat × Nat × Nat × Nat} (h1 : q ∈ T) (h2 : q.2.1 = 0) (h3 : 0 < q.2.2.1) (h4 : R q.1 t) : ∃ k q', rwK R T t k q' := by
  obtain ⟨i, hi, ei⟩ := List.getElem_of_mem (tdS_mem.mpr ⟨h1, h2⟩)
  obtain ⟨k, a, g1, g2, g3⟩ := fst_ex (Q := fun q => 0 < q.2.2.1 ∧ R q.1 t) i q (by rw [List.getElem?_eq_getElem hi, ei]) ⟨h3, h4⟩
  exact ⟨k, a, g1, g2.1, g2.2, fun k' q' z1 z2 z3 z4 => g3 k' q' z1 z2 ⟨z3, z4⟩⟩
/-- no name is told twice -/
def nTw (sN : Nat → Nat → Bool) (T : gTd) : Prop := ∀ (j' j : Nat) (q' q : Nat × Nat × Nat × Nat), j' < j → T[j']? = some q' → T[j]? = some q → ¬ sN q'.1 q.1 = true
theorem nTw_one (hS : ∀ a b, sN a b = true → sN b a = true) (hTr : ∀ a b c, sN a b = true → sN b c = true → sN a c = true) (h : nTw sN T) {q q' : Nat × Nat × Nat × Nat} {t : Nat} (hq : q ∈ T) (hq' : q' ∈ T) (s : sN q.1 t = true) (s' : sN q'.1 t = true) : q = q' := by
  obtain ⟨i, hi, ei⟩ := List.getElem_of_mem hq
  obtain ⟨k, hk, ek⟩ := List.getElem_of_mem hq'
  have gi : T[i]? = some q := by rw [List.getElem?_eq_getElem hi, ei]
  have gk : T[k]? = some q' := by rw [List.getElem?_eq_getElem hk, ek]
  rcases Nat.lt_trichotomy i k with c | c | c
  · exact absurd (hTr _ _ _ s (hS _ _ s')) (h i k q q' c gi gk)
  · rw [c] at gi
    exact Option.some.inj (gi.symm.trans gk)
  · exact absurd (hTr _ _ _ s' (hS _ _ s)) (h k i q' q c gk gi)
theorem plc_no {t : Nat} (h : ∀ q ∈ T, q.2.1 = 0 → q.2.2.1 = 0 → ¬ sN q.1 t = true) : ¬ plc sN T t := by
  rintro ⟨q, e, r⟩
  obtain ⟨a, b, c⟩ := mt_so e
  exact h q a b r c
theorem plc_ye (hS : ∀ a b, sN a b = true → sN b a = true) (hTr : ∀ a b c, sN a b = true → sN b c = true → sN a c = true) (nt : nTw sN T) {t : Nat} (h : ¬ plc sN T t) : ∀ q ∈ T, q.2.1 = 0 → q.2.2.1 = 0 → ¬ sN q.1 t = true := by
  intro q hq e r c
  apply h
  cases hm : mtP sN T 0 t with
  | none => exact absurd c (mt_no.mp hm q hq e)
  | some q' =>
    obtain ⟨a, b, c'⟩ := mt_so hm
    have := nTw_one hS hTr nt hq a c c'
    exact ⟨q', hm, by rw [← this]; exact r⟩
theorem rwc_no {t : Nat} (h : ∀ q ∈ T, q.2.1 = 0 → 0 < q.2.2.1 → ¬ sN q.1 t = true) : ¬ ∃ n, rwc sN T t n := by
  rintro ⟨n, q, e, r, p⟩
  obtain ⟨a, b, c⟩ := mt_so e
  exact h q a b (by omega) c
theorem rwc_ye (hS : ∀ a b, sN a b = true → sN b a = true) (hTr : ∀ a b c, sN a b = true → sN b c = true → sN a c = true) (nt : nTw sN T) {t : Nat} {q : Nat × Nat × Nat × Nat} (hq : q ∈ T) (e : q.2.1 = 0) (r : 0 < q.2.2.1) (c : sN q.1 t = true) : rwc sN T t q.2.2.1 := by
  cases hm : mtP sN T 0 t with
  | none => exact absurd c (mt_no.mp hm q hq e)
  | some q' =>
    obtain ⟨a, b, c'⟩ := mt_so hm
    have := nTw_one hS hTr nt hq a c c'
    exact ⟨q', hm, by rw [← this], r⟩
theorem flt_HA : ∀ {L : gU} {E : gV}, flt sN T V L E → HAs sN U n L E → ∃ v E', v ∈ L ∧ fv sN T V E' v ∧ HAw sN U n E' v := by
  intro L
  induction L with
  | nil => intro E h; exact h.elim
  | cons w L ih =>
    intro E h g
    rcases h with h | h
    · exact ⟨w, E, List.mem_cons_self, h, g.1⟩
    · obtain ⟨v, E', h1, h2⟩ := ih h g.2
      exact ⟨v, E', List.mem_cons_of_mem _ h1, h2⟩
theorem HAs_mem : ∀ {L : gU} {E : gV}, HAs sN U n L E → ∀ v ∈ L, ∃ E', HAw sN U n E' v := by
  intro L
  induction L with
  | nil => intro E _ v hv; cases hv
  | cons w L ih =>
    intro E h v hv
    rcases List.mem_cons.mp hv with e | e
    · rw [e]; exact ⟨E, h.1⟩
    · exact ih h.2 v e
theorem HBs_flt {X : Prop} {u : Int32} : ∀ {L : gU} {E : gV}, HBs sN L E j u → (∀ v E', v ∈ L → HB sN E' v j u → X ∨ fv sN T V E' v) → X ∨ flt sN T V L E := by
  intro L
  induction L with
  | nil => intro E h; exact h.elim
  | cons w L ih =>
    intro E h g
    rcases h with h | h
    · exact (g w E List.mem_cons_self h).imp id Or.inl
    · exact (ih h (fun v E' hv => g v E' (List.mem_cons_of_mem _ hv))).imp id Or.inr
theorem te_mem {q : Nat × Nat × Nat × Nat} (h : q ∈ L.filterMap (te1 K V)) : ∃ v ∈ L, te1 K V v = some q := by
  obtain ⟨v, hv, e⟩ := List.mem_filterMap.mp h
  exact ⟨v, hv, e⟩
theorem te_is {q : Nat × Nat × Nat × Nat} (h : te1 K V v = some q) : (v.1 = 31 ∨ v.1 = 32 ∨ v.1 = 33 ∨ v.1 = 34) ∧ q.1 = v.2.1 ∧ (0 < q.2.2.1 → v.1 = 32 ∧ q.2.2.2 = v.2.2) := by
  unfold te1 at h
  split at h
  · next c => cases Option.some.inj h; exact ⟨Or.inl c, rfl, fun z => absurd z (Nat.lt_irrefl 0)⟩
  · split at h
    · next c => cases Option.some.inj h; exact ⟨Or.inr (Or.inl c), rfl, fun _ => ⟨c, rfl⟩⟩
    · split at h
      · next c => cases Option.some.inj h; exact ⟨Or.inr (Or.inr (Or.inl c)), rfl, fun z => absurd z (Nat.lt_irrefl 0)⟩
      · split at h
        · next c => cases Option.some.inj h; exact ⟨Or.inr (Or.inr (Or.inr c)), rfl, fun z => absurd z (Nat.lt_irrefl 0)⟩
        · exact absurd h (by simp)
theorem te_so (h : v.1 = 31 ∨ v.1 = 32 ∨ v.1 = 33 ∨ v.1 = 34) : ∃ q, te1 K V v = some q ∧ q.1 = v.2.1 := by
  unfold te1
  by_cases c1 : v.1 = 31
  · rw [if_pos c1]; exact ⟨_, rfl, rfl⟩
  · rw [if_neg c1]
    by_cases c2 : v.1 = 32
    · rw [if_pos c2]; exact ⟨_, rfl, rfl⟩
    · rw [if_neg c2]
      by_cases c3 : v.1 = 33
      · rw [if_pos c3]; exact ⟨_, rfl, rfl⟩
      · rw [if_neg c3, if_pos (by omega)]; exact ⟨_, rfl, rfl⟩
theorem prz_1 {w : Nat} : 0 < prz K V w := by
  unfold prz
  split
  · next c =>
    have k1 : (1 : Int32).toInt = 1 := rfl
    have := c.2.1
    rw [t_le, k1] at this
    rw [t_cl]; omega
  · omega
theorem bad8 {w : Int32} : ¬ (1 ≤ w ∧ w ≤ 8) ↔ ¬ (1 ≤ w.toInt ∧ w.toInt ≤ 8) := by
  have k1 : (1 : Int32).toInt = 1 := rfl
  have k8 : (8 : Int32).toInt = 8 := rfl
  rw [t_le, t_le, k1, k8]
/-- two told of one name -/
theorem tw_two (srt : T.Pairwise (fun a b => a.1 < b.1)) {q q' : Nat × Nat × Nat × Nat} (hq : q ∈ T) (hq' : q' ∈ T) (lt : q'.1 < q.1) (s : sN q'.1 q.1 = true) : jT sN V T := by
  obtain ⟨i, hi, ei⟩ := List.getElem_of_mem hq
  obtain ⟨k, hk, ek⟩ := List.getElem_of_mem hq'
  have gi : T[i]? = some q := by rw [List.getElem?_eq_getElem hi, ei]
  have gk : T[k]? = some q' := by rw [List.getElem?_eq_getElem hk, ek]
  have lt2 : k < i := by
    rcases Nat.lt_trichotomy k i with c | c | c
    · exact c
    · rw [c] at gk
      have := Option.some.inj (gk.symm.trans gi)
      rw [this] at lt; omega
    · have := List.pairwise_iff_getElem.mp srt i k hi hk c
      rw [ei, ek] at this; omega
  exact ⟨i, q, gi, Or.inl ⟨k, q', lt2, gk, s⟩⟩
theorem CF_one (hS : ∀ a b, sN a b = true → sN b a = true) (hTr : ∀ a b c, sN a b = true → sN b c = true → sN a c = true) (eT : T = L.filterMap (te1 K V)) (srt : T.Pairwise (fun a b => a.1 < b.1)) (hok : ∀ v ∈ L, oK K v) (hT1 : ∀ q ∈ T, K q.1 = 1 ∧ q.1 < n) (hR : ∀ a b, a < n → b < n → K a = 1 → K b = 1 → (R a b ↔ sN a b = true)) (hVx : ∀ j, j < n → K j = 2 → Vx j = V j) (hj : j < n) (hC : CFp R Vx U T j) (hv : v ∈ L) (hB : HB sN E v j (U j)) : jT sN V T ∨ fv sN T V E v := by
  obtain ⟨a, b, c⟩ := v
  obtain ⟨o1, o2, o3, o4, o5⟩ := hok _ hv
  have cv : ∀ q ∈ T, K j = 1 → (R q.1 j ↔ sN q.1 j = true) := fun q hq k => hR _ _ (hT1 q hq).2 hj (hT1 q hq).1 k
  by_cases nt : nTw sN T
  · unfold HB at hB
    rcases hB with ⟨e, eu, ej, h⟩ | ⟨e, eu, ej⟩ | ⟨e, eu, ej⟩ | ⟨e, eu, ej, ej2⟩ | ⟨e, eu, h⟩ | ⟨e, eu, ej, h⟩ | ⟨e, h, eu⟩ | ⟨e, eu, h, h2⟩ | ⟨e, eu, ej, h, h2⟩ | ⟨e, eu, ej, h⟩ | ⟨e, eu, ej⟩ | ⟨e, eu, ej⟩ | ⟨e, eu, ej⟩ | ⟨e, eu, ej⟩ | ⟨e, eu, ej⟩
    · have e : a = 3 := e
      rw [e]; exact Or.inr (fv_3.mpr h)
    · have e : a = 6 := e
      have ej : j = b := ej
      have kj : K j = 1 := by rw [ej]; exact o1 (by show a ∈ _; rw [e]; decide)
      have this := fun (q : Nat × Nat × Nat × Nat) (hq : q ∈ T) (z0 : q.2.1 = 0) (z1 : q.2.2.1 = 0) (s : sN q.1 j = true) => CF_o6 hC eu q hq z0 z1 ((cv q hq kj).mpr s)
      rw [ej] at this
      rw [e]; exact Or.inr (fv_6.mpr (plc_no this))
    · have e : a = 7 := e
      have ej : j = b := ej
      have kj : K j = 1 := by rw [ej]; exact o1 (by show a ∈ _; rw [e]; decide)
      have this := fun (q : Nat × Nat × Nat × Nat) (hq : q ∈ T) (z0 : q.2.1 = 0) (z1 : 0 < q.2.2.1) (s : sN q.1 j = true) => CF_o7 hC eu q hq z0 z1 ((cv q hq kj).mpr s)
      rw [ej] at this
      rw [e]; exact Or.inr (fv_7.mpr (rwc_no this))
    · have e : a = 12 := e
      have ej : j = b := ej
      have ej2 : j = c + 2 := ej2
      obtain ⟨k9, q, hq, hl⟩ := CF_o12 hC eu
      have e2 : j - 2 = c := by omega
      rw [e2] at hq
      obtain ⟨h1, h2, h3, h4⟩ := rw_so hq
      obtain ⟨kb, kc⟩ := o4 e
      have kb : K b = 2 := kb
      have kc : K c = 1 := kc
      have h4 := (hR _ _ (hT1 q h1).2 (by omega) (hT1 q h1).1 kc).mp h4
      rw [hVx j hj (by rw [ej]; exact kb)] at hl
      rw [e, fv_12]
      refine Or.inr ⟨q.2.2.1, rwc_ye hS hTr nt h1 h2 h3 h4, ?_⟩
      rw [← ej]; exact hl
    · have e : a = 23 := e
      rw [e]; exact Or.inr (fv_23.mpr h)
    · have ej : j = b := ej
      have kj : K j = 1 := by rw [ej]; exact o1 (by show a ∈ _; rcases e with e | e <;> (have e : a = _ := e; rw [e]; decide))
      have this := fun (q : Nat × Nat × Nat × Nat) (hq : q ∈ T) (z0 : q.2.1 = 0) (z1 : q.2.2.1 = 0) (s : sN q.1 j = true) => CF_o6 hC eu q hq z0 z1 ((cv q hq kj).mpr s)
      rw [ej] at this
      rcases e with e | e
      · have e : a = 24 := e
        rw [e]; exact Or.inr (fv_24.mpr ⟨h, plc_no this⟩)
      · have e : a = 25 := e
        rw [e]; exact Or.inr (fv_25.mpr ⟨h, plc_no this⟩)
    · have e : a = 26 := e
      rw [e]; exact Or.inr (fv_26.mpr h)
    · have e : a = 27 := e
      rw [e]; exact Or.inr (fv_27.mpr (Or.inl ⟨h, Or.inl h2⟩))
    · have e : a = 27 := e
      have ej : j = c := ej
      have kj : K j = 1 := by rw [ej]; exact (o2 e).2
      have this := fun (q : Nat × Nat × Nat × Nat) (hq : q ∈ T) (z0 : q.2.1 = 0) (z1 : q.2.2.1 = 0) (s : sN q.1 j = true) => CF_o6 hC eu q hq z0 z1 ((cv q hq kj).mpr s)
      rw [ej] at this
      rw [e]; exact Or.inr (fv_27.mpr (Or.inl ⟨h, Or.inr (plc_no this)⟩))
    · have e : a = 27 := e
      have ej : j = b := ej
      have kj : K j = 1 := by rw [ej]; exact (o2 e).1
      have this := fun (q : Nat × Nat × Nat × Nat) (hq : q ∈ T) (z0 : q.2.1 = 0) (z1 : q.2.2.1 = 0) (s : sN q.1 j = true) => CF_o6 hC eu q hq z0 z1 ((cv q hq kj).mpr s)
      rw [ej] at this
      rw [e]; exact Or.inr (fv_27.mpr (Or.inr ⟨h, plc_no this⟩))
    · have e : a = 65 ∨ a = 66 := e
      have ej : j = c := ej
      have kj : K j = 1 := by rw [ej]; exact o3 (by show a ∈ _; rcases e with e | e <;> (rw [e]; decide))
      have this := fun (q : Nat × Nat × Nat × Nat) (hq : q ∈ T) (z0 : q.2.1 = 1) (s : sN q.1 j = true) => CF_o4 hC eu q hq z0 ((cv q hq kj).mpr s)
      rw [ej] at this
      exact Or.inr ((fv_lk e).mpr (mt_no.mpr this))
    · have e : a = 67 := e
      have ej : j = c := ej
      have kj : K j = 1 := by rw [ej]; exact o3 (by show a ∈ _; rw [e]; decide)
      have this := fun (q : Nat × Nat × Nat × Nat) (hq : q ∈ T) (z0 : q.2.1 = 2) (s : sN q.1 j = true) => CF_o5 hC eu q hq z0 ((cv q hq kj).mpr s)
      rw [ej] at this
      rw [e]; exact Or.inr (fv_67.mpr (mt_no.mpr this))
    · have e : a = 70 := e
      have ej : j = c := ej
      have := CF_o13 hC eu
      have kc : K c = 2 := o5 (by show a ∈ _; rw [e]; decide)
      rw [hVx j hj (by rw [ej]; exact kc), ej] at this
      rw [e]; exact Or.inr (fv_70.mpr this)
    · have ej : j = b := ej
      obtain ⟨q', hq', lt, s⟩ := CF_o1 hC eu
      obtain ⟨q, hq, e1⟩ := te_so (K := K) (V := V) e
      have e1 : q.1 = b := e1
      have hm : q ∈ T := by rw [eT]; exact List.mem_filterMap.mpr ⟨_, hv, hq⟩
      have kj : K j = 1 := by
        have := (hT1 q hm).1
        rw [ej, ← e1]; exact this
      refine Or.inl (tw_two srt hm hq' ?_ ?_)
      · rw [e1, ← ej]; exact lt
      · rw [e1, ← ej]; exact (cv q' hq' kj).mp s
    · have e : a = 32 := e
      have ej : j = c := ej
      have := CF_o11 hC eu
      have kc : K c = 2 := o5 (by show a ∈ _; rw [e]; decide)
      rw [hVx j hj (by rw [ej]; exact kc), ej] at this
      have hm : (b, 0, prz K V c, c) ∈ T := by
        rw [eT]
        refine List.mem_filterMap.mpr ⟨_, hv, ?_⟩
        rw [e]; rfl
      obtain ⟨i, hi, ei⟩ := List.getElem_of_mem hm
      exact Or.inl ⟨i, _, by rw [List.getElem?_eq_getElem hi, ei], Or.inr ⟨prz_1, bad8.mpr this⟩⟩
  · refine Or.inl ?_
    unfold nTw at nt
    have : ∃ (j' j : Nat) (q' q : Nat × Nat × Nat × Nat), j' < j ∧ T[j']? = some q' ∧ T[j]? = some q ∧ sN q'.1 q.1 = true := by
      refine Classical.byContradiction (fun z => nt (fun j' j q' q h1 h2 h3 h4 => z ⟨j', j, q', q, h1, h2, h3, h4⟩))
    obtain ⟨j', j, q', q, h1, h2, h3, h4⟩ := this
    exact ⟨j, q, h3, Or.inl ⟨j', q', h1, h2, h4⟩⟩
theorem CF_jT (eT : T = L.filterMap (te1 K V)) (srt : T.Pairwise (fun a b => a.1 < b.1)) (hok : ∀ v ∈ L, oK K v) (hT1 : ∀ q ∈ T, K q.1 = 1 ∧ q.1 < n) (hR : ∀ a b, a < n → b < n → K a = 1 → K b = 1 → (R a b ↔ sN a b = true)) (hVx : ∀ j, j < n → K j = 2 → Vx j = V j) (hA : HAs sN U n L E) (h : jT sN V T) : ∃ j, j < n ∧ CFp R Vx U T j := by
  obtain ⟨i, q, hq, h⟩ := h
  have hm : q ∈ T := List.mem_of_getElem? hq
  have hm2 := hm
  rw [eT] at hm2
  obtain ⟨v, hv, ev⟩ := te_mem hm2
  obtain ⟨e1, e2, e3⟩ := te_is ev
  obtain ⟨E', g⟩ := HAs_mem hA v hv
  rcases h with ⟨k, q', lt, hq', s⟩ | ⟨h1, h2⟩
  · obtain ⟨hi, ei⟩ := List.getElem?_eq_some_iff.mp hq
    obtain ⟨hk, ek⟩ := List.getElem?_eq_some_iff.mp hq'
    have l2 := List.pairwise_iff_getElem.mp srt k i hk hi lt
    rw [ei, ek, e2] at l2
    rw [e2] at s
    obtain ⟨b1, b2⟩ := g.2.2.2.2.2.2.2.2.2.2.2.2.1 e1
    have hm' := List.mem_of_getElem? hq'
    have kv : K v.2.1 = 1 := by rw [← e2]; exact (hT1 q hm).1
    exact ⟨v.2.1, b1, CF_i1 b2 ⟨q', hm', l2, (hR _ _ (hT1 q' hm').2 b1 (hT1 q' hm').1 kv).mpr s⟩⟩
  · obtain ⟨c1, c2⟩ := e3 h1
    obtain ⟨b1, b2⟩ := g.2.2.2.2.2.2.2.2.2.2.2.2.2 c1
    rw [c2] at h2
    have kw : K v.2.2 = 2 := (hok v hv).2.2.2.2 (by rw [c1]; decide)
    exact ⟨v.2.2, b1, CF_i11 b2 (by rw [hVx _ b1 kw]; exact bad8.mp h2)⟩
theorem CF_fv (hS : ∀ a b, sN a b = true → sN b a = true) (hTr : ∀ a b c, sN a b = true → sN b c = true → sN a c = true) (nt : nTw sN T) (hok : oK K v) (hT1 : ∀ q ∈ T, K q.1 = 1 ∧ q.1 < n) (hR : ∀ a b, a < n → b < n → K a = 1 → K b = 1 → (R a b ↔ sN a b = true)) (hVx : ∀ j, j < n → K j = 2 → Vx j = V j) (hg : HAw sN U n E v) (h : fv sN T V E v) : ∃ j, j < n ∧ CFp R Vx U T j := by
  obtain ⟨a, b, c⟩ := v
  obtain ⟨g1, g2, g3, g4, g5, g6, g7, g8, g9, g10, g11, g12, g13, g14⟩ := hg
  obtain ⟨o1, o2, o3, o4, o5⟩ := hok
  have cv : ∀ (t : Nat), t < n → K t = 1 → ∀ q ∈ T, R q.1 t → sN q.1 t = true := fun t ht k q hq s => (hR _ _ (hT1 q hq).2 ht (hT1 q hq).1 k).mp s
  have pl : ∀ t, t < n → K t = 1 → U t = 6 → ¬ plc sN T t → CFp R Vx U T t := fun t ht k hu hp => CF_i6 hu (fun q hq e0 r s => plc_ye hS hTr nt hp q hq e0 r (cv t ht k q hq s))
  have kb : a ∈ [3, 6, 7, 23, 24, 25, 26, 31, 32, 33, 34] → K b = 1 := o1
  unfold fv at h
  rcases h with ⟨e, h⟩ | ⟨e, h⟩ | ⟨e, h⟩ | ⟨e, h⟩ | ⟨e, h⟩ | ⟨e, h, h2⟩ | ⟨e, h, h2⟩ | ⟨e, h⟩ | ⟨e, h, h2⟩ | ⟨e, h, h2⟩ | ⟨e, h⟩ | ⟨e, h⟩ | ⟨e, h⟩
  · obtain ⟨z1, z2⟩ := g1 e
    exact ⟨b, z1, CF_i3 (z2 h)⟩
  · obtain ⟨z1, z2⟩ := g2 e
    have e : a = 6 := e
    exact ⟨b, z1, pl b z1 (kb (by rw [e]; decide)) z2 h⟩
  · obtain ⟨z1, z2⟩ := g3 e
    rcases z2 with z2 | z2
    · have e : a = 7 := e
      refine ⟨b, z1, CF_i7 z2 (fun q hq e0 r s => h ⟨_, rwc_ye hS hTr nt hq e0 r (cv b z1 (kb (by rw [e]; decide)) q hq s)⟩)⟩
    · exact ⟨b, z1, CF_i9 z2⟩
  · obtain ⟨z1, z2, z3⟩ := g4 e
    obtain ⟨m, ⟨q, hm, er, p⟩, hl⟩ := h
    obtain ⟨m1, m2, m3⟩ := mt_so hm
    refine ⟨b, z1, CF_i12 z2 ?_⟩
    have z3 : b = c + 2 := z3
    have eb : b - 2 = c := by omega
    rw [eb]
    obtain ⟨kb2, kc⟩ := o4 e
    have kb2 : K b = 2 := kb2
    have kc : K c = 1 := kc
    have cn : c < n := by
      have : b < n := z1
      omega
    obtain ⟨k', q', hr⟩ := rw_ex (R := R) m1 m2 (by omega) ((hR _ _ (hT1 q m1).2 cn (hT1 q m1).1 kc).mpr m3)
    obtain ⟨r1, r2, r3, r4⟩ := rw_so hr
    have := nTw_one hS hTr nt r1 m1 (cv c cn kc q' r1 r4) m3
    refine ⟨k', q', hr, ?_⟩
    rw [this, er, hVx b z1 kb2]; exact hl
  · obtain ⟨z1, z2⟩ := g5 e
    exact ⟨b, z1, CF_i2 (z2 h)⟩
  · obtain ⟨z1, z2⟩ := g6 (Or.inl e)
    have e : a = 24 := e
    exact ⟨b, z1, pl b z1 (kb (by rw [e]; decide)) (z2 h) h2⟩
  · obtain ⟨z1, z2⟩ := g6 (Or.inr e)
    have e : a = 25 := e
    exact ⟨b, z1, pl b z1 (kb (by rw [e]; decide)) (z2 h) h2⟩
  · obtain ⟨j, z1, z2⟩ := g7 e h
    exact ⟨j, z1, z2.elim CF_i9 CF_i10⟩
  · obtain ⟨z1, z2⟩ := g8 e
    by_cases ka : kfi sN E.1 b = none
    · exact ⟨c, z1, CF_i8 ((z2 h).1 ka)⟩
    · exact ⟨c, z1, pl c z1 (o2 e).2 ((z2 h).2 ka) (h2.resolve_left ka)⟩
  · obtain ⟨z1, z2⟩ := g9 e
    exact ⟨b, z1, pl b z1 (o2 e).1 (z2 h) h2⟩
  · obtain ⟨z1, z2⟩ := g10 e
    have kc : K c = 1 := o3 (by show a ∈ _; rcases e with e | e <;> (have e : a = _ := e; rw [e]; decide))
    exact ⟨c, z1, CF_i4 z2 (fun q hq e0 s => mt_no.mp h q hq e0 (cv c z1 kc q hq s))⟩
  · obtain ⟨z1, z2⟩ := g11 e
    have kc : K c = 1 := o3 (by show a ∈ _; have e : a = _ := e; rw [e]; decide)
    exact ⟨c, z1, CF_i5 z2 (fun q hq e0 s => mt_no.mp h q hq e0 (cv c z1 kc q hq s))⟩
  · obtain ⟨z1, z2⟩ := g12 e
    have kc : K c = 2 := o5 (by show a ∈ _; have e : a = _ := e; rw [e]; decide)
    exact ⟨c, z1, CF_i13 z2 (by rw [hVx c z1 kc]; exact h)⟩
theorem CF_is (hS : ∀ a b, sN a b = true → sN b a = true) (hTr : ∀ a b c, sN a b = true → sN b c = true → sN a c = true) (eT : T = L.filterMap (te1 K V)) (srt : T.Pairwise (fun a b => a.1 < b.1)) (hok : ∀ v ∈ L, oK K v) (hT1 : ∀ q ∈ T, K q.1 = 1 ∧ q.1 < n) (hR : ∀ a b, a < n → b < n → K a = 1 → K b = 1 → (R a b ↔ sN a b = true)) (hVx : ∀ j, j < n → K j = 2 → Vx j = V j) (hA : HAs sN U n L E0v) (hB : ∀ j, j < n → ¬ U j = 0 → HBs sN L E0v j (U j)) : (∃ j, j < n ∧ CFp R Vx U T j) ↔ jFl sN K V L := by
  unfold jFl
  rw [← eT]
  constructor
  · rintro ⟨j, hj, hC⟩
    exact HBs_flt (hB j hj (CF_n0 hC)) (fun v E' hv hb => CF_one hS hTr eT srt hok hT1 hR hVx hj hC hv hb)
  · intro h
    by_cases nt : jT sN V T
    · exact CF_jT eT srt hok hT1 hR hVx hA nt
    · rcases h with h | h
      · exact absurd h nt
      · obtain ⟨v, E', hv, hf, hg⟩ := flt_HA h hA
        refine CF_fv hS hTr (fun j' j q' q h1 h2 h3 h4 => nt ⟨j, q, h3, Or.inl ⟨j', q', h1, h2, h4⟩⟩) (hok v hv) hT1 hR hVx hg hf
end CFJ
end
section
/-! the class's judge -/
section KJF
variable {G : kG} {q : kP} {d : Nat} {x : gd} {F : Int32 → gd → Prop} {T : gTd}
theorem kf_numberOf (hq : kV q) (hT : kT x) {a1 n1 : Nat} (ka1 : kK a1 = .inr (.int, n1)) (ma1 : a1 ∈ (kf q).2.1) (m t : Int32) (h0 : 0 ≤ m.toInt) (hn : m.toInt ≤ n1) (hk : ∀ i : Nat, (i : Int) < m.toInt → tk x (x.1 a1 i)) (ht : tk x t) (h : ∀ r : Int32, ((r = -1 ∧ ∀ i : Nat, (i : Int) < m.toInt → ¬ smk x (x.1 a1 i).toNatClampNeg t.toNatClampNeg) ∨ ((0 ≤ r.toInt ∧ r.toInt < m.toInt) ∧ ∃ i : Nat, (i : Int) < m.toInt ∧ r.toInt = (i : Nat) ∧ smk x (x.1 a1 i).toNatClampNeg t.toNatClampNeg)) → F r x) : KT G q (d + 1) zk_X6_numberOf 0 [(0, vr 40), (1, vr a1), (2, vi m), (3, vi t)] [] x (ri F) := by
  have loop : ∀ (n : Nat) (i : Int32), 0 ≤ i.toInt → m.toInt - i.toInt ≤ n → (∀ k : Nat, (k : Int) < i.toInt → ¬ smk x (x.1 a1 k).toNatClampNeg t.toNatClampNeg) → KT G q (d + 1) zk_X6_numberOf 3 [(0, vr 40), (1, vr a1), (2, vi m), (3, vi t), (4, vi i)] [] x (ri F) := by
    intro n
    induction n with
    | zero =>
      intro i i0 hn no
      refine kg_X6_numberOf_3 hq ka1 ma1 _ _ _ ⟨fun _ => ri_i (h _ (Or.inl ⟨rfl, fun k hk => no k (by omega)⟩)), fun c => ?_⟩
      exfalso; rw [t_le] at c; omega
    | succ n ih =>
      intro i i0 hn no
      refine kg_X6_numberOf_3 hq ka1 ma1 _ _ _ ⟨fun c => ri_i (h _ (Or.inl ⟨rfl, fun k hk => no k (by rw [t_le] at c; omega)⟩)), fun c => ?_⟩
      rw [t_le] at c
      have rm := t_rg m
      have ui := t_cl i
      have e1 : (i + 1).toInt = i.toInt + 1 := t_add (by show _ ≤ _ + (1 : Int); omega) (by show _ + (1 : Int) ≤ _; omega)
      have lt : ((i.toNatClampNeg : Nat) : Int) < m.toInt := by omega
      have v1 : vp_in i n1 := by rw [vp_in_iff]; omega
      have v2 : 0 ≤ (i + 1).toInt := by omega
      have v3 : m.toInt - (i + 1).toInt ≤ n := by omega
      refine ⟨v1, kf_sameName hq hT _ _ (hk _ lt) ht (fun r hr => ⟨fun c0 => ih _ v2 v3 (fun k hk => ?_), fun c0 => ri_i (h _ (Or.inr ⟨⟨i0, by omega⟩, i.toNatClampNeg, lt, by omega, hr.mp c0⟩))⟩)⟩
      by_cases ck : k = i.toNatClampNeg
      · rw [ck]; exact fun z => hr.mpr z c0
      · exact no k (by omega)
  exact kg_X6_numberOf_0 hq ka1 ma1 _ _ (loop m.toInt.toNat _ (by decide) (by show _ - (0 : Int) ≤ _; omega) (fun k hk => absurd hk (by show ¬ (k : Int) < 0; omega)))
theorem kf_isAmong (hq : kV q) (hT : kT x) {a1 n1 : Nat} (ka1 : kK a1 = .inr (.int, n1)) (ma1 : a1 ∈ (kf q).2.1) (m t : Int32) (h0 : 0 ≤ m.toInt) (hn : m.toInt ≤ n1) (hk : ∀ i : Nat, (i : Int) < m.toInt → tk x (x.1 a1 i)) (ht : tk x t) (h : ∀ r : Int32, (¬ r = 0 ↔ ∃ i : Nat, (i : Int) < m.toInt ∧ (x.1 a1 i).toNatClampNeg < t.toNatClampNeg ∧ smk x (x.1 a1 i).toNatClampNeg t.toNatClampNeg) → F r x) : KT G q (d + 1) zk_X6_isAmong 0 [(0, vr 40), (1, vr a1), (2, vi m), (3, vi t)] [] x (ri F) := by
  have ut := t_cl t
  have ht0 := ht.1
  have no1 : ∀ i : Int32, m.toInt ≤ i.toInt → (∀ k : Nat, (k : Int) < i.toInt → ¬ ((x.1 a1 k).toNatClampNeg < t.toNatClampNeg ∧ smk x (x.1 a1 k).toNatClampNeg t.toNatClampNeg)) → F 0 x := fun i hi no => h _ ⟨fun z => absurd rfl z, fun ⟨k, k1, k2⟩ => absurd k2 (no k (by omega))⟩
  have loop : ∀ (n : Nat) (i : Int32), 0 ≤ i.toInt → m.toInt - i.toInt ≤ n → (∀ k : Nat, (k : Int) < i.toInt → ¬ ((x.1 a1 k).toNatClampNeg < t.toNatClampNeg ∧ smk x (x.1 a1 k).toNatClampNeg t.toNatClampNeg)) → KT G q (d + 1) zk_X6_isAmong 3 [(0, vr 40), (1, vr a1), (2, vi m), (3, vi t), (4, vi i)] [] x (ri F) := by
    intro n
    induction n with
    | zero =>
      intro i i0 hn no
      refine kg_X6_isAmong_3 hq ka1 ma1 _ _ _ ⟨fun _ => ri_i (no1 i (by omega) no), fun c => ?_⟩
      exfalso; rw [t_le] at c; omega
    | succ n ih =>
      intro i i0 hn no
      refine kg_X6_isAmong_3 hq ka1 ma1 _ _ _ ⟨fun c => ri_i (no1 i (by rw [t_le] at c; exact c) no), fun c => ?_⟩
      rw [t_le] at c
      have rm := t_rg m
      have ui := t_cl i
      have e1 : (i + 1).toInt = i.toInt + 1 := t_add (by show _ ≤ _ + (1 : Int); omega) (by show _ + (1 : Int) ≤ _; omega)
      have vin : vp_in i n1 := by rw [vp_in_iff]; omega
      have lt : ((i.toNatClampNeg : Nat) : Int) < m.toInt := by omega
      have v2 : 0 ≤ (i + 1).toInt := by omega
      have v3 : m.toInt - (i + 1).toInt ≤ n := by omega
      have hti := (hk _ lt).1
      have ua := t_cl (x.1 a1 i.toNatClampNeg)
      have go : ¬ ((x.1 a1 i.toNatClampNeg).toNatClampNeg < t.toNatClampNeg ∧ smk x (x.1 a1 i.toNatClampNeg).toNatClampNeg t.toNatClampNeg) → KT G q (d + 1) zk_X6_isAmong 3 [(0, vr 40), (1, vr a1), (2, vi m), (3, vi t), (4, vi (i + 1))] [] x (ri F) := fun ni => ih _ v2 v3 (fun k hk => by
        by_cases ck : k = i.toNatClampNeg
        · rw [ck]; exact ni
        · exact no k (by omega))
      refine ⟨vin, fun c2 => go (fun z => ?_), fun c2 => ⟨vin, kf_sameName hq hT _ _ (hk _ lt) ht (fun r hr => ⟨fun c0 => go (fun z => absurd c0 (hr.mpr z.2)), fun c0 => ri_i (h _ ⟨fun _ => ⟨i.toNatClampNeg, lt, ?_, hr.mp c0⟩, fun _ => by decide⟩)⟩)⟩⟩
      · rw [t_le] at c2
        have := z.1
        omega
      · rw [t_le] at c2
        omega
  exact kg_X6_isAmong_0 hq ka1 ma1 _ _ (loop m.toInt.toNat _ (by decide) (by show _ - (0 : Int) ≤ _; omega) (fun k hk => absurd hk (by show ¬ (k : Int) < 0; omega)))
/-- a table's places, and what was told -/
theorem tb_ex {l : gTd} {m : Int32} {a : Nat → Int32} {Q : Nat → Prop} (hl : m.toInt = (l.length : Nat)) (he : ∀ (i : Nat) (q : Nat × Nat × Nat × Nat), l[i]? = some q → (a i).toNatClampNeg = q.1) : (∃ i : Nat, (i : Int) < m.toInt ∧ Q (a i).toNatClampNeg) ↔ ∃ q ∈ l, Q q.1 := by
  constructor
  · rintro ⟨i, hi, h⟩
    have il : i < l.length := by omega
    refine ⟨l[i], List.getElem_mem il, ?_⟩
    rw [← he i _ (List.getElem?_eq_getElem il)]; exact h
  · rintro ⟨q, hq, h⟩
    obtain ⟨i, hi, ei⟩ := List.getElem_of_mem hq
    refine ⟨i, by omega, ?_⟩
    rw [he i q (by rw [List.getElem?_eq_getElem hi, ei])]; exact h
theorem kf_isToldBefore (hq : kV q) (hT : kT x) (hN : NM x) (hTb : TBk x T) (hs : ∀ q ∈ T, q.2.1 = 0 ∨ q.2.1 = 1 ∨ q.2.1 = 2) (t : Int32) (ht : tk x t) (h : ∀ r : Int32, (¬ r = 0 ↔ ∃ q ∈ T, q.1 < t.toNatClampNeg ∧ smk x q.1 t.toNatClampNeg) → F r x) : KT G q (d + 2) zk_X6_isToldBefore 0 [(0, vr 40), (1, vi t)] [] x (ri F) := by
  obtain ⟨⟨a0, a1⟩, ⟨b0, b1⟩, ⟨c0, c1⟩, hc, hl, hh⟩ := hN
  obtain ⟨⟨p1, p2, p3⟩, ⟨q1, q2⟩, r1, r2⟩ := hTb
  have t0 := tb_ex (Q := fun k => k < t.toNatClampNeg ∧ smk x k t.toNatClampNeg) p1 (fun i q hq => (p3 i q hq).1)
  have t1 := tb_ex (Q := fun k => k < t.toNatClampNeg ∧ smk x k t.toNatClampNeg) q1 q2
  have t2 := tb_ex (Q := fun k => k < t.toNatClampNeg ∧ smk x k t.toNatClampNeg) r1 r2
  have yes : ∀ w r, ¬ r = (0 : Int32) → (∃ q ∈ tdS T w, q.1 < t.toNatClampNeg ∧ smk x q.1 t.toNatClampNeg) → F r x := fun w r hr ⟨q, hq, hp⟩ => h r ⟨fun _ => ⟨q, (tdS_mem.mp hq).1, hp⟩, fun _ => hr⟩
  refine kg_X6_isToldBefore_0 hq _ (kf_isAmong hq hT kk_44 (kl_44 hq) _ _ a0 a1 (fun i hi => (hc i hi).1) ht (fun r hr => ⟨fun z => ri_i (yes 0 _ (by decide) (t0.mp (hr.mp z))), fun z => kf_isAmong hq hT kk_48 (kl_48 hq) _ _ b0 b1 hl ht (fun r' hr' => ⟨fun z' => ri_i (yes 1 _ (by decide) (t1.mp (hr'.mp z'))), fun z' => kf_isAmong hq hT kk_50 (kl_50 hq) _ _ c0 c1 hh ht (fun r2 hr2 => ⟨fun z2 => ri_i (h _ ⟨fun w => absurd rfl w, fun ⟨q, hq, hp⟩ => ?_⟩), fun z2 => ri_i (yes 2 _ (by decide) (t2.mp (hr2.mp z2)))⟩)⟩)⟩))
  exfalso
  rcases hs q hq with e | e | e
  · exact hr.mpr (t0.mpr ⟨q, tdS_mem.mpr ⟨hq, e⟩, hp⟩) z
  · exact hr'.mpr (t1.mpr ⟨q, tdS_mem.mpr ⟨hq, e⟩, hp⟩) z'
  · exact hr2.mpr (t2.mpr ⟨q, tdS_mem.mpr ⟨hq, e⟩, hp⟩) z2
theorem kf_cellOf (hq : kV q) (hT : kT x) (hN : NM x) (t b : Int32) (hb : b = 0 ∨ b = 1) (ht : tk x t) (h : ∀ r : Int32, ((r = -1 ∧ ∀ i : Nat, (i : Int) < (x.1 40 6).toInt → (0 < (x.1 46 i).toInt ↔ b = 1) → ¬ smk x (x.1 44 i).toNatClampNeg t.toNatClampNeg) ∨ ((0 ≤ r.toInt ∧ r.toInt < (x.1 40 6).toInt) ∧ ∃ i : Nat, (i : Int) < (x.1 40 6).toInt ∧ r.toInt = (i : Nat) ∧ (0 < (x.1 46 i).toInt ↔ b = 1) ∧ smk x (x.1 44 i).toNatClampNeg t.toNatClampNeg ∧ ∀ k : Nat, k < i → (0 < (x.1 46 k).toInt ↔ b = 1) → ¬ smk x (x.1 44 k).toNatClampNeg t.toNatClampNeg)) → F r x) : KT G q (d + 1) zk_X6_cellOf 0 [(0, vr 40), (1, vi t), (2, vi b)] [] x (ri F) := by
  obtain ⟨⟨a0, a1⟩, -, -, hc, -⟩ := hN
  have k0 : (0 : Int32).toInt = 0 := rfl
  have loop : ∀ (n : Nat) (i : Int32), 0 ≤ i.toInt → (x.1 40 6).toInt - i.toInt ≤ n → (∀ k : Nat, (k : Int) < i.toInt → (0 < (x.1 46 k).toInt ↔ b = 1) → ¬ smk x (x.1 44 k).toNatClampNeg t.toNatClampNeg) → KT G q (d + 1) zk_X6_cellOf 2 [(0, vr 40), (1, vi t), (2, vi b), (3, vi i)] [] x (ri F) := by
    intro n
    induction n with
    | zero =>
      intro i i0 hn no
      refine kg_X6_cellOf_2 hq _ _ _ ⟨fun _ => ri_i (h _ (Or.inl ⟨rfl, fun k hk => no k (by omega)⟩)), fun c => ?_⟩
      exfalso; rw [t_le] at c; omega
    | succ n ih =>
      intro i i0 hn no
      refine kg_X6_cellOf_2 hq _ _ _ ⟨fun c => ri_i (h _ (Or.inl ⟨rfl, fun k hk => no k (by rw [t_le] at c; omega)⟩)), fun c => ?_⟩
      rw [t_le] at c
      have ui := t_cl i
      have e1 : (i + 1).toInt = i.toInt + 1 := t_add (by show _ ≤ _ + (1 : Int); omega) (by show _ + (1 : Int) ≤ _; omega)
      have vin : vp_in i 24 := by rw [vp_in_iff]; omega
      have lt : ((i.toNatClampNeg : Nat) : Int) < (x.1 40 6).toInt := by omega
      have ei : i.toInt = ((i.toNatClampNeg : Nat) : Int) := by omega
      have v2 : 0 ≤ (i + 1).toInt := by omega
      have v3 : (x.1 40 6).toInt - (i + 1).toInt ≤ n := by omega
      have v4 : i.toInt < (x.1 40 6).toInt := by omega
      have go : ((0 < (x.1 46 i.toNatClampNeg).toInt ↔ b = 1) → ¬ smk x (x.1 44 i.toNatClampNeg).toNatClampNeg t.toNatClampNeg) → KT G q (d + 1) zk_X6_cellOf 2 [(0, vr 40), (1, vi t), (2, vi b), (3, vi (i + 1))] [] x (ri F) := fun ni => ih _ v2 v3 (fun k hk => by
        by_cases ck : k = i.toNatClampNeg
        · rw [ck]; exact ni
        · exact no k (by omega))
      have mid : ∀ s : Int32, (s = b ↔ (0 < (x.1 46 i.toNatClampNeg).toInt ↔ b = 1)) → KT G q (d + 1) zk_X6_cellOf 24 [(0, vr 40), (1, vi t), (2, vi b), (3, vi i)] [vi s] x (ri F) := fun s hs => kg_X6_cellOf_24 hq _ _ _ _ ⟨fun c2 => go (fun z => absurd (hs.mpr z) c2), fun c2 => ⟨vin, kf_sameName hq hT _ _ (hc _ lt).1 ht (fun r hr => ⟨fun c0 => go (fun _ z => absurd c0 (hr.mpr z)), fun c0 => ri_i (h _ (Or.inr ⟨⟨i0, v4⟩, i.toNatClampNeg, lt, ei, hs.mp c2, hr.mp c0, fun k hk => no k (by omega)⟩))⟩)⟩⟩
      refine ⟨vin, fun c2 => mid 0 ?_, fun c2 => mid 1 ?_⟩
      · rw [t_le, k0] at c2
        rcases hb with e | e
        · rw [e]; exact ⟨fun _ => ⟨fun z => absurd z (by omega), fun z => absurd z (by decide)⟩, fun _ => rfl⟩
        · rw [e]; exact ⟨fun z => absurd z (by decide), fun z => absurd (z.mpr rfl) (by omega)⟩
      · rw [t_le, k0] at c2
        rcases hb with e | e
        · rw [e]; exact ⟨fun z => absurd z (by decide), fun z => absurd (z.mp (by omega)) (by decide)⟩
        · rw [e]; exact ⟨fun _ => ⟨fun _ => rfl, fun _ => by omega⟩, fun _ => rfl⟩
  exact kg_X6_cellOf_0 hq _ _ (loop (x.1 40 6).toInt.toNat _ (by decide) (by show _ - (0 : Int) ≤ _; omega) (fun k hk => absurd hk (by show ¬ (k : Int) < 0; omega)))
/-- what a name means: the told lock, thread or cell -/
def MNg (R : Nat → Nat → Prop) (T : gTd) (U W : Nat → Int32) (j : Nat) : Prop := (U j = 4 → ∃ (k : Nat) (q : Nat × Nat × Nat × Nat), (W j).toInt = (k : Nat) ∧ (tdS T 1)[k]? = some q ∧ R q.1 j) ∧ (U j = 5 → ∃ (k : Nat) (q : Nat × Nat × Nat × Nat), (W j).toInt = (k : Nat) ∧ (tdS T 2)[k]? = some q ∧ R q.1 j) ∧ (U j = 6 ∨ U j = 7 → ∃ (k : Nat) (q : Nat × Nat × Nat × Nat), (W j).toInt = (k : Nat) ∧ (tdS T 0)[k]? = some q ∧ R q.1 j)
theorem MNg_w {R : Nat → Nat → Prop} {U W W' : Nat → Int32} {j : Nat} (e : W' j = W j) (h : MNg R T U W j) : MNg R T U W' j := by
  unfold MNg
  rw [e]
  exact h
theorem MNg_no {R : Nat → Nat → Prop} {U W : Nat → Int32} {j : Nat} {u : Int32} (hu : U j = u) (h : ¬ u = 4 ∧ ¬ u = 5 ∧ ¬ u = 6 ∧ ¬ u = 7) : MNg R T U W j := ⟨fun z => absurd (hu.symm.trans z) h.1, fun z => absurd (hu.symm.trans z) h.2.1, fun z => z.elim (fun z => absurd (hu.symm.trans z) h.2.2.1) (fun z => absurd (hu.symm.trans z) h.2.2.2)⟩
/-- what a judged token's verdict says -/
def JV (x : gd) (T : gTd) (j : Nat) (r : Int32) (y : gd) : Prop := (r = 0 → JM y j) ∧ (r = 0 ↔ ¬ CFp (smk x) (x.1 27) (x.1 42) T j) ∧ (r = 0 → x.1 42 j = 7 → ∃ (k : Nat) (q : Nat × Nat × Nat × Nat), (y.1 43 j).toInt = (k : Nat) ∧ rwK (smk x) T j k q) ∧ (r = 0 → MNg (smk x) T (x.1 42) (y.1 43) j)
theorem JV_no {j : Nat} {r : Int32} {y : gd} (hr : ¬ r = 0) (h : CFp (smk x) (x.1 27) (x.1 42) T j) : JV x T j r y := ⟨fun z => absurd z hr, ⟨fun z => absurd z hr, fun z => absurd h z⟩, fun z => absurd z hr, fun z => absurd z hr⟩
theorem JV_ye {j : Nat} {y : gd} {u : Int32} (hu : x.1 42 j = u) (h7 : ¬ u = 7) (hj : JM y j) (hm : MNg (smk x) T (x.1 42) (y.1 43) j) (h : ¬ CFp (smk x) (x.1 27) (x.1 42) T j) : JV x T j 0 y := ⟨fun _ => hj, ⟨fun _ => h, fun _ => rfl⟩, fun _ z => absurd (hu.symm.trans z) h7, fun _ => hm⟩
theorem kf_faultOfCell (hq : kV q) (hT : kT x) (hN : NM x) (hTb : TBk x T) (i : Int32) {j : Nat} (ei : i.toInt = j) (ht : tk x i) (hU : x.1 42 j = 6 ∨ x.1 42 j = 7 ∨ x.1 42 j = 8 ∨ x.1 42 j = 9) (h : ∀ r y, fm (fun c k => c = 43 ∧ k = j) x y → JV x T j r y → F r y) : KT G q (d + 2) zk_X6_faultOfCell 0 [(0, vr 40), (1, vi i)] [] x (ri F) := by
  have vin := (kT_at hT ht).1
  have ej : i.toNatClampNeg = j := by rw [t_cl, ei]; rfl
  obtain ⟨p1, p2, p3⟩ := hTb.1
  have at0 : ∀ (k : Nat), (k : Int) < (x.1 40 6).toInt → ∃ q, (tdS T 0)[k]? = some q ∧ (x.1 44 k).toNatClampNeg = q.1 ∧ (x.1 46 k).toInt = (q.2.2.1 : Nat) := fun k hk => by
    have il : k < (tdS T 0).length := by omega
    exact ⟨_, List.getElem?_eq_getElem il, (p3 k _ (List.getElem?_eq_getElem il)).1, (p3 k _ (List.getElem?_eq_getElem il)).2.1⟩
  have mid : ∀ s : Int32, (s = 0 ∨ s = 1) → (s = 1 ↔ x.1 42 j = 7 ∨ x.1 42 j = 9) → KT G q (d + 2) zk_X6_faultOfCell 34 [(0, vr 40), (1, vi i)] [vi s, vi i, vr 40, vi i, vr 43] x (ri F) := by
    intro s hs01 hs
    refine kg_X6_faultOfCell_34 hq _ _ _ _ (kf_cellOf hq hT hN _ _ hs01 ht (fun r hr => ⟨vin, fun x4 e4 => ?_⟩))
    rw [ej] at e4 hr ⊢
    have f4 : fm (fun c k => c = 43 ∧ k = j) x x4 := by rw [e4]; exact fm_si (fm_rf _ _) ⟨rfl, rfl⟩
    have g4 : x4.1 43 j = r := by rw [e4]; (simp only [si_get, sfl_get, Nat.reduceEqDiff, eq_self, and_false, false_and, and_true, true_and, if_true, if_false, reduceIte, reduceCtorEq])
    have g6 : x4.1 40 6 = x.1 40 6 := f4 _ _ (by omega)
    have g42 : x4.1 42 j = x.1 42 j := f4 _ _ (by omega)
    have km : ∀ r : Int32, 0 ≤ r.toInt → ¬ r = -1 := fun r hr z => by rw [z, tm1] at hr; omega
    rw [g4, g42]
    refine ⟨vin, fun c => ?_, fun c => ri_i (h _ x4 f4 (JV_no (by decide) ?_))⟩
    · obtain ⟨hr2, k, hk, ek, hrow, hsm, hfi⟩ : (0 ≤ r.toInt ∧ r.toInt < (x.1 40 6).toInt) ∧ ∃ i : Nat, (i : Int) < (x.1 40 6).toInt ∧ r.toInt = (i : Nat) ∧ (0 < (x.1 46 i).toInt ↔ s = 1) ∧ smk x (x.1 44 i).toNatClampNeg j ∧ ∀ k : Nat, k < i → (0 < (x.1 46 k).toInt ↔ s = 1) → ¬ smk x (x.1 44 k).toNatClampNeg j := by
        rcases hr with ⟨e, -⟩ | e
        · exact absurd e c
        · exact e
      obtain ⟨q, hq9, q1, q2⟩ := at0 k hk
      have hqm := tdS_mem.mp (List.mem_of_getElem? hq9)
      have jm : ∀ u : Int32, x4.1 42 j = u → (u = 6 ∨ u = 7) → JM x4 j := by
        intro u eu hu
        unfold JM
        rw [eu, g4, g6]
        rcases hu with rfl | rfl <;> exact ⟨by decide, fun q => absurd q (by decide), fun q => absurd q (by decide), fun _ => hr2, fun q => absurd q (by decide)⟩
      refine ⟨vin, fun c6 => ri_i (h _ x4 f4 (JV_ye c6 (by decide) (jm 6 (by rw [g42]; exact c6) (Or.inl rfl)) ⟨fun z => absurd (c6.symm.trans z) (by decide), fun z => absurd (c6.symm.trans z) (by decide), fun _ => ⟨k, q, by rw [g4]; exact ek, hq9, by rw [← q1]; exact hsm⟩⟩ (fun hC => ?_))), fun c6 => ⟨vin, fun c7 => ri_i (h _ x4 f4 (JV_no (by decide) ?_)), fun c7 => ri_i (h _ x4 f4 ⟨fun _ => jm 7 (by rw [g42]; exact c7) (Or.inr rfl), ⟨fun _ hC => ?_, fun _ => rfl⟩, fun _ _ => ⟨k, q, by rw [g4]; exact ek, hq9, ?_, by rw [← q1]; exact hsm, fun k' q' hk' hq' hr' hR' => ?_⟩, fun _ => ⟨fun z => absurd (c7.symm.trans z) (by decide), fun z => absurd (c7.symm.trans z) (by decide), fun _ => ⟨k, q, by rw [g4]; exact ek, hq9, by rw [← q1]; exact hsm⟩⟩⟩)⟩⟩
      · have s0 : ¬ s = 1 := fun z => by
          rcases hs.mp z with e | e <;> (rw [c6] at e; exact absurd e (by decide))
        refine CF_o6 hC c6 q hqm.1 hqm.2 ?_ (by rw [← q1]; exact hsm)
        have : ¬ 0 < (x.1 46 k).toInt := fun z => s0 (hrow.mp z)
        omega
      · rcases hU with e | e | e | e
        · exact absurd e c6
        · exact absurd e c7
        · exact CF_i8 e
        · exact CF_i9 e
      · have := hrow.mpr (hs.mpr (Or.inl c7))
        exact CF_o7 hC c7 q hqm.1 hqm.2 (by omega) (by rw [← q1]; exact hsm)
      · have := hrow.mpr (hs.mpr (Or.inl c7))
        omega
      · obtain ⟨z1, z2, -⟩ := p3 k' q' hq'
        refine hfi k' hk' ⟨fun _ => hs.mpr (Or.inl c7), fun _ => by omega⟩ ?_
        rw [z1]; exact hR'
    · obtain ⟨-, hno⟩ : r = -1 ∧ ∀ i : Nat, (i : Int) < (x.1 40 6).toInt → (0 < (x.1 46 i).toInt ↔ s = 1) → ¬ smk x (x.1 44 i).toNatClampNeg j := by
        rcases hr with e | ⟨e, -⟩
        · exact e
        · exact absurd c (km r e.1)
      have all : ∀ q ∈ T, q.2.1 = 0 → (0 < q.2.2.1 ↔ s = 1) → ¬ smk x q.1 j := fun q hq e0 hr => by
        obtain ⟨k, hk, ek⟩ := List.getElem_of_mem (tdS_mem.mpr ⟨hq, e0⟩)
        have hk9 : (tdS T 0)[k]? = some q := by rw [List.getElem?_eq_getElem hk, ek]
        obtain ⟨z1, z2, -⟩ := p3 k q hk9
        have := hno k (by omega) ⟨fun z => hr.mp (by omega), fun z => by have := hr.mpr z; omega⟩
        rw [z1] at this
        exact this
      rcases hU with e | e | e | e
      · refine CF_i6 e (fun q hq e0 r0 => all q hq e0 ⟨fun z => absurd z (by omega), fun z => ?_⟩)
        rcases hs.mp z with e' | e' <;> (rw [e] at e'; exact absurd e' (by decide))
      · exact CF_i7 e (fun q hq e0 r0 => all q hq e0 ⟨fun _ => hs.mpr (Or.inl e), fun _ => r0⟩)
      · exact CF_i8 e
      · exact CF_i9 e
  refine kg_X6_faultOfCell_0 hq _ ⟨vin, ?_⟩
  rw [ej]
  exact ⟨fun c => mid 1 (Or.inr rfl) ⟨fun _ => Or.inl c, fun _ => rfl⟩, fun c => ⟨vin, fun c9 => mid 0 (Or.inl rfl) ⟨fun z => absurd z (by decide), fun z => z.elim (fun e => absurd e c) (fun e => absurd e c9)⟩, fun c9 => mid 1 (Or.inr rfl) ⟨fun _ => Or.inr c9, fun _ => rfl⟩⟩⟩
theorem rwK_un {R : Nat → Nat → Prop} {t k k' : Nat} {q q' : Nat × Nat × Nat × Nat} (h : rwK R T t k q) (h' : rwK R T t k' q') : k = k' ∧ q = q' := by
  obtain ⟨a1, a2, a3, a4⟩ := h
  obtain ⟨b1, b2, b3, b4⟩ := h'
  rcases Nat.lt_trichotomy k k' with c | c | c
  · exact absurd a3 (b4 k q c a1 a2)
  · rw [c] at a1
    exact ⟨c, Option.some.inj (a1.symm.trans b1)⟩
  · exact absurd b3 (a4 k' q' c b1 b2)
theorem kf_faultOf (hq : kV q) (hT : kT x) (hN : NM x) (hTb : TBk x T) (hs : ∀ q ∈ T, q.2.1 = 0 ∨ q.2.1 = 1 ∨ q.2.1 = 2) (i : Int32) {j : Nat} (ei : i.toInt = j) (ht : tk x i) (hU : x.1 42 j = 1 ∨ x.1 42 j = 2 ∨ x.1 42 j = 3 ∨ x.1 42 j = 4 ∨ x.1 42 j = 5 ∨ x.1 42 j = 6 ∨ x.1 42 j = 7 ∨ x.1 42 j = 8 ∨ x.1 42 j = 9 ∨ x.1 42 j = 10 ∨ x.1 42 j = 11 ∨ x.1 42 j = 12 ∨ x.1 42 j = 13) (hp : x.1 42 j = 12 → 2 ≤ j ∧ ∃ (k : Nat) (q : Nat × Nat × Nat × Nat), (x.1 43 (j - 2)).toInt = (k : Nat) ∧ rwK (smk x) T (j - 2) k q) (h : ∀ r y, fm (fun c k => c = 43 ∧ k = j) x y → JV x T j r y → F r y) : KT G q (d + 3) zk_X6_faultOf 0 [(0, vr 40), (1, vi i)] [] x (ri F) := by
  have vin := (kT_at hT ht).1
  have ej : i.toNatClampNeg = j := by rw [t_cl, ei]; rfl
  have k3 : (3 : Int32).toInt = 3 := rfl
  obtain ⟨⟨a0, a1⟩, ⟨b0, b1⟩, ⟨c0, c1⟩, hc, hl, hh⟩ := id hN
  obtain ⟨⟨p1, p2, p3⟩, ⟨q1, q2⟩, r1, r2⟩ := id hTb
  have rf := fm_rf (fun c k => c = 43 ∧ k = j) x
  have km : ∀ r : Int32, 0 ≤ r.toInt → ¬ r = -1 := fun r hr z => by rw [z, tm1] at hr; omega
  have no : ∀ {r : Int32} {y : gd}, ¬ r = 0 → CFp (smk x) (x.1 27) (x.1 42) T j → fm (fun c k => c = 43 ∧ k = j) x y → ri F (some (vi r)) y := fun hr hC hf => ri_i (h _ _ hf (JV_no hr hC))
  refine kg_X6_faultOf_0 hq _ ⟨vin, ?_⟩
  rw [ej]
  refine ⟨fun c => kf_isToldBefore hq hT hN hTb hs _ ht (fun r hr => ?_), fun c => no (by decide) (CF_i2 c) rf, fun c => no (by decide) (CF_i3 c) rf, fun c => ?_, fun c => ?_, fun c => no (by decide) (CF_i10 c) rf, fun c => ⟨vin, kg_X6_isRowSize_0 hq _ ?_⟩, fun c => ⟨vin, fun c3 => ri_i (h _ x rf (JV_ye c (by decide) (JM_of c (Or.inr (Or.inr (Or.inr rfl)))) (MNg_no c (by decide)) (fun hC => ?_))), fun c3 => no (by decide) (CF_i13 c ?_) rf⟩, fun c => ⟨fun c2 => ?_, fun _ => ?_⟩, fun c => kf_faultOfCell hq hT hN hTb _ ei ht ?_ (fun r y hf hr => ri_i (h r y hf hr))⟩
  · rw [ej] at hr
    refine ⟨fun c4 => ri_i (h _ x rf (JV_ye c (by decide) (JM_of c (Or.inr (Or.inl rfl))) (MNg_no c (by decide)) (fun hC => ?_))), fun c4 => no (by decide) (CF_i1 c (hr.mp c4)) rf⟩
    exact hr.mpr (CF_o1 hC c) c4
  · refine kf_numberOf hq hT kk_48 (kl_48 hq) _ _ b0 b1 hl ht (fun r hr => ⟨vin, fun z ez => ?_⟩)
    rw [ej] at hr
    have fz : fm (fun c k => c = 43 ∧ k = j) x z := by rw [ez]; exact fm_si (fm_rf _ _) ⟨rfl, rfl⟩
    have gz : z.1 43 j = r := by rw [ez]; (simp only [si_get, sfl_get, Nat.reduceEqDiff, eq_self, and_false, false_and, and_true, true_and, if_true, if_false, reduceIte, reduceCtorEq])
    have t1 := tb_ex (Q := fun k => smk x k j) q1 q2
    refine ⟨vin, fun c2 => ri_i (h _ z fz (JV_ye c (by decide) ?_ ⟨fun _ => by
      rw [gz] at c2
      rcases hr with ⟨e, -⟩ | ⟨-, k, hk, ek, hs9⟩
      · exact absurd e c2
      · have il : k < (tdS T 1).length := by omega
        exact ⟨k, _, by rw [gz]; exact ek, List.getElem?_eq_getElem il, by rw [← q2 k _ (List.getElem?_eq_getElem il)]; exact hs9⟩, fun z => absurd (c.symm.trans z) (by decide), fun z => z.elim (fun z => absurd (c.symm.trans z) (by decide)) (fun z => absurd (c.symm.trans z) (by decide))⟩ (fun hC => ?_))), fun c2 => no (by decide) (CF_i4 c (fun q hq e0 s => ?_)) fz⟩
    · rw [gz] at c2
      unfold JM
      rw [fz 42 j (by omega), fz 40 8 (by omega), gz, c]
      refine ⟨by decide, fun _ => ?_, fun q => absurd q (by decide), fun q => absurd q (by decide), fun q => absurd q (by decide)⟩
      rcases hr with ⟨e, -⟩ | ⟨e, -⟩
      · exact absurd e c2
      · exact e
    · rw [gz] at c2
      rcases hr with ⟨e, -⟩ | ⟨-, k, hk, -, hs9⟩
      · exact absurd e c2
      · obtain ⟨q, hq, hs8⟩ := t1.mp ⟨k, hk, hs9⟩
        obtain ⟨m1, m2⟩ := tdS_mem.mp hq
        exact CF_o4 hC c q m1 m2 hs8
    · rw [gz] at c2
      rcases hr with ⟨-, e⟩ | ⟨e, -⟩
      · obtain ⟨k, hk, hs9⟩ := t1.mpr ⟨q, tdS_mem.mpr ⟨hq, e0⟩, s⟩
        exact e k hk hs9
      · exact absurd c2 (km r e.1)
  · refine kf_numberOf hq hT kk_50 (kl_50 hq) _ _ c0 c1 hh ht (fun r hr => ⟨vin, fun z ez => ?_⟩)
    rw [ej] at hr
    have fz : fm (fun c k => c = 43 ∧ k = j) x z := by rw [ez]; exact fm_si (fm_rf _ _) ⟨rfl, rfl⟩
    have gz : z.1 43 j = r := by rw [ez]; (simp only [si_get, sfl_get, Nat.reduceEqDiff, eq_self, and_false, false_and, and_true, true_and, if_true, if_false, reduceIte, reduceCtorEq])
    have t1 := tb_ex (Q := fun k => smk x k j) r1 r2
    refine ⟨vin, fun c2 => ri_i (h _ z fz (JV_ye c (by decide) ?_ ⟨fun z => absurd (c.symm.trans z) (by decide), fun _ => by
      rw [gz] at c2
      rcases hr with ⟨e, -⟩ | ⟨-, k, hk, ek, hs9⟩
      · exact absurd e c2
      · have il : k < (tdS T 2).length := by omega
        exact ⟨k, _, by rw [gz]; exact ek, List.getElem?_eq_getElem il, by rw [← r2 k _ (List.getElem?_eq_getElem il)]; exact hs9⟩, fun z => z.elim (fun z => absurd (c.symm.trans z) (by decide)) (fun z => absurd (c.symm.trans z) (by decide))⟩ (fun hC => ?_))), fun c2 => no (by decide) (CF_i5 c (fun q hq e0 s => ?_)) fz⟩
    · rw [gz] at c2
      unfold JM
      rw [fz 42 j (by omega), fz 40 10 (by omega), gz, c]
      refine ⟨by decide, fun q => absurd q (by decide), fun _ => ?_, fun q => absurd q (by decide), fun q => absurd q (by decide)⟩
      rcases hr with ⟨e, -⟩ | ⟨e, -⟩
      · exact absurd e c2
      · exact e
    · rw [gz] at c2
      rcases hr with ⟨e, -⟩ | ⟨-, k, hk, -, hs9⟩
      · exact absurd e c2
      · obtain ⟨q, hq, hs8⟩ := t1.mp ⟨k, hk, hs9⟩
        obtain ⟨m1, m2⟩ := tdS_mem.mp hq
        exact CF_o5 hC c q m1 m2 hs8
    · rw [gz] at c2
      rcases hr with ⟨-, e⟩ | ⟨e, -⟩
      · obtain ⟨k, hk, hs9⟩ := t1.mpr ⟨q, tdS_mem.mpr ⟨hq, e0⟩, s⟩
        exact e k hk hs9
      · exact absurd c2 (km r e.1)
  · have k1 : (1 : Int32).toInt = 1 := rfl
    have k8 : (8 : Int32).toInt = 8 := rfl
    refine ⟨fun c2 => ri_i ⟨fun _ => no (by decide) (CF_i11 c (by rw [t_lt, k1] at c2; omega)) rf, fun z => absurd rfl z⟩, fun c2 => ⟨fun c3 => ri_i ⟨fun _ => no (by decide) (CF_i11 c (by rw [t_lt, k8] at c3; omega)) rf, fun z => absurd rfl z⟩, fun c3 => ri_i ⟨fun z => absurd z (by decide), fun _ => ri_i (h _ x rf (JV_ye c (by decide) (JM_of c (Or.inr (Or.inr (Or.inl rfl)))) (MNg_no c (by decide)) (fun hC => CF_o11 hC c ?_)))⟩⟩⟩
    rw [t_lt, k1] at c2
    rw [t_lt, k8] at c3
    omega
  · have := CF_o13 hC c
    rw [t_le, k3] at c3
    omega
  · rw [t_le, k3] at c3
    omega
  · exfalso
    have k2 : (2 : Int32).toInt = 2 := rfl
    obtain ⟨z, -⟩ := hp c
    rw [t_lt, k2, ei] at c2
    omega
  · obtain ⟨p1, k, q, p2, hrw⟩ := hp c
    have k2 : (2 : Int32).toInt = 2 := rfl
    have vv := vp_in_iff.mp vin
    rw [ei] at vv
    have e2 : (i - 2).toInt = ((j - 2 : Nat) : Int) := by rw [t_sub (by rw [k2, ei]; omega) (by rw [k2, ei]; omega), k2, ei]; omega
    have e3 : (i - 2).toNatClampNeg = j - 2 := by rw [t_cl, e2]; rfl
    have v2 : vp_in (i - 2) 702 := by rw [vp_in_iff] at vin ⊢; omega
    rw [e3]
    have eK : (x.1 43 (j - 2)).toNatClampNeg = k := by rw [t_cl, p2]; rfl
    rw [eK]
    obtain ⟨z1, z2, -⟩ := p3 k q hrw.1
    have kl : k < (tdS T 0).length := by
      obtain ⟨hh, -⟩ := List.getElem?_eq_some_iff.mp hrw.1
      exact hh
    refine ⟨vin, v2, by rw [vp_in_iff]; omega, fun c3 => no (by decide) (CF_i12 c ⟨k, q, hrw, ?_⟩) rf, fun c3 => ri_i (h _ x rf (JV_ye c (by decide) ?_ (MNg_no c (by decide)) (fun hC => ?_)))⟩
    · rw [t_le] at c3
      omega
    · unfold JM
      rw [c]
      refine ⟨by decide, fun q => absurd q (by decide), fun q => absurd q (by decide), fun q => absurd q (by decide), fun _ => ?_⟩
      rw [t_le] at c3
      rw [eK]
      omega
    · obtain ⟨k', q', h1, h2⟩ := CF_o12 hC c
      obtain ⟨-, eq⟩ := rwK_un hrw h1
      rw [← eq] at h2
      rw [t_le] at c3
      omega
  · have c := fun k hk => c k hk
    rcases hU with e | e | e | e | e | e | e | e | e | e | e | e | e
    · exact absurd e (c 1 (by decide))
    · exact absurd e (c 2 (by decide))
    · exact absurd e (c 3 (by decide))
    · exact absurd e (c 4 (by decide))
    · exact absurd e (c 5 (by decide))
    · exact Or.inl e
    · exact Or.inr (Or.inl e)
    · exact Or.inr (Or.inr (Or.inl e))
    · exact Or.inr (Or.inr (Or.inr e))
    · exact absurd e (c 10 (by decide))
    · exact absurd e (c 11 (by decide))
    · exact absurd e (c 12 (by decide))
    · exact absurd e (c 13 (by decide))
theorem smk_e {y : gd} (f : ∀ c k, 20 ≤ c → c < 40 → y.1 c k = x.1 c k) : smk y = smk x := by
  have r : ∀ c, 20 ≤ c → c < 40 → y.1 c = x.1 c := fun c h1 h2 => by funext k; exact f c k h1 h2
  funext a b
  unfold smk
  rw [r 27 (by omega) (by omega), r 26 (by omega) (by omega), r 24 (by omega) (by omega), r 21 (by omega) (by omega)]
theorem kf_judge (hq : kV q) (hT : kT x) (hN : NM x) (hTb : TBk x T) (hs : ∀ q ∈ T, q.2.1 = 0 ∨ q.2.1 = 1 ∨ q.2.1 = 2) (hU : ∀ j : Nat, (j : Int) < (x.1 20 7).toInt → ¬ x.1 42 j = 0 → x.1 42 j = 1 ∨ x.1 42 j = 2 ∨ x.1 42 j = 3 ∨ x.1 42 j = 4 ∨ x.1 42 j = 5 ∨ x.1 42 j = 6 ∨ x.1 42 j = 7 ∨ x.1 42 j = 8 ∨ x.1 42 j = 9 ∨ x.1 42 j = 10 ∨ x.1 42 j = 11 ∨ x.1 42 j = 12 ∨ x.1 42 j = 13) (hp : ∀ j : Nat, (j : Int) < (x.1 20 7).toInt → x.1 42 j = 12 → 2 ≤ j ∧ x.1 42 (j - 2) = 7) (h : ∀ r y, fm (fun c k => c = 43 ∨ (c = 40 ∧ k = 11)) x y → (r = 0 → ∀ j : Nat, (j : Int) < (x.1 20 7).toInt → JM y j) → (¬ r = 0 → tk x (y.1 40 11)) → (r = 0 ↔ ¬ ∃ j : Nat, (j : Int) < (x.1 20 7).toInt ∧ CFp (smk x) (x.1 27) (x.1 42) T j) → (r = 0 → ∀ j : Nat, (j : Int) < (x.1 20 7).toInt → MNg (smk x) T (x.1 42) (y.1 43) j) → F r y) : KT G q (d + 4) zk_X6_judge 0 [(0, vr 40)] [] x (ri F) := by
  obtain ⟨-, n, en, hn, -⟩ := id hT
  have loop : ∀ (m j : Nat) (i : Int32) (y : gd), i.toInt = j → j + m = n → fm (fun c k => c = 43) x y → (∀ k, k < j → JM y k) → (∀ k, k < j → ¬ CFp (smk x) (x.1 27) (x.1 42) T k) → (∀ k, k < j → x.1 42 k = 7 → ∃ (kk : Nat) (q : Nat × Nat × Nat × Nat), (y.1 43 k).toInt = (kk : Nat) ∧ rwK (smk x) T k kk q) → (∀ k, k < j → MNg (smk x) T (x.1 42) (y.1 43) k) → KT G q (d + 4) zk_X6_judge 2 [(0, vr 40), (1, vi i)] [] y (ri F) := by
    intro m
    induction m with
    | zero =>
      intro j i y ei hj hf hJ hC hM hMn
      have e7 : y.1 20 7 = x.1 20 7 := hf _ _ (by omega)
      refine kg_X6_judge_2 hq _ ⟨fun _ => ri_i (h _ y (fm_w hf (fun c k q => Or.inl q)) (fun _ k hk => hJ k (by omega)) (fun q => absurd rfl q) ⟨fun _ ⟨k, hk, hc⟩ => hC k (by omega) hc, fun _ => rfl⟩ (fun _ k hk => hMn k (by omega))), fun c => ?_⟩
      exfalso; rw [e7, t_le] at c; omega
    | succ m ih =>
      intro j i y ei hj hf hJ hC hM hMn
      have e7 : y.1 20 7 = x.1 20 7 := hf _ _ (by omega)
      have ej : i.toNatClampNeg = j := by rw [t_cl, ei]; rfl
      have hTy : kT y := kT_fm hT (fun c k q1 q2 => hf c k (by omega))
      have hNy : NM y := NM_fm hN (fun c k q1 q2 q3 q4 => hf c k (by omega)) (hf _ _ (by omega)) (hf _ _ (by omega))
      have hTby : TBk y T := TBk_f hTb (fun c k q => hf c k (by omega))
      have sm : smk y = smk x := smk_e (fun c k q1 q2 => hf c k (by omega))
      have e27 : y.1 27 = x.1 27 := by funext k; exact hf _ _ (by omega)
      have e42 : y.1 42 = x.1 42 := by funext k; exact hf _ _ (by omega)
      have jv : ∀ r z, JV y T j r z → (r = 0 → JM z j) ∧ (r = 0 ↔ ¬ CFp (smk x) (x.1 27) (x.1 42) T j) ∧ (r = 0 → x.1 42 j = 7 → ∃ (k : Nat) (q : Nat × Nat × Nat × Nat), (z.1 43 j).toInt = (k : Nat) ∧ rwK (smk x) T j k q) ∧ (r = 0 → MNg (smk x) T (x.1 42) (z.1 43) j) := fun r z hv => by
        unfold JV at hv
        rw [sm, e27, e42] at hv
        exact hv
      have hti : tk y i := by unfold tk; rw [e7]; omega
      have vin := (kT_at hTy hti).1
      have e1 : (i + 1).toInt = ((j + 1 : Nat) : Int) := by rw [t_add (by show _ ≤ _ + (1 : Int); omega) (by show _ + (1 : Int) ≤ _; omega), ei]; rfl
      refine kg_X6_judge_2 hq _ ⟨fun c => ?_, fun c => ⟨vin, ?_⟩⟩
      · exfalso; rw [e7, t_le] at c; omega
      rw [ej]
      have mid : ∀ (r : Int32) (z : gd), fm (fun c k => c = 43 ∧ k = j) y z → (r = 0 → JM z j) → (r = 0 ↔ ¬ CFp (smk x) (x.1 27) (x.1 42) T j) → (r = 0 → x.1 42 j = 7 → ∃ (k : Nat) (q : Nat × Nat × Nat × Nat), (z.1 43 j).toInt = (k : Nat) ∧ rwK (smk x) T j k q) → (r = 0 → MNg (smk x) T (x.1 42) (z.1 43) j) → KT G q (d + 4) zk_X6_judge 31 [(0, vr 40), (1, vi i)] [vi r] z (ri F) := by
        intro r z fz hr hr2 hr3 hr4
        have fx : fm (fun c k => c = 43) x z := fm_tr hf (fm_w fz (fun c k q => q.1))
        refine kg_X6_judge_31 hq _ _ ⟨fun c0 => ih (j + 1) _ z e1 (by omega) fx (fun k hk => ?_) (fun k hk => ?_) (fun k hk hu => ?_) (fun k hk => ?_), fun c0 w ew => ri_i (h _ w ?_ (fun q => absurd q c0) (fun _ => ?_) ⟨fun z => absurd z c0, fun z => absurd ⟨j, by omega, ?_⟩ z⟩ (fun q => absurd q c0))⟩
        · by_cases hkj : k = j
          · rw [hkj]; exact hr c0
          · have hk := hJ k (by omega)
            unfold JM at hk ⊢
            rw [fz 42 k (by omega), fz 43 k (by omega), fz 40 8 (by omega), fz 40 10 (by omega), fz 40 6 (by omega), fz 27 k (by omega), fz 43 (k - 2) (by omega), fz 46 _ (by omega)]
            exact hk
        · by_cases hkj : k = j
          · rw [hkj]; exact hr2.mp c0
          · exact hC k (by omega)
        · by_cases hkj : k = j
          · rw [hkj] at hu ⊢; exact hr3 c0 hu
          · rw [fz 43 k (by omega)]; exact hM k (by omega) hu
        · by_cases hkj : k = j
          · rw [hkj]; exact hr4 c0
          · exact MNg_w (fz 43 k (by omega)) (hMn k (by omega))
        · rw [ew]; exact fm_si (fm_w fx (fun c k q => Or.inl q)) (Or.inr ⟨rfl, rfl⟩)
        · have : w.1 40 11 = i := by rw [ew]; (simp only [si_get, sfl_get, Nat.reduceEqDiff, eq_self, and_false, false_and, and_true, true_and, if_true, if_false, reduceIte, reduceCtorEq])
          rw [this]; unfold tk; omega
        · exact Classical.byContradiction (fun z => c0 (hr2.mpr z))
      refine ⟨fun c1 => kf_faultOf hq hTy hNy hTby hs _ ei hti ?_ ?_ (fun r z fz hr => mid r z fz (jv r z hr).1 (jv r z hr).2.1 (jv r z hr).2.2.1 (jv r z hr).2.2.2), fun c1 => mid 0 y (fm_rf _ _) (fun _ => JM_of c1 (Or.inl rfl)) ⟨fun _ hc => CF_n0 hc (by rw [← e42]; exact c1), fun _ => rfl⟩ (fun _ z => absurd (by rw [← e42] at z; exact c1.symm.trans z) (by decide)) (fun _ => MNg_no (u := 0) (by rw [← e42]; exact c1) (by decide))⟩
      · rw [e42] at c1 ⊢
        exact hU j (by omega) c1
      · intro c12
        rw [e42] at c12
        obtain ⟨p1, p2⟩ := hp j (by omega) c12
        obtain ⟨kk, q, z1, z2⟩ := hM (j - 2) (by omega) p2
        exact ⟨p1, kk, q, z1, by rw [sm]; exact z2⟩
  exact kg_X6_judge_0 hq (loop n 0 _ x rfl (by omega) (fm_rf _ _) (fun k hk => by omega) (fun k hk => by omega) (fun k hk => by omega) (fun k hk => by omega))
end KJF
end
section
/-! how many parts the events of a text may make: no more than it has tokens -/
def ubv (v : Nat × Nat × Nat) : Nat := if v.1 = 24 ∨ v.1 = 27 then 2 else if v.1 = 50 ∨ v.1 = 51 ∨ v.1 = 52 ∨ v.1 = 53 ∨ v.1 = 3 ∨ v.1 = 6 ∨ v.1 = 7 ∨ v.1 = 54 then 1 else 0
def cnt (L : gU) : Nat := (L.map ubv).sum
section CNTL
variable {K V : Nat → Int32} {L L' : gU} {o : Bool} {sN : Nat → Nat → Bool}
theorem cnt_app {M : gU} : cnt (L ++ M) = cnt L + cnt M := by
  unfold cnt
  rw [List.map_append, List.sum_append]
theorem cnt_one {v : Nat × Nat × Nat} : cnt [v] = ubv v := rfl
theorem cnt_two {v w : Nat × Nat × Nat} : cnt [v, w] = ubv v + ubv w := rfl
theorem ub_3 {a b : Nat} : ubv (3, a, b) = 1 := rfl
theorem ub_6 {a b : Nat} : ubv (6, a, b) = 1 := rfl
theorem ub_7 {a b : Nat} : ubv (7, a, b) = 1 := rfl
theorem ub_12 {a b : Nat} : ubv (12, a, b) = 0 := rfl
theorem ub_20 {a b : Nat} : ubv (20, a, b) = 0 := rfl
theorem ub_21 {a b : Nat} : ubv (21, a, b) = 0 := rfl
theorem ub_22 {a b : Nat} : ubv (22, a, b) = 0 := rfl
theorem ub_23 {a b : Nat} : ubv (23, a, b) = 0 := rfl
theorem ub_24 {a b : Nat} : ubv (24, a, b) = 2 := rfl
theorem ub_25 {a b : Nat} : ubv (25, a, b) = 0 := rfl
theorem ub_26 {a b : Nat} : ubv (26, a, b) = 0 := rfl
theorem ub_27 {a b : Nat} : ubv (27, a, b) = 2 := rfl
theorem ub_31 {a b : Nat} : ubv (31, a, b) = 0 := rfl
theorem ub_32 {a b : Nat} : ubv (32, a, b) = 0 := rfl
theorem ub_33 {a b : Nat} : ubv (33, a, b) = 0 := rfl
theorem ub_34 {a b : Nat} : ubv (34, a, b) = 0 := rfl
theorem ub_35 {a b : Nat} : ubv (35, a, b) = 0 := rfl
theorem ub_36 {a b : Nat} : ubv (36, a, b) = 0 := rfl
theorem ub_50 {a b : Nat} : ubv (50, a, b) = 1 := rfl
theorem ub_51 {a b : Nat} : ubv (51, a, b) = 1 := rfl
theorem ub_52 {a b : Nat} : ubv (52, a, b) = 1 := rfl
theorem ub_53 {a b : Nat} : ubv (53, a, b) = 1 := rfl
theorem ub_54 {a b : Nat} : ubv (54, a, b) = 1 := rfl
theorem ub_60 {a b : Nat} : ubv (60, a, b) = 0 := rfl
theorem ub_61 {a b : Nat} : ubv (61, a, b) = 0 := rfl
theorem ub_62 {a b : Nat} : ubv (62, a, b) = 0 := rfl
theorem ub_63 {a b : Nat} : ubv (63, a, b) = 0 := rfl
theorem ub_65 {a b : Nat} : ubv (65, a, b) = 0 := rfl
theorem ub_66 {a b : Nat} : ubv (66, a, b) = 0 := rfl
theorem ub_67 {a b : Nat} : ubv (67, a, b) = 0 := rfl
theorem ub_68 {a b : Nat} : ubv (68, a, b) = 0 := rfl
theorem ub_69 {a b : Nat} : ubv (69, a, b) = 0 := rfl
theorem ub_70 {a b : Nat} : ubv (70, a, b) = 0 := rfl
theorem ub_74 {a b : Nat} : ubv (74, a, b) = 0 := rfl
theorem ub_75 {a b : Nat} : ubv (75, a, b) = 0 := rfl
theorem ub_76 {a b : Nat} : ubv (76, a, b) = 0 := rfl
theorem ub_77 {a b : Nat} : ubv (77, a, b) = 0 := rfl
theorem ub_78 {a b : Nat} : ubv (78, a, b) = 0 := rfl
theorem ub_80 {a b : Nat} : ubv (80, a, b) = 0 := rfl
theorem ub_81 {a b : Nat} : ubv (81, a, b) = 0 := rfl
theorem ub_82 {a b : Nat} : ubv (82, a, b) = 0 := rfl
theorem ub_83 {a b : Nat} : ubv (83, a, b) = 0 := rfl
/-- the parts are no more -/
theorem tPs_cnt : ∀ {L : gU} {E : gV}, (tPs sN V K L E).length ≤ cnt L := by
  intro L
  induction L with
  | nil => intro E; exact Nat.le_refl _
  | cons v L ih =>
    intro E
    show (tPv sN V K E v ++ tPs sN V K L (exV E v)).length ≤ ubv v + cnt L
    rw [List.length_append]
    have a : (tPv sN V K E v).length ≤ ubv v := by
      unfold tPv ubv
      by_cases c1 : v.1 = 24
      · rw [if_pos c1, if_pos (Or.inl c1)]
        unfold alP
        cases kfi sN E.1 v.2.1 with
        | none => exact Nat.zero_le _
        | some p => exact Nat.le_refl _
      · rw [if_neg c1]
        by_cases c2 : v.1 = 27
        · rw [if_pos c2, if_pos (Or.inr c2)]
          unfold alP
          cases kfi sN E.1 v.2.2 with
          | none => exact Nat.zero_le _
          | some p => exact Nat.le_refl _
        · rw [if_neg c2, if_neg (fun z => z.elim c1 c2)]
          by_cases c3 : v.1 = 50 ∨ v.1 = 51 ∨ v.1 = 52 ∨ v.1 = 53 ∨ v.1 = 3 ∨ v.1 = 6 ∨ v.1 = 7 ∨ v.1 = 54
          · rw [if_pos c3]
            cases cPt sN V K E v with
            | none => exact Nat.zero_le _
            | some p => exact Nat.le_refl _
          · rw [if_neg c3]
            have e : cPt sN V K E v = none := by
              unfold cPt
              rw [if_neg (by omega), if_neg (by omega), if_neg (by omega), if_neg (by omega), if_neg (by omega), if_neg (by omega)]
            rw [e]
            exact Nat.le_refl _
    have := ih (E := exV E v)
    omega
theorem pt_cn {w : Int32} {q r : Nat × gU} (h : pt K w q = some r) : cnt r.2 = cnt q.2 ∧ r.1 = q.1 + 1 := by
  obtain ⟨-, -, e⟩ := pt_is h
  rw [e]; exact ⟨rfl, rfl⟩
abbrev cgoN (rE : Nat → Nat → gU → gOp) : Prop := ∀ s i L q, rE s i L = some q → cnt q.2 + i ≤ cnt L + q.1
theorem pW_cn {rE : Nat → Nat → gU → gOp} {th : Nat} (hr : cgoN rE) : ∀ (f j : Nat) (L : gU) (q : Nat × gU), pW rE K th f j L = some q → cnt q.2 + j ≤ cnt L + q.1 := by
  intro f
  induction f with
  | zero => intro j L q h; exact absurd h (by simp [pW])
  | succ f ih =>
    intro j L q h
    rw [pW] at h
    split at h
    · split at h
      · obtain ⟨z, hz, h2⟩ := Option.bind_eq_some_iff.mp h
        have a := hr _ _ _ _ hz
        have b := ih _ _ _ h2
        ((try simp only [cnt_app, cnt_one, cnt_two, ub_3, ub_6, ub_7, ub_12, ub_20, ub_21, ub_22, ub_23, ub_24, ub_25, ub_26, ub_27, ub_31, ub_32, ub_33, ub_34, ub_35, ub_36, ub_50, ub_51, ub_52, ub_53, ub_54, ub_60, ub_61, ub_62, ub_63, ub_65, ub_66, ub_67, ub_68, ub_69, ub_70, ub_74, ub_75, ub_76, ub_77, ub_78, ub_80, ub_81, ub_82, ub_83] at *); omega)
      · exact absurd h (by simp)
    · cases Option.some.inj h; exact Nat.le_refl _
theorem pO_cn {rE : Nat → Nat → gU → gOp} (hr : cgoN rE) {i : Nat} {q : Nat × gU} (h : pO rE K o i L = some q) : cnt q.2 + i ≤ cnt L + q.1 := by
  unfold pO at h
  split at h
  · exact absurd h (by simp)
  · split at h
    · cases Option.some.inj h; ((try simp only [cnt_app, cnt_one, cnt_two, ub_3, ub_6, ub_7, ub_12, ub_20, ub_21, ub_22, ub_23, ub_24, ub_25, ub_26, ub_27, ub_31, ub_32, ub_33, ub_34, ub_35, ub_36, ub_50, ub_51, ub_52, ub_53, ub_54, ub_60, ub_61, ub_62, ub_63, ub_65, ub_66, ub_67, ub_68, ub_69, ub_70, ub_74, ub_75, ub_76, ub_77, ub_78, ub_80, ub_81, ub_82, ub_83] at *); omega)
    · split at h
      · cases Option.some.inj h; ((try simp only [cnt_app, cnt_one, cnt_two, ub_3, ub_6, ub_7, ub_12, ub_20, ub_21, ub_22, ub_23, ub_24, ub_25, ub_26, ub_27, ub_31, ub_32, ub_33, ub_34, ub_35, ub_36, ub_50, ub_51, ub_52, ub_53, ub_54, ub_60, ub_61, ub_62, ub_63, ub_65, ub_66, ub_67, ub_68, ub_69, ub_70, ub_74, ub_75, ub_76, ub_77, ub_78, ub_80, ub_81, ub_82, ub_83] at *); omega)
      · split at h
        · obtain ⟨z, hz, h2⟩ := Option.bind_eq_some_iff.mp h
          have a := hr _ _ _ _ hz
          have b := pt_cn h2
          ((try simp only [cnt_app, cnt_one, cnt_two, ub_3, ub_6, ub_7, ub_12, ub_20, ub_21, ub_22, ub_23, ub_24, ub_25, ub_26, ub_27, ub_31, ub_32, ub_33, ub_34, ub_35, ub_36, ub_50, ub_51, ub_52, ub_53, ub_54, ub_60, ub_61, ub_62, ub_63, ub_65, ub_66, ub_67, ub_68, ub_69, ub_70, ub_74, ub_75, ub_76, ub_77, ub_78, ub_80, ub_81, ub_82, ub_83] at *); omega)
        · split at h
          · split at h
            · split at h
              · split at h
                · cases Option.some.inj h; ((try simp only [cnt_app, cnt_one, cnt_two, ub_3, ub_6, ub_7, ub_12, ub_20, ub_21, ub_22, ub_23, ub_24, ub_25, ub_26, ub_27, ub_31, ub_32, ub_33, ub_34, ub_35, ub_36, ub_50, ub_51, ub_52, ub_53, ub_54, ub_60, ub_61, ub_62, ub_63, ub_65, ub_66, ub_67, ub_68, ub_69, ub_70, ub_74, ub_75, ub_76, ub_77, ub_78, ub_80, ub_81, ub_82, ub_83] at *); omega)
                · exact absurd h (by simp)
              · cases Option.some.inj h; ((try simp only [cnt_app, cnt_one, cnt_two, ub_3, ub_6, ub_7, ub_12, ub_20, ub_21, ub_22, ub_23, ub_24, ub_25, ub_26, ub_27, ub_31, ub_32, ub_33, ub_34, ub_35, ub_36, ub_50, ub_51, ub_52, ub_53, ub_54, ub_60, ub_61, ub_62, ub_63, ub_65, ub_66, ub_67, ub_68, ub_69, ub_70, ub_74, ub_75, ub_76, ub_77, ub_78, ub_80, ub_81, ub_82, ub_83] at *); omega)
            · cases Option.some.inj h; ((try simp only [cnt_app, cnt_one, cnt_two, ub_3, ub_6, ub_7, ub_12, ub_20, ub_21, ub_22, ub_23, ub_24, ub_25, ub_26, ub_27, ub_31, ub_32, ub_33, ub_34, ub_35, ub_36, ub_50, ub_51, ub_52, ub_53, ub_54, ub_60, ub_61, ub_62, ub_63, ub_65, ub_66, ub_67, ub_68, ub_69, ub_70, ub_74, ub_75, ub_76, ub_77, ub_78, ub_80, ub_81, ub_82, ub_83] at *); omega)
          · exact absurd h (by simp)
theorem pE_cn : ∀ f : Nat, cgoN (pE K o f) := by
  intro f
  induction f with
  | zero => intro s i L q h; exact absurd h (by simp [pE])
  | succ f ih =>
    intro s i L q h
    rw [pE] at h
    split at h
    · obtain ⟨z, hz, h2⟩ := Option.bind_eq_some_iff.mp h
      have b := pW_cn ih _ _ _ _ h2
      have a : cnt z.2 + i ≤ cnt L + z.1 := by
        split at hz
        · split at hz
          · obtain ⟨y, hy, h3⟩ := Option.bind_eq_some_iff.mp hz
            cases Option.some.inj h3
            have a := ih _ _ _ _ hy
            ((try simp only [cnt_app, cnt_one, cnt_two, ub_3, ub_6, ub_7, ub_12, ub_20, ub_21, ub_22, ub_23, ub_24, ub_25, ub_26, ub_27, ub_31, ub_32, ub_33, ub_34, ub_35, ub_36, ub_50, ub_51, ub_52, ub_53, ub_54, ub_60, ub_61, ub_62, ub_63, ub_65, ub_66, ub_67, ub_68, ub_69, ub_70, ub_74, ub_75, ub_76, ub_77, ub_78, ub_80, ub_81, ub_82, ub_83] at *); omega)
          · exact absurd hz (by simp)
        · exact pO_cn ih hz
      omega
    · exact absurd h (by simp)
theorem pX_cn {f i : Nat} {q : Nat × gU} (h : pX K o f i L = some q) : cnt q.2 + i ≤ cnt L + q.1 + 1 := by
  obtain ⟨z, hz, h2⟩ := Option.bind_eq_some_iff.mp h
  have a := pE_cn f _ _ _ _ hz
  unfold pan at h2
  cases Option.some.inj h2
  ((try simp only [cnt_app, cnt_one, cnt_two, ub_3, ub_6, ub_7, ub_12, ub_20, ub_21, ub_22, ub_23, ub_24, ub_25, ub_26, ub_27, ub_31, ub_32, ub_33, ub_34, ub_35, ub_36, ub_50, ub_51, ub_52, ub_53, ub_54, ub_60, ub_61, ub_62, ub_63, ub_65, ub_66, ub_67, ub_68, ub_69, ub_70, ub_74, ub_75, ub_76, ub_77, ub_78, ub_80, ub_81, ub_82, ub_83] at *); omega)
theorem pXq_cn {f : Nat} {r q : Nat × gU} (h : pXq K f r = some q) : cnt q.2 + r.1 ≤ cnt r.2 + q.1 + 1 := pX_cn h
theorem pP_cn {f i : Nat} {q : Nat × gU} (h : pP K f i L = some q) : cnt q.2 + i ≤ cnt L + q.1 := by
  unfold pP at h
  split at h
  · split at h
    · split at h
      · obtain ⟨z, hz, h2⟩ := Option.bind_eq_some_iff.mp h
        have a := pX_cn hz
        have b := pt_cn h2
        ((try simp only [cnt_app, cnt_one, cnt_two, ub_3, ub_6, ub_7, ub_12, ub_20, ub_21, ub_22, ub_23, ub_24, ub_25, ub_26, ub_27, ub_31, ub_32, ub_33, ub_34, ub_35, ub_36, ub_50, ub_51, ub_52, ub_53, ub_54, ub_60, ub_61, ub_62, ub_63, ub_65, ub_66, ub_67, ub_68, ub_69, ub_70, ub_74, ub_75, ub_76, ub_77, ub_78, ub_80, ub_81, ub_82, ub_83] at *); omega)
      · exact absurd h (by simp)
    · cases Option.some.inj h; ((try simp only [cnt_app, cnt_one, cnt_two, ub_3, ub_6, ub_7, ub_12, ub_20, ub_21, ub_22, ub_23, ub_24, ub_25, ub_26, ub_27, ub_31, ub_32, ub_33, ub_34, ub_35, ub_36, ub_50, ub_51, ub_52, ub_53, ub_54, ub_60, ub_61, ub_62, ub_63, ub_65, ub_66, ub_67, ub_68, ub_69, ub_70, ub_74, ub_75, ub_76, ub_77, ub_78, ub_80, ub_81, ub_82, ub_83] at *); omega)
  · exact absurd h (by simp)
theorem pme_cn {t : Option Nat} : cnt (pme t) = 0 := by
  cases t <;> rfl
theorem pma_cn {t : Option Nat} : cnt (pma t) = 0 := by
  cases t <;> rfl
theorem pal_cn {t : Option Nat} {i : Nat} : cnt [pal t i] = 2 := by
  cases t <;> rfl
theorem pan_cn {k a b : Nat} {q r : Nat × gU} (h : pan (k, a, b) q = some r) : cnt r.2 = cnt q.2 + ubv (k, a, b) ∧ r.1 = q.1 := by
  unfold pan at h
  cases Option.some.inj h
  exact ⟨cnt_app, rfl⟩
theorem pR_cn {f i : Nat} {t : Option Nat} {q : Nat × gU} (h : pR K f t i L = some q) : cnt q.2 + i ≤ cnt L + q.1 + 1 := by
  unfold pR at h
  split at h
  · split at h
    · obtain ⟨z4, hz4, h4⟩ := Option.bind_eq_some_iff.mp h
      obtain ⟨z3, hz3, h3⟩ := Option.bind_eq_some_iff.mp hz4
      obtain ⟨z2, hz2, h2⟩ := Option.bind_eq_some_iff.mp hz3
      obtain ⟨z5, hz5, h5⟩ := Option.bind_eq_some_iff.mp h4
      have d := pan_cn h5
      have a1 := pP_cn hz2
      have a2 := pt_cn h2
      have a3 := pXq_cn h3
      rw [cnt_app, pme_cn] at a1
      split at hz5
      · obtain ⟨z6, hz6, h6⟩ := Option.bind_eq_some_iff.mp hz5
        have b1 := pt_cn hz6
        have b2 := pXq_cn h6
        ((try simp only [cnt_app, cnt_one, cnt_two, ub_3, ub_6, ub_7, ub_12, ub_20, ub_21, ub_22, ub_23, ub_24, ub_25, ub_26, ub_27, ub_31, ub_32, ub_33, ub_34, ub_35, ub_36, ub_50, ub_51, ub_52, ub_53, ub_54, ub_60, ub_61, ub_62, ub_63, ub_65, ub_66, ub_67, ub_68, ub_69, ub_70, ub_74, ub_75, ub_76, ub_77, ub_78, ub_80, ub_81, ub_82, ub_83] at *); omega)
      · cases Option.some.inj hz5
        ((try simp only [cnt_app, cnt_one, cnt_two, ub_3, ub_6, ub_7, ub_12, ub_20, ub_21, ub_22, ub_23, ub_24, ub_25, ub_26, ub_27, ub_31, ub_32, ub_33, ub_34, ub_35, ub_36, ub_50, ub_51, ub_52, ub_53, ub_54, ub_60, ub_61, ub_62, ub_63, ub_65, ub_66, ub_67, ub_68, ub_69, ub_70, ub_74, ub_75, ub_76, ub_77, ub_78, ub_80, ub_81, ub_82, ub_83] at *); omega)
    · exact absurd h (by simp)
  · split at h
    · obtain ⟨z, hz, h2⟩ := Option.bind_eq_some_iff.mp h
      have a1 := pP_cn hz
      have d := pan_cn h2
      rw [cnt_app, pme_cn] at a1
      ((try simp only [cnt_app, cnt_one, cnt_two, ub_3, ub_6, ub_7, ub_12, ub_20, ub_21, ub_22, ub_23, ub_24, ub_25, ub_26, ub_27, ub_31, ub_32, ub_33, ub_34, ub_35, ub_36, ub_50, ub_51, ub_52, ub_53, ub_54, ub_60, ub_61, ub_62, ub_63, ub_65, ub_66, ub_67, ub_68, ub_69, ub_70, ub_74, ub_75, ub_76, ub_77, ub_78, ub_80, ub_81, ub_82, ub_83] at *); omega)
    · split at h
      · split at h
        · cases Option.some.inj h
          show cnt (L ++ [pal t i]) + i ≤ cnt L + (i + 1) + 1
          rw [cnt_app, pal_cn]
          omega
        · exact absurd h (by simp)
      · obtain ⟨z, hz, h2⟩ := Option.bind_eq_some_iff.mp h
        have a1 := pX_cn hz
        have d := pan_cn h2
        rw [cnt_app, pma_cn] at a1
        ((try simp only [cnt_app, cnt_one, cnt_two, ub_3, ub_6, ub_7, ub_12, ub_20, ub_21, ub_22, ub_23, ub_24, ub_25, ub_26, ub_27, ub_31, ub_32, ub_33, ub_34, ub_35, ub_36, ub_50, ub_51, ub_52, ub_53, ub_54, ub_60, ub_61, ub_62, ub_63, ub_65, ub_66, ub_67, ub_68, ub_69, ub_70, ub_74, ub_75, ub_76, ub_77, ub_78, ub_80, ub_81, ub_82, ub_83] at *); omega)
abbrev cgsN (rS : Nat → Nat → gU → gTs) : Prop := ∀ c i L q, rS c i L = some q → cnt q.2.2 + i ≤ cnt L + q.2.1
theorem pBl_cn {rS : Nat → Nat → gU → gTs} {z : Nat} (hr : cgsN rS) : ∀ (n c i : Nat) (L : gU) (q : Nat × Nat × gU), pBl rS K z n c i L = some q → cnt q.2.2 + i ≤ cnt L + q.2.1 := by
  intro n
  induction n with
  | zero => intro c i L q h; exact absurd h (by simp [pBl])
  | succ n ih =>
    intro c i L q h
    rw [pBl] at h
    split at h
    · split at h
      · cases Option.some.inj h; ((try simp only [cnt_app, cnt_one, cnt_two, ub_3, ub_6, ub_7, ub_12, ub_20, ub_21, ub_22, ub_23, ub_24, ub_25, ub_26, ub_27, ub_31, ub_32, ub_33, ub_34, ub_35, ub_36, ub_50, ub_51, ub_52, ub_53, ub_54, ub_60, ub_61, ub_62, ub_63, ub_65, ub_66, ub_67, ub_68, ub_69, ub_70, ub_74, ub_75, ub_76, ub_77, ub_78, ub_80, ub_81, ub_82, ub_83] at *); omega)
      · exact absurd h (by simp)
    · obtain ⟨y, hy, h2⟩ := Option.bind_eq_some_iff.mp h
      have a := hr _ _ _ _ hy
      have b := ih _ _ _ _ h2
      omega
theorem pBk_cn {rS : Nat → Nat → gU → gTs} {z : Nat} (hr : cgsN rS) {c i : Nat} {q : Nat × Nat × gU} (h : pBk rS K z c i L = some q) : cnt q.2.2 + i ≤ cnt L + q.2.1 := by
  unfold pBk at h
  split at h
  · have b := pBl_cn hr _ _ _ _ _ h
    ((try simp only [cnt_app, cnt_one, cnt_two, ub_3, ub_6, ub_7, ub_12, ub_20, ub_21, ub_22, ub_23, ub_24, ub_25, ub_26, ub_27, ub_31, ub_32, ub_33, ub_34, ub_35, ub_36, ub_50, ub_51, ub_52, ub_53, ub_54, ub_60, ub_61, ub_62, ub_63, ub_65, ub_66, ub_67, ub_68, ub_69, ub_70, ub_74, ub_75, ub_76, ub_77, ub_78, ub_80, ub_81, ub_82, ub_83] at *); omega)
  · exact absurd h (by simp)
theorem pEl_cn {rS : Nat → Nat → gU → gTs} (hr : cgsN rS) {q r : Nat × Nat × gU} (h : pEl rS K q = some r) : cnt r.2.2 + q.2.1 ≤ cnt q.2.2 + r.2.1 := by
  unfold pEl at h
  split at h
  · split at h
    · split at h
      · have b := hr _ _ _ _ h
        ((try simp only [cnt_app, cnt_one, cnt_two, ub_3, ub_6, ub_7, ub_12, ub_20, ub_21, ub_22, ub_23, ub_24, ub_25, ub_26, ub_27, ub_31, ub_32, ub_33, ub_34, ub_35, ub_36, ub_50, ub_51, ub_52, ub_53, ub_54, ub_60, ub_61, ub_62, ub_63, ub_65, ub_66, ub_67, ub_68, ub_69, ub_70, ub_74, ub_75, ub_76, ub_77, ub_78, ub_80, ub_81, ub_82, ub_83] at *); omega)
      · have b := pBk_cn hr h
        ((try simp only [cnt_app, cnt_one, cnt_two, ub_3, ub_6, ub_7, ub_12, ub_20, ub_21, ub_22, ub_23, ub_24, ub_25, ub_26, ub_27, ub_31, ub_32, ub_33, ub_34, ub_35, ub_36, ub_50, ub_51, ub_52, ub_53, ub_54, ub_60, ub_61, ub_62, ub_63, ub_65, ub_66, ub_67, ub_68, ub_69, ub_70, ub_74, ub_75, ub_76, ub_77, ub_78, ub_80, ub_81, ub_82, ub_83] at *); omega)
    · exact absurd h (by simp)
  · cases Option.some.inj h; exact Nat.le_refl _
theorem pup_cn {c k a b : Nat} {r : gOp} {q : Nat × Nat × gU} (h : pup c (k, a, b) r = some q) : ∃ z, r = some z ∧ cnt q.2.2 = cnt z.2 + ubv (k, a, b) ∧ q.2.1 = z.1 := by
  unfold pup at h
  obtain ⟨z, hz, e⟩ := Option.bind_eq_some_iff.mp h
  cases Option.some.inj e
  exact ⟨z, hz, cnt_app, rfl⟩
theorem pS1_cn {f c i : Nat} {q : Nat × Nat × gU} (h : pS1 K f c i L = some q) : cnt q.2.2 + i ≤ cnt L + q.2.1 := by
  unfold pS1 at h
  split at h
  · split at h
    · obtain ⟨z, h, g⟩ := pup_cn h
      obtain ⟨y, hy, h2⟩ := Option.bind_eq_some_iff.mp h
      have a := pR_cn hy
      have b := pt_cn h2
      ((try simp only [cnt_app, cnt_one, cnt_two, ub_3, ub_6, ub_7, ub_12, ub_20, ub_21, ub_22, ub_23, ub_24, ub_25, ub_26, ub_27, ub_31, ub_32, ub_33, ub_34, ub_35, ub_36, ub_50, ub_51, ub_52, ub_53, ub_54, ub_60, ub_61, ub_62, ub_63, ub_65, ub_66, ub_67, ub_68, ub_69, ub_70, ub_74, ub_75, ub_76, ub_77, ub_78, ub_80, ub_81, ub_82, ub_83] at *); omega)
    · exact absurd h (by simp)
  · split at h
    · split at h
      · split at h
        · obtain ⟨z, h, g⟩ := pup_cn h
          obtain ⟨y5, hy5, h5⟩ := Option.bind_eq_some_iff.mp h
          obtain ⟨y4, hy4, h4⟩ := Option.bind_eq_some_iff.mp hy5
          obtain ⟨y3, hy3, h3⟩ := Option.bind_eq_some_iff.mp hy4
          obtain ⟨y2, hy2, h2⟩ := Option.bind_eq_some_iff.mp hy3
          have a1 := pX_cn hy2
          have a2 := pt_cn h2
          have a3 := pt_cn h3
          have a4 := pXq_cn h4
          have a5 := pt_cn h5
          ((try simp only [cnt_app, cnt_one, cnt_two, ub_3, ub_6, ub_7, ub_12, ub_20, ub_21, ub_22, ub_23, ub_24, ub_25, ub_26, ub_27, ub_31, ub_32, ub_33, ub_34, ub_35, ub_36, ub_50, ub_51, ub_52, ub_53, ub_54, ub_60, ub_61, ub_62, ub_63, ub_65, ub_66, ub_67, ub_68, ub_69, ub_70, ub_74, ub_75, ub_76, ub_77, ub_78, ub_80, ub_81, ub_82, ub_83] at *); omega)
        · exact absurd h (by simp)
      · split at h
        · obtain ⟨z, h, g⟩ := pup_cn h
          obtain ⟨y2, hy2, h2⟩ := Option.bind_eq_some_iff.mp h
          have a := pR_cn hy2
          have b := pt_cn h2
          ((try simp only [cnt_app, cnt_one, cnt_two, ub_3, ub_6, ub_7, ub_12, ub_20, ub_21, ub_22, ub_23, ub_24, ub_25, ub_26, ub_27, ub_31, ub_32, ub_33, ub_34, ub_35, ub_36, ub_50, ub_51, ub_52, ub_53, ub_54, ub_60, ub_61, ub_62, ub_63, ub_65, ub_66, ub_67, ub_68, ub_69, ub_70, ub_74, ub_75, ub_76, ub_77, ub_78, ub_80, ub_81, ub_82, ub_83] at *); omega)
        · exact absurd h (by simp)
    · split at h
      · obtain ⟨z, h, g⟩ := pup_cn h
        have b := pt_cn h
        ((try simp only [cnt_app, cnt_one, cnt_two, ub_3, ub_6, ub_7, ub_12, ub_20, ub_21, ub_22, ub_23, ub_24, ub_25, ub_26, ub_27, ub_31, ub_32, ub_33, ub_34, ub_35, ub_36, ub_50, ub_51, ub_52, ub_53, ub_54, ub_60, ub_61, ub_62, ub_63, ub_65, ub_66, ub_67, ub_68, ub_69, ub_70, ub_74, ub_75, ub_76, ub_77, ub_78, ub_80, ub_81, ub_82, ub_83] at *); omega)
      · split at h
        · obtain ⟨z, h, g⟩ := pup_cn h
          obtain ⟨y2, hy2, h2⟩ := Option.bind_eq_some_iff.mp h
          have a := pX_cn hy2
          have b := pt_cn h2
          ((try simp only [cnt_app, cnt_one, cnt_two, ub_3, ub_6, ub_7, ub_12, ub_20, ub_21, ub_22, ub_23, ub_24, ub_25, ub_26, ub_27, ub_31, ub_32, ub_33, ub_34, ub_35, ub_36, ub_50, ub_51, ub_52, ub_53, ub_54, ub_60, ub_61, ub_62, ub_63, ub_65, ub_66, ub_67, ub_68, ub_69, ub_70, ub_74, ub_75, ub_76, ub_77, ub_78, ub_80, ub_81, ub_82, ub_83] at *); omega)
        · split at h
          · split at h
            · obtain ⟨z, h, g⟩ := pup_cn h
              obtain ⟨y2, hy2, h2⟩ := Option.bind_eq_some_iff.mp h
              have a := pX_cn hy2
              have b := pt_cn h2
              ((try simp only [cnt_app, cnt_one, cnt_two, ub_3, ub_6, ub_7, ub_12, ub_20, ub_21, ub_22, ub_23, ub_24, ub_25, ub_26, ub_27, ub_31, ub_32, ub_33, ub_34, ub_35, ub_36, ub_50, ub_51, ub_52, ub_53, ub_54, ub_60, ub_61, ub_62, ub_63, ub_65, ub_66, ub_67, ub_68, ub_69, ub_70, ub_74, ub_75, ub_76, ub_77, ub_78, ub_80, ub_81, ub_82, ub_83] at *); omega)
            · exact absurd h (by simp)
          · split at h
            · split at h
              · obtain ⟨z, h, g⟩ := pup_cn h
                have b := pt_cn h
                ((try simp only [cnt_app, cnt_one, cnt_two, ub_3, ub_6, ub_7, ub_12, ub_20, ub_21, ub_22, ub_23, ub_24, ub_25, ub_26, ub_27, ub_31, ub_32, ub_33, ub_34, ub_35, ub_36, ub_50, ub_51, ub_52, ub_53, ub_54, ub_60, ub_61, ub_62, ub_63, ub_65, ub_66, ub_67, ub_68, ub_69, ub_70, ub_74, ub_75, ub_76, ub_77, ub_78, ub_80, ub_81, ub_82, ub_83] at *); omega)
              · exact absurd h (by simp)
            · split at h
              · split at h
                · obtain ⟨z, h, g⟩ := pup_cn h
                  have b := pt_cn h
                  ((try simp only [cnt_app, cnt_one, cnt_two, ub_3, ub_6, ub_7, ub_12, ub_20, ub_21, ub_22, ub_23, ub_24, ub_25, ub_26, ub_27, ub_31, ub_32, ub_33, ub_34, ub_35, ub_36, ub_50, ub_51, ub_52, ub_53, ub_54, ub_60, ub_61, ub_62, ub_63, ub_65, ub_66, ub_67, ub_68, ub_69, ub_70, ub_74, ub_75, ub_76, ub_77, ub_78, ub_80, ub_81, ub_82, ub_83] at *); omega)
                · exact absurd h (by simp)
              · exact absurd h (by simp)
theorem pfi_cn {q r : Nat × Nat × gU} (h : pfi q = some r) : cnt r.2.2 = cnt q.2.2 ∧ r.2.1 = q.2.1 := by
  unfold pfi at h
  cases Option.some.inj h
  exact ⟨cnt_app, rfl⟩
theorem pS_cn : ∀ f : Nat, cgsN (pS K f) := by
  intro f
  induction f with
  | zero => intro c i L q h; exact absurd h (by simp [pS])
  | succ f ih =>
    intro c i L q h
    rw [pS] at h
    split at h
    · exact absurd h (by simp)
    · split at h
      · obtain ⟨z, hz, h2⟩ := Option.bind_eq_some_iff.mp h
        obtain ⟨x, hx, h4⟩ := Option.bind_eq_some_iff.mp h2
        obtain ⟨y, hy, h3⟩ := Option.bind_eq_some_iff.mp hx
        have a := pX_cn hz
        have b := pBk_cn ih hy
        have c := pEl_cn ih h3
        have d := pfi_cn h4
        ((try simp only [cnt_app, cnt_one, cnt_two, ub_3, ub_6, ub_7, ub_12, ub_20, ub_21, ub_22, ub_23, ub_24, ub_25, ub_26, ub_27, ub_31, ub_32, ub_33, ub_34, ub_35, ub_36, ub_50, ub_51, ub_52, ub_53, ub_54, ub_60, ub_61, ub_62, ub_63, ub_65, ub_66, ub_67, ub_68, ub_69, ub_70, ub_74, ub_75, ub_76, ub_77, ub_78, ub_80, ub_81, ub_82, ub_83] at *); omega)
      · split at h
        · obtain ⟨z, hz, h2⟩ := Option.bind_eq_some_iff.mp h
          have a := pX_cn hz
          have b := pBk_cn ih h2
          ((try simp only [cnt_app, cnt_one, cnt_two, ub_3, ub_6, ub_7, ub_12, ub_20, ub_21, ub_22, ub_23, ub_24, ub_25, ub_26, ub_27, ub_31, ub_32, ub_33, ub_34, ub_35, ub_36, ub_50, ub_51, ub_52, ub_53, ub_54, ub_60, ub_61, ub_62, ub_63, ub_65, ub_66, ub_67, ub_68, ub_69, ub_70, ub_74, ub_75, ub_76, ub_77, ub_78, ub_80, ub_81, ub_82, ub_83] at *); omega)
        · split at h
          · split at h
            · have b := pBk_cn ih h
              ((try simp only [cnt_app, cnt_one, cnt_two, ub_3, ub_6, ub_7, ub_12, ub_20, ub_21, ub_22, ub_23, ub_24, ub_25, ub_26, ub_27, ub_31, ub_32, ub_33, ub_34, ub_35, ub_36, ub_50, ub_51, ub_52, ub_53, ub_54, ub_60, ub_61, ub_62, ub_63, ub_65, ub_66, ub_67, ub_68, ub_69, ub_70, ub_74, ub_75, ub_76, ub_77, ub_78, ub_80, ub_81, ub_82, ub_83] at *); omega)
            · exact absurd h (by simp)
          · exact pS1_cn h
theorem pCv_cn {q r : Nat × gU} (h : pCv K q = some r) : cnt r.2 = cnt q.2 ∧ q.1 ≤ r.1 := by
  unfold pCv at h
  split at h
  · split at h
    · split at h
      · split at h
        · cases Option.some.inj h; exact ⟨cnt_app, by show q.1 ≤ q.1 + 3; omega⟩
        · exact absurd h (by simp)
      · split at h
        · cases Option.some.inj h; exact ⟨cnt_app, by show q.1 ≤ q.1 + 2; omega⟩
        · exact absurd h (by simp)
    · exact absurd h (by simp)
  · cases Option.some.inj h; exact ⟨cnt_app, Nat.le_refl _⟩
theorem pCl_cn {n i t : Nat} {q : Nat × Nat × gU} (h : pCl K V n i t L = some q) : cnt q.2.2 + t ≤ cnt L + q.2.1 := by
  unfold pCl at h
  split at h
  · split at h
    · split at h
      · obtain ⟨z, hz, h2⟩ := Option.bind_eq_some_iff.mp h
        obtain ⟨y, hy, h3⟩ := Option.bind_eq_some_iff.mp hz
        have a := pCv_cn hy
        have b := pt_cn h3
        cases Option.some.inj h2
        ((try simp only [cnt_app, cnt_one, cnt_two, ub_3, ub_6, ub_7, ub_12, ub_20, ub_21, ub_22, ub_23, ub_24, ub_25, ub_26, ub_27, ub_31, ub_32, ub_33, ub_34, ub_35, ub_36, ub_50, ub_51, ub_52, ub_53, ub_54, ub_60, ub_61, ub_62, ub_63, ub_65, ub_66, ub_67, ub_68, ub_69, ub_70, ub_74, ub_75, ub_76, ub_77, ub_78, ub_80, ub_81, ub_82, ub_83] at *); omega)
      · exact absurd h (by simp)
    · obtain ⟨z, hz, h2⟩ := Option.bind_eq_some_iff.mp h
      obtain ⟨y, hy, h3⟩ := Option.bind_eq_some_iff.mp hz
      have a := pCv_cn hy
      have b := pt_cn h3
      cases Option.some.inj h2
      ((try simp only [cnt_app, cnt_one, cnt_two, ub_3, ub_6, ub_7, ub_12, ub_20, ub_21, ub_22, ub_23, ub_24, ub_25, ub_26, ub_27, ub_31, ub_32, ub_33, ub_34, ub_35, ub_36, ub_50, ub_51, ub_52, ub_53, ub_54, ub_60, ub_61, ub_62, ub_63, ub_65, ub_66, ub_67, ub_68, ub_69, ub_70, ub_74, ub_75, ub_76, ub_77, ub_78, ub_80, ub_81, ub_82, ub_83] at *); omega)
  · exact absurd h (by simp)
theorem pD_cn {n : gN} {i : Nat} {q : gN × Nat × gU} (h : pD K V n i L = some q) : cnt q.2.2 + i ≤ cnt L + q.2.1 := by
  unfold pD at h
  split at h
  · split at h
    · obtain ⟨z, hz, h2⟩ := Option.bind_eq_some_iff.mp h
      have a := pCl_cn hz
      cases Option.some.inj h2
      ((try simp only [cnt_app, cnt_one, cnt_two, ub_3, ub_6, ub_7, ub_12, ub_20, ub_21, ub_22, ub_23, ub_24, ub_25, ub_26, ub_27, ub_31, ub_32, ub_33, ub_34, ub_35, ub_36, ub_50, ub_51, ub_52, ub_53, ub_54, ub_60, ub_61, ub_62, ub_63, ub_65, ub_66, ub_67, ub_68, ub_69, ub_70, ub_74, ub_75, ub_76, ub_77, ub_78, ub_80, ub_81, ub_82, ub_83] at *); omega)
    · exact absurd h (by simp)
  · split at h
    · obtain ⟨z, hz, h2⟩ := Option.bind_eq_some_iff.mp h
      have a := pCl_cn hz
      cases Option.some.inj h2
      ((try simp only [cnt_app, cnt_one, cnt_two, ub_3, ub_6, ub_7, ub_12, ub_20, ub_21, ub_22, ub_23, ub_24, ub_25, ub_26, ub_27, ub_31, ub_32, ub_33, ub_34, ub_35, ub_36, ub_50, ub_51, ub_52, ub_53, ub_54, ub_60, ub_61, ub_62, ub_63, ub_65, ub_66, ub_67, ub_68, ub_69, ub_70, ub_74, ub_75, ub_76, ub_77, ub_78, ub_80, ub_81, ub_82, ub_83] at *); omega)
    · split at h
      · split at h
        · cases Option.some.inj h; ((try simp only [cnt_app, cnt_one, cnt_two, ub_3, ub_6, ub_7, ub_12, ub_20, ub_21, ub_22, ub_23, ub_24, ub_25, ub_26, ub_27, ub_31, ub_32, ub_33, ub_34, ub_35, ub_36, ub_50, ub_51, ub_52, ub_53, ub_54, ub_60, ub_61, ub_62, ub_63, ub_65, ub_66, ub_67, ub_68, ub_69, ub_70, ub_74, ub_75, ub_76, ub_77, ub_78, ub_80, ub_81, ub_82, ub_83] at *); omega)
        · exact absurd h (by simp)
      · split at h
        · split at h
          · obtain ⟨z, hz, h2⟩ := Option.bind_eq_some_iff.mp h
            have a := pBk_cn (pS_cn 16) hz
            cases Option.some.inj h2
            ((try simp only [cnt_app, cnt_one, cnt_two, ub_3, ub_6, ub_7, ub_12, ub_20, ub_21, ub_22, ub_23, ub_24, ub_25, ub_26, ub_27, ub_31, ub_32, ub_33, ub_34, ub_35, ub_36, ub_50, ub_51, ub_52, ub_53, ub_54, ub_60, ub_61, ub_62, ub_63, ub_65, ub_66, ub_67, ub_68, ub_69, ub_70, ub_74, ub_75, ub_76, ub_77, ub_78, ub_80, ub_81, ub_82, ub_83] at *); omega)
          · exact absurd h (by simp)
        · split at h
          · split at h
            · obtain ⟨z, hz, h2⟩ := Option.bind_eq_some_iff.mp h
              have a := pBk_cn (pS_cn 16) hz
              cases Option.some.inj h2
              ((try simp only [cnt_app, cnt_one, cnt_two, ub_3, ub_6, ub_7, ub_12, ub_20, ub_21, ub_22, ub_23, ub_24, ub_25, ub_26, ub_27, ub_31, ub_32, ub_33, ub_34, ub_35, ub_36, ub_50, ub_51, ub_52, ub_53, ub_54, ub_60, ub_61, ub_62, ub_63, ub_65, ub_66, ub_67, ub_68, ub_69, ub_70, ub_74, ub_75, ub_76, ub_77, ub_78, ub_80, ub_81, ub_82, ub_83] at *); omega)
            · exact absurd h (by simp)
          · split at h
            · split at h
              · obtain ⟨z, hz, h2⟩ := Option.bind_eq_some_iff.mp h
                obtain ⟨y, hy, h3⟩ := Option.bind_eq_some_iff.mp hz
                have a := pX_cn hy
                have b := pt_cn h3
                cases Option.some.inj h2
                ((try simp only [cnt_app, cnt_one, cnt_two, ub_3, ub_6, ub_7, ub_12, ub_20, ub_21, ub_22, ub_23, ub_24, ub_25, ub_26, ub_27, ub_31, ub_32, ub_33, ub_34, ub_35, ub_36, ub_50, ub_51, ub_52, ub_53, ub_54, ub_60, ub_61, ub_62, ub_63, ub_65, ub_66, ub_67, ub_68, ub_69, ub_70, ub_74, ub_75, ub_76, ub_77, ub_78, ub_80, ub_81, ub_82, ub_83] at *); omega)
              · exact absurd h (by simp)
            · split at h
              · split at h
                · obtain ⟨z, hz, h2⟩ := Option.bind_eq_some_iff.mp h
                  obtain ⟨y, hy, h3⟩ := Option.bind_eq_some_iff.mp hz
                  have a := pX_cn hy
                  have b := pt_cn h3
                  cases Option.some.inj h2
                  ((try simp only [cnt_app, cnt_one, cnt_two, ub_3, ub_6, ub_7, ub_12, ub_20, ub_21, ub_22, ub_23, ub_24, ub_25, ub_26, ub_27, ub_31, ub_32, ub_33, ub_34, ub_35, ub_36, ub_50, ub_51, ub_52, ub_53, ub_54, ub_60, ub_61, ub_62, ub_63, ub_65, ub_66, ub_67, ub_68, ub_69, ub_70, ub_74, ub_75, ub_76, ub_77, ub_78, ub_80, ub_81, ub_82, ub_83] at *); omega)
                · exact absurd h (by simp)
              · exact absurd h (by simp)
theorem pAl_cn : ∀ (m : Nat) (n : gN) (i : Nat) (L : gU) (q : gN × Nat × gU), pAl K V m n i L = some q → cnt q.2.2 + i ≤ cnt L + q.2.1 := by
  intro m
  induction m with
  | zero => intro n i L q h; exact absurd h (by simp [pAl])
  | succ m ih =>
    intro n i L q h
    rw [pAl] at h
    split at h
    · cases Option.some.inj h; exact Nat.le_refl _
    · obtain ⟨z, hz, h2⟩ := Option.bind_eq_some_iff.mp h
      have a := pD_cn hz
      have b := ih _ _ _ _ h2
      omega
/-- so all parts have room -/
theorem tPs_800 {n : gN} {j : Nat} {E : gV} (h : pAl K V 701 (0, 0, 0, 0, 0) 0 [] = some (n, j, L)) : (tPs sN V K L E).length ≤ j := by
  have a := pAl_cn _ _ _ _ _ h
  have b : (tPs sN V K L E).length ≤ cnt L := tPs_cnt
  have a : cnt L + 0 ≤ 0 + j := a
  omega
end CNTL
end
section
/-! the code of a text, by the grammar: what its sums and steps are like -/
/-- a sum's events -/
def sVv (K : Nat → Int32) (v : Nat × Nat × Nat) : Prop := (v.1 = 50 → K v.2.1 = 29 ∨ K v.2.1 = 58) ∧ (v.1 = 51 → ¬ pst (K v.2.1) = 0) ∧ (v.1 = 52 → K v.2.1 = 2) ∧ (v.1 = 3 ∨ v.1 = 6 ∨ v.1 = 7 → K v.2.1 = 1) ∧ (v.1 = 12 → K v.2.1 = 2 ∧ K v.2.2 = 1)
/-- how high the values stand: h before the events, 1 behind them, never above 40 -/
def okE : gU → Nat → Prop
  | [], h => h = 1
  | v :: N, h => if v.1 = 7 then okE N h else if v.1 = 50 then 1 ≤ h ∧ okE N h else if v.1 = 51 then 2 ≤ h ∧ okE N (h - 1) else h < 40 ∧ okE N (h + 1)
/-- a cell of a row is told by two events, the one behind the other -/
def ajE (N : gU) : Prop := ∀ (f g : Nat × Nat × Nat → Option (Int32 × Int32)), (∀ v ∈ N, ¬ v.1 = 7 → ¬ v.1 = 12 → f v = g v) → (∀ i, (7, i, 0) ∈ N → (12, i + 2, i) ∈ N → f (7, i, 0) = g (12, i + 2, i)) → (∀ i j, f (12, i, j) = none) → (∀ i j, g (7, i, j) = none) → N.filterMap f = N.filterMap g
def sW (K : Nat → Int32) (d : Nat) (N : gU) : Prop := (∀ v ∈ N, sVv K v) ∧ (∀ R h, h + d ≤ 40 → okE R (h + 1) → okE (N ++ R) h) ∧ ajE N
section SWL
variable {K V : Nat → Int32} {sN : Nat → Nat → Bool} {T : gTd} {L M N R : gU} {d e i j f : Nat} {v : Nat × Nat × Nat} {o : Bool} {E : gV}
theorem ajE_app (a : ajE N) (b : ajE M) : ajE (N ++ M) := fun f g h1 h2 h3 h4 => by
  rw [List.filterMap_append, List.filterMap_append, a f g (fun v hv => h1 v (List.mem_append_left _ hv)) (fun i a1 a2 => h2 i (List.mem_append_left _ a1) (List.mem_append_left _ a2)) h3 h4, b f g (fun v hv => h1 v (List.mem_append_right _ hv)) (fun i a1 a2 => h2 i (List.mem_append_right _ a1) (List.mem_append_right _ a2)) h3 h4]
theorem ajE_one (h : ¬ v.1 = 7 ∧ ¬ v.1 = 12) : ajE [v] := fun f g h1 _ _ _ => by
  simp only [List.filterMap_cons, List.filterMap_nil, h1 v List.mem_cons_self h.1 h.2]
theorem ajE_row : ajE [(7, i, 0), (12, i + 2, i)] := fun f g h1 h2 h3 h4 => by
  have e := h2 i List.mem_cons_self (List.mem_cons_of_mem _ List.mem_cons_self)
  simp only [List.filterMap_cons, List.filterMap_nil, e, h3, h4]
theorem sVv_50 (k : K i = 29 ∨ K i = 58) : sVv K (50, i, j) := ⟨fun _ => k, fun c => absurd c (show ¬ 50 = 51 by decide), fun c => absurd c (show ¬ 50 = 52 by decide), fun c => absurd c (show ¬ (50 = 3 ∨ 50 = 6 ∨ 50 = 7) by decide), fun c => absurd c (show ¬ 50 = 12 by decide)⟩
theorem sVv_51 (k : ¬ pst (K i) = 0) : sVv K (51, i, j) := ⟨fun c => absurd c (show ¬ 51 = 50 by decide), fun _ => k, fun c => absurd c (show ¬ 51 = 52 by decide), fun c => absurd c (show ¬ (51 = 3 ∨ 51 = 6 ∨ 51 = 7) by decide), fun c => absurd c (show ¬ 51 = 12 by decide)⟩
theorem sVv_52 (k : K i = 2) : sVv K (52, i, j) := ⟨fun c => absurd c (show ¬ 52 = 50 by decide), fun c => absurd c (show ¬ 52 = 51 by decide), fun _ => k, fun c => absurd c (show ¬ (52 = 3 ∨ 52 = 6 ∨ 52 = 7) by decide), fun c => absurd c (show ¬ 52 = 12 by decide)⟩
theorem sVv_53 : sVv K (53, i, j) := ⟨fun c => absurd c (show ¬ 53 = 50 by decide), fun c => absurd c (show ¬ 53 = 51 by decide), fun c => absurd c (show ¬ 53 = 52 by decide), fun c => absurd c (show ¬ (53 = 3 ∨ 53 = 6 ∨ 53 = 7) by decide), fun c => absurd c (show ¬ 53 = 12 by decide)⟩
theorem sVv_nm {k : Nat} (hk : k = 3 ∨ k = 6 ∨ k = 7) (k1 : K i = 1) : sVv K (k, i, j) := by
  have c0 : ¬ k = 50 := by omega
  have c1 : ¬ k = 51 := by omega
  have c2 : ¬ k = 52 := by omega
  have c3 : ¬ k = 12 := by omega
  exact ⟨fun c => absurd c c0, fun c => absurd c c1, fun c => absurd c c2, fun _ => k1, fun c => absurd c c3⟩
theorem sVv_12 (k2 : K i = 2) (k1 : K j = 1) : sVv K (12, i, j) := ⟨fun c => absurd c (show ¬ 12 = 50 by decide), fun c => absurd c (show ¬ 12 = 51 by decide), fun c => absurd c (show ¬ 12 = 52 by decide), fun c => absurd c (show ¬ (12 = 3 ∨ 12 = 6 ∨ 12 = 7) by decide), fun _ => ⟨k2, k1⟩⟩
theorem sW_up (h : sW K d N) (hd : d ≤ e) : sW K e N := ⟨h.1, fun R h' hh hR => h.2.1 R h' (by omega) hR, h.2.2⟩
theorem sW_leaf (hv : sVv K v) (h : ¬ v.1 = 7 ∧ ¬ v.1 = 12 ∧ ¬ v.1 = 50 ∧ ¬ v.1 = 51) (hd : 1 ≤ d) : sW K d [v] := ⟨fun w hw => by rw [List.mem_singleton.mp hw]; exact hv, fun R h' hh hR => by
  show okE (v :: R) h'
  rw [okE, if_neg h.1, if_neg h.2.2.1, if_neg h.2.2.2]
  exact ⟨by omega, hR⟩, ajE_one ⟨h.1, h.2.1⟩⟩
theorem sW_row (k1 : K i = 1) (k2 : K (i + 2) = 2) (hd : 1 ≤ d) : sW K d [(7, i, 0), (12, i + 2, i)] := ⟨fun w hw => by
  rcases List.mem_cons.mp hw with e | hw
  · rw [e]; exact sVv_nm (Or.inr (Or.inr rfl)) k1
  · rw [List.mem_singleton.mp hw]; exact sVv_12 k2 k1, fun R h' hh hR => by
  show okE ((7, i, 0) :: (12, i + 2, i) :: R) h'
  rw [okE, if_pos rfl, okE, if_neg (show ¬ 12 = 7 by decide), if_neg (show ¬ 12 = 50 by decide), if_neg (show ¬ 12 = 51 by decide)]
  exact ⟨by omega, hR⟩, ajE_row⟩
theorem sW_un (a : sW K d N) (k : K i = 29 ∨ K i = 58) : sW K d (N ++ [(50, i, 0)]) := ⟨fun w hw => (List.mem_append.mp hw).elim (a.1 w) (fun hw => by rw [List.mem_singleton.mp hw]; exact sVv_50 k), fun R h' hh hR => by
  rw [List.append_assoc]
  refine a.2.1 _ h' hh ?_
  show okE ((50, i, 0) :: R) (h' + 1)
  rw [okE, if_neg (show ¬ 50 = 7 by decide), if_pos rfl]
  exact ⟨by omega, hR⟩, ajE_app a.2.2 (ajE_one ⟨show ¬ 50 = 7 by decide, show ¬ 50 = 12 by decide⟩)⟩
theorem sW_bin (a : sW K d N) (b : sW K e M) (he : e < d) (k : ¬ pst (K j) = 0) : sW K d (N ++ M ++ [(51, j, 0)]) := ⟨fun w hw => (List.mem_append.mp hw).elim (fun hw => (List.mem_append.mp hw).elim (a.1 w) (b.1 w)) (fun hw => by rw [List.mem_singleton.mp hw]; exact sVv_51 k), fun R h' hh hR => by
  rw [List.append_assoc, List.append_assoc]
  refine a.2.1 _ h' hh (b.2.1 _ (h' + 1) (by omega) ?_)
  show okE ((51, j, 0) :: R) (h' + 1 + 1)
  rw [okE, if_neg (show ¬ 51 = 7 by decide), if_neg (show ¬ 51 = 50 by decide), if_pos rfl, Nat.add_sub_cancel]
  exact ⟨by omega, hR⟩, ajE_app (ajE_app a.2.2 b.2.2) (ajE_one ⟨show ¬ 51 = 7 by decide, show ¬ 51 = 12 by decide⟩)⟩
abbrev swo (K : Nat → Int32) (o : Bool) (d : Nat) (rE : Nat → Nat → gU → gOp) : Prop := ∀ s i L q, rE s i L = some q → ∃ N, q.2 = L ++ N ∧ sEv o N ∧ sW K d N
theorem pW_sW {rE : Nat → Nat → gU → gOp} {th : Nat} (hr : swo K o f rE) : ∀ (n j : Nat) (L N : gU) (q : Nat × gU), sEv o N → sW K (f + 1) N → pW rE K th n j (L ++ N) = some q → ∃ N', q.2 = L ++ N' ∧ sEv o N' ∧ sW K (f + 1) N' := by
  intro n
  induction n with
  | zero => intro j L N q _ _ h; exact absurd h (by simp [pW])
  | succ n ih =>
    intro j L N q hs hN h
    rw [pW] at h
    split at h
    · next c =>
      split at h
      · obtain ⟨z, hz, h2⟩ := Option.bind_eq_some_iff.mp h
        have h2 : pW rE K th n z.1 (z.2 ++ [(51, j, 0)]) = some q := h2
        obtain ⟨M, eM, sM, wM⟩ := hr _ _ _ _ hz
        have e : z.2 ++ [(51, j, 0)] = L ++ (N ++ M ++ [(51, j, 0)]) := by rw [eM]; simp only [List.append_assoc]
        rw [e] at h2
        exact ih _ _ _ _ (sEv_app (sEv_app hs sM) (sEv_one (Or.inr (Or.inl rfl)))) (sW_bin hN wM (Nat.lt_succ_self _) (by omega)) h2
      · exact absurd h (by simp)
    · cases Option.some.inj h; exact ⟨N, rfl, hs, hN⟩
theorem pO_sW {rE : Nat → Nat → gU → gOp} (hr : swo K o f rE) {q : Nat × gU} (h : pO rE K o i L = some q) : ∃ N, q.2 = L ++ N ∧ sEv o N ∧ sW K (f + 1) N := by
  have h1 : 1 ≤ f + 1 := Nat.succ_le_succ (Nat.zero_le _)
  unfold pO at h
  split at h
  · exact absurd h (by simp)
  · split at h
    · next k => cases Option.some.inj h; exact ⟨_, rfl, sEv_one (Or.inr (Or.inr (Or.inl rfl))), sW_leaf (sVv_52 k) ⟨show ¬ 52 = 7 by decide, show ¬ 52 = 12 by decide, show ¬ 52 = 50 by decide, show ¬ 52 = 51 by decide⟩ h1⟩
    · split at h
      · cases Option.some.inj h; exact ⟨_, rfl, sEv_one (Or.inr (Or.inr (Or.inr (Or.inl rfl)))), sW_leaf sVv_53 ⟨show ¬ 53 = 7 by decide, show ¬ 53 = 12 by decide, show ¬ 53 = 50 by decide, show ¬ 53 = 51 by decide⟩ h1⟩
      · split at h
        · obtain ⟨z, hz, h2⟩ := Option.bind_eq_some_iff.mp h
          obtain ⟨N, eN, sN', wN⟩ := hr _ _ _ _ hz
          obtain ⟨-, -, e2⟩ := pt_is h2
          rw [e2]
          exact ⟨N, eN, sN', sW_up wN (Nat.le_succ _)⟩
        · split at h
          · next k1 =>
            split at h
            · next ho =>
              split at h
              · split at h
                · next c =>
                  cases Option.some.inj h
                  exact ⟨_, rfl, sEv_app (N := [_]) (M := [_]) (sEv_one (Or.inr (Or.inr (Or.inr (Or.inr (Or.inr ⟨ho, Or.inr (Or.inl rfl)⟩)))))) (sEv_one (Or.inr (Or.inr (Or.inr (Or.inr (Or.inr ⟨ho, Or.inr (Or.inr rfl)⟩)))))), sW_row k1 c.2.1.1 h1⟩
                · exact absurd h (by simp)
              · cases Option.some.inj h; exact ⟨_, rfl, sEv_one (Or.inr (Or.inr (Or.inr (Or.inr (Or.inr ⟨ho, Or.inl rfl⟩))))), sW_leaf (sVv_nm (Or.inr (Or.inl rfl)) k1) ⟨show ¬ 6 = 7 by decide, show ¬ 6 = 12 by decide, show ¬ 6 = 50 by decide, show ¬ 6 = 51 by decide⟩ h1⟩
            · next ho =>
              cases Option.some.inj h
              exact ⟨_, rfl, sEv_one (Or.inr (Or.inr (Or.inr (Or.inr (Or.inl ⟨by cases o with | false => rfl | true => exact absurd rfl ho, rfl⟩))))), sW_leaf (sVv_nm (Or.inl rfl) k1) ⟨show ¬ 3 = 7 by decide, show ¬ 3 = 12 by decide, show ¬ 3 = 50 by decide, show ¬ 3 = 51 by decide⟩ h1⟩
          · exact absurd h (by simp)
theorem pE_sW : ∀ f : Nat, swo K o f (pE K o f) := by
  intro f
  induction f with
  | zero => intro s i L q h; exact absurd h (by simp [pE])
  | succ f ih =>
    intro s i L q h
    rw [pE] at h
    split at h
    · obtain ⟨z, hz, h2⟩ := Option.bind_eq_some_iff.mp h
      have a : ∃ N, z.2 = L ++ N ∧ sEv o N ∧ sW K (f + 1) N := by
        split at hz
        · next k =>
          split at hz
          · obtain ⟨y, hy, h3⟩ := Option.bind_eq_some_iff.mp hz
            obtain ⟨N, eN, sN', wN⟩ := ih _ _ _ _ hy
            cases Option.some.inj h3
            exact ⟨N ++ [(50, i, 0)], by show y.2 ++ [(50, i, 0)] = _; rw [eN, List.append_assoc], sEv_app sN' (sEv_one (Or.inl rfl)), sW_up (sW_un wN k) (Nat.le_succ _)⟩
          · exact absurd hz (by simp)
        · exact pO_sW ih hz
      obtain ⟨N, eN, sN', wN⟩ := a
      have h2 : pW (pE K o f) K s 701 z.1 z.2 = some q := h2
      rw [eN] at h2
      exact pW_sW ih _ _ _ _ _ sN' wN h2
    · exact absurd h (by simp)
theorem pX_sW {q : Nat × gU} (h : pX K o f i L = some q) : ∃ N, q.2 = L ++ (N ++ [(54, 0, 0)]) ∧ sEv o N ∧ sW K f N := by
  obtain ⟨z, hz, h2⟩ := Option.bind_eq_some_iff.mp h
  obtain ⟨N, eN, hs, hw⟩ := pE_sW f _ _ _ _ hz
  unfold pan at h2
  cases Option.some.inj h2
  exact ⟨N, by show z.2 ++ [(54, 0, 0)] = _; rw [eN, List.append_assoc], hs, hw⟩
theorem sW_ok (h : sW K d N) (hd : d ≤ 40) : okE N 0 := by
  have a := h.2.1 [] 0 (by omega) rfl
  rw [List.append_nil] at a
  exact a
theorem flt_mem : ∀ {N : gU}, still N → ∀ {v : Nat × Nat × Nat}, v ∈ N → fv sN T V E v → flt sN T V N E := by
  intro N
  induction N with
  | nil => intro _ v hv _; cases hv
  | cons w N ih =>
    intro hs v hv hf
    rcases List.mem_cons.mp hv with e | hv
    · rw [e] at hf; exact Or.inl hf
    · refine Or.inr ?_
      rw [exV_still (hs w List.mem_cons_self)]
      exact ih (fun u hu => hs u (List.mem_cons_of_mem _ hu)) hv hf
theorem sEv_st (h : sEv o N) : still N := fun v hv => by
  have := h v hv
  refine ⟨by omega, by omega, by omega⟩
/-- a sum of a thread: well formed, its names known -/
def sOo (sN : Nat → Nat → Bool) (K : Nat → Int32) (E : gV) (o : Option gU) : Prop := ∀ N, o = some N → sEv false N ∧ (∀ v ∈ N, sVv K v) ∧ okE N 0 ∧ ∀ v ∈ N, v.1 = 3 → ∃ p, kfi sN E.1 v.2.1 = some p
theorem sOo_no : sOo sN K E none := fun N h => by cases h
theorem sOo_so (hs : sEv false N) (hw : sW K d N) (hd : d ≤ 40) (nf : ¬ flt sN T V N E) : sOo sN K E (some N) := fun M hM => by
  cases Option.some.inj hM
  refine ⟨hs, hw.1, sW_ok hw hd, fun v hv h3 => ?_⟩
  cases c : kfi sN E.1 v.2.1 with
  | some p => exact ⟨p, rfl⟩
  | none => exact absurd (flt_mem (sEv_st hs) hv (Or.inl ⟨h3, c⟩)) nf
theorem sOo_one (k : K i = 1) (hk : ¬ kfi sN E.1 i = none) : sOo sN K E (some [(3, i, 0)]) := fun M hM => by
  cases Option.some.inj hM
  refine ⟨sEv_one (Or.inr (Or.inr (Or.inr (Or.inr (Or.inl ⟨rfl, rfl⟩))))), fun v hv => by rw [List.mem_singleton.mp hv]; exact sVv_nm (Or.inl rfl) k, ?_, fun v hv _ => ?_⟩
  · rw [okE, if_neg (show ¬ 3 = 7 by decide), if_neg (show ¬ 3 = 50 by decide), if_neg (show ¬ 3 = 51 by decide)]
    exact ⟨by decide, rfl⟩
  · rw [List.mem_singleton.mp hv]
    cases c : kfi sN E.1 i with
    | some p => exact ⟨p, rfl⟩
    | none => exact absurd c hk
end SWL
/-- one step, where E is known -/
def pOk (E : gV) (p : Nat) : Prop := p < E.1.length ∨ (p = E.1.length ∧ E.2.2 < 8)
/-- what belongs where: the second sum, the first, the target -/
def nxL (st : gSt) : Prop := (¬ st.1 = 4 → st.2.2.2.2.2.2.2.2 = none) ∧ (¬ ((1 ≤ st.1 ∧ st.1 ≤ 4) ∨ st.1 = 13 ∨ st.1 = 14 ∨ (16 ≤ st.1 ∧ st.1 ≤ 18)) → st.2.2.2.2.2.2.2.1 = none) ∧ (¬ (st.1 = 0 ∨ (2 ≤ st.1 ∧ st.1 ≤ 4) ∨ st.1 = 16 ∨ st.1 = 17 ∨ st.1 = 20) → st.2.2.2.1 = none)
theorem nxL_of {op tk : Nat} {kn : gK × Nat} {to tn : Option Nat} {fl : Bool} {ix e1 e2 : Option gU} (a : ¬ op = 4 → e2 = none) (b : ¬ ((1 ≤ op ∧ op ≤ 4) ∨ op = 13 ∨ op = 14 ∨ (16 ≤ op ∧ op ≤ 18)) → e1 = none) (c : ¬ (op = 0 ∨ (2 ≤ op ∧ op ≤ 4) ∨ op = 16 ∨ op = 17 ∨ op = 20) → to = none) : nxL (op, tk, kn, to, tn, fl, ix, e1, e2) := ⟨a, b, c⟩
def stLk (sN : Nat → Nat → Bool) (K : Nat → Int32) (E : gV) (st : gSt) : Prop :=
  st.2.2.1 = knw E ∧ (st.1 < 22 ∧ ¬ st.1 = 15) ∧
  ((st.1 = 0 ∨ (2 ≤ st.1 ∧ st.1 ≤ 4) ∨ st.1 = 16) → ∃ p, st.2.2.2.1 = some p ∧ pOk E p) ∧
  (st.1 ≤ 10 → ∃ t, st.2.2.2.2.1 = some t ∧ K t = 1) ∧ (st.1 = 13 → ∃ t, st.2.2.2.2.1 = some t ∧ K t = 2) ∧ (10 < st.1 → ¬ st.1 = 13 → st.2.2.2.2.1 = none) ∧
  (st.1 ≤ 4 → (st.2.2.2.2.2.1 = true ↔ ¬ st.2.2.2.2.2.2.1 = none)) ∧ (5 ≤ st.1 → st.2.2.2.2.2.2.1 = none) ∧
  ((1 ≤ st.1 ∧ st.1 ≤ 4) ∨ st.1 = 13 ∨ st.1 = 14 ∨ (16 ≤ st.1 ∧ st.1 ≤ 18) → ¬ st.2.2.2.2.2.2.2.1 = none) ∧
  (st.1 = 4 → ¬ st.2.2.2.2.2.2.2.2 = none) ∧
  sOo sN K E st.2.2.2.2.2.2.1 ∧ sOo sN K E st.2.2.2.2.2.2.2.1 ∧ sOo sN K E st.2.2.2.2.2.2.2.2 ∧ (19 ≤ st.1 → st.2.2.2.2.2.2.2.1 = none) ∧ nxL st
section STL
variable {K V : Nat → Int32} {sN : Nat → Nat → Bool} {E : gV} {op tk t p : Nat} {to : Option Nat} {fl : Bool} {ix e1 e2 : Option gU} {N : gU}
theorem stLk_x (ho : op ≤ 4) (hp : op = 1 ∨ ∃ p, to = some p ∧ pOk E p) (hk : K t = 1) (hr : fl = true ↔ ¬ ix = none) (h1 : ¬ op = 0 → ¬ e1 = none) (h2 : op = 4 → ¬ e2 = none) (s0 : sOo sN K E ix) (s1 : sOo sN K E e1) (s2 : sOo sN K E e2) (hz : op = 1 → to = none) (hy : op = 0 → e1 = none) (hw : ¬ op = 4 → e2 = none) : stLk sN K E (op, tk, knw E, to, some t, fl, ix, e1, e2) := by
  refine ⟨rfl, ⟨by show op < 22; omega, by show ¬ op = 15; omega⟩, fun c => ?_, fun _ => ⟨t, rfl, hk⟩, fun c => absurd c (by show ¬ op = 13; omega), fun c => absurd c (by show ¬ 10 < op; omega), fun _ => hr, fun c => absurd c (by show ¬ 5 ≤ op; omega), fun c => h1 ?_, h2, s0, s1, s2, fun c => absurd c (by show ¬ 19 ≤ op; omega), nxL_of hw (fun c => hy (by omega)) (fun c => hz (by omega))⟩
  · have c : op = 0 ∨ (2 ≤ op ∧ op ≤ 4) ∨ op = 16 := c
    exact hp.elim (fun z => absurd c (by omega)) id
  · have c : (1 ≤ op ∧ op ≤ 4) ∨ op = 13 ∨ op = 14 ∨ (16 ≤ op ∧ op ≤ 18) := c
    omega
theorem stLk_16 (hp : pOk E p) (s1 : sOo sN K E (some N)) : stLk sN K E (16, tk, knw E, some p, none, false, none, some N, none) := ⟨rfl, ⟨show 16 < 22 by decide, show ¬ 16 = 15 by decide⟩, fun _ => ⟨p, rfl, hp⟩, fun c => absurd c (show ¬ 16 ≤ 10 by decide), fun c => absurd c (show ¬ 16 = 13 by decide), fun _ _ => rfl, fun c => absurd c (show ¬ 16 ≤ 4 by decide), fun _ => rfl, fun _ => Option.some_ne_none _, fun c => absurd c (show ¬ 16 = 4 by decide), sOo_no, s1, sOo_no, fun c => absurd c (show ¬ 19 ≤ 16 by decide), nxL_of (fun _ => rfl) (fun c => absurd (by decide) c) (fun c => absurd (by decide) c)⟩
theorem stLk_p (h : op = 11 ∨ op = 12 ∨ op = 19 ∨ op = 20 ∨ op = 21) (hz : ¬ op = 20 → to = none) : stLk sN K E (op, tk, knw E, to, none, false, none, none, none) := by
  refine ⟨rfl, ⟨by show op < 22; omega, by show ¬ op = 15; omega⟩, fun c => ?_, fun c => absurd c (by show ¬ op ≤ 10; omega), fun c => absurd c (by show ¬ op = 13; omega), fun _ _ => rfl, fun c => absurd c (by show ¬ op ≤ 4; omega), fun _ => rfl, fun c => ?_, fun c => absurd c (by show ¬ op = 4; omega), sOo_no, sOo_no, sOo_no, fun _ => rfl, nxL_of (fun _ => rfl) (fun _ => rfl) (fun c => hz (by omega))⟩
  · have c : op = 0 ∨ (2 ≤ op ∧ op ≤ 4) ∨ op = 16 := c
    omega
  · have c : (1 ≤ op ∧ op ≤ 4) ∨ op = 13 ∨ op = 14 ∨ (16 ≤ op ∧ op ≤ 18) := c
    omega
theorem stLk_w (h : 5 ≤ op ∧ op ≤ 10) (hk : K t = 1) : stLk sN K E (op, tk, knw E, none, some t, fl, none, none, none) := by
  refine ⟨rfl, ⟨by show op < 22; omega, by show ¬ op = 15; omega⟩, fun c => ?_, fun _ => ⟨t, rfl, hk⟩, fun c => absurd c (by show ¬ op = 13; omega), fun c => absurd c (by show ¬ 10 < op; omega), fun c => absurd c (by show ¬ op ≤ 4; omega), fun _ => rfl, fun c => ?_, fun c => absurd c (by show ¬ op = 4; omega), sOo_no, sOo_no, sOo_no, fun _ => rfl, nxL_of (fun _ => rfl) (fun _ => rfl) (fun _ => rfl)⟩
  · have c : op = 0 ∨ (2 ≤ op ∧ op ≤ 4) ∨ op = 16 := c
    omega
  · have c : (1 ≤ op ∧ op ≤ 4) ∨ op = 13 ∨ op = 14 ∨ (16 ≤ op ∧ op ≤ 18) := c
    omega
theorem stLk_s (h : op = 14 ∨ op = 17 ∨ op = 18) (s1 : sOo sN K E (some N)) : stLk sN K E (op, tk, knw E, none, none, false, none, some N, none) := by
  refine ⟨rfl, ⟨by show op < 22; omega, by show ¬ op = 15; omega⟩, fun c => ?_, fun c => absurd c (by show ¬ op ≤ 10; omega), fun c => absurd c (by show ¬ op = 13; omega), fun _ _ => rfl, fun c => absurd c (by show ¬ op ≤ 4; omega), fun _ => rfl, fun _ => Option.some_ne_none _, fun c => absurd c (by show ¬ op = 4; omega), sOo_no, s1, sOo_no, fun c => absurd c (by show ¬ 19 ≤ op; omega), nxL_of (fun _ => rfl) (fun c => absurd (by omega) c) (fun _ => rfl)⟩
  have c : op = 0 ∨ (2 ≤ op ∧ op ≤ 4) ∨ op = 16 := c
  omega
theorem stLk_13 (hk : K t = 2) (s1 : sOo sN K E (some N)) : stLk sN K E (13, tk, knw E, none, some t, false, none, some N, none) := ⟨rfl, ⟨show 13 < 22 by decide, show ¬ 13 = 15 by decide⟩, fun c => absurd c (show ¬ (13 = 0 ∨ (2 ≤ 13 ∧ 13 ≤ 4) ∨ 13 = 16) by decide), fun c => absurd c (show ¬ 13 ≤ 10 by decide), fun _ => ⟨t, rfl, hk⟩, fun _ c => absurd rfl c, fun c => absurd c (show ¬ 13 ≤ 4 by decide), fun _ => rfl, fun _ => Option.some_ne_none _, fun c => absurd c (show ¬ 13 = 4 by decide), sOo_no, s1, sOo_no, fun c => absurd c (show ¬ 19 ≤ 13 by decide), nxL_of (fun _ => rfl) (fun c => absurd (by decide) c) (fun _ => rfl)⟩
/-- a step whose target is set -/
theorem stLk_to {st : gSt} {n : Nat} (h : stLk sN K E st) (ho : st.1 = 17 ∨ st.1 = 20) : stLk sN K E (stS st n) := by
  obtain ⟨h1, h2, h3, h4, h5, h6, h7, h8, h9, h10, h11, h12, h13, h14, h15, h16, h17⟩ := h
  refine ⟨h1, h2, fun c => ?_, h4, h5, h6, h7, h8, h9, h10, h11, h12, h13, h14, h15, h16, fun c => ?_⟩
  · have c : st.1 = 0 ∨ (2 ≤ st.1 ∧ st.1 ≤ 4) ∨ st.1 = 16 := c
    omega
  · have c : ¬ (st.1 = 0 ∨ (2 ≤ st.1 ∧ st.1 ≤ 4) ∨ st.1 = 16 ∨ st.1 = 17 ∨ st.1 = 20) := c
    omega
end STL
end
section
/-! where the steps of a text go, and what is known there -/
def slK (ks : gK) : List Nat := ks.map Prod.snd
/-- the slots known behind a step -/
def aft (st : gSt) : List Nat := if (st.1 = 0 ∨ (2 ≤ st.1 ∧ st.1 ≤ 4) ∨ st.1 = 16) ∧ st.2.2.2.1 = some st.2.2.1.1.length then st.2.2.1.2 :: slK st.2.2.1.1 else slK st.2.2.1.1
def gEe (E : gV) : Prop := (slK E.1).Pairwise (fun a b => b < a) ∧ (∀ s ∈ slK E.1, s < E.2.2) ∧ E.2.2 ≤ 8
/-- at n goes on what knows no more than a: a step, or what comes behind them all -/
def nxO (S : List gSt) (E : gV) (n : Nat) (a : List Nat) : Prop := (∃ st, S[n]? = some st ∧ slK st.2.2.1.1 <:+ a) ∨ (n = S.length ∧ slK E.1 <:+ a)
def flO (S : List gSt) (E : gV) (j : Nat) (st : gSt) : Prop := (¬ (st.1 = 20 ∨ st.1 = 21) → nxO S E (j + 1) (aft st)) ∧ (st.1 = 17 ∨ st.1 = 20 → ∃ n, st.2.2.2.1 = some n ∧ nxO S E n (slK st.2.2.1.1))
def SGx (sN : Nat → Nat → Bool) (K : Nat → Int32) (X : Nat → Prop) (E : gV) (S : List gSt) (E' : gV) (S' : List gSt) : Prop := xtS S S' ∧ nxO S' E' S.length (slK E.1) ∧ ∀ j st, S.length ≤ j → S'[j]? = some st → (¬ X j → flO S' E' j st) ∧ ∃ E0, stLk sN K E0 st ∧ gEe E0
abbrev SG (sN : Nat → Nat → Bool) (K : Nat → Int32) (E : gV) (S : List gSt) (E' : gV) (S' : List gSt) : Prop := SGx sN K (fun _ => False) E S E' S'
section FLW
variable {K V : Nat → Int32} {sN : Nat → Nat → Bool} {T : gTd} {X X' : Nat → Prop} {E E0 E1 E2 E' : gV} {S S1 S2 S' : List gSt} {st : gSt} {a b : List Nat} {i j n m : Nat}
theorem aft_suf : slK st.2.2.1.1 <:+ aft st := by
  unfold aft
  split
  · exact List.suffix_cons _ _
  · exact List.suffix_refl _
theorem aft_no (h : ¬ (st.1 = 0 ∨ (2 ≤ st.1 ∧ st.1 ≤ 4) ∨ st.1 = 16)) : aft st = slK st.2.2.1.1 := if_neg (fun c => h c.1)
theorem aft_let {op tk : Nat} {ob : Option Nat} {fl : Bool} {ix e1 e2 : Option gU} (h : op = 0 ∨ (2 ≤ op ∧ op ≤ 4) ∨ op = 16) : aft (op, tk, knw E, some E.1.length, ob, fl, ix, e1, e2) = E.2.2 :: slK E.1 := if_pos ⟨h, rfl⟩
theorem nxO_up (h : nxO S E n a) (x : xtS S S') (e : nxO S' E' S.length (slK E.1)) : nxO S' E' n a := by
  rcases h with ⟨st, h1, h2⟩ | ⟨h1, h2⟩
  · exact Or.inl ⟨st, by rw [x.2 n (gt_lt h1)]; exact h1, h2⟩
  · subst h1
    rcases e with ⟨st, e1, e2⟩ | ⟨e1, e2⟩
    · exact Or.inl ⟨st, e1, e2.trans h2⟩
    · exact Or.inr ⟨e1, e2.trans h2⟩
theorem nxO_to (h : nxO S E m a) : nxO (cTo S i n) E m a := by
  rcases h with ⟨st, h1, h2⟩ | ⟨h1, h2⟩
  · refine Or.inl ⟨if m = i then stS st n else st, by rw [cTo_at, h1]; rfl, ?_⟩
    split <;> exact h2
  · exact Or.inr ⟨by rw [cTo_len]; exact h1, h2⟩
theorem nxO_x (h : nxO S E n a) (w : slK E'.1 <:+ slK E.1) : nxO S E' n a := by
  rcases h with h | ⟨h1, h2⟩
  · exact Or.inl h
  · exact Or.inr ⟨h1, w.trans h2⟩
theorem flO_up (h : flO S E j st) (x : xtS S S') (e : nxO S' E' S.length (slK E.1)) : flO S' E' j st := ⟨fun c => nxO_up (h.1 c) x e, fun c => by
  obtain ⟨n, h1, h2⟩ := h.2 c
  exact ⟨n, h1, nxO_up h2 x e⟩⟩
theorem flO_to (h : flO S E j st) : flO (cTo S i n) E j st := ⟨fun c => nxO_to (h.1 c), fun c => by
  obtain ⟨n, h1, h2⟩ := h.2 c
  exact ⟨n, h1, nxO_to h2⟩⟩
theorem flO_x (h : flO S E j st) (w : slK E'.1 <:+ slK E.1) : flO S E' j st := ⟨fun c => nxO_x (h.1 c) w, fun c => by
  obtain ⟨n, h1, h2⟩ := h.2 c
  exact ⟨n, h1, nxO_x h2 w⟩⟩
theorem SGx_rf : SGx sN K X E S E S := ⟨xtS_rf, Or.inr ⟨rfl, List.suffix_refl _⟩, fun j st hj hs => absurd (gt_lt hs) (by omega)⟩
theorem SGx_tr (a : SGx sN K X E S E1 S1) (b : SG sN K E1 S1 E2 S2) : SGx sN K X E S E2 S2 := by
  obtain ⟨a1, a2, a3⟩ := a
  obtain ⟨b1, b2, b3⟩ := b
  refine ⟨xtS_tr a1 b1, nxO_up a2 b1 b2, fun j st hj hs => ?_⟩
  by_cases c : j < S1.length
  · rw [b1.2 j c] at hs
    obtain ⟨p, q⟩ := a3 j st hj hs
    exact ⟨fun z => flO_up (p z) b1 b2, q⟩
  · obtain ⟨p, q⟩ := b3 j st (by omega) hs
    exact ⟨fun _ => p (fun z => z), q⟩
theorem snA : (S ++ [st])[S.length]? = some st := by
  rw [List.getElem?_append_right (Nat.le_refl _), Nat.sub_self]
  rfl
theorem SGx_add (a : SGx sN K X E S E1 S1) (hX : ∀ j, X j → X' j) (kn : slK st.2.2.1.1 <:+ slK E1.1) (hf : ¬ X' S1.length → flO (S1 ++ [st]) E2 S1.length st) (hL : ∃ E0, stLk sN K E0 st ∧ gEe E0) : SGx sN K X' E S E2 (S1 ++ [st]) := by
  obtain ⟨a1, a2, a3⟩ := a
  have ent : nxO (S1 ++ [st]) E2 S1.length (slK E1.1) := Or.inl ⟨st, snA, kn⟩
  refine ⟨xtS_tr a1 xtS_sn, nxO_up a2 xtS_sn ent, fun j st9 hj hs => ?_⟩
  by_cases c : j < S1.length
  · rw [List.getElem?_append_left c] at hs
    obtain ⟨p, q⟩ := a3 j st9 hj hs
    exact ⟨fun z => flO_up (p (fun y => z (hX j y))) xtS_sn ent, q⟩
  · have hl := gt_lt hs
    rw [List.length_append] at hl
    have hl : j < S1.length + 1 := hl
    have ej : j = S1.length := by omega
    rw [ej, snA] at hs
    cases Option.some.inj hs
    rw [ej]
    exact ⟨hf, hL⟩
/-- a step's target is set -/
theorem SGx_cl (h : SGx sN K X E S E' S') (hi : S.length ≤ i) (hs : S'[i]? = some st) (ho : st.1 = 17 ∨ st.1 = 20) (hn : nxO S' E' n (slK st.2.2.1.1)) (h1 : st.1 = 17 → nxO S' E' (i + 1) (slK st.2.2.1.1)) (hX : ∀ j, X j → j = i ∨ X' j) : SGx sN K X' E S E' (cTo S' i n) := by
  obtain ⟨a1, a2, a3⟩ := h
  refine ⟨xtS_to a1 hi, nxO_to a2, fun j st9 hj h9 => ?_⟩
  rw [cTo_at] at h9
  obtain ⟨s0, h0, e0⟩ := Option.map_eq_some_iff.mp h9
  have e : (if j = i then stS s0 n else s0) = st9 := e0
  clear e0
  obtain ⟨p, q⟩ := a3 j s0 hj h0
  by_cases c : j = i
  · rw [if_pos c] at e
    subst c
    rw [hs] at h0
    cases Option.some.inj h0
    rw [← e]
    refine ⟨fun _ => ⟨fun c2 => ?_, fun _ => ⟨n, rfl, nxO_to hn⟩⟩, ?_⟩
    · have c2 : ¬ (st.1 = 20 ∨ st.1 = 21) := c2
      have o17 : st.1 = 17 := by omega
      have ea : aft (stS st n) = slK st.2.2.1.1 := aft_no (st := stS st n) (by show ¬ (st.1 = 0 ∨ (2 ≤ st.1 ∧ st.1 ≤ 4) ∨ st.1 = 16); omega)
      rw [ea]
      exact nxO_to (h1 o17)
    · obtain ⟨E0, q1, q2⟩ := q
      exact ⟨E0, stLk_to q1 ho, q2⟩
  · rw [if_neg c] at e
    rw [← e]
    exact ⟨fun z => flO_to (p (fun y => (hX j y).elim c z)), q⟩
theorem SGx_ex (h : SGx sN K X E S E1 S1) (w : slK E2.1 <:+ slK E1.1) : SGx sN K X E S E2 S1 := ⟨h.1, nxO_x h.2.1 w, fun j st hj hs => ⟨fun z => flO_x ((h.2.2 j st hj hs).1 z) w, (h.2.2 j st hj hs).2⟩⟩
theorem SGx_en (h : SGx sN K X E S E1 S1) (w : slK E.1 = slK E0.1) : SGx sN K X E0 S E1 S1 := ⟨h.1, by rw [← w]; exact h.2.1, h.2.2⟩
theorem SG_one (hL : stLk sN K E st) (hg : gEe E) (ho : ¬ (st.1 = 17 ∨ st.1 = 20)) (w : slK E'.1 <:+ aft st) : SG sN K E S E' (S ++ [st]) :=
  SGx_add (E1 := E) SGx_rf (fun _ z => z) (by rw [hL.1]; exact List.suffix_refl _) (fun _ => ⟨fun _ => Or.inr ⟨by rw [List.length_append]; rfl, w⟩, fun c => absurd c ho⟩) ⟨E, hL, hg⟩
end FLW
/-- what a statement's events do to the code -/
def PSt (K : Nat → Int32) (b : Prop) (c c' : Nat) (N : gU) : Prop := ∀ sN T V E, ¬ flt sN T V N E → ¬ E.2.1 = [] → gEe E → E.2.2 = c → ((exs N E).2.1 = E.2.1 ∧ E.1 <:+ (exs N E).1 ∧ gEe (exs N E) ∧ (exs N E).2.2 = c' ∧ (b → (exs N E).1 = E.1)) ∧ ∀ S k w, ∃ S', cds sN K N (E, S, k, rg0, w) = (exs N E, S', k, rg0, w) ∧ SG sN K E S (exs N E) S'
def PRt (K : Nat → Int32) (t : Option Nat) (N : gU) : Prop := still N ∧ ∀ sN T V E, ¬ flt sN T V N E → ¬ E.2.1 = [] → (t = none → E.2.2 < 8) → ∀ S k w tk, ∃ st, cds sN K N (E, S, k, ([], [], 0, false, none, tk), w) = (E, S ++ [st], k, rg0, w) ∧ stLk sN K E st ∧ ¬ (st.1 = 17 ∨ st.1 = 20) ∧ (t = none → aft st = E.2.2 :: slK E.1)
section PST
variable {K V : Nat → Int32} {sN : Nat → Nat → Bool} {T : gTd} {E : gV} {L M N N0 N1 : gU} {f i c tk tp : Nat} {t : Option Nat} {ro : Bool} {ix : Option gU} {S : List gSt} {k : List Nat} {w : List (Nat × Nat) × List (Nat × gU)}
theorem nf_app (h : ¬ flt sN T V (M ++ N) E) (hs : still M) : ¬ flt sN T V M E ∧ ¬ flt sN T V N E := by
  rw [flt_app, exs_still hs] at h
  exact ⟨fun z => h (Or.inl z), fun z => h (Or.inr z)⟩
theorem st_k {k a b : Nat} (h : ¬ k = 20 ∧ ¬ k = 21 ∧ ¬ k = 22) : still [(k, a, b)] := still_one h
theorem pP_f {q : Nat × gU} (h : pP K f i L = some q) : ∃ N0 ro ix N1, q.2 = L ++ N1 ∧ pPl i N0 ro ix N1 ∧ K i = 1 ∧ ∀ N, ix = some N → sW K f N := by
  unfold pP at h
  split at h
  · next c =>
    split at h
    · split at h
      · obtain ⟨z, hz, h2⟩ := Option.bind_eq_some_iff.mp h
        obtain ⟨N, eN, hs, hw⟩ := pX_sW hz
        obtain ⟨-, -, e2⟩ := pt_is h2
        rw [e2]
        exact ⟨N, true, some N, _, by rw [eN, List.append_assoc], Or.inr ⟨rfl, rfl, hs, rfl⟩, c.1, fun M hM => by cases Option.some.inj hM; exact hw⟩
      · exact absurd h (by simp)
    · cases Option.some.inj h
      exact ⟨[], false, none, _, rfl, Or.inl ⟨rfl, rfl, rfl⟩, c.1, fun M hM => by cases hM⟩
  · exact absurd h (by simp)
theorem pPl_st (h : pPl tp N0 ro ix N1) : still N1 := by
  rcases h with ⟨-, -, e⟩ | ⟨-, -, hs, e⟩
  · rw [e]; exact st_k (by decide)
  · rw [e]; exact still_app (st_k (by decide)) (still_app (sEv_st hs) (st_k (by decide)))
theorem pPl_sO (h : pPl tp N0 ro ix N1) (hw : ∀ N, ix = some N → sW K f N) (hf : f ≤ 40) (nf : ¬ flt sN T V N1 E) : sOo sN K E ix ∧ (ro = true ↔ ¬ ix = none) := by
  rcases h with ⟨e1, e2, -⟩ | ⟨e1, e2, hs, e⟩
  · rw [e1, e2]; exact ⟨sOo_no, by simp⟩
  · rw [e] at nf
    have nf := (nf_app (nf_app nf (st_k (by decide))).2 (sEv_st hs)).1
    rw [e1, e2]
    exact ⟨sOo_so hs (hw _ e2) hf nf, by simp⟩
theorem cds_pme : ∃ tk', cds sN K (pme t) (E, S, k, ([], [], 0, false, none, tk), w) = (E, S, k, ([], [], 0, false, t, tk'), w) := by
  cases t with
  | none => exact ⟨tk, rfl⟩
  | some a => exact ⟨a, rfl⟩
theorem cds_pma : ∃ tk', cds sN K (pma t) (E, S, k, ([], [], 0, false, none, tk), w) = (E, S, k, ([], [], 0, false, t, tk'), w) := by
  cases t with
  | none => exact ⟨tk, rfl⟩
  | some a => exact ⟨a, rfl⟩
theorem pme_st : still (pme t) := by
  cases t with
  | none => exact still_nil
  | some a => exact st_k (by decide)
theorem pma_st : still (pma t) := by
  cases t with
  | none => exact still_nil
  | some a => exact st_k (by decide)
theorem pme_k (nf : ¬ flt sN T V (pme t) E) (a : Nat) (h : t = some a) : ¬ kfi sN E.1 a = none := by
  subst h
  exact fun z => nf (flt_one.mpr (fv_26.mpr z))
theorem toL_ok (ht : t = none → E.2.2 < 8) (hk : ∀ a, t = some a → ¬ kfi sN E.1 a = none) : ∃ p, toL sN E.1 t = some p ∧ pOk E p ∧ (t = none → p = E.1.length) := by
  cases t with
  | none => exact ⟨E.1.length, rfl, Or.inr ⟨rfl, ht rfl⟩, fun _ => rfl⟩
  | some a =>
    cases c : kfi sN E.1 a with
    | none => exact absurd c (hk a rfl)
    | some p => exact ⟨p, c, Or.inl (kfi_lt c), fun z => by cases z⟩
theorem cSe_s {c : gCd} {tg : Option Nat} {p : Nat} (h : toL sN c.1.1 tg = some p) : cSe sN c tg tk N = cEm c (16, tk, knw c.1, some p, none, false, none, some N, none) := by unfold cSe; rw [h]
theorem cSe_n {c : gCd} {tg : Option Nat} (h : toL sN c.1.1 tg = none) : cSe sN c tg tk N = cEm c (1, tk, knw c.1, none, tg, false, none, some N, none) := by unfold cSe; rw [h]
theorem cAl_s {c : gCd} {tg : Option Nat} {p : Nat} (h : kfi sN c.1.1 i = some p) : cAl sN c tg tk i = cSe sN c tg tk [(3, i, 0)] := by unfold cAl; rw [h]
theorem cAl_n {c : gCd} {tg : Option Nat} (h : kfi sN c.1.1 i = none) : cAl sN c tg tk i = cEm c (0, tk, knw c.1, toL sN c.1.1 tg, some i, false, none, none, none) := by unfold cAl; rw [h]
theorem cSe_ok {tg tg0 : Option Nat} {cu : gU} {su : List gU} {pl tk0 : Nat} (ht : tg = none → E.2.2 < 8) (hk : ∀ a, tg = some a → K a = 1) (s1 : sOo sN K E (some N)) : ∃ st, cSe sN (E, S, k, (cu, su, pl, ro, tg0, tk0), w) tg tk N = (E, S ++ [st], k, rg0, w) ∧ stLk sN K E st ∧ ¬ (st.1 = 17 ∨ st.1 = 20) ∧ (tg = none → aft st = E.2.2 :: slK E.1) := by
  cases c : toL sN E.1 tg with
  | some p =>
    refine ⟨_, cSe_s c, stLk_16 ?_ s1, show ¬ (16 = 17 ∨ 16 = 20) by decide, fun z => ?_⟩
    · cases tg with
      | none => cases Option.some.inj c; exact Or.inr ⟨rfl, ht rfl⟩
      | some a => exact Or.inl (kfi_lt c)
    · subst z
      cases Option.some.inj c
      exact aft_let (Or.inr (Or.inr rfl))
  | none =>
    cases tg with
    | none => cases c
    | some a => exact ⟨_, cSe_n c, stLk_x (by decide) (Or.inl rfl) (hk a rfl) (by simp) (fun _ => Option.some_ne_none _) (fun z => absurd z (by decide)) sOo_no s1 sOo_no (fun _ => rfl) (fun z => absurd z (by decide)) (fun _ => rfl), show ¬ (1 = 17 ∨ 1 = 20) by decide, fun z => by cases z⟩
theorem pR_f {q : Nat × gU} (hf : f ≤ 16) (ht : ∀ a, t = some a → K a = 1) (h : pR K f t i L = some q) : ∃ N, q.2 = L ++ N ∧ PRt K t N := by
  unfold pR at h
  split at h
  · next kk =>
    split at h
    · obtain ⟨z4, hz4, h4⟩ := Option.bind_eq_some_iff.mp h
      obtain ⟨z3, hz3, h3⟩ := Option.bind_eq_some_iff.mp hz4
      obtain ⟨z2, hz2, h2⟩ := Option.bind_eq_some_iff.mp hz3
      obtain ⟨N0, ro, ix, N1, e1, hpl, k1, hix⟩ := pP_f hz2
      obtain ⟨-, -, e2⟩ := pt_is h2
      have h3 : pX K false f z3.1 z3.2 = some z4 := h3
      obtain ⟨N2, e3, s2, w2⟩ := pX_sW h3
      obtain ⟨z5, hz5, h5⟩ := Option.bind_eq_some_iff.mp h4
      unfold pan at h5
      split at hz5
      · next k16 =>
        obtain ⟨z6, hz6, h6⟩ := Option.bind_eq_some_iff.mp hz5
        obtain ⟨-, -, e6⟩ := pt_is hz6
        have h6 : pX K false f z6.1 z6.2 = some z5 := h6
        obtain ⟨N3, e7, s3, w3⟩ := pX_sW h6
        cases Option.some.inj h5
        refine ⟨pme t ++ (N1 ++ ((N2 ++ [(54, 0, 0)]) ++ ((N3 ++ [(54, 0, 0)]) ++ [(74, i, 0)]))), ?_, ?_, ?_⟩
        · show z5.2 ++ [(74, i, 0)] = _
          rw [e7, e6]
          show (z4.2 ++ (N3 ++ [(54, 0, 0)])) ++ [(74, i, 0)] = _
          rw [e3, e2]
          show ((z2.2 ++ (N2 ++ [(54, 0, 0)])) ++ (N3 ++ [(54, 0, 0)])) ++ [(74, i, 0)] = _
          rw [e1]
          simp only [List.append_assoc]
        · exact still_app pme_st (still_app (pPl_st hpl) (still_app (still_app (sEv_st s2) (st_k (by decide))) (still_app (still_app (sEv_st s3) (st_k (by decide))) (st_k (by decide)))))
        · intro sN T V E nf hE h8 S k w tk
          obtain ⟨n1, nf⟩ := nf_app nf pme_st
          obtain ⟨n2, nf⟩ := nf_app nf (pPl_st hpl)
          obtain ⟨n3, nf⟩ := nf_app nf (still_app (sEv_st s2) (st_k (by decide)))
          obtain ⟨n3, -⟩ := nf_app n3 (sEv_st s2)
          obtain ⟨n4, -⟩ := nf_app nf (still_app (sEv_st s3) (st_k (by decide)))
          obtain ⟨n4, -⟩ := nf_app n4 (sEv_st s3)
          obtain ⟨so, hro⟩ := pPl_sO hpl hix (by omega) n2
          obtain ⟨tk', et⟩ := cds_pme (sN := sN) (K := K) (t := t) (E := E) (S := S) (k := k) (w := w) (tk := tk)
          obtain ⟨p, ep, hp, hn⟩ := toL_ok h8 (pme_k n1)
          refine ⟨_, by rw [cds_app, et, cds_r74c hpl s2 s3 hE k16], ?_, show ¬ (4 = 17 ∨ 4 = 20) by decide, fun z => ?_⟩
          · rw [ep]
            exact stLk_x (by decide) (Or.inr ⟨p, rfl, hp⟩) k1 hro (fun _ => Option.some_ne_none _) (fun _ => Option.some_ne_none _) so (sOo_so s2 w2 (by omega) n3) (sOo_so s3 w3 (by omega) n4) (fun z => absurd z (by decide)) (fun z => absurd z (by decide)) (fun z => absurd rfl z)
          · rw [ep, hn z]
            exact aft_let (Or.inr (Or.inl (by decide)))
      · next k16 =>
        cases Option.some.inj hz5
        cases Option.some.inj h5
        refine ⟨pme t ++ (N1 ++ ((N2 ++ [(54, 0, 0)]) ++ [(74, i, 0)])), ?_, ?_, ?_⟩
        · show z4.2 ++ [(74, i, 0)] = _
          rw [e3, e2]
          show (z2.2 ++ (N2 ++ [(54, 0, 0)])) ++ [(74, i, 0)] = _
          rw [e1]
          simp only [List.append_assoc]
        · exact still_app pme_st (still_app (pPl_st hpl) (still_app (still_app (sEv_st s2) (st_k (by decide))) (st_k (by decide))))
        · intro sN T V E nf hE h8 S k w tk
          obtain ⟨n1, nf⟩ := nf_app nf pme_st
          obtain ⟨n2, nf⟩ := nf_app nf (pPl_st hpl)
          obtain ⟨n3, -⟩ := nf_app nf (still_app (sEv_st s2) (st_k (by decide)))
          obtain ⟨n3, -⟩ := nf_app n3 (sEv_st s2)
          obtain ⟨so, hro⟩ := pPl_sO hpl hix (by omega) n2
          obtain ⟨tk', et⟩ := cds_pme (sN := sN) (K := K) (t := t) (E := E) (S := S) (k := k) (w := w) (tk := tk)
          obtain ⟨p, ep, hp, hn⟩ := toL_ok h8 (pme_k n1)
          have hop : opX (K i) = 2 ∨ opX (K i) = 3 := by
            rcases kk with e | e | e
            · rw [e]; exact Or.inl rfl
            · rw [e]; exact Or.inr rfl
            · exact absurd e k16
          refine ⟨_, by rw [cds_app, et, cds_r74 hpl s2 hE k16], ?_, by show ¬ (opX (K i) = 17 ∨ opX (K i) = 20); omega, fun z => ?_⟩
          · rw [ep]
            exact stLk_x (by omega) (Or.inr ⟨p, rfl, hp⟩) k1 hro (fun _ => Option.some_ne_none _) (fun z => absurd z (by omega)) so (sOo_so s2 w2 (by omega) n3) sOo_no (fun z => absurd z (by omega)) (fun z => absurd z (by omega)) (fun _ => rfl)
          · rw [ep, hn z]
            exact aft_let (by omega)
    · exact absurd h (by simp)
  · split at h
    · obtain ⟨z, hz, h2⟩ := Option.bind_eq_some_iff.mp h
      obtain ⟨N0, ro, ix, N1, e1, hpl, k1, hix⟩ := pP_f hz
      unfold pan at h2
      cases Option.some.inj h2
      refine ⟨pme t ++ (N1 ++ [(75, i, 0)]), ?_, still_app pme_st (still_app (pPl_st hpl) (st_k (by decide))), ?_⟩
      · show z.2 ++ [(75, i, 0)] = _
        rw [e1]
        simp only [List.append_assoc]
      · intro sN T V E nf hE h8 S k w tk
        obtain ⟨n1, nf⟩ := nf_app nf pme_st
        obtain ⟨n2, -⟩ := nf_app nf (pPl_st hpl)
        obtain ⟨so, hro⟩ := pPl_sO hpl hix (by omega) n2
        obtain ⟨tk', et⟩ := cds_pme (sN := sN) (K := K) (t := t) (E := E) (S := S) (k := k) (w := w) (tk := tk)
        obtain ⟨p, ep, hp, hn⟩ := toL_ok h8 (pme_k n1)
        refine ⟨_, by rw [cds_app, et, cds_r75 hpl hE], ?_, show ¬ (0 = 17 ∨ 0 = 20) by decide, fun z => ?_⟩
        · rw [ep]
          exact stLk_x (by decide) (Or.inr ⟨p, rfl, hp⟩) k1 hro (fun z => absurd rfl z) (fun z => absurd z (by decide)) so sOo_no sOo_no (fun z => absurd z (by decide)) (fun _ => rfl) (fun _ => rfl)
        · rw [ep, hn z]
          exact aft_let (Or.inl rfl)
    · split at h
      · next kk =>
        split at h
        · cases Option.some.inj h
          refine ⟨[pal t i], rfl, ?_, ?_⟩
          · cases t with
            | none => exact st_k (by decide)
            | some a => exact st_k (by decide)
          · intro sN T V E nf hE h8 S k w tk
            have nf := fun z => nf (flt_one.mpr z)
            cases t with
            | none =>
              rw [show cds sN K [pal none i] (E, S, k, ([], [], 0, false, none, tk), w) = cAl sN (E, S, k, ([], [], 0, false, none, tk), w) none tk i from rfl]
              cases ck : kfi sN E.1 i with
              | some p0 =>
                rw [cAl_s ck]
                exact cSe_ok h8 (fun a z => by cases z) (sOo_one kk.1 (by rw [ck]; exact fun z => by cases z))
              | none => exact ⟨_, cAl_n ck, stLk_x (by decide) (Or.inr ⟨_, rfl, Or.inr ⟨rfl, h8 rfl⟩⟩) kk.1 (by simp) (fun z => absurd rfl z) (fun z => absurd z (by decide)) sOo_no sOo_no sOo_no (fun z => absurd z (by decide)) (fun _ => rfl) (fun _ => rfl), show ¬ (0 = 17 ∨ 0 = 20) by decide, fun _ => aft_let (Or.inl rfl)⟩
            | some a =>
              rw [show cds sN K [pal (some a) i] (E, S, k, ([], [], 0, false, none, tk), w) = cAl sN (E, S, k, ([], [], 0, false, none, tk), w) (some a) a i from rfl]
              cases ck : kfi sN E.1 i with
              | some p0 =>
                rw [cAl_s ck]
                exact cSe_ok h8 ht (sOo_one kk.1 (by rw [ck]; exact fun z => by cases z))
              | none =>
                cases ca : kfi sN E.1 a with
                | none => exact absurd (fv_27.mpr (Or.inl ⟨ck, Or.inl ca⟩)) nf
                | some p =>
                  refine ⟨_, cAl_n ck, ?_, show ¬ (0 = 17 ∨ 0 = 20) by decide, fun z => by cases z⟩
                  exact stLk_x (by decide) (Or.inr ⟨p, ca, Or.inl (kfi_lt ca)⟩) kk.1 (by simp) (fun z => absurd rfl z) (fun z => absurd z (by decide)) sOo_no sOo_no sOo_no (fun z => absurd z (by decide)) (fun _ => rfl) (fun _ => rfl)
        · exact absurd h (by simp)
      · obtain ⟨z, hz, h2⟩ := Option.bind_eq_some_iff.mp h
        obtain ⟨N2, e3, s2, w2⟩ := pX_sW hz
        unfold pan at h2
        cases Option.some.inj h2
        refine ⟨pma t ++ ((N2 ++ [(54, 0, 0)]) ++ [(76, i, 0)]), ?_, still_app pma_st (still_app (still_app (sEv_st s2) (st_k (by decide))) (st_k (by decide))), ?_⟩
        · show z.2 ++ [(76, i, 0)] = _
          rw [e3]
          simp only [List.append_assoc]
        · intro sN T V E nf hE h8 S k w tk
          obtain ⟨-, nf⟩ := nf_app nf pma_st
          obtain ⟨n3, -⟩ := nf_app nf (still_app (sEv_st s2) (st_k (by decide)))
          obtain ⟨n3, -⟩ := nf_app n3 (sEv_st s2)
          obtain ⟨tk', et⟩ := cds_pma (sN := sN) (K := K) (t := t) (E := E) (S := S) (k := k) (w := w) (tk := tk)
          rw [cds_app, et, cds_app, cds_x s2 hE, cds_one, cd_76]
          exact cSe_ok h8 ht (sOo_so s2 w2 (by omega) n3)
end PST
end
section
/-! statements, blocks and definitions: what their events make of the code -/
section PSS
variable {K V : Nat → Int32} {sN : Nat → Nat → Bool} {T : gTd} {E : gV} {L M N : gU} {f i c c' c2 z n : Nat} {b b2 : Prop} {S : List gSt} {k : List Nat} {w : List (Nat × Nat) × List (Nat × gU)}
theorem PSt_one (hs : still N) (h : ∀ sN T V E, ¬ flt sN T V N E → ¬ E.2.1 = [] → ∀ S k w, ∃ st, cds sN K N (E, S, k, rg0, w) = (E, S ++ [st], k, rg0, w) ∧ stLk sN K E st ∧ ¬ (st.1 = 17 ∨ st.1 = 20)) : PSt K b c c N := by
  intro sN T V E nf hE hg hc
  rw [exs_still hs]
  refine ⟨⟨rfl, List.suffix_refl _, hg, hc, fun _ => rfl⟩, fun S k w => ?_⟩
  obtain ⟨st, e, hL, ho⟩ := h sN T V E nf hE S k w
  refine ⟨_, e, SG_one hL hg ho ?_⟩
  have a := aft_suf (st := st)
  rw [hL.1] at a
  exact a
theorem PSt_let (hR : PRt K none N) (h8 : c < 8) (hb : ¬ b) {t0 t1 : Nat} : PSt K b c (c + 1) ([(23, t0, 0)] ++ (N ++ [(22, t0, t1)])) := by
  intro sN T V E nf hE hg hc
  have s23 : still [(23, t0, 0)] := st_k (by decide)
  obtain ⟨-, nf⟩ := nf_app nf s23
  obtain ⟨nf, -⟩ := nf_app nf hR.1
  have ex : exs ([(23, t0, 0)] ++ (N ++ [(22, t0, t1)])) E = ((t0, E.2.2) :: E.1, E.2.1, E.2.2 + 1) := by
    rw [exs_app, exs_still s23, exs_app, exs_still hR.1]; rfl
  rw [ex]
  refine ⟨⟨rfl, List.suffix_cons _ _, ⟨List.Pairwise.cons hg.2.1 hg.1, fun s hs => ?_, by show E.2.2 + 1 ≤ 8; omega⟩, by show E.2.2 + 1 = c + 1; rw [hc], fun z => absurd z hb⟩, fun S k w => ?_⟩
  · rcases List.mem_cons.mp hs with e | hs
    · rw [e]; exact Nat.lt_succ_self _
    · exact Nat.lt_succ_of_lt (hg.2.1 s hs)
  · obtain ⟨st, e, hL, ho, ha⟩ := hR.2 sN T V E nf hE (fun _ => by omega) S k w (t0 - 1)
    refine ⟨_, by rw [cds_app, cds_one, cd_23, cds_app, e, cds_one, cd_22]; rfl, SG_one hL hg ho ?_⟩
    rw [ha rfl]
    exact List.suffix_refl _
theorem PSt_set {t a : Nat} (hR : PRt K (some t) N) : PSt K b c c (N ++ [(77, a, 0)]) := PSt_one (still_app hR.1 (st_k (by decide))) (fun sN T V E nf hE S k w => by
  obtain ⟨nf, -⟩ := nf_app nf hR.1
  obtain ⟨st, e, hL, ho, -⟩ := hR.2 sN T V E nf hE (fun z => by cases z) S k w 0
  exact ⟨st, by rw [cds_app, e, cds_one, cd_77], hL, ho⟩)
abbrev psto (K : Nat → Int32) (rS : Nat → Nat → gU → gTs) : Prop := ∀ c i L q, rS c i L = some q → ∃ N, q.2.2 = L ++ N ∧ PSt K (K i = 24) c q.1 N
theorem pS1_f {q : Nat × Nat × gU} (hf : f ≤ 16) (h : pS1 K f c i L = some q) : ∃ N, q.2.2 = L ++ N ∧ PSt K (K i = 24) c q.1 N := by
  unfold pS1 at h
  split at h
  · next k26 =>
    split at h
    · next cc =>
      obtain ⟨r, hr, h2⟩ := Option.bind_eq_some_iff.mp h
      obtain ⟨r1, hr1, h3⟩ := Option.bind_eq_some_iff.mp hr
      obtain ⟨-, -, e3⟩ := pt_is h3
      obtain ⟨N, eN, hN⟩ := pR_f hf (fun a z => by cases z) hr1
      cases Option.some.inj h2
      refine ⟨[(23, i + 1, 0)] ++ (N ++ [(22, i + 1, i)]), ?_, PSt_let hN cc.2.1 (by rw [k26]; decide)⟩
      show r.2 ++ [(22, i + 1, i)] = _
      rw [e3]
      show r1.2 ++ [(22, i + 1, i)] = _
      rw [eN]
      simp only [List.append_assoc]
    · exact absurd h (by simp)
  · split at h
    · next k1 =>
      split at h
      · split at h
        · obtain ⟨r, hr, h2⟩ := Option.bind_eq_some_iff.mp h
          obtain ⟨r1, hr1, h3⟩ := Option.bind_eq_some_iff.mp hr
          obtain ⟨r2, hr2, h4⟩ := Option.bind_eq_some_iff.mp hr1
          obtain ⟨r3, hr3, h5⟩ := Option.bind_eq_some_iff.mp hr2
          obtain ⟨r4, hr4, h6⟩ := Option.bind_eq_some_iff.mp hr3
          obtain ⟨-, -, e3⟩ := pt_is h3
          have h4 : pX K false f r2.1 r2.2 = some r1 := h4
          obtain ⟨-, -, e5⟩ := pt_is h5
          obtain ⟨-, -, e6⟩ := pt_is h6
          obtain ⟨N0, a0, s0, w0⟩ := pX_sW hr4
          obtain ⟨N2, a2, s2, w2⟩ := pX_sW h4
          cases Option.some.inj h2
          refine ⟨[(7, i, 0)] ++ ((N0 ++ [(54, 0, 0)]) ++ ((N2 ++ [(54, 0, 0)]) ++ [(78, i, 0)])), ?_, PSt_one (still_app (st_k (by decide)) (still_app (still_app (sEv_st s0) (st_k (by decide))) (still_app (still_app (sEv_st s2) (st_k (by decide))) (st_k (by decide))))) (fun sN T V E nf hE S k w => ?_)⟩
          · show r.2 ++ [(78, i, 0)] = _
            rw [e3]
            show r1.2 ++ [(78, i, 0)] = _
            rw [a2, e5]
            show (r3.2 ++ (N2 ++ [(54, 0, 0)])) ++ [(78, i, 0)] = _
            rw [e6]
            show (r4.2 ++ (N2 ++ [(54, 0, 0)])) ++ [(78, i, 0)] = _
            rw [a0]
            simp only [List.append_assoc]
          · obtain ⟨-, nf⟩ := nf_app nf (st_k (by decide))
            obtain ⟨n0, nf⟩ := nf_app nf (still_app (sEv_st s0) (st_k (by decide)))
            obtain ⟨n0, -⟩ := nf_app n0 (sEv_st s0)
            obtain ⟨n2, -⟩ := nf_app nf (still_app (sEv_st s2) (st_k (by decide)))
            obtain ⟨n2, -⟩ := nf_app n2 (sEv_st s2)
            refine ⟨_, by rw [cds_app, cds_one, cd_7 hE, cds_app, cds_x s0 hE, cds_app, cds_x s2 hE, cds_one, cd_78], ?_, show ¬ (1 = 17 ∨ 1 = 20) by decide⟩
            exact stLk_x (by decide) (Or.inl rfl) k1 (by simp) (fun _ => Option.some_ne_none _) (fun z => absurd z (by decide)) (sOo_so s0 w0 (by omega) n0) (sOo_so s2 w2 (by omega) n2) sOo_no (fun _ => rfl) (fun z => absurd z (by decide)) (fun _ => rfl)
        · exact absurd h (by simp)
      · split at h
        · obtain ⟨r, hr, h2⟩ := Option.bind_eq_some_iff.mp h
          obtain ⟨r1, hr1, h3⟩ := Option.bind_eq_some_iff.mp hr
          obtain ⟨-, -, e3⟩ := pt_is h3
          obtain ⟨N, eN, hN⟩ := pR_f hf (fun a z => by cases Option.some.inj z; exact k1) hr1
          cases Option.some.inj h2
          refine ⟨N ++ [(77, i, 0)], ?_, PSt_set hN⟩
          show r.2 ++ [(77, i, 0)] = _
          rw [e3]
          show r1.2 ++ [(77, i, 0)] = _
          rw [eN, List.append_assoc]
        · exact absurd h (by simp)
    · split at h
      · next kk =>
        obtain ⟨r, hr, h2⟩ := Option.bind_eq_some_iff.mp h
        obtain ⟨-, -, e3⟩ := pt_is hr
        cases Option.some.inj h2
        refine ⟨[(68, i, 0)], by show r.2 ++ _ = _; rw [e3], PSt_one (st_k (by decide)) (fun sN T V E nf hE S k w => ⟨_, by rw [cds_one, cd_68], stLk_p ?_ (fun _ => rfl), ?_⟩)⟩
        · unfold opP
          split
          · exact Or.inl rfl
          · split
            · exact Or.inr (Or.inl rfl)
            · exact Or.inr (Or.inr (Or.inl rfl))
        · show ¬ (opP (K i) = 17 ∨ opP (K i) = 20)
          unfold opP
          split
          · decide
          · split <;> decide
      · split at h
        · obtain ⟨r, hr, h2⟩ := Option.bind_eq_some_iff.mp h
          obtain ⟨r1, hr1, h3⟩ := Option.bind_eq_some_iff.mp hr
          obtain ⟨-, -, e3⟩ := pt_is h3
          obtain ⟨N0, a0, s0, w0⟩ := pX_sW hr1
          cases Option.some.inj h2
          refine ⟨(N0 ++ [(54, 0, 0)]) ++ [(69, i, 0)], ?_, PSt_one (still_app (still_app (sEv_st s0) (st_k (by decide))) (st_k (by decide))) (fun sN T V E nf hE S k w => ?_)⟩
          · show r.2 ++ [(69, i, 0)] = _
            rw [e3]
            show r1.2 ++ [(69, i, 0)] = _
            rw [a0, List.append_assoc]
          · obtain ⟨n0, -⟩ := nf_app nf (still_app (sEv_st s0) (st_k (by decide)))
            obtain ⟨n0, -⟩ := nf_app n0 (sEv_st s0)
            have ho : opS (K i) = 14 ∨ opS (K i) = 18 := by
              unfold opS
              split
              · exact Or.inr rfl
              · exact Or.inl rfl
            exact ⟨(opS (K i), i, knw E, none, none, false, none, some N0, none), by rw [cds_app, cds_x s0 hE, cds_one, cd_69]; rfl, stLk_s (by omega) (sOo_so s0 w0 (by omega) n0), by show ¬ (opS (K i) = 17 ∨ opS (K i) = 20); omega⟩
        · split at h
          · split at h
            · next cc =>
              obtain ⟨r, hr, h2⟩ := Option.bind_eq_some_iff.mp h
              obtain ⟨r1, hr1, h3⟩ := Option.bind_eq_some_iff.mp hr
              obtain ⟨-, -, e3⟩ := pt_is h3
              obtain ⟨N0, a0, s0, w0⟩ := pX_sW hr1
              cases Option.some.inj h2
              refine ⟨(N0 ++ [(54, 0, 0)]) ++ [(70, i, i + 1)], ?_, PSt_one (still_app (still_app (sEv_st s0) (st_k (by decide))) (st_k (by decide))) (fun sN T V E nf hE S k w => ?_)⟩
              · show r.2 ++ [(70, i, i + 1)] = _
                rw [e3]
                show r1.2 ++ [(70, i, i + 1)] = _
                rw [a0, List.append_assoc]
              · obtain ⟨n0, -⟩ := nf_app nf (still_app (sEv_st s0) (st_k (by decide)))
                obtain ⟨n0, -⟩ := nf_app n0 (sEv_st s0)
                exact ⟨(13, i, knw E, none, some (i + 1), false, none, some N0, none), by rw [cds_app, cds_x s0 hE, cds_one, cd_70]; rfl, stLk_13 cc.1.1 (sOo_so s0 w0 (by omega) n0), show ¬ (13 = 17 ∨ 13 = 20) by decide⟩
            · exact absurd h (by simp)
          · have hop : ∀ k, 5 ≤ opW k ∧ opW k ≤ 10 := fun k => by
              unfold opW
              split
              · decide
              · split
                · decide
                · split
                  · decide
                  · split
                    · decide
                    · split <;> decide
            split at h
            · split at h
              · next cc =>
                obtain ⟨r, hr, h2⟩ := Option.bind_eq_some_iff.mp h
                obtain ⟨-, -, e3⟩ := pt_is hr
                cases Option.some.inj h2
                exact ⟨[(66, i, i + 1)], by show r.2 ++ _ = _; rw [e3], PSt_one (st_k (by decide)) (fun sN T V E nf hE S k w => ⟨_, by rw [cds_one, cd_66], stLk_w (hop _) cc.1, by show ¬ (opW (K i) = 17 ∨ opW (K i) = 20); have := hop (K i); omega⟩)⟩
              · exact absurd h (by simp)
            · split at h
              · split at h
                · next cc =>
                  obtain ⟨r, hr, h2⟩ := Option.bind_eq_some_iff.mp h
                  obtain ⟨-, -, e3⟩ := pt_is hr
                  cases Option.some.inj h2
                  exact ⟨[(67, i, i + 1)], by show r.2 ++ _ = _; rw [e3], PSt_one (st_k (by decide)) (fun sN T V E nf hE S k w => ⟨_, by rw [cds_one, cd_67], stLk_w (hop _) cc.1, by show ¬ (opW (K i) = 17 ∨ opW (K i) = 20); have := hop (K i); omega⟩)⟩
                · exact absurd h (by simp)
              · exact absurd h (by simp)
theorem PSt_nil : PSt K b c c [] := fun sN T V E nf hE hg hc => ⟨⟨rfl, List.suffix_refl _, hg, hc, fun _ => rfl⟩, fun S k w => ⟨S, rfl, SGx_rf⟩⟩
theorem PSt_app (h : PSt K b c c' M) (g : PSt K b2 c' c2 N) : PSt K False c c2 (M ++ N) := by
  intro sN T V E nf hE hg hc
  rw [flt_app] at nf
  obtain ⟨⟨h1, h2, h3, h4, -⟩, h6⟩ := h sN T V E (fun z => nf (Or.inl z)) hE hg hc
  obtain ⟨⟨g1, g2, g3, g4, -⟩, g6⟩ := g sN T V (exs M E) (fun z => nf (Or.inr z)) (by rw [h1]; exact hE) h3 h4
  rw [exs_app]
  refine ⟨⟨g1.trans h1, h2.trans g2, g3, g4, fun z => z.elim⟩, fun S k w => ?_⟩
  obtain ⟨S1, e1, s1⟩ := h6 S k w
  obtain ⟨S2, e2, s2⟩ := g6 S1 k w
  exact ⟨S2, by rw [cds_app, e1, e2], SGx_tr s1 s2⟩
theorem pBl_f {rS : Nat → Nat → gU → gTs} (hr : psto K rS) : ∀ (n c i : Nat) (L : gU) (q : Nat × Nat × gU), pBl rS K z n c i L = some q → ∃ N, q.2.2 = L ++ (N ++ [(21, z, 0)]) ∧ PSt K False c q.1 N := by
  intro n
  induction n with
  | zero => intro c i L q h; exact absurd h (by simp [pBl])
  | succ n ih =>
    intro c i L q h
    rw [pBl] at h
    split at h
    · split at h
      · cases Option.some.inj h
        exact ⟨[], rfl, PSt_nil⟩
      · exact absurd h (by simp)
    · obtain ⟨y, hy, h2⟩ := Option.bind_eq_some_iff.mp h
      obtain ⟨M, eM, hM⟩ := hr _ _ _ _ hy
      obtain ⟨N, eN, hN⟩ := ih _ _ _ _ h2
      exact ⟨M ++ N, by rw [eN, eM]; simp only [List.append_assoc], PSt_app hM hN⟩
/-- a block, but for what its end adds -/
def PBt (K : Nat → Int32) (z c c' : Nat) (N : gU) : Prop := ∀ sN T V E, ¬ flt sN T V N E → gEe E → E.2.2 = c → gEe (E.1, E.2.1, c') ∧ exs N E = (E.1, E.2.1, c') ∧ ∀ S k w, ∃ S', cds sN K N (E, S, k, rg0, w) = cCl ((E.1, E.2.1, c'), S', k, rg0, w) z ∧ SG sN K E S (E.1, E.2.1, c') S'
theorem pBk_f {rS : Nat → Nat → gU → gTs} (hr : psto K rS) {q : Nat × Nat × gU} (h : pBk rS K z c i L = some q) : ∃ N, q.2.2 = L ++ N ∧ PBt K z c q.1 N := by
  unfold pBk at h
  split at h
  · obtain ⟨N, eN, hN⟩ := pBl_f hr _ _ _ _ _ h
    refine ⟨[(20, z, 0)] ++ (N ++ [(21, z, 0)]), by rw [eN, List.append_assoc], fun sN T V E nf hg hc => ?_⟩
    obtain ⟨E1, eE1⟩ : ∃ E1 : gV, E1 = (E.1, E.1.length :: E.2.1, E.2.2) := ⟨_, rfl⟩
    have x1 : exs [(20, z, 0)] E = E1 := by rw [eE1]; rfl
    rw [flt_app, x1, flt_app] at nf
    have hg1 : gEe E1 := by rw [eE1]; exact hg
    obtain ⟨⟨h1, h2, h3, h4, -⟩, h6⟩ := hN sN T V E1 (fun z => nf (Or.inr (Or.inl z))) (by rw [eE1]; exact List.cons_ne_nil _ _) hg1 (by rw [eE1]; exact hc)
    have h1 : (exs N E1).2.1 = E.1.length :: E.2.1 := by rw [h1, eE1]
    have h2 : E.1 <:+ (exs N E1).1 := by rw [eE1] at h2 ⊢; exact h2
    have x2 : exV (exs N E1) (21, z, 0) = (E.1, E.2.1, q.1) := by
      show ((exs N E1).1.drop ((exs N E1).1.length - (exs N E1).2.1.headD 0), (exs N E1).2.1.tail, (exs N E1).2.2) = _
      rw [h1, h4]
      show ((exs N E1).1.drop ((exs N E1).1.length - E.1.length), E.2.1, q.1) = _
      rw [← List.suffix_iff_eq_drop.mp h2]
    have x3 : exs ([(20, z, 0)] ++ (N ++ [(21, z, 0)])) E = (E.1, E.2.1, q.1) := by rw [exs_app, x1, exs_app, exs_one, x2]
    have sl2 : slK E.1 <:+ slK (exs N E1).1 := h2.map _
    refine ⟨⟨hg.1, fun s hs => ?_, by rw [← h4]; exact h3.2.2⟩, x3, fun S k w => ?_⟩
    · have := h3.2.1 s (sl2.subset hs)
      rw [h4] at this
      exact this
    · obtain ⟨S', e, hS⟩ := h6 S k w
      refine ⟨S', ?_, SGx_ex (E1 := exs N E1) (SGx_en (E0 := E) hS (by rw [eE1])) sl2⟩
      rw [cds_app, cds_one, cd_20]
      have x1 : exV E (20, z, 0) = E1 := x1
      rw [x1, cds_app, e, cds_one, cd_21, x2]
  · exact absurd h (by simp)
theorem cCl_no {cc : gCd} (h : z = 3 ∨ z = 4) : cCl cc z = cc := by
  unfold cCl
  rw [if_neg (by omega), if_neg (by omega), if_neg (by omega)]
/-- the test is laid -/
theorem SG_test {N0 : gU} (hg : gEe E) (so : sOo sN K E (some N0)) : SGx sN K (fun j => j = S.length) E S E (S ++ [(17, i, knw E, none, none, false, none, some N0, none)]) :=
  SGx_add (X := fun _ => False) (E1 := E) SGx_rf (fun _ z => z.elim) (List.suffix_refl _) (fun z => absurd rfl z) ⟨E, stLk_s (Or.inr (Or.inl rfl)) so, hg⟩
theorem pS_f : ∀ f : Nat, f ≤ 16 → psto K (pS K f) := by
  intro f
  induction f with
  | zero => intro _ c i L q h; exact absurd h (by simp [pS])
  | succ f ih =>
    intro hf c i L q h
    have ih := ih (by omega)
    rw [pS] at h
    split at h
    · exact absurd h (by simp)
    · split at h
      · next k24 =>
        obtain ⟨r0, hr0, h0⟩ := Option.bind_eq_some_iff.mp h
        obtain ⟨r1, hr1, h1⟩ := Option.bind_eq_some_iff.mp h0
        obtain ⟨r2, hr2, h2⟩ := Option.bind_eq_some_iff.mp hr1
        obtain ⟨N0, a0, s0, w0⟩ := pX_sW hr0
        obtain ⟨B, eB, hB⟩ := pBk_f ih hr2
        unfold pfi at h1
        cases Option.some.inj h1
        unfold pEl at h2
        have p54 : still (N0 ++ [(54, 0, 0)]) := still_app (sEv_st s0) (st_k (by decide))
        have s60 : still [(60, i, 0)] := st_k (by decide)
        split at h2
        · split at h2
          · -- else
            have els : ∃ M, r1.2.2 = (r2.2.2 ++ [(62, r2.2.1, 0)]) ++ M ∧ ∀ sN T V (E : gV), ¬ flt sN T V M E → ¬ E.2.1 = [] → gEe E → E.2.2 = r2.1 → ((exs M E).2.1 = E.2.1 ∧ (exs M E).1 = E.1 ∧ gEe (exs M E) ∧ (exs M E).2.2 = r1.1) ∧ ∀ S k w, ∃ S', cds sN K M (E, S, k, rg0, w) = (exs M E, S', k, rg0, w) ∧ SG sN K E S (exs M E) S' := by
              split at h2
              · next kk =>
                obtain ⟨M, eM, hM⟩ := ih _ _ _ _ h2
                refine ⟨M, eM, fun sN T V E nf hE hg hc => ?_⟩
                obtain ⟨⟨g1, g2, g3, g4, g5⟩, g6⟩ := hM sN T V E nf hE hg hc
                exact ⟨⟨g1, g5 kk, g3, g4⟩, g6⟩
              · obtain ⟨M, eM, hM⟩ := pBk_f ih h2
                refine ⟨M, eM, fun sN T V E nf hE hg hc => ?_⟩
                obtain ⟨g1, g2, g3⟩ := hM sN T V E nf hg hc
                rw [g2]
                refine ⟨⟨rfl, rfl, g1, rfl⟩, fun S k w => ?_⟩
                obtain ⟨S', e, hS⟩ := g3 S k w
                exact ⟨S', by rw [e, cCl_no (Or.inr rfl)], hS⟩
            obtain ⟨M, eM, hM⟩ := els
            have s62 : still [(62, r2.2.1, 0)] := st_k (by decide)
            refine ⟨(N0 ++ [(54, 0, 0)]) ++ ([(60, i, 0)] ++ (B ++ ([(62, r2.2.1, 0)] ++ (M ++ [(63, 0, 0)])))), ?_, ?_⟩
            · show r1.2.2 ++ [(63, 0, 0)] = _
              rw [eM, eB, a0]
              simp only [List.append_assoc]
            · intro sN T V E nf hE hg hc
              obtain ⟨n0, nf⟩ := nf_app nf p54
              obtain ⟨n0, -⟩ := nf_app n0 (sEv_st s0)
              obtain ⟨-, nf⟩ := nf_app nf s60
              rw [flt_app] at nf
              obtain ⟨b1, b2, b3⟩ := hB sN T V E (fun z => nf (Or.inl z)) hg hc
              rw [b2] at nf
              have nf := fun z => nf (Or.inr z)
              obtain ⟨-, nf⟩ := nf_app nf s62
              rw [flt_app] at nf
              obtain ⟨⟨m1, m2, m3, m4⟩, m5⟩ := hM sN T V (E.1, E.2.1, r2.1) (fun z => nf (Or.inl z)) hE b1 rfl
              have ex : exs ((N0 ++ [(54, 0, 0)]) ++ ([(60, i, 0)] ++ (B ++ ([(62, r2.2.1, 0)] ++ (M ++ [(63, 0, 0)]))))) E = exs M (E.1, E.2.1, r2.1) := by
                rw [exs_app, exs_still p54, exs_app, exs_still s60, exs_app, b2, exs_app, exs_still s62, exs_app, exs_still (E := exs M (E.1, E.2.1, r2.1)) (st_k (by decide))]
              rw [ex]
              refine ⟨⟨m1, by rw [m2]; exact List.suffix_refl _, m3, m4, fun _ => m2⟩, fun S k w => ?_⟩
              have g0 := SG_test (i := i) (S := S) hg (sOo_so s0 w0 (by omega) n0)
              obtain ⟨S2, e2, g2⟩ := b3 (S ++ [(17, i, knw E, none, none, false, none, some N0, none)]) (S.length :: k) w
              rw [cCl_no (Or.inl rfl)] at e2
              have g3 := SGx_tr g0 g2
              have lS1 : (S ++ [((17, i, knw E, none, none, false, none, some N0, none) : gSt)]).length = S.length + 1 := by rw [List.length_append]; rfl
              have at1 : S2[S.length]? = some (17, i, knw E, none, none, false, none, some N0, none) := by
                rw [g2.1.2 S.length (by omega)]; exact snA
              have lt2 : S.length < S2.length := gt_lt at1
              -- the jump behind the block
              have g4 : SGx sN K (fun j => j = S.length ∨ j = S2.length) E S (E.1, E.2.1, r2.1) (S2 ++ [(20, 0, knw (E.1, E.2.1, r2.1), none, none, false, none, none, none)]) := SGx_add g3 (fun j z => Or.inl z) (List.suffix_refl _) (fun z => absurd (Or.inr rfl) z) ⟨_, stLk_p (by decide) (fun z => absurd rfl z), b1⟩
              have n1 := g2.2.1
              rw [lS1] at n1
              have lJ : (S2 ++ [((20, 0, knw (E.1, E.2.1, r2.1), none, none, false, none, none, none) : gSt)]).length = S2.length + 1 := by rw [List.length_append]; rfl
              have ent : nxO (S2 ++ [(20, 0, knw (E.1, E.2.1, r2.1), none, none, false, none, none, none)]) (E.1, E.2.1, r2.1) S2.length (slK E.1) := Or.inl ⟨_, snA, List.suffix_refl _⟩
              have g5 : SGx sN K (fun j => j = S2.length) E S (E.1, E.2.1, r2.1) (cTo (S2 ++ [(20, 0, knw (E.1, E.2.1, r2.1), none, none, false, none, none, none)]) S.length (S2.length + 1)) :=
                SGx_cl g4 (Nat.le_refl _) (by rw [List.getElem?_append_left lt2]; exact at1) (Or.inl rfl) (Or.inr ⟨lJ.symm, List.suffix_refl _⟩) (fun _ => nxO_up n1 xtS_sn ent) (fun j z => z)
              obtain ⟨S4, e4, g6⟩ := m5 (cTo (S2 ++ [(20, 0, knw (E.1, E.2.1, r2.1), none, none, false, none, none, none)]) S.length (S2.length + 1)) (S2.length :: k) w
              have g7 := SGx_tr g5 g6
              have at4 : S4[S2.length]? = some (20, 0, knw (E.1, E.2.1, r2.1), none, none, false, none, none, none) := by
                rw [g6.1.2 S2.length (by rw [cTo_len, lJ]; omega), cTo_at, snA]
                show some (if S2.length = S.length then _ else _) = _
                rw [if_neg (by omega)]
              have g8 : SG sN K E S (exs M (E.1, E.2.1, r2.1)) (cTo S4 S2.length S4.length) := SGx_cl g7 (by omega) at4 (Or.inr rfl) (Or.inr ⟨rfl, by rw [m2]; exact List.suffix_refl _⟩) (fun z => absurd z (show ¬ 20 = 17 by decide)) (fun j z => Or.inl z)
              refine ⟨_, ?_, g8⟩
              rw [cds_app, cds_x s0 hE, cds_app, cds_one, cd_60]
              show cds sN K (B ++ ([(62, r2.2.1, 0)] ++ (M ++ [(63, 0, 0)]))) (E, S ++ [(17, i, knw E, none, none, false, none, some N0, none)], S.length :: k, rg0, w) = _
              rw [cds_app, e2, cds_app, cds_one, cd_62]
              show cds sN K (M ++ [(63, 0, 0)]) ((E.1, E.2.1, r2.1), cTo (S2 ++ [(20, 0, knw (E.1, E.2.1, r2.1), none, none, false, none, none, none)]) S.length (S2.length + 1), S2.length :: k, rg0, w) = _
              rw [cds_app, e4, cds_one, cd_63]
              rfl
          · exact absurd h2 (by simp)
        · cases Option.some.inj h2
          refine ⟨(N0 ++ [(54, 0, 0)]) ++ ([(60, i, 0)] ++ (B ++ [(63, 0, 0)])), ?_, ?_⟩
          · show r1.2.2 ++ [(63, 0, 0)] = _
            rw [eB, a0]
            simp only [List.append_assoc]
          · intro sN T V E nf hE hg hc
            obtain ⟨n0, nf⟩ := nf_app nf p54
            obtain ⟨n0, -⟩ := nf_app n0 (sEv_st s0)
            obtain ⟨-, nf⟩ := nf_app nf s60
            rw [flt_app] at nf
            obtain ⟨b1, b2, b3⟩ := hB sN T V E (fun z => nf (Or.inl z)) hg hc
            have ex : exs ((N0 ++ [(54, 0, 0)]) ++ ([(60, i, 0)] ++ (B ++ [(63, 0, 0)]))) E = (E.1, E.2.1, r1.1) := by
              rw [exs_app, exs_still p54, exs_app, exs_still s60, exs_app, b2, exs_still (st_k (by decide))]
            rw [ex]
            refine ⟨⟨rfl, List.suffix_refl _, b1, rfl, fun _ => rfl⟩, fun S k w => ?_⟩
            have g0 := SG_test (i := i) (S := S) hg (sOo_so s0 w0 (by omega) n0)
            obtain ⟨S2, e2, g2⟩ := b3 (S ++ [(17, i, knw E, none, none, false, none, some N0, none)]) (S.length :: k) w
            rw [cCl_no (Or.inl rfl)] at e2
            have g3 := SGx_tr g0 g2
            have lS1 : (S ++ [((17, i, knw E, none, none, false, none, some N0, none) : gSt)]).length = S.length + 1 := by rw [List.length_append]; rfl
            have at1 : S2[S.length]? = some (17, i, knw E, none, none, false, none, some N0, none) := by
              rw [g2.1.2 S.length (by omega)]; exact snA
            have n1 := g2.2.1
            rw [lS1] at n1
            have g8 : SG sN K E S (E.1, E.2.1, r1.1) (cTo S2 S.length S2.length) := SGx_cl g3 (Nat.le_refl _) at1 (Or.inl rfl) (Or.inr ⟨rfl, List.suffix_refl _⟩) (fun _ => n1) (fun j z => Or.inl z)
            refine ⟨_, ?_, g8⟩
            rw [cds_app, cds_x s0 hE, cds_app, cds_one, cd_60]
            show cds sN K (B ++ [(63, 0, 0)]) (E, S ++ [(17, i, knw E, none, none, false, none, some N0, none)], S.length :: k, rg0, w) = _
            rw [cds_app, e2, cds_one, cd_63]
            rfl
      · next n24 =>
        split at h
        · -- while
          obtain ⟨r0, hr0, h0⟩ := Option.bind_eq_some_iff.mp h
          obtain ⟨N0, a0, s0, w0⟩ := pX_sW hr0
          obtain ⟨B, eB, hB⟩ := pBk_f ih h0
          have p54 : still (N0 ++ [(54, 0, 0)]) := still_app (sEv_st s0) (st_k (by decide))
          have s61 : still [(61, i, 0)] := st_k (by decide)
          refine ⟨(N0 ++ [(54, 0, 0)]) ++ ([(61, i, 0)] ++ B), ?_, ?_⟩
          · rw [eB, a0]
            simp only [List.append_assoc]
          · intro sN T V E nf hE hg hc
            obtain ⟨n0, nf⟩ := nf_app nf p54
            obtain ⟨n0, -⟩ := nf_app n0 (sEv_st s0)
            obtain ⟨-, nf⟩ := nf_app nf s61
            obtain ⟨b1, b2, b3⟩ := hB sN T V E nf hg hc
            have ex : exs ((N0 ++ [(54, 0, 0)]) ++ ([(61, i, 0)] ++ B)) E = (E.1, E.2.1, q.1) := by
              rw [exs_app, exs_still p54, exs_app, exs_still s61, b2]
            rw [ex]
            refine ⟨⟨rfl, List.suffix_refl _, b1, rfl, fun _ => rfl⟩, fun S k w => ?_⟩
            have g0 := SG_test (i := i) (S := S) hg (sOo_so s0 w0 (by omega) n0)
            obtain ⟨S2, e2, g2⟩ := b3 (S ++ [(17, i, knw E, none, none, false, none, some N0, none)]) (S.length :: k) w
            have g3 := SGx_tr g0 g2
            have lS1 : (S ++ [((17, i, knw E, none, none, false, none, some N0, none) : gSt)]).length = S.length + 1 := by rw [List.length_append]; rfl
            have at1 : S2[S.length]? = some (17, i, knw E, none, none, false, none, some N0, none) := by
              rw [g2.1.2 S.length (by omega)]; exact snA
            have lt2 : S.length < S2.length := gt_lt at1
            have n1 := g2.2.1
            rw [lS1] at n1
            have lJ : (S2 ++ [((20, 0, knw (E.1, E.2.1, q.1), some S.length, none, false, none, none, none) : gSt)]).length = S2.length + 1 := by rw [List.length_append]; rfl
            have at2 : (S2 ++ [((20, 0, knw (E.1, E.2.1, q.1), some S.length, none, false, none, none, none) : gSt)])[S.length]? = some (17, i, knw E, none, none, false, none, some N0, none) := by
              rw [List.getElem?_append_left lt2]; exact at1
            have g4 : SGx sN K (fun j => j = S.length) E S (E.1, E.2.1, q.1) (S2 ++ [(20, 0, knw (E.1, E.2.1, q.1), some S.length, none, false, none, none, none)]) := SGx_add g3 (fun j z => z) (List.suffix_refl _) (fun _ => ⟨fun z => absurd (Or.inl rfl) z, fun _ => ⟨S.length, rfl, Or.inl ⟨_, at2, List.suffix_refl _⟩⟩⟩) ⟨_, stLk_p (by decide) (fun z => absurd rfl z), b1⟩
            have ent : nxO (S2 ++ [(20, 0, knw (E.1, E.2.1, q.1), some S.length, none, false, none, none, none)]) (E.1, E.2.1, q.1) S2.length (slK E.1) := Or.inl ⟨_, snA, List.suffix_refl _⟩
            have g8 : SG sN K E S (E.1, E.2.1, q.1) (cTo (S2 ++ [(20, 0, knw (E.1, E.2.1, q.1), some S.length, none, false, none, none, none)]) S.length (S2.length + 1)) :=
              SGx_cl g4 (Nat.le_refl _) at2 (Or.inl rfl) (Or.inr ⟨lJ.symm, List.suffix_refl _⟩) (fun _ => nxO_up n1 xtS_sn ent) (fun j z => Or.inl z)
            refine ⟨_, ?_, g8⟩
            rw [cds_app, cds_x s0 hE, cds_app, cds_one, cd_61]
            show cds sN K B (E, S ++ [(17, i, knw E, none, none, false, none, some N0, none)], S.length :: k, rg0, w) = _
            rw [e2]
            rfl
        · split at h
          · split at h
            · next kk =>
              obtain ⟨B, eB, hB⟩ := pBk_f ih h
              have s65 : still [(65, i, i + 1)] := st_k (by decide)
              refine ⟨[(65, i, i + 1)] ++ B, by rw [eB, List.append_assoc], ?_⟩
              intro sN T V E nf hE hg hc
              obtain ⟨-, nf⟩ := nf_app nf s65
              obtain ⟨b1, b2, b3⟩ := hB sN T V E nf hg hc
              rw [exs_app, exs_still s65, b2]
              refine ⟨⟨rfl, List.suffix_refl _, b1, rfl, fun _ => rfl⟩, fun S k w => ?_⟩
              have hL : stLk sN K E (5, i, knw E, none, some (i + 1), false, none, none, none) := stLk_w (by decide) kk.1
              have g0 : SG sN K E S E (S ++ [(5, i, knw E, none, some (i + 1), false, none, none, none)]) := SG_one hL hg (show ¬ (5 = 17 ∨ 5 = 20) by decide) (aft_suf (st := (5, i, knw E, none, some (i + 1), false, none, none, none)))
              obtain ⟨S2, e2, g2⟩ := b3 (S ++ [(5, i, knw E, none, some (i + 1), false, none, none, none)]) (S.length :: k) w
              have g3 := SGx_tr g0 g2
              have at1 : S2[S.length]? = some (5, i, knw E, none, some (i + 1), false, none, none, none) := by
                rw [g2.1.2 S.length (by rw [List.length_append]; exact Nat.lt_succ_self _)]; exact snA
              have lJ : (S2 ++ [((6, i, knw (E.1, E.2.1, q.1), none, some (i + 1), false, none, none, none) : gSt)]).length = S2.length + 1 := by rw [List.length_append]; rfl
              have g4 : SG sN K E S (E.1, E.2.1, q.1) (S2 ++ [(6, i, knw (E.1, E.2.1, q.1), none, some (i + 1), false, none, none, none)]) := SGx_add g3 (fun j z => z) (List.suffix_refl _) (fun _ => ⟨fun _ => Or.inr ⟨lJ.symm, aft_suf (st := (6, i, knw (E.1, E.2.1, q.1), none, some (i + 1), false, none, none, none))⟩, fun z => absurd z (show ¬ (6 = 17 ∨ 6 = 20) by decide)⟩) ⟨_, stLk_w (by decide) kk.1, b1⟩
              refine ⟨_, ?_, g4⟩
              rw [cds_app, cds_one, cd_65, e2]
              show (_, S2 ++ [(6, (gtS S2 S.length).2.1, knw (E.1, E.2.1, q.1), none, (gtS S2 S.length).2.2.2.2.1, false, none, none, none)], k, rg0, w) = _
              unfold gtS
              rw [at1]
              rfl
            · exact absurd h (by simp)
          · exact pS1_f (by omega) h
end PSS
end
section
/-! the code of the whole text: where its steps go, where its threads begin, what its claims are like -/
def flR (S : List gSt) (j : Nat) (st : gSt) : Prop := (¬ (st.1 = 20 ∨ st.1 = 21) → ∃ st', S[j + 1]? = some st' ∧ slK st'.2.2.1.1 <:+ aft st) ∧ (st.1 = 17 ∨ st.1 = 20 → ∃ n st', st.2.2.2.1 = some n ∧ S[n]? = some st' ∧ slK st'.2.2.1.1 <:+ slK st.2.2.1.1)
def clO (K : Nat → Int32) (N : gU) : Prop := sEv true N ∧ (∀ v ∈ N, sVv K v) ∧ okE N 0 ∧ ajE N
def WS (sN : Nat → Nat → Bool) (K : Nat → Int32) (S : List gSt) (b : List (Nat × Nat)) (l : List (Nat × gU)) (P : Nat × Nat × Nat → Prop) : Prop := (∀ j st, S[j]? = some st → flR S j st ∧ ∃ E0, stLk sN K E0 st ∧ gEe E0) ∧ (∀ q ∈ b, (∃ st, S[q.1]? = some st ∧ st.2.2.1.1 = []) ∧ q.2 ≤ 1) ∧ ∀ q ∈ l, clO K q.2 ∧ ∀ v ∈ q.2, P v
def WC (sN : Nat → Nat → Bool) (K : Nat → Int32) (P : Nat × Nat × Nat → Prop) (c : gCd) : Prop := ∃ E S r b l, c = (E, S, [], r, b, l) ∧ E.2.1 = [] ∧ r.1 = [] ∧ WS sN K S b l P
section WCL
variable {K V V' : Nat → Int32} {sN : Nat → Nat → Bool} {T : gTd} {E : gV} {L M N : gU} {c : gCd} {S S' : List gSt} {st : gSt} {b : List (Nat × Nat)} {l : List (Nat × gU)} {i j t n : Nat} {k : List Nat} {w : List (Nat × Nat) × List (Nat × gU)} {P : Nat × Nat × Nat → Prop}
theorem flR_up (h : flR S j st) (x : xtS S S') : flR S' j st := ⟨fun c => by
  obtain ⟨s, h1, h2⟩ := h.1 c
  exact ⟨s, by rw [x.2 _ (gt_lt h1)]; exact h1, h2⟩, fun c => by
  obtain ⟨n, s, h0, h1, h2⟩ := h.2 c
  exact ⟨n, s, h0, by rw [x.2 _ (gt_lt h1)]; exact h1, h2⟩⟩
theorem cd_34 {r : gRg} : cdV sN K (E, S, k, r, b, l) (34, i, j) = (E0v, S, k, rg0, b ++ [(S.length, j)], l) := rfl
theorem cd_35 {cu : gU} {su : List gU} {pl tk : Nat} {ro : Bool} {tg : Option Nat} : cdV sN K (E, S, k, (cu, su, pl, ro, tg, tk), w) (35, i, j) = (E, S, k, (cu, su, 35, ro, tg, tk), w) := rfl
theorem cd_36 {cu : gU} {su : List gU} {pl tk : Nat} {ro : Bool} {tg : Option Nat} : cdV sN K (E, S, k, (cu, su, pl, ro, tg, tk), w) (36, i, j) = (E, S, k, (cu, su, 36, ro, tg, tk), w) := rfl
theorem gEe_0 : gEe E0v := ⟨List.Pairwise.nil, fun s hs => (by cases hs), by decide⟩
/-- one thread more -/
theorem WC_th {q : Nat} (h : WC sN K P c) (hB : PBt K 0 0 q N) (nf : ¬ flt sN T V N E0v) (hj : j ≤ 1) : WC sN K P (cds sN K ([(34, i, j)] ++ N) c) ∧ eqE (exs N E0v) E0v := by
  obtain ⟨E, S, r, b, l, rfl, hE, hr, h1, h2, h3⟩ := h
  obtain ⟨b1, b2, b3⟩ := hB sN T V E0v nf gEe_0 rfl
  obtain ⟨S', e, g⟩ := b3 S [] (b ++ [(S.length, j)], l)
  have b2 : exs N E0v = ([], [], q) := b2
  have b1 : gEe ([], [], q) := b1
  have g : SG sN K E0v S ([], [], q) S' := g
  refine ⟨⟨([], [], q), S' ++ [(21, 0, knw ([], [], q), none, none, false, none, none, none)], rg0, b ++ [(S.length, j)], l, ?_, rfl, rfl, ?_, ?_, h3⟩, by rw [b2]; exact ⟨rfl, rfl⟩⟩
  · rw [cds_app, cds_one, cd_34, e]
    rfl
  · have x1 : xtS S' (S' ++ [(21, 0, knw ([], [], q), none, none, false, none, none, none)]) := xtS_sn
    have re : ∀ {n : Nat} {a : List Nat}, nxO S' ([], [], q) n a → ∃ st', (S' ++ [((21, 0, knw ([], [], q), none, none, false, none, none, none) : gSt)])[n]? = some st' ∧ slK st'.2.2.1.1 <:+ a := fun {n a} hn => by
      rcases hn with ⟨s, s1, s2⟩ | ⟨s1, s2⟩
      · exact ⟨s, by rw [x1.2 _ (gt_lt s1)]; exact s1, s2⟩
      · exact ⟨_, by rw [s1]; exact snA, s2⟩
    intro j st hs
    by_cases c0 : j < S.length
    · rw [x1.2 j (by have := g.1.1; omega), g.1.2 j c0] at hs
      obtain ⟨p, pq⟩ := h1 j st hs
      exact ⟨flR_up p (xtS_tr g.1 x1), pq⟩
    · by_cases c1 : j < S'.length
      · rw [x1.2 j c1] at hs
        obtain ⟨p, pq⟩ := g.2.2 j st (by omega) hs
        obtain ⟨p1, p2⟩ := p (fun z => z)
        refine ⟨⟨fun z => re (p1 z), fun z => ?_⟩, pq⟩
        obtain ⟨n, n1, n2⟩ := p2 z
        obtain ⟨s, s1, s2⟩ := re n2
        exact ⟨n, s, n1, s1, s2⟩
      · have hl := gt_lt hs
        rw [List.length_append] at hl
        have hl : j < S'.length + 1 := hl
        have ej : j = S'.length := by omega
        rw [ej, snA] at hs
        cases Option.some.inj hs
        exact ⟨⟨fun z => absurd (Or.inr rfl) z, fun z => absurd z (show ¬ (21 = 17 ∨ 21 = 20) by decide)⟩, _, stLk_p (by decide) (fun _ => rfl), b1⟩
  · intro p hp
    rcases List.mem_append.mp hp with hp | hp
    · obtain ⟨⟨s, s1, s2⟩, p2⟩ := h2 p hp
      exact ⟨⟨s, by rw [(xtS_tr g.1 xtS_sn).2 _ (gt_lt s1)]; exact s1, s2⟩, p2⟩
    · rw [List.mem_singleton.mp hp]
      refine ⟨?_, hj⟩
      rcases g.2.1 with ⟨s, s1, s2⟩ | ⟨s1, s2⟩
      · refine ⟨s, by rw [xtS_sn.2 _ (gt_lt s1)]; exact s1, ?_⟩
        have := List.suffix_nil.mp s2
        exact List.map_eq_nil_iff.mp this
      · exact ⟨_, by show (S' ++ [_])[S.length]? = _; rw [s1]; exact snA, rfl⟩
/-- one claim more -/
theorem WC_cl {u : Nat} (hu : u = 35 ∨ u = 36) (h : WC sN K P c) (hs : sEv true N) (hw : sW K 16 N) (hP : ∀ v ∈ N, P v) : WC sN K P (cds sN K ([(u, i, 0)] ++ (N ++ [(54, 0, 0)])) c) := by
  obtain ⟨E, S, ⟨cu, su, pl, ro, tg, tk⟩, b, l, rfl, hE, hr, h1, h2, h3⟩ := h
  have hr : cu = [] := hr
  subst hr
  have e1 : cdV sN K (E, S, [], ([], su, pl, ro, tg, tk), b, l) (u, i, 0) = (E, S, [], ([], su, u, ro, tg, tk), b, l) := by
    rcases hu with rfl | rfl
    · exact cd_35
    · exact cd_36
  have e2 : cds sN K ([(u, i, 0)] ++ (N ++ [(54, 0, 0)])) (E, S, [], ([], su, pl, ro, tg, tk), b, l) = (E, S, [], ([], su, u, ro, tg, tk), b, l ++ [(u, N)]) := by
    rw [cds_app, cds_one, e1, cds_app, cds_sum (r := ([], su, u, ro, tg, tk)) hs (fun _ => hE), cds_one]
    show cdV sN K (E, S, [], ([] ++ N, su, u, ro, tg, tk), b, l) (54, 0, 0) = _
    rw [List.nil_append]
    unfold cdV
    rw [if_neg (by decide), if_neg (by decide), if_pos rfl, if_pos hE]
  rw [e2]
  refine ⟨_, _, _, _, _, rfl, hE, rfl, h1, h2, fun q hq => ?_⟩
  rcases List.mem_append.mp hq with hq | hq
  · exact h3 q hq
  · rw [List.mem_singleton.mp hq]
    exact ⟨⟨hs, hw.1, sW_ok hw (by decide), hw.2.2⟩, hP⟩
def dul (N : gU) : Prop := ∀ v ∈ N, v.1 = 31 ∨ v.1 = 32 ∨ v.1 = 33 ∨ 80 ≤ v.1
theorem dul_app (h : dul M) (g : dul N) : dul (M ++ N) := fun v hv => (List.mem_append.mp hv).elim (h v) (g v)
theorem dul_one {a b c : Nat} (h : a = 31 ∨ a = 32 ∨ a = 33 ∨ 80 ≤ a) : dul [(a, b, c)] := fun v hv => by rw [List.mem_singleton.mp hv]; exact h
theorem pCv_f {q r : Nat × gU} (h : pCv K q = some r) : ∃ N, r.2 = q.2 ++ N ∧ dul N := by
  unfold pCv at h
  split at h
  · split at h
    · split at h
      · split at h
        · cases Option.some.inj h; exact ⟨_, rfl, dul_one (by decide)⟩
        · exact absurd h (by simp)
      · split at h
        · cases Option.some.inj h; exact ⟨_, rfl, dul_one (by decide)⟩
        · exact absurd h (by simp)
    · exact absurd h (by simp)
  · cases Option.some.inj h; exact ⟨_, rfl, dul_one (by decide)⟩
theorem pCl_f {q : Nat × Nat × gU} (h : pCl K V n i t L = some q) : ∃ N, q.2.2 = L ++ N ∧ dul N := by
  have fin : ∀ {v : Nat × Nat × Nat} {p m : Nat}, dul [v] → ((pCv K (p, L ++ [v])).bind (pt K 67)).bind (fun q => some (m, q.1, q.2 ++ [(83, i, t)])) = some q → ∃ N, q.2.2 = L ++ N ∧ dul N := fun {v p m} hv h => by
    obtain ⟨z, hz, e⟩ := Option.bind_eq_some_iff.mp h
    obtain ⟨y, hy, h2⟩ := Option.bind_eq_some_iff.mp hz
    obtain ⟨N, eN, hN⟩ := pCv_f hy
    obtain ⟨-, -, e2⟩ := pt_is h2
    cases Option.some.inj e
    refine ⟨[v] ++ (N ++ [(83, i, t)]), ?_, dul_app hv (dul_app hN (dul_one (by decide)))⟩
    show z.2 ++ [(83, i, t)] = _
    rw [e2]
    show y.2 ++ [(83, i, t)] = _
    rw [eN]
    simp only [List.append_assoc]
  unfold pCl at h
  split at h
  · split at h
    · split at h
      · exact fin (dul_one (by decide)) h
      · exact absurd h (by simp)
    · exact fin (dul_one (by decide)) h
  · exact absurd h (by simp)
theorem WC_no (h : WC sN K P c) (hN : dul N) (hE : eqE E E0v) : WC sN K P (cds sN K N c) ∧ eqE (exs N E) E0v := by
  rw [cds_no hN]
  refine ⟨h, ?_⟩
  rw [exs_still (fun v hv => by have := hN v hv; omega)]
  exact hE
theorem exs_q : ∀ {L : gU} {E E' : gV}, eqE E E' → eqE (exs L E) (exs L E') := by
  intro L
  induction L with
  | nil => intro E E' h; exact h
  | cons v L ih => intro E E' h; exact ih (exV_q h)
theorem eqE_tr {E1 E2 E3 : gV} (a : eqE E1 E2) (b : eqE E2 E3) : eqE E1 E3 := ⟨a.1.trans b.1, a.2.trans b.2⟩
theorem pD_f {n : gN} {q : gN × Nat × gU} (h : pD K V n i L = some q) : ∃ N, q.2.2 = L ++ N ∧ ∀ sN T V' E c P, (∀ v ∈ N, P v) → WC sN K P c → eqE E E0v → ¬ flt sN T V' N E → WC sN K P (cds sN K N c) ∧ eqE (exs N E) E0v := by
  have cell : ∀ t, (pCl K V n.1 i t L).bind (fun q => some ((q.1, n.2), q.2)) = some q → ∃ N, q.2.2 = L ++ N ∧ ∀ sN T V' E c P, (∀ v ∈ N, P v) → WC sN K P c → eqE E E0v → ¬ flt sN T V' N E → WC sN K P (cds sN K N c) ∧ eqE (exs N E) E0v := fun t h => by
    obtain ⟨z, hz, e⟩ := Option.bind_eq_some_iff.mp h
    obtain ⟨N, eN, hN⟩ := pCl_f hz
    cases Option.some.inj e
    exact ⟨N, eN, fun sN T V' E c P _ hc hE _ => WC_no hc hN hE⟩
  have blk : ∀ (t a j : Nat) (v : gN), j ≤ 1 → (pBk (pS K 16) K 0 0 t (L ++ [(34, a, j)])).bind (fun q => some (v, q.2)) = some q → ∃ N, q.2.2 = L ++ N ∧ ∀ sN T V' E c P, (∀ v ∈ N, P v) → WC sN K P c → eqE E E0v → ¬ flt sN T V' N E → WC sN K P (cds sN K N c) ∧ eqE (exs N E) E0v := fun t a j v hj h => by
    obtain ⟨z, hz, e⟩ := Option.bind_eq_some_iff.mp h
    obtain ⟨N, eN, hN⟩ := pBk_f (pS_f 16 (Nat.le_refl _)) hz
    cases Option.some.inj e
    refine ⟨[(34, a, j)] ++ N, by show z.2.2 = _; rw [eN, List.append_assoc], fun sN T V' E c P hP hc hE nf => ?_⟩
    have s34 : still [(34, a, j)] := st_k (by decide)
    obtain ⟨-, nf⟩ := nf_app nf s34
    obtain ⟨r1, r2⟩ := WC_th (i := a) hc hN (fun y => nf ((flt_q hE).mpr y)) hj
    refine ⟨r1, ?_⟩
    rw [exs_app, exs_still s34]
    exact eqE_tr (exs_q hE) r2
  have clm : ∀ (u : Nat) (v : gN), u = 35 ∨ u = 36 → ((pX K true 16 (i + 1) (L ++ [(u, i, 0)])).bind (pt K 67)).bind (fun q => some (v, q)) = some q → ∃ N, q.2.2 = L ++ N ∧ ∀ sN T V' E c P, (∀ v ∈ N, P v) → WC sN K P c → eqE E E0v → ¬ flt sN T V' N E → WC sN K P (cds sN K N c) ∧ eqE (exs N E) E0v := fun u v hu h => by
    obtain ⟨z, hz, e⟩ := Option.bind_eq_some_iff.mp h
    obtain ⟨y, hy, h2⟩ := Option.bind_eq_some_iff.mp hz
    obtain ⟨N, eN, hs, hw⟩ := pX_sW hy
    obtain ⟨-, -, e2⟩ := pt_is h2
    cases Option.some.inj e
    refine ⟨[(u, i, 0)] ++ (N ++ [(54, 0, 0)]), ?_, fun sN T V' E c P hP hc hE _ => ⟨WC_cl hu hc hs hw (fun v hv => hP v (List.mem_append_right _ (List.mem_append_left _ hv))), ?_⟩⟩
    · show z.2 = _
      rw [e2]
      show y.2 = _
      rw [eN, List.append_assoc]
    · rw [exs_still (still_app (st_k (by omega)) (still_app (sEv_st hs) (st_k (by decide))))]
      exact hE
  unfold pD at h
  split at h
  · split at h
    · exact cell _ h
    · exact absurd h (by simp)
  · split at h
    · exact cell _ h
    · split at h
      · split at h
        · cases Option.some.inj h
          exact ⟨[(33, i + 1, 0)], rfl, fun sN T V' E c P _ hc hE _ => WC_no hc (dul_one (by decide)) hE⟩
        · exact absurd h (by simp)
      · split at h
        · split at h
          · exact blk _ _ 1 _ (Nat.le_refl _) h
          · exact absurd h (by simp)
        · split at h
          · split at h
            · exact blk _ _ 0 _ (Nat.zero_le _) h
            · exact absurd h (by simp)
          · split at h
            · split at h
              · exact clm 35 _ (Or.inl rfl) h
              · exact absurd h (by simp)
            · split at h
              · split at h
                · exact clm 36 _ (Or.inr rfl) h
                · exact absurd h (by simp)
              · exact absurd h (by simp)
theorem pAl_f : ∀ (m : Nat) (n : gN) (i : Nat) (L : gU) (q : gN × Nat × gU), pAl K V m n i L = some q → ∃ N, q.2.2 = L ++ N ∧ ∀ sN T V' E c P, (∀ v ∈ N, P v) → WC sN K P c → eqE E E0v → ¬ flt sN T V' N E → WC sN K P (cds sN K N c) := by
  intro m
  induction m with
  | zero => intro n i L q h; exact absurd h (by simp [pAl])
  | succ m ih =>
    intro n i L q h
    rw [pAl] at h
    split at h
    · cases Option.some.inj h
      exact ⟨[], by rw [List.append_nil], fun sN T V' E c P _ hc _ _ => hc⟩
    · obtain ⟨z, hz, h2⟩ := Option.bind_eq_some_iff.mp h
      obtain ⟨M, eM, hM⟩ := pD_f hz
      obtain ⟨N, eN, hN⟩ := ih _ _ _ _ h2
      refine ⟨M ++ N, by rw [eN, eM, List.append_assoc], fun sN T V' E c P hP hc hE nf => ?_⟩
      rw [flt_app] at nf
      obtain ⟨r1, r2⟩ := hM sN T V' E c P (fun v hv => hP v (List.mem_append_left _ hv)) hc hE (fun y => nf (Or.inl y))
      rw [cds_app]
      exact hN sN T V' _ _ P (fun v hv => hP v (List.mem_append_right _ hv)) r1 r2 (fun y => nf (Or.inr y))
theorem cod_ok {n : gN} (h : pAl K V 701 (0, 0, 0, 0, 0) 0 [] = some (n, j, L)) (nf : ¬ jFl sN K V L) : WC sN K (fun v => v ∈ L) (cds sN K L cd0) := by
  obtain ⟨N, eN, hN⟩ := pAl_f _ _ _ _ _ h
  have eN : L = N := eN
  rw [← eN] at hN
  exact hN sN _ V E0v cd0 _ (fun v hv => hv) ⟨E0v, [], rg0, [], [], rfl, rfl, rfl, ⟨fun j st hs => (by cases hs), fun q hq => (by cases hq), fun q hq => (by cases hq)⟩⟩ ⟨rfl, rfl⟩ (fun y => nf (Or.inr y))
end WCL
end
section
/-! the code in numbers, as both sides hold it: the model's side -/
abbrev gQ := Nat × Nat × Int32
/-- op, slots known, next slot, where to, object, row, flag, index, first, second sum -/
abbrev gNs := Nat × List Nat × Nat × Option Nat × Int32 × Int32 × Bool × Option (List gQ) × Option (List gQ) × Option (List gQ)
/-- steps, threads, cells, always, finally -/
abbrev gCo := List gNs × List (Nat × Nat) × List (Int32 × Bool) × List (List gQ) × List (List gQ)
def nQt (sN : Nat → Nat → Bool) (T : gTd) (V K : Nat → Int32) (ks : gK) (v : Nat × Nat × Nat) : Option gQ :=
  if v.1 = 52 then some (1, 0, V v.2.1)
  else if v.1 = 53 then some (3, 0, 0)
  else if v.1 = 3 then some (2, (kfi sN ks v.2.1).getD 0, 0)
  else if v.1 = 6 then some (4, 0, Int32.ofNat (nmT sN 0 v.2.1 T))
  else if v.1 = 12 then some (4, 0, Int32.ofNat (nmT sN 0 v.2.2 T) + V v.2.1)
  else if v.1 = 50 then some (5, 0, K v.2.1)
  else if v.1 = 51 then some (6, 0, K v.2.1)
  else none
def nQs (sN : Nat → Nat → Bool) (T : gTd) (V K : Nat → Int32) (ks : gK) (N : gU) : List gQ := N.filterMap (nQt sN T V K ks)
def nStp (sN : Nat → Nat → Bool) (T : gTd) (V K : Nat → Int32) (st : gSt) : gNs := (st.1, slK st.2.2.1.1, st.2.2.1.2, st.2.2.2.1, mOf sN T V st, mSz sN T st, st.2.2.2.2.2.1, st.2.2.2.2.2.2.1.map (nQs sN T V K st.2.2.1.1), st.2.2.2.2.2.2.2.1.map (nQs sN T V K st.2.2.1.1), st.2.2.2.2.2.2.2.2.map (nQs sN T V K st.2.2.1.1))
def codN (sN : Nat → Nat → Bool) (V K : Nat → Int32) (L : gU) : gCo := ((cds sN K L cd0).2.1.map (nStp sN (L.filterMap (te1 K V)) V K), (cds sN K L cd0).2.2.2.2.1, cel K V L, (clF 35 (cds sN K L cd0).2.2.2.2.2).map (nQs sN (L.filterMap (te1 K V)) V K []), (clF 36 (cds sN K L cd0).2.2.2.2.2).map (nQs sN (L.filterMap (te1 K V)) V K []))
/-- the slot of the local at a place -/
def slN : List Nat → Nat → Nat
  | [], _ => 0
  | s :: r, p => if p = r.length then s else slN r p
def kmN : List Nat → Int32
  | [] => 0
  | s :: r => kmN r ||| (1 <<< (Int32.ofNat s &&& 31))
def mQp (sl : List Nat) (q : gQ) : Int32 × Int32 := if q.1 = 2 then (2, Int32.ofNat (slN sl q.2.1)) else (Int32.ofNat q.1, q.2.2)
def mNs (w : gd) (sl : List Nat) (v : Int32) : Option (List gQ) → Prop
  | none => v = -1
  | some Q => SUm w v (Q.map (mQp sl))
def mNt (st : gNs) : Int32 := match st.2.2.2.1 with
  | none => -1
  | some n => if st.1 = 17 ∨ st.1 = 20 then Int32.ofNat n else Int32.ofNat (if n = st.2.1.length then st.2.2.1 else slN st.2.1 n)
def mN (w : gd) (j : Nat) (st : gNs) : Prop := w.1 54 j = mWh st.1 ∧ (st.1 < 16 → w.1 55 j = Int32.ofNat st.1) ∧ w.1 56 j = st.2.2.2.2.1 ∧ w.1 57 j = st.2.2.2.2.2.1 ∧ mNs w st.2.1 (w.1 58 j) st.2.2.2.2.2.2.2.1 ∧ mNs w st.2.1 (w.1 59 j) st.2.2.2.2.2.2.2.2.1 ∧ mNs w st.2.1 (w.1 60 j) st.2.2.2.2.2.2.2.2.2 ∧ w.1 61 j = mNt st ∧ w.1 62 j = kmN st.2.1
def MK (w : gd) (C : gCo) : Prop := ((w.1 0 52).toInt = C.1.length ∧ ∀ j st, C.1[j]? = some st → mN w j st) ∧ ((w.1 0 25).toInt = C.2.1.length ∧ ∀ (t : Nat) (q : Nat × Nat), C.2.1[t]? = some q → (w.1 64 t).toInt = q.1 ∧ w.1 38 t = Int32.ofNat q.2) ∧ ((w.1 0 23).toInt = C.2.2.1.length ∧ ∀ j q, C.2.2.1[j]? = some q → w.1 36 j = q.1 ∧ w.1 37 j = if q.2 = true then 1 else 0) ∧ (∀ k Q, C.2.2.2.1[k]? = some Q → SUm w (w.1 65 k) (Q.map (mQp []))) ∧ ∀ k Q, C.2.2.2.2[k]? = some Q → SUm w (w.1 66 k) (Q.map (mQp []))
section CNM
variable {sN : Nat → Nat → Bool} {T : gTd} {V K : Nat → Int32} {w : gd} {L N : gU} {ks : gK} {v : Nat × Nat × Nat} {st : gSt}
theorem slt_N : ∀ {ks : gK} {p : Nat}, slt ks p = slN (slK ks) p := by
  intro ks
  induction ks with
  | nil => intro p; rfl
  | cons k ks ih =>
    intro p
    show (if p = ks.length then k.2 else slt ks p) = if p = (slK ks).length then k.2 else slN (slK ks) p
    rw [ih, show (slK ks).length = ks.length from List.length_map _]
theorem kms_N : ∀ {ks : gK}, kms ks = kmN (slK ks) := by
  intro ks
  induction ks with
  | nil => rfl
  | cons k ks ih =>
    show kms ks ||| _ = kmN (slK ks) ||| _
    rw [ih]
theorem nPt_N : nPt sN T V K ks v = (nQt sN T V K ks v).map (mQp (slK ks)) := by
  unfold nPt nQt
  split
  · rfl
  · split
    · rfl
    · split
      · show some (2, Int32.ofNat (slt ks _)) = some (2, Int32.ofNat (slN (slK ks) _))
        rw [slt_N]
      · split
        · rfl
        · split
          · rfl
          · split
            · rfl
            · split
              · rfl
              · rfl
theorem nPs_N : nPs sN T V K ks N = (nQs sN T V K ks N).map (mQp (slK ks)) := by
  unfold nPs nQs
  rw [List.map_filterMap]
  congr 1
  funext v
  exact nPt_N
theorem mSu_N {r : Int32} {o : Option gU} (h : mSu sN T V K w ks r o) : mNs w (slK ks) r (o.map (nQs sN T V K ks)) := by
  cases o with
  | none => exact h
  | some N =>
    have h : SUm w r (nPs sN T V K ks N) := h
    rw [nPs_N] at h
    exact h
theorem mTo_N : mTo st = mNt (nStp sN T V K st) := by
  unfold mTo mNt
  show (match st.2.2.2.1 with | none => (-1 : Int32) | some n => if st.1 = 17 ∨ st.1 = 20 then Int32.ofNat n else Int32.ofNat (slP st.2.2.1 n)) = match st.2.2.2.1 with | none => (-1 : Int32) | some n => if st.1 = 17 ∨ st.1 = 20 then Int32.ofNat n else Int32.ofNat (if n = (slK st.2.2.1.1).length then st.2.2.1.2 else slN (slK st.2.2.1.1) n)
  cases st.2.2.2.1 with
  | none => rfl
  | some n =>
    show (if st.1 = 17 ∨ st.1 = 20 then Int32.ofNat n else Int32.ofNat (if n = st.2.2.1.1.length then st.2.2.1.2 else slt st.2.2.1.1 n)) = if st.1 = 17 ∨ st.1 = 20 then Int32.ofNat n else Int32.ofNat (if n = (slK st.2.2.1.1).length then st.2.2.1.2 else slN (slK st.2.2.1.1) n)
    rw [slt_N, show (slK st.2.2.1.1).length = st.2.2.1.1.length from List.length_map _]
theorem MCo_MK (h : MCo sN V K L w) : MK w (codN sN V K L) := by
  obtain ⟨⟨h1, h1'⟩, h2, h3, h4, h5⟩ := h
  refine ⟨⟨by rw [h1]; show _ = (((cds sN K L cd0).2.1.map _).length : Int); rw [List.length_map], fun j st hj => ?_⟩, h2, h3, fun k Q hQ => ?_, fun k Q hQ => ?_⟩
  · have hj : ((cds sN K L cd0).2.1.map (nStp sN (L.filterMap (te1 K V)) V K))[j]? = some st := hj
    rw [List.getElem?_map] at hj
    obtain ⟨s0, g0, e⟩ := Option.map_eq_some_iff.mp hj
    subst e
    obtain ⟨a1, a2, a3, a4, a5, a6, a7, a8, a9⟩ := h1' j s0 g0
    exact ⟨a1, a2, a3, a4, mSu_N a5, mSu_N a6, mSu_N a7, by rw [a8]; exact mTo_N, by rw [a9]; exact kms_N⟩
  · have hQ : ((clF 35 (cds sN K L cd0).2.2.2.2.2).map (nQs sN (L.filterMap (te1 K V)) V K []))[k]? = some Q := hQ
    rw [List.getElem?_map] at hQ
    obtain ⟨N, g0, e⟩ := Option.map_eq_some_iff.mp hQ
    subst e
    have a := h4 k N g0
    rw [nPs_N] at a
    exact a
  · have hQ : ((clF 36 (cds sN K L cd0).2.2.2.2.2).map (nQs sN (L.filterMap (te1 K V)) V K []))[k]? = some Q := hQ
    rw [List.getElem?_map] at hQ
    obtain ⟨N, g0, e⟩ := Option.map_eq_some_iff.mp hQ
    subst e
    have a := h5 k N g0
    rw [nPs_N] at a
    exact a
end CNM
end
section
/-! the class: names are put in, the code is well -/
/-- a compiled step -/
def CSa (x : gd) (i : Nat) : Prop := (sop x i ≤ 4 → 0 ≤ (x.1 85 i).toInt ∧ (x.1 85 i).toInt + 1 ≤ (x.1 60 6).toInt ∧ (x.1 85 i).toInt + (x.1 86 i).toInt ≤ (x.1 60 6).toInt) ∧ (5 ≤ sop x i → sop x i ≤ 8 → 0 ≤ (x.1 85 i).toInt ∧ (x.1 85 i).toInt < (x.1 60 9).toInt) ∧ (9 ≤ sop x i → sop x i ≤ 10 → 0 ≤ (x.1 85 i).toInt ∧ (x.1 85 i).toInt < (x.1 60 10).toInt)
def CSb (x : gd) (i : Nat) : Prop := (0 ≤ sop x i ∧ ¬ sop x i = 15) ∧ (0 ≤ (x.1 83 i).toInt ∧ (x.1 83 i).toInt ≤ 8) ∧ ((sop x i = 0 ∨ (2 ≤ sop x i ∧ sop x i ≤ 4) ∨ sop x i = 16) → 0 ≤ stg x i ∧ stg x i < (x.1 60 13).toInt) ∧ ((sop x i = 17 ∨ sop x i = 20) → 0 ≤ stg x i ∧ stg x i < ssm x ∧ (sop x i = 20 → (i : Int) < stg x i ∨ sop x (stg x i).toNat = 17)) ∧ (¬ sop x i = 21 → (i : Int) + 1 < ssm x)
def CO (x : gd) : Prop := ((0 ≤ (x.1 60 6).toInt ∧ (x.1 60 6).toInt ≤ 24) ∧ (0 ≤ (x.1 60 9).toInt ∧ (x.1 60 9).toInt ≤ 6) ∧ (0 ≤ (x.1 60 10).toInt ∧ (x.1 60 10).toInt ≤ 6) ∧ (0 ≤ (x.1 60 13).toInt ∧ (x.1 60 13).toInt ≤ 8) ∧ (0 ≤ (x.1 60 14).toInt ∧ (x.1 60 14).toInt ≤ 4) ∧ (0 ≤ (x.1 60 16).toInt ∧ (x.1 60 16).toInt ≤ 4)) ∧ ((0 ≤ (x.1 60 3).toInt ∧ (x.1 60 3).toInt ≤ 800) ∧ ∀ i : Nat, (i : Int) < (x.1 60 3).toInt → x.1 62 i = 2 → 0 ≤ (x.1 63 i).toInt ∧ (x.1 63 i).toInt < 24) ∧ (0 ≤ ssm x ∧ ssm x ≤ 350) ∧ (∀ i : Nat, (i : Int) < ssm x → CSa x i ∧ CSb x i) ∧ ∀ t : Nat, (t : Int) < (x.1 60 10).toInt → 0 ≤ (x.1 72 t).toInt ∧ (x.1 72 t).toInt < ssm x
section KLK
variable {G : kG} {q : kP} {d : Nat} {x x0 y z : gd} {F : Int32 → gd → Prop} {Fv : gd → Prop}
end KLK
end
