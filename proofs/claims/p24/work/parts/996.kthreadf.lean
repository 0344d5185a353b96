section
/-! the class: a thread begins; definitions; all is read -/
section KDJ
variable {G : kG} {q : kP} {d : Nat} {x x0 y z xs : gd} {F : Int32 → gd → Prop} {Fv : gd → Prop} {X : String → gd → Prop} {P : Option gv → gd → Prop} {K V : Nat → Int32} {sN : Nat → Nat → Bool} {e : Nat} {Ev : gV} {Ml N : gU} {T : gTd} {n : gN} {W : gD}
/-- within a thread: what is still to be read -/
def THb (K V : Nat → Int32) (sN : Nat → Nat → Bool) (e : Nat) (Ev : gV) (x y : gd) (L : gU) (T : gTd) (n : gN) (W : gD) : Prop := ∃ (N : gU) (W1 : gTs) (i0 t b : Nat), RIw K V sN e Ev x y N ∧ EN K e y [0] (exs N Ev) ∧ (y.1 100 7).toInt = ((0 : Nat) : Int) ∧ W = W1.bind (fun q => some ((n.1, n.2.1, n.2.2.1 + 1, n.2.2.2), q.2)) ∧ W1 = pBk (pS K 16) K 0 0 i0 (L ++ [(34, t, b)]) ∧ W1 = eS K [0] 0 (nn y) (L ++ N) ∧ TBk y (T ++ [(t, 2, 0, 0)]) ∧ CNk y (n.1, n.2.1, n.2.2.1 + 1, n.2.2.2) ∧ La x y ∧ CGb sN V K Ev x y N
theorem kh_beginThread (hq : kV q) (L : gU) (hx : W = none → RX x0 X) (eW : W = pD K V n (nn x) L) (hk : K (nn x) = 23 ∨ K (nn x) = 37) (hA : KA K V sN e x) (hn0 : nn x ≤ e) (hTb : TBk x T) (hCn : CNk x n) (hE1 : Ev.1 = []) (hE2 : Ev.2.1 = []) (hI : OT x0 x) (h : ∀ y, BB x0 y (y.1 60 13).toInt E0 → 1 ≤ om y → om y ≤ 17 → 2 * ssm y + om y ≤ nx y → nx x < nx y → THb K V sN e Ev x y L T n W → Fv y) : KE G q (d + 9) zk_X7_beginThread 0 [(0, vr 100)] [] x (rv Fv) X := by
  have k6 : (6 : Int32).toInt = 6 := rfl
  have k0 : (0 : Int32).toInt = 0 := rfl
  have hB := OT_b hI
  have acc := hI.2.2.2.2.2.2
  have hC := hB.2.2.1.2.2.1
  have t0 := hB.2.2.1.2.1.2.2.1
  have p42 : (x.1 60 10).toInt < 6 → ∀ (a : Int32) (y : gd) (b9 : Nat), ((a = 0 ∧ b9 = 0) ∨ (a = 1 ∧ b9 = 1)) → (∀ c k, ccS c k → y.1 c k = x.1 c k) → OTb x0 y → GS x y → RIw K V sN e Ev x y [] → W = (if (K (nn y) = 37 ∧ nn y < 700) ∧ K (nn y + 1) = 1 ∧ nn y + 1 < 700 then (pBk (pS K 16) K 0 0 (nn y + 2) (L ++ [(34, nn y + 1, b9)])).bind (fun q => some ((n.1, n.2.1, n.2.2.1 + 1, n.2.2.2), q.2)) else none) → KE G q (d + 9) zk_X7_beginThread 42 [(0, vr 100), (1, vi (x.1 60 10)), (2, vi a)] [] y (rv Fv) X := by
    intro c a y b9 hab hcy hBy gy hRy hWy
    have ln := gy.1.2.1
    refine kg_X7_beginThread_42 hq _ _ (kh_need hq 67 37 (by decide) (by decide) (by decide) (fun no => hx (by rw [hWy, if_neg (fun z => no z.1)])) hBy hRy (fun kk c7 y1 hB1 n1 g1 en1 hR1 _ hc1 => kh_needFor hq 2 1 1 (by decide) (by decide) (by decide) (by decide) (fun no => hx (by rw [hWy, if_neg (fun z => no (by rw [en1]; exact z.2))])) hB1 hR1.1 hR1.2.1 (fun kk2 c8 w hBw nw gw enw hAw hnw eu ht hcw => ?_)))
    rw [en1] at kk2 c8
    rw [if_pos ⟨⟨kk, c7⟩, kk2, c8⟩] at hWy
    have b10 := hB1.1.1.2.1
    have hRw : RIw K V sN e Ev x w ([] ++ [(34, nn y1, b9)]) := RI_use hR1 b10 gw.1 hAw hnw enw (HAs_one.mpr (HA_34.mpr ⟨by omega, eu⟩)) (fun _ => HBs_one.mpr (by rw [eu]; exact HB_t (Or.inr (Or.inr (Or.inr rfl)))))
    have hRw : RIw K V sN e Ev x w [(34, nn y1, b9)] := hRw
    have enw2 : nn w = nn y + 2 := by omega
    rw [← enw2, ← en1] at hWy
    obtain ⟨W1, eW1⟩ : ∃ W1, W1 = pBk (pS K 16) K 0 0 (nn w) (L ++ [(34, nn y1, b9)]) := ⟨_, rfl⟩
    rw [← eW1] at hWy
    have gg := GS_tr (GS_tr gy g1) gw
    obtain ⟨hS, hF, ⟨r1, hNw, hCw, ⟨r4, r6⟩, r7⟩, hSC, r5, r0⟩ := id hBw
    have w10 : w.1 60 10 = x.1 60 10 := GS_at gg _ _ (by unfold sSum; omega)
    have w40 : w.1 40 10 = x.1 60 10 := by rw [← hCw.2.2.1, w10]
    have t10 : 0 ≤ (x.1 60 10).toInt := by have := hNw.2.2.1.1; rw [w40] at this; exact this
    have e1 : (x.1 60 10 + 1).toInt = (x.1 60 10).toInt + 1 := t_add (by show _ ≤ _ + (1 : Int); omega) (by show _ + (1 : Int) ≤ _; omega)
    have eT : (((x.1 60 10).toNatClampNeg : Nat) : Int) = (x.1 60 10).toInt := by rw [t_cl]; omega
    have vt : vp_in (x.1 60 10) 6 := by rw [vp_in_iff]; omega
    refine kf_tellThread hq _ hNw.2.2.1.1 (by rw [w40]; exact c) (fun u fuS cu u50 => ⟨vt, fun x6 e6 => ⟨vt, fun x8 e8 x9 e9 x10 e10 x11 e11 x12 e12 z ez => ?_⟩⟩)
    have fu : fm (fun c k => (c = 40 ∧ k = 10) ∨ c = 50) w u := fm_w fuS (fun c k q => by omega)
    have eN8 : (((w.1 40 10).toNatClampNeg : Nat) : Int) = (w.1 40 10).toInt := by
      have := hNw.2.2.1.1
      rw [t_cl]; omega
    have hu : ∀ i : Nat, (i : Int) < (w.1 40 10).toInt + 1 → ((i : Int) < (w.1 40 10).toInt ∧ u.1 50 i = w.1 50 i) ∨ u.1 50 i = y1.1 100 4 := by
      intro i hi
      by_cases hi2 : i = (w.1 40 10).toNatClampNeg
      · rw [hi2]; exact Or.inr u50
      · exact Or.inl ⟨by omega, fuS 50 i (by omega)⟩
    have f : fm (fun c k => (c = 40 ∧ k = 10) ∨ c = 50 ∨ c = 73 ∨ (c = 72 ∧ k = (x.1 60 10).toNatClampNeg) ∨ (c = 60 ∧ k = 10) ∨ (c = 100 ∧ (k = 5 ∨ k = 7 ∨ k = 9 ∨ k = 13))) w z := by
      rw [ez, e12, e11, e10, e9, e8, e6]
      exact fm_si (fm_si (fm_si (fm_si (fm_si (fm_si (fm_si (fm_w fu (fun c k q => by omega)) (by omega)) (by omega)) (by omega)) (by omega)) (by omega)) (by omega)) (by omega)
    have z10 : z.1 60 10 = x.1 60 10 + 1 := by rw [ez, e12, e11, e10, e9, e8, e6]; (simp only [si_get, sfl_get, Nat.reduceEqDiff, eq_self, and_false, false_and, and_true, true_and, if_true, if_false, reduceIte, reduceCtorEq]); rw [fu 60 10 (by omega), w10]
    have z40 : z.1 40 10 = x.1 60 10 + 1 := by rw [ez, e12, e11, e10, e9, e8, e6]; (simp only [si_get, sfl_get, Nat.reduceEqDiff, eq_self, and_false, false_and, and_true, true_and, if_true, if_false, reduceIte, reduceCtorEq]); rw [cu, w40]
    have z72 : z.1 72 (x.1 60 10).toNatClampNeg = w.1 80 9 := by rw [ez, e12, e11, e10, e9, e8, e6]; (simp only [si_get, sfl_get, Nat.reduceEqDiff, eq_self, and_false, false_and, and_true, true_and, if_true, if_false, reduceIte, reduceCtorEq]); exact fu _ _ (by omega)
    have z5 : z.1 100 5 = 1 := by rw [ez]; (simp only [si_get, sfl_get, Nat.reduceEqDiff, eq_self, and_false, false_and, and_true, true_and, if_true, if_false, reduceIte, reduceCtorEq])
    have z7 : z.1 100 7 = 0 := by rw [ez, e12, e11, e10]; (simp only [si_get, sfl_get, Nat.reduceEqDiff, eq_self, and_false, false_and, and_true, true_and, if_true, if_false, reduceIte, reduceCtorEq])
    have z9 : z.1 100 9 = 0 := by rw [ez, e12, e11]; (simp only [si_get, sfl_get, Nat.reduceEqDiff, eq_self, and_false, false_and, and_true, true_and, if_true, if_false, reduceIte, reduceCtorEq])
    have z13 : z.1 100 13 = 0 := by rw [ez, e12]; (simp only [si_get, sfl_get, Nat.reduceEqDiff, eq_self, and_false, false_and, and_true, true_and, if_true, if_false, reduceIte, reduceCtorEq])
    have om0 : om z = 0 := by unfold om; rw [z13]; rfl
    have e4 : nx z = nx w := by unfold nx; rw [f 100 4 (by omega)]
    have es : ssm z = ssm w := by unfold ssm; rw [f 80 9 (by omega)]
    have sx : ssm w = ssm x := GS_sm gg
    have la : La w z := ⟨fun c k q1 q2 => f c k (by omega), by omega, fun j _ => f 42 j (by omega)⟩
    have tkk : ∀ a, tk w a → tk z a := fun a ha => by unfold tk at ha ⊢; rw [f 20 7 (by omega)]; exact ha
    have m13 : z.1 60 13 = w.1 60 13 := f _ _ (by omega)
    have hBz : BB x0 z (w.1 60 13).toInt E0 := by
      refine ⟨?_, ?_, ⟨fun _ => ⟨?_, ?_⟩, ?_, ?_, ⟨by omega, fun i hi => SA_La la (f _ _ (by omega)) (f _ _ (by omega)) (f _ _ (by omega)) (f _ _ (by omega)) (Int.le_refl _) (r6 i (by omega))⟩, ?_⟩, fun i hi he => ?_, by rw [z5]; decide, fm_tr r0 (fm_w f (fun c k q => by unfold sR; omega)), fun _ k hk => by omega, fun k hk => by omega⟩
      · obtain ⟨⟨hT, b1, b2, b3⟩, ⟨u1, u2⟩, hp, hP⟩ := hS
        unfold SU SV US RB mt
        rw [f 20 7 (by omega), f 60 3 (by omega), e4]
        refine ⟨⟨kT_fm hT la.1, b1, b2, b3⟩, ⟨fun j h1 h2 => ?_, fun j h1 h2 => ?_⟩, hp, fun i hi => La_PQ la (f _ _ (by omega)) (f _ _ (by omega)) (hP i hi)⟩
        · rw [f 42 j (by omega)]; exact u1 j h1 h2
        · rw [f 42 j (by omega)] at h2; rw [f 42 _ (by omega)]; exact u2 j h1 h2
      · unfold FR at hF ⊢
        rw [f 100 4 (by omega), f 42 _ (by omega)]; exact hF
      · unfold KN
        rw [z9, k0]
        exact ⟨by omega, fun i hi => by omega⟩
      · unfold OPs
        rw [om0, z9, z7, k0]
        exact ⟨by omega, fun k hk => by omega, fun j k hj hk => by omega, by omega, by omega⟩
      · unfold NM
        rw [z40, e1, f 40 6 (by omega), f 40 8 (by omega), f 60 6 (by omega)]
        refine ⟨hNw.1, hNw.2.1, by omega, fun i hi => ?_, fun i hi => ?_, fun i hi => ?_⟩
        · rw [f 44 i (by omega), f 45 i (by omega), f 46 i (by omega)]
          obtain ⟨p1, p2⟩ := hNw.2.2.2.1 i hi
          exact ⟨tkk _ p1, p2⟩
        · rw [f 48 i (by omega)]; exact tkk _ (hNw.2.2.2.2.1 i hi)
        · have zi : z.1 50 i = u.1 50 i := by rw [ez, e12, e11, e10, e9, e8, e6]; (simp only [si_get, sfl_get, Nat.reduceEqDiff, eq_self, and_false, false_and, and_true, true_and, if_true, if_false, reduceIte, reduceCtorEq])
          rw [zi]
          rcases hu i (by rw [w40]; exact hi) with ⟨g1, g2⟩ | g
          · rw [g2]; exact tkk _ (hNw.2.2.2.2.2 i g1)
          · rw [g]; exact tkk _ ht
      · unfold CD at hCw ⊢
        rw [z10, z40, f 60 6 (by omega), f 60 9 (by omega), f 40 8 (by omega), f 60 14 (by omega), f 60 16 (by omega), m13, z9, k0]
        exact ⟨hCw.1, hCw.2.1, rfl, hCw.2.2.2.1, hCw.2.2.2.2.1, hCw.2.2.2.2.2.1, fun _ => hCw.2.2.2.2.2.1.1⟩
      · unfold TS
        rw [z10, e1, z5, es]
        refine ⟨fun t ht => ?_, fun c => absurd c (by decide)⟩
        by_cases ht2 : t = (x.1 60 10).toNatClampNeg
        · rw [ht2, z72]
          exact ⟨r4, Int.le_refl _, fun c => absurd c (by decide)⟩
        · rw [f 72 t (by omega)]
          obtain ⟨p1, p2, -⟩ := r7.1 t (by rw [w10]; omega)
          exact ⟨p1, p2, fun c => absurd c (by decide)⟩
      · have := hSC i (by omega) he
        unfold SC at this ⊢
        have ep : ∀ j, sop z j = sop w j := fun j => by unfold sop; rw [f 81 j (by omega)]
        have et : stg z i = stg w i := by unfold stg; rw [f 84 i (by omega)]
        rw [ep, et, es, ep]
        intro c
        rcases this c with ⟨-, p2, -⟩ | ⟨p1, p2, p3, p4⟩
        · exact absurd r5 p2
        · exact Or.inr ⟨p1, p2, fun c5 => by rw [z5] at c5; exact absurd c5 (by decide), p4⟩
    have b2 := hS.1.2.2.1
    have nzw : nn z = nn w := by unfold nn; rw [f 100 4 (by omega)]
    have hRz : RIw K V sN e Ev x z [(34, nn y1, b9)] := RI_st hRw (f _ _ (by omega)) (fun j => f _ _ (by omega)) (fun c k q1 q2 => f _ _ (by omega))
    have hVz : KV' K e z Ev := by
      unfold KV'
      rw [hE1, z9]
      exact ⟨rfl, fun p k hp => by simp at hp⟩
    have hSz : SKs z (om z).toNat [] [] := by rw [om0]; exact ⟨rfl, rfl⟩
    have z9c : (z.1 100 9).toNatClampNeg = 0 := by rw [z9]; rfl
    refine kd_openBlock hq 0 _ (fun no => hx (by rw [hWy, eW1, pBk, if_neg (by rw [← nzw]; exact no)]; rfl)) hRz hVz (z9 := 0) (by decide) hSz hBz (by omega) (by omega) (by decide) (Or.inl (fun k hk => by omega)) ⟨fun _ => ⟨rfl, rfl⟩, fun c => by omega⟩ (fun i hi he => absurd he (fun e => e)) (fun v hBv nv sv ov v13 kk3 c9 env lav hRv hVv hSv v7 hpu => rv_i (h v ?_ (by omega) (by omega) (by omega) (by omega) ⟨[(34, nn y1, b9)] ++ [(20, 0, 0)], W1, nn w, nn y1, b9, RI_dull hRv (dull_k (by decide)), ?_, ?_, hWy, eW1, ?_, ?_, ?_, ?_, ?_⟩))
    · rw [v13, m13]; exact hBv
    · have ex : exs ([(34, nn y1, b9)] ++ [(20, 0, 0)]) Ev = (Ev.1, Ev.1.length :: Ev.2.1, Ev.2.2) := by rw [exs_app, exs_still (L := [(34, nn y1, b9)]) (stl_k (by decide))]; rfl
      rw [ex, hE2]
      rw [z9c] at hSv
      refine ⟨hVv, ?_, ⟨[], ?_⟩⟩
      · rw [hE1]; exact hSv
      · rw [hE1]; rfl
    · rw [v7, z7]; rfl
    · rw [nzw] at kk3 c9 env
      have hb := eS_block (K := K) (z := 0) (u := []) (f := 16) (c := 0) (i := nn w) (L := L ++ [(34, nn y1, b9)]) (by decide) rfl kk3 c9
      rw [← eW1] at hb
      have e0 : (fun q : Nat × Nat × gU => eC K 0 [] q.1 q.2.1 q.2.2) = some := by funext q; exact eC_0
      have bs : Option.bind W1 some = W1 := by cases W1 <;> rfl
      rw [e0, bs] at hb
      rw [hb, env, List.append_assoc]
    · refine TBk_e ?_ lav.2
      have et : (y1.1 100 4).toNatClampNeg = nn y1 := rfl
      have hTw : TBk w T := TBk_e hTb (TBe_GS gg)
      have r := TBk_thread (z := z) (t := y1.1 100 4) hTw (by rw [z40, e1, w40]) (by rw [ez, e12, e11, e10, e9, e8, e6]; (simp only [si_get, sfl_get, Nat.reduceEqDiff, eq_self, and_false, false_and, and_true, true_and, if_true, if_false, reduceIte, reduceCtorEq]); exact u50) (fun i hi => by
        have zi : z.1 50 i = u.1 50 i := by rw [ez, e12, e11, e10, e9, e8, e6]; (simp only [si_get, sfl_get, Nat.reduceEqDiff, eq_self, and_false, false_and, and_true, true_and, if_true, if_false, reduceIte, reduceCtorEq])
        rw [zi]; exact fuS 50 i (by omega)) (fun c k hc => f c k (by omega))
      exact r
    · refine CNk_e ?_ lav.2
      obtain ⟨m1, m2, m3, m4, m5⟩ := CNk_e hCn (TBe_GS gg)
      refine ⟨by rw [f 60 6 (by omega)]; exact m1, by rw [f 60 9 (by omega)]; exact m2, ?_, by rw [f 60 14 (by omega)]; exact m4, by rw [f 60 16 (by omega)]; exact m5⟩
      show (z.1 60 10).toInt = ((n.2.2.1 + 1 : Nat) : Int)
      rw [z10, e1]
      rw [w10] at m3
      omega
    · exact La_tr (La_tr gg.1 la) lav.1
    · obtain ⟨w0, q1, q2⟩ := hpu
      have hcx : ∀ c k, ccS c k → w.1 c k = x.1 c k := fun c k q => (hcw c k q).trans ((hc1 c k q).trans (hcy c k q))
      have oz : ∀ c k, ¬ (c = 73 ∧ k = (x.1 60 10).toNatClampNeg) → ¬ (c = 72 ∧ k = (x.1 60 10).toNatClampNeg) → ¬ (c = 60 ∧ k = 10) → ¬ c = 100 → z.1 c k = u.1 c k := fun c k a1 a2 a3 a4 => by
        rw [ez, si_cell a4, e12, si_cell a4, e11, si_cell a4, e10, si_cell a4, e9, si_get, if_neg a3, e8, si_get, if_neg a2, e6, si_get, if_neg a1]
      refine CGb_thread (y := z) (fun c k q a1 a2 a3 a4 => (oz c k a3 a2 a1 a4).trans ((fu c k (by unfold ccS at q; omega)).trans (hcx c k q))) (by rw [z10, e1]) (by rw [z72]; exact hcx 80 9 (Or.inr (Or.inl ⟨by decide, by decide⟩))) ?_ z13 hB.2.2.2.2.1 hE1 hE2 q1 q2
      have z73 : z.1 73 (x.1 60 10).toNatClampNeg = vp_nar .boolean a := by rw [ez, e12, e11, e10, e9, e8, e6]; (simp only [si_get, sfl_get, Nat.reduceEqDiff, eq_self, and_false, false_and, and_true, true_and, if_true, if_false, reduceIte, reduceCtorEq])
      rw [z73]
      rcases hab with ⟨a1, a2⟩ | ⟨a1, a2⟩ <;> (rw [a1, a2]; rfl)
  have hR0 : RIw K V sN e Ev x x [] := ⟨hA, hn0, UR_0 rfl⟩
  have i23 : x.1 23 (x.1 100 4).toNatClampNeg = 53 ↔ K (nn x) = 23 := KA_k hA hn0 53 (by decide)
  have hc3 := hCn.2.2.1
  refine kg_X7_beginThread_0 hq ⟨fun c => kg_X7_beginThread_19 hq _ (kp_sort hq hB.1.1 ⟨fun c2 => ?_, fun c2 => ?_⟩), fun c => kh_refuse hq (hx ?_) hB _⟩
  · rw [t_lt, k6] at c
    have k37 : K (nn x) = 37 := hk.resolve_left (fun z => c2 (i23.mpr z))
    refine kg_X7_beginThread_33 hq _ _ ⟨fun _ => p42 c _ x 0 (Or.inl ⟨rfl, rfl⟩) (fun c k _ => rfl) hB GS_rf hR0 ?_, fun q => absurd rfl q⟩
    rw [eW]
    unfold pD
    rw [if_neg (by rw [k37]; decide), if_neg (by rw [k37]; decide), if_neg (by rw [k37]; decide), if_neg (by rw [k37]; decide), if_pos k37]
    by_cases cc : nn x < 700 ∧ K (nn x + 1) = 1 ∧ nn x + 1 < 700
    · rw [if_pos ⟨by omega, cc⟩, if_pos ⟨⟨k37, cc.1⟩, cc.2⟩]
    · rw [if_neg (fun z => cc z.2), if_neg (fun z => cc ⟨z.1.2, z.2⟩)]
  · rw [t_lt, k6] at c
    have k23 := i23.mp c2
    have hW : W = if n.2.2.1 < 6 ∧ nn x < 700 ∧ (K (nn x + 1) = 37 ∧ nn x + 1 < 700) ∧ K (nn x + 2) = 1 ∧ nn x + 2 < 700 then (pBk (pS K 16) K 0 0 (nn x + 3) (L ++ [(34, nn x + 2, 1)])).bind (fun q => some ((n.1, n.2.1, n.2.2.1 + 1, n.2.2.2), q.2)) else none := by
      rw [eW]
      unfold pD
      rw [if_neg (by rw [k23]; decide), if_neg (by rw [k23]; decide), if_neg (by rw [k23]; decide), if_pos k23]
    refine kg_X7_beginThread_33 hq _ _ ⟨fun q => absurd q (by decide), fun _ => kh_pass hq (fun c7 => hx (by rw [hW, if_neg (fun z => absurd z.2.1 (by omega))])) hB hR0 (by rw [k23]; decide) (by rw [k23]; decide) (fun c7 y hBy ny gy eny hRy _ hcy => p42 c _ y 1 (Or.inr ⟨rfl, rfl⟩) hcy hBy gy hRy ?_)⟩
    rw [hW, eny]
    by_cases cc : (K (nn x + 1) = 37 ∧ nn x + 1 < 700) ∧ K (nn x + 2) = 1 ∧ nn x + 2 < 700
    · rw [if_pos ⟨by omega, c7, cc⟩, if_pos cc]
    · rw [if_neg (fun z => cc z.2.2), if_neg cc]
  · have c3 : ¬ n.2.2.1 < 6 := by
      rw [t_lt, k6] at c
      omega
    rw [eW]
    unfold pD
    rcases hk with k | k
    · rw [if_neg (by rw [k]; decide), if_neg (by rw [k]; decide), if_neg (by rw [k]; decide), if_pos k, if_neg (fun z => c3 z.1)]
    · rw [if_neg (by rw [k]; decide), if_neg (by rw [k]; decide), if_neg (by rw [k]; decide), if_neg (by rw [k]; decide), if_pos k, if_neg (fun z => c3 z.1)]
theorem kh_definition (hq : kV q) (L : gU) (hx : W = none → RX x0 X) (eW : W = pD K V n (nn x) L) (hA : KA K V sN e x) (hn0 : nn x ≤ e) (hTb : TBk x T) (hCn : CNk x n) (hE1 : Ev.1 = []) (hE2 : Ev.2.1 = []) (hI : OT x0 x) (h : ∀ y N n', OT x0 y → nx x < nx y → RIw K V sN e Ev x y N → still N → W = some (n', nn y, L ++ N) → TBk y (T ++ N.filterMap (te1 K V)) → CNk y n' → La x y → CGo sN V K Ev x y N → Fv y) (h2 : ∀ y, BB x0 y (y.1 60 13).toInt E0 → 1 ≤ om y → om y ≤ 17 → 2 * ssm y + om y ≤ nx y → nx x < nx y → THb K V sN e Ev x y L T n W → Fv y) : KE G q (d + 11) zk_X7_definition 0 [(0, vr 100)] [] x (rv Fv) X := by
  have hB := OT_b hI
  have hKs : K (nn x) = kc (x.1 23 (nn x)) := (hA.1 _ hn0).symm
  have ki : ∀ s k : Int32, kc s = k → x.1 23 (x.1 100 4).toNatClampNeg = s → K (nn x) = k := fun s k e1 e2 => by rw [hKs, ← e1]; exact congrArg kc e2
  have ik : ∀ s k : Int32, kc s = k → ¬ k = -1 → K (nn x) = k → x.1 23 (x.1 100 4).toNatClampNeg = s := fun s k e1 e2 e3 => kc_i (by rw [e1, ← e3]; exact hA.1 _ hn0) (by rw [e1]; exact e2)
  refine kg_X7_definition_0 hq (kp_sort hq hB.1.1 ⟨fun c => kh_cellDefinition hq L hx eW (c.symm.imp (ki 64 34 (by decide)) (ki 47 17 (by decide))) hA hn0 hTb hCn hI (fun y N n' a1 a2 a3 a4 a5 a6 a7 a8 a9 => rv_i (h y N n' a1 a2 a3 a4 a5 a6 a7 a8 a9)), fun c => kh_lockDefinition hq L hx eW (ki 57 27 (by decide) c) hA hn0 hTb hCn hI (fun y N n' a1 a2 a3 a4 a5 a6 a7 a8 a9 => rv_i (h y N n' a1 a2 a3 a4 a5 a6 a7 a8 a9)), fun c => kh_beginThread hq L hx eW (c.imp (ki 53 23 (by decide)) (ki 67 37 (by decide))) hA hn0 hTb hCn hE1 hE2 hI (fun y a1 a2 a3 a4 a5 a6 => rv_i (h2 y a1 a2 a3 a4 a5 a6)), fun c => kh_claim hq L hx eW (c.imp (ki 41 11 (by decide)) (ki 51 21 (by decide))) hA hn0 hTb hCn hE2 hI (fun y N n' a1 a2 a3 a4 a5 a6 a7 a8 a9 => rv_i (h y N n' a1 a2 a3 a4 a5 a6 a7 a8 a9)), fun c => kh_refuse hq (hx ?_) hB _⟩)
  have no : ∀ s k : Int32, s ∈ [(47 : Int32), (64 : Int32), (57 : Int32), (53 : Int32), (67 : Int32), (41 : Int32), (51 : Int32)] → kc s = k → ¬ k = -1 → ¬ K (nn x) = k := fun s k hs e1 e2 e3 => c s hs (ik s k e1 e2 e3)
  rw [eW]
  unfold pD
  rw [if_neg (no 64 34 (by decide) (by decide) (by decide)), if_neg (no 47 17 (by decide) (by decide) (by decide)), if_neg (no 57 27 (by decide) (by decide) (by decide)), if_neg (no 53 23 (by decide) (by decide) (by decide)), if_neg (no 67 37 (by decide) (by decide) (by decide)), if_neg (no 41 11 (by decide) (by decide) (by decide)), if_neg (no 51 21 (by decide) (by decide) (by decide))]
end KDJ
end
section
/-! the class: all is read -/
section KDK
variable {G : kG} {q : kP} {d : Nat} {x x0 y z xs : gd} {F : Int32 → gd → Prop} {Fv : gd → Prop} {X : String → gd → Prop} {P : Option gv → gd → Prop} {K V : Nat → Int32} {sN : Nat → Nat → Bool} {e : Nat} {Ev : gV} {Ml N : gU} {T : gTd} {n : gN} {W : gD}
/-- outside a thread, L read -/
def RAo (K V : Nat → Int32) (sN : Nat → Nat → Bool) (e : Nat) (x xs y : gd) (W : gD) : Prop := ∃ (L : gU) (n : gN) (m : Nat), OT x y ∧ RIw K V sN e E0v xs y L ∧ (exs L E0v).1 = [] ∧ (exs L E0v).2.1 = [] ∧ TBk y (L.filterMap (te1 K V)) ∧ CNk y n ∧ W = pAl K V m n (nn y) L ∧ 701 ≤ m + nn y ∧ CCp sN V K y (cds sN K L cd0) (ces K V L (0, 0, [])) (tPs sN V K L E0v) ∧ eqE (cds sN K L cd0).1 (exs L E0v) ∧ rgO (cds sN K L cd0).2.2.2.1
/-- within one -/
def RAi (K V : Nat → Int32) (sN : Nat → Nat → Bool) (e : Nat) (x xs y : gd) (W : gD) : Prop := ∃ (L u : _) (c m i0 i1 : Nat) (n : gN) (L0 : gU) (W1 : gTs), (BB x y (y.1 60 13).toInt E0 ∧ W1 = eS K u c (nn y) L ∨ (BB x y (y.1 60 13).toInt E1 ∧ y.1 23 (y.1 100 4).toNatClampNeg = 54) ∧ W1 = eX K u c (nn y) L) ∧ 1 ≤ om y ∧ om y ≤ 17 ∧ 2 * ssm y + om y ≤ nx y ∧ RIw K V sN e E0v xs y L ∧ EN K e y u (exs L E0v) ∧ (y.1 100 7).toInt = (c : Nat) ∧ W1 = pBk (pS K 16) K 0 0 i0 L0 ∧ TBk y (L0.filterMap (te1 K V)) ∧ CNk y n ∧ W = W1.bind (fun q => pAl K V m n q.2.1 q.2.2) ∧ i1 < nn y ∧ 701 ≤ m + 1 + i1 ∧ CCp sN V K y (cds sN K L cd0) (ces K V L (0, 0, [])) (tPs sN V K L E0v) ∧ eqE (cds sN K L cd0).1 (exs L E0v) ∧ (cds sN K L cd0).2.2.2.1 = rg0
theorem kh_readAll (hq : kV q) (hT : kT x) (hA : KA K V sN e x) (hx : W = none → RX x X) (eW : W = pAl K V 701 (0, 0, 0, 0, 0) 0 []) (h : ∀ y n L, OT x y → W = some (n, nn y, L) → K (nn y) = 0 → KA K V sN e y → nn y ≤ e → HAs sN (y.1 42) (nn y) L E0v → (∀ j, j < nn y → ¬ y.1 42 j = 0 → HBs sN L E0v j (y.1 42 j)) → TBk y (L.filterMap (te1 K V)) → CNk y n → CCp sN V K y (cds sN K L cd0) (ces K V L (0, 0, [])) (tPs sN V K L E0v) → Fv y) : KE G q (d + 13) zk_X7_readAll 0 [(0, vr 100)] [] x (rv Fv) X := by
  have k0 : (0 : Int32).toInt = 0 := rfl
  have k700 : (700 : Int32).toInt = 700 := rfl
  obtain ⟨xs, exs0⟩ : ∃ xs : gd, nn xs = 0 := ⟨si x 100 4 0, by unfold nn; (simp only [si_get, sfl_get, Nat.reduceEqDiff, eq_self, and_false, false_and, and_true, true_and, if_true, if_false, reduceIte, reduceCtorEq]); rfl⟩
  have loop : ∀ (m : Nat) (k : Int32) (y : gd), (RAi K V sN e x xs y W ∨ RAo K V sN e x xs y W) → 0 ≤ k.toInt → k.toInt ≤ nx y → 700 - nx y < m → KE G q (d + 13) zk_X7_readAll 31 [(0, vr 100), (1, vi k)] [] y (rv Fv) X := by
    intro m
    induction m with
    | zero =>
      intro k y hy k0' kn hn
      have b2 : nx y ≤ 700 := by
        rcases hy with ⟨L, u, c, m, i0, i1, n, L0, W1, e | e, -⟩ | ⟨L, n, m, e, -⟩
        · exact e.1.1.1.2.2.1
        · exact e.1.1.1.1.2.2.1
        · exact e.1.1.2.2.1
      omega
    | succ m ih =>
      intro k y hy k0' kn hn
      have hR : RB y := by
        rcases hy with ⟨L, u, c, m, i0, i1, n, L0, W1, e | e, -⟩ | ⟨L, n, m, e, -⟩
        · exact e.1.1.1
        · exact e.1.1.1.1
        · exact e.1.1
      have b1 := hR.2.1
      have b2 := hR.2.2.1
      have cy := nn_is b1
      have ek : (k + 1).toInt = k.toInt + 1 := t_add (by show _ ≤ _ + (1 : Int); omega) (by show _ + (1 : Int) ≤ _; omega)
      have next : ∀ z, (RAi K V sN e x xs z W ∨ RAo K V sN e x xs z W) → nx y < nx z → KE G q (d + 13) zk_X7_readAll 31 [(0, vr 100), (1, vi (k + 1))] [] z (rv Fv) X := fun z hz nz => ih (k + 1) z hz (by omega) (by omega) (by omega)
      have up : ∀ z : gd, nx y < nx z → nn y < nn z := fun z nz => by
        have := nn_is (x := z) (by omega)
        omega
      have inth : ¬ y.1 100 5 = 0 → RAi K V sN e x xs y W := fun c => by
        rcases hy with e | ⟨L, n, m, e, -⟩
        · exact e
        · exact absurd e.2.2.2.2.1 c
      have outh : y.1 100 5 = 0 → RAo K V sN e x xs y W := fun c => by
        rcases hy with ⟨L, u, c9, m, i0, i1, n, L0, W1, e | e, -⟩ | e
        · exact absurd c e.1.2.2.2.2.1
        · exact absurd c e.1.1.2.2.2.2.1
        · exact e
      have pin : ¬ y.1 100 5 = 0 → KE G q (d + 13) zk_X7_readAll 52 [(0, vr 100), (1, vi k)] [] y (rv Fv) X := by
        intro c
        obtain ⟨L, u, c9, m9, i0, i1, n, L0, W1, hb, o1, o17, acc, hRI, hEN, h7, eW1, hTb, hCn, hWW, hi1, hm, hcc, hce, hcr⟩ := inth c
        have i64 : y.1 23 (y.1 100 4).toNatClampNeg = 24 ↔ K (nn y) = 64 := KA_k hRI.1 hRI.2.1 24 (by decide)
        have hx1 : W1 = none → RX x X := fun no => hx (by rw [hWW, no]; rfl)
        refine kg_X7_readAll_52 hq _ ⟨fun _ => kp_sort hq hR ⟨fun c24 => ?_, fun c24 => ?_⟩, fun z => absurd z c⟩
        · have k64 : ¬ K (nn y) = 64 := fun z => c24 (i64.mpr z)
          have eWX : W1 = eX K u c9 (nn y) L := by
            rcases hb with ⟨hB, e⟩ | ⟨-, e⟩
            · have oS : (om y).toNat = ((om y).toNat - 1) + 1 := by omega
              have hSx := hEN.2.1
              rw [oS] at hSx
              obtain ⟨z9, u2, B2, eu, -, z95, -⟩ := SKs_top hSx (hB.2.2.2.2.2.2.1 (fun e => e) ((om y).toNat - 1) (by omega))
              rw [e, eu, eS_stmt z95 k64]
            · exact e
          refine kd_statement hq c9 L hx1 eWX h7 hRI.1 hRI.2.1 hEN ⟨hb.imp (fun e => e.1) (fun e => e.1), o1, o17, acc⟩ (fun z N u9 c8 hBz oz1 oz17 az hRz hENz lz z7 hWz nz hCG => next z (Or.inl ⟨L ++ N, u9, c8, m9, i0, i1, n, L0, W1, Or.inl ⟨hBz, hWz⟩, oz1, oz17, az, RI_on b1 hRI lz.1 hRz, by rw [exs_app]; exact hENz, z7, eW1, TBk_e hTb lz.2, CNk_e hCn lz.2, hWW, Nat.lt_trans hi1 (up z nz), hm, by rw [cds_app, ces_app, tPs_app, exs_app]; exact hCG _ _ _ hce hcr hcc⟩) nz)
        · have k64 := i64.mp c24
          obtain ⟨hB, eWS⟩ : BB x y (y.1 60 13).toInt E0 ∧ W1 = eS K u c9 (nn y) L := by
            rcases hb with e | ⟨⟨-, e⟩, -⟩
            · exact e
            · rw [e] at c24; exact absurd c24 (by decide)
          refine kd_closeBlock hq c9 L hx1 eWS k64 hRI.1 hRI.2.1 hEN hB o1 o17 acc (fun z N u9 hbz oz1 oz17 az hRz hENz lz z7 nz hCG => next z (Or.inl ⟨L ++ N, u9, c9, m9, i0, i1, n, L0, W1, hbz, oz1, oz17, az, RI_on b1 hRI lz.1 hRz, by rw [exs_app]; exact hENz, by rw [z7]; exact h7, eW1, TBk_e hTb lz.2, CNk_e hCn lz.2, hWW, Nat.lt_trans hi1 (up z nz), hm, by rw [cds_app, ces_app, tPs_app, exs_app]; exact hCG _ _ _ hce hcr hcc⟩) nz) (fun z N hOz hRz e1 e2 lz hWz nz hCG => next z (Or.inr ⟨L ++ N, n, m9, hOz, RI_on b1 hRI lz.1 hRz, by rw [exs_app]; exact e1, by rw [exs_app]; exact e2, ?_, CNk_e hCn lz.2, ?_, ?_, ?_⟩) nz)
          · rw [eW1] at hWz
            have := nT_te (K := K) (V := V) (pBk_nT (pS_nT 16) hWz)
            rw [this]
            exact TBk_e hTb lz.2
          · rw [hWW, hWz]; rfl
          · have := up z nz
            omega
          · rw [cds_app, ces_app, tPs_app, exs_app]
            obtain ⟨h1, h2, h3⟩ := hCG _ _ _ hce hcr hcc
            exact ⟨h1, h2, 0, h3⟩
      have pout : y.1 100 5 = 0 → ¬ y.1 23 (y.1 100 4).toNatClampNeg = 0 → KE G q (d + 13) zk_X7_readAll 52 [(0, vr 100), (1, vi k)] [] y (rv Fv) X := by
        intro c c0
        obtain ⟨L, n, m9, hO, hRI, e1, e2, hTb, hCn, hWW, hm, hcc, hce, hcr⟩ := outh c
        obtain ⟨m8, rfl⟩ : ∃ k, m9 = k + 1 := ⟨m9 - 1, by omega⟩
        have k00 : ¬ K (nn y) = 0 := fun z => c0 ((KA_k hRI.1 hRI.2.1 0 (by decide)).mpr z)
        rw [pAl, if_neg k00] at hWW
        obtain ⟨W1, eW1⟩ : ∃ W1, W1 = pD K V n (nn y) L := ⟨_, rfl⟩
        rw [← eW1] at hWW
        have hx1 : W1 = none → RX x X := fun no => hx (by rw [hWW, no]; rfl)
        refine kg_X7_readAll_52 hq _ ⟨fun z => absurd c z, fun _ => kh_definition (Ev := exs L E0v) hq L hx1 eW1 hRI.1 hRI.2.1 hTb hCn e1 e2 hO (fun z N n' hOz nz hRz hN hWz hTz hCz lz hCG => next z (Or.inr ⟨L ++ N, n', m8, hOz, RI_on b1 hRI lz hRz, by rw [exs_app, exs_still hN]; exact e1, by rw [exs_app, exs_still hN]; exact e2, by rw [List.filterMap_append]; exact hTz, hCz, by rw [hWW, hWz]; rfl, ?_, by rw [cds_app, ces_app, tPs_app, exs_app]; exact hCG _ _ _ hce hcr hcc⟩) nz) (fun z hBz o1 o17 az nz hTH => next z (Or.inl ?_) nz)⟩
        · have := up z nz
          omega
        · obtain ⟨N, W2, i0, t, b, hRz, hENz, z7, hWz, eW2, hWS, hTz, hCz, lz, hCG⟩ := hTH
          refine ⟨L ++ N, [0], 0, m8, i0, nn y, _, L ++ [(34, t, b)], W2, Or.inl ⟨hBz, hWS⟩, o1, o17, az, RI_on b1 hRI lz hRz, by rw [exs_app]; exact hENz, z7, eW2, by rw [List.filterMap_append]; exact hTz, hCz, ?_, up z nz, hm, by rw [cds_app, ces_app, tPs_app, exs_app]; exact hCG _ _ _ hce hcr hcc⟩
          rw [hWW, hWz, Option.bind_assoc]
          rfl
      refine kg_X7_readAll_31 hq _ ⟨fun c => ?_, fun _ => ⟨fun c => pin c, fun c => kp_sort hq hR ⟨fun c0 => rv_i ?_, fun c0 => pout c c0⟩⟩⟩
      · exfalso; rw [t_lt, k700] at c; omega
      · obtain ⟨L, n, m9, hO, hRI, e1, e2, hTb, hCn, hWW, hm, hcc, hce, hcr⟩ := outh c
        obtain ⟨m8, rfl⟩ : ∃ k, m9 = k + 1 := ⟨m9 - 1, by omega⟩
        have k00 : K (nn y) = 0 := (KA_k hRI.1 hRI.2.1 0 (by decide)).mp c0
        rw [pAl, if_pos k00] at hWW
        exact h y n L hO hWW k00 hRI.1 hRI.2.1 hRI.2.2.1 (fun j hj hu => hRI.2.2.2 j (by omega) hj hu) hTb hCn hcc
  refine kg_X7_readAll_0 hq (kp_names_clear hq (fun x1 f1 n6 n8 n10 nu => kp_code_clear hq (fun x2 f2 c80 c3 c6 c9 c10 c13 c14 c16 x3 e3 x4 e4 z ez => ?_)))
  have f : fm (fun c k => c = 40 ∨ c = 42 ∨ c = 43 ∨ c = 60 ∨ (c = 80 ∧ k = 9) ∨ (c = 100 ∧ (k = 4 ∨ k = 5 ∨ k = 6))) x z := by
    rw [ez, e4, e3]
    exact fm_si (fm_si (fm_si (fm_tr (fm_w f1 (fun c k q => by omega)) (fm_w f2 (fun c k q => by omega))) (by omega)) (by omega)) (by omega)
  have g2 : ∀ c k, c ≠ 100 → z.1 c k = x2.1 c k := fun c k hc => by rw [ez, e4, e3, si_cell hc, si_cell hc, si_cell hc]
  have z4 : z.1 100 4 = 0 := by rw [ez, e4, e3]; (simp only [si_get, sfl_get, Nat.reduceEqDiff, eq_self, and_false, false_and, and_true, true_and, if_true, if_false, reduceIte, reduceCtorEq])
  have z5 : z.1 100 5 = 0 := by rw [ez]; (simp only [si_get, sfl_get, Nat.reduceEqDiff, eq_self, and_false, false_and, and_true, true_and, if_true, if_false, reduceIte, reduceCtorEq])
  have nz : nx z = 0 := by unfold nx; rw [z4]; rfl
  have sz : ssm z = 0 := by unfold ssm; rw [g2 80 9 (by decide), c80]; rfl
  have z42 : ∀ j, j < 702 → z.1 42 j = 0 := fun j hj => by rw [g2 42 j (by decide), f2 42 j (by omega)]; exact nu j hj
  have z6 : ∀ k, z.1 60 k = x2.1 60 k := fun k => g2 60 k (by decide)
  have z40 : ∀ k, z.1 40 k = x1.1 40 k := fun k => by rw [g2 40 k (by decide), f2 40 k (by omega)]
  have hTz : kT z := kT_fm hT (fun c k q1 q2 => f c k (by omega))
  have mz : 0 ≤ mt z := by obtain ⟨-, n, en, -⟩ := hTz; unfold mt; omega
  have hRz : RIw K V sN e E0v xs z [] := ⟨KA_fm hA (fun c k q1 q2 => f c k (by omega)), by unfold nn; rw [z4]; exact Nat.zero_le _, UR_0 (by rw [exs0]; unfold nn; rw [z4]; rfl)⟩
  have nnz : nn z = 0 := by unfold nn; rw [z4]; rfl
  refine loop 701 _ z (Or.inr ⟨[], (0, 0, 0, 0, 0), 701, ⟨⟨⟨hTz, by omega, by omega, by omega⟩, ⟨fun j _ h2 => z42 j h2, fun j h1 _ => by omega⟩, ?_, fun i hi => ?_⟩, ?_, ⟨fun c => absurd z5 c, ?_, ?_, ⟨by omega, fun i hi => by omega⟩, ?_⟩, fun i hi => by omega, z5, fm_w f (fun c k q => by unfold sR; omega), by omega⟩, hRz, rfl, rfl, ?_, ?_, by rw [nnz]; exact eW, by omega, ?_, ⟨rfl, rfl⟩, 0, rfl⟩) (by decide) (by rw [k0]; omega) (by omega)
  · rw [z6, c3]; decide
  · rw [z6, c3, k0] at hi; omega
  · unfold FR; rw [z4]; exact z42 _ (by decide)
  · unfold NM
    rw [z40, z40, z40, n6, n8, n10, k0]
    exact ⟨by omega, by omega, by omega, fun i hi => by omega, fun i hi => by omega, fun i hi => by omega⟩
  · unfold CD
    rw [z6, z6, z6, z6, z6, z6, z40, z40, c6, c9, c10, c14, c16, c13, n8, n10, k0]
    exact ⟨by omega, rfl, rfl, by omega, by omega, by omega, fun c => absurd z5 c⟩
  · unfold TS
    rw [z6, c10, k0]
    exact ⟨fun t ht => by omega, fun _ => Or.inl sz⟩
  · have z46 : z.1 40 6 = 0 := by rw [z40, n6]
    have z48 : z.1 40 8 = 0 := by rw [z40, n8]
    have z410 : z.1 40 10 = 0 := by rw [z40, n10]
    have z66 : z.1 60 6 = 0 := by rw [z6, c6]
    unfold TBk
    rw [z46, z48, z410, z66]
    exact ⟨⟨rfl, ⟨Int.le_refl _, rfl⟩, fun i q hq => by simp [tdS] at hq⟩, ⟨rfl, fun i q hq => by simp [tdS] at hq⟩, rfl, fun i q hq => by simp [tdS] at hq⟩
  · unfold CNk
    rw [z6, z6, z6, z6, z6, c6, c9, c10, c14, c16]
    exact ⟨rfl, rfl, rfl, rfl, rfl⟩
  · have cc : CCp sN V K z cd0 (0, 0, []) [] := by
      refine ⟨⟨by rw [z6, c3]; rfl, fun i q _ hq => by simp at hq⟩, ⟨by show ssm z = _; rw [sz]; rfl, fun j st hj => by simp at hj⟩, ⟨fun q => absurd z5 q, fun _ => rfl⟩, ⟨by rw [z6, c10]; rfl, fun t q hq => by simp at hq⟩, ⟨by rw [z6, c6]; rfl, fun j q hq => by simp at hq⟩, ⟨by rw [z6, c14]; rfl, fun k N hN => by simp [clF] at hN⟩, ⟨by rw [z6, c16]; rfl, fun k N hN => by simp [clF] at hN⟩⟩
    exact cc
end KDK
end
