/-! the class: a block is closed -/
section KCLG
variable {G : kG} {q : kP} {d : Nat} {x x0 y z xs : gd} {F : Int32 → gd → Prop} {Fv : gd → Prop} {X : String → gd → Prop} {P : Option gv → gd → Prop} {M : Int} {E : Nat → Prop} {K V : Nat → Int32} {sN : Nat → Nat → Bool} {e : Nat} {Ev : gV} {Ml N : gU} {W : gTs}
theorem kd_closeBlock (hq : kV q) (c9 : Nat) (L : gU) {u : List Nat} (hx : W = none → RX x0 X) (eW : W = eS K u c9 (nn x) L) (hk64 : K (nn x) = 64) (hA : KA K V sN e x) (hn0 : nn x ≤ e) (hN9 : EN K e x u Ev) (hB : BB x0 x (x.1 60 13).toInt E0) (h1 : 1 ≤ om x) (ho : om x ≤ 17) (ha : 2 * ssm x + om x ≤ nx x) (h : ∀ y N u9, (BB x0 y (y.1 60 13).toInt E0 ∧ W = eS K u9 c9 (nn y) (L ++ N) ∨ (BB x0 y (y.1 60 13).toInt E1 ∧ y.1 23 (y.1 100 4).toNatClampNeg = 54) ∧ W = eX K u9 c9 (nn y) (L ++ N)) → 1 ≤ om y → om y ≤ 17 → 2 * ssm y + om y ≤ nx y → RIw K V sN e Ev x y N → EN K e y u9 (exs N Ev) → Lb x y → y.1 100 7 = x.1 100 7 → nx x < nx y → CG sN V K Ev x y N → Fv y) (hOT : ∀ y N, OT x0 y → RIw K V sN e Ev x y N → (exs N Ev).1 = [] → (exs N Ev).2.1 = [] → Lb x y → W = some (c9, nn y, L ++ N) → nx x < nx y → CG sN V K Ev x y N → Fv y) : KE G q (d + 10) zk_X7_closeBlock 0 [(0, vr 100)] [] x (rv Fv) X := by
  have bx0 := hB.1.1.2.1
  have oS : (om x).toNat = ((om x).toNat - 1) + 1 := by omega
  have hSx := hN9.2.1
  rw [oS] at hSx
  obtain ⟨z9, u2, B2, eu, ez9, z95, eb, eB, hS2⟩ := SKs_top hSx (hB.2.2.2.2.2.2.1 (fun e => e) ((om x).toNat - 1) (by omega))
  rw [eu] at eW
  have hR0 : RIw K V sN e Ev x x [] := ⟨hA, hn0, UR_0 rfl⟩
  refine kg_X7_closeBlock_0 hq (kd_need (xs := x) (Ml := []) (Ev := Ev) hq 24 64 (by decide) (by decide) (by decide) (fun no => hx (by rw [eW]; exact eS_close7 z95 hk64 (Nat.le_of_not_lt (fun z => no ⟨hk64, z⟩)))) hB hR0 (fun kk c7 x1 hB1 n1 g1 en1 hR1 u0 hc1 x2 e2 => ?_))
  have hW1 : W = eC K z9 u2 c9 (nn x1) (L ++ [(21, z9, 0)]) := by rw [eW, eS_close z95 kk c7, en1]
  have o1 := GS_om g1
  have s1 := GS_sm g1
  have m13 : x1.1 60 13 = x.1 60 13 := GS_at g1 _ _ (by unfold sSum; omega)
  have e13 : (x1.1 100 13 - 1).toInt = om x1 - 1 := t_sub (by show _ ≤ _ - (1 : Int); unfold om at *; omega) (by show _ - (1 : Int) ≤ _; unfold om at *; omega)
  have q2 : x2.1 100 13 = x1.1 100 13 - 1 := by rw [e2]; (simp only [si_get, sfl_get, Nat.reduceEqDiff, eq_self, and_false, false_and, and_true, true_and, if_true, if_false, reduceIte, reduceCtorEq])
  have N2 : (x2.1 100 13).toNatClampNeg = (om x1).toNat - 1 := by rw [q2, t_cl, e13]; omega
  have v2 : vp_in (x2.1 100 13) 20 := by rw [q2, vp_in_iff, e13]; omega
  refine ⟨v2, fun x4 e4 => ?_⟩
  rw [N2] at e4
  have f2 : fm (fun c k => c = 100 ∧ k = 13) x1 x2 := by rw [e2]; exact fm_si (fm_rf _ _) ⟨rfl, rfl⟩
  rw [f2 113 _ (by omega)] at e4
  have q4 : x4.1 100 13 = x2.1 100 13 := by rw [e4]; (simp only [si_get, sfl_get, Nat.reduceEqDiff, eq_self, and_false, false_and, and_true, true_and, if_true, if_false, reduceIte, reduceCtorEq])
  have f4 : fm (fun c k => c = 100 ∧ (k = 9 ∨ k = 13)) x1 x4 := by rw [e4]; exact fm_si (fm_w f2 (fun c k q => ⟨q.1, Or.inr q.2⟩)) ⟨rfl, Or.inl rfl⟩
  have k4 : x4.1 100 9 = x1.1 113 ((om x1).toNat - 1) := by rw [e4]; (simp only [si_get, sfl_get, Nat.reduceEqDiff, eq_self, and_false, false_and, and_true, true_and, if_true, if_false, reduceIte, reduceCtorEq])
  have o4 : om x4 = om x1 - 1 := by unfold om at *; rw [q4, q2]; exact e13
  obtain ⟨kk, oo, cc⟩ := BB_k hB1
  have hop := oo.2.1 ((om x1).toNat - 1) (by omega)
  have hB4 := BB_pop hB1 (by omega) f4 o4 (by rw [k4]; exact hop.2.2) (fun j hj => by rw [k4]; exact oo.2.2.1 j _ (by omega) (by omega))
  have n4 : nx x4 = nx x1 := by unfold nx; rw [f4 100 4 (by omega)]
  have s4 : ssm x4 = ssm x1 := by unfold ssm; rw [f4 80 9 (by omega)]
  have m4 : x4.1 60 13 = x.1 60 13 := by rw [f4 60 13 (by omega)]; exact m13
  have g113 : ∀ k, x1.1 113 k = x.1 113 k := fun k => GS_at g1 113 k (by unfold sSum; omega)
  have g111 : ∀ k, x1.1 111 k = x.1 111 k := fun k => GS_at g1 111 k (by unfold sSum; omega)
  have hV1 := KV_GS g1 hN9.1
  have hd : (x1.1 113 ((om x1).toNat - 1)).toNatClampNeg = Ev.2.1.headD 0 := by rw [g113, o1]; exact eb
  have hd2 : ((Ev.2.1.headD 0 : Nat) : Int) = (x1.1 113 ((om x1).toNat - 1)).toInt := by
    have u := t_cl (x1.1 113 ((om x1).toNat - 1))
    have := hop.2.2.1
    rw [hd] at u
    omega
  have hm : Ev.2.1.headD 0 ≤ Ev.1.length := by
    have a := hop.2.2.2
    have b := hV1.1
    omega
  have hV4 : KV' K e x4 (exV Ev (21, z9, 0)) := KV_drop hV1 hm (by rw [k4]; exact hd2.symm) (fun k => f4 109 k (by omega))
  have o4x : (om x4).toNat = (om x).toNat - 1 := by omega
  have hS4 : SKs x4 (om x4).toNat u2 Ev.2.1.tail := by
    rw [o4x, eB]
    exact SKs_eq (fun k _ => ⟨by rw [f4 111 k (by omega), g111], by rw [f4 113 k (by omega), g113]⟩) hS2
  have hR4 : RIw K V sN e Ev x x4 [(21, z9, 0)] := RI_dull (RI_st hR1 (f4 _ _ (by omega)) (fun j => f4 _ _ (by omega)) (fun c k q1 q2 => f4 _ _ (by omega))) (dull_k (by decide))
  have n41 : nn x4 = nn x1 := by unfold nn; rw [f4 100 4 (by omega)]
  have l4 : Lb x x4 := Lb_tr (Lb_GS g1) (Lb_fm f4 (fun c k q => by unfold Tc; omega))
  have x47 : x4.1 100 7 = x.1 100 7 := by rw [f4 100 7 (by omega), GS_at g1 100 7 (by unfold sSum; omega)]
  have ul2 := SKs_len hS4
  have ez1 : (x1.1 111 ((om x1).toNat - 1)).toInt = (z9 : Nat) := by rw [g111, o1]; exact ez9
  have hLB : 1 ≤ om x4 → LBo Ev.2.1.tail := fun h1 => LBo_pop hN9.2.2 (SKs_B0 hS4 (fun k hk => by
    by_cases k0 : 0 < k
    · exact Or.inl k0
    · refine Or.inr ?_
      have k00 : k = 0 := by omega
      rw [k00, f4 111 0 (by omega)]
      have := ((oo.2.1 0 (by omega)).1 rfl).1
      rw [this]; decide) (by omega))
  rw [← n41] at hW1
  refine ⟨by rw [q4]; exact v2, by rw [q4]; exact v2, ?_⟩
  rw [q4, N2, f4 111 _ (by omega), f4 112 _ (by omega)]
  have hpo : ∀ (k : Int32) (t : Nat), x1.1 111 ((om x1).toNat - 1) = k → ¬ k = 0 → (x1.1 112 ((om x1).toNat - 1)).toInt = (t : Nat) → Po x1 x4 t := fun k t ek hk et => ⟨fun c j q q1 => f4 c j (by unfold ccS at q; omega), by rw [q4, N2, t_cl]; show _ = (om x1).toNat; omega, by rw [q4, N2, ek]; exact hk, by rw [q4, N2]; exact et, hB1.2.2.2.2.1⟩
  -- the block's step
  have step : ∀ k : Int32, x1.1 111 ((om x1).toNat - 1) = k → ¬ k = 0 → ∃ t : Nat, (x1.1 112 ((om x1).toNat - 1)).toInt = t ∧ (t : Int) < ssm x1 ∧ 1 ≤ om x4 ∧ (k = 1 ∨ k = 3 → sop x4 t = 17) ∧ (k = 2 → sop x4 t = 5) ∧ (k = 4 ∨ k = 5 → sop x4 t = 20) := by
    intro k ek hk
    have hpos : 0 < (om x1).toNat - 1 := by
      refine Nat.pos_of_ne_zero (fun e => hk ?_)
      rw [← ek]; exact (hop.1 e).1
    obtain ⟨-, t, t1, t2, t3⟩ := hop.2.1 hpos
    refine ⟨t, t1, t2, by omega, ?_⟩
    rw [← ek]
    unfold sop at t3 ⊢
    rw [f4 81 t (by omega)]; exact t3
  have hR5 : ∀ k : Int32, x1.1 111 ((om x1).toNat - 1) = k → (k = 1 ∨ k = 2) → ∀ y, om y = om x4 → (∀ j, y.1 111 j = x1.1 111 j) → TIk y := by
    intro k ek hk y oy fy j hj
    rw [fy j]
    intro c
    have := hB1.2.2.2.2.2.2.2 j (by omega) c
    have hj1 : j + 1 = (om x1).toNat - 1 := by omega
    rw [hj1, ek] at this
    rcases hk with rfl | rfl <;> revert this <;> decide
  have hE4 : ∀ (t : Nat), (x1.1 112 ((om x1).toNat - 1)).toInt = t → ∀ i : Nat, (i : Int) < ssm x4 → (E0 i ∨ (i : Int) = (x1.1 112 ((om x1).toNat - 1)).toInt ∨ i = 1000000) → i = t := by
    intro t et i hi he
    have b2 := hB1.1.1.2.2.1
    rcases he with e | e | e
    · exact absurd e (fun e => e)
    · omega
    · omega
  have endI : ∀ (y : gd), BB x0 y (x.1 60 13).toInt E0 → nx y = nx x4 → ssm y = ssm x4 → om y ≤ om x4 → (1 ≤ om x4 → 1 ≤ om y) → y.1 60 13 = x4.1 60 13 → fm (fun c k => c = 84 ∨ (c = 100 ∧ k = 13)) x4 y → ∀ (uy : List Nat) (N : gU), SKs y (om y).toNat uy Ev.2.1.tail → n63 N → ∀ k : Nat, z9 = k → (k = 3 ∨ k = 4) → (∃ t, Po x1 x4 t ∧ CE sN V K t x4 y N) → 1 ≤ om x4 → W = eS K uy c9 (nn x4) (L ++ [(21, k, 0)] ++ [(63, 0, 0)] ++ N) → Fv y := by
    intro y hBy ny sy oy oy1 y13 fy uy N hSy hN k zk hk34 hce t3 hWy
    rw [zk] at hR4 hV4
    have nny : nn y = nn x4 := by unfold nn; rw [fy 100 4 (by omega)]
    have st6 : still ([(63, 0, 0)] ++ N) := still_app (stl_k (by decide)) (n63_still hN)
    have ex : exs ([(21, k, 0)] ++ ([(63, 0, 0)] ++ N)) Ev = exV Ev (21, k, 0) := by rw [exs_app, exs_still st6]; rfl
    have hRy : RIw K V sN e Ev x y ([(21, k, 0)] ++ [(63, 0, 0)] ++ N) := RI_63 (RI_dull (RI_st hR4 (fy _ _ (by omega)) (fun j => fy _ _ (by omega)) (fun c k q1 q2 => fy _ _ (by omega))) (dull_k (by decide))) hN
    rw [List.append_assoc] at hRy
    refine h y ([(21, k, 0)] ++ ([(63, 0, 0)] ++ N)) uy (Or.inl ⟨by rw [y13, m4]; exact hBy, ?_⟩) (oy1 t3) (by omega) (by omega) hRy ?_ (Lb_tr l4 (Lb_fm fy (fun c k q => by unfold Tc; omega))) (by rw [fy 100 7 (by omega), x47]) (by omega) (hce.elim (fun t9 q9 => CG_21n hc1 q9.1 hk34 (CE_n q9.2 hN)))
    · rw [nny, hWy, List.append_assoc L, List.append_assoc L, List.append_assoc [(21, k, 0)]]
    · rw [ex]
      exact ⟨KV_fm hV4 (fy _ _ (by omega)) (fun k => fy _ _ (by omega)), hSy, hLB t3⟩
  obtain ⟨a1, a2, a3, a4, a5⟩ := BB_400 hB4 (by omega)
  refine ⟨fun c => ?_, fun c => ?_, fun c => ?_, fun c => ?_, fun c => ?_⟩
  · -- while
    obtain ⟨t, t1, t2, t3, t4, -⟩ := step 1 c (by decide)
    have p17 := t4 (Or.inl rfl)
    have tN : (x1.1 112 ((om x1).toNat - 1)).toNatClampNeg = t := by rw [t_cl, t1]; rfl
    have vt : vp_in (x1.1 112 ((om x1).toNat - 1)) 400 := by rw [vp_in_iff]; omega
    refine ⟨vt, kf_add hq _ _ _ a1 a2 (fun w hAd vin hF9 => ⟨vin, fun x12 e12 => ⟨vt, fun x14 e14 => rv_i ?_⟩⟩)⟩
    obtain ⟨f1, g2, g3, g4, g5⟩ := hAd
    rw [tN] at e14
    have k20 : (20 : Int32).toInt = 20 := rfl
    have hSA : SA w (x.1 60 13).toInt (x4.1 80 9).toNatClampNeg := by
      unfold SA sop stg
      rw [g3, g4, k20]
      exact ⟨by omega, ⟨a4, a5⟩, fun c => by omega, fun c => by omega⟩
    have hBw := BB_add hB4 (n := (x4.1 80 9).toNatClampNeg) (by omega) f1 g2 hSA
    have pw : sop w t = 17 := by unfold sop at p17 ⊢; rw [f1 81 t (by omega)]; exact p17
    have pn : sop w (x4.1 80 9).toNatClampNeg = 20 := by unfold sop; rw [g3]; rfl
    have hB12 := BB_tg hBw (by omega) (n := (x4.1 80 9).toNatClampNeg) (by omega) (Or.inr pn) e12 ⟨by omega, by omega, fun _ => Or.inr (by rw [t1]; exact pw)⟩
    have f12 : fm (fun c k => c = 84) w x12 := by rw [e12]; exact fm_si (fm_rf _ _) rfl
    have s12 : ssm x12 = ssm w := by unfold ssm; rw [f12 80 9 (by omega)]
    have p12 : sop x12 t = 17 := by unfold sop at pw ⊢; rw [f12 81 t (by omega)]; exact pw
    have hB14 := BB_tg hB12 (by omega) (n := t) (by omega) (Or.inl p12) e14 ⟨by show 0 ≤ ssm x12; omega, Int.le_refl _, fun c => by omega⟩
    have f14 : fm (fun c k => c = 84) x12 x14 := by rw [e14]; exact fm_si (fm_rf _ _) rfl
    have F : fm (fun c k => (81 ≤ c ∧ c ≤ 89) ∨ (c = 80 ∧ k = 9)) x4 x14 := fm_tr (fm_tr (fm_w f1 (fun c k q => by omega)) (fm_w f12 (fun c k q => by omega))) (fm_w f14 (fun c k q => by omega))
    have s14 : ssm x14 = ssm x4 + 1 := by
      have : ssm x14 = ssm x12 := by unfold ssm; rw [f14 80 9 (by omega)]
      omega
    have n14 : nx x14 = nx x4 := by unfold nx; rw [F 100 4 (by omega)]
    have o14 : om x14 = om x4 := by unfold om; rw [F 100 13 (by omega)]
    have hT : TIk x14 := hR5 1 c (Or.inl rfl) x14 o14 (fun j => by rw [F 111 j (by omega), f4 111 j (by omega)])
    have z1 : z9 = 1 := by
      rw [c] at ez1
      have k1 : (1 : Int32).toInt = 1 := rfl
      omega
    have nn14 : nn x14 = nn x4 := by unfold nn; rw [F 100 4 (by omega)]
    refine h x14 [(21, z9, 0)] u2 (Or.inl ⟨?_, ?_⟩) (by omega) (by omega) (by omega) (RI_st hR4 (F _ _ (by omega)) (fun j => F _ _ (by omega)) (fun c k q1 q2 => F _ _ (by omega))) ⟨KV_fm hV4 (F _ _ (by omega)) (fun k => F _ _ (by omega)), ?_, hLB t3⟩ (Lb_tr l4 (Lb_fm F (fun c k q => by unfold Tc; omega))) (by rw [F 100 7 (by omega), x47]) (by omega) (by
      rw [z1] at hV4 ⊢
      exact CG_21w hc1 (hpo 1 t c (by decide) t1) hV4 t1 (stK_84 ⟨fun c k q q1 q2 => f1 c k (fun z => z.elim q1 q2), g2, g3, g4, g5, hF9.1, hF9.2.1, hF9.2.2.1, hF9.2.2.2⟩ e12) e14 (fun q => by
        unfold sop at p12
        rw [q] at p12
        exact absurd p12 (by decide)))
    rotate_left 1
    · rw [hW1, z1, eC_12 (Or.inl rfl), nn14]
    · rw [o14]; exact SKs_eq (fun k _ => ⟨F _ _ (by omega), F _ _ (by omega)⟩) hS4
    rw [F 60 13 (by omega), m4]
    refine ⟨hB14.1, hB14.2.1, hB14.2.2.1, fun i hi _ => ?_, hB14.2.2.2.2.1, hB14.2.2.2.2.2.1, fun _ => hT, hB14.2.2.2.2.2.2.2⟩
    refine hB14.2.2.2.1 i hi (fun e => ?_)
    obtain ⟨⟨e | e, e2⟩, e3⟩ := e
    · by_cases hi4 : (i : Int) < ssm x4
      · exact e3 (hE4 t t1 i hi4 e)
      · exact e2 (by omega)
    · exact e2 e
  · -- lock
    obtain ⟨t, t1, t2, t3, -, t4, -⟩ := step 2 c (by decide)
    have p5 := t4 rfl
    have tN : (x1.1 112 ((om x1).toNat - 1)).toNatClampNeg = t := by rw [t_cl, t1]; rfl
    have vt : vp_in (x1.1 112 ((om x1).toNat - 1)) 400 := by rw [vp_in_iff]; omega
    refine ⟨vt, kf_add hq _ _ _ a1 a2 (fun w hAd vin hF9 => ⟨vt, vin, fun x14 e14 => rv_i ?_⟩)⟩
    obtain ⟨f1, g2, g3, g4, g5⟩ := hAd
    rw [tN, f1 85 t (by omega)] at e14
    have fz : fm (fun c k => (81 ≤ c ∧ c ≤ 89 ∧ k = (x4.1 80 9).toNatClampNeg) ∨ (c = 80 ∧ k = 9)) x4 x14 := by rw [e14]; exact fm_si f1 (Or.inl ⟨by omega, by omega, rfl⟩)
    have es : ssm x14 = ssm x4 + 1 := by
      have : x14.1 80 9 = w.1 80 9 := by rw [e14]; (simp only [si_get, sfl_get, Nat.reduceEqDiff, eq_self, and_false, false_and, and_true, true_and, if_true, if_false, reduceIte, reduceCtorEq])
      unfold ssm at *; rw [this]; exact g2
    have z81 : x14.1 81 (x4.1 80 9).toNatClampNeg = 6 := by rw [e14]; (simp only [si_get, sfl_get, Nat.reduceEqDiff, eq_self, and_false, false_and, and_true, true_and, if_true, if_false, reduceIte, reduceCtorEq]); exact g3
    have z83 : x14.1 83 (x4.1 80 9).toNatClampNeg = x4.1 100 9 := by rw [e14]; (simp only [si_get, sfl_get, Nat.reduceEqDiff, eq_self, and_false, false_and, and_true, true_and, if_true, if_false, reduceIte, reduceCtorEq]); exact g4
    have z85 : x14.1 85 (x4.1 80 9).toNatClampNeg = x4.1 85 t := by rw [e14]; (simp only [si_get, sfl_get, Nat.reduceEqDiff, eq_self, and_false, false_and, and_true, true_and, if_true, if_false, reduceIte, reduceCtorEq])
    have k6 : (6 : Int32).toInt = 6 := rfl
    have n14 : nx x14 = nx x4 := by unfold nx; rw [fz 100 4 (by omega)]
    have o14 : om x14 = om x4 := by unfold om; rw [fz 100 13 (by omega)]
    have hSA : SA x14 (x.1 60 13).toInt (x4.1 80 9).toNatClampNeg := by
      have g := hB4.2.2.1.2.2.2.1.2 t (by omega)
      unfold SA at g
      rw [p5] at g
      obtain ⟨u, u1, u2, -, u4, -⟩ := g.2.2.1 (by omega)
      unfold SA sop stg
      rw [z81, z83, z85, k6]
      refine ⟨by omega, ⟨a4, a5⟩, fun _ => ⟨u, u1, by omega, fun c => by omega, fun _ _ => ?_, fun c => by omega⟩, fun c => by omega⟩
      rw [fz 42 u (by omega)]; exact u4 (by omega) (by omega)
    have hB14 := BB_add hB4 (n := (x4.1 80 9).toNatClampNeg) (by omega) fz es hSA
    have hT : TIk x14 := hR5 2 c (Or.inr rfl) x14 o14 (fun j => by rw [fz 111 j (by omega), f4 111 j (by omega)])
    have z2 : z9 = 2 := by
      rw [c] at ez1
      have k2 : (2 : Int32).toInt = 2 := rfl
      omega
    have nn14 : nn x14 = nn x4 := by unfold nn; rw [fz 100 4 (by omega)]
    refine h x14 [(21, z9, 0)] u2 (Or.inl ⟨?_, ?_⟩) (by omega) (by omega) (by omega) (RI_st hR4 (fz _ _ (by omega)) (fun j => fz _ _ (by omega)) (fun c k q1 q2 => fz _ _ (by omega))) ⟨KV_fm hV4 (fz _ _ (by omega)) (fun k => fz _ _ (by omega)), ?_, hLB t3⟩ (Lb_tr l4 (Lb_fm fz (fun c k q => by unfold Tc; omega))) (by rw [fz 100 7 (by omega), x47]) (by omega) (by
      rw [z2] at hV4 ⊢
      exact CG_21l hc1 (hpo 2 t c (by decide) t1) hV4 (by show (t : Int) < ssm x4; omega) (by rw [t_eq]; exact p5) ⟨fun c k q q1 q2 => fz c k (fun z => z.elim q1 q2), es, z81, z83, rfl, z85, by rw [e14]; (simp only [si_get, sfl_get, Nat.reduceEqDiff, eq_self, and_false, false_and, and_true, true_and, if_true, if_false, reduceIte, reduceCtorEq]); exact hF9.2.1, by rw [e14]; (simp only [si_get, sfl_get, Nat.reduceEqDiff, eq_self, and_false, false_and, and_true, true_and, if_true, if_false, reduceIte, reduceCtorEq]); exact hF9.2.2.1, by rw [e14]; (simp only [si_get, sfl_get, Nat.reduceEqDiff, eq_self, and_false, false_and, and_true, true_and, if_true, if_false, reduceIte, reduceCtorEq]); exact hF9.2.2.2⟩)
    rotate_left 1
    · rw [hW1, z2, eC_12 (Or.inr rfl), nn14]
    · rw [o14]; exact SKs_eq (fun k _ => ⟨fz _ _ (by omega), fz _ _ (by omega)⟩) hS4
    rw [fz 60 13 (by omega), m4]
    refine ⟨hB14.1, hB14.2.1, hB14.2.2.1, fun i hi _ => ?_, hB14.2.2.2.2.1, hB14.2.2.2.2.2.1, fun _ => hT, hB14.2.2.2.2.2.2.2⟩
    by_cases hin : i = (x4.1 80 9).toNatClampNeg
    · rw [hin]
      refine SC_no ?_ ?_ <;> (unfold sop; rw [z81]; decide)
    · by_cases hit : i = t
      · rw [hit]
        refine SC_no ?_ ?_ <;> (unfold sop at p5 ⊢; rw [fz 81 t (by omega)]; omega)
      · refine hB14.2.2.2.1 i hi (fun e => ?_)
        rcases e with e | e
        · exact hit (hE4 t t1 i (by omega) e)
        · exact hin e
  · -- if
    obtain ⟨t, t1, t2, t3, t4, -⟩ := step 3 c (by decide)
    have p17 := t4 (Or.inr rfl)
    have z3 : z9 = 3 := by
      rw [c] at ez1
      have k3 : (3 : Int32).toInt = 3 := rfl
      omega
    have k18 : x4.1 23 (nn x4) = 48 ↔ K (nn x4) = 18 := KA_k hR4.1 hR4.2.1 48 (by decide)
    rw [z3] at hW1 hR4 hV4
    refine kp_sort hq hB4.1.1 ⟨fun cne => ?_, fun c48 => ?_⟩
    · rw [eC_if (fun q => cne (k18.mpr q))] at hW1
      refine kd_endIf hq K u2 Ev.2.1.tail c9 (nn x4) (L ++ [(21, 3, 0)] ++ [(63, 0, 0)]) hS4 hB4 _ t1 (by omega) (by omega) (Or.inl p17) (hE4 t t1) (fun y hBy ny sy oy oy1 y13 fy uy N hSy hN hWy hCE => rv_i (endI y hBy ny sy oy oy1 y13 fy uy N hSy hN 3 z3 (Or.inl rfl) ⟨t, hpo 3 t c (by decide) t1, hCE⟩ t3 (by rw [hW1, hWy])))
    · refine kd_openElse hq c9 (L ++ [(21, 3, 0)]) hx hW1 (by omega) hR4.1 hR4.2.1 (Ev := exV Ev (21, 3, 0)) ⟨hV4, hS4, hLB t3⟩ hB4 _ t1 (by omega) t3 (by omega) (by omega) p17 (hE4 t t1) c48 (fun y N u9 hy hRy hNy ly y7 ny sy oy acc y13 hcn => rv_i (h y ([(21, 3, 0)] ++ N) u9 ?_ (by omega) (by omega) (by omega) (RI_on (by omega) hR4 ly.1 hRy) hNy (Lb_tr l4 ly) (by rw [y7, x47]) (by omega) (CG_21n hc1 (hpo 3 t c (by decide) t1) (Or.inl rfl) hcn)))
      rw [y13, m4, ← List.append_assoc]; exact hy
  · -- else
    obtain ⟨t, t1, t2, t3, -, -, t4⟩ := step 4 c (by decide)
    have p20 := t4 (Or.inl rfl)
    have z4 : z9 = 4 := by
      rw [c] at ez1
      have k4 : (4 : Int32).toInt = 4 := rfl
      omega
    rw [z4, eC_4] at hW1
    exact kd_endIf hq K u2 Ev.2.1.tail c9 (nn x4) (L ++ [(21, 4, 0)] ++ [(63, 0, 0)]) hS4 hB4 _ t1 (by omega) (by omega) (Or.inr p20) (hE4 t t1) (fun y hBy ny sy oy oy1 y13 fy uy N hSy hN hWy hCE => rv_i (endI y hBy ny sy oy oy1 y13 fy uy N hSy hN 4 z4 (Or.inr rfl) ⟨t, hpo 4 t c (by decide) t1, hCE⟩ t3 (by rw [hW1, hWy])))
  · -- the thread's end
    have b2 := hB1.1.1.2.2.1
    by_cases h0 : (om x1).toNat - 1 = 0
    · refine kd_endThread hq hB4 (by omega) (by rw [m4]; exact Int.le_refl _) (fun i hi e => ?_) (by omega) (fun y hy ny fy hte => rv_i ?_)
      rotate_left 1
      · have z0 : z9 = 0 := by
          have := (hop.1 h0).1
          rw [this] at ez1
          have k0 : (0 : Int32).toInt = 0 := rfl
          omega
        have o40 : (om x4).toNat = 0 := by omega
        rw [o40] at hS4
        have bt : Ev.2.1.tail = [] := hS4.2
        have b0 := LBo_end hN9.2.2 bt
        have nny : nn y = nn x4 := by unfold nn; rw [fy 100 4 (by omega)]
        refine hOT y [(21, z9, 0)] hy (RI_st hR4 (fy _ _ (by omega)) (fun j => fy _ _ (by omega)) (fun c k q1 q2 => fy _ _ (by omega))) ?_ bt (Lb_tr l4 (Lb_fm fy (fun c k q => by unfold Tc; omega))) (by rw [hW1, z0, eC_0, nny]) (by omega) (by
          obtain ⟨w9, a9, fz9, z59⟩ := hte
          have h1110 := (hop.1 h0).1
          rw [h0] at h1110
          rw [z0]
          refine CG_21t hc1 (fun c j q q1 => f4 c j (by unfold ccS at q; omega)) (by rw [t_cl]; show (om x1).toNat = 1; omega) h1110 hB1.2.2.2.2.1 a9 fz9 z59 (by rw [t_cl]; exact o40) ?_
          show Ev.1.drop (Ev.1.length - Ev.2.1.headD 0) = []
          rw [b0, Nat.sub_zero, List.drop_length])
        show Ev.1.drop (Ev.1.length - Ev.2.1.headD 0) = []
        rw [b0, Nat.sub_zero, List.drop_length]
      have g := (hop.1 h0).2
      rcases e with e | e | e
      · exact e
      · rw [g, tm1] at e; omega
      · omega
    · exfalso
      obtain ⟨⟨p1, p5⟩, -⟩ := hop.2.1 (Nat.pos_of_ne_zero h0)
      have c1 := c 1 (by decide)
      have c2 := c 2 (by decide)
      have c3 := c 3 (by decide)
      have c4 := c 4 (by decide)
      have hT := hB1.2.2.2.2.2.2.1 (fun e => e) ((om x1).toNat - 1) (by omega)
      clear h hE4 hR5 step c
      ((try simp only [t_lt, t_le, t_eq, t_cl, tm1, vp_in_iff, Int32.toInt_add, Int32.toInt_sub, Int32.toInt_mul, Int32.reduceToInt, Nat.reducePow] at *) <;> (try simp (disch := omega) only [bm] at *) <;> omega)
end KCLG
