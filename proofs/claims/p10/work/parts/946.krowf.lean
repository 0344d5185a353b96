/-! the class: a row's cell is set -/
section KRW
variable {G : kG} {q : kP} {d : Nat} {x x0 y z xs : gd} {F : Int32 → gd → Prop} {Fv : gd → Prop} {X : String → gd → Prop} {P : Option gv → gd → Prop} {M : Int} {E : Nat → Prop} {K V : Nat → Int32} {sN : Nat → Nat → Bool} {e : Nat} {Ev : gV} {Ml N : gU} {W : gTs}
theorem kd_rowStatement (hq : kV q) (f c9 : Nat) (L : gU) (hx : W = none → RX x0 X) (hx7 : 700 ≤ nn x → RX x0 X) (eW : W = pS1 K f c9 (nn x) L) (hk1 : K (nn x) = 1) (hk65 : nn x < 700 → K (nn x + 1) = 65) (hf : (f : Int) + om x = 16) (hA : KA K V sN e x) (hn : nn x ≤ e) (hE : KV' K e x Ev) (hEv : ¬ Ev.2.1 = []) (hB : BB x0 x M E0) (ha : 2 * ssm x ≤ nx x + 1) (l : Int32) (h : ∀ y, BB x0 y M E0 → nx x + 2 ≤ nx y → om y = om x → ssm y = ssm x + 1 → y.1 60 13 = x.1 60 13 → KV' K e y Ev → La x y → ∀ N, RIw K V sN e Ev x y N → still N → W = pup c9 (78, nn x, 0) (pt K 67 (nn y, L ++ N)) → y.1 100 9 = x.1 100 9 → y.1 100 7 = x.1 100 7 → OPe x y → CG sN V K Ev x y (N ++ [(78, nn x, 0)]) → Fv y) : KE G q (d + 10) zk_X7_rowStatement 0 [(0, vr 100), (1, vi l)] [] x (rv Fv) X := by
  have bx0 := hB.1.1.2.1
  have cx := nn_is bx0
  have ox := (BB_om hB).1
  refine kg_X7_rowStatement_0 hq _ (kd_needFor hq 2 7 1 (by decide) (by decide) (by decide) (by decide) (fun no => hx7 (by
    by_cases c7 : nn x < 700
    · exact absurd ⟨hk1, c7⟩ no
    · omega)) hB hA hn (fun kk c7 y hBy ny gy en hAy hny eu ht hcy => ?_))
  have h65 := hk65 c7
  have hW1 : W = if nn x + 1 < 700 then pup c9 (78, nn x, 0) (((((pX K false f (nn x + 2) (L ++ [(7, nn x, 0)])).bind (pt K 66)).bind (pt K 50)).bind (pXq K f)).bind (pt K 67)) else none := by
    rw [eW]; unfold pS1
    rw [if_neg (by rw [hk1]; decide), if_pos hk1, if_pos h65]
  have hRy : RIw K V sN e Ev x y ([] ++ [(7, nn x, 0)]) := RI_use (⟨hA, hn, UR_0 rfl⟩ : RIw K V sN e Ev x x []) bx0 gy.1 hAy hny en (HAs_one.mpr (HA_7.mpr ⟨by omega, Or.inl eu⟩)) (fun _ => HBs_one.mpr (by rw [eu]; exact HB_7))
  have hRy : RIw K V sN e Ev x y [(7, nn x, 0)] := hRy
  have by0 := hBy.1.1.2.1
  refine kd_need hq 25 65 (by decide) (by decide) (by decide) (fun no => hx ?_) hBy hRy (fun kk3 c73 y3 hB3 n3 g3 en3 hR3 _ hc3 => ?_)
  · rw [hW1, if_neg (fun z => no (by rw [en]; exact ⟨h65, z⟩))]
  rw [if_pos (by omega)] at hW1
  have en3 : nn y3 = nn x + 2 := by omega
  have o3 : om y3 = om x := by rw [GS_om g3, GS_om gy]
  obtain ⟨p1, p2⟩ := BB_om hB3
  have eF3 : 17 - (y3.1 100 13 + 1).toNatClampNeg = f := by
    have u := t_cl (y3.1 100 13 + 1)
    rw [p2 (by omega)] at u
    omega
  have hE3 := KV_GS g3 (KV_GS gy hE)
  have b30 := hB3.1.1.2.1
  refine kd_sum hq _ (L ++ [(7, nn x, 0)]) (fun q9 => hx (by rw [eF3, en3] at q9; rw [hW1, q9]; rfl)) hB3 hR3.1 hR3.2.1 hE3 (by rw [p2 (by omega)]; omega) (by rw [p2 (by omega)]; omega) (fun r5 y4 hB4 n4 g4 N2 hR4 hN2 hpX hcp5 hr5 => ?_)
  rw [eF3, en3] at hpX
  obtain ⟨N20, -, hP4⟩ := PD_xp (PD_7 (i := nn x) (PD_fr (PD_fr (PD_0 (x := x) (y := x) (t := none) (N := []) (fun c k _ => rfl) (Or.inl rfl)) hcy) hc3) hEv) hpX hcp5 g4 hr5
  rw [hpX] at hW1
  have hW2 : W = pup c9 (78, nn x, 0) ((((pt K 66 (nn y4, L ++ [(7, nn x, 0)] ++ N2)).bind (pt K 50)).bind (pXq K f)).bind (pt K 67)) := hW1
  have hs7 : still [(7, nn x, 0)] := stl_k (by decide)
  have hRx4 := RI_app b30 hs7 hR3 g4.1 hR4
  refine kd_need hq 26 66 (by decide) (by decide) (by decide) (fun no => hx (by rw [hW2, pt_no no]; rfl)) hB4 hRx4 (fun kk6 c76 y6 hB6 n6 g6 en6 hR6 _ hc6 => ?_)
  rw [pt_yes kk6 c76] at hW2
  have hW3 : W = pup c9 (78, nn x, 0) (((pt K 50 (nn y6, L ++ [(7, nn x, 0)] ++ N2)).bind (pXq K f)).bind (pt K 67)) := by rw [hW2, en6]; rfl
  refine kd_need hq 10 50 (by decide) (by decide) (by decide) (fun no => hx (by rw [hW3, pt_no no]; rfl)) hB6 hR6 (fun kk7 c77 y7 hB7 n7 g7 en7 hR7 _ hc7 => ?_)
  rw [pt_yes kk7 c77] at hW3
  have hW4 : W = pup c9 (78, nn x, 0) ((pX K false f (nn y7) (L ++ [(7, nn x, 0)] ++ N2)).bind (pt K 67)) := by rw [hW3, en7]; rfl
  have o7 : om y7 = om x := by rw [GS_om g7, GS_om g6, GS_om g4, o3]
  obtain ⟨p3, p4⟩ := BB_om hB7
  have eF7 : 17 - (y7.1 100 13 + 1).toNatClampNeg = f := by
    have u := t_cl (y7.1 100 13 + 1)
    rw [p4 (by omega)] at u
    omega
  have hE7 := KV_GS g7 (KV_GS g6 (KV_GS g4 hE3))
  have b70 := hB7.1.1.2.1
  refine kd_sum hq _ (L ++ [(7, nn x, 0)] ++ N2) (fun q9 => hx (by rw [eF7] at q9; rw [hW4, q9]; rfl)) hB7 hR7.1 hR7.2.1 hE7 (by rw [p4 (by omega)]; omega) (by rw [p4 (by omega)]; omega) (fun r9 y8 hB8 n8 g8 N3 hR8 hN3 hpX8 hcp8 hr9 => ?_)
  rw [eF7] at hpX8
  obtain ⟨N30, -, hP8⟩ := PD_xp (PD_fr (PD_fr hP4 hc6) hc7) hpX8 hcp8 g8 hr9
  rw [hpX8] at hW4
  have hRx8 := RI_app b70 (still_app hs7 hN2) hR7 g8.1 hR8
  have hE8 := KV_GS g8 hE7
  have hW5 : W = pup c9 (78, nn x, 0) (pt K 67 (nn y8, L ++ ([(7, nn x, 0)] ++ N2 ++ N3))) := by
    rw [hW4, ← List.append_assoc, ← List.append_assoc]; rfl
  have gg : GS y y8 := GS_tr (GS_tr (GS_tr (GS_tr g3 g4) g6) g7) g8
  have s8 : ssm y8 = ssm x := by rw [GS_sm gg, GS_sm gy]
  obtain ⟨a1, a2, a3, a4, a5⟩ := BB_400 hB8 (by omega)
  refine kf_add hq _ _ _ a1 a2 (fun w hA vin hF9 => ⟨vin, fun z1 e1 => ⟨vin, fun z2 e2 => ⟨vin, fun z ez => rv_i ?_⟩⟩⟩)
  obtain ⟨f1, f2, f3, f4, f5⟩ := hA
  have fz : fm (fun c k => (81 ≤ c ∧ c ≤ 89 ∧ k = (y8.1 80 9).toNatClampNeg) ∨ (c = 80 ∧ k = 9)) y8 z := by
    rw [ez, e2, e1]
    exact fm_si (fm_si (fm_si f1 (Or.inl ⟨by omega, by omega, rfl⟩)) (Or.inl ⟨by omega, by omega, rfl⟩)) (Or.inl ⟨by omega, by omega, rfl⟩)
  have es : ssm z = ssm y8 + 1 := by
    have : z.1 80 9 = w.1 80 9 := by rw [ez, e2, e1]; (simp only [si_get, sfl_get, Nat.reduceEqDiff, eq_self, and_false, false_and, and_true, true_and, if_true, if_false, reduceIte, reduceCtorEq])
    unfold ssm at *; rw [this]; exact f2
  have z81 : z.1 81 (y8.1 80 9).toNatClampNeg = 1 := by rw [ez, e2, e1]; (simp only [si_get, sfl_get, Nat.reduceEqDiff, eq_self, and_false, false_and, and_true, true_and, if_true, if_false, reduceIte, reduceCtorEq]); exact f3
  have z83 : z.1 83 (y8.1 80 9).toNatClampNeg = y8.1 100 9 := by rw [ez, e2, e1]; (simp only [si_get, sfl_get, Nat.reduceEqDiff, eq_self, and_false, false_and, and_true, true_and, if_true, if_false, reduceIte, reduceCtorEq]); exact f4
  have z85 : z.1 85 (y8.1 80 9).toNatClampNeg = x.1 100 4 := by rw [ez, e2, e1]; (simp only [si_get, sfl_get, Nat.reduceEqDiff, eq_self, and_false, false_and, and_true, true_and, if_true, if_false, reduceIte, reduceCtorEq])
  have e9 : nx z = nx y8 := by unfold nx; rw [fz 100 4 (by omega)]
  have e13 : om z = om y8 := by unfold om; rw [fz 100 13 (by omega)]
  have eN := BB_N hB
  have k1 : (1 : Int32).toInt = 1 := rfl
  have hSA : SA z M (y8.1 80 9).toNatClampNeg := by
    unfold SA sop stg
    rw [z81, z83, z85, k1]
    refine ⟨by omega, ⟨a4, a5⟩, fun _ => ⟨(x.1 100 4).toNatClampNeg, eN.symm, by omega, fun _ => Or.inr (Or.inl ?_), fun c1 => by omega, fun c1 => by omega⟩, fun c => by omega⟩
    rw [fz 42 _ (by omega), gg.1.2.2 _ (by omega)]; exact eu
  have hBz := BB_add hB8 (n := (y8.1 80 9).toNatClampNeg) (by omega) fz es hSA
  refine h z (BB_E hBz (fun e => e.elim id (fun e => by omega)) (fun i hi he hne => ?_)) (by omega) (by rw [e13, GS_om g8, o7]) (by omega) (by rw [fz 60 13 (by omega), GS_at gg 60 13 (by unfold sSum; omega), GS_at gy 60 13 (by unfold sSum; omega)]) (KV_fm hE8 (fz _ _ (by omega)) (fun k => fz _ _ (by omega))) (La_tr (GS_tr gy gg).1 ⟨fun c k q1 q2 => fz _ _ (by omega), by omega, fun j _ => fz _ _ (by omega)⟩) ([(7, nn x, 0)] ++ N2 ++ N3) (RI_st hRx8 (fz _ _ (by omega)) (fun j => fz _ _ (by omega)) (fun c k q1 q2 => fz _ _ (by omega))) (still_app (still_app hs7 hN2) hN3) (by rw [show nn z = nn y8 by unfold nn; rw [fz 100 4 (by omega)]]; exact hW5) (by rw [fz _ _ (by omega), GS_at (GS_tr gy gg) _ _ (by unfold sSum; omega)]) (by rw [fz _ _ (by omega), GS_at (GS_tr gy gg) _ _ (by unfold sSum; omega)]) (OPe_tr (OPe_GS (GS_tr gy gg)) (OPe_st fz)) (PD_78 (i := nn x) hP8 hEv hE8 cx.symm ⟨fun c k q q1 q2 => fz c k (fun w => w.elim q1 q2), es, z81, z83, rfl, z85, by rw [ez, e2, e1]; (simp only [si_get, sfl_get, Nat.reduceEqDiff, eq_self, and_false, false_and, and_true, true_and, if_true, if_false, reduceIte, reduceCtorEq]), by rw [ez, e2, e1]; (simp only [si_get, sfl_get, Nat.reduceEqDiff, eq_self, and_false, false_and, and_true, true_and, if_true, if_false, reduceIte, reduceCtorEq]), by rw [ez, e2, e1]; (simp only [si_get, sfl_get, Nat.reduceEqDiff, eq_self, and_false, false_and, and_true, true_and, if_true, if_false, reduceIte, reduceCtorEq]); exact hF9.2.2.2⟩)
  rcases he with he | he
  · exact absurd he hne
  · rw [he]
    refine SC_no ?_ ?_ <;> (unfold sop; rw [z81]; decide)
end KRW
