/-! the class: if and while -/
section KTF2
variable {G : kG} {q : kP} {d : Nat} {x x0 y z xs : gd} {F : Int32 → gd → Prop} {Fv : gd → Prop} {X : String → gd → Prop} {P : Option gv → gd → Prop} {M : Int} {E : Nat → Prop} {K V : Nat → Int32} {sN : Nat → Nat → Bool} {e : Nat} {Ev : gV} {Ml N : gU} {W : gTs}
theorem kd_test (hq : kV q) (k : Int32) (f c9 z9 v9 : Nat) (L : gU) {u B : List Nat} (hx : W = none → RX x0 X) (eW : W = eX K u c9 (nn x) L) (hf : (f : Int) + om x = 16) (hkz : (k = 1 ∧ K (nn x) = 41 ∧ z9 = 1 ∧ v9 = 61) ∨ (k = 3 ∧ K (nn x) = 24 ∧ z9 = 3 ∧ v9 = 60)) (hA : KA K V sN e x) (hn : nn x ≤ e) (hV : KV' K e x Ev) (hEv : ¬ Ev.2.1 = []) (hS : SKs x (om x).toNat u B) (hB : BB x0 x M E) (hE : ∀ i, E i → i = 1000000) (h1 : 1 ≤ om x) (ho : om x ≤ 16) (ha : 2 * ssm x + om x ≤ nx x) (hk : k = 1 ∨ k = 3) (h5 : TIk x ∨ k = 3) (h : ∀ y, BB x0 y M E0 → nx x < nx y → om y = om x + 1 → 2 * ssm y + om y ≤ nx y → y.1 60 13 = x.1 60 13 → Lb x y → KV' K e y Ev → SKs y (om y).toNat (z9 :: u) (Ev.1.length :: B) → y.1 100 7 = x.1 100 7 → ∀ N, RIw K V sN e Ev x y (N ++ [(20, z9, 0)]) → still N → W = eS K (z9 :: u) c9 (nn y) (L ++ (N ++ [(20, z9, 0)])) → CG sN V K Ev x y (N ++ [(20, z9, 0)]) → Fv y) : KE G q (d + 10) zk_X7_testStatement 0 [(0, vr 100), (1, vi k)] [] x (rv Fv) X := by
  have bx0 := hB.1.1.2.1
  have cx := nn_is bx0
  have o0 := (BB_om hB).1.1
  have ul := SKs_len hS
  have hf1 : 17 - u.length = f + 1 := by omega
  have hk0 : ¬ K (nn x) = 0 ∧ ¬ K (nn x) = 3 := by rcases hkz with ⟨-, e, -⟩ | ⟨-, e, -⟩ <;> rw [e] <;> decide
  have z5 : ¬ z9 = 5 := by rcases hkz with ⟨-, -, e, -⟩ | ⟨-, -, e, -⟩ <;> omega
  have hkz9 : k.toInt = (z9 : Nat) := by rcases hkz with ⟨e1, -, e2, -⟩ | ⟨e1, -, e2, -⟩ <;> rw [e1, e2] <;> rfl
  have hv9 : dull (v9, nn x, 0) ∧ still [(v9, nn x, 0)] := by rcases hkz with ⟨-, -, -, e⟩ | ⟨-, -, -, e⟩ <;> rw [e] <;> exact ⟨dull_k (by decide), stl_k (by decide)⟩
  have d20 : dull (20, z9, 0) := dull_k (by decide)
  refine kg_X7_testStatement_0 hq _ ⟨RB_at hB.1.1, kd_pass (xs := x) (Ml := []) (Ev := Ev) hq (fun c7 => hx ?_) hB ⟨hA, hn, UR_0 rfl⟩ hk0.1 hk0.2 (fun c7 y hBy ny gy eny hRy u0 hcy => ?_)⟩
  · rw [eW]
    refine eX_0 ?_
    rw [hf1, pS, if_pos c7]
  have hW1 : W = (pX K false f (nn x + 1) L).bind (fun q => (pBk (pS K f) K z9 c9 q.1 (q.2 ++ [(v9, nn x, 0)])).bind (fun q => eC K z9 u q.1 q.2.1 q.2.2)) := by
    rw [eW]
    cases hp : pX K false f (nn x + 1) L with
    | none =>
      refine eX_0 ?_
      rw [hf1, pS, if_neg (by omega)]
      rcases hkz with ⟨-, e, -⟩ | ⟨-, e, -⟩
      · rw [if_neg (by rw [e]; decide), if_pos e, hp]; rfl
      · rw [if_pos e, hp]; rfl
    | some q9 =>
      rcases hkz with ⟨-, e, e2, e3⟩ | ⟨-, e, e2, e3⟩
      · rw [e2, e3, eX_while hf1 c7 e hp]; rfl
      · rw [e2, e3, eX_if hf1 c7 e hp]; rfl
  have by0 := hBy.1.1.2.1
  have e1 := GS_om gy
  have e2 := GS_sm gy
  obtain ⟨p1, p2⟩ := BB_om hBy
  have eF : 17 - (y.1 100 13 + 1).toNatClampNeg = f := by
    have u := t_cl (y.1 100 13 + 1)
    rw [p2 (by omega)] at u
    omega
  have hVy := KV_GS gy hV
  refine kd_sum hq _ L (fun q9 => hx (by rw [eF, eny] at q9; rw [hW1, q9]; rfl)) hBy hRy.1 hRy.2.1 hVy (by rw [p2 (by omega)]; omega) (by rw [p2 (by omega)]; omega) (fun r z hBz nz gz N2 hRz hN2 hpX hcp hrr => ?_)
  rw [eF, eny] at hpX
  obtain ⟨N20, -, hPz⟩ := PD_xp (PD_0 (x := x) (t := none) (N := []) hcy (Or.inl rfl)) hpX hcp gz hrr
  rw [hpX] at hW1
  have hW2 : W = (pBk (pS K f) K z9 c9 (nn z) (L ++ N2 ++ [(v9, nn x, 0)])).bind (fun q => eC K z9 u q.1 q.2.1 q.2.2) := hW1
  have hRxz : RIw K V sN e Ev x z (N2 ++ [(v9, nn x, 0)]) := by
    have r1 := RI_app by0 still_nil hRy gz.1 hRz
    exact ⟨r1.1, r1.2.1, UR_dull r1.2.2 hv9.1⟩
  have hVz := KV_GS gz hVy
  have e3 := GS_om gz
  have e4 := GS_sm gz
  obtain ⟨a1, a2, a3, a4, a5⟩ := BB_400 hBz (by omega)
  refine kf_add hq _ _ _ a1 a2 (fun w hA vin hF9 => ⟨vin, fun v ev => ?_⟩)
  obtain ⟨f1, f2, f3, f4, f5⟩ := hA
  have fz : fm (fun c k => (81 ≤ c ∧ c ≤ 89 ∧ k = (z.1 80 9).toNatClampNeg) ∨ (c = 80 ∧ k = 9)) z v := by rw [ev]; exact fm_si f1 (Or.inl ⟨by omega, by omega, rfl⟩)
  have es : ssm v = ssm z + 1 := by
    have : v.1 80 9 = w.1 80 9 := by rw [ev]; (simp only [si_get, sfl_get, Nat.reduceEqDiff, eq_self, and_false, false_and, and_true, true_and, if_true, if_false, reduceIte, reduceCtorEq])
    unfold ssm at *; rw [this]; exact f2
  have z81 : v.1 81 (z.1 80 9).toNatClampNeg = 17 := by rw [ev]; (simp only [si_get, sfl_get, Nat.reduceEqDiff, eq_self, and_false, false_and, and_true, true_and, if_true, if_false, reduceIte, reduceCtorEq]); exact f3
  have z83 : v.1 83 (z.1 80 9).toNatClampNeg = z.1 100 9 := by rw [ev]; (simp only [si_get, sfl_get, Nat.reduceEqDiff, eq_self, and_false, false_and, and_true, true_and, if_true, if_false, reduceIte, reduceCtorEq]); exact f4
  have z84 : v.1 84 (z.1 80 9).toNatClampNeg = -1 := by rw [ev]; (simp only [si_get, sfl_get, Nat.reduceEqDiff, eq_self, and_false, false_and, and_true, true_and, if_true, if_false, reduceIte, reduceCtorEq]); exact f5
  have k17 : (17 : Int32).toInt = 17 := rfl
  have hstK : stK z v 17 (z.1 100 9) (-1) (-1) (-1) r (-1) := ⟨fun c k q q1 q2 => fz c k (fun w => w.elim q1 q2), es, z81, z83, z84, by rw [ev]; (simp only [si_get, sfl_get, Nat.reduceEqDiff, eq_self, and_false, false_and, and_true, true_and, if_true, if_false, reduceIte, reduceCtorEq]); exact hF9.1, by rw [ev]; (simp only [si_get, sfl_get, Nat.reduceEqDiff, eq_self, and_false, false_and, and_true, true_and, if_true, if_false, reduceIte, reduceCtorEq]); exact hF9.2.1, by rw [ev]; (simp only [si_get, sfl_get, Nat.reduceEqDiff, eq_self, and_false, false_and, and_true, true_and, if_true, if_false, reduceIte, reduceCtorEq]), by rw [ev]; (simp only [si_get, sfl_get, Nat.reduceEqDiff, eq_self, and_false, false_and, and_true, true_and, if_true, if_false, reduceIte, reduceCtorEq]); exact hF9.2.2.2⟩
  have hv60 : v9 = 60 ∨ v9 = 61 := by rcases hkz with ⟨-, -, -, e⟩ | ⟨-, -, -, e⟩ <;> omega
  have hk00 : ¬ k = 0 := by rcases hk with e | e <;> rw [e] <;> decide
  have hSA : SA v M (z.1 80 9).toNatClampNeg := by
    unfold SA sop stg
    rw [z81, z83, k17]
    exact ⟨by omega, ⟨a4, a5⟩, fun c => by omega, fun c => by omega⟩
  have hBv := BB_add hBz (n := (z.1 80 9).toNatClampNeg) (by omega) fz es hSA
  have n4 : nx v = nx z := by unfold nx; rw [fz 100 4 (by omega)]
  have n13 : om v = om z := by unfold om; rw [fz 100 13 (by omega)]
  have hk' : (1 ≤ k.toInt ∧ k.toInt ≤ 5) ∧ ¬ k = 5 ∧ ¬ k = 2 ∧ ¬ k = 4 := by rcases hk with rfl | rfl <;> decide
  have nvz : nn v = nn z := by unfold nn; rw [fz 100 4 (by omega)]
  have hRv : RIw K V sN e Ev x v (N2 ++ [(v9, nn x, 0)]) := RI_st hRxz (fz _ _ (by omega)) (fun j => fz _ _ (by omega)) (fun c k q1 q2 => fz _ _ (by omega))
  have hVv : KV' K e v Ev := KV_fm hVz (fz _ _ (by omega)) (fun k => fz _ _ (by omega))
  have hSv : SKs v (om v).toNat u B := by
    rw [n13, e3, e1]
    exact SKs_eq (fun k _ => ⟨by rw [fz 111 k (by omega), GS_at gz 111 k (by unfold sSum; omega), GS_at gy 111 k (by unfold sSum; omega)], by rw [fz 113 k (by omega), GS_at gz 113 k (by unfold sSum; omega), GS_at gy 113 k (by unfold sSum; omega)]⟩) hS
  have v9c : (v.1 100 9).toNatClampNeg = Ev.1.length := by rw [t_cl, hVv.1]; rfl
  refine kd_openBlock hq k _ (fun no => hx (by rw [hW2, pBk, if_neg (by rw [← nvz]; exact no)]; rfl)) hRv hVv hkz9 hSv hBv (by omega) (by omega) hk'.2.1 (h5.imp (fun e => TI_eq (TI_eq (TI_eq e (GS_at gy _ _ (by unfold sSum; omega)) (fun k => GS_at gy _ _ (by unfold sSum; omega))) (GS_at gz _ _ (by unfold sSum; omega)) (fun k => GS_at gz _ _ (by unfold sSum; omega))) (fz _ _ (by omega)) (fun k => fz _ _ (by omega))) Or.inl) ⟨fun c => by omega, fun _ => ⟨hk'.1, (z.1 80 9).toNatClampNeg, a3.symm, by omega, fun _ => by unfold sop; rw [z81]; rfl, fun c => absurd c hk'.2.2.1, fun c => ?_⟩⟩ (fun i hi he => ?_) (fun w9 hBu nu su ou u13 kk c79 enu lau hRu hVu hSu u7 hpu => rv_i (h w9 hBu (by omega) (by omega) (by omega) (by rw [u13, fz 60 13 (by omega), GS_at gz 60 13 (by unfold sSum; omega), GS_at gy 60 13 (by unfold sSum; omega)]) (Lb_tr (Lb_tr (Lb_GS (GS_tr gy gz)) (Lb_fm fz (fun c k q => by unfold Tc; omega))) lau) hVu (by rw [v9c] at hSu; exact hSu) (by rw [u7, fz 100 7 (by omega), GS_at gz 100 7 (by unfold sSum; omega), GS_at gy 100 7 (by unfold sSum; omega)]) (N2 ++ [(v9, nn x, 0)]) ⟨hRu.1, hRu.2.1, UR_dull hRu.2.2 d20⟩ (still_app hN2 hv9.2) (by rw [nvz] at kk c79 enu; rw [hW2, eS_block z5 (by omega) kk c79, enu, List.append_assoc L, List.append_assoc L]) (hpu.elim (fun w0 q0 => CG_test hPz hEv hVz hstK q0.1 q0.2 hk00 hv60))))
  · rcases c with c | c
    · exact absurd c hk'.2.2.2
    · exact absurd c hk'.2.1
  · rcases he with he | he
    · exact Or.inl (hE i he)
    · refine Or.inr ⟨by rw [he]; exact a3, ?_⟩
      rw [he]; unfold stg; rw [z84]; rfl
end KTF2
