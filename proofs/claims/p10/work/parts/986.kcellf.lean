/-! the class: cells are told -/
section KDH
variable {G : kG} {q : kP} {d : Nat} {x x0 y z xs : gd} {F : Int32 → gd → Prop} {Fv : gd → Prop} {X : String → gd → Prop} {P : Option gv → gd → Prop} {K V : Nat → Int32} {sN : Nat → Nat → Bool} {e : Nat} {Ev : gV} {Ml N : gU} {T : gTd} {n : gN} {W : gD}
theorem HA_31 {U : Nat → Int32} {n a b : Nat} : HAw sN U n Ev (31, a, b) ↔ a < n ∧ U a = 1 := by unfold HAw; simp
theorem HA_32 {U : Nat → Int32} {n a b : Nat} : HAw sN U n Ev (32, a, b) ↔ (a < n ∧ U a = 1) ∧ b < n ∧ U b = 11 := by unfold HAw; simp
theorem HA_33 {U : Nat → Int32} {n a b : Nat} : HAw sN U n Ev (33, a, b) ↔ a < n ∧ U a = 1 := by unfold HAw; simp
theorem HA_34 {U : Nat → Int32} {n a b : Nat} : HAw sN U n Ev (34, a, b) ↔ a < n ∧ U a = 1 := by unfold HAw; simp
theorem HB_t {k a b : Nat} (h : k = 31 ∨ k = 32 ∨ k = 33 ∨ k = 34) : HB sN Ev (k, a, b) a 1 := Or.inr (Or.inr (Or.inr (Or.inr (Or.inr (Or.inr (Or.inr (Or.inr (Or.inr (Or.inr (Or.inr (Or.inr (Or.inr (Or.inl ⟨h, rfl, rfl⟩)))))))))))))
theorem HB_32w {a b : Nat} : HB sN Ev (32, a, b) b 11 := Or.inr (Or.inr (Or.inr (Or.inr (Or.inr (Or.inr (Or.inr (Or.inr (Or.inr (Or.inr (Or.inr (Or.inr (Or.inr (Or.inr ⟨rfl, rfl, rfl⟩)))))))))))))
theorem te1_31 {a b : Nat} : te1 K V (31, a, b) = some (a, 0, 0, 0) := rfl
theorem te1_32 {a b : Nat} : te1 K V (32, a, b) = some (a, 0, prz K V b, b) := rfl
theorem te1_33 {a b : Nat} : te1 K V (33, a, b) = some (a, 1, 0, 0) := rfl
theorem te1_34 {a b : Nat} : te1 K V (34, a, b) = some (a, 2, 0, 0) := rfl
theorem te1_ns {N : gU} (h : ∀ v ∈ N, ¬ (31 ≤ v.1 ∧ v.1 ≤ 36)) : N.filterMap (te1 K V) = [] := List.filterMap_eq_nil_iff.mpr (fun v hv => te1_no (h v hv))
theorem pCl_2 {n i t : Nat} {L : gU} (h : K (t - 1) = 17 ∧ t - 1 < 700) : pCl K V n i t L = if (K t = 1 ∧ t < 700) ∧ n < 24 then (if K (t + 1) = 65 then (if t + 1 < 700 ∧ n + prz K V (t + 2) ≤ 24 ∧ (K (t + 2) = 2 ∧ t + 2 < 700) ∧ K (t + 3) = 66 ∧ t + 3 < 700 then ((pCv K (t + 4, L ++ [(32, t, t + 2)])).bind (pt K 67)).bind (fun q => some (n + prz K V (t + 2), q.1, q.2 ++ [(83, i, t)])) else none) else ((pCv K (t + 1, L ++ [(31, t, 0)])).bind (pt K 67)).bind (fun q => some (n + 1, q.1, q.2 ++ [(83, i, t)]))) else none := by
  unfold pCl
  by_cases c : (K t = 1 ∧ t < 700) ∧ n < 24
  · rw [if_pos ⟨h, c⟩, if_pos c]
  · rw [if_neg (fun z => c z.2), if_neg c]
/-- one cell, or a row of them, is told -/
theorem TBk_cell {u v : gd} {t : Int32} {b c9 : Nat} (h : TBk x T) (fu : fm (fun c k => (c = 40 ∧ k = 6) ∨ (44 ≤ c ∧ c ≤ 46 ∧ k = (x.1 40 6).toNatClampNeg)) x u) (cu : (u.1 40 6).toInt = (x.1 40 6).toInt + 1) (e4 : u.1 44 (x.1 40 6).toNatClampNeg = t) (e6 : (u.1 46 (x.1 40 6).toNatClampNeg).toInt = (b : Nat)) (fv : fm (fun c k => (c = 60 ∧ k = 6) ∨ c = 68 ∨ c = 69) u v) (e5 : u.1 45 (x.1 40 6).toNatClampNeg = x.1 60 6) (ev : (v.1 60 6).toInt = (x.1 60 6).toInt + (max b 1 : Nat)) : TBk v (T ++ [(t.toNatClampNeg, 0, b, c9)]) := by
  obtain ⟨⟨a1, ⟨a2, a4⟩, a3⟩, ⟨b1, b2⟩, c1, c2⟩ := h
  have m1 : 1 ≤ max b 1 := Nat.le_max_right _ _
  have eN : (x.1 40 6).toNatClampNeg = (tdS T 0).length := by rw [t_cl, a1]; rfl
  unfold TBk
  rw [tdS_y, tdS_n (show ¬ 0 = 1 by decide), tdS_n (show ¬ 0 = 2 by decide), fv 40 6 (by omega), fv 40 8 (by omega), fv 40 10 (by omega), fu 40 8 (by omega), fu 40 10 (by omega)]
  refine ⟨⟨by rw [List.length_append, List.length_singleton]; omega, ⟨by omega, ?_⟩, fun i q hq => ?_⟩, ⟨b1, fun i q hq => by rw [fv 48 i (by omega), fu 48 i (by omega)]; exact b2 i q hq⟩, c1, fun i q hq => by rw [fv 50 i (by omega), fu 50 i (by omega)]; exact c2 i q hq⟩
  · rw [nbT_app, ev, a4]
    show _ = ((nbT 0 (tdS T 0) + (max b 1 + 0) : Nat) : Int)
    omega
  rw [fv 44 i (by omega), fv 46 i (by omega), fv 45 i (by omega)]
  rcases ap1 hq with ⟨hi, hq⟩ | ⟨hi, hq⟩
  · rw [fu 44 i (by omega), fu 46 i (by omega), fu 45 i (by omega), List.take_append_of_le_length (Nat.le_of_lt hi)]
    exact a3 i q hq
  · rw [hi, List.take_left, ← eN, e4, hq, e5]
    exact ⟨rfl, e6, a4⟩
theorem kh_cellDefinition (hq : kV q) (L : gU) (hx : W = none → RX x0 X) (eW : W = pD K V n (nn x) L) (hk : K (nn x) = 34 ∨ K (nn x) = 17) (hA : KA K V sN e x) (hn0 : nn x ≤ e) (hTb : TBk x T) (hCn : CNk x n) (hI : OT x0 x) (h : ∀ y N n', OT x0 y → nx x < nx y → RIw K V sN e Ev x y N → still N → W = some (n', nn y, L ++ N) → TBk y (T ++ N.filterMap (te1 K V)) → CNk y n' → La x y → CGo sN V K Ev x y N → Fv y) : KE G q (d + 9) zk_X7_cellDefinition 0 [(0, vr 100)] [] x (rv Fv) X := by
  have k24 : (24 : Int32).toInt = 24 := rfl
  have k0 : (0 : Int32).toInt = 0 := rfl
  have k1 : (1 : Int32).toInt = 1 := rfl
  have hB := OT_b hI
  have acc := hI.2.2.2.2.2.2
  have bx0 := hB.1.1.2.1
  have hR0 : RIw K V sN e Ev x x [] := ⟨hA, hn0, UR_0 rfl⟩
  obtain ⟨Q, eQ⟩ : ∃ Q : Nat × Nat × gU → gD, Q = fun q => some ((q.1, n.2), q.2) := ⟨_, rfl⟩
  have p109 : ∀ (su row many t : Int32) (y : gd) (N1 : gU) (rn wn : Nat), (su = 0 ∨ su = 1) → (su = 1 ↔ K (nn x) = 34) → (∀ c k, ccS c k → y.1 c k = x.1 c k) → (many.toInt = row.toInt ∨ many.toInt = 1) → ((∀ d, ces K V N1 d = (many.toInt.toNat, d.2)) ∧ (∀ c, cds sN K N1 c = c) ∧ tPs sN V K N1 Ev = []) → OTb x0 y → GS x y → nx x < nx y → tk y t → 0 ≤ row.toInt → row.toInt ≤ 8 → 1 ≤ many.toInt → row.toInt ≤ many.toInt → (y.1 60 6).toInt + many.toInt ≤ 24 → RIw K V sN e Ev x y N1 → still N1 → N1.filterMap (te1 K V) = [(t.toNatClampNeg, 0, rn, wn)] → row.toInt = (rn : Nat) → W = (((pCv K (nn y, L ++ N1)).bind (pt K 67)).bind (fun q => some (n.1 + many.toInt.toNat, q.1, q.2 ++ [(83, nn x, t.toNatClampNeg)]))).bind Q → KE G q (d + 9) zk_X7_cellDefinition 109 [(0, vr 100), (1, vi su), (2, vi row), (3, vi many), (4, vi t)] [] y (rv Fv) X := by
    intro su row many t y N1 rn wn hs01 hs34 hcy hmr hN1c hBy gy ny ht r0 r8 m1 rm hc hRy hN1 hte hrn hWy
    obtain ⟨W1, eW1⟩ : ∃ W1, W1 = pCv K (nn y, L ++ N1) := ⟨_, rfl⟩
    rw [← eW1] at hWy
    refine kg_X7_cellDefinition_109 hq _ _ _ _ (kh_startValue (Ev := Ev) hq (L ++ N1) (fun no => hx (by rw [hWy, no]; rfl)) eW1 hBy hRy.1 hRy.2.1 (fun v z hBz nz gz N2 hRz hN2 hnt hWz hst hcz => ?_))
    have by0 := hBy.1.1.2.1
    have hRxz := RI_app by0 hN1 hRy gz.1 hRz
    rw [hWz] at hWy
    refine kh_need hq 27 67 (by decide) (by decide) (by decide) (fun no => hx (by rw [hWy]; show ((pt K 67 (nn z, L ++ N1 ++ N2)).bind _).bind Q = none; rw [pt_no no]; rfl)) hBz hRxz (fun kk c7 w hBw nw gw enw hRw _ hcw => ?_)
    have hWw : W = some ((n.1 + many.toInt.toNat, n.2), nn w, L ++ (N1 ++ N2 ++ [(83, nn x, t.toNatClampNeg)])) := by
      rw [hWy]
      show ((pt K 67 (nn z, L ++ N1 ++ N2)).bind _).bind Q = _
      rw [pt_yes kk c7, enw, eQ]
      show some ((n.1 + many.toInt.toNat, n.2), nn z + 1, L ++ N1 ++ N2 ++ [(83, nn x, t.toNatClampNeg)]) = _
      rw [List.append_assoc L, List.append_assoc L]
    have gg := GS_tr gz gw
    have g3 := GS_tr gy gg
    have hNw := hBw.2.2.1.2.1
    have hCw := hBw.2.2.1.2.2.1
    have w6 : w.1 60 6 = y.1 60 6 := GS_at gg _ _ (by unfold sSum; omega)
    have hTw : TBk w T := TBk_e hTb (TBe_GS g3)
    have hCnw : CNk w n := CNk_e hCn (TBe_GS g3)
    have c46 : (w.1 40 6).toInt < 24 := by
      have := hTw.1.2.1.1
      rw [w6] at this
      omega
    refine kf_tellCell hq _ _ _ ⟨hNw.1.1, c46⟩ (fun u fu cu u44 u45 u46 => kf_addCells hq _ _ _ hs01 ?_ (by omega) ?_ (fun v9 fv ev hl9 => rv_i (h v9 (N1 ++ N2 ++ [(83, nn x, t.toNatClampNeg)]) (n.1 + many.toInt.toNat, n.2) (OT_of (OTb_nm hBw ?_ ?_ ?_ ?_) ?_) ?_ ?_ ?_ ?_ ?_ ?_ ?_ ?_)))
    · rw [fu 60 6 (by omega), w6]; have := hCw.1.1; rw [w6] at this; exact this
    · rw [fu 60 6 (by omega), w6]; exact hc
    · exact fm_tr (fm_w fu (fun c k q => by omega)) (fm_w fv (fun c k q => by omega))
    · rw [fu 60 6 (by omega)] at ev
      have eN : (((w.1 40 6).toNatClampNeg : Nat) : Int) = (w.1 40 6).toInt := by
        have := hNw.1.1
        rw [t_cl]; omega
      have tkk : ∀ a, tk w a → tk v9 a := fun a ha => by unfold tk at ha ⊢; rw [fv 20 7 (by omega), fu 20 7 (by omega)]; exact ha
      have htw : tk w t := by unfold tk at ht ⊢; rw [GS_at gg 20 7 (by unfold sSum; omega)]; exact ht
      unfold NM
      rw [fv 40 6 (by omega), fv 40 8 (by omega), fu 40 8 (by omega), fv 40 10 (by omega), fu 40 10 (by omega)]
      refine ⟨⟨by have := hNw.1.1; omega, by omega⟩, hNw.2.1, hNw.2.2.1, fun i hi => ?_, fun i hi => ?_, fun i hi => ?_⟩
      · rw [fv 44 i (by omega), fv 45 i (by omega), fv 46 i (by omega)]
        by_cases hi2 : i = (w.1 40 6).toNatClampNeg
        · rw [hi2, u44, u45, u46]
          have := hCw.1.1
          exact ⟨tkk _ htw, this, r0, r8, by omega, by omega⟩
        · rw [fu 44 i (by omega), fu 45 i (by omega), fu 46 i (by omega)]
          obtain ⟨p1, p2, p3, p4, p5, p6⟩ := hNw.2.2.2.1 i (by omega)
          exact ⟨tkk _ p1, p2, p3, p4, by omega, by omega⟩
      · rw [fv 48 i (by omega), fu 48 i (by omega)]; exact tkk _ (hNw.2.2.2.2.1 i hi)
      · rw [fv 50 i (by omega), fu 50 i (by omega)]; exact tkk _ (hNw.2.2.2.2.2 i hi)
    · have z5 : v9.1 100 5 = w.1 100 5 := by rw [fv 100 5 (by omega), fu 100 5 (by omega)]
      have g : ∀ k, k ≠ 6 → v9.1 60 k = w.1 60 k := fun k hk => by rw [fv 60 k (by omega), fu 60 k (by omega)]
      unfold CD at hCw ⊢
      rw [g 9 (by omega), g 10 (by omega), g 14 (by omega), g 16 (by omega), g 13 (by omega), fv 40 8 (by omega), fu 40 8 (by omega), fv 40 10 (by omega), fu 40 10 (by omega)]
      rw [fu 60 6 (by omega), w6] at ev
      refine ⟨by have := hCw.1.1; rw [w6] at this; omega, hCw.2.1, hCw.2.2.1, hCw.2.2.2.1, hCw.2.2.2.2.1, hCw.2.2.2.2.2.1, fun c => absurd (by rw [z5]; exact hBw.2.2.2.2.1) c⟩
    · have hTw := hBw.2.2.1.2.2.2.2
      unfold TS ssm at hTw ⊢
      rw [fv 60 10 (by omega), fu 60 10 (by omega), fv 80 9 (by omega), fu 80 9 (by omega), fv 100 5 (by omega), fu 100 5 (by omega), fv 81 _ (by omega), fu 81 _ (by omega)]
      refine ⟨fun i hi => ?_, hTw.2⟩
      rw [fv 72 i (by omega), fu 72 i (by omega)]; exact hTw.1 i hi
    · have e1 : ssm v9 = ssm w := by unfold ssm; rw [fv 80 9 (by omega), fu 80 9 (by omega)]
      have e2 : nx v9 = nx w := by unfold nx; rw [fv 100 4 (by omega), fu 100 4 (by omega)]
      rw [e1, e2, GS_sm gw, GS_sm gz, GS_sm gy]
      omega
    · have e2 : nx v9 = nx w := by unfold nx; rw [fv 100 4 (by omega), fu 100 4 (by omega)]
      omega
    · exact RI_dull (RI_st hRw (by rw [fv 100 4 (by omega), fu 100 4 (by omega)]) (fun j => by rw [fv 42 j (by omega), fu 42 j (by omega)]) (fun c k q1 q2 => by rw [fv c k (by omega), fu c k (by omega)])) (dull_k (by decide))
    · exact still_app (still_app hN1 hN2) (stl_k (by decide))
    · have en9 : nn v9 = nn w := by unfold nn; rw [fv 100 4 (by omega), fu 100 4 (by omega)]
      rw [en9]; exact hWw
    · rw [List.filterMap_append, List.filterMap_append, hte, te1_ns hnt, te1_ns (N := [(83, nn x, t.toNatClampNeg)]) (fun v hv => by rw [List.mem_singleton.mp hv]; exact (show ¬ (31 ≤ 83 ∧ 83 ≤ 36) by decide)), List.append_nil, List.append_nil]
      refine TBk_cell hTw fu cu u44 (by rw [u46]; exact hrn) fv u45 ?_
      rw [fu 60 6 (by omega)] at ev
      omega
    · rw [fu 60 6 (by omega)] at ev
      obtain ⟨n1, n2, n3, n4, n5⟩ := hCnw
      have g : ∀ k, k ≠ 6 → v9.1 60 k = w.1 60 k := fun k hk => by rw [fv 60 k (by omega), fu 60 k (by omega)]
      refine ⟨?_, ?_, ?_, ?_, ?_⟩
      · show (v9.1 60 6).toInt = ((n.1 + many.toInt.toNat : Nat) : Int)
        omega
      · rw [g 9 (by omega)]; exact n2
      · rw [g 10 (by omega)]; exact n3
      · rw [g 14 (by omega)]; exact n4
      · rw [g 16 (by omega)]; exact n5
    · exact La_tr g3.1 ⟨fun c k q1 q2 => by rw [fv c k (by omega), fu c k (by omega)], by unfold nx; rw [fv 100 4 (by omega), fu 100 4 (by omega)]; exact Int.le_refl _, fun j _ => by rw [fv 42 j (by omega), fu 42 j (by omega)]⟩
    · have hcu : ∀ c k, ccS c k → u.1 c k = x.1 c k := fun c k q => (fu c k (by unfold ccS at q; omega)).trans ((hcw c k q).trans ((hcz c k q).trans (hcy c k q)))
      have e83c : ∀ c, cds sN K [(83, nn x, t.toNatClampNeg)] c = c := fun c => rfl
      have e83t : tPs sN V K [(83, nn x, t.toNatClampNeg)] Ev = [] := rfl
      refine CGo_cell (fun c k q q1 q2 q3 => (fv c k (by omega)).trans (hcu c k q)) (fun c => by rw [cds_app, cds_app, hN1c.2.1, hst.2.1, e83c]) (by rw [tPs_app, tPs_app, hN1c.2.2, exs_still hN1, hst.2.2, exs_still (still_app hN1 hN2), e83t]; rfl) (still_app (still_app hN1 hN2) (stl_k (by decide))) (fun d hd => ?_)
      have eb : decide (su = 1) = decide (K (nn x) = 34) := decide_eq_decide.mpr hs34
      have ec : (ces K V (N1 ++ N2 ++ [(83, nn x, t.toNatClampNeg)]) d).2.2 = d.2.2 ++ List.replicate many.toInt.toNat (v, decide (su = 1)) := by
        rw [ces_app, ces_app, hN1c.1, hst.1, eb]; rfl
      rw [ec]
      exact hl9 d.2.2 ⟨by rw [hcu 60 6 (Or.inl ⟨rfl, by decide⟩)]; exact hd.1, fun j q hq => by rw [hcu 68 j (Or.inr (Or.inl ⟨by decide, by decide⟩)), hcu 69 j (Or.inr (Or.inl ⟨by decide, by decide⟩))]; exact hd.2 j q hq⟩
  have p79 : ∀ (su row many : Int32) (y : gd), (su = 0 ∨ su = 1) → (su = 1 ↔ K (nn x) = 34) → (∀ c k, ccS c k → y.1 c k = x.1 c k) → OTb x0 y → GS x y → RIw K V sN e Ev x y [] → 0 ≤ row.toInt → row.toInt ≤ 8 → 1 ≤ many.toInt → row.toInt ≤ many.toInt → (many.toInt = row.toInt ∨ many.toInt = 1) → (K (nn y) = 1 → nn y < 700 → (row = 0 ∧ ¬ K (nn y + 1) = 65) ∨ (0 < row.toInt ∧ K (nn y + 1) = 65 ∧ (nn y + 1 < 700 → row.toInt = (prz K V (nn y + 2) : Nat)))) → (K (nn y) = 1 → (y.1 60 6).toInt + many.toInt ≤ 24) → W = (if (K (nn y) = 1 ∧ nn y < 700) ∧ n.1 < 24 then (if K (nn y + 1) = 65 then (if nn y + 1 < 700 ∧ n.1 + prz K V (nn y + 2) ≤ 24 ∧ (K (nn y + 2) = 2 ∧ nn y + 2 < 700) ∧ K (nn y + 3) = 66 ∧ nn y + 3 < 700 then ((pCv K (nn y + 4, L ++ [(32, nn y, nn y + 2)])).bind (pt K 67)).bind (fun q => some (n.1 + prz K V (nn y + 2), q.1, q.2 ++ [(83, nn x, nn y)])) else none) else ((pCv K (nn y + 1, L ++ [(31, nn y, 0)])).bind (pt K 67)).bind (fun q => some (n.1 + 1, q.1, q.2 ++ [(83, nn x, nn y)]))) else none).bind Q → KE G q (d + 9) zk_X7_cellDefinition 79 [(0, vr 100), (1, vi su), (2, vi row), (3, vi many)] [] y (rv Fv) X := by
    intro su row many y hs01 hs34 hcy hBy gy hRy r0 r8 m1 rm hm hrow hc hWy
    have ln := gy.1.2.1
    have by0 := hBy.1.1.2.1
    have n6 : y.1 60 6 = x.1 60 6 := GS_at gy _ _ (by unfold sSum; omega)
    have hn1 : (y.1 60 6).toInt = (n.1 : Nat) := by rw [n6]; exact hCn.1
    refine kg_X7_cellDefinition_79 hq _ _ _ (kh_needFor hq 2 1 1 (by decide) (by decide) (by decide) (by decide) (fun no => hx (by rw [hWy, if_neg (fun z => no z.1)]; rfl)) hBy hRy.1 hRy.2.1 (fun kk c7 z hBz nz gz enz hAz hnz eu ht hcz => ?_))
    have hc := hc kk
    have n24 : n.1 < 24 := by omega
    rw [if_pos ⟨⟨kk, c7⟩, n24⟩] at hWy
    have bz0 := hBz.1.1.2.1
    have z6 : z.1 60 6 = y.1 60 6 := GS_at gz _ _ (by unfold sSum; omega)
    refine ⟨fun c => ?_, fun c => ?_⟩
    · rw [t_le, k0] at c
      have h65 : row = 0 ∧ ¬ K (nn y + 1) = 65 := by
        rcases hrow kk c7 with g | ⟨g, -⟩
        · exact g
        · omega
      have m1' : many.toInt = 1 := by
        rw [h65.1, k0] at hm
        omega
      have mN : many.toInt.toNat = 1 := by omega
      rw [if_neg h65.2] at hWy
      have hRz : RIw K V sN e Ev x z ([] ++ [(31, nn y, 0)]) := RI_use hRy by0 gz.1 hAz hnz enz (HAs_one.mpr (HA_31.mpr ⟨by omega, eu⟩)) (fun _ => HBs_one.mpr (by rw [eu]; exact HB_t (Or.inl rfl)))
      exact p109 su row many _ z [(31, nn y, 0)] 0 0 hs01 hs34 (fun c k q => (hcz c k q).trans (hcy c k q)) hm ⟨fun d => by rw [mN]; rfl, fun c => rfl, rfl⟩ hBz (GS_tr gy gz) (by omega) ht r0 r8 m1 rm (by rw [z6]; exact hc) hRz (stl_k (by decide)) rfl (by rw [h65.1]; rfl) (by rw [hWy, mN, enz])
    · rw [t_le, k0] at c
      obtain ⟨-, k65, hpz⟩ : 0 < row.toInt ∧ K (nn y + 1) = 65 ∧ (nn y + 1 < 700 → row.toInt = (prz K V (nn y + 2) : Nat)) := by
        rcases hrow kk c7 with ⟨g, -⟩ | g
        · rw [g, k0] at c; omega
        · exact g
      rw [if_pos k65] at hWy
      have hRz0 : RIw K V sN e Ev z z [] := ⟨hAz, hnz, UR_0 rfl⟩
      refine kh_pass hq (fun c8 => hx (by rw [hWy, if_neg (fun w => absurd w.1 (by omega))]; rfl)) hBz hRz0 (by rw [enz, k65]; decide) (by rw [enz, k65]; decide) (fun c8 w hBw nw gw enw hRw uw hcw => ?_)
      rw [enz] at c8
      have pz := hpz c8
      have mz : many.toInt.toNat = prz K V (nn y + 2) := by omega
      have enw2 : nn w = nn y + 2 := by omega
      refine kh_needFor hq 3 11 2 (by decide) (by decide) (by decide) (by decide) (fun no => hx (by rw [hWy, if_neg (fun z => no (by rw [enw2]; exact z.2.2.1))]; rfl)) hBw hRw.1 hRw.2.1 (fun kk2 c9 v hBv nv gv env hAv hnv euv htv hcv => ?_)
      rw [enw2] at kk2 c9 euv
      have env2 : nn v = nn y + 3 := by omega
      have hRv0 : RIw K V sN e Ev v v [] := ⟨hAv, hnv, UR_0 rfl⟩
      refine kh_need hq 26 66 (by decide) (by decide) (by decide) (fun no => hx (by rw [hWy, if_neg (fun z => no (by rw [env2]; exact z.2.2.2))]; rfl)) hBv hRv0 (fun kk3 c10 u hBu nu gu enu hRu uu hcu => ?_)
      rw [env2] at kk3 c10 uu
      have enu2 : nn u = nn y + 4 := by omega
      have gg := GS_tr (GS_tr gw gv) gu
      have bw0 := hBw.1.1.2.1
      have bv0 := hBv.1.1.2.1
      obtain ⟨-, l1⟩ := La_nn by0 (GS_tr gz gg).1
      obtain ⟨-, l2⟩ := La_nn bz0 gg.1
      obtain ⟨-, l3⟩ := La_nn bw0 (GS_tr gv gu).1
      obtain ⟨-, l4⟩ := La_nn bv0 gu.1
      have m0 : u.1 42 (nn y) = 1 := by rw [l2 _ (by omega)]; exact eu
      have m1' : u.1 42 (nn y + 1) = 0 := by rw [l3 _ (by omega), ← enz]; exact uw
      have m2 : u.1 42 (nn y + 2) = 11 := by rw [l4 _ (by omega)]; exact euv
      have hRu : RIw K V sN e Ev x u [(32, nn y, nn y + 2)] := by
        refine ⟨hRu.1, hRu.2.1, HAs_one.mpr (HA_32.mpr ⟨⟨by omega, m0⟩, by omega, m2⟩), fun j h1 h2 h3 => HBs_one.mpr ?_⟩
        by_cases hj : j < nn y
        · rw [l1 j hj] at h3
          exact (hRy.2.2.2 j h1 hj h3).elim
        · have hj4 : j = nn y ∨ j = nn y + 1 ∨ j = nn y + 2 ∨ j = nn y + 3 := by omega
          rcases hj4 with ej | ej | ej | ej
          · rw [ej, m0]; exact HB_t (Or.inr (Or.inl rfl))
          · rw [ej] at h3; exact absurd m1' h3
          · rw [ej, m2]; exact HB_32w
          · rw [ej] at h3; exact absurd uu h3
      refine p109 su row many _ u [(32, nn y, nn y + 2)] (prz K V (nn y + 2)) (nn y + 2) hs01 hs34 (fun c k q => (hcu c k q).trans ((hcv c k q).trans ((hcw c k q).trans ((hcz c k q).trans (hcy c k q))))) hm ⟨fun d => by rw [mz]; rfl, fun c => rfl, rfl⟩ hBu (GS_tr (GS_tr gy gz) gg) (by omega) ?_ r0 r8 m1 rm ?_ hRu (stl_k (by decide)) rfl pz ?_
      · unfold tk at ht ⊢; rw [GS_at gg 20 7 (by unfold sSum; omega)]; exact ht
      · rw [GS_at gg 60 6 (by unfold sSum; omega), z6]; exact hc
      · rw [hWy, if_pos ⟨c8, by omega, ⟨kk2, c9⟩, kk3, c10⟩, mz, enu2]
  have p45 : ∀ (su row : Int32) (y : gd), (su = 0 ∨ su = 1) → (su = 1 ↔ K (nn x) = 34) → (∀ c k, ccS c k → y.1 c k = x.1 c k) → OTb x0 y → GS x y → RIw K V sN e Ev x y [] → 0 ≤ row.toInt → row.toInt ≤ 8 → (K (nn y) = 1 → nn y < 700 → (row = 0 ∧ ¬ K (nn y + 1) = 65) ∨ (0 < row.toInt ∧ K (nn y + 1) = 65 ∧ (nn y + 1 < 700 → row.toInt = (prz K V (nn y + 2) : Nat)))) → W = (if (K (nn y) = 1 ∧ nn y < 700) ∧ n.1 < 24 then (if K (nn y + 1) = 65 then (if nn y + 1 < 700 ∧ n.1 + prz K V (nn y + 2) ≤ 24 ∧ (K (nn y + 2) = 2 ∧ nn y + 2 < 700) ∧ K (nn y + 3) = 66 ∧ nn y + 3 < 700 then ((pCv K (nn y + 4, L ++ [(32, nn y, nn y + 2)])).bind (pt K 67)).bind (fun q => some (n.1 + prz K V (nn y + 2), q.1, q.2 ++ [(83, nn x, nn y)])) else none) else ((pCv K (nn y + 1, L ++ [(31, nn y, 0)])).bind (pt K 67)).bind (fun q => some (n.1 + 1, q.1, q.2 ++ [(83, nn x, nn y)]))) else none).bind Q → KE G q (d + 9) zk_X7_cellDefinition 45 [(0, vr 100), (1, vi su)] [vi row] y (rv Fv) X := by
    intro su row y hs01 hs34 hcy hBy gy hRy r0 r8 hrow hWy
    have i1 : y.1 23 (y.1 100 4).toNatClampNeg = 2 ↔ K (nn y) = 1 := KA_k hRy.1 hRy.2.1 2 (by decide)
    have c6 := hBy.2.2.1.2.2.1.1
    have n6 : y.1 60 6 = x.1 60 6 := GS_at gy _ _ (by unfold sSum; omega)
    have hn1 : (y.1 60 6).toInt = (n.1 : Nat) := by rw [n6]; exact hCn.1
    refine kg_X7_cellDefinition_45 hq _ _ (fun m hm m1 m2 => ?_)
    rw [k1] at hm m2
    refine kp_sort hq hBy.1.1 ⟨fun c => p79 su row m y hs01 hs34 hcy hBy gy hRy r0 r8 m2 m1 hm hrow (fun q => absurd (i1.mpr q) c) hWy, fun c1 => ⟨fun c => p79 su row m y hs01 hs34 hcy hBy gy hRy r0 r8 m2 m1 hm hrow (fun _ => ?_) hWy, fun c => kh_refuse hq (hx ?_) hBy _⟩⟩
    · rw [t_le, k24, t_add (by omega) (by omega)] at c
      exact c
    · rw [t_le, k24, t_add (by omega) (by omega)] at c
      rw [hWy]
      by_cases cc : (K (nn y) = 1 ∧ nn y < 700) ∧ n.1 < 24
      · rw [if_pos cc]
        rcases hrow cc.1.1 cc.1.2 with ⟨g1, g2⟩ | ⟨g1, g2, g3⟩
        · exfalso
          rw [g1, k0] at hm
          omega
        · rw [if_pos g2, if_neg (fun z => ?_)]
          · rfl
          · have := g3 z.1
            omega
      · rw [if_neg cc]; rfl
  have p23 : ∀ (su : Int32) (y : gd), (su = 0 ∨ su = 1) → (su = 1 ↔ K (nn x) = 34) → (∀ c k, ccS c k → y.1 c k = x.1 c k) → OTb x0 y → GS x y → RIw K V sN e Ev x y [] → W = (pCl K V n.1 (nn x) (nn y + 1) L).bind Q → KE G q (d + 9) zk_X7_cellDefinition 23 [(0, vr 100), (1, vi su)] [] y (rv Fv) X := by
    intro su y hs01 hs34 hcy hBy gy hRy hWy
    refine kg_X7_cellDefinition_23 hq _ (kh_need hq 47 17 (by decide) (by decide) (by decide) (fun no => hx (by rw [hWy]; unfold pCl; rw [if_neg (fun z => no z.1)]; rfl)) hBy hRy (fun kk c7 z hBz nz gz enz hRz _ hcz => ?_))
    have hczx : ∀ c k, ccS c k → z.1 c k = x.1 c k := fun c k q => (hcz c k q).trans (hcy c k q)
    have ek : K (nn y + 1 - 1) = 17 ∧ nn y + 1 - 1 < 700 := ⟨kk, c7⟩
    rw [pCl_2 ek, ← enz] at hWy
    have i1 : z.1 23 (z.1 100 4).toNatClampNeg = 2 ↔ K (nn z) = 1 := KA_k hRz.1 hRz.2.1 2 (by decide)
    refine kp_sort hq hBz.1.1 ⟨fun c => p45 su 0 z hs01 hs34 hczx hBz (GS_tr gy gz) hRz (by decide) (by decide) (fun q => absurd (i1.mpr q) c) hWy, fun c => ?_⟩
    by_cases h7 : nn z < 700
    · exact kf_rowAhead hq hBz.1.1 hRz.1 hRz.2.1 (i1.mp c) h7 (fun r r0 r8 hr => p45 su r z hs01 hs34 hczx hBz (GS_tr gy gz) hRz r0 r8 (fun _ _ => hr) hWy)
    · exact kp_rowAhead hq hBz.1.1 (fun r r0 r8 hr => p45 su r z hs01 hs34 hczx hBz (GS_tr gy gz) hRz r0 r8 (fun _ q => absurd q h7) hWy)
  have i34 : x.1 23 (x.1 100 4).toNatClampNeg = 64 ↔ K (nn x) = 34 := KA_k hA hn0 64 (by decide)
  refine kg_X7_cellDefinition_0 hq (kp_sort hq hB.1.1 ⟨fun c => kg_X7_cellDefinition_14 hq _ ⟨fun _ => p23 _ x (Or.inl rfl) ⟨fun q => absurd q (by decide), fun q => absurd (i34.mpr q) c⟩ (fun c k _ => rfl) hB GS_rf hR0 ?_, fun q => absurd rfl q⟩, fun c => kg_X7_cellDefinition_14 hq _ ⟨fun q => absurd q (by decide), fun _ => ?_⟩⟩)
  · have k17 : K (nn x) = 17 := hk.resolve_left (fun z => c (i34.mpr z))
    rw [eW, eQ]
    unfold pD
    rw [if_neg (by rw [k17]; decide), if_pos k17]
  · have k34 := i34.mp c
    refine kh_pass hq (fun c7 => hx (by rw [eW]; unfold pD; rw [if_pos k34, if_neg (show ¬ nn x < 700 by omega)])) hB hR0 (by rw [k34]; decide) (by rw [k34]; decide) (fun c7 y hBy ny gy eny hRy _ hcy => p23 _ y (Or.inr rfl) ⟨fun _ => k34, fun _ => rfl⟩ hcy hBy gy hRy ?_)
    rw [eW, eQ, eny]
    unfold pD
    rw [if_pos k34, if_pos c7]
end KDH
