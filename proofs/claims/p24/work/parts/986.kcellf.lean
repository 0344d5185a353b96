section
/-! the class: cells are told -/
section KDH
variable {G : kG} {q : kP} {d : Nat} {x x0 y z xs : gd} {F : Int32 → gd → Prop} {Fv : gd → Prop} {X : String → gd → Prop} {P : Option gv → gd → Prop} {K V : Nat → Int32} {sN : Nat → Nat → Bool} {e : Nat} {Ev : gV} {Ml N : gU} {T : gTd} {n : gN} {W : gD}
theorem HA_31 {U : Nat → Int32} {n a b : Nat} : HAw sN U n Ev (31, a, b) ↔ a < n ∧ U a = 1 := by unfold HAw; simp
theorem HA_32 {U : Nat → Int32} {n a b : Nat} : HAw sN U n Ev (32, a, b) ↔ (a < n ∧ U a = 1) ∧ b < n ∧ U b = 11 := by unfold HAw; simp
theorem HA_33 {U : Nat → Int32} {n a b : Nat} : HAw sN U n Ev (33, a, b) ↔ a < n ∧ U a = 1 := by unfold HAw; simp
theorem HA_34 {U : Nat → Int32} {n a b : Nat} : HAw sN U n Ev (34, a, b) ↔ a < n ∧ U a = 1 := by unfold HAw; simp
theorem HB_t {k a b : Nat} (h : k = 31 ∨ k = 32 ∨ k = 33 ∨ k = 34) : HB sN Ev (k, a, b) a 1 := Or.inr (Or.inr (Or.inr (Or.inr (Or.inr (Or.inr (Or.inr (Or.inr (Or.inr (Or.inr (Or.inr (Or.inr (Or.inr (Or.inl ⟨h, rfl, rfl⟩)))))))))))))
theorem HB_32w {a b : Nat} : HB sN Ev (32, a, b) b 11 := Or.inr (Or.inr (Or.inr (Or.inr (Or.inr (Or.inr (Or.inr (Or.inr (Or.inr (Or.inr (Or.inr (Or.inr (Or.inr (Or.inr ⟨rfl, rfl, rfl⟩)))))))))))))
theorem te1_ns {N : gU} (h : ∀ v ∈ N, ¬ (31 ≤ v.1 ∧ v.1 ≤ 36)) : N.filterMap (te1 K V) = [] := List.filterMap_eq_nil_iff.mpr (fun v hv => te1_no (h v hv))
theorem pCl_2 {n i t : Nat} {L : gU} (h : K (t - 1) = 17 ∧ t - 1 < 700) : pCl K V n i t L = if (K t = 1 ∧ t < 700) ∧ n < 24 then (if K (t + 1) = 65 then (if t + 1 < 700 ∧ n + prz K V (t + 2) ≤ 24 ∧ (K (t + 2) = 2 ∧ t + 2 < 700) ∧ K (t + 3) = 66 ∧ t + 3 < 700 then ((pCv K (t + 4, L ++ [(32, t, t + 2)])).bind (pt K 67)).bind (fun q => some (n + prz K V (t + 2), q.1, q.2 ++ [(83, i, t)])) else none) else ((pCv K (t + 1, L ++ [(31, t, 0)])).bind (pt K 67)).bind (fun q => some (n + 1, q.1, q.2 ++ [(83, i, t)]))) else none := by
  unfold pCl
  by_cases c : (K t = 1 ∧ t < 700) ∧ n < 24
  · rw [if_pos ⟨h, c⟩, if_pos c]
  · rw [if_neg (fun z => c z.2), if_neg c]
/-- one cell, or a row of them, is told -/
theorem TBk_cell {u v : gd} {t : Int32} {b c9 : Nat} (h : TBk x T) (fu : fm (fun c k => (c = 40 ∧ k = 6) ∨ (44 ≤ c ∧ c ≤ 46 ∧ k = (x.1 40 6).toNatClampNeg)) x u) (cu : (u.1 40 6).toInt = (x.1 40 6).toInt + 1) (e4 : u.1 44 (x.1 40 6).toNatClampNeg = t) (e6 : (u.1 46 (x.1 40 6).toNatClampNeg).toInt = (b : Nat)) (fv : fm (fun c k => (c = 60 ∧ k = 6) ∨ c = 68 ∨ c = 69) u v) (e5 : u.1 45 (x.1 40 6).toNatClampNeg = x.1 60 6) (ev : (v.1 60 6).toInt = (x.1 60 6).toInt + (max b 1 : Nat)) : TBk v (T ++ [(t.toNatClampNeg, 0, b, c9)]) := by
  obtain ⟨⟨a1, ⟨a2, a4⟩, a3⟩, ⟨b1, b2⟩, c1, c2⟩ := h
  have m1 : 1 ≤ max b 1 := Nat.le_max_right _ _
  have eN : (x.1 40 6).toNatClampNeg = (tdS T 0).length := by rw [t_cl, a1]; rfl
  unfold TBk
  rw [tdS_y, tdS_n (show ¬ 0 = 1 by decide), tdS_n (show ¬ 0 = 2 by decide), fv 40 6 (by omega), fv 40 8 (by omega), fv 40 10 (by omega), fu 40 8 (by omega), fu 40 10 (by omega)]
  refine ⟨⟨by rw [List.length_append, List.length_singleton]; omega, ⟨by omega, ?_⟩, fun i q hq => ?_⟩, ⟨b1, fun i q hq => by rw [fv 48 i (by omega), fu 48 i (by omega)]; exact b2 i q hq⟩, c1, fun i q hq => by rw [fv 50 i (by omega), fu 50 i (by omega)]; exact c2 i q hq⟩
  · rw [nbT_app, ev, a4]
    show _ = ((nbT 0 (tdS T 0) + (max b 1 + 0) : Nat) : Int)
    omega
  rw [fv 44 i (by omega), fv 46 i (by omega), fv 45 i (by omega)]
  rcases ap1 hq with ⟨hi, hq⟩ | ⟨hi, hq⟩
  · rw [fu 44 i (by omega), fu 46 i (by omega), fu 45 i (by omega), List.take_append_of_le_length (Nat.le_of_lt hi)]
    exact a3 i q hq
  · rw [hi, List.take_left, ← eN, e4, hq, e5]
    exact ⟨rfl, e6, a4⟩
theorem kh_cellDefinition (hq : kV q) (L : gU) (hx : W = none → RX x0 X) (eW : W = pD K V n (nn x) L) (hk : K (nn x) = 34 ∨ K (nn x) = 17) (hA : KA K V sN e x) (hn0 : nn x ≤ e) (hTb : TBk x T) (hCn : CNk x n) (hI : OT x0 x) (h : ∀ y N n', OT x0 y → nx x < nx y → RIw K V sN e Ev x y N → still N → W = some (n', nn y, L ++ N) → TBk y (T ++ N.filterMap (te1 K V)) → CNk y n' → La x y → CGo sN V K Ev x y N → Fv y) : KE G q (d + 9) zk_X7_cellDefinition 0 [(0, vr 100)] [] x (rv Fv) X := by
  have k24 : (24 : Int32).toInt = 24 := rfl
  have k0 : (0 : Int32).toInt = 0 := rfl
  have k1 : (1 : Int32).toInt = 1 := rfl
  have hB := OT_b hI
  have acc := hI.2.2.2.2.2.2
  have bx0 := hB.1.1.2.1
  have hR0 : RIw K V sN e Ev x x [] := ⟨hA, hn0, UR_0 rfl⟩
  obtain ⟨Q, eQ⟩ : ∃ Q : Nat × Nat × gU → gD, Q = fun q => some ((q.1, n.2), q.2) := ⟨_, rfl⟩
  have p109 : ∀ (su row many t : Int32) (y : gd) (N1 : gU) (rn wn : Nat), (su = 0 ∨ su = 1) → (su = 1 ↔ K (nn x) = 34) → (∀ c k, ccS c k → y.1 c k = x.1 c k) → (many.toInt = row.toInt ∨ many.toInt = 1) → ((∀ d, ces K V N1 d = (many.toInt.toNat, d.2)) ∧ (∀ c, cds sN K N1 c = c) ∧ tPs sN V K N1 Ev = []) → OTb x0 y → GS x y → nx x < nx y → tk y t → 0 ≤ row.toInt → row.toInt ≤ 8 → 1 ≤ many.toInt → row.toInt ≤ many.toInt → (y.1 60 6).toInt + many.toInt ≤ 24 → RIw K V sN e Ev x y N1 → still N1 → N1.filterMap (te1 K V) = [(t.toNatClampNeg, 0, rn, wn)] → row.toInt = (rn : Nat) → W = (((pCv K (nn y, L ++ N1)).bind (pt K 67)).bind (fun q => some (n.1 + many.toInt.toNat, q.1, q.2 ++ [(83, nn x, t.toNatClampNeg)]))).bind Q → KE G q (d + 9) zk_X7_cellDefinition 109 [(0, vr 100), (1, vi su), (2, vi row), (3, vi many), (4, vi t)] [] y (rv Fv) X := by
    intro su row many t y N1 rn wn hs01 hs34 hcy hmr hN1c hBy gy ny ht r0 r8 m1 rm hc hRy hN1 hte hrn hWy
    obtain ⟨W1, eW1⟩ : ∃ W1, W1 = pCv K (nn y, L ++ N1) := ⟨_, rfl⟩
    rw [← eW1] at hWy
    refine kg_X7_cellDefinition_109 hq _ _ _ _ (kh_startValue (Ev := Ev) hq (L ++ N1) (fun no => hx (by rw [hWy, no]; rfl)) eW1 hBy hRy.1 hRy.2.1 (fun v z hBz nz gz N2 hRz hN2 hnt hWz hst hcz => ?_))
    have by0 := hBy.1.1.2.1
    have hRxz := RI_app by0 hN1 hRy gz.1 hRz
    rw [hWz] at hWy
    refine kh_need hq 27 67 (by decide) (by decide) (by decide) (fun no => hx (by rw [hWy]; show ((pt K 67 (nn z, L ++ N1 ++ N2)).bind _).bind Q = none; rw [pt_no no]; rfl)) hBz hRxz (fun kk c7 w hBw nw gw enw hRw _ hcw => ?_)
    have hWw : W = some ((n.1 + many.toInt.toNat, n.2), nn w, L ++ (N1 ++ N2 ++ [(83, nn x, t.toNatClampNeg)])) := by
      rw [hWy]
      show ((pt K 67 (nn z, L ++ N1 ++ N2)).bind _).bind Q = _
      rw [pt_yes kk c7, enw, eQ]
      show some ((n.1 + many.toInt.toNat, n.2), nn z + 1, L ++ N1 ++ N2 ++ [(83, nn x, t.toNatClampNeg)]) = _
      rw [List.append_assoc L, List.append_assoc L]
    have gg := GS_tr gz gw
    have g3 := GS_tr gy gg
    have hNw := hBw.2.2.1.2.1
    have hCw := hBw.2.2.1.2.2.1
    have w6 : w.1 60 6 = y.1 60 6 := GS_at gg _ _ (by unfold sSum; omega)
    have hTw : TBk w T := TBk_e hTb (TBe_GS g3)
    have hCnw : CNk w n := CNk_e hCn (TBe_GS g3)
    have c46 : (w.1 40 6).toInt < 24 := by
      have := hTw.1.2.1.1
      rw [w6] at this
      omega
    refine kf_tellCell hq _ _ _ ⟨hNw.1.1, c46⟩ (fun u fu cu u44 u45 u46 => kf_addCells hq _ _ _ hs01 ?_ (by omega) ?_ (fun v9 fv ev hl9 => rv_i (h v9 (N1 ++ N2 ++ [(83, nn x, t.toNatClampNeg)]) (n.1 + many.toInt.toNat, n.2) (OT_of (OTb_nm hBw ?_ ?_ ?_ ?_) ?_) ?_ ?_ ?_ ?_ ?_ ?_ ?_ ?_)))
    · rw [fu 60 6 (by omega), w6]; have := hCw.1.1; rw [w6] at this; exact this
    · rw [fu 60 6 (by omega), w6]; exact hc
    · exact fm_tr (fm_w fu (fun c k q => by omega)) (fm_w fv (fun c k q => by omega))
    · rw [fu 60 6 (by omega)] at ev
      have eN : (((w.1 40 6).toNatClampNeg : Nat) : Int) = (w.1 40 6).toInt := by
        have := hNw.1.1
        rw [t_cl]; omega
      have tkk : ∀ a, tk w a → tk v9 a := fun a ha => by unfold tk at ha ⊢; rw [fv 20 7 (by omega), fu 20 7 (by omega)]; exact ha
      have htw : tk w t := by unfold tk at ht ⊢; rw [GS_at gg 20 7 (by unfold sSum; omega)]; exact ht
      unfold NM
      rw [fv 40 6 (by omega), fv 40 8 (by omega), fu 40 8 (by omega), fv 40 10 (by omega), fu 40 10 (by omega)]
      refine ⟨⟨by have := hNw.1.1; omega, by omega⟩, hNw.2.1, hNw.2.2.1, fun i hi => ?_, fun i hi => ?_, fun i hi => ?_⟩
      · rw [fv 44 i (by omega), fv 45 i (by omega), fv 46 i (by omega)]
        by_cases hi2 : i = (w.1 40 6).toNatClampNeg
        · rw [hi2, u44, u45, u46]
          have := hCw.1.1
          exact ⟨tkk _ htw, this, r0, r8, by omega, by omega⟩
        · rw [fu 44 i (by omega), fu 45 i (by omega), fu 46 i (by omega)]
          obtain ⟨p1, p2, p3, p4, p5, p6⟩ := hNw.2.2.2.1 i (by omega)
          exact ⟨tkk _ p1, p2, p3, p4, by omega, by omega⟩
      · rw [fv 48 i (by omega), fu 48 i (by omega)]; exact tkk _ (hNw.2.2.2.2.1 i hi)
      · rw [fv 50 i (by omega), fu 50 i (by omega)]; exact tkk _ (hNw.2.2.2.2.2 i hi)
    · have z5 : v9.1 100 5 = w.1 100 5 := by rw [fv 100 5 (by omega), fu 100 5 (by omega)]
      have g : ∀ k, k ≠ 6 → v9.1 60 k = w.1 60 k := fun k hk => by rw [fv 60 k (by omega), fu 60 k (by omega)]
      unfold CD at hCw ⊢
      rw [g 9 (by omega), g 10 (by omega), g 14 (by omega), g 16 (by omega), g 13 (by omega), fv 40 8 (by omega), fu 40 8 (by omega), fv 40 10 (by omega), fu 40 10 (by omega)]
      rw [fu 60 6 (by omega), w6] at ev
      refine ⟨by have := hCw.1.1; rw [w6] at this; omega, hCw.2.1, hCw.2.2.1, hCw.2.2.2.1, hCw.2.2.2.2.1, hCw.2.2.2.2.2.1, fun c => absurd (by rw [z5]; exact hBw.2.2.2.2.1) c⟩
    · have hTw := hBw.2.2.1.2.2.2.2
      unfold TS ssm at hTw ⊢
      rw [fv 60 10 (by omega), fu 60 10 (by omega), fv 80 9 (by omega), fu 80 9 (by omega), fv 100 5 (by omega), fu 100 5 (by omega), fv 81 _ (by omega), fu 81 _ (by omega)]
      refine ⟨fun i hi => ?_, hTw.2⟩
      rw [fv 72 i (by omega), fu 72 i (by omega)]; exact hTw.1 i hi
    · have e1 : ssm v9 = ssm w := by unfold ssm; rw [fv 80 9 (by omega), fu 80 9 (by omega)]
      have e2 : nx v9 = nx w := by unfold nx; rw [fv 100 4 (by omega), fu 100 4 (by omega)]
      rw [e1, e2, GS_sm gw, GS_sm gz, GS_sm gy]
      omega
    · have e2 : nx v9 = nx w := by unfold nx; rw [fv 100 4 (by omega), fu 100 4 (by omega)]
      omega
    · exact RI_dull (RI_st hRw (by rw [fv 100 4 (by omega), fu 100 4 (by omega)]) (fun j => by rw [fv 42 j (by omega), fu 42 j (by omega)]) (fun c k q1 q2 => by rw [fv c k (by omega), fu c k (by omega)])) (dull_k (by decide))
    · exact still_app (still_app hN1 hN2) (stl_k (by decide))
    · have en9 : nn v9 = nn w := by unfold nn; rw [fv 100 4 (by omega), fu 100 4 (by omega)]
      rw [en9]; exact hWw
    · rw [List.filterMap_append, List.filterMap_append, hte, te1_ns hnt, te1_ns (N := [(83, nn x, t.toNatClampNeg)]) (fun v hv => by rw [List.mem_singleton.mp hv]; exact (show ¬ (31 ≤ 83 ∧ 83 ≤ 36) by decide)), List.append_nil, List.append_nil]
      refine TBk_cell hTw fu cu u44 (by rw [u46]; exact hrn) fv u45 ?_
      rw [fu 60 6 (by omega)] at ev
      omega
    · rw [fu 60 6 (by omega)] at ev
      obtain ⟨n1, n2, n3, n4, n5⟩ := hCnw
      have g : ∀ k, k ≠ 6 → v9.1 60 k = w.1 60 k := fun k hk => by rw [fv 60 k (by omega), fu 60 k (by omega)]
      refine ⟨?_, ?_, ?_, ?_, ?_⟩
      · show (v9.1 60 6).toInt = ((n.1 + many.toInt.toNat : Nat) : Int)
        omega
      · rw [g 9 (by omega)]; exact n2
      · rw [g 10 (by omega)]; exact n3
      · rw [g 14 (by omega)]; exact n4
      · rw [g 16 (by omega)]; exact n5
    · exact La_tr g3.1 ⟨fun c k q1 q2 => by rw [fv c k (by omega), fu c k (by omega)], by unfold nx; rw [fv 100 4 (by omega), fu 100 4 (by omega)]; exact Int.le_refl _, fun j _ => by rw [fv 42 j (by omega), fu 42 j (by omega)]⟩
    · have hcu : ∀ c k, ccS c k → u.1 c k = x.1 c k := fun c k q => (fu c k (by unfold ccS at q; omega)).trans ((hcw c k q).trans ((hcz c k q).trans (hcy c k q)))
      have e83c : ∀ c, cds sN K [(83, nn x, t.toNatClampNeg)] c = c := fun c => rfl
      have e83t : tPs sN V K [(83, nn x, t.toNatClampNeg)] Ev = [] := rfl
      refine CGo_cell (fun c k q q1 q2 q3 => (fv c k (by omega)).trans (hcu c k q)) (fun c => by rw [cds_app, cds_app, hN1c.2.1, hst.2.1, e83c]) (by rw [tPs_app, tPs_app, hN1c.2.2, exs_still hN1, hst.2.2, exs_still (still_app hN1 hN2), e83t]; rfl) (still_app (still_app hN1 hN2) (stl_k (by decide))) (fun d hd => ?_)
      have eb : decide (su = 1) = decide (K (nn x) = 34) := decide_eq_decide.mpr hs34
      have ec : (ces K V (N1 ++ N2 ++ [(83, nn x, t.toNatClampNeg)]) d).2.2 = d.2.2 ++ List.replicate many.toInt.toNat (v, decide (su = 1)) := by
        rw [ces_app, ces_app, hN1c.1, hst.1, eb]; rfl
      rw [ec]
      exact hl9 d.2.2 ⟨by rw [hcu 60 6 (Or.inl ⟨rfl, by decide⟩)]; exact hd.1, fun j q hq => by rw [hcu 68 j (Or.inr (Or.inl ⟨by decide, by decide⟩)), hcu 69 j (Or.inr (Or.inl ⟨by decide, by decide⟩))]; exact hd.2 j q hq⟩
  have p79 : ∀ (su row many : Int32) (y : gd), (su = 0 ∨ su = 1) → (su = 1 ↔ K (nn x) = 34) → (∀ c k, ccS c k → y.1 c k = x.1 c k) → OTb x0 y → GS x y → RIw K V sN e Ev x y [] → 0 ≤ row.toInt → row.toInt ≤ 8 → 1 ≤ many.toInt → row.toInt ≤ many.toInt → (many.toInt = row.toInt ∨ many.toInt = 1) → (K (nn y) = 1 → nn y < 700 → (row = 0 ∧ ¬ K (nn y + 1) = 65) ∨ (0 < row.toInt ∧ K (nn y + 1) = 65 ∧ (nn y + 1 < 700 → row.toInt = (prz K V (nn y + 2) : Nat)))) → (K (nn y) = 1 → (y.1 60 6).toInt + many.toInt ≤ 24) → W = (if (K (nn y) = 1 ∧ nn y < 700) ∧ n.1 < 24 then (if K (nn y + 1) = 65 then (if nn y + 1 < 700 ∧ n.1 + prz K V (nn y + 2) ≤ 24 ∧ (K (nn y + 2) = 2 ∧ nn y + 2 < 700) ∧ K (nn y + 3) = 66 ∧ nn y + 3 < 700 then ((pCv K (nn y + 4, L ++ [(32, nn y, nn y + 2)])).bind (pt K 67)).bind (fun q => some (n.1 + prz K V (nn y + 2), q.1, q.2 ++ [(83, nn x, nn y)])) else none) else ((pCv K (nn y + 1, L ++ [(31, nn y, 0)])).bind (pt K 67)).bind (fun q => some (n.1 + 1, q.1, q.2 ++ [(83, nn x, nn y)]))) else none).bind Q → KE G q (d + 9) zk_X7_cellDefinition 79 [(0, vr 100), (1, vi su), (2, vi row), (3, vi many)] [] y (rv Fv) X := by
    intro su row many y hs01 hs34 hcy hBy gy hRy r0 r8 m1 rm hm hrow hc hWy
    have ln := gy.1.2.1
    have by0 := hBy.1.1.2.1
    have n6 : y.1 60 6 = x.1 60 6 := GS_at gy _ _ (by unfold sSum; omega)
    have hn1 : (y.1 60 6).toInt = (n.1 : Nat) := by rw [n6]; exact hCn.1
    refine kg_X7_cellDefinition_79 hq _ _ _ (kh_needFor hq 2 1 1 (by decide) (by decide) (by decide) (by decide) (fun no => hx (by rw [hWy, if_neg (fun z => no z.1)]; rfl)) hBy hRy.1 hRy.2.1 (fun kk c7 z hBz nz gz enz hAz hnz eu ht hcz => ?_))
    have hc := hc kk
    have n24 : n.1 < 24 := by omega
    rw [if_pos ⟨⟨kk, c7⟩, n24⟩] at hWy
    have bz0 := hBz.1.1.2.1
    have z6 : z.1 60 6 = y.1 60 6 := GS_at gz _ _ (by unfold sSum; omega)
    refine ⟨fun c => ?_, fun c => ?_⟩
    · rw [t_le, k0] at c
      have h65 : row = 0 ∧ ¬ K (nn y + 1) = 65 := by
        rcases hrow kk c7 with g | ⟨g, -⟩
        · exact g
        · omega
      have m1' : many.toInt = 1 := by
        rw [h65.1, k0] at hm
        omega
      have mN : many.toInt.toNat = 1 := by omega
      rw [if_neg h65.2] at hWy
      have hRz : RIw K V sN e Ev x z ([] ++ [(31, nn y, 0)]) := RI_use hRy by0 gz.1 hAz hnz enz (HAs_one.mpr (HA_31.mpr ⟨by omega, eu⟩)) (fun _ => HBs_one.mpr (by rw [eu]; exact HB_t (Or.inl rfl)))
      exact p109 su row many _ z [(31, nn y, 0)] 0 0 hs01 hs34 (fun c k q => (hcz c k q).trans (hcy c k q)) hm ⟨fun d => by rw [mN]; rfl, fun c => rfl, rfl⟩ hBz (GS_tr gy gz) (by omega) ht r0 r8 m1 rm (by rw [z6]; exact hc) hRz (stl_k (by decide)) rfl (by rw [h65.1]; rfl) (by rw [hWy, mN, enz])
    · rw [t_le, k0] at c
      obtain ⟨-, k65, hpz⟩ : 0 < row.toInt ∧ K (nn y + 1) = 65 ∧ (nn y + 1 < 700 → row.toInt = (prz K V (nn y + 2) : Nat)) := by
        rcases hrow kk c7 with ⟨g, -⟩ | g
        · rw [g, k0] at c; omega
        · exact g
      rw [if_pos k65] at hWy
      have hRz0 : RIw K V sN e Ev z z [] := ⟨hAz, hnz, UR_0 rfl⟩
      refine kh_pass hq (fun c8 => hx (by rw [hWy, if_neg (fun w => absurd w.1 (by omega))]; rfl)) hBz hRz0 (by rw [enz, k65]; decide) (by rw [enz, k65]; decide) (fun c8 w hBw nw gw enw hRw uw hcw => ?_)
      rw [enz] at c8
      have pz := hpz c8
      have mz : many.toInt.toNat = prz K V (nn y + 2) := by omega
      have enw2 : nn w = nn y + 2 := by omega
      refine kh_needFor hq 3 11 2 (by decide) (by decide) (by decide) (by decide) (fun no => hx (by rw [hWy, if_neg (fun z => no (by rw [enw2]; exact z.2.2.1))]; rfl)) hBw hRw.1 hRw.2.1 (fun kk2 c9 v hBv nv gv env hAv hnv euv htv hcv => ?_)
      rw [enw2] at kk2 c9 euv
      have env2 : nn v = nn y + 3 := by omega
      have hRv0 : RIw K V sN e Ev v v [] := ⟨hAv, hnv, UR_0 rfl⟩
      refine kh_need hq 26 66 (by decide) (by decide) (by decide) (fun no => hx (by rw [hWy, if_neg (fun z => no (by rw [env2]; exact z.2.2.2))]; rfl)) hBv hRv0 (fun kk3 c10 u hBu nu gu enu hRu uu hcu => ?_)
      rw [env2] at kk3 c10 uu
      have enu2 : nn u = nn y + 4 := by omega
      have gg := GS_tr (GS_tr gw gv) gu
      have bw0 := hBw.1.1.2.1
      have bv0 := hBv.1.1.2.1
      obtain ⟨-, l1⟩ := La_nn by0 (GS_tr gz gg).1
      obtain ⟨-, l2⟩ := La_nn bz0 gg.1
      obtain ⟨-, l3⟩ := La_nn bw0 (GS_tr gv gu).1
      obtain ⟨-, l4⟩ := La_nn bv0 gu.1
      have m0 : u.1 42 (nn y) = 1 := by rw [l2 _ (by omega)]; exact eu
      have m1' : u.1 42 (nn y + 1) = 0 := by rw [l3 _ (by omega), ← enz]; exact uw
      have m2 : u.1 42 (nn y + 2) = 11 := by rw [l4 _ (by omega)]; exact euv
      have hRu : RIw K V sN e Ev x u [(32, nn y, nn y + 2)] := by
        refine ⟨hRu.1, hRu.2.1, HAs_one.mpr (HA_32.mpr ⟨⟨by omega, m0⟩, by omega, m2⟩), fun j h1 h2 h3 => HBs_one.mpr ?_⟩
        by_cases hj : j < nn y
        · rw [l1 j hj] at h3
          exact (hRy.2.2.2 j h1 hj h3).elim
        · have hj4 : j = nn y ∨ j = nn y + 1 ∨ j = nn y + 2 ∨ j = nn y + 3 := by omega
          rcases hj4 with ej | ej | ej | ej
          · rw [ej, m0]; exact HB_t (Or.inr (Or.inl rfl))
          · rw [ej] at h3; exact absurd m1' h3
          · rw [ej, m2]; exact HB_32w
          · rw [ej] at h3; exact absurd uu h3
      refine p109 su row many _ u [(32, nn y, nn y + 2)] (prz K V (nn y + 2)) (nn y + 2) hs01 hs34 (fun c k q => (hcu c k q).trans ((hcv c k q).trans ((hcw c k q).trans ((hcz c k q).trans (hcy c k q))))) hm ⟨fun d => by rw [mz]; rfl, fun c => rfl, rfl⟩ hBu (GS_tr (GS_tr gy gz) gg) (by omega) ?_ r0 r8 m1 rm ?_ hRu (stl_k (by decide)) rfl pz ?_
      · unfold tk at ht ⊢; rw [GS_at gg 20 7 (by unfold sSum; omega)]; exact ht
      · rw [GS_at gg 60 6 (by unfold sSum; omega), z6]; exact hc
      · rw [hWy, if_pos ⟨c8, by omega, ⟨kk2, c9⟩, kk3, c10⟩, mz, enu2]
  have p45 : ∀ (su row : Int32) (y : gd), (su = 0 ∨ su = 1) → (su = 1 ↔ K (nn x) = 34) → (∀ c k, ccS c k → y.1 c k = x.1 c k) → OTb x0 y → GS x y → RIw K V sN e Ev x y [] → 0 ≤ row.toInt → row.toInt ≤ 8 → (K (nn y) = 1 → nn y < 700 → (row = 0 ∧ ¬ K (nn y + 1) = 65) ∨ (0 < row.toInt ∧ K (nn y + 1) = 65 ∧ (nn y + 1 < 700 → row.toInt = (prz K V (nn y + 2) : Nat)))) → W = (if (K (nn y) = 1 ∧ nn y < 700) ∧ n.1 < 24 then (if K (nn y + 1) = 65 then (if nn y + 1 < 700 ∧ n.1 + prz K V (nn y + 2) ≤ 24 ∧ (K (nn y + 2) = 2 ∧ nn y + 2 < 700) ∧ K (nn y + 3) = 66 ∧ nn y + 3 < 700 then ((pCv K (nn y + 4, L ++ [(32, nn y, nn y + 2)])).bind (pt K 67)).bind (fun q => some (n.1 + prz K V (nn y + 2), q.1, q.2 ++ [(83, nn x, nn y)])) else none) else ((pCv K (nn y + 1, L ++ [(31, nn y, 0)])).bind (pt K 67)).bind (fun q => some (n.1 + 1, q.1, q.2 ++ [(83, nn x, nn y)]))) else none).bind Q → KE G q (d + 9) zk_X7_cellDefinition 45 [(0, vr 100), (1, vi su)] [vi row] y (rv Fv) X := by
    intro su row y hs01 hs34 hcy hBy gy hRy r0 r8 hrow hWy
    have i1 : y.1 23 (y.1 100 4).toNatClampNeg = 2 ↔ K (nn y) = 1 := KA_k hRy.1 hRy.2.1 2 (by decide)
    have c6 := hBy.2.2.1.2.2.1.1
    have n6 : y.1 60 6 = x.1 60 6 := GS_at gy _ _ (by unfold sSum; omega)
    have hn1 : (y.1 60 6).toInt = (n.1 : Nat) := by rw [n6]; exact hCn.1
    refine kg_X7_cellDefinition_45 hq _ _ (fun m hm m1 m2 => ?_)
    rw [k1] at hm m2
    refine kp_sort hq hBy.1.1 ⟨fun c => p79 su row m y hs01 hs34 hcy hBy gy hRy r0 r8 m2 m1 hm hrow (fun q => absurd (i1.mpr q) c) hWy, fun c1 => ⟨fun c => p79 su row m y hs01 hs34 hcy hBy gy hRy r0 r8 m2 m1 hm hrow (fun _ => ?_) hWy, fun c => kh_refuse hq (hx ?_) hBy _⟩⟩
    · rw [t_le, k24, t_add (by omega) (by omega)] at c
      exact c
    · rw [t_le, k24, t_add (by omega) (by omega)] at c
      rw [hWy]
      by_cases cc : (K (nn y) = 1 ∧ nn y < 700) ∧ n.1 < 24
      · rw [if_pos cc]
        rcases hrow cc.1.1 cc.1.2 with ⟨g1, g2⟩ | ⟨g1, g2, g3⟩
        · exfalso
          rw [g1, k0] at hm
          omega
        · rw [if_pos g2, if_neg (fun z => ?_)]
          · rfl
          · have := g3 z.1
            omega
      · rw [if_neg cc]; rfl
  have p23 : ∀ (su : Int32) (y : gd), (su = 0 ∨ su = 1) → (su = 1 ↔ K (nn x) = 34) → (∀ c k, ccS c k → y.1 c k = x.1 c k) → OTb x0 y → GS x y → RIw K V sN e Ev x y [] → W = (pCl K V n.1 (nn x) (nn y + 1) L).bind Q → KE G q (d + 9) zk_X7_cellDefinition 23 [(0, vr 100), (1, vi su)] [] y (rv Fv) X := by
    intro su y hs01 hs34 hcy hBy gy hRy hWy
    refine kg_X7_cellDefinition_23 hq _ (kh_need hq 47 17 (by decide) (by decide) (by decide) (fun no => hx (by rw [hWy]; unfold pCl; rw [if_neg (fun z => no z.1)]; rfl)) hBy hRy (fun kk c7 z hBz nz gz enz hRz _ hcz => ?_))
    have hczx : ∀ c k, ccS c k → z.1 c k = x.1 c k := fun c k q => (hcz c k q).trans (hcy c k q)
    have ek : K (nn y + 1 - 1) = 17 ∧ nn y + 1 - 1 < 700 := ⟨kk, c7⟩
    rw [pCl_2 ek, ← enz] at hWy
    have i1 : z.1 23 (z.1 100 4).toNatClampNeg = 2 ↔ K (nn z) = 1 := KA_k hRz.1 hRz.2.1 2 (by decide)
    refine kp_sort hq hBz.1.1 ⟨fun c => p45 su 0 z hs01 hs34 hczx hBz (GS_tr gy gz) hRz (by decide) (by decide) (fun q => absurd (i1.mpr q) c) hWy, fun c => ?_⟩
    by_cases h7 : nn z < 700
    · exact kf_rowAhead hq hBz.1.1 hRz.1 hRz.2.1 (i1.mp c) h7 (fun r r0 r8 hr => p45 su r z hs01 hs34 hczx hBz (GS_tr gy gz) hRz r0 r8 (fun _ _ => hr) hWy)
    · exact kp_rowAhead hq hBz.1.1 (fun r r0 r8 hr => p45 su r z hs01 hs34 hczx hBz (GS_tr gy gz) hRz r0 r8 (fun _ q => absurd q h7) hWy)
  have i34 : x.1 23 (x.1 100 4).toNatClampNeg = 64 ↔ K (nn x) = 34 := KA_k hA hn0 64 (by decide)
  refine kg_X7_cellDefinition_0 hq (kp_sort hq hB.1.1 ⟨fun c => kg_X7_cellDefinition_14 hq _ ⟨fun _ => p23 _ x (Or.inl rfl) ⟨fun q => absurd q (by decide), fun q => absurd (i34.mpr q) c⟩ (fun c k _ => rfl) hB GS_rf hR0 ?_, fun q => absurd rfl q⟩, fun c => kg_X7_cellDefinition_14 hq _ ⟨fun q => absurd q (by decide), fun _ => ?_⟩⟩)
  · have k17 : K (nn x) = 17 := hk.resolve_left (fun z => c (i34.mpr z))
    rw [eW, eQ]
    unfold pD
    rw [if_neg (by rw [k17]; decide), if_pos k17]
  · have k34 := i34.mp c
    refine kh_pass hq (fun c7 => hx (by rw [eW]; unfold pD; rw [if_pos k34, if_neg (show ¬ nn x < 700 by omega)])) hB hR0 (by rw [k34]; decide) (by rw [k34]; decide) (fun c7 y hBy ny gy eny hRy _ hcy => p23 _ y (Or.inr rfl) ⟨fun _ => k34, fun _ => rfl⟩ hcy hBy gy hRy ?_)
    rw [eW, eQ, eny]
    unfold pD
    rw [if_pos k34, if_pos c7]
end KDH
end
section
/-! the class: locks, threads, claims; all is read -/
section KRL
variable {G : kG} {q : kP} {d : Nat} {x x0 y z : gd} {F : Int32 → gd → Prop} {Fv : gd → Prop} {X : String → gd → Prop} {P : Option gv → gd → Prop}
theorem kp_names_clear (hq : kV q) (h : ∀ y, fm (fun c k => c = 40 ∨ c = 42 ∨ c = 43) x y → y.1 40 6 = 0 → y.1 40 8 = 0 → y.1 40 10 = 0 → (∀ j, j < 702 → y.1 42 j = 0) → Fv y) : KT G q (d + 1) zk_X6_clear 0 [(0, vr 40)] [] x (rv Fv) := by
  refine kg_X6_clear_0 hq (fun x1 e1 x2 e2 x3 e3 x4 e4 z ez => rv_i (h z ?_ ?_ ?_ ?_ (fun j hj => ?_)))
  · rw [ez, e4, e3, e2, e1]
    exact fm_fl (fm_fl (fm_si (fm_si (fm_si (fm_rf _ _) (Or.inl rfl)) (Or.inl rfl)) (Or.inl rfl)) (fun k _ => Or.inr (Or.inl rfl))) (fun k _ => Or.inr (Or.inr rfl))
  · rw [ez, e4, e3, e2, e1]; (simp only [si_get, sfl_get, Nat.reduceEqDiff, eq_self, and_false, false_and, and_true, true_and, if_true, if_false, reduceIte, reduceCtorEq])
  · rw [ez, e4, e3, e2, e1]; (simp only [si_get, sfl_get, Nat.reduceEqDiff, eq_self, and_false, false_and, and_true, true_and, if_true, if_false, reduceIte, reduceCtorEq])
  · rw [ez, e4, e3, e2, e1]; (simp only [si_get, sfl_get, Nat.reduceEqDiff, eq_self, and_false, false_and, and_true, true_and, if_true, if_false, reduceIte, reduceCtorEq])
  · rw [ez, e4, sfl_get, if_neg (by omega), sfl_get, if_pos ⟨rfl, hj⟩]
theorem kp_code_clear (hq : kV q) (h : ∀ y, fm (fun c k => c = 60 ∨ (c = 80 ∧ k = 9)) x y → y.1 80 9 = 0 → y.1 60 3 = 0 → y.1 60 6 = 0 → y.1 60 9 = 0 → y.1 60 10 = 0 → y.1 60 13 = 0 → y.1 60 14 = 0 → y.1 60 16 = 0 → Fv y) : KT G q d zk_X0_clear 0 [(0, vr 60)] [] x (rv Fv) := by
  refine kg_X0_clear_0 hq (fun x1 e1 x2 e2 x3 e3 x4 e4 x5 e5 x6 e6 x7 e7 z ez => rv_i (h z ?_ ?_ ?_ ?_ ?_ ?_ ?_ ?_ ?_))
  · rw [ez, e7, e6, e5, e4, e3, e2, e1]
    exact fm_si (fm_si (fm_si (fm_si (fm_si (fm_si (fm_si (fm_si (fm_rf _ _) (Or.inr ⟨rfl, rfl⟩)) (Or.inl rfl)) (Or.inl rfl)) (Or.inl rfl)) (Or.inl rfl)) (Or.inl rfl)) (Or.inl rfl)) (Or.inl rfl)
  all_goals (rw [ez, e7, e6, e5, e4, e3, e2, e1]; (simp only [si_get, sfl_get, Nat.reduceEqDiff, eq_self, and_false, false_and, and_true, true_and, if_true, if_false, reduceIte, reduceCtorEq]))
end KRL
end
section
/-! the class: locks and claims are told -/
section KDI
variable {G : kG} {q : kP} {d : Nat} {x x0 y z xs : gd} {F : Int32 → gd → Prop} {Fv : gd → Prop} {X : String → gd → Prop} {P : Option gv → gd → Prop} {K V : Nat → Int32} {sN : Nat → Nat → Bool} {e : Nat} {Ev : gV} {Ml N : gU} {T : gTd} {n : gN} {W : gD}
theorem nT_N {L : gU} (h : nT L (L ++ N)) : ∀ v ∈ N, ¬ (31 ≤ v.1 ∧ v.1 ≤ 36) := by
  obtain ⟨N2, e, h⟩ := h
  rw [List.append_cancel_left e]; exact h
theorem TBk_lock {t : Int32} (h : TBk x T) (e8 : (z.1 40 8).toInt = (x.1 40 8).toInt + 1) (e48 : z.1 48 (x.1 40 8).toNatClampNeg = t) (o48 : ∀ i, ¬ i = (x.1 40 8).toNatClampNeg → z.1 48 i = x.1 48 i) (f : ∀ c k, (c = 40 ∧ ¬ k = 8) ∨ (44 ≤ c ∧ c ≤ 46) ∨ c = 50 ∨ (c = 60 ∧ k = 6) → z.1 c k = x.1 c k) : TBk z (T ++ [(t.toNatClampNeg, 1, 0, 0)]) := by
  obtain ⟨⟨a1, a2, a3⟩, ⟨b1, b2⟩, c1, c2⟩ := h
  have eN : (x.1 40 8).toNatClampNeg = (tdS T 1).length := by rw [t_cl, b1]; rfl
  unfold TBk
  rw [tdS_y, tdS_n (show ¬ 1 = 0 by decide), tdS_n (show ¬ 1 = 2 by decide), f 40 6 (by omega), f 40 10 (by omega), f 60 6 (by omega)]
  refine ⟨⟨a1, a2, fun i q hq => by rw [f 44 i (by omega), f 46 i (by omega), f 45 i (by omega)]; exact a3 i q hq⟩, ⟨by rw [List.length_append, List.length_singleton]; omega, fun i q hq => ?_⟩, c1, fun i q hq => by rw [f 50 i (by omega)]; exact c2 i q hq⟩
  rcases ap1 hq with ⟨hi, hq⟩ | ⟨hi, hq⟩
  · rw [o48 i (by omega)]
    exact b2 i q hq
  · rw [hi, ← eN, e48, hq]
theorem TBk_thread {t : Int32} (h : TBk x T) (e8 : (z.1 40 10).toInt = (x.1 40 10).toInt + 1) (e48 : z.1 50 (x.1 40 10).toNatClampNeg = t) (o48 : ∀ i, ¬ i = (x.1 40 10).toNatClampNeg → z.1 50 i = x.1 50 i) (f : ∀ c k, (c = 40 ∧ ¬ k = 10) ∨ (44 ≤ c ∧ c ≤ 48) ∨ (c = 60 ∧ k = 6) → z.1 c k = x.1 c k) : TBk z (T ++ [(t.toNatClampNeg, 2, 0, 0)]) := by
  obtain ⟨⟨a1, a2, a3⟩, ⟨b1, b2⟩, c1, c2⟩ := h
  have eN : (x.1 40 10).toNatClampNeg = (tdS T 2).length := by rw [t_cl, c1]; rfl
  unfold TBk
  rw [tdS_y, tdS_n (show ¬ 2 = 0 by decide), tdS_n (show ¬ 2 = 1 by decide), f 40 6 (by omega), f 40 8 (by omega), f 60 6 (by omega)]
  refine ⟨⟨a1, a2, fun i q hq => by rw [f 44 i (by omega), f 46 i (by omega), f 45 i (by omega)]; exact a3 i q hq⟩, ⟨b1, fun i q hq => by rw [f 48 i (by omega)]; exact b2 i q hq⟩, by rw [List.length_append, List.length_singleton]; omega, fun i q hq => ?_⟩
  rcases ap1 hq with ⟨hi, hq⟩ | ⟨hi, hq⟩
  · rw [o48 i (by omega)]
    exact c2 i q hq
  · rw [hi, ← eN, e48, hq]
theorem kf_tellLock (hq : kV q) (t : Int32) (hc : 0 ≤ (x.1 40 8).toInt) (hc6 : (x.1 40 8).toInt < 6) (h : ∀ y, fm (fun c k => (c = 40 ∧ k = 8) ∨ (c = 48 ∧ k = (x.1 40 8).toNatClampNeg)) x y → y.1 40 8 = x.1 40 8 + 1 → y.1 48 (x.1 40 8).toNatClampNeg = t → Fv y) : KT G q d zk_X6_tellLock 0 [(0, vr 40), (1, vi t)] [] x (rv Fv) := by
  have k6 : (6 : Int32).toInt = 6 := rfl
  have eN : (((x.1 40 8).toNatClampNeg : Nat) : Int) = (x.1 40 8).toInt := by rw [t_cl]; omega
  refine kg_X6_tellLock_0 hq _ ⟨fun c => ?_, fun c => ⟨by rw [vp_in_iff]; omega, fun x3 e3 z ez => rv_i ?_⟩⟩
  · exfalso; rw [t_le, k6] at c; omega
  have q3 : x3.1 40 8 = x.1 40 8 := by rw [e3]; (simp only [si_get, sfl_get, Nat.reduceEqDiff, eq_self, and_false, false_and, and_true, true_and, if_true, if_false, reduceIte, reduceCtorEq])
  refine h z (by rw [ez, e3]; exact fm_si (fm_si (fm_rf _ _) (Or.inr ⟨rfl, rfl⟩)) (Or.inl ⟨rfl, rfl⟩)) (by rw [ez, q3]; (simp only [si_get, sfl_get, Nat.reduceEqDiff, eq_self, and_false, false_and, and_true, true_and, if_true, if_false, reduceIte, reduceCtorEq])) (by rw [ez, e3]; (simp only [si_get, sfl_get, Nat.reduceEqDiff, eq_self, and_false, false_and, and_true, true_and, if_true, if_false, reduceIte, reduceCtorEq]))
theorem kf_tellThread (hq : kV q) (t : Int32) (hc : 0 ≤ (x.1 40 10).toInt) (hc6 : (x.1 40 10).toInt < 6) (h : ∀ y, fm (fun c k => (c = 40 ∧ k = 10) ∨ (c = 50 ∧ k = (x.1 40 10).toNatClampNeg)) x y → y.1 40 10 = x.1 40 10 + 1 → y.1 50 (x.1 40 10).toNatClampNeg = t → Fv y) : KT G q d zk_X6_tellThread 0 [(0, vr 40), (1, vi t)] [] x (rv Fv) := by
  have k6 : (6 : Int32).toInt = 6 := rfl
  have eN : (((x.1 40 10).toNatClampNeg : Nat) : Int) = (x.1 40 10).toInt := by rw [t_cl]; omega
  refine kg_X6_tellThread_0 hq _ ⟨fun c => ?_, fun c => ⟨by rw [vp_in_iff]; omega, fun x3 e3 z ez => rv_i ?_⟩⟩
  · exfalso; rw [t_le, k6] at c; omega
  have q3 : x3.1 40 10 = x.1 40 10 := by rw [e3]; (simp only [si_get, sfl_get, Nat.reduceEqDiff, eq_self, and_false, false_and, and_true, true_and, if_true, if_false, reduceIte, reduceCtorEq])
  refine h z (by rw [ez, e3]; exact fm_si (fm_si (fm_rf _ _) (Or.inr ⟨rfl, rfl⟩)) (Or.inl ⟨rfl, rfl⟩)) (by rw [ez, q3]; (simp only [si_get, sfl_get, Nat.reduceEqDiff, eq_self, and_false, false_and, and_true, true_and, if_true, if_false, reduceIte, reduceCtorEq])) (by rw [ez, e3]; (simp only [si_get, sfl_get, Nat.reduceEqDiff, eq_self, and_false, false_and, and_true, true_and, if_true, if_false, reduceIte, reduceCtorEq]))
theorem kh_lockDefinition (hq : kV q) (L : gU) (hx : W = none → RX x0 X) (eW : W = pD K V n (nn x) L) (k27 : K (nn x) = 27) (hA : KA K V sN e x) (hn0 : nn x ≤ e) (hTb : TBk x T) (hCn : CNk x n) (hI : OT x0 x) (h : ∀ y N n', OT x0 y → nx x < nx y → RIw K V sN e Ev x y N → still N → W = some (n', nn y, L ++ N) → TBk y (T ++ N.filterMap (te1 K V)) → CNk y n' → La x y → CGo sN V K Ev x y N → Fv y) : KE G q (d + 8) zk_X7_lockDefinition 0 [(0, vr 100)] [] x (rv Fv) X := by
  have k6 : (6 : Int32).toInt = 6 := rfl
  have hB := OT_b hI
  have acc := hI.2.2.2.2.2.2
  have hR0 : RIw K V sN e Ev x x [] := ⟨hA, hn0, UR_0 rfl⟩
  have hW : W = if n.2.1 < 6 ∧ nn x < 700 ∧ (K (nn x + 1) = 1 ∧ nn x + 1 < 700) ∧ K (nn x + 2) = 67 ∧ nn x + 2 < 700 then some ((n.1, n.2.1 + 1, n.2.2), nn x + 3, L ++ [(33, nn x + 1, 0)]) else none := by
    rw [eW]
    unfold pD
    rw [if_neg (by rw [k27]; decide), if_neg (by rw [k27]; decide), if_pos k27]
  have hc2 := hCn.2.1
  refine kg_X7_lockDefinition_0 hq ⟨fun c => kg_X7_lockDefinition_17 hq (kh_pass (xs := x) (Ml := []) (Ev := Ev) hq (fun c7 => hx (by rw [hW, if_neg (fun z => absurd z.2.1 (by omega))])) hB hR0 (by rw [k27]; decide) (by rw [k27]; decide) (fun c7 y hBy ny gy eny hRy u0 hcy => kh_needFor hq 2 1 1 (by decide) (by decide) (by decide) (by decide) (fun no => hx (by rw [hW, if_neg (fun z => no (by rw [eny]; exact z.2.2.1))])) hBy hRy.1 hRy.2.1 (fun kk c8 w hBw nw gw enw hAw hnw eu ht hcw => ?_))), fun c => kh_refuse hq (hx (by rw [hW, if_neg (fun z => c (by rw [t_lt, k6]; omega))])) hB _⟩
  rw [t_lt, k6] at c
  have g1 := GS_tr gy gw
  have hNw := hBw.2.2.1.2.1
  have hCw := hBw.2.2.1.2.2.1
  have w9 : w.1 60 9 = x.1 60 9 := GS_at g1 _ _ (by unfold sSum; omega)
  have w8 : w.1 40 8 = x.1 60 9 := by rw [← hCw.2.1, w9]
  have e1 : (w.1 40 8 + 1).toInt = (w.1 40 8).toInt + 1 := t_add (by show _ ≤ _ + (1 : Int); rw [w8]; have := hNw.2.1.1; rw [w8] at this; omega) (by show _ + (1 : Int) ≤ _; rw [w8]; omega)
  refine kf_tellLock hq _ hNw.2.1.1 (by rw [w8]; exact c) (fun u fuS cu u48 => ?_)
  have fu : fm (fun c k => (c = 40 ∧ k = 8) ∨ c = 48) w u := fm_w fuS (fun c k q => by omega)
  have eN8 : (((w.1 40 8).toNatClampNeg : Nat) : Int) = (w.1 40 8).toInt := by
    have := hNw.2.1.1
    rw [t_cl]; omega
  have hu : ∀ i : Nat, (i : Int) < (w.1 40 8).toInt + 1 → ((i : Int) < (w.1 40 8).toInt ∧ u.1 48 i = w.1 48 i) ∨ u.1 48 i = y.1 100 4 := by
    intro i hi
    by_cases hi2 : i = (w.1 40 8).toNatClampNeg
    · rw [hi2]; exact Or.inr u48
    · exact Or.inl ⟨by omega, fuS 48 i (by omega)⟩
  rw [eny] at kk c8 eu
  have by0 := hBy.1.1.2.1
  have hRw : RIw K V sN e Ev x w ([] ++ [(33, nn x + 1, 0)]) := RI_use hRy by0 gw.1 hAw hnw enw (HAs_one.mpr (HA_33.mpr ⟨by omega, eu⟩)) (fun _ => HBs_one.mpr (by rw [eny, eu]; exact HB_t (Or.inr (Or.inr (Or.inl rfl)))))
  have hRw : RIw K V sN e Ev x w [(33, nn x + 1, 0)] := hRw
  have enw2 : nn w = nn x + 2 := by omega
  have i67 : w.1 23 (w.1 100 4).toNatClampNeg = 27 ↔ K (nn w) = 67 := KA_k hAw hnw 27 (by decide)
  have bw0 := hBw.1.1.2.1
  have cw0 := nn_is bw0
  -- the next token is read with names told but not counted: its invariant is that of the state before
  have gu4 : u.1 100 4 = w.1 100 4 := fu _ _ (by omega)
  have SUu : SU u := by
    obtain ⟨⟨hT, b1, b2, b3⟩, ⟨u1, u2⟩, hp, hP⟩ := hBw.1
    have nnq : nx u = nx w := by unfold nx; rw [gu4]
    have la : La w u := ⟨fun c k q1 q2 => fu c k (by omega), by omega, fun j _ => fu 42 j (by omega)⟩
    unfold SU SV US RB mt
    rw [fu 20 7 (by omega), fu 60 3 (by omega), nnq]
    refine ⟨⟨kT_fm hT la.1, b1, b2, b3⟩, ⟨fun j h1 h2 => ?_, fun j h1 h2 => ?_⟩, hp, fun i hi => La_PQ la (fu _ _ (by omega)) (fu _ _ (by omega)) (hP i hi)⟩
    · rw [fu 42 j (by omega)]; exact u1 j h1 h2
    · rw [fu 42 j (by omega)] at h2; rw [fu 42 _ (by omega)]; exact u2 j h1 h2
  have FRu : FR u := by
    have := hBw.2.1
    unfold FR at this ⊢
    rw [gu4, fu 42 _ (by omega)]; exact this
  have fxu : fm sR x0 u := fm_tr hBw.2.2.2.2.2 (fm_w fu (fun c k q => by unfold sR; omega))
  have nuw0 : nx u = nx w := by unfold nx; rw [gu4]
  refine kf_need hq fxu 27 (fun no => hx ?_) SUu (by decide) FRu (fun cw7 c79 v fv nv Sv frv lav fxv z ez => rv_i ?_)
  · rw [hW, if_neg (fun z => ?_)]
    rcases no with no | no
    · rw [gu4, fu 23 _ (by omega)] at no
      exact no (i67.mpr (by rw [enw2]; exact z.2.2.2.1))
    · omega
  rw [gu4, fu 23 _ (by omega)] at cw7
  have kk7 := i67.mp cw7
  rw [enw2] at kk7
  have hWs : W = some ((n.1, n.2.1 + 1, n.2.2), nn x + 3, L ++ [(33, nn x + 1, 0)]) := by
    rw [hW, if_pos ⟨by omega, c7, ⟨kk, c8⟩, kk7, by omega⟩]
  -- as if need came first
  have SUv : SU v := by unfold SU; rw [fv 60 3 (by omega)]; exact Sv
  obtain ⟨w', ew'⟩ : ∃ w', w' = si w 100 4 (v.1 100 4) := ⟨_, rfl⟩
  have fw' : fm (fun c k => c = 100 ∧ k = 4) w w' := by rw [ew']; exact fm_si (fm_rf _ _) ⟨rfl, rfl⟩
  have w4' : w'.1 100 4 = v.1 100 4 := by rw [ew']; (simp only [si_get, sfl_get, Nat.reduceEqDiff, eq_self, and_false, false_and, and_true, true_and, if_true, if_false, reduceIte, reduceCtorEq])
  have hvw : ∀ c k, ¬ ((c = 40 ∧ k = 8) ∨ c = 48) → v.1 c k = w'.1 c k := by
    intro c k hc
    by_cases h4 : c = 100 ∧ k = 4
    · rw [h4.1, h4.2, w4']
    · rw [fv c k h4, fu c k hc, fw' c k h4]
  have nnq : nx w' = nx v := by unfold nx; rw [w4']
  have nuw : nx u = nx w := by unfold nx; rw [gu4]
  have gw' : GS w w' := ⟨⟨fun c k q1 q2 => fw' c k (by omega), by omega, fun j _ => fw' 42 j (by omega)⟩, fm_w fw' (fun c k q => by unfold sSum; omega)⟩
  have law : La v w' := ⟨fun c k q1 q2 => (hvw c k (by omega)).symm, by omega, fun j _ => (hvw 42 j (by omega)).symm⟩
  have SUw' : SU w' := by
    obtain ⟨⟨hT, b1, b2, b3⟩, ⟨u1, u2⟩, hp, hP⟩ := SUv
    unfold SU SV US RB mt
    rw [← hvw 20 7 (by omega), ← hvw 60 3 (by omega), nnq]
    refine ⟨⟨kT_fm hT law.1, b1, b2, b3⟩, ⟨fun j h1 h2 => ?_, fun j h1 h2 => ?_⟩, hp, fun i hi => La_PQ law (hvw _ _ (by omega)).symm (hvw _ _ (by omega)).symm (hP i hi)⟩
    · rw [← hvw 42 j (by omega)]; exact u1 j h1 h2
    · rw [← hvw 42 j (by omega)] at h2; rw [← hvw 42 _ (by omega)]; exact u2 j h1 h2
  have FRw' : FR w' := by unfold FR at frv ⊢; rw [w4', ← hvw 42 _ (by omega)]; exact frv
  have hBw' : OTb x0 w' := OTb_on hBw SUw' FRw' gw'
  have fz : fm (fun c k => (c = 40 ∧ k = 8) ∨ c = 48 ∨ (c = 60 ∧ k = 9)) w' z := by
    intro c k hc
    rw [ez, si_get, if_neg (by omega)]
    exact hvw c k (by omega)
  have hN' := hBw'.2.2.1.2.1
  have hC' := hBw'.2.2.1.2.2.1
  have z8 : z.1 40 8 = w.1 40 8 + 1 := by rw [ez, si_cell (by decide), fv 40 8 (by omega)]; exact cu
  have z9 : z.1 60 9 = w.1 60 9 + 1 := by rw [ez, fv 60 9 (by omega), fu 60 9 (by omega)]; (simp only [si_get, sfl_get, Nat.reduceEqDiff, eq_self, and_false, false_and, and_true, true_and, if_true, if_false, reduceIte, reduceCtorEq])
  have tkk : ∀ a, tk w a → tk z a := fun a ha => by unfold tk at ha ⊢; rw [fz 20 7 (by omega), fw' 20 7 (by omega)]; exact ha
  have z4 : z.1 100 4 = v.1 100 4 := by rw [ez, si_cell (by decide)]
  have lav9 : La w v := ⟨fun c k q1 q2 => by rw [fv c k (by omega), fu c k (by omega)], by omega, fun j _ => by rw [fv 42 j (by omega), fu 42 j (by omega)]⟩
  have env : nn v = nn w + 1 := nn_up bw0 (by omega)
  have hAv : KA K V sN e v := KA_fm hAw lav9.1
  have hRv : RIw K V sN e Ev x v [(33, nn x + 1, 0)] := RI_tok hRw bw0 (by omega) (by rw [enw2, kk7]; decide) (by rw [enw2, kk7]; decide) lav9 (by omega) (by rw [fv 42 _ (by omega), fu 42 _ (by omega)]; exact hBw.2.1)
  have hRz : RIw K V sN e Ev x z [(33, nn x + 1, 0)] := RI_st hRv z4 (fun j => by rw [ez, si_cell (by decide)]) (fun c k q1 q2 => by rw [ez, si_cell (by omega)])
  have enz : nn z = nn x + 3 := by
    have : nn z = nn v := by unfold nn; rw [z4]
    omega
  have b8 := hNw.2.1.1
  refine h z [(33, nn x + 1, 0)] (n.1, n.2.1 + 1, n.2.2) (OT_of (OTb_nm hBw' (fm_w fz (fun c k q => by omega)) ?_ ?_ ?_) ?_) ?_ hRz (stl_k (by decide)) (by rw [enz]; exact hWs) ?_ ?_ (La_tr (La_tr g1.1 lav9) ⟨fun c k q1 q2 => by rw [ez, si_cell (by omega)], by unfold nx; rw [z4]; exact Int.le_refl _, fun j _ => by rw [ez, si_cell (by decide)]⟩) (CGo_lock (fun c k q q1 => (fz c k (by unfold ccS at q; omega)).trans ((fw' c k (by unfold ccS at q; omega)).trans ((hcw c k q).trans (hcy c k q)))))
  · unfold NM
    have b8 := hNw.2.1.1
    rw [z8, e1, fz 40 6 (by omega), fw' 40 6 (by omega), fz 40 10 (by omega), fw' 40 10 (by omega), fz 60 6 (by omega), fw' 60 6 (by omega)]
    rw [w8] at b8 ⊢
    refine ⟨hNw.1, by omega, hNw.2.2.1, fun i hi => ?_, fun i hi => ?_, fun i hi => ?_⟩
    · rw [fz 44 i (by omega), fw' 44 i (by omega), fz 45 i (by omega), fw' 45 i (by omega), fz 46 i (by omega), fw' 46 i (by omega)]
      obtain ⟨p1, p2⟩ := hNw.2.2.2.1 i hi
      exact ⟨tkk _ p1, p2⟩
    · have zi : z.1 48 i = u.1 48 i := by rw [ez, si_cell (by decide), fv 48 i (by omega)]
      rw [zi]
      rcases hu i (by rw [w8]; exact hi) with ⟨g1, g2⟩ | g
      · rw [g2]; exact tkk _ (hNw.2.2.2.2.1 i g1)
      · rw [g]; exact tkk _ ht
    · rw [fz 50 i (by omega), fw' 50 i (by omega)]; exact tkk _ (hNw.2.2.2.2.2 i hi)
  · unfold CD at hC' ⊢
    rw [z8, z9, fz 60 6 (by omega), fz 60 10 (by omega), fz 60 14 (by omega), fz 60 16 (by omega), fz 60 13 (by omega), fz 40 10 (by omega), fz 100 5 (by omega), fz 100 9 (by omega), hCw.2.1]
    exact ⟨hC'.1, rfl, hC'.2.2.1, hC'.2.2.2.1, hC'.2.2.2.2.1, hC'.2.2.2.2.2.1, hC'.2.2.2.2.2.2⟩
  · have hT' := hBw'.2.2.1.2.2.2.2
    unfold TS ssm at hT' ⊢
    rw [fz 60 10 (by omega), fz 80 9 (by omega), fz 100 5 (by omega), fz 81 _ (by omega)]
    refine ⟨fun i hi => ?_, hT'.2⟩
    rw [fz 72 i (by omega)]; exact hT'.1 i hi
  · have e1 : ssm z = ssm w := by unfold ssm; rw [fz 80 9 (by omega), fw' 80 9 (by omega)]
    have e2 : nx z = nx v := by rw [← nnq]; unfold nx; rw [fz 100 4 (by omega)]
    rw [e1, e2, GS_sm g1]
    omega
  · have e2 : nx z = nx v := by rw [← nnq]; unfold nx; rw [fz 100 4 (by omega)]
    omega
  · have hTw : TBk w T := TBk_e hTb (TBe_GS g1)
    have et : (y.1 100 4).toNatClampNeg = nn x + 1 := eny
    have r := TBk_lock (z := z) (t := y.1 100 4) hTw (by rw [z8, e1]) (by rw [ez, si_cell (by decide), fv 48 _ (by omega)]; exact u48) (fun i hi => by rw [ez, si_cell (by decide), fv 48 i (by omega)]; exact fuS 48 i (by omega)) (fun c k hc => by rw [fz c k (by omega), fw' c k (by omega)])
    rw [et] at r
    exact r
  · obtain ⟨n1, n2, n3, n4, n5⟩ := CNk_e hCn (TBe_GS g1)
    have g : ∀ k, k ≠ 9 → z.1 60 k = w.1 60 k := fun k hk => by rw [fz 60 k (by omega), fw' 60 k (by omega)]
    refine ⟨by rw [g 6 (by omega)]; exact n1, ?_, by rw [g 10 (by omega)]; exact n3, by rw [g 14 (by omega)]; exact n4, by rw [g 16 (by omega)]; exact n5⟩
    show (z.1 60 9).toInt = ((n.2.1 + 1 : Nat) : Int)
    rw [z9, t_add (by show _ ≤ _ + (1 : Int); omega) (by show _ + (1 : Int) ≤ _; omega)]
    show (w.1 60 9).toInt + (1 : Int) = _
    omega
theorem kh_claim (hq : kV q) (L : gU) (hx : W = none → RX x0 X) (eW : W = pD K V n (nn x) L) (hk : K (nn x) = 11 ∨ K (nn x) = 21) (hA : KA K V sN e x) (hn0 : nn x ≤ e) (hTb : TBk x T) (hCn : CNk x n) (hE2 : Ev.2.1 = []) (hI : OT x0 x) (h : ∀ y N n', OT x0 y → nx x < nx y → RIw K V sN e Ev x y N → still N → W = some (n', nn y, L ++ N) → TBk y (T ++ N.filterMap (te1 K V)) → CNk y n' → La x y → CGo sN V K Ev x y N → Fv y) : KE G q (d + 10) zk_X7_claim 0 [(0, vr 100)] [] x (rv Fv) X := by
  have k4 : (4 : Int32).toInt = 4 := rfl
  have hB := OT_b hI
  have acc := hI.2.2.2.2.2.2
  have hC := hB.2.2.1.2.2.1
  have p47 : ∀ a m : Int32, (a = 0 ∧ m = x.1 60 16 ∨ ¬ a = 0 ∧ m = x.1 60 14) → (a = 0 ↔ K (nn x) = 21) → m.toInt < 4 → KE G q (d + 10) zk_X7_claim 47 [(0, vr 100), (1, vi a), (2, vi m)] [] x (rv Fv) X := by
    intro a m ham hak hm
    obtain ⟨v9, Q, hv35, hv9, hvd, hvs, eQ, hW⟩ : ∃ (v9 : Nat × Nat × Nat) (n9 : gN), ((a = 0 ∧ v9 = (36, nn x, 0)) ∨ (¬ a = 0 ∧ v9 = (35, nn x, 0))) ∧ (¬ (31 ≤ v9.1 ∧ v9.1 ≤ 34) ∧ (35 ≤ v9.1 ∧ v9.1 ≤ 36)) ∧ dull v9 ∧ still [v9] ∧ ((a = 0 ∧ n9 = (n.1, n.2.1, n.2.2.1, n.2.2.2.1, n.2.2.2.2 + 1)) ∨ (¬ a = 0 ∧ n9 = (n.1, n.2.1, n.2.2.1, n.2.2.2.1 + 1, n.2.2.2.2))) ∧ W = if nn x < 700 then ((pX K true 16 (nn x + 1) (L ++ [v9])).bind (pt K 67)).bind (fun q => some (n9, q)) else none := by
      by_cases ca : a = 0
      · have k21 := hak.mp ca
        have hm4 : n.2.2.2.2 < 4 := by
          have := hCn.2.2.2.2
          rcases ham with ⟨-, e⟩ | ⟨e, -⟩
          · rw [e] at hm; omega
          · exact absurd ca e
        refine ⟨(36, nn x, 0), _, Or.inl ⟨ca, rfl⟩, ⟨(show ¬ (31 ≤ 36 ∧ 36 ≤ 34) by decide), (show 35 ≤ 36 ∧ 36 ≤ 36 by decide)⟩, dull_k (by decide), stl_k (by decide), Or.inl ⟨ca, rfl⟩, ?_⟩
        rw [eW]
        unfold pD
        rw [if_neg (by rw [k21]; decide), if_neg (by rw [k21]; decide), if_neg (by rw [k21]; decide), if_neg (by rw [k21]; decide), if_neg (by rw [k21]; decide), if_neg (by rw [k21]; decide), if_pos k21]
        by_cases c7 : nn x < 700
        · rw [if_pos ⟨hm4, c7⟩, if_pos c7]
        · rw [if_neg (fun z => c7 z.2), if_neg c7]
      · have k11 : K (nn x) = 11 := hk.resolve_right (fun z => ca (hak.mpr z))
        have hm4 : n.2.2.2.1 < 4 := by
          have := hCn.2.2.2.1
          rcases ham with ⟨e, -⟩ | ⟨-, e⟩
          · exact absurd e ca
          · rw [e] at hm; omega
        refine ⟨(35, nn x, 0), _, Or.inr ⟨ca, rfl⟩, ⟨(show ¬ (31 ≤ 35 ∧ 35 ≤ 34) by decide), (show 35 ≤ 35 ∧ 35 ≤ 36 by decide)⟩, dull_k (by decide), stl_k (by decide), Or.inr ⟨ca, rfl⟩, ?_⟩
        rw [eW]
        unfold pD
        rw [if_neg (by rw [k11]; decide), if_neg (by rw [k11]; decide), if_neg (by rw [k11]; decide), if_neg (by rw [k11]; decide), if_neg (by rw [k11]; decide), if_pos k11]
        by_cases c7 : nn x < 700
        · rw [if_pos ⟨hm4, c7⟩, if_pos c7]
        · rw [if_neg (fun z => c7 z.2), if_neg c7]
    have hR0 : RIw K V sN e Ev x x [] := ⟨hA, hn0, UR_0 rfl⟩
    have kk0 : ¬ K (nn x) = 0 ∧ ¬ K (nn x) = 3 := by rcases hk with e | e <;> rw [e] <;> decide
    have m0 : 0 ≤ m.toInt := by
      rcases ham with ⟨-, e⟩ | ⟨-, e⟩
      · rw [e]; exact hC.2.2.2.2.1.1
      · rw [e]; exact hC.2.2.2.1.1
    refine kg_X7_claim_47 hq _ _ (kh_pass hq (fun c7 => hx (by rw [hW, if_neg (show ¬ nn x < 700 by omega)])) hB hR0 kk0.1 kk0.2 (fun c7 y hBy ny gy eny hRy _ hcy => ?_))
    rw [if_pos c7, ← eny] at hW
    have by0 := hBy.1.1.2.1
    refine kh_sum (Ev := Ev) hq _ (L ++ [v9]) (fun no => hx (by rw [hW]; have no : pX K true 16 (nn y) (L ++ [v9]) = none := no; rw [no]; rfl)) hBy hRy.1 hRy.2.1 (by decide) (by decide) (fun r z hBz nz gz N2 hRz hN2 hpX hcp hrr => ?_)
    have hpX : pX K true 16 (nn y) (L ++ [v9]) = some (nn z, L ++ [v9] ++ N2) := hpX
    obtain ⟨N20, eN20, hs20⟩ := pX_sE hpX
    have hcp := hcp hE2
    rw [eN20] at hcp
    have hn2 := nT_N (pX_nT hpX)
    rw [hpX] at hW
    have hRxz : RIw K V sN e Ev x z ([v9] ++ N2) := RI_app by0 hvs (RI_dull hRy hvd) gz.1 hRz
    refine kh_need hq 27 67 (by decide) (by decide) (by decide) (fun no => hx (by rw [hW]; show (pt K 67 (nn z, L ++ [v9] ++ N2)).bind _ = none; rw [pt_no no]; rfl)) hBz hRxz (fun kk c8 w hBw nw gw enw hRw _ hcw => ?_)
    have hWs : W = some (Q, nn w, L ++ ([v9] ++ N2)) := by
      rw [hW]
      show (pt K 67 (nn z, L ++ [v9] ++ N2)).bind _ = _
      rw [pt_yes kk c8, enw, ← List.append_assoc]
      rfl
    have gg := GS_tr (GS_tr gy gz) gw
    have vm : vp_in m 4 := by rw [vp_in_iff]; omega
    have fin : ∀ (k : Nat) (v : gd), (k = 14 ∨ k = 16) → fm (fun c j => c = 76 ∨ c = 78 ∨ (c = 60 ∧ j = k)) w v → (0 ≤ (v.1 60 k).toInt ∧ (v.1 60 k).toInt ≤ 4) → CNk v Q → CGo sN V K Ev x v ([v9] ++ N2) → Fv v := by
      intro k v hk fv hv hcn hcg
      have hC' := hBw.2.2.1.2.2.1
      refine h v ([v9] ++ N2) Q (OT_of (OTb_nm hBw (fm_w fv (fun c j q => by omega)) (NM_fm hBw.2.2.1.2.1 (fun c k q1 q2 q3 q4 => fv c k (by omega)) (fv _ _ (by omega)) (fv _ _ (by omega))) ?_ ?_) ?_) ?_ (RI_st hRw (fv _ _ (by omega)) (fun j => fv _ _ (by omega)) (fun c k q1 q2 => fv _ _ (by omega))) (still_app hvs hN2) (by rw [show nn v = nn w by unfold nn; rw [fv 100 4 (by omega)]]; exact hWs) ?_ hcn (La_tr gg.1 ⟨fun c k q1 q2 => fv _ _ (by omega), by unfold nx; rw [fv 100 4 (by omega)]; exact Int.le_refl _, fun j _ => fv _ _ (by omega)⟩) hcg
      · unfold CD at hC' ⊢
        rw [fv 60 6 (by omega), fv 60 9 (by omega), fv 60 10 (by omega), fv 60 13 (by omega), fv 40 8 (by omega), fv 40 10 (by omega), fv 100 5 (by omega), fv 100 9 (by omega)]
        refine ⟨hC'.1, hC'.2.1, hC'.2.2.1, ?_, ?_, hC'.2.2.2.2.2.1, hC'.2.2.2.2.2.2⟩
        · rcases hk with rfl | rfl
          · exact hv
          · rw [fv 60 14 (by omega)]; exact hC'.2.2.2.1
        · rcases hk with rfl | rfl
          · rw [fv 60 16 (by omega)]; exact hC'.2.2.2.2.1
          · exact hv
      · have hT' := hBw.2.2.1.2.2.2.2
        unfold TS ssm at hT' ⊢
        rw [fv 60 10 (by omega), fv 80 9 (by omega), fv 100 5 (by omega), fv 81 _ (by omega)]
        refine ⟨fun i hi => ?_, hT'.2⟩
        rw [fv 72 i (by omega)]; exact hT'.1 i hi
      · have e1 : ssm v = ssm w := by unfold ssm; rw [fv 80 9 (by omega)]
        have e2 : nx v = nx w := by unfold nx; rw [fv 100 4 (by omega)]
        rw [e1, e2, GS_sm gg]; omega
      · have e2 : nx v = nx w := by unfold nx; rw [fv 100 4 (by omega)]
        omega
      · have t0 : te1 K V v9 = none := by
          unfold te1
          rw [if_neg (by omega), if_neg (by omega), if_neg (by omega), if_neg (by omega)]
        have t1 : ([v9] ++ N2).filterMap (te1 K V) = [] := by
          rw [List.filterMap_append, te1_ns hn2, List.append_nil, List.filterMap_cons_none t0, List.filterMap_nil]
        rw [t1, List.append_nil]
        exact TBk_f (TBk_e hTb (TBe_GS gg)) (fun c j q => fv c j (by omega))
    have em : ∀ k : Nat, ¬ k = 3 → w.1 60 k = x.1 60 k := fun k hk => GS_at gg _ _ (by unfold sSum; omega)
    refine ⟨fun c => ⟨vm, fun x7 e7 v ev => rv_i (fin 16 v (Or.inr rfl) (by rw [ev, e7]; exact fm_si (fm_si (fm_rf _ _) (Or.inr (Or.inl rfl))) (Or.inr (Or.inr ⟨rfl, rfl⟩))) ?_ ?_ ?_)⟩, fun c => ⟨vm, fun x7 e7 v ev => rv_i (fin 14 v (Or.inl rfl) (by rw [ev, e7]; exact fm_si (fm_si (fm_rf _ _) (Or.inl rfl)) (Or.inr (Or.inr ⟨rfl, rfl⟩))) ?_ ?_ ?_)⟩⟩
    · have e1 : x7.1 60 16 = m := by
        rw [e7, si_cell (by decide), em 16 (by omega)]
        rcases ham with ⟨-, e⟩ | ⟨e, -⟩
        · exact e.symm
        · exact absurd c e
      have e2 : v.1 60 16 = m + 1 := by rw [ev, e1]; (simp only [si_get, sfl_get, Nat.reduceEqDiff, eq_self, and_false, false_and, and_true, true_and, if_true, if_false, reduceIte, reduceCtorEq])
      rw [e2, t_add (by show _ ≤ _ + (1 : Int); omega) (by show _ + (1 : Int) ≤ _; omega)]
      show 0 ≤ _ + (1 : Int) ∧ _ + (1 : Int) ≤ _
      omega
    · have e1 : x7.1 60 16 = m := by
        rw [e7, si_cell (by decide), em 16 (by omega)]
        rcases ham with ⟨-, e⟩ | ⟨ea, e⟩
        · exact e.symm
        · exact absurd c ea
      have e2 : v.1 60 16 = m + 1 := by rw [ev, e1]; (simp only [si_get, sfl_get, Nat.reduceEqDiff, eq_self, and_false, false_and, and_true, true_and, if_true, if_false, reduceIte, reduceCtorEq])
      have vk : ∀ k, k ≠ 16 → k ≠ 3 → v.1 60 k = x.1 60 k := fun k h1 h2 => by rw [ev, si_get, if_neg (fun q => h1 q.2), e7, si_cell (by decide)]; exact em k h2
      have em2 : m = x.1 60 16 := by rw [← e1, e7, si_cell (by decide), em 16 (by omega)]
      have eQ2 : Q = (n.1, n.2.1, n.2.2.1, n.2.2.2.1, n.2.2.2.2 + 1) := by
        rcases eQ with ⟨e, eq⟩ | ⟨e, eq⟩
        · exact eq
        · exact absurd c e
      have e3 : (m + 1).toInt = m.toInt + 1 := t_add (by show _ ≤ _ + (1 : Int); omega) (by show _ + (1 : Int) ≤ _; omega)
      obtain ⟨n1, n2, n3, n4, n5⟩ := hCn
      rw [eQ2]
      refine ⟨by rw [vk 6 (by omega) (by omega)]; exact n1, by rw [vk 9 (by omega) (by omega)]; exact n2, by rw [vk 10 (by omega) (by omega)]; exact n3, ?_, ?_⟩
      · rw [vk 14 (by omega) (by omega)]; exact n4
      · show (v.1 60 16).toInt = ((n.2.2.2.2 + 1 : Nat) : Int)
        rw [e2, e3, em2]; omega
    · have e1 : x7.1 60 16 = m := by
        rw [e7, si_cell (by decide), em 16 (by omega)]
        rcases ham with ⟨-, e⟩ | ⟨ea, e⟩
        · exact e.symm
        · exact absurd c ea
      have em2 : m = x.1 60 16 := by rw [← e1, e7, si_cell (by decide), em 16 (by omega)]
      have e2 : v.1 60 16 = m + 1 := by rw [ev, e1]; (simp only [si_get, sfl_get, Nat.reduceEqDiff, eq_self, and_false, false_and, and_true, true_and, if_true, if_false, reduceIte, reduceCtorEq])
      have e3 : (m + 1).toInt = m.toInt + 1 := t_add (by show _ ≤ _ + (1 : Int); omega) (by show _ + (1 : Int) ≤ _; omega)
      have ev9 : v9 = (36, nn x, 0) := by
        rcases hv35 with ⟨-, e⟩ | ⟨e, -⟩
        · exact e
        · exact absurd c e
      rw [ev9, eN20]
      refine CGo_claim hcy hE2 hs20 hcp (GS_su gz) hrr (Or.inr ⟨rfl, ?_, by rw [e2, e3, em2], fun c k q q1 q2 => ?_⟩)
      · rw [ev, si_cell (by decide), e7, em2]; (simp only [si_get, sfl_get, Nat.reduceEqDiff, eq_self, and_false, false_and, and_true, true_and, if_true, if_false, reduceIte, reduceCtorEq])
      · rw [ev, si_get, if_neg q1, e7, em2, si_get, if_neg q2]
        exact hcw c k q
    · have e1 : x7.1 60 14 = m := by
        rw [e7, si_cell (by decide), em 14 (by omega)]
        rcases ham with ⟨e, -⟩ | ⟨-, e⟩
        · exact absurd e c
        · exact e.symm
      have e2 : v.1 60 14 = m + 1 := by rw [ev, e1]; (simp only [si_get, sfl_get, Nat.reduceEqDiff, eq_self, and_false, false_and, and_true, true_and, if_true, if_false, reduceIte, reduceCtorEq])
      rw [e2, t_add (by show _ ≤ _ + (1 : Int); omega) (by show _ + (1 : Int) ≤ _; omega)]
      show 0 ≤ _ + (1 : Int) ∧ _ + (1 : Int) ≤ _
      omega
    · have e1 : x7.1 60 14 = m := by
        rw [e7, si_cell (by decide), em 14 (by omega)]
        rcases ham with ⟨ea, e⟩ | ⟨-, e⟩
        · exact absurd ea c
        · exact e.symm
      have e2 : v.1 60 14 = m + 1 := by rw [ev, e1]; (simp only [si_get, sfl_get, Nat.reduceEqDiff, eq_self, and_false, false_and, and_true, true_and, if_true, if_false, reduceIte, reduceCtorEq])
      have vk : ∀ k, k ≠ 14 → k ≠ 3 → v.1 60 k = x.1 60 k := fun k h1 h2 => by rw [ev, si_get, if_neg (fun q => h1 q.2), e7, si_cell (by decide)]; exact em k h2
      have em2 : m = x.1 60 14 := by rw [← e1, e7, si_cell (by decide), em 14 (by omega)]
      have eQ2 : Q = (n.1, n.2.1, n.2.2.1, n.2.2.2.1 + 1, n.2.2.2.2) := by
        rcases eQ with ⟨e, eq⟩ | ⟨e, eq⟩
        · exact absurd e c
        · exact eq
      have e3 : (m + 1).toInt = m.toInt + 1 := t_add (by show _ ≤ _ + (1 : Int); omega) (by show _ + (1 : Int) ≤ _; omega)
      obtain ⟨n1, n2, n3, n4, n5⟩ := hCn
      rw [eQ2]
      refine ⟨by rw [vk 6 (by omega) (by omega)]; exact n1, by rw [vk 9 (by omega) (by omega)]; exact n2, by rw [vk 10 (by omega) (by omega)]; exact n3, ?_, ?_⟩
      · show (v.1 60 14).toInt = ((n.2.2.2.1 + 1 : Nat) : Int)
        rw [e2, e3, em2]; omega
      · rw [vk 16 (by omega) (by omega)]; exact n5
    · have e1 : x7.1 60 14 = m := by
        rw [e7, si_cell (by decide), em 14 (by omega)]
        rcases ham with ⟨ea, e⟩ | ⟨-, e⟩
        · exact absurd ea c
        · exact e.symm
      have em2 : m = x.1 60 14 := by rw [← e1, e7, si_cell (by decide), em 14 (by omega)]
      have e2 : v.1 60 14 = m + 1 := by rw [ev, e1]; (simp only [si_get, sfl_get, Nat.reduceEqDiff, eq_self, and_false, false_and, and_true, true_and, if_true, if_false, reduceIte, reduceCtorEq])
      have e3 : (m + 1).toInt = m.toInt + 1 := t_add (by show _ ≤ _ + (1 : Int); omega) (by show _ + (1 : Int) ≤ _; omega)
      have ev9 : v9 = (35, nn x, 0) := by
        rcases hv35 with ⟨e, -⟩ | ⟨-, e⟩
        · exact absurd e c
        · exact e
      rw [ev9, eN20]
      refine CGo_claim hcy hE2 hs20 hcp (GS_su gz) hrr (Or.inl ⟨rfl, ?_, by rw [e2, e3, em2], fun c k q q1 q2 => ?_⟩)
      · rw [ev, si_cell (by decide), e7, em2]; (simp only [si_get, sfl_get, Nat.reduceEqDiff, eq_self, and_false, false_and, and_true, true_and, if_true, if_false, reduceIte, reduceCtorEq])
      · rw [ev, si_get, if_neg q1, e7, em2, si_get, if_neg q2]
        exact hcw c k q
  have p36 : ∀ a m : Int32, (a = 0 ∧ m = x.1 60 16 ∨ ¬ a = 0 ∧ m = x.1 60 14) → (a = 0 ↔ K (nn x) = 21) → KE G q (d + 10) zk_X7_claim 36 [(0, vr 100), (1, vi a)] [vi m] x (rv Fv) X := by
    intro a m ham hak
    refine kg_X7_claim_36 hq _ _ ⟨fun c => p47 a m ham hak (by rw [t_lt, k4] at c; exact c), fun c => kh_refuse hq (hx ?_) hB _⟩
    rw [t_lt, k4] at c
    rw [eW]
    unfold pD
    rcases hk with k | k
    · have na : ¬ a = 0 := fun z => by
        have := hak.mp z
        rw [k] at this
        exact absurd this (by decide)
      have hm4 : ¬ n.2.2.2.1 < 4 := by
        have := hCn.2.2.2.1
        rcases ham with ⟨e, -⟩ | ⟨-, e⟩
        · exact absurd e na
        · rw [e] at c; omega
      rw [if_neg (by rw [k]; decide), if_neg (by rw [k]; decide), if_neg (by rw [k]; decide), if_neg (by rw [k]; decide), if_neg (by rw [k]; decide), if_pos k, if_neg (fun z => hm4 z.1)]
    · have na : a = 0 := hak.mpr k
      have hm4 : ¬ n.2.2.2.2 < 4 := by
        have := hCn.2.2.2.2
        rcases ham with ⟨-, e⟩ | ⟨e, -⟩
        · rw [e] at c; omega
        · exact absurd na e
      rw [if_neg (by rw [k]; decide), if_neg (by rw [k]; decide), if_neg (by rw [k]; decide), if_neg (by rw [k]; decide), if_neg (by rw [k]; decide), if_neg (by rw [k]; decide), if_pos k, if_neg (fun z => hm4 z.1)]
  have p14 : ∀ a : Int32, (a = 0 ↔ K (nn x) = 21) → KE G q (d + 10) zk_X7_claim 14 [(0, vr 100)] [vi a] x (rv Fv) X := fun a hak => kg_X7_claim_14 hq _ ⟨fun c => p36 _ _ (Or.inl ⟨c, rfl⟩) hak, fun c => p36 _ _ (Or.inr ⟨c, rfl⟩) hak⟩
  have i11 : x.1 23 (x.1 100 4).toNatClampNeg = 41 ↔ K (nn x) = 11 := KA_k hA hn0 41 (by decide)
  refine kg_X7_claim_0 hq (kp_sort hq hB.1.1 ⟨fun c => p14 _ ⟨fun _ => hk.resolve_left (fun z => c (i11.mpr z)), fun _ => rfl⟩, fun c => p14 _ ⟨fun z => absurd z (by decide), fun z => ?_⟩⟩)
  rw [i11.mp c] at z
  exact absurd z (by decide)
end KDI
end
