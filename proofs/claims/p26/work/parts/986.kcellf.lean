section
/-! the class: cells are told -/
section KDH
variable {G : kG} {q : kP} {d : Nat} {x x0 y z xs : gd} {F : Int32 → gd → Prop} {Fv : gd → Prop} {X : String → gd → Prop} {P : Option gv → gd → Prop} {K V : Nat → Int32} {sN : Nat → Nat → Bool} {e : Nat} {Ev : gV} {Ml N : gU} {T : gTd} {n : gN} {W : gD}
theorem HA_31 {U : Nat → Int32} {n a b : Nat} : HAw sN U n Ev (31, a, b) ↔ a < n ∧ U a = 1 := by unfold HAw; simp
theorem HA_32 {U : Nat → Int32} {n a b : Nat} : HAw sN U n Ev (32, a, b) ↔ (a < n ∧ U a = 1) ∧ b < n ∧ U b = 11 := by unfold HAw; simp
theorem HA_33 {U : Nat → Int32} {n a b : Nat} : HAw sN U n Ev (33, a, b) ↔ a < n ∧ U a = 1 := by unfold HAw; simp
theorem HA_34 {U : Nat → Int32} {n a b : Nat} : HAw sN U n Ev (34, a, b) ↔ a < n ∧ U a = 1 := by unfold HAw; simp
theorem HB_t {k a b : Nat} (h : k = 31 ∨ k = 32 ∨ k = 33 ∨ k = 34) : HB sN Ev (k, a, b) a 1 := Or.inr (Or.inr (Or.inr (Or.inr (Or.inr (Or.inr (Or.inr (Or.inr (Or.inr (Or.inr (Or.inr (Or.inr (Or.inr (Or.inl ⟨h, rfl, rfl⟩)))))))))))))
theorem HB_32w {a b : Nat} : HB sN Ev (32, a, b) b 11 := Or.inr (Or.inr (Or.inr (Or.inr (Or.inr (Or.inr (Or.inr (Or.inr (Or.inr (Or.inr (Or.inr (Or.inr (Or.inr (Or.inr ⟨rfl, rfl, rfl⟩)))))))))))))
theorem te1_ns {N : gU} (h : ∀ v ∈ N, ¬ (31 ≤ v.1 ∧ v.1 ≤ 36)) : N.filterMap (te1 K V) = [] := List.filterMap_eq_nil_iff.mpr (fun v hv => te1_no (h v hv))
theorem pCl_2 {n i t : Nat} {L : gU} (h : K (t - 1) = 17 ∧ t - 1 < 700) : pCl K V n i t L = if (K t = 1 ∧ t < 700) ∧ n < 24 then (if K (t + 1) = 65 then (if t + 1 < 700 ∧ n + prz K V (t + 2) ≤ 24 ∧ (K (t + 2) = 2 ∧ t + 2 < 700) ∧ K (t + 3) = 66 ∧ t + 3 < 700 then ((pCv K (t + 4, L ++ [(32, t, t + 2)])).bind (pt K 67)).bind (fun q => some (n + prz K V (t + 2), q.1, q.2 ++ [(83, i, t)])) else none) else ((pCv K (t + 1, L ++ [(31, t, 0)])).bind (pt K 67)).bind (fun q => some (n + 1, q.1, q.2 ++ [(83, i, t)]))) else none := by
  unfold pCl
  by_cases c : (K t = 1 ∧ t < 700) ∧ n < 24
  · rw [if_pos ⟨h, c⟩, if_pos c]
  · rw [if_neg (fun z => c z.2), if_neg c]
/-- one cell, or a row of them, is told -/
theorem TBk_cell {u v : gd} {t : Int32} {b c9 : Nat} (h : TBk x T) (fu : fm (fun c k => (c = 40 ∧ k = 6) ∨ (44 ≤ c ∧ c ≤ 46 ∧ k = (x.1 40 6).toNatClampNeg)) x u) (cu : (u.1 40 6).toInt = (x.1 40 6).toInt + 1) (e4 : u.1 44 (x.1 40 6).toNatClampNeg = t) (e6 : (u.1 46 (x.1 40 6).toNatClampNeg).toInt = (b : Nat)) (fv : fm (fun c k => (c = 60 ∧ k = 6) ∨ c = 68 ∨ c = 69) u v) (e5 : u.1 45 (x.1 40 6).toNatClampNeg = x.1 60 6) (ev : (v.1 60 6).toInt = (x.1 60 6).toInt + (max b 1 : Nat)) : TBk v (T ++ [(t.toNatClampNeg, 0, b, c9)]) := by
  obtain ⟨⟨a1, ⟨a2, a4⟩, a3⟩, ⟨b1, b2⟩, c1, c2⟩ := h
  have m1 : 1 ≤ max b 1 := Nat.le_max_right _ _
  have eN : (x.1 40 6).toNatClampNeg = (tdS T 0).length := by rw [t_cl, a1]; rfl
  unfold TBk
  rw [tdS_y, tdS_n (show ¬ 0 = 1 by decide), tdS_n (show ¬ 0 = 2 by decide), fv 40 6 (by omega), fv 40 8 (by omega), fv 40 10 (by omega), fu 40 8 (by omega), fu 40 10 (by omega)]
  refine ⟨⟨by rw [List.length_append, List.length_singleton]; omega, ⟨by omega, ?_⟩, fun i q hq => ?_⟩, ⟨b1, fun i q hq => by rw [fv 48 i (by omega), fu 48 i (by omega)]; exact b2 i q hq⟩, c1, fun i q hq => by rw [fv 50 i (by omega), fu 50 i (by omega)]; exact c2 i q hq⟩
  · rw [nbT_app, ev, a4]
    show _ = ((nbT 0 (tdS T 0) + (max b 1 + 0) : Nat) : Int)
    omega
  rw [fv 44 i (by omega), fv 46 i (by omega), fv 45 i (by omega)]
  rcases ap1 hq with ⟨hi, hq⟩ | ⟨hi, hq⟩
  · rw [fu 44 i (by omega), fu 46 i (by omega), fu 45 i (by omega), List.take_append_of_le_length (Nat.le_of_lt hi)]
    exact a3 i q hq
  · rw [hi, List.take_left, ← eN, e4, hq, e5]
    exact ⟨rfl, e6, a4⟩
theorem kh_cellDefinition (hq : kV q) (L : gU) (hx : W = none → RX x0 X) (eW : W = pD K V n (nn x) L) (hk : K (nn x) = 34 ∨ K (nn x) = 17) (hA : KA K V sN e x) (hn0 : nn x ≤ e) (hTb : TBk x T) (hCn : CNk x n) (hI : OT x0 x) (h : ∀ y N n', OT x0 y → nx x < nx y → RIw K V sN e Ev x y N → still N → W = some (n', nn y, L ++ N) → TBk y (T ++ N.filterMap (te1 K V)) → CNk y n' → La x y → CGo sN V K Ev x y N → Fv y) : KE G q (d + 9) zk_X7_cellDefinition 0 [(0, vr 100)] [] x (rv Fv) X := by
  have k24 : (24 : Int32).toInt = 24 := rfl
  have k0 : (0 : Int32).toInt = 0 := rfl
  have k1 : (1 : Int32).toInt = 1 := rfl
  have hB := OT_b hI
  have acc := hI.2.2.2.2.2.2
  have bx0 := hB.1.1.2.1
  have hR0 : RIw K V sN e Ev x x [] := ⟨hA, hn0, UR_0 rfl⟩
  obtain ⟨Q, eQ⟩ : ∃ Q : Nat × Nat × gU → gD, Q = fun q => some ((q.1, n.2), q.2) := ⟨_, rfl⟩
  have p109 : ∀ (su row many t : Int32) (y : gd) (N1 : gU) (rn wn : Nat), (su = 0 ∨ su = 1) → (su = 1 ↔ K (nn x) = 34) → (∀ c k, ccS c k → y.1 c k = x.1 c k) → (many.toInt = row.toInt ∨ many.toInt = 1) → ((∀ d, ces K V N1 d = (many.toInt.toNat, d.2)) ∧ (∀ c, cds sN K N1 c = c) ∧ tPs sN V K N1 Ev = []) → OTb x0 y → GS x y → nx x < nx y → tk y t → 0 ≤ row.toInt → row.toInt ≤ 8 → 1 ≤ many.toInt → row.toInt ≤ many.toInt → (y.1 60 6).toInt + many.toInt ≤ 24 → RIw K V sN e Ev x y N1 → still N1 → N1.filterMap (te1 K V) = [(t.toNatClampNeg, 0, rn, wn)] → row.toInt = (rn : Nat) → W = (((pCv K (nn y, L ++ N1)).bind (pt K 67)).bind (fun q => some (n.1 + many.toInt.toNat, q.1, q.2 ++ [(83, nn x, t.toNatClampNeg)]))).bind Q → KE G q (d + 9) zk_X7_cellDefinition 109 [(0, vr 100), (1, vi su), (2, vi row), (3, vi many), (4, vi t)] [] y (rv Fv) X := by
    intro su row many t y N1 rn wn hs01 hs34 hcy hmr hN1c hBy gy ny ht r0 r8 m1 rm hc hRy hN1 hte hrn hWy
    obtain ⟨W1, eW1⟩ : ∃ W1, W1 = pCv K (nn y, L ++ N1) := ⟨_, rfl⟩
    rw [← eW1] at hWy
    refine kg_X7_cellDefinition_109 hq _ _ _ _ (kh_startValue (Ev := Ev) hq (L ++ N1) (fun no => hx (by rw [hWy, no]; rfl)) eW1 hBy hRy.1 hRy.2.1 (fun v z hBz nz gz N2 hRz hN2 hnt hWz hst hcz => ?_))
    have by0 := hBy.1.1.2.1
    have hRxz := RI_app by0 hN1 hRy gz.1 hRz
    rw [hWz] at hWy
    refine kh_need hq 27 67 (by decide) (by decide) (by decide) (fun no => hx (by rw [hWy]; show ((pt K 67 (nn z, L ++ N1 ++ N2)).bind _).bind Q = none; rw [pt_no no]; rfl)) hBz hRxz (fun kk c7 w hBw nw gw enw hRw _ hcw => ?_)
    have hWw : W = some ((n.1 + many.toInt.toNat, n.2), nn w, L ++ (N1 ++ N2 ++ [(83, nn x, t.toNatClampNeg)])) := by
      rw [hWy]
      show ((pt K 67 (nn z, L ++ N1 ++ N2)).bind _).bind Q = _
      rw [pt_yes kk c7, enw, eQ]
      show some ((n.1 + many.toInt.toNat, n.2), nn z + 1, L ++ N1 ++ N2 ++ [(83, nn x, t.toNatClampNeg)]) = _
      rw [List.append_assoc L, List.append_assoc L]
    have gg := GS_tr gz gw
    have g3 := GS_tr gy gg
    have hNw := hBw.2.2.1.2.1
    have hCw := hBw.2.2.1.2.2.1
    have w6 : w.1 60 6 = y.1 60 6 := GS_at gg _ _ (by unfold sSum; omega)
    have hTw : TBk w T := TBk_e hTb (TBe_GS g3)
    have hCnw : CNk w n := CNk_e hCn (TBe_GS g3)
    have c46 : (w.1 40 6).toInt < 24 := by
      have := hTw.1.2.1.1
      rw [w6] at this
      omega
    refine kf_tellCell hq _ _ _ ⟨hNw.1.1, c46⟩ (fun u fu cu u44 u45 u46 => kf_addCells hq _ _ _ hs01 ?_ (by omega) ?_ (fun v9 fv ev hl9 => rv_i (h v9 (N1 ++ N2 ++ [(83, nn x, t.toNatClampNeg)]) (n.1 + many.toInt.toNat, n.2) (OT_of (OTb_nm hBw ?_ ?_ ?_ ?_) ?_) ?_ ?_ ?_ ?_ ?_ ?_ ?_ ?_)))
    · rw [fu 60 6 (by omega), w6]; have := hCw.1.1; rw [w6] at this; exact this
    · rw [fu 60 6 (by omega), w6]; exact hc
    · exact fm_tr (fm_w fu (fun c k q => by omega)) (fm_w fv (fun c k q => by omega))
    · rw [fu 60 6 (by omega)] at ev
      have eN : (((w.1 40 6).toNatClampNeg : Nat) : Int) = (w.1 40 6).toInt := by
        have := hNw.1.1
        rw [t_cl]; omega
      have tkk : ∀ a, tk w a → tk v9 a := fun a ha => by unfold tk at ha ⊢; rw [fv 20 7 (by omega), fu 20 7 (by omega)]; exact ha
      have htw : tk w t := by unfold tk at ht ⊢; rw [GS_at gg 20 7 (by unfold sSum; omega)]; exact ht
      unfold NM
      rw [fv 40 6 (by omega), fv 40 8 (by omega), fu 40 8 (by omega), fv 40 10 (by omega), fu 40 10 (by omega)]
      refine ⟨⟨by have := hNw.1.1; omega, by omega⟩, hNw.2.1, hNw.2.2.1, fun i hi => ?_, fun i hi => ?_, fun i hi => ?_⟩
      · rw [fv 44 i (by omega), fv 45 i (by omega), fv 46 i (by omega)]
        by_cases hi2 : i = (w.1 40 6).toNatClampNeg
        · rw [hi2, u44, u45, u46]
          have := hCw.1.1
          exact ⟨tkk _ htw, this, r0, r8, by omega, by omega⟩
        · rw [fu 44 i (by omega), fu 45 i (by omega), fu 46 i (by omega)]
          obtain ⟨p1, p2, p3, p4, p5, p6⟩ := hNw.2.2.2.1 i (by omega)
          exact ⟨tkk _ p1, p2, p3, p4, by omega, by omega⟩
      · rw [fv 48 i (by omega), fu 48 i (by omega)]; exact tkk _ (hNw.2.2.2.2.1 i hi)
      · rw [fv 50 i (by omega), fu 50 i (by omega)]; exact tkk _ (hNw.2.2.2.2.2 i hi)
    · have z5 : v9.1 100 5 = w.1 100 5 := by rw [fv 100 5 (by omega), fu 100 5 (by omega)]
      have g : ∀ k, k ≠ 6 → v9.1 60 k = w.1 60 k := fun k hk => by rw [fv 60 k (by omega), fu 60 k (by omega)]
      unfold CD at hCw ⊢
      rw [g 9 (by omega), g 10 (by omega), g 14 (by omega), g 16 (by omega), g 13 (by omega), fv 40 8 (by omega), fu 40 8 (by omega), fv 40 10 (by omega), fu 40 10 (by omega)]
      rw [fu 60 6 (by omega), w6] at ev
      refine ⟨by have := hCw.1.1; rw [w6] at this; omega, hCw.2.1, hCw.2.2.1, hCw.2.2.2.1, hCw.2.2.2.2.1, hCw.2.2.2.2.2.1, fun c => absurd (by rw [z5]; exact hBw.2.2.2.2.1) c⟩
    · have hTw := hBw.2.2.1.2.2.2.2
      unfold TS ssm at hTw ⊢
      rw [fv 60 10 (by omega), fu 60 10 (by omega), fv 80 9 (by omega), fu 80 9 (by omega), fv 100 5 (by omega), fu 100 5 (by omega), fv 81 _ (by omega), fu 81 _ (by omega)]
      refine ⟨fun i hi => ?_, hTw.2⟩
      rw [fv 72 i (by omega), fu 72 i (by omega)]; exact hTw.1 i hi
    · have e1 : ssm v9 = ssm w := by unfold ssm; rw [fv 80 9 (by omega), fu 80 9 (by omega)]
      have e2 : nx v9 = nx w := by unfold nx; rw [fv 100 4 (by omega), fu 100 4 (by omega)]
      rw [e1, e2, GS_sm gw, GS_sm gz, GS_sm gy]
      omega
    · have e2 : nx v9 = nx w := by unfold nx; rw [fv 100 4 (by omega), fu 100 4 (by omega)]
      omega
    · exact RI_dull (RI_st hRw (by rw [fv 100 4 (by omega), fu 100 4 (by omega)]) (fun j => by rw [fv 42 j (by omega), fu 42 j (by omega)]) (fun c k q1 q2 => by rw [fv c k (by omega), fu c k (by omega)])) (dull_k (by decide))
    · exact still_app (still_app hN1 hN2) (stl_k (by decide))
    · have en9 : nn v9 = nn w := by unfold nn; rw [fv 100 4 (by omega), fu 100 4 (by omega)]
      rw [en9]; exact hWw
    · rw [List.filterMap_append, List.filterMap_append, hte, te1_ns hnt, te1_ns (N := [(83, nn x, t.toNatClampNeg)]) (fun v hv => by rw [List.mem_singleton.mp hv]; exact (show ¬ (31 ≤ 83 ∧ 83 ≤ 36) by decide)), List.append_nil, List.append_nil]
      refine TBk_cell hTw fu cu u44 (by rw [u46]; exact hrn) fv u45 ?_
      rw [fu 60 6 (by omega)] at ev
      omega
    · rw [fu 60 6 (by omega)] at ev
      obtain ⟨n1, n2, n3, n4, n5⟩ := hCnw
      have g : ∀ k, k ≠ 6 → v9.1 60 k = w.1 60 k := fun k hk => by rw [fv 60 k (by omega), fu 60 k (by omega)]
      refine ⟨?_, ?_, ?_, ?_, ?_⟩
      · show (v9.1 60 6).toInt = ((n.1 + many.toInt.toNat : Nat) : Int)
        omega
      · rw [g 9 (by omega)]; exact n2
      · rw [g 10 (by omega)]; exact n3
      · rw [g 14 (by omega)]; exact n4
      · rw [g 16 (by omega)]; exact n5
    · exact La_tr g3.1 ⟨fun c k q1 q2 => by rw [fv c k (by omega), fu c k (by omega)], by unfold nx; rw [fv 100 4 (by omega), fu 100 4 (by omega)]; exact Int.le_refl _, fun j _ => by rw [fv 42 j (by omega), fu 42 j (by omega)]⟩
    · have hcu : ∀ c k, ccS c k → u.1 c k = x.1 c k := fun c k q => (fu c k (by unfold ccS at q; omega)).trans ((hcw c k q).trans ((hcz c k q).trans (hcy c k q)))
      have e83c : ∀ c, cds sN K [(83, nn x, t.toNatClampNeg)] c = c := fun c => rfl
      have e83t : tPs sN V K [(83, nn x, t.toNatClampNeg)] Ev = [] := rfl
      refine CGo_cell (fun c k q q1 q2 q3 => (fv c k (by omega)).trans (hcu c k q)) (fun c => by rw [cds_app, cds_app, hN1c.2.1, hst.2.1, e83c]) (by rw [tPs_app, tPs_app, hN1c.2.2, exs_still hN1, hst.2.2, exs_still (still_app hN1 hN2), e83t]; rfl) (still_app (still_app hN1 hN2) (stl_k (by decide))) (fun d hd => ?_)
      have eb : decide (su = 1) = decide (K (nn x) = 34) := decide_eq_decide.mpr hs34
      have ec : (ces K V (N1 ++ N2 ++ [(83, nn x, t.toNatClampNeg)]) d).2.2 = d.2.2 ++ List.replicate many.toInt.toNat (v, decide (su = 1)) := by
        rw [ces_app, ces_app, hN1c.1, hst.1, eb]; rfl
      rw [ec]
      exact hl9 d.2.2 ⟨by rw [hcu 60 6 (Or.inl ⟨rfl, by decide⟩)]; exact hd.1, fun j q hq => by rw [hcu 68 j (Or.inr (Or.inl ⟨by decide, by decide⟩)), hcu 69 j (Or.inr (Or.inl ⟨by decide, by decide⟩))]; exact hd.2 j q hq⟩
  have p79 : ∀ (su row many : Int32) (y : gd), (su = 0 ∨ su = 1) → (su = 1 ↔ K (nn x) = 34) → (∀ c k, ccS c k → y.1 c k = x.1 c k) → OTb x0 y → GS x y → RIw K V sN e Ev x y [] → 0 ≤ row.toInt → row.toInt ≤ 8 → 1 ≤ many.toInt → row.toInt ≤ many.toInt → (many.toInt = row.toInt ∨ many.toInt = 1) → (K (nn y) = 1 → nn y < 700 → (row = 0 ∧ ¬ K (nn y + 1) = 65) ∨ (0 < row.toInt ∧ K (nn y + 1) = 65 ∧ (nn y + 1 < 700 → row.toInt = (prz K V (nn y + 2) : Nat)))) → (K (nn y) = 1 → (y.1 60 6).toInt + many.toInt ≤ 24) → W = (if (K (nn y) = 1 ∧ nn y < 700) ∧ n.1 < 24 then (if K (nn y + 1) = 65 then (if nn y + 1 < 700 ∧ n.1 + prz K V (nn y + 2) ≤ 24 ∧ (K (nn y + 2) = 2 ∧ nn y + 2 < 700) ∧ K (nn y + 3) = 66 ∧ nn y + 3 < 700 then ((pCv K (nn y + 4, L ++ [(32, nn y, nn y + 2)])).bind (pt K 67)).bind (fun q => some (n.1 + prz K V (nn y + 2), q.1, q.2 ++ [(83, nn x, nn y)])) else none) else ((pCv K (nn y + 1, L ++ [(31, nn y, 0)])).bind (pt K 67)).bind (fun q => some (n.1 + 1, q.1, q.2 ++ [(83, nn x, nn y)]))) else none).bind Q → KE G q (d + 9) zk_X7_cellDefinition 79 [(0, vr 100), (1, vi su), (2, vi row), (3, vi many)] [] y (rv Fv) X := by
    intro su row many y hs01 hs34 hcy hBy gy hRy r0 r8 m1 rm hm hrow hc hWy
    have ln := gy.1.2.1
    have by0 := hBy.1.1.2.1
    have n6 : y.1 60 6 = x.1 60 6 := GS_at gy _ _ (by unfold sSum; omega)
    have hn1 : (y.1 60 6).toInt = (n.1 : Nat) := by rw [n6]; exact hCn.1
    refine kg_X7_cellDefinition_79 hq _ _ _ (kh_needFor hq 2 1 1 (by decide) (by decide) (by decide) (by decide) (fun no => hx (by rw [hWy, if_neg (fun z => no z.1)]; rfl)) hBy hRy.1 hRy.2.1 (fun kk c7 z hBz nz gz enz hAz hnz eu ht hcz => ?_))
    have hc := hc kk
    have n24 : n.1 < 24 := by omega
    rw [if_pos ⟨⟨kk, c7⟩, n24⟩] at hWy
    have bz0 := hBz.1.1.2.1
    have z6 : z.1 60 6 = y.1 60 6 := GS_at gz _ _ (by unfold sSum; omega)
    refine ⟨fun c => ?_, fun c => ?_⟩
    · rw [t_le, k0] at c
      have h65 : row = 0 ∧ ¬ K (nn y + 1) = 65 := by
        rcases hrow kk c7 with g | ⟨g, -⟩
        · exact g
        · omega
      have m1' : many.toInt = 1 := by
        rw [h65.1, k0] at hm
        omega
      have mN : many.toInt.toNat = 1 := by omega
      rw [if_neg h65.2] at hWy
      have hRz : RIw K V sN e Ev x z ([] ++ [(31, nn y, 0)]) := RI_use hRy by0 gz.1 hAz hnz enz (HAs_one.mpr (HA_31.mpr ⟨by omega, eu⟩)) (fun _ => HBs_one.mpr (by rw [eu]; exact HB_t (Or.inl rfl)))
      exact p109 su row many _ z [(31, nn y, 0)] 0 0 hs01 hs34 (fun c k q => (hcz c k q).trans (hcy c k q)) hm ⟨fun d => by rw [mN]; rfl, fun c => rfl, rfl⟩ hBz (GS_tr gy gz) (by omega) ht r0 r8 m1 rm (by rw [z6]; exact hc) hRz (stl_k (by decide)) rfl (by rw [h65.1]; rfl) (by rw [hWy, mN, enz])
    · rw [t_le, k0] at c
      obtain ⟨-, k65, hpz⟩ : 0 < row.toInt ∧ K (nn y + 1) = 65 ∧ (nn y + 1 < 700 → row.toInt = (prz K V (nn y + 2) : Nat)) := by
        rcases hrow kk c7 with ⟨g, -⟩ | g
        · rw [g, k0] at c; omega
        · exact g
      rw [if_pos k65] at hWy
      have hRz0 : RIw K V sN e Ev z z [] := ⟨hAz, hnz, UR_0 rfl⟩
      refine kh_pass hq (fun c8 => hx (by rw [hWy, if_neg (fun w => absurd w.1 (by omega))]; rfl)) hBz hRz0 (by rw [enz, k65]; decide) (by rw [enz, k65]; decide) (fun c8 w hBw nw gw enw hRw uw hcw => ?_)
      rw [enz] at c8
      have pz := hpz c8
      have mz : many.toInt.toNat = prz K V (nn y + 2) := by omega
      have enw2 : nn w = nn y + 2 := by omega
      refine kh_needFor hq 3 11 2 (by decide) (by decide) (by decide) (by decide) (fun no => hx (by rw [hWy, if_neg (fun z => no (by rw [enw2]; exact z.2.2.1))]; rfl)) hBw hRw.1 hRw.2.1 (fun kk2 c9 v hBv nv gv env hAv hnv euv htv hcv => ?_)
      rw [enw2] at kk2 c9 euv
      have env2 : nn v = nn y + 3 := by omega
      have hRv0 : RIw K V sN e Ev v v [] := ⟨hAv, hnv, UR_0 rfl⟩
      refine kh_need hq 26 66 (by decide) (by decide) (by decide) (fun no => hx (by rw [hWy, if_neg (fun z => no (by rw [env2]; exact z.2.2.2))]; rfl)) hBv hRv0 (fun kk3 c10 u hBu nu gu enu hRu uu hcu => ?_)
      rw [env2] at kk3 c10 uu
      have enu2 : nn u = nn y + 4 := by omega
      have gg := GS_tr (GS_tr gw gv) gu
      have bw0 := hBw.1.1.2.1
      have bv0 := hBv.1.1.2.1
      obtain ⟨-, l1⟩ := La_nn by0 (GS_tr gz gg).1
      obtain ⟨-, l2⟩ := La_nn bz0 gg.1
      obtain ⟨-, l3⟩ := La_nn bw0 (GS_tr gv gu).1
      obtain ⟨-, l4⟩ := La_nn bv0 gu.1
      have m0 : u.1 42 (nn y) = 1 := by rw [l2 _ (by omega)]; exact eu
      have m1' : u.1 42 (nn y + 1) = 0 := by rw [l3 _ (by omega), ← enz]; exact uw
      have m2 : u.1 42 (nn y + 2) = 11 := by rw [l4 _ (by omega)]; exact euv
      have hRu : RIw K V sN e Ev x u [(32, nn y, nn y + 2)] := by
        refine ⟨hRu.1, hRu.2.1, HAs_one.mpr (HA_32.mpr ⟨⟨by omega, m0⟩, by omega, m2⟩), fun j h1 h2 h3 => HBs_one.mpr ?_⟩
        by_cases hj : j < nn y
        · rw [l1 j hj] at h3
          exact (hRy.2.2.2 j h1 hj h3).elim
        · have hj4 : j = nn y ∨ j = nn y + 1 ∨ j = nn y + 2 ∨ j = nn y + 3 := by omega
          rcases hj4 with ej | ej | ej | ej
          · rw [ej, m0]; exact HB_t (Or.inr (Or.inl rfl))
          · rw [ej] at h3; exact absurd m1' h3
          · rw [ej, m2]; exact HB_32w
          · rw [ej] at h3; exact absurd uu h3
      refine p109 su row many _ u [(32, nn y, nn y + 2)] (prz K V (nn y + 2)) (nn y + 2) hs01 hs34 (fun c k q => (hcu c k q).trans ((hcv c k q).trans ((hcw c k q).trans ((hcz c k q).trans (hcy c k q))))) hm ⟨fun d => by rw [mz]; rfl, fun c => rfl, rfl⟩ hBu (GS_tr (GS_tr gy gz) gg) (by omega) ?_ r0 r8 m1 rm ?_ hRu (stl_k (by decide)) rfl pz ?_
      · unfold tk at ht ⊢; rw [GS_at gg 20 7 (by unfold sSum; omega)]; exact ht
      · rw [GS_at gg 60 6 (by unfold sSum; omega), z6]; exact hc
      · rw [hWy, if_pos ⟨c8, by omega, ⟨kk2, c9⟩, kk3, c10⟩, mz, enu2]
  have p45 : ∀ (su row : Int32) (y : gd), (su = 0 ∨ su = 1) → (su = 1 ↔ K (nn x) = 34) → (∀ c k, ccS c k → y.1 c k = x.1 c k) → OTb x0 y → GS x y → RIw K V sN e Ev x y [] → 0 ≤ row.toInt → row.toInt ≤ 8 → (K (nn y) = 1 → nn y < 700 → (row = 0 ∧ ¬ K (nn y + 1) = 65) ∨ (0 < row.toInt ∧ K (nn y + 1) = 65 ∧ (nn y + 1 < 700 → row.toInt = (prz K V (nn y + 2) : Nat)))) → W = (if (K (nn y) = 1 ∧ nn y < 700) ∧ n.1 < 24 then (if K (nn y + 1) = 65 then (if nn y + 1 < 700 ∧ n.1 + prz K V (nn y + 2) ≤ 24 ∧ (K (nn y + 2) = 2 ∧ nn y + 2 < 700) ∧ K (nn y + 3) = 66 ∧ nn y + 3 < 700 then ((pCv K (nn y + 4, L ++ [(32, nn y, nn y + 2)])).bind (pt K 67)).bind (fun q => some (n.1 + prz K V (nn y + 2), q.1, q.2 ++ [(83, nn x, nn y)])) else none) else ((pCv K (nn y + 1, L ++ [(31, nn y, 0)])).bind (pt K 67)).bind (fun q => some (n.1 + 1, q.1, q.2 ++ [(83, nn x, nn y)]))) else none).bind Q → KE G q (d + 9) zk_X7_cellDefinition 45 [(0, vr 100), (1, vi su)] [vi row] y (rv Fv) X := by
    intro su row y hs01 hs34 hcy hBy gy hRy r0 r8 hrow hWy
    have i1 : y.1 23 (y.1 100 4).toNatClampNeg = 2 ↔ K (nn y) = 1 := KA_k hRy.1 hRy.2.1 2 (by decide)
    have c6 := hBy.2.2.1.2.2.1.1
    have n6 : y.1 60 6 = x.1 60 6 := GS_at gy _ _ (by unfold sSum; omega)
    have hn1 : (y.1 60 6).toInt = (n.1 : Nat) := by rw [n6]; exact hCn.1
    refine kg_X7_cellDefinition_45 hq _ _ (fun m hm m1 m2 => ?_)
    rw [k1] at hm m2
    refine kp_sort hq hBy.1.1 ⟨fun c => p79 su row m y hs01 hs34 hcy hBy gy hRy r0 r8 m2 m1 hm hrow (fun q => absurd (i1.mpr q) c) hWy, fun c1 => ⟨fun c => p79 su row m y hs01 hs34 hcy hBy gy hRy r0 r8 m2 m1 hm hrow (fun _ => ?_) hWy, fun c => kh_refuse hq (hx ?_) hBy _⟩⟩
    · rw [t_le, k24, t_add (by omega) (by omega)] at c
      exact c
    · rw [t_le, k24, t_add (by omega) (by omega)] at c
      rw [hWy]
      by_cases cc : (K (nn y) = 1 ∧ nn y < 700) ∧ n.1 < 24
      · rw [if_pos cc]
        rcases hrow cc.1.1 cc.1.2 with ⟨g1, g2⟩ | ⟨g1, g2, g3⟩
        · exfalso
          rw [g1, k0] at hm
          omega
        · rw [if_pos g2, if_neg (fun z => ?_)]
          · rfl
          · have := g3 z.1
            omega
      · rw [if_neg cc]; rfl
  have p23 : ∀ (su : Int32) (y : gd), (su = 0 ∨ su = 1) → (su = 1 ↔ K (nn x) = 34) → (∀ c k, ccS c k → y.1 c k = x.1 c k) → OTb x0 y → GS x y → RIw K V sN e Ev x y [] → W = (pCl K V n.1 (nn x) (nn y + 1) L).bind Q → KE G q (d + 9) zk_X7_cellDefinition 23 [(0, vr 100), (1, vi su)] [] y (rv Fv) X := by
    intro su y hs01 hs34 hcy hBy gy hRy hWy
    refine kg_X7_cellDefinition_23 hq _ (kh_need hq 47 17 (by decide) (by decide) (by decide) (fun no => hx (by rw [hWy]; unfold pCl; rw [if_neg (fun z => no z.1)]; rfl)) hBy hRy (fun kk c7 z hBz nz gz enz hRz _ hcz => ?_))
    have hczx : ∀ c k, ccS c k → z.1 c k = x.1 c k := fun c k q => (hcz c k q).trans (hcy c k q)
    have ek : K (nn y + 1 - 1) = 17 ∧ nn y + 1 - 1 < 700 := ⟨kk, c7⟩
    rw [pCl_2 ek, ← enz] at hWy
    have i1 : z.1 23 (z.1 100 4).toNatClampNeg = 2 ↔ K (nn z) = 1 := KA_k hRz.1 hRz.2.1 2 (by decide)
    refine kp_sort hq hBz.1.1 ⟨fun c => p45 su 0 z hs01 hs34 hczx hBz (GS_tr gy gz) hRz (by decide) (by decide) (fun q => absurd (i1.mpr q) c) hWy, fun c => ?_⟩
    by_cases h7 : nn z < 700
    · exact kf_rowAhead hq hBz.1.1 hRz.1 hRz.2.1 (i1.mp c) h7 (fun r r0 r8 hr => p45 su r z hs01 hs34 hczx hBz (GS_tr gy gz) hRz r0 r8 (fun _ _ => hr) hWy)
    · exact kp_rowAhead hq hBz.1.1 (fun r r0 r8 hr => p45 su r z hs01 hs34 hczx hBz (GS_tr gy gz) hRz r0 r8 (fun _ q => absurd q h7) hWy)
  have i34 : x.1 23 (x.1 100 4).toNatClampNeg = 64 ↔ K (nn x) = 34 := KA_k hA hn0 64 (by decide)
  refine kg_X7_cellDefinition_0 hq (kp_sort hq hB.1.1 ⟨fun c => kg_X7_cellDefinition_14 hq _ ⟨fun _ => p23 _ x (Or.inl rfl) ⟨fun q => absurd q (by decide), fun q => absurd (i34.mpr q) c⟩ (fun c k _ => rfl) hB GS_rf hR0 ?_, fun q => absurd rfl q⟩, fun c => kg_X7_cellDefinition_14 hq _ ⟨fun q => absurd q (by decide), fun _ => ?_⟩⟩)
  · have k17 : K (nn x) = 17 := hk.resolve_left (fun z => c (i34.mpr z))
    rw [eW, eQ]
    unfold pD
    rw [if_neg (by rw [k17]; decide), if_pos k17]
  · have k34 := i34.mp c
    refine kh_pass hq (fun c7 => hx (by rw [eW]; unfold pD; rw [if_pos k34, if_neg (show ¬ nn x < 700 by omega)])) hB hR0 (by rw [k34]; decide) (by rw [k34]; decide) (fun c7 y hBy ny gy eny hRy _ hcy => p23 _ y (Or.inr rfl) ⟨fun _ => k34, fun _ => rfl⟩ hcy hBy gy hRy ?_)
    rw [eW, eQ, eny]
    unfold pD
    rw [if_pos k34, if_pos c7]
end KDH
end
section
/-! the class: locks, threads, claims; all is read -/
section KRL
variable {G : kG} {q : kP} {d : Nat} {x x0 y z : gd} {F : Int32 → gd → Prop} {Fv : gd → Prop} {X : String → gd → Prop} {P : Option gv → gd → Prop}
theorem kp_names_clear (hq : kV q) (h : ∀ y, fm (fun c k => c = 40 ∨ c = 42 ∨ c = 43) x y → y.1 40 6 = 0 → y.1 40 8 = 0 → y.1 40 10 = 0 → (∀ j, j < 702 → y.1 42 j = 0) → Fv y) : KT G q (d + 1) zk_X6_clear 0 [(0, vr 40)] [] x (rv Fv) := by
  refine kg_X6_clear_0 hq (fun x1 e1 x2 e2 x3 e3 x4 e4 z ez => rv_i (h z ?_ ?_ ?_ ?_ (fun j hj => ?_)))
  · rw [ez, e4, e3, e2, e1]
    exact fm_fl (fm_fl (fm_si (fm_si (fm_si (fm_rf _ _) (Or.inl rfl)) (Or.inl rfl)) (Or.inl rfl)) (fun k _ => Or.inr (Or.inl rfl))) (fun k _ => Or.inr (Or.inr rfl))
  · rw [ez, e4, e3, e2, e1]; (simp only [si_get, sfl_get, Nat.reduceEqDiff, eq_self, and_false, false_and, and_true, true_and, if_true, if_false, reduceIte, reduceCtorEq])
  · rw [ez, e4, e3, e2, e1]; (simp only [si_get, sfl_get, Nat.reduceEqDiff, eq_self, and_false, false_and, and_true, true_and, if_true, if_false, reduceIte, reduceCtorEq])
  · rw [ez, e4, e3, e2, e1]; (simp only [si_get, sfl_get, Nat.reduceEqDiff, eq_self, and_false, false_and, and_true, true_and, if_true, if_false, reduceIte, reduceCtorEq])
  · rw [ez, e4, sfl_get, if_neg (by omega), sfl_get, if_pos ⟨rfl, hj⟩]
theorem kp_code_clear (hq : kV q) (h : ∀ y, fm (fun c k => c = 60 ∨ (c = 80 ∧ k = 9)) x y → y.1 80 9 = 0 → y.1 60 3 = 0 → y.1 60 6 = 0 → y.1 60 9 = 0 → y.1 60 10 = 0 → y.1 60 13 = 0 → y.1 60 14 = 0 → y.1 60 16 = 0 → Fv y) : KT G q d zk_X0_clear 0 [(0, vr 60)] [] x (rv Fv) := by
  refine kg_X0_clear_0 hq (fun x1 e1 x2 e2 x3 e3 x4 e4 x5 e5 x6 e6 x7 e7 z ez => rv_i (h z ?_ ?_ ?_ ?_ ?_ ?_ ?_ ?_ ?_))
  · rw [ez, e7, e6, e5, e4, e3, e2, e1]
    exact fm_si (fm_si (fm_si (fm_si (fm_si (fm_si (fm_si (fm_si (fm_rf _ _) (Or.inr ⟨rfl, rfl⟩)) (Or.inl rfl)) (Or.inl rfl)) (Or.inl rfl)) (Or.inl rfl)) (Or.inl rfl)) (Or.inl rfl)) (Or.inl rfl)
  all_goals (rw [ez, e7, e6, e5, e4, e3, e2, e1]; (simp only [si_get, sfl_get, Nat.reduceEqDiff, eq_self, and_false, false_and, and_true, true_and, if_true, if_false, reduceIte, reduceCtorEq]))
end KRL
end
section
/-! the class: locks and claims are told -/
section KDI
variable {G : kG} {q : kP} {d : Nat} {x x0 y z xs : gd} {F : Int32 → gd → Prop} {Fv : gd → Prop} {X : String → gd → Prop} {P : Option gv → gd → Prop} {K V : Nat → Int32} {sN : Nat → Nat → Bool} {e : Nat} {Ev : gV} {Ml N : gU} {T : gTd} {n : gN} {W : gD}
theorem nT_N {L : gU} (h : nT L (L ++ N)) : ∀ v ∈ N, ¬ (31 ≤ v.1 ∧ v.1 ≤ 36) := by
  obtain ⟨N2, e, h⟩ := h
  rw [List.append_cancel_left e]; exact h
theorem TBk_lock {t : Int32} (h : TBk x T) (e8 : (z.1 40 8).toInt = (x.1 40 8).toInt + 1) (e48 : z.1 48 (x.1 40 8).toNatClampNeg = t) (o48 : ∀ i, ¬ i = (x.1 40 8).toNatClampNeg → z.1 48 i = x.1 48 i) (f : ∀ c k, (c = 40 ∧ ¬ k = 8) ∨ (44 ≤ c ∧ c ≤ 46) ∨ c = 50 ∨ (c = 60 ∧ k = 6) → z.1 c k = x.1 c k) : TBk z (T ++ [(t.toNatClampNeg, 1, 0, 0)]) := by
  obtain ⟨⟨a1, a2, a3⟩, ⟨b1, b2⟩, c1, c2⟩ := h
  have eN : (x.1 40 8).toNatClampNeg = (tdS T 1).length := by rw [t_cl, b1]; rfl
  unfold TBk
  rw [tdS_y, tdS_n (show ¬ 1 = 0 by decide), tdS_n (show ¬ 1 = 2 by decide), f 40 6 (by omega), f 40 10 (by omega), f 60 6 (by omega)]
  refine ⟨⟨a1, a2, fun i q hq => by rw [f 44 i (by omega), f 46 i (by omega), f 45 i (by omega)]; exact a3 i q hq⟩, ⟨by rw [List.length_append, List.length_singleton]; omega, fun i q hq => ?_⟩, c1, fun i q hq => by rw [f 50 i (by omega)]; exact c2 i q hq⟩
  rcases ap1 hq with ⟨hi, hq⟩ | ⟨hi, hq⟩
  · rw [o48 i (by omega)]
    exact b2 i q hq
  · rw [hi, ← eN, e48, hq]
theorem TBk_thread {t : Int32} (h : TBk x T) (e8 : (z.1 40 10).toInt = (x.1 40 10).toInt + 1) (e48 : z.1 50 (x.1 40 10).toNatClampNeg = t) (o48 : ∀ i, ¬ i = (x.1 40 10).toNatClampNeg → z.1 50 i = x.1 50 i) (f : ∀ c k, (c = 40 ∧ ¬ k = 10) ∨ (44 ≤ c ∧ c ≤ 48) ∨ (c = 60 ∧ k = 6) → z.1 c k = x.1 c k) : TBk z (T ++ [(t.toNatClampNeg, 2, 0, 0)]) := by
  obtain ⟨⟨a1, a2, a3⟩, ⟨b1, b2⟩, c1, c2⟩ := h
  have eN : (x.1 40 10).toNatClampNeg = (tdS T 2).length := by rw [t_cl, c1]; rfl
  unfold TBk
  rw [tdS_y, tdS_n (show ¬ 2 = 0 by decide), tdS_n (show ¬ 2 = 1 by decide), f 40 6 (by omega), f 40 8 (by omega), f 60 6 (by omega)]
  refine ⟨⟨a1, a2, fun i q hq => by rw [f 44 i (by omega), f 46 i (by omega), f 45 i (by omega)]; exact a3 i q hq⟩, ⟨b1, fun i q hq => by rw [f 48 i (by omega)]; exact b2 i q hq⟩, by rw [List.length_append, List.length_singleton]; omega, fun i q hq => ?_⟩
  rcases ap1 hq with ⟨hi, hq⟩ | ⟨hi, hq⟩
  · rw [o48 i (by omega)]
    exact c2 i q hq
  · rw [hi, ← eN, e48, hq]
theorem kf_tellLock (hq : kV q) (t : Int32) (hc : 0 ≤ (x.1 40 8).toInt) (hc6 : (x.1 40 8).toInt < 6) (h : ∀ y, fm (fun c k => (c = 40 ∧ k = 8) ∨ (c = 48 ∧ k = (x.1 40 8).toNatClampNeg)) x y → y.1 40 8 = x.1 40 8 + 1 → y.1 48 (x.1 40 8).toNatClampNeg = t → Fv y) : KT G q d zk_X6_tellLock 0 [(0, vr 40), (1, vi t)] [] x (rv Fv) := by
  have k6 : (6 : Int32).toInt = 6 := rfl
  have eN : (((x.1 40 8).toNatClampNeg : Nat) : Int) = (x.1 40 8).toInt := by rw [t_cl]; omega
  refine kg_X6_tellLock_0 hq _ ⟨fun c => ?_, fun c => ⟨by rw [vp_in_iff]; omega, fun x3 e3 z ez => rv_i ?_⟩⟩
  · exfalso; rw [t_le, k6] at c; omega
  have q3 : x3.1 40 8 = x.1 40 8 := by rw [e3]; (simp only [si_get, sfl_get, Nat.reduceEqDiff, eq_self, and_false, false_and, and_true, true_and, if_true, if_false, reduceIte, reduceCtorEq])
  refine h z (by rw [ez, e3]; exact fm_si (fm_si (fm_rf _ _) (Or.inr ⟨rfl, rfl⟩)) (Or.inl ⟨rfl, rfl⟩)) (by rw [ez, q3]; (simp only [si_get, sfl_get, Nat.reduceEqDiff, eq_self, and_false, false_and, and_true, true_and, if_true, if_false, reduceIte, reduceCtorEq])) (by rw [ez, e3]; (simp only [si_get, sfl_get, Nat.reduceEqDiff, eq_self, and_false, false_and, and_true, true_and, if_true, if_false, reduceIte, reduceCtorEq]))
theorem kf_tellThread (hq : kV q) (t : Int32) (hc : 0 ≤ (x.1 40 10).toInt) (hc6 : (x.1 40 10).toInt < 6) (h : ∀ y, fm (fun c k => (c = 40 ∧ k = 10) ∨ (c = 50 ∧ k = (x.1 40 10).toNatClampNeg)) x y → y.1 40 10 = x.1 40 10 + 1 → y.1 50 (x.1 40 10).toNatClampNeg = t → Fv y) : KT G q d zk_X6_tellThread 0 [(0, vr 40), (1, vi t)] [] x (rv Fv) := by
  have k6 : (6 : Int32).toInt = 6 := rfl
  have eN : (((x.1 40 10).toNatClampNeg : Nat) : Int) = (x.1 40 10).toInt := by rw [t_cl]; omega
  refine kg_X6_tellThread_0 hq _ ⟨fun c => ?_, fun c => ⟨by rw [vp_in_iff]; omega, fun x3 e3 z ez => rv_i ?_⟩⟩
  · exfalso; rw [t_le, k6] at c; omega
  have q3 : x3.1 40 10 = x.1 40 10 := by rw [e3]; (simp only [si_get, sfl_get, Nat.reduceEqDiff, eq_self, and_false, false_and, and_true, true_and, if_true, if_false, reduceIte, reduceCtorEq])
  refine h z (by rw [ez, e3]; exact fm_si (fm_si (fm_rf _ _) (Or.inr ⟨rfl, rfl⟩)) (Or.inl ⟨rfl, rfl⟩)) (by rw [ez, q3]; (simp only [si_get, sfl_get, Nat.reduceEqDiff, eq_self, and_false, false_and, and_true, true_and, if_true, if_false, reduceIte, reduceCtorEq])) (by rw [ez, e3]; (simp only [si_get, sfl_get, Nat.reduceEqDiff, eq_self, and_false, false_and, and_true, true_and, if_true, if_false, reduceIte, reduceCtorEq]))
theorem kh_lockDefinition (hq : kV q) (L : gU) (hx : W = none → RX x0 X) (eW : W = pD K V n (nn x) L) (k27 : K (nn x) = 27) (hA : KA K V sN e x) (hn0 : nn x ≤ e) (hTb : TBk x T) (hCn : CNk x n) (hI : OT x0 x) (h : ∀ y N n', OT x0 y → nx x < nx y → RIw K V sN e Ev x y N → still N → W = some (n', nn y, L ++ N) → TBk y (T ++ N.filterMap (te1 K V)) → CNk y n' → La x y → CGo sN V K Ev x y N → Fv y) : KE G q (d + 8) zk_X7_lockDefinition 0 [(0, vr 100)] [] x (rv Fv) X := by
  have k6 : (6 : Int32).toInt = 6 := rfl
  have hB := OT_b hI
  have acc := hI.2.2.2.2.2.2
  have hR0 : RIw K V sN e Ev x x [] := ⟨hA, hn0, UR_0 rfl⟩
  have hW : W = if n.2.1 < 6 ∧ nn x < 700 ∧ (K (nn x + 1) = 1 ∧ nn x + 1 < 700) ∧ K (nn x + 2) = 67 ∧ nn x + 2 < 700 then some ((n.1, n.2.1 + 1, n.2.2), nn x + 3, L ++ [(33, nn x + 1, 0)]) else none := by
    rw [eW]
    unfold pD
    rw [if_neg (by rw [k27]; decide), if_neg (by rw [k27]; decide), if_pos k27]
  have hc2 := hCn.2.1
  refine kg_X7_lockDefinition_0 hq ⟨fun c => kg_X7_lockDefinition_17 hq (kh_pass (xs := x) (Ml := []) (Ev := Ev) hq (fun c7 => hx (by rw [hW, if_neg (fun z => absurd z.2.1 (by omega))])) hB hR0 (by rw [k27]; decide) (by rw [k27]; decide) (fun c7 y hBy ny gy eny hRy u0 hcy => kh_needFor hq 2 1 1 (by decide) (by decide) (by decide) (by decide) (fun no => hx (by rw [hW, if_neg (fun z => no (by rw [eny]; exact z.2.2.1))])) hBy hRy.1 hRy.2.1 (fun kk c8 w hBw nw gw enw hAw hnw eu ht hcw => ?_))), fun c => kh_refuse hq (hx (by rw [hW, if_neg (fun z => c (by rw [t_lt, k6]; omega))])) hB _⟩
  rw [t_lt, k6] at c
  have g1 := GS_tr gy gw
  have hNw := hBw.2.2.1.2.1
  have hCw := hBw.2.2.1.2.2.1
  have w9 : w.1 60 9 = x.1 60 9 := GS_at g1 _ _ (by unfold sSum; omega)
  have w8 : w.1 40 8 = x.1 60 9 := by rw [← hCw.2.1, w9]
  have e1 : (w.1 40 8 + 1).toInt = (w.1 40 8).toInt + 1 := t_add (by show _ ≤ _ + (1 : Int); rw [w8]; have := hNw.2.1.1; rw [w8] at this; omega) (by show _ + (1 : Int) ≤ _; rw [w8]; omega)
  refine kf_tellLock hq _ hNw.2.1.1 (by rw [w8]; exact c) (fun u fuS cu u48 => ?_)
  have fu : fm (fun c k => (c = 40 ∧ k = 8) ∨ c = 48) w u := fm_w fuS (fun c k q => by omega)
  have eN8 : (((w.1 40 8).toNatClampNeg : Nat) : Int) = (w.1 40 8).toInt := by
    have := hNw.2.1.1
    rw [t_cl]; omega
  have hu : ∀ i : Nat, (i : Int) < (w.1 40 8).toInt + 1 → ((i : Int) < (w.1 40 8).toInt ∧ u.1 48 i = w.1 48 i) ∨ u.1 48 i = y.1 100 4 := by
    intro i hi
    by_cases hi2 : i = (w.1 40 8).toNatClampNeg
    · rw [hi2]; exact Or.inr u48
    · exact Or.inl ⟨by omega, fuS 48 i (by omega)⟩
  rw [eny] at kk c8 eu
  have by0 := hBy.1.1.2.1
  have hRw : RIw K V sN e Ev x w ([] ++ [(33, nn x + 1, 0)]) := RI_use hRy by0 gw.1 hAw hnw enw (HAs_one.mpr (HA_33.mpr ⟨by omega, eu⟩)) (fun _ => HBs_one.mpr (by rw [eny, eu]; exact HB_t (Or.inr (Or.inr (Or.inl rfl)))))
  have hRw : RIw K V sN e Ev x w [(33, nn x + 1, 0)] := hRw
  have enw2 : nn w = nn x + 2 := by omega
  have i67 : w.1 23 (w.1 100 4).toNatClampNeg = 27 ↔ K (nn w) = 67 := KA_k hAw hnw 27 (by decide)
  have bw0 := hBw.1.1.2.1
  have cw0 := nn_is bw0
  -- the next token is read with names told but not counted: its invariant is that of the state before
  have gu4 : u.1 100 4 = w.1 100 4 := fu _ _ (by omega)
  have SUu : SU u := by
    obtain ⟨⟨hT, b1, b2, b3⟩, ⟨u1, u2⟩, hp, hP⟩ := hBw.1
    have nnq : nx u = nx w := by unfold nx; rw [gu4]
    have la : La w u := ⟨fun c k q1 q2 => fu c k (by omega), by omega, fun j _ => fu 42 j (by omega)⟩
    unfold SU SV US RB mt
    rw [fu 20 7 (by omega), fu 60 3 (by omega), nnq]
    refine ⟨⟨kT_fm hT la.1, b1, b2, b3⟩, ⟨fun j h1 h2 => ?_, fun j h1 h2 => ?_⟩, hp, fun i hi => La_PQ la (fu _ _ (by omega)) (fu _ _ (by omega)) (hP i hi)⟩
    · rw [fu 42 j (by omega)]; exact u1 j h1 h2
    · rw [fu 42 j (by omega)] at h2; rw [fu 42 _ (by omega)]; exact u2 j h1 h2
  have FRu : FR u := by
    have := hBw.2.1
    unfold FR at this ⊢
    rw [gu4, fu 42 _ (by omega)]; exact this
  have fxu : fm sR x0 u := fm_tr hBw.2.2.2.2.2 (fm_w fu (fun c k q => by unfold sR; omega))
  have nuw0 : nx u = nx w := by unfold nx; rw [gu4]
  refine kf_need hq fxu 27 (fun no => hx ?_) SUu (by decide) FRu (fun cw7 c79 v fv nv Sv frv lav fxv z ez => rv_i ?_)
  · rw [hW, if_neg (fun z => ?_)]
    rcases no with no | no
    · rw [gu4, fu 23 _ (by omega)] at no
      exact no (i67.mpr (by rw [enw2]; exact z.2.2.2.1))
    · omega
  rw [gu4, fu 23 _ (by omega)] at cw7
  have kk7 := i67.mp cw7
  rw [enw2] at kk7
  have hWs : W = some ((n.1, n.2.1 + 1, n.2.2), nn x + 3, L ++ [(33, nn x + 1, 0)]) := by
    rw [hW, if_pos ⟨by omega, c7, ⟨kk, c8⟩, kk7, by omega⟩]
  -- as if need came first
  have SUv : SU v := by unfold SU; rw [fv 60 3 (by omega)]; exact Sv
  obtain ⟨w', ew'⟩ : ∃ w', w' = si w 100 4 (v.1 100 4) := ⟨_, rfl⟩
  have fw' : fm (fun c k => c = 100 ∧ k = 4) w w' := by rw [ew']; exact fm_si (fm_rf _ _) ⟨rfl, rfl⟩
  have w4' : w'.1 100 4 = v.1 100 4 := by rw [ew']; (simp only [si_get, sfl_get, Nat.reduceEqDiff, eq_self, and_false, false_and, and_true, true_and, if_true, if_false, reduceIte, reduceCtorEq])
  have hvw : ∀ c k, ¬ ((c = 40 ∧ k = 8) ∨ c = 48) → v.1 c k = w'.1 c k := by
    intro c k hc
    by_cases h4 : c = 100 ∧ k = 4
    · rw [h4.1, h4.2, w4']
    · rw [fv c k h4, fu c k hc, fw' c k h4]
  have nnq : nx w' = nx v := by unfold nx; rw [w4']
  have nuw : nx u = nx w := by unfold nx; rw [gu4]
  have gw' : GS w w' := ⟨⟨fun c k q1 q2 => fw' c k (by omega), by omega, fun j _ => fw' 42 j (by omega)⟩, fm_w fw' (fun c k q => by unfold sSum; omega)⟩
  have law : La v w' := ⟨fun c k q1 q2 => (hvw c k (by omega)).symm, by omega, fun j _ => (hvw 42 j (by omega)).symm⟩
  have SUw' : SU w' := by
    obtain ⟨⟨hT, b1, b2, b3⟩, ⟨u1, u2⟩, hp, hP⟩ := SUv
    unfold SU SV US RB mt
    rw [← hvw 20 7 (by omega), ← hvw 60 3 (by omega), nnq]
    refine ⟨⟨kT_fm hT law.1, b1, b2, b3⟩, ⟨fun j h1 h2 => ?_, fun j h1 h2 => ?_⟩, hp, fun i hi => La_PQ law (hvw _ _ (by omega)).symm (hvw _ _ (by omega)).symm (hP i hi)⟩
    · rw [← hvw 42 j (by omega)]; exact u1 j h1 h2
    · rw [← hvw 42 j (by omega)] at h2; rw [← hvw 42 _ (by omega)]; exact u2 j h1 h2
  have FRw' : FR w' := by unfold FR at frv ⊢; rw [w4', ← hvw 42 _ (by omega)]; exact frv
  have hBw' : OTb x0 w' := OTb_on hBw SUw' FRw' gw'
  have fz : fm (fun c k => (c = 40 ∧ k = 8) ∨ c = 48 ∨ (c = 60 ∧ k = 9)) w' z := by
    intro c k hc
    rw [ez, si_get, if_neg (by omega)]
    exact hvw c k (by omega)
  have hN' := hBw'.2.2.1.2.1
  have hC' := hBw'.2.2.1.2.2.1
  have z8 : z.1 40 8 = w.1 40 8 + 1 := by rw [ez, si_cell (by decide), fv 40 8 (by omega)]; exact cu
  have z9 : z.1 60 9 = w.1 60 9 + 1 := by rw [ez, fv 60 9 (by omega), fu 60 9 (by omega)]; (simp only [si_get, sfl_get, Nat.reduceEqDiff, eq_self, and_false, false_and, and_true, true_and, if_true, if_false, reduceIte, reduceCtorEq])
  have tkk : ∀ a, tk w a → tk z a := fun a ha => by unfold tk at ha ⊢; rw [fz 20 7 (by omega), fw' 20 7 (by omega)]; exact ha
  have z4 : z.1 100 4 = v.1 100 4 := by rw [ez, si_cell (by decide)]
  have lav9 : La w v := ⟨fun c k q1 q2 => by rw [fv c k (by omega), fu c k (by omega)], by omega, fun j _ => by rw [fv 42 j (by omega), fu 42 j (by omega)]⟩
  have env : nn v = nn w + 1 := nn_up bw0 (by omega)
  have hAv : KA K V sN e v := KA_fm hAw lav9.1
  have hRv : RIw K V sN e Ev x v [(33, nn x + 1, 0)] := RI_tok hRw bw0 (by omega) (by rw [enw2, kk7]; decide) (by rw [enw2, kk7]; decide) lav9 (by omega) (by rw [fv 42 _ (by omega), fu 42 _ (by omega)]; exact hBw.2.1)
  have hRz : RIw K V sN e Ev x z [(33, nn x + 1, 0)] := RI_st hRv z4 (fun j => by rw [ez, si_cell (by decide)]) (fun c k q1 q2 => by rw [ez, si_cell (by omega)])
  have enz : nn z = nn x + 3 := by
    have : nn z = nn v := by unfold nn; rw [z4]
    omega
  have b8 := hNw.2.1.1
  refine h z [(33, nn x + 1, 0)] (n.1, n.2.1 + 1, n.2.2) (OT_of (OTb_nm hBw' (fm_w fz (fun c k q => by omega)) ?_ ?_ ?_) ?_) ?_ hRz (stl_k (by decide)) (by rw [enz]; exact hWs) ?_ ?_ (La_tr (La_tr g1.1 lav9) ⟨fun c k q1 q2 => by rw [ez, si_cell (by omega)], by unfold nx; rw [z4]; exact Int.le_refl _, fun j _ => by rw [ez, si_cell (by decide)]⟩) (CGo_lock (fun c k q q1 => (fz c k (by unfold ccS at q; omega)).trans ((fw' c k (by unfold ccS at q; omega)).trans ((hcw c k q).trans (hcy c k q)))))
  · unfold NM
    have b8 := hNw.2.1.1
    rw [z8, e1, fz 40 6 (by omega), fw' 40 6 (by omega), fz 40 10 (by omega), fw' 40 10 (by omega), fz 60 6 (by omega), fw' 60 6 (by omega)]
    rw [w8] at b8 ⊢
    refine ⟨hNw.1, by omega, hNw.2.2.1, fun i hi => ?_, fun i hi => ?_, fun i hi => ?_⟩
    · rw [fz 44 i (by omega), fw' 44 i (by omega), fz 45 i (by omega), fw' 45 i (by omega), fz 46 i (by omega), fw' 46 i (by omega)]
      obtain ⟨p1, p2⟩ := hNw.2.2.2.1 i hi
      exact ⟨tkk _ p1, p2⟩
    · have zi : z.1 48 i = u.1 48 i := by rw [ez, si_cell (by decide), fv 48 i (by omega)]
      rw [zi]
      rcases hu i (by rw [w8]; exact hi) with ⟨g1, g2⟩ | g
      · rw [g2]; exact tkk _ (hNw.2.2.2.2.1 i g1)
      · rw [g]; exact tkk _ ht
    · rw [fz 50 i (by omega), fw' 50 i (by omega)]; exact tkk _ (hNw.2.2.2.2.2 i hi)
  · unfold CD at hC' ⊢
    rw [z8, z9, fz 60 6 (by omega), fz 60 10 (by omega), fz 60 14 (by omega), fz 60 16 (by omega), fz 60 13 (by omega), fz 40 10 (by omega), fz 100 5 (by omega), fz 100 9 (by omega), hCw.2.1]
    exact ⟨hC'.1, rfl, hC'.2.2.1, hC'.2.2.2.1, hC'.2.2.2.2.1, hC'.2.2.2.2.2.1, hC'.2.2.2.2.2.2⟩
  · have hT' := hBw'.2.2.1.2.2.2.2
    unfold TS ssm at hT' ⊢
    rw [fz 60 10 (by omega), fz 80 9 (by omega), fz 100 5 (by omega), fz 81 _ (by omega)]
    refine ⟨fun i hi => ?_, hT'.2⟩
    rw [fz 72 i (by omega)]; exact hT'.1 i hi
  · have e1 : ssm z = ssm w := by unfold ssm; rw [fz 80 9 (by omega), fw' 80 9 (by omega)]
    have e2 : nx z = nx v := by rw [← nnq]; unfold nx; rw [fz 100 4 (by omega)]
    rw [e1, e2, GS_sm g1]
    omega
  · have e2 : nx z = nx v := by rw [← nnq]; unfold nx; rw [fz 100 4 (by omega)]
    omega
  · have hTw : TBk w T := TBk_e hTb (TBe_GS g1)
    have et : (y.1 100 4).toNatClampNeg = nn x + 1 := eny
    have r := TBk_lock (z := z) (t := y.1 100 4) hTw (by rw [z8, e1]) (by rw [ez, si_cell (by decide), fv 48 _ (by omega)]; exact u48) (fun i hi => by rw [ez, si_cell (by decide), fv 48 i (by omega)]; exact fuS 48 i (by omega)) (fun c k hc => by rw [fz c k (by omega), fw' c k (by omega)])
    rw [et] at r
    exact r
  · obtain ⟨n1, n2, n3, n4, n5⟩ := CNk_e hCn (TBe_GS g1)
    have g : ∀ k, k ≠ 9 → z.1 60 k = w.1 60 k := fun k hk => by rw [fz 60 k (by omega), fw' 60 k (by omega)]
    refine ⟨by rw [g 6 (by omega)]; exact n1, ?_, by rw [g 10 (by omega)]; exact n3, by rw [g 14 (by omega)]; exact n4, by rw [g 16 (by omega)]; exact n5⟩
    show (z.1 60 9).toInt = ((n.2.1 + 1 : Nat) : Int)
    rw [z9, t_add (by show _ ≤ _ + (1 : Int); omega) (by show _ + (1 : Int) ≤ _; omega)]
    show (w.1 60 9).toInt + (1 : Int) = _
    omega
theorem kh_claim (hq : kV q) (L : gU) (hx : W = none → RX x0 X) (eW : W = pD K V n (nn x) L) (hk : K (nn x) = 11 ∨ K (nn x) = 21) (hA : KA K V sN e x) (hn0 : nn x ≤ e) (hTb : TBk x T) (hCn : CNk x n) (hE2 : Ev.2.1 = []) (hI : OT x0 x) (h : ∀ y N n', OT x0 y → nx x < nx y → RIw K V sN e Ev x y N → still N → W = some (n', nn y, L ++ N) → TBk y (T ++ N.filterMap (te1 K V)) → CNk y n' → La x y → CGo sN V K Ev x y N → Fv y) : KE G q (d + 10) zk_X7_claim 0 [(0, vr 100)] [] x (rv Fv) X := by
  have k4 : (4 : Int32).toInt = 4 := rfl
  have hB := OT_b hI
  have acc := hI.2.2.2.2.2.2
  have hC := hB.2.2.1.2.2.1
  have p47 : ∀ a m : Int32, (a = 0 ∧ m = x.1 60 16 ∨ ¬ a = 0 ∧ m = x.1 60 14) → (a = 0 ↔ K (nn x) = 21) → m.toInt < 4 → KE G q (d + 10) zk_X7_claim 47 [(0, vr 100), (1, vi a), (2, vi m)] [] x (rv Fv) X := by
    intro a m ham hak hm
    obtain ⟨v9, Q, hv35, hv9, hvd, hvs, eQ, hW⟩ : ∃ (v9 : Nat × Nat × Nat) (n9 : gN), ((a = 0 ∧ v9 = (36, nn x, 0)) ∨ (¬ a = 0 ∧ v9 = (35, nn x, 0))) ∧ (¬ (31 ≤ v9.1 ∧ v9.1 ≤ 34) ∧ (35 ≤ v9.1 ∧ v9.1 ≤ 36)) ∧ dull v9 ∧ still [v9] ∧ ((a = 0 ∧ n9 = (n.1, n.2.1, n.2.2.1, n.2.2.2.1, n.2.2.2.2 + 1)) ∨ (¬ a = 0 ∧ n9 = (n.1, n.2.1, n.2.2.1, n.2.2.2.1 + 1, n.2.2.2.2))) ∧ W = if nn x < 700 then ((pX K true 16 (nn x + 1) (L ++ [v9])).bind (pt K 67)).bind (fun q => some (n9, q)) else none := by
      by_cases ca : a = 0
      · have k21 := hak.mp ca
        have hm4 : n.2.2.2.2 < 4 := by
          have := hCn.2.2.2.2
          rcases ham with ⟨-, e⟩ | ⟨e, -⟩
          · rw [e] at hm; omega
          · exact absurd ca e
        refine ⟨(36, nn x, 0), _, Or.inl ⟨ca, rfl⟩, ⟨(show ¬ (31 ≤ 36 ∧ 36 ≤ 34) by decide), (show 35 ≤ 36 ∧ 36 ≤ 36 by decide)⟩, dull_k (by decide), stl_k (by decide), Or.inl ⟨ca, rfl⟩, ?_⟩
        rw [eW]
        unfold pD
        rw [if_neg (by rw [k21]; decide), if_neg (by rw [k21]; decide), if_neg (by rw [k21]; decide), if_neg (by rw [k21]; decide), if_neg (by rw [k21]; decide), if_neg (by rw [k21]; decide), if_pos k21]
        by_cases c7 : nn x < 700
        · rw [if_pos ⟨hm4, c7⟩, if_pos c7]
        · rw [if_neg (fun z => c7 z.2), if_neg c7]
      · have k11 : K (nn x) = 11 := hk.resolve_right (fun z => ca (hak.mpr z))
        have hm4 : n.2.2.2.1 < 4 := by
          have := hCn.2.2.2.1
          rcases ham with ⟨e, -⟩ | ⟨-, e⟩
          · exact absurd e ca
          · rw [e] at hm; omega
        refine ⟨(35, nn x, 0), _, Or.inr ⟨ca, rfl⟩, ⟨(show ¬ (31 ≤ 35 ∧ 35 ≤ 34) by decide), (show 35 ≤ 35 ∧ 35 ≤ 36 by decide)⟩, dull_k (by decide), stl_k (by decide), Or.inr ⟨ca, rfl⟩, ?_⟩
        rw [eW]
        unfold pD
        rw [if_neg (by rw [k11]; decide), if_neg (by rw [k11]; decide), if_neg (by rw [k11]; decide), if_neg (by rw [k11]; decide), if_neg (by rw [k11]; decide), if_pos k11]
        by_cases c7 : nn x < 700
        · rw [if_pos ⟨hm4, c7⟩, if_pos c7]
        · rw [if_neg (fun z => c7 z.2), if_neg c7]
    have hR0 : RIw K V sN e Ev x x [] := ⟨hA, hn0, UR_0 rfl⟩
    have kk0 : ¬ K (nn x) = 0 ∧ ¬ K (nn x) = 3 := by rcases hk with e | e <;> rw [e] <;> decide
    have m0 : 0 ≤ m.toInt := by
      rcases ham with ⟨-, e⟩ | ⟨-, e⟩
      · rw [e]; exact hC.2.2.2.2.1.1
      · rw [e]; exact hC.2.2.2.1.1
    refine kg_X7_claim_47 hq _ _ (kh_pass hq (fun c7 => hx (by rw [hW, if_neg (show ¬ nn x < 700 by omega)])) hB hR0 kk0.1 kk0.2 (fun c7 y hBy ny gy eny hRy _ hcy => ?_))
    rw [if_pos c7, ← eny] at hW
    have by0 := hBy.1.1.2.1
    refine kh_sum (Ev := Ev) hq _ (L ++ [v9]) (fun no => hx (by rw [hW]; have no : pX K true 16 (nn y) (L ++ [v9]) = none := no; rw [no]; rfl)) hBy hRy.1 hRy.2.1 (by decide) (by decide) (fun r z hBz nz gz N2 hRz hN2 hpX hcp hrr => ?_)
    have hpX : pX K true 16 (nn y) (L ++ [v9]) = some (nn z, L ++ [v9] ++ N2) := hpX
    obtain ⟨N20, eN20, hs20⟩ := pX_sE hpX
    have hcp := hcp hE2
    rw [eN20] at hcp
    have hn2 := nT_N (pX_nT hpX)
    rw [hpX] at hW
    have hRxz : RIw K V sN e Ev x z ([v9] ++ N2) := RI_app by0 hvs (RI_dull hRy hvd) gz.1 hRz
    refine kh_need hq 27 67 (by decide) (by decide) (by decide) (fun no => hx (by rw [hW]; show (pt K 67 (nn z, L ++ [v9] ++ N2)).bind _ = none; rw [pt_no no]; rfl)) hBz hRxz (fun kk c8 w hBw nw gw enw hRw _ hcw => ?_)
    have hWs : W = some (Q, nn w, L ++ ([v9] ++ N2)) := by
      rw [hW]
      show (pt K 67 (nn z, L ++ [v9] ++ N2)).bind _ = _
      rw [pt_yes kk c8, enw, ← List.append_assoc]
      rfl
    have gg := GS_tr (GS_tr gy gz) gw
    have vm : vp_in m 4 := by rw [vp_in_iff]; omega
    have fin : ∀ (k : Nat) (v : gd), (k = 14 ∨ k = 16) → fm (fun c j => c = 76 ∨ c = 78 ∨ (c = 60 ∧ j = k)) w v → (0 ≤ (v.1 60 k).toInt ∧ (v.1 60 k).toInt ≤ 4) → CNk v Q → CGo sN V K Ev x v ([v9] ++ N2) → Fv v := by
      intro k v hk fv hv hcn hcg
      have hC' := hBw.2.2.1.2.2.1
      refine h v ([v9] ++ N2) Q (OT_of (OTb_nm hBw (fm_w fv (fun c j q => by omega)) (NM_fm hBw.2.2.1.2.1 (fun c k q1 q2 q3 q4 => fv c k (by omega)) (fv _ _ (by omega)) (fv _ _ (by omega))) ?_ ?_) ?_) ?_ (RI_st hRw (fv _ _ (by omega)) (fun j => fv _ _ (by omega)) (fun c k q1 q2 => fv _ _ (by omega))) (still_app hvs hN2) (by rw [show nn v = nn w by unfold nn; rw [fv 100 4 (by omega)]]; exact hWs) ?_ hcn (La_tr gg.1 ⟨fun c k q1 q2 => fv _ _ (by omega), by unfold nx; rw [fv 100 4 (by omega)]; exact Int.le_refl _, fun j _ => fv _ _ (by omega)⟩) hcg
      · unfold CD at hC' ⊢
        rw [fv 60 6 (by omega), fv 60 9 (by omega), fv 60 10 (by omega), fv 60 13 (by omega), fv 40 8 (by omega), fv 40 10 (by omega), fv 100 5 (by omega), fv 100 9 (by omega)]
        refine ⟨hC'.1, hC'.2.1, hC'.2.2.1, ?_, ?_, hC'.2.2.2.2.2.1, hC'.2.2.2.2.2.2⟩
        · rcases hk with rfl | rfl
          · exact hv
          · rw [fv 60 14 (by omega)]; exact hC'.2.2.2.1
        · rcases hk with rfl | rfl
          · rw [fv 60 16 (by omega)]; exact hC'.2.2.2.2.1
          · exact hv
      · have hT' := hBw.2.2.1.2.2.2.2
        unfold TS ssm at hT' ⊢
        rw [fv 60 10 (by omega), fv 80 9 (by omega), fv 100 5 (by omega), fv 81 _ (by omega)]
        refine ⟨fun i hi => ?_, hT'.2⟩
        rw [fv 72 i (by omega)]; exact hT'.1 i hi
      · have e1 : ssm v = ssm w := by unfold ssm; rw [fv 80 9 (by omega)]
        have e2 : nx v = nx w := by unfold nx; rw [fv 100 4 (by omega)]
        rw [e1, e2, GS_sm gg]; omega
      · have e2 : nx v = nx w := by unfold nx; rw [fv 100 4 (by omega)]
        omega
      · have t0 : te1 K V v9 = none := by
          unfold te1
          rw [if_neg (by omega), if_neg (by omega), if_neg (by omega), if_neg (by omega)]
        have t1 : ([v9] ++ N2).filterMap (te1 K V) = [] := by
          rw [List.filterMap_append, te1_ns hn2, List.append_nil, List.filterMap_cons_none t0, List.filterMap_nil]
        rw [t1, List.append_nil]
        exact TBk_f (TBk_e hTb (TBe_GS gg)) (fun c j q => fv c j (by omega))
    have em : ∀ k : Nat, ¬ k = 3 → w.1 60 k = x.1 60 k := fun k hk => GS_at gg _ _ (by unfold sSum; omega)
    refine ⟨fun c => ⟨vm, fun x7 e7 v ev => rv_i (fin 16 v (Or.inr rfl) (by rw [ev, e7]; exact fm_si (fm_si (fm_rf _ _) (Or.inr (Or.inl rfl))) (Or.inr (Or.inr ⟨rfl, rfl⟩))) ?_ ?_ ?_)⟩, fun c => ⟨vm, fun x7 e7 v ev => rv_i (fin 14 v (Or.inl rfl) (by rw [ev, e7]; exact fm_si (fm_si (fm_rf _ _) (Or.inl rfl)) (Or.inr (Or.inr ⟨rfl, rfl⟩))) ?_ ?_ ?_)⟩⟩
    · have e1 : x7.1 60 16 = m := by
        rw [e7, si_cell (by decide), em 16 (by omega)]
        rcases ham with ⟨-, e⟩ | ⟨e, -⟩
        · exact e.symm
        · exact absurd c e
      have e2 : v.1 60 16 = m + 1 := by rw [ev, e1]; (simp only [si_get, sfl_get, Nat.reduceEqDiff, eq_self, and_false, false_and, and_true, true_and, if_true, if_false, reduceIte, reduceCtorEq])
      rw [e2, t_add (by show _ ≤ _ + (1 : Int); omega) (by show _ + (1 : Int) ≤ _; omega)]
      show 0 ≤ _ + (1 : Int) ∧ _ + (1 : Int) ≤ _
      omega
    · have e1 : x7.1 60 16 = m := by
        rw [e7, si_cell (by decide), em 16 (by omega)]
        rcases ham with ⟨-, e⟩ | ⟨ea, e⟩
        · exact e.symm
        · exact absurd c ea
      have e2 : v.1 60 16 = m + 1 := by rw [ev, e1]; (simp only [si_get, sfl_get, Nat.reduceEqDiff, eq_self, and_false, false_and, and_true, true_and, if_true, if_false, reduceIte, reduceCtorEq])
      have vk : ∀ k, k ≠ 16 → k ≠ 3 → v.1 60 k = x.1 60 k := fun k h1 h2 => by rw [ev, si_get, if_neg (fun q => h1 q.2), e7, si_cell (by decide)]; exact em k h2
      have em2 : m = x.1 60 16 := by rw [← e1, e7, si_cell (by decide), em 16 (by omega)]
      have eQ2 : Q = (n.1, n.2.1, n.2.2.1, n.2.2.2.1, n.2.2.2.2 + 1) := by
        rcases eQ with ⟨e, eq⟩ | ⟨e, eq⟩
        · exact eq
        · exact absurd c e
      have e3 : (m + 1).toInt = m.toInt + 1 := t_add (by show _ ≤ _ + (1 : Int); omega) (by show _ + (1 : Int) ≤ _; omega)
      obtain ⟨n1, n2, n3, n4, n5⟩ := hCn
      rw [eQ2]
      refine ⟨by rw [vk 6 (by omega) (by omega)]; exact n1, by rw [vk 9 (by omega) (by omega)]; exact n2, by rw [vk 10 (by omega) (by omega)]; exact n3, ?_, ?_⟩
      · rw [vk 14 (by omega) (by omega)]; exact n4
      · show (v.1 60 16).toInt = ((n.2.2.2.2 + 1 : Nat) : Int)
        rw [e2, e3, em2]; omega
    · have e1 : x7.1 60 16 = m := by
        rw [e7, si_cell (by decide), em 16 (by omega)]
        rcases ham with ⟨-, e⟩ | ⟨ea, e⟩
        · exact e.symm
        · exact absurd c ea
      have em2 : m = x.1 60 16 := by rw [← e1, e7, si_cell (by decide), em 16 (by omega)]
      have e2 : v.1 60 16 = m + 1 := by rw [ev, e1]; (simp only [si_get, sfl_get, Nat.reduceEqDiff, eq_self, and_false, false_and, and_true, true_and, if_true, if_false, reduceIte, reduceCtorEq])
      have e3 : (m + 1).toInt = m.toInt + 1 := t_add (by show _ ≤ _ + (1 : Int); omega) (by show _ + (1 : Int) ≤ _; omega)
      have ev9 : v9 = (36, nn x, 0) := by
        rcases hv35 with ⟨-, e⟩ | ⟨e, -⟩
        · exact e
        · exact absurd c e
      rw [ev9, eN20]
      refine CGo_claim hcy hE2 hs20 hcp (GS_su gz) hrr (Or.inr ⟨rfl, ?_, by rw [e2, e3, em2], fun c k q q1 q2 => ?_⟩)
      · rw [ev, si_cell (by decide), e7, em2]; (simp only [si_get, sfl_get, Nat.reduceEqDiff, eq_self, and_false, false_and, and_true, true_and, if_true, if_false, reduceIte, reduceCtorEq])
      · rw [ev, si_get, if_neg q1, e7, em2, si_get, if_neg q2]
        exact hcw c k q
    · have e1 : x7.1 60 14 = m := by
        rw [e7, si_cell (by decide), em 14 (by omega)]
        rcases ham with ⟨e, -⟩ | ⟨-, e⟩
        · exact absurd e c
        · exact e.symm
      have e2 : v.1 60 14 = m + 1 := by rw [ev, e1]; (simp only [si_get, sfl_get, Nat.reduceEqDiff, eq_self, and_false, false_and, and_true, true_and, if_true, if_false, reduceIte, reduceCtorEq])
      rw [e2, t_add (by show _ ≤ _ + (1 : Int); omega) (by show _ + (1 : Int) ≤ _; omega)]
      show 0 ≤ _ + (1 : Int) ∧ _ + (1 : Int) ≤ _
      omega
    · have e1 : x7.1 60 14 = m := by
        rw [e7, si_cell (by decide), em 14 (by omega)]
        rcases ham with ⟨ea, e⟩ | ⟨-, e⟩
        · exact absurd ea c
        · exact e.symm
      have e2 : v.1 60 14 = m + 1 := by rw [ev, e1]; (simp only [si_get, sfl_get, Nat.reduceEqDiff, eq_self, and_false, false_and, and_true, true_and, if_true, if_false, reduceIte, reduceCtorEq])
      have vk : ∀ k, k ≠ 14 → k ≠ 3 → v.1 60 k = x.1 60 k := fun k h1 h2 => by rw [ev, si_get, if_neg (fun q => h1 q.2), e7, si_cell (by decide)]; exact em k h2
      have em2 : m = x.1 60 14 := by rw [← e1, e7, si_cell (by decide), em 14 (by omega)]
      have eQ2 : Q = (n.1, n.2.1, n.2.2.1, n.2.2.2.1 + 1, n.2.2.2.2) := by
        rcases eQ with ⟨e, eq⟩ | ⟨e, eq⟩
        · exact absurd e c
        · exact eq
      have e3 : (m + 1).toInt = m.toInt + 1 := t_add (by show _ ≤ _ + (1 : Int); omega) (by show _ + (1 : Int) ≤ _; omega)
      obtain ⟨n1, n2, n3, n4, n5⟩ := hCn
      rw [eQ2]
      refine ⟨by rw [vk 6 (by omega) (by omega)]; exact n1, by rw [vk 9 (by omega) (by omega)]; exact n2, by rw [vk 10 (by omega) (by omega)]; exact n3, ?_, ?_⟩
      · show (v.1 60 14).toInt = ((n.2.2.2.1 + 1 : Nat) : Int)
        rw [e2, e3, em2]; omega
      · rw [vk 16 (by omega) (by omega)]; exact n5
    · have e1 : x7.1 60 14 = m := by
        rw [e7, si_cell (by decide), em 14 (by omega)]
        rcases ham with ⟨ea, e⟩ | ⟨-, e⟩
        · exact absurd ea c
        · exact e.symm
      have em2 : m = x.1 60 14 := by rw [← e1, e7, si_cell (by decide), em 14 (by omega)]
      have e2 : v.1 60 14 = m + 1 := by rw [ev, e1]; (simp only [si_get, sfl_get, Nat.reduceEqDiff, eq_self, and_false, false_and, and_true, true_and, if_true, if_false, reduceIte, reduceCtorEq])
      have e3 : (m + 1).toInt = m.toInt + 1 := t_add (by show _ ≤ _ + (1 : Int); omega) (by show _ + (1 : Int) ≤ _; omega)
      have ev9 : v9 = (35, nn x, 0) := by
        rcases hv35 with ⟨e, -⟩ | ⟨-, e⟩
        · exact absurd e c
        · exact e
      rw [ev9, eN20]
      refine CGo_claim hcy hE2 hs20 hcp (GS_su gz) hrr (Or.inl ⟨rfl, ?_, by rw [e2, e3, em2], fun c k q q1 q2 => ?_⟩)
      · rw [ev, si_cell (by decide), e7, em2]; (simp only [si_get, sfl_get, Nat.reduceEqDiff, eq_self, and_false, false_and, and_true, true_and, if_true, if_false, reduceIte, reduceCtorEq])
      · rw [ev, si_get, if_neg q1, e7, em2, si_get, if_neg q2]
        exact hcw c k q
  have p36 : ∀ a m : Int32, (a = 0 ∧ m = x.1 60 16 ∨ ¬ a = 0 ∧ m = x.1 60 14) → (a = 0 ↔ K (nn x) = 21) → KE G q (d + 10) zk_X7_claim 36 [(0, vr 100), (1, vi a)] [vi m] x (rv Fv) X := by
    intro a m ham hak
    refine kg_X7_claim_36 hq _ _ ⟨fun c => p47 a m ham hak (by rw [t_lt, k4] at c; exact c), fun c => kh_refuse hq (hx ?_) hB _⟩
    rw [t_lt, k4] at c
    rw [eW]
    unfold pD
    rcases hk with k | k
    · have na : ¬ a = 0 := fun z => by
        have := hak.mp z
        rw [k] at this
        exact absurd this (by decide)
      have hm4 : ¬ n.2.2.2.1 < 4 := by
        have := hCn.2.2.2.1
        rcases ham with ⟨e, -⟩ | ⟨-, e⟩
        · exact absurd e na
        · rw [e] at c; omega
      rw [if_neg (by rw [k]; decide), if_neg (by rw [k]; decide), if_neg (by rw [k]; decide), if_neg (by rw [k]; decide), if_neg (by rw [k]; decide), if_pos k, if_neg (fun z => hm4 z.1)]
    · have na : a = 0 := hak.mpr k
      have hm4 : ¬ n.2.2.2.2 < 4 := by
        have := hCn.2.2.2.2
        rcases ham with ⟨-, e⟩ | ⟨e, -⟩
        · rw [e] at c; omega
        · exact absurd na e
      rw [if_neg (by rw [k]; decide), if_neg (by rw [k]; decide), if_neg (by rw [k]; decide), if_neg (by rw [k]; decide), if_neg (by rw [k]; decide), if_neg (by rw [k]; decide), if_pos k, if_neg (fun z => hm4 z.1)]
  have p14 : ∀ a : Int32, (a = 0 ↔ K (nn x) = 21) → KE G q (d + 10) zk_X7_claim 14 [(0, vr 100)] [vi a] x (rv Fv) X := fun a hak => kg_X7_claim_14 hq _ ⟨fun c => p36 _ _ (Or.inl ⟨c, rfl⟩) hak, fun c => p36 _ _ (Or.inr ⟨c, rfl⟩) hak⟩
  have i11 : x.1 23 (x.1 100 4).toNatClampNeg = 41 ↔ K (nn x) = 11 := KA_k hA hn0 41 (by decide)
  refine kg_X7_claim_0 hq (kp_sort hq hB.1.1 ⟨fun c => p14 _ ⟨fun _ => hk.resolve_left (fun z => c (i11.mpr z)), fun _ => rfl⟩, fun c => p14 _ ⟨fun z => absurd z (by decide), fun z => ?_⟩⟩)
  rw [i11.mp c] at z
  exact absurd z (by decide)
end KDI
end
section
/-! the class: a thread begins; definitions; all is read -/
section KDJ
variable {G : kG} {q : kP} {d : Nat} {x x0 y z xs : gd} {F : Int32 → gd → Prop} {Fv : gd → Prop} {X : String → gd → Prop} {P : Option gv → gd → Prop} {K V : Nat → Int32} {sN : Nat → Nat → Bool} {e : Nat} {Ev : gV} {Ml N : gU} {T : gTd} {n : gN} {W : gD}
/-- within a thread: what is still to be read -/
def THb (K V : Nat → Int32) (sN : Nat → Nat → Bool) (e : Nat) (Ev : gV) (x y : gd) (L : gU) (T : gTd) (n : gN) (W : gD) : Prop := ∃ (N : gU) (W1 : gTs) (i0 t b : Nat), RIw K V sN e Ev x y N ∧ EN K e y [0] (exs N Ev) ∧ (y.1 100 7).toInt = ((0 : Nat) : Int) ∧ W = W1.bind (fun q => some ((n.1, n.2.1, n.2.2.1 + 1, n.2.2.2), q.2)) ∧ W1 = pBk (pS K 16) K 0 0 i0 (L ++ [(34, t, b)]) ∧ W1 = eS K [0] 0 (nn y) (L ++ N) ∧ TBk y (T ++ [(t, 2, 0, 0)]) ∧ CNk y (n.1, n.2.1, n.2.2.1 + 1, n.2.2.2) ∧ La x y ∧ CGb sN V K Ev x y N
theorem kh_beginThread (hq : kV q) (L : gU) (hx : W = none → RX x0 X) (eW : W = pD K V n (nn x) L) (hk : K (nn x) = 23 ∨ K (nn x) = 37) (hA : KA K V sN e x) (hn0 : nn x ≤ e) (hTb : TBk x T) (hCn : CNk x n) (hE1 : Ev.1 = []) (hE2 : Ev.2.1 = []) (hI : OT x0 x) (h : ∀ y, BB x0 y (y.1 60 13).toInt E0 → 1 ≤ om y → om y ≤ 17 → 2 * ssm y + om y ≤ nx y → nx x < nx y → THb K V sN e Ev x y L T n W → Fv y) : KE G q (d + 9) zk_X7_beginThread 0 [(0, vr 100)] [] x (rv Fv) X := by
  have k6 : (6 : Int32).toInt = 6 := rfl
  have k0 : (0 : Int32).toInt = 0 := rfl
  have hB := OT_b hI
  have acc := hI.2.2.2.2.2.2
  have hC := hB.2.2.1.2.2.1
  have t0 := hB.2.2.1.2.1.2.2.1
  have p42 : (x.1 60 10).toInt < 6 → ∀ (a : Int32) (y : gd) (b9 : Nat), ((a = 0 ∧ b9 = 0) ∨ (a = 1 ∧ b9 = 1)) → (∀ c k, ccS c k → y.1 c k = x.1 c k) → OTb x0 y → GS x y → RIw K V sN e Ev x y [] → W = (if (K (nn y) = 37 ∧ nn y < 700) ∧ K (nn y + 1) = 1 ∧ nn y + 1 < 700 then (pBk (pS K 16) K 0 0 (nn y + 2) (L ++ [(34, nn y + 1, b9)])).bind (fun q => some ((n.1, n.2.1, n.2.2.1 + 1, n.2.2.2), q.2)) else none) → KE G q (d + 9) zk_X7_beginThread 42 [(0, vr 100), (1, vi (x.1 60 10)), (2, vi a)] [] y (rv Fv) X := by
    intro c a y b9 hab hcy hBy gy hRy hWy
    have ln := gy.1.2.1
    refine kg_X7_beginThread_42 hq _ _ (kh_need hq 67 37 (by decide) (by decide) (by decide) (fun no => hx (by rw [hWy, if_neg (fun z => no z.1)])) hBy hRy (fun kk c7 y1 hB1 n1 g1 en1 hR1 _ hc1 => kh_needFor hq 2 1 1 (by decide) (by decide) (by decide) (by decide) (fun no => hx (by rw [hWy, if_neg (fun z => no (by rw [en1]; exact z.2))])) hB1 hR1.1 hR1.2.1 (fun kk2 c8 w hBw nw gw enw hAw hnw eu ht hcw => ?_)))
    rw [en1] at kk2 c8
    rw [if_pos ⟨⟨kk, c7⟩, kk2, c8⟩] at hWy
    have b10 := hB1.1.1.2.1
    have hRw : RIw K V sN e Ev x w ([] ++ [(34, nn y1, b9)]) := RI_use hR1 b10 gw.1 hAw hnw enw (HAs_one.mpr (HA_34.mpr ⟨by omega, eu⟩)) (fun _ => HBs_one.mpr (by rw [eu]; exact HB_t (Or.inr (Or.inr (Or.inr rfl)))))
    have hRw : RIw K V sN e Ev x w [(34, nn y1, b9)] := hRw
    have enw2 : nn w = nn y + 2 := by omega
    rw [← enw2, ← en1] at hWy
    obtain ⟨W1, eW1⟩ : ∃ W1, W1 = pBk (pS K 16) K 0 0 (nn w) (L ++ [(34, nn y1, b9)]) := ⟨_, rfl⟩
    rw [← eW1] at hWy
    have gg := GS_tr (GS_tr gy g1) gw
    obtain ⟨hS, hF, ⟨r1, hNw, hCw, ⟨r4, r6⟩, r7⟩, hSC, r5, r0⟩ := id hBw
    have w10 : w.1 60 10 = x.1 60 10 := GS_at gg _ _ (by unfold sSum; omega)
    have w40 : w.1 40 10 = x.1 60 10 := by rw [← hCw.2.2.1, w10]
    have t10 : 0 ≤ (x.1 60 10).toInt := by have := hNw.2.2.1.1; rw [w40] at this; exact this
    have e1 : (x.1 60 10 + 1).toInt = (x.1 60 10).toInt + 1 := t_add (by show _ ≤ _ + (1 : Int); omega) (by show _ + (1 : Int) ≤ _; omega)
    have eT : (((x.1 60 10).toNatClampNeg : Nat) : Int) = (x.1 60 10).toInt := by rw [t_cl]; omega
    have vt : vp_in (x.1 60 10) 6 := by rw [vp_in_iff]; omega
    refine kf_tellThread hq _ hNw.2.2.1.1 (by rw [w40]; exact c) (fun u fuS cu u50 => ⟨vt, fun x6 e6 => ⟨vt, fun x8 e8 x9 e9 x10 e10 x11 e11 x12 e12 z ez => ?_⟩⟩)
    have fu : fm (fun c k => (c = 40 ∧ k = 10) ∨ c = 50) w u := fm_w fuS (fun c k q => by omega)
    have eN8 : (((w.1 40 10).toNatClampNeg : Nat) : Int) = (w.1 40 10).toInt := by
      have := hNw.2.2.1.1
      rw [t_cl]; omega
    have hu : ∀ i : Nat, (i : Int) < (w.1 40 10).toInt + 1 → ((i : Int) < (w.1 40 10).toInt ∧ u.1 50 i = w.1 50 i) ∨ u.1 50 i = y1.1 100 4 := by
      intro i hi
      by_cases hi2 : i = (w.1 40 10).toNatClampNeg
      · rw [hi2]; exact Or.inr u50
      · exact Or.inl ⟨by omega, fuS 50 i (by omega)⟩
    have f : fm (fun c k => (c = 40 ∧ k = 10) ∨ c = 50 ∨ c = 73 ∨ (c = 72 ∧ k = (x.1 60 10).toNatClampNeg) ∨ (c = 60 ∧ k = 10) ∨ (c = 100 ∧ (k = 5 ∨ k = 7 ∨ k = 9 ∨ k = 13))) w z := by
      rw [ez, e12, e11, e10, e9, e8, e6]
      exact fm_si (fm_si (fm_si (fm_si (fm_si (fm_si (fm_si (fm_w fu (fun c k q => by omega)) (by omega)) (by omega)) (by omega)) (by omega)) (by omega)) (by omega)) (by omega)
    have z10 : z.1 60 10 = x.1 60 10 + 1 := by rw [ez, e12, e11, e10, e9, e8, e6]; (simp only [si_get, sfl_get, Nat.reduceEqDiff, eq_self, and_false, false_and, and_true, true_and, if_true, if_false, reduceIte, reduceCtorEq]); rw [fu 60 10 (by omega), w10]
    have z40 : z.1 40 10 = x.1 60 10 + 1 := by rw [ez, e12, e11, e10, e9, e8, e6]; (simp only [si_get, sfl_get, Nat.reduceEqDiff, eq_self, and_false, false_and, and_true, true_and, if_true, if_false, reduceIte, reduceCtorEq]); rw [cu, w40]
    have z72 : z.1 72 (x.1 60 10).toNatClampNeg = w.1 80 9 := by rw [ez, e12, e11, e10, e9, e8, e6]; (simp only [si_get, sfl_get, Nat.reduceEqDiff, eq_self, and_false, false_and, and_true, true_and, if_true, if_false, reduceIte, reduceCtorEq]); exact fu _ _ (by omega)
    have z5 : z.1 100 5 = 1 := by rw [ez]; (simp only [si_get, sfl_get, Nat.reduceEqDiff, eq_self, and_false, false_and, and_true, true_and, if_true, if_false, reduceIte, reduceCtorEq])
    have z7 : z.1 100 7 = 0 := by rw [ez, e12, e11, e10]; (simp only [si_get, sfl_get, Nat.reduceEqDiff, eq_self, and_false, false_and, and_true, true_and, if_true, if_false, reduceIte, reduceCtorEq])
    have z9 : z.1 100 9 = 0 := by rw [ez, e12, e11]; (simp only [si_get, sfl_get, Nat.reduceEqDiff, eq_self, and_false, false_and, and_true, true_and, if_true, if_false, reduceIte, reduceCtorEq])
    have z13 : z.1 100 13 = 0 := by rw [ez, e12]; (simp only [si_get, sfl_get, Nat.reduceEqDiff, eq_self, and_false, false_and, and_true, true_and, if_true, if_false, reduceIte, reduceCtorEq])
    have om0 : om z = 0 := by unfold om; rw [z13]; rfl
    have e4 : nx z = nx w := by unfold nx; rw [f 100 4 (by omega)]
    have es : ssm z = ssm w := by unfold ssm; rw [f 80 9 (by omega)]
    have sx : ssm w = ssm x := GS_sm gg
    have la : La w z := ⟨fun c k q1 q2 => f c k (by omega), by omega, fun j _ => f 42 j (by omega)⟩
    have tkk : ∀ a, tk w a → tk z a := fun a ha => by unfold tk at ha ⊢; rw [f 20 7 (by omega)]; exact ha
    have m13 : z.1 60 13 = w.1 60 13 := f _ _ (by omega)
    have hBz : BB x0 z (w.1 60 13).toInt E0 := by
      refine ⟨?_, ?_, ⟨fun _ => ⟨?_, ?_⟩, ?_, ?_, ⟨by omega, fun i hi => SA_La la (f _ _ (by omega)) (f _ _ (by omega)) (f _ _ (by omega)) (f _ _ (by omega)) (Int.le_refl _) (r6 i (by omega))⟩, ?_⟩, fun i hi he => ?_, by rw [z5]; decide, fm_tr r0 (fm_w f (fun c k q => by unfold sR; omega)), fun _ k hk => by omega, fun k hk => by omega⟩
      · obtain ⟨⟨hT, b1, b2, b3⟩, ⟨u1, u2⟩, hp, hP⟩ := hS
        unfold SU SV US RB mt
        rw [f 20 7 (by omega), f 60 3 (by omega), e4]
        refine ⟨⟨kT_fm hT la.1, b1, b2, b3⟩, ⟨fun j h1 h2 => ?_, fun j h1 h2 => ?_⟩, hp, fun i hi => La_PQ la (f _ _ (by omega)) (f _ _ (by omega)) (hP i hi)⟩
        · rw [f 42 j (by omega)]; exact u1 j h1 h2
        · rw [f 42 j (by omega)] at h2; rw [f 42 _ (by omega)]; exact u2 j h1 h2
      · unfold FR at hF ⊢
        rw [f 100 4 (by omega), f 42 _ (by omega)]; exact hF
      · unfold KN
        rw [z9, k0]
        exact ⟨by omega, fun i hi => by omega⟩
      · unfold OPs
        rw [om0, z9, z7, k0]
        exact ⟨by omega, fun k hk => by omega, fun j k hj hk => by omega, by omega, by omega⟩
      · unfold NM
        rw [z40, e1, f 40 6 (by omega), f 40 8 (by omega), f 60 6 (by omega)]
        refine ⟨hNw.1, hNw.2.1, by omega, fun i hi => ?_, fun i hi => ?_, fun i hi => ?_⟩
        · rw [f 44 i (by omega), f 45 i (by omega), f 46 i (by omega)]
          obtain ⟨p1, p2⟩ := hNw.2.2.2.1 i hi
          exact ⟨tkk _ p1, p2⟩
        · rw [f 48 i (by omega)]; exact tkk _ (hNw.2.2.2.2.1 i hi)
        · have zi : z.1 50 i = u.1 50 i := by rw [ez, e12, e11, e10, e9, e8, e6]; (simp only [si_get, sfl_get, Nat.reduceEqDiff, eq_self, and_false, false_and, and_true, true_and, if_true, if_false, reduceIte, reduceCtorEq])
          rw [zi]
          rcases hu i (by rw [w40]; exact hi) with ⟨g1, g2⟩ | g
          · rw [g2]; exact tkk _ (hNw.2.2.2.2.2 i g1)
          · rw [g]; exact tkk _ ht
      · unfold CD at hCw ⊢
        rw [z10, z40, f 60 6 (by omega), f 60 9 (by omega), f 40 8 (by omega), f 60 14 (by omega), f 60 16 (by omega), m13, z9, k0]
        exact ⟨hCw.1, hCw.2.1, rfl, hCw.2.2.2.1, hCw.2.2.2.2.1, hCw.2.2.2.2.2.1, fun _ => hCw.2.2.2.2.2.1.1⟩
      · unfold TS
        rw [z10, e1, z5, es]
        refine ⟨fun t ht => ?_, fun c => absurd c (by decide)⟩
        by_cases ht2 : t = (x.1 60 10).toNatClampNeg
        · rw [ht2, z72]
          exact ⟨r4, Int.le_refl _, fun c => absurd c (by decide)⟩
        · rw [f 72 t (by omega)]
          obtain ⟨p1, p2, -⟩ := r7.1 t (by rw [w10]; omega)
          exact ⟨p1, p2, fun c => absurd c (by decide)⟩
      · have := hSC i (by omega) he
        unfold SC at this ⊢
        have ep : ∀ j, sop z j = sop w j := fun j => by unfold sop; rw [f 81 j (by omega)]
        have et : stg z i = stg w i := by unfold stg; rw [f 84 i (by omega)]
        rw [ep, et, es, ep]
        intro c
        rcases this c with ⟨-, p2, -⟩ | ⟨p1, p2, p3, p4⟩
        · exact absurd r5 p2
        · exact Or.inr ⟨p1, p2, fun c5 => by rw [z5] at c5; exact absurd c5 (by decide), p4⟩
    have b2 := hS.1.2.2.1
    have nzw : nn z = nn w := by unfold nn; rw [f 100 4 (by omega)]
    have hRz : RIw K V sN e Ev x z [(34, nn y1, b9)] := RI_st hRw (f _ _ (by omega)) (fun j => f _ _ (by omega)) (fun c k q1 q2 => f _ _ (by omega))
    have hVz : KV' K e z Ev := by
      unfold KV'
      rw [hE1, z9]
      exact ⟨rfl, fun p k hp => by simp at hp⟩
    have hSz : SKs z (om z).toNat [] [] := by rw [om0]; exact ⟨rfl, rfl⟩
    have z9c : (z.1 100 9).toNatClampNeg = 0 := by rw [z9]; rfl
    refine kd_openBlock hq 0 _ (fun no => hx (by rw [hWy, eW1, pBk, if_neg (by rw [← nzw]; exact no)]; rfl)) hRz hVz (z9 := 0) (by decide) hSz hBz (by omega) (by omega) (by decide) (Or.inl (fun k hk => by omega)) ⟨fun _ => ⟨rfl, rfl⟩, fun c => by omega⟩ (fun i hi he => absurd he (fun e => e)) (fun v hBv nv sv ov v13 kk3 c9 env lav hRv hVv hSv v7 hpu => rv_i (h v ?_ (by omega) (by omega) (by omega) (by omega) ⟨[(34, nn y1, b9)] ++ [(20, 0, 0)], W1, nn w, nn y1, b9, RI_dull hRv (dull_k (by decide)), ?_, ?_, hWy, eW1, ?_, ?_, ?_, ?_, ?_⟩))
    · rw [v13, m13]; exact hBv
    · have ex : exs ([(34, nn y1, b9)] ++ [(20, 0, 0)]) Ev = (Ev.1, Ev.1.length :: Ev.2.1, Ev.2.2) := by rw [exs_app, exs_still (L := [(34, nn y1, b9)]) (stl_k (by decide))]; rfl
      rw [ex, hE2]
      rw [z9c] at hSv
      refine ⟨hVv, ?_, ⟨[], ?_⟩⟩
      · rw [hE1]; exact hSv
      · rw [hE1]; rfl
    · rw [v7, z7]; rfl
    · rw [nzw] at kk3 c9 env
      have hb := eS_block (K := K) (z := 0) (u := []) (f := 16) (c := 0) (i := nn w) (L := L ++ [(34, nn y1, b9)]) (by decide) rfl kk3 c9
      rw [← eW1] at hb
      have e0 : (fun q : Nat × Nat × gU => eC K 0 [] q.1 q.2.1 q.2.2) = some := by funext q; exact eC_0
      have bs : Option.bind W1 some = W1 := by cases W1 <;> rfl
      rw [e0, bs] at hb
      rw [hb, env, List.append_assoc]
    · refine TBk_e ?_ lav.2
      have et : (y1.1 100 4).toNatClampNeg = nn y1 := rfl
      have hTw : TBk w T := TBk_e hTb (TBe_GS gg)
      have r := TBk_thread (z := z) (t := y1.1 100 4) hTw (by rw [z40, e1, w40]) (by rw [ez, e12, e11, e10, e9, e8, e6]; (simp only [si_get, sfl_get, Nat.reduceEqDiff, eq_self, and_false, false_and, and_true, true_and, if_true, if_false, reduceIte, reduceCtorEq]); exact u50) (fun i hi => by
        have zi : z.1 50 i = u.1 50 i := by rw [ez, e12, e11, e10, e9, e8, e6]; (simp only [si_get, sfl_get, Nat.reduceEqDiff, eq_self, and_false, false_and, and_true, true_and, if_true, if_false, reduceIte, reduceCtorEq])
        rw [zi]; exact fuS 50 i (by omega)) (fun c k hc => f c k (by omega))
      exact r
    · refine CNk_e ?_ lav.2
      obtain ⟨m1, m2, m3, m4, m5⟩ := CNk_e hCn (TBe_GS gg)
      refine ⟨by rw [f 60 6 (by omega)]; exact m1, by rw [f 60 9 (by omega)]; exact m2, ?_, by rw [f 60 14 (by omega)]; exact m4, by rw [f 60 16 (by omega)]; exact m5⟩
      show (z.1 60 10).toInt = ((n.2.2.1 + 1 : Nat) : Int)
      rw [z10, e1]
      rw [w10] at m3
      omega
    · exact La_tr (La_tr gg.1 la) lav.1
    · obtain ⟨w0, q1, q2⟩ := hpu
      have hcx : ∀ c k, ccS c k → w.1 c k = x.1 c k := fun c k q => (hcw c k q).trans ((hc1 c k q).trans (hcy c k q))
      have oz : ∀ c k, ¬ (c = 73 ∧ k = (x.1 60 10).toNatClampNeg) → ¬ (c = 72 ∧ k = (x.1 60 10).toNatClampNeg) → ¬ (c = 60 ∧ k = 10) → ¬ c = 100 → z.1 c k = u.1 c k := fun c k a1 a2 a3 a4 => by
        rw [ez, si_cell a4, e12, si_cell a4, e11, si_cell a4, e10, si_cell a4, e9, si_get, if_neg a3, e8, si_get, if_neg a2, e6, si_get, if_neg a1]
      refine CGb_thread (y := z) (fun c k q a1 a2 a3 a4 => (oz c k a3 a2 a1 a4).trans ((fu c k (by unfold ccS at q; omega)).trans (hcx c k q))) (by rw [z10, e1]) (by rw [z72]; exact hcx 80 9 (Or.inr (Or.inl ⟨by decide, by decide⟩))) ?_ z13 hB.2.2.2.2.1 hE1 hE2 q1 q2
      have z73 : z.1 73 (x.1 60 10).toNatClampNeg = vp_nar .boolean a := by rw [ez, e12, e11, e10, e9, e8, e6]; (simp only [si_get, sfl_get, Nat.reduceEqDiff, eq_self, and_false, false_and, and_true, true_and, if_true, if_false, reduceIte, reduceCtorEq])
      rw [z73]
      rcases hab with ⟨a1, a2⟩ | ⟨a1, a2⟩ <;> (rw [a1, a2]; rfl)
  have hR0 : RIw K V sN e Ev x x [] := ⟨hA, hn0, UR_0 rfl⟩
  have i23 : x.1 23 (x.1 100 4).toNatClampNeg = 53 ↔ K (nn x) = 23 := KA_k hA hn0 53 (by decide)
  have hc3 := hCn.2.2.1
  refine kg_X7_beginThread_0 hq ⟨fun c => kg_X7_beginThread_19 hq _ (kp_sort hq hB.1.1 ⟨fun c2 => ?_, fun c2 => ?_⟩), fun c => kh_refuse hq (hx ?_) hB _⟩
  · rw [t_lt, k6] at c
    have k37 : K (nn x) = 37 := hk.resolve_left (fun z => c2 (i23.mpr z))
    refine kg_X7_beginThread_33 hq _ _ ⟨fun _ => p42 c _ x 0 (Or.inl ⟨rfl, rfl⟩) (fun c k _ => rfl) hB GS_rf hR0 ?_, fun q => absurd rfl q⟩
    rw [eW]
    unfold pD
    rw [if_neg (by rw [k37]; decide), if_neg (by rw [k37]; decide), if_neg (by rw [k37]; decide), if_neg (by rw [k37]; decide), if_pos k37]
    by_cases cc : nn x < 700 ∧ K (nn x + 1) = 1 ∧ nn x + 1 < 700
    · rw [if_pos ⟨by omega, cc⟩, if_pos ⟨⟨k37, cc.1⟩, cc.2⟩]
    · rw [if_neg (fun z => cc z.2), if_neg (fun z => cc ⟨z.1.2, z.2⟩)]
  · rw [t_lt, k6] at c
    have k23 := i23.mp c2
    have hW : W = if n.2.2.1 < 6 ∧ nn x < 700 ∧ (K (nn x + 1) = 37 ∧ nn x + 1 < 700) ∧ K (nn x + 2) = 1 ∧ nn x + 2 < 700 then (pBk (pS K 16) K 0 0 (nn x + 3) (L ++ [(34, nn x + 2, 1)])).bind (fun q => some ((n.1, n.2.1, n.2.2.1 + 1, n.2.2.2), q.2)) else none := by
      rw [eW]
      unfold pD
      rw [if_neg (by rw [k23]; decide), if_neg (by rw [k23]; decide), if_neg (by rw [k23]; decide), if_pos k23]
    refine kg_X7_beginThread_33 hq _ _ ⟨fun q => absurd q (by decide), fun _ => kh_pass hq (fun c7 => hx (by rw [hW, if_neg (fun z => absurd z.2.1 (by omega))])) hB hR0 (by rw [k23]; decide) (by rw [k23]; decide) (fun c7 y hBy ny gy eny hRy _ hcy => p42 c _ y 1 (Or.inr ⟨rfl, rfl⟩) hcy hBy gy hRy ?_)⟩
    rw [hW, eny]
    by_cases cc : (K (nn x + 1) = 37 ∧ nn x + 1 < 700) ∧ K (nn x + 2) = 1 ∧ nn x + 2 < 700
    · rw [if_pos ⟨by omega, c7, cc⟩, if_pos cc]
    · rw [if_neg (fun z => cc z.2.2), if_neg cc]
  · have c3 : ¬ n.2.2.1 < 6 := by
      rw [t_lt, k6] at c
      omega
    rw [eW]
    unfold pD
    rcases hk with k | k
    · rw [if_neg (by rw [k]; decide), if_neg (by rw [k]; decide), if_neg (by rw [k]; decide), if_pos k, if_neg (fun z => c3 z.1)]
    · rw [if_neg (by rw [k]; decide), if_neg (by rw [k]; decide), if_neg (by rw [k]; decide), if_neg (by rw [k]; decide), if_pos k, if_neg (fun z => c3 z.1)]
theorem kh_definition (hq : kV q) (L : gU) (hx : W = none → RX x0 X) (eW : W = pD K V n (nn x) L) (hA : KA K V sN e x) (hn0 : nn x ≤ e) (hTb : TBk x T) (hCn : CNk x n) (hE1 : Ev.1 = []) (hE2 : Ev.2.1 = []) (hI : OT x0 x) (h : ∀ y N n', OT x0 y → nx x < nx y → RIw K V sN e Ev x y N → still N → W = some (n', nn y, L ++ N) → TBk y (T ++ N.filterMap (te1 K V)) → CNk y n' → La x y → CGo sN V K Ev x y N → Fv y) (h2 : ∀ y, BB x0 y (y.1 60 13).toInt E0 → 1 ≤ om y → om y ≤ 17 → 2 * ssm y + om y ≤ nx y → nx x < nx y → THb K V sN e Ev x y L T n W → Fv y) : KE G q (d + 11) zk_X7_definition 0 [(0, vr 100)] [] x (rv Fv) X := by
  have hB := OT_b hI
  have hKs : K (nn x) = kc (x.1 23 (nn x)) := (hA.1 _ hn0).symm
  have ki : ∀ s k : Int32, kc s = k → x.1 23 (x.1 100 4).toNatClampNeg = s → K (nn x) = k := fun s k e1 e2 => by rw [hKs, ← e1]; exact congrArg kc e2
  have ik : ∀ s k : Int32, kc s = k → ¬ k = -1 → K (nn x) = k → x.1 23 (x.1 100 4).toNatClampNeg = s := fun s k e1 e2 e3 => kc_i (by rw [e1, ← e3]; exact hA.1 _ hn0) (by rw [e1]; exact e2)
  refine kg_X7_definition_0 hq (kp_sort hq hB.1.1 ⟨fun c => kh_cellDefinition hq L hx eW (c.symm.imp (ki 64 34 (by decide)) (ki 47 17 (by decide))) hA hn0 hTb hCn hI (fun y N n' a1 a2 a3 a4 a5 a6 a7 a8 a9 => rv_i (h y N n' a1 a2 a3 a4 a5 a6 a7 a8 a9)), fun c => kh_lockDefinition hq L hx eW (ki 57 27 (by decide) c) hA hn0 hTb hCn hI (fun y N n' a1 a2 a3 a4 a5 a6 a7 a8 a9 => rv_i (h y N n' a1 a2 a3 a4 a5 a6 a7 a8 a9)), fun c => kh_beginThread hq L hx eW (c.imp (ki 53 23 (by decide)) (ki 67 37 (by decide))) hA hn0 hTb hCn hE1 hE2 hI (fun y a1 a2 a3 a4 a5 a6 => rv_i (h2 y a1 a2 a3 a4 a5 a6)), fun c => kh_claim hq L hx eW (c.imp (ki 41 11 (by decide)) (ki 51 21 (by decide))) hA hn0 hTb hCn hE2 hI (fun y N n' a1 a2 a3 a4 a5 a6 a7 a8 a9 => rv_i (h y N n' a1 a2 a3 a4 a5 a6 a7 a8 a9)), fun c => kh_refuse hq (hx ?_) hB _⟩)
  have no : ∀ s k : Int32, s ∈ [(47 : Int32), (64 : Int32), (57 : Int32), (53 : Int32), (67 : Int32), (41 : Int32), (51 : Int32)] → kc s = k → ¬ k = -1 → ¬ K (nn x) = k := fun s k hs e1 e2 e3 => c s hs (ik s k e1 e2 e3)
  rw [eW]
  unfold pD
  rw [if_neg (no 64 34 (by decide) (by decide) (by decide)), if_neg (no 47 17 (by decide) (by decide) (by decide)), if_neg (no 57 27 (by decide) (by decide) (by decide)), if_neg (no 53 23 (by decide) (by decide) (by decide)), if_neg (no 67 37 (by decide) (by decide) (by decide)), if_neg (no 41 11 (by decide) (by decide) (by decide)), if_neg (no 51 21 (by decide) (by decide) (by decide))]
end KDJ
end
section
/-! the class: all is read -/
section KDK
variable {G : kG} {q : kP} {d : Nat} {x x0 y z xs : gd} {F : Int32 → gd → Prop} {Fv : gd → Prop} {X : String → gd → Prop} {P : Option gv → gd → Prop} {K V : Nat → Int32} {sN : Nat → Nat → Bool} {e : Nat} {Ev : gV} {Ml N : gU} {T : gTd} {n : gN} {W : gD}
/-- outside a thread, L read -/
def RAo (K V : Nat → Int32) (sN : Nat → Nat → Bool) (e : Nat) (x xs y : gd) (W : gD) : Prop := ∃ (L : gU) (n : gN) (m : Nat), OT x y ∧ RIw K V sN e E0v xs y L ∧ (exs L E0v).1 = [] ∧ (exs L E0v).2.1 = [] ∧ TBk y (L.filterMap (te1 K V)) ∧ CNk y n ∧ W = pAl K V m n (nn y) L ∧ 701 ≤ m + nn y ∧ CCp sN V K y (cds sN K L cd0) (ces K V L (0, 0, [])) (tPs sN V K L E0v) ∧ eqE (cds sN K L cd0).1 (exs L E0v) ∧ rgO (cds sN K L cd0).2.2.2.1
/-- within one -/
def RAi (K V : Nat → Int32) (sN : Nat → Nat → Bool) (e : Nat) (x xs y : gd) (W : gD) : Prop := ∃ (L u : _) (c m i0 i1 : Nat) (n : gN) (L0 : gU) (W1 : gTs), (BB x y (y.1 60 13).toInt E0 ∧ W1 = eS K u c (nn y) L ∨ (BB x y (y.1 60 13).toInt E1 ∧ y.1 23 (y.1 100 4).toNatClampNeg = 54) ∧ W1 = eX K u c (nn y) L) ∧ 1 ≤ om y ∧ om y ≤ 17 ∧ 2 * ssm y + om y ≤ nx y ∧ RIw K V sN e E0v xs y L ∧ EN K e y u (exs L E0v) ∧ (y.1 100 7).toInt = (c : Nat) ∧ W1 = pBk (pS K 16) K 0 0 i0 L0 ∧ TBk y (L0.filterMap (te1 K V)) ∧ CNk y n ∧ W = W1.bind (fun q => pAl K V m n q.2.1 q.2.2) ∧ i1 < nn y ∧ 701 ≤ m + 1 + i1 ∧ CCp sN V K y (cds sN K L cd0) (ces K V L (0, 0, [])) (tPs sN V K L E0v) ∧ eqE (cds sN K L cd0).1 (exs L E0v) ∧ (cds sN K L cd0).2.2.2.1 = rg0
theorem kh_readAll (hq : kV q) (hT : kT x) (hA : KA K V sN e x) (hx : W = none → RX x X) (eW : W = pAl K V 701 (0, 0, 0, 0, 0) 0 []) (h : ∀ y n L, OT x y → W = some (n, nn y, L) → K (nn y) = 0 → KA K V sN e y → nn y ≤ e → HAs sN (y.1 42) (nn y) L E0v → (∀ j, j < nn y → ¬ y.1 42 j = 0 → HBs sN L E0v j (y.1 42 j)) → TBk y (L.filterMap (te1 K V)) → CNk y n → CCp sN V K y (cds sN K L cd0) (ces K V L (0, 0, [])) (tPs sN V K L E0v) → Fv y) : KE G q (d + 13) zk_X7_readAll 0 [(0, vr 100)] [] x (rv Fv) X := by
  have k0 : (0 : Int32).toInt = 0 := rfl
  have k700 : (700 : Int32).toInt = 700 := rfl
  obtain ⟨xs, exs0⟩ : ∃ xs : gd, nn xs = 0 := ⟨si x 100 4 0, by unfold nn; (simp only [si_get, sfl_get, Nat.reduceEqDiff, eq_self, and_false, false_and, and_true, true_and, if_true, if_false, reduceIte, reduceCtorEq]); rfl⟩
  have loop : ∀ (m : Nat) (k : Int32) (y : gd), (RAi K V sN e x xs y W ∨ RAo K V sN e x xs y W) → 0 ≤ k.toInt → k.toInt ≤ nx y → 700 - nx y < m → KE G q (d + 13) zk_X7_readAll 31 [(0, vr 100), (1, vi k)] [] y (rv Fv) X := by
    intro m
    induction m with
    | zero =>
      intro k y hy k0' kn hn
      have b2 : nx y ≤ 700 := by
        rcases hy with ⟨L, u, c, m, i0, i1, n, L0, W1, e | e, -⟩ | ⟨L, n, m, e, -⟩
        · exact e.1.1.1.2.2.1
        · exact e.1.1.1.1.2.2.1
        · exact e.1.1.2.2.1
      omega
    | succ m ih =>
      intro k y hy k0' kn hn
      have hR : RB y := by
        rcases hy with ⟨L, u, c, m, i0, i1, n, L0, W1, e | e, -⟩ | ⟨L, n, m, e, -⟩
        · exact e.1.1.1
        · exact e.1.1.1.1
        · exact e.1.1
      have b1 := hR.2.1
      have b2 := hR.2.2.1
      have cy := nn_is b1
      have ek : (k + 1).toInt = k.toInt + 1 := t_add (by show _ ≤ _ + (1 : Int); omega) (by show _ + (1 : Int) ≤ _; omega)
      have next : ∀ z, (RAi K V sN e x xs z W ∨ RAo K V sN e x xs z W) → nx y < nx z → KE G q (d + 13) zk_X7_readAll 31 [(0, vr 100), (1, vi (k + 1))] [] z (rv Fv) X := fun z hz nz => ih (k + 1) z hz (by omega) (by omega) (by omega)
      have up : ∀ z : gd, nx y < nx z → nn y < nn z := fun z nz => by
        have := nn_is (x := z) (by omega)
        omega
      have inth : ¬ y.1 100 5 = 0 → RAi K V sN e x xs y W := fun c => by
        rcases hy with e | ⟨L, n, m, e, -⟩
        · exact e
        · exact absurd e.2.2.2.2.1 c
      have outh : y.1 100 5 = 0 → RAo K V sN e x xs y W := fun c => by
        rcases hy with ⟨L, u, c9, m, i0, i1, n, L0, W1, e | e, -⟩ | e
        · exact absurd c e.1.2.2.2.2.1
        · exact absurd c e.1.1.2.2.2.2.1
        · exact e
      have pin : ¬ y.1 100 5 = 0 → KE G q (d + 13) zk_X7_readAll 52 [(0, vr 100), (1, vi k)] [] y (rv Fv) X := by
        intro c
        obtain ⟨L, u, c9, m9, i0, i1, n, L0, W1, hb, o1, o17, acc, hRI, hEN, h7, eW1, hTb, hCn, hWW, hi1, hm, hcc, hce, hcr⟩ := inth c
        have i64 : y.1 23 (y.1 100 4).toNatClampNeg = 24 ↔ K (nn y) = 64 := KA_k hRI.1 hRI.2.1 24 (by decide)
        have hx1 : W1 = none → RX x X := fun no => hx (by rw [hWW, no]; rfl)
        refine kg_X7_readAll_52 hq _ ⟨fun _ => kp_sort hq hR ⟨fun c24 => ?_, fun c24 => ?_⟩, fun z => absurd z c⟩
        · have k64 : ¬ K (nn y) = 64 := fun z => c24 (i64.mpr z)
          have eWX : W1 = eX K u c9 (nn y) L := by
            rcases hb with ⟨hB, e⟩ | ⟨-, e⟩
            · have oS : (om y).toNat = ((om y).toNat - 1) + 1 := by omega
              have hSx := hEN.2.1
              rw [oS] at hSx
              obtain ⟨z9, u2, B2, eu, -, z95, -⟩ := SKs_top hSx (hB.2.2.2.2.2.2.1 (fun e => e) ((om y).toNat - 1) (by omega))
              rw [e, eu, eS_stmt z95 k64]
            · exact e
          refine kd_statement hq c9 L hx1 eWX h7 hRI.1 hRI.2.1 hEN ⟨hb.imp (fun e => e.1) (fun e => e.1), o1, o17, acc⟩ (fun z N u9 c8 hBz oz1 oz17 az hRz hENz lz z7 hWz nz hCG => next z (Or.inl ⟨L ++ N, u9, c8, m9, i0, i1, n, L0, W1, Or.inl ⟨hBz, hWz⟩, oz1, oz17, az, RI_on b1 hRI lz.1 hRz, by rw [exs_app]; exact hENz, z7, eW1, TBk_e hTb lz.2, CNk_e hCn lz.2, hWW, Nat.lt_trans hi1 (up z nz), hm, by rw [cds_app, ces_app, tPs_app, exs_app]; exact hCG _ _ _ hce hcr hcc⟩) nz)
        · have k64 := i64.mp c24
          obtain ⟨hB, eWS⟩ : BB x y (y.1 60 13).toInt E0 ∧ W1 = eS K u c9 (nn y) L := by
            rcases hb with e | ⟨⟨-, e⟩, -⟩
            · exact e
            · rw [e] at c24; exact absurd c24 (by decide)
          refine kd_closeBlock hq c9 L hx1 eWS k64 hRI.1 hRI.2.1 hEN hB o1 o17 acc (fun z N u9 hbz oz1 oz17 az hRz hENz lz z7 nz hCG => next z (Or.inl ⟨L ++ N, u9, c9, m9, i0, i1, n, L0, W1, hbz, oz1, oz17, az, RI_on b1 hRI lz.1 hRz, by rw [exs_app]; exact hENz, by rw [z7]; exact h7, eW1, TBk_e hTb lz.2, CNk_e hCn lz.2, hWW, Nat.lt_trans hi1 (up z nz), hm, by rw [cds_app, ces_app, tPs_app, exs_app]; exact hCG _ _ _ hce hcr hcc⟩) nz) (fun z N hOz hRz e1 e2 lz hWz nz hCG => next z (Or.inr ⟨L ++ N, n, m9, hOz, RI_on b1 hRI lz.1 hRz, by rw [exs_app]; exact e1, by rw [exs_app]; exact e2, ?_, CNk_e hCn lz.2, ?_, ?_, ?_⟩) nz)
          · rw [eW1] at hWz
            have := nT_te (K := K) (V := V) (pBk_nT (pS_nT 16) hWz)
            rw [this]
            exact TBk_e hTb lz.2
          · rw [hWW, hWz]; rfl
          · have := up z nz
            omega
          · rw [cds_app, ces_app, tPs_app, exs_app]
            obtain ⟨h1, h2, h3⟩ := hCG _ _ _ hce hcr hcc
            exact ⟨h1, h2, 0, h3⟩
      have pout : y.1 100 5 = 0 → ¬ y.1 23 (y.1 100 4).toNatClampNeg = 0 → KE G q (d + 13) zk_X7_readAll 52 [(0, vr 100), (1, vi k)] [] y (rv Fv) X := by
        intro c c0
        obtain ⟨L, n, m9, hO, hRI, e1, e2, hTb, hCn, hWW, hm, hcc, hce, hcr⟩ := outh c
        obtain ⟨m8, rfl⟩ : ∃ k, m9 = k + 1 := ⟨m9 - 1, by omega⟩
        have k00 : ¬ K (nn y) = 0 := fun z => c0 ((KA_k hRI.1 hRI.2.1 0 (by decide)).mpr z)
        rw [pAl, if_neg k00] at hWW
        obtain ⟨W1, eW1⟩ : ∃ W1, W1 = pD K V n (nn y) L := ⟨_, rfl⟩
        rw [← eW1] at hWW
        have hx1 : W1 = none → RX x X := fun no => hx (by rw [hWW, no]; rfl)
        refine kg_X7_readAll_52 hq _ ⟨fun z => absurd c z, fun _ => kh_definition (Ev := exs L E0v) hq L hx1 eW1 hRI.1 hRI.2.1 hTb hCn e1 e2 hO (fun z N n' hOz nz hRz hN hWz hTz hCz lz hCG => next z (Or.inr ⟨L ++ N, n', m8, hOz, RI_on b1 hRI lz hRz, by rw [exs_app, exs_still hN]; exact e1, by rw [exs_app, exs_still hN]; exact e2, by rw [List.filterMap_append]; exact hTz, hCz, by rw [hWW, hWz]; rfl, ?_, by rw [cds_app, ces_app, tPs_app, exs_app]; exact hCG _ _ _ hce hcr hcc⟩) nz) (fun z hBz o1 o17 az nz hTH => next z (Or.inl ?_) nz)⟩
        · have := up z nz
          omega
        · obtain ⟨N, W2, i0, t, b, hRz, hENz, z7, hWz, eW2, hWS, hTz, hCz, lz, hCG⟩ := hTH
          refine ⟨L ++ N, [0], 0, m8, i0, nn y, _, L ++ [(34, t, b)], W2, Or.inl ⟨hBz, hWS⟩, o1, o17, az, RI_on b1 hRI lz hRz, by rw [exs_app]; exact hENz, z7, eW2, by rw [List.filterMap_append]; exact hTz, hCz, ?_, up z nz, hm, by rw [cds_app, ces_app, tPs_app, exs_app]; exact hCG _ _ _ hce hcr hcc⟩
          rw [hWW, hWz, Option.bind_assoc]
          rfl
      refine kg_X7_readAll_31 hq _ ⟨fun c => ?_, fun _ => ⟨fun c => pin c, fun c => kp_sort hq hR ⟨fun c0 => rv_i ?_, fun c0 => pout c c0⟩⟩⟩
      · exfalso; rw [t_lt, k700] at c; omega
      · obtain ⟨L, n, m9, hO, hRI, e1, e2, hTb, hCn, hWW, hm, hcc, hce, hcr⟩ := outh c
        obtain ⟨m8, rfl⟩ : ∃ k, m9 = k + 1 := ⟨m9 - 1, by omega⟩
        have k00 : K (nn y) = 0 := (KA_k hRI.1 hRI.2.1 0 (by decide)).mp c0
        rw [pAl, if_pos k00] at hWW
        exact h y n L hO hWW k00 hRI.1 hRI.2.1 hRI.2.2.1 (fun j hj hu => hRI.2.2.2 j (by omega) hj hu) hTb hCn hcc
  refine kg_X7_readAll_0 hq (kp_names_clear hq (fun x1 f1 n6 n8 n10 nu => kp_code_clear hq (fun x2 f2 c80 c3 c6 c9 c10 c13 c14 c16 x3 e3 x4 e4 z ez => ?_)))
  have f : fm (fun c k => c = 40 ∨ c = 42 ∨ c = 43 ∨ c = 60 ∨ (c = 80 ∧ k = 9) ∨ (c = 100 ∧ (k = 4 ∨ k = 5 ∨ k = 6))) x z := by
    rw [ez, e4, e3]
    exact fm_si (fm_si (fm_si (fm_tr (fm_w f1 (fun c k q => by omega)) (fm_w f2 (fun c k q => by omega))) (by omega)) (by omega)) (by omega)
  have g2 : ∀ c k, c ≠ 100 → z.1 c k = x2.1 c k := fun c k hc => by rw [ez, e4, e3, si_cell hc, si_cell hc, si_cell hc]
  have z4 : z.1 100 4 = 0 := by rw [ez, e4, e3]; (simp only [si_get, sfl_get, Nat.reduceEqDiff, eq_self, and_false, false_and, and_true, true_and, if_true, if_false, reduceIte, reduceCtorEq])
  have z5 : z.1 100 5 = 0 := by rw [ez]; (simp only [si_get, sfl_get, Nat.reduceEqDiff, eq_self, and_false, false_and, and_true, true_and, if_true, if_false, reduceIte, reduceCtorEq])
  have nz : nx z = 0 := by unfold nx; rw [z4]; rfl
  have sz : ssm z = 0 := by unfold ssm; rw [g2 80 9 (by decide), c80]; rfl
  have z42 : ∀ j, j < 702 → z.1 42 j = 0 := fun j hj => by rw [g2 42 j (by decide), f2 42 j (by omega)]; exact nu j hj
  have z6 : ∀ k, z.1 60 k = x2.1 60 k := fun k => g2 60 k (by decide)
  have z40 : ∀ k, z.1 40 k = x1.1 40 k := fun k => by rw [g2 40 k (by decide), f2 40 k (by omega)]
  have hTz : kT z := kT_fm hT (fun c k q1 q2 => f c k (by omega))
  have mz : 0 ≤ mt z := by obtain ⟨-, n, en, -⟩ := hTz; unfold mt; omega
  have hRz : RIw K V sN e E0v xs z [] := ⟨KA_fm hA (fun c k q1 q2 => f c k (by omega)), by unfold nn; rw [z4]; exact Nat.zero_le _, UR_0 (by rw [exs0]; unfold nn; rw [z4]; rfl)⟩
  have nnz : nn z = 0 := by unfold nn; rw [z4]; rfl
  refine loop 701 _ z (Or.inr ⟨[], (0, 0, 0, 0, 0), 701, ⟨⟨⟨hTz, by omega, by omega, by omega⟩, ⟨fun j _ h2 => z42 j h2, fun j h1 _ => by omega⟩, ?_, fun i hi => ?_⟩, ?_, ⟨fun c => absurd z5 c, ?_, ?_, ⟨by omega, fun i hi => by omega⟩, ?_⟩, fun i hi => by omega, z5, fm_w f (fun c k q => by unfold sR; omega), by omega⟩, hRz, rfl, rfl, ?_, ?_, by rw [nnz]; exact eW, by omega, ?_, ⟨rfl, rfl⟩, 0, rfl⟩) (by decide) (by rw [k0]; omega) (by omega)
  · rw [z6, c3]; decide
  · rw [z6, c3, k0] at hi; omega
  · unfold FR; rw [z4]; exact z42 _ (by decide)
  · unfold NM
    rw [z40, z40, z40, n6, n8, n10, k0]
    exact ⟨by omega, by omega, by omega, fun i hi => by omega, fun i hi => by omega, fun i hi => by omega⟩
  · unfold CD
    rw [z6, z6, z6, z6, z6, z6, z40, z40, c6, c9, c10, c14, c16, c13, n8, n10, k0]
    exact ⟨by omega, rfl, rfl, by omega, by omega, by omega, fun c => absurd z5 c⟩
  · unfold TS
    rw [z6, c10, k0]
    exact ⟨fun t ht => by omega, fun _ => Or.inl sz⟩
  · have z46 : z.1 40 6 = 0 := by rw [z40, n6]
    have z48 : z.1 40 8 = 0 := by rw [z40, n8]
    have z410 : z.1 40 10 = 0 := by rw [z40, n10]
    have z66 : z.1 60 6 = 0 := by rw [z6, c6]
    unfold TBk
    rw [z46, z48, z410, z66]
    exact ⟨⟨rfl, ⟨Int.le_refl _, rfl⟩, fun i q hq => by simp [tdS] at hq⟩, ⟨rfl, fun i q hq => by simp [tdS] at hq⟩, rfl, fun i q hq => by simp [tdS] at hq⟩
  · unfold CNk
    rw [z6, z6, z6, z6, z6, c6, c9, c10, c14, c16]
    exact ⟨rfl, rfl, rfl, rfl, rfl⟩
  · have cc : CCp sN V K z cd0 (0, 0, []) [] := by
      refine ⟨⟨by rw [z6, c3]; rfl, fun i q _ hq => by simp at hq⟩, ⟨by show ssm z = _; rw [sz]; rfl, fun j st hj => by simp at hj⟩, ⟨fun q => absurd z5 q, fun _ => rfl⟩, ⟨by rw [z6, c10]; rfl, fun t q hq => by simp at hq⟩, ⟨by rw [z6, c6]; rfl, fun j q hq => by simp at hq⟩, ⟨by rw [z6, c14]; rfl, fun k N hN => by simp [clF] at hN⟩, ⟨by rw [z6, c16]; rfl, fun k N hN => by simp [clF] at hN⟩⟩
    exact cc
end KDK
end
section
/-! what the class's judge finds, and what the row of uses says -/
/-- the first row told of that name -/
def rwK (R : Nat → Nat → Prop) (T : gTd) (t k : Nat) (q : Nat × Nat × Nat × Nat) : Prop := (tdS T 0)[k]? = some q ∧ 0 < q.2.2.1 ∧ R q.1 t ∧ ∀ (k' : Nat) (q' : Nat × Nat × Nat × Nat), k' < k → (tdS T 0)[k']? = some q' → 0 < q'.2.2.1 → ¬ R q'.1 t
def CFp (R : Nat → Nat → Prop) (Vx U : Nat → Int32) (T : gTd) (j : Nat) : Prop := (U j = 1 ∧ ∃ q ∈ T, q.1 < j ∧ R q.1 j) ∨ U j = 2 ∨ U j = 3 ∨ (U j = 4 ∧ ∀ q ∈ T, q.2.1 = 1 → ¬ R q.1 j) ∨ (U j = 5 ∧ ∀ q ∈ T, q.2.1 = 2 → ¬ R q.1 j) ∨ (U j = 6 ∧ ∀ q ∈ T, q.2.1 = 0 → q.2.2.1 = 0 → ¬ R q.1 j) ∨ (U j = 7 ∧ ∀ q ∈ T, q.2.1 = 0 → 0 < q.2.2.1 → ¬ R q.1 j) ∨ U j = 8 ∨ U j = 9 ∨ U j = 10 ∨ (U j = 11 ∧ ¬ (1 ≤ (Vx j).toInt ∧ (Vx j).toInt ≤ 8)) ∨ (U j = 12 ∧ ∃ (k : Nat) (q : Nat × Nat × Nat × Nat), rwK R T (j - 2) k q ∧ ((q.2.2.1 : Nat) : Int) ≤ (Vx j).toInt) ∨ (U j = 13 ∧ 3 < (Vx j).toInt)
section CFJ
variable {sN : Nat → Nat → Bool} {R : Nat → Nat → Prop} {K V Vx U : Nat → Int32} {T : gTd} {L : gU} {n j : Nat} {E : gV} {v : Nat × Nat × Nat}
theorem CF_o1 (h : CFp R Vx U T j) (hu : U j = 1) : ∃ q ∈ T, q.1 < j ∧ R q.1 j := by
  unfold CFp at h
  rw [hu] at h
  rcases h with ⟨-, h⟩ | h | h | ⟨h, -⟩ | ⟨h, -⟩ | ⟨h, -⟩ | ⟨h, -⟩ | h | h | h | ⟨h, -⟩ | ⟨h, -⟩ | ⟨h, -⟩
  · exact h
  · exact absurd h (by decide)
  · exact absurd h (by decide)
  · exact absurd h (by decide)
  · exact absurd h (by decide)
  · exact absurd h (by decide)
  · exact absurd h (by decide)
  · exact absurd h (by decide)
  · exact absurd h (by decide)
  · exact absurd h (by decide)
  · exact absurd h (by decide)
  · exact absurd h (by decide)
  · exact absurd h (by decide)
theorem CF_o4 (h : CFp R Vx U T j) (hu : U j = 4) : ∀ q ∈ T, q.2.1 = 1 → ¬ R q.1 j := by
  unfold CFp at h
  rw [hu] at h
  rcases h with ⟨h, -⟩ | h | h | ⟨-, h⟩ | ⟨h, -⟩ | ⟨h, -⟩ | ⟨h, -⟩ | h | h | h | ⟨h, -⟩ | ⟨h, -⟩ | ⟨h, -⟩
  · exact absurd h (by decide)
  · exact absurd h (by decide)
  · exact absurd h (by decide)
  · exact h
  · exact absurd h (by decide)
  · exact absurd h (by decide)
  · exact absurd h (by decide)
  · exact absurd h (by decide)
  · exact absurd h (by decide)
  · exact absurd h (by decide)
  · exact absurd h (by decide)
  · exact absurd h (by decide)
  · exact absurd h (by decide)
theorem CF_o5 (h : CFp R Vx U T j) (hu : U j = 5) : ∀ q ∈ T, q.2.1 = 2 → ¬ R q.1 j := by
  unfold CFp at h
  rw [hu] at h
  rcases h with ⟨h, -⟩ | h | h | ⟨h, -⟩ | ⟨-, h⟩ | ⟨h, -⟩ | ⟨h, -⟩ | h | h | h | ⟨h, -⟩ | ⟨h, -⟩ | ⟨h, -⟩
  · exact absurd h (by decide)
  · exact absurd h (by decide)
  · exact absurd h (by decide)
  · exact absurd h (by decide)
  · exact h
  · exact absurd h (by decide)
  · exact absurd h (by decide)
  · exact absurd h (by decide)
  · exact absurd h (by decide)
  · exact absurd h (by decide)
  · exact absurd h (by decide)
  · exact absurd h (by decide)
  · exact absurd h (by decide)
theorem CF_o6 (h : CFp R Vx U T j) (hu : U j = 6) : ∀ q ∈ T, q.2.1 = 0 → q.2.2.1 = 0 → ¬ R q.1 j := by
  unfold CFp at h
  rw [hu] at h
  rcases h with ⟨h, -⟩ | h | h | ⟨h, -⟩ | ⟨h, -⟩ | ⟨-, h⟩ | ⟨h, -⟩ | h | h | h | ⟨h, -⟩ | ⟨h, -⟩ | ⟨h, -⟩
  · exact absurd h (by decide)
  · exact absurd h (by decide)
  · exact absurd h (by decide)
  · exact absurd h (by decide)
  · exact absurd h (by decide)
  · exact h
  · exact absurd h (by decide)
  · exact absurd h (by decide)
  · exact absurd h (by decide)
  · exact absurd h (by decide)
  · exact absurd h (by decide)
  · exact absurd h (by decide)
  · exact absurd h (by decide)
theorem CF_o7 (h : CFp R Vx U T j) (hu : U j = 7) : ∀ q ∈ T, q.2.1 = 0 → 0 < q.2.2.1 → ¬ R q.1 j := by
  unfold CFp at h
  rw [hu] at h
  rcases h with ⟨h, -⟩ | h | h | ⟨h, -⟩ | ⟨h, -⟩ | ⟨h, -⟩ | ⟨-, h⟩ | h | h | h | ⟨h, -⟩ | ⟨h, -⟩ | ⟨h, -⟩
  · exact absurd h (by decide)
  · exact absurd h (by decide)
  · exact absurd h (by decide)
  · exact absurd h (by decide)
  · exact absurd h (by decide)
  · exact absurd h (by decide)
  · exact h
  · exact absurd h (by decide)
  · exact absurd h (by decide)
  · exact absurd h (by decide)
  · exact absurd h (by decide)
  · exact absurd h (by decide)
  · exact absurd h (by decide)
theorem CF_o11 (h : CFp R Vx U T j) (hu : U j = 11) : ¬ (1 ≤ (Vx j).toInt ∧ (Vx j).toInt ≤ 8) := by
  unfold CFp at h
  rw [hu] at h
  rcases h with ⟨h, -⟩ | h | h | ⟨h, -⟩ | ⟨h, -⟩ | ⟨h, -⟩ | ⟨h, -⟩ | h | h | h | ⟨-, h⟩ | ⟨h, -⟩ | ⟨h, -⟩
  · exact absurd h (by decide)
  · exact absurd h (by decide)
  · exact absurd h (by decide)
  · exact absurd h (by decide)
  · exact absurd h (by decide)
  · exact absurd h (by decide)
  · exact absurd h (by decide)
  · exact absurd h (by decide)
  · exact absurd h (by decide)
  · exact absurd h (by decide)
  · exact h
  · exact absurd h (by decide)
  · exact absurd h (by decide)
theorem CF_o12 (h : CFp R Vx U T j) (hu : U j = 12) : ∃ (k : Nat) (q : Nat × Nat × Nat × Nat), rwK R T (j - 2) k q ∧ ((q.2.2.1 : Nat) : Int) ≤ (Vx j).toInt := by
  unfold CFp at h
  rw [hu] at h
  rcases h with ⟨h, -⟩ | h | h | ⟨h, -⟩ | ⟨h, -⟩ | ⟨h, -⟩ | ⟨h, -⟩ | h | h | h | ⟨h, -⟩ | ⟨-, h⟩ | ⟨h, -⟩
  · exact absurd h (by decide)
  · exact absurd h (by decide)
  · exact absurd h (by decide)
  · exact absurd h (by decide)
  · exact absurd h (by decide)
  · exact absurd h (by decide)
  · exact absurd h (by decide)
  · exact absurd h (by decide)
  · exact absurd h (by decide)
  · exact absurd h (by decide)
  · exact absurd h (by decide)
  · exact h
  · exact absurd h (by decide)
theorem CF_o13 (h : CFp R Vx U T j) (hu : U j = 13) : 3 < (Vx j).toInt := by
  unfold CFp at h
  rw [hu] at h
  rcases h with ⟨h, -⟩ | h | h | ⟨h, -⟩ | ⟨h, -⟩ | ⟨h, -⟩ | ⟨h, -⟩ | h | h | h | ⟨h, -⟩ | ⟨h, -⟩ | ⟨-, h⟩
  · exact absurd h (by decide)
  · exact absurd h (by decide)
  · exact absurd h (by decide)
  · exact absurd h (by decide)
  · exact absurd h (by decide)
  · exact absurd h (by decide)
  · exact absurd h (by decide)
  · exact absurd h (by decide)
  · exact absurd h (by decide)
  · exact absurd h (by decide)
  · exact absurd h (by decide)
  · exact absurd h (by decide)
  · exact h
theorem CF_i1 (hu : U j = 1) (hc : ∃ q ∈ T, q.1 < j ∧ R q.1 j) : CFp R Vx U T j := Or.inl ⟨hu, hc⟩
theorem CF_i2 (hu : U j = 2) : CFp R Vx U T j := Or.inr (Or.inl hu)
theorem CF_i3 (hu : U j = 3) : CFp R Vx U T j := Or.inr (Or.inr (Or.inl hu))
theorem CF_i4 (hu : U j = 4) (hc : ∀ q ∈ T, q.2.1 = 1 → ¬ R q.1 j) : CFp R Vx U T j := Or.inr (Or.inr (Or.inr (Or.inl ⟨hu, hc⟩)))
theorem CF_i5 (hu : U j = 5) (hc : ∀ q ∈ T, q.2.1 = 2 → ¬ R q.1 j) : CFp R Vx U T j := Or.inr (Or.inr (Or.inr (Or.inr (Or.inl ⟨hu, hc⟩))))
theorem CF_i6 (hu : U j = 6) (hc : ∀ q ∈ T, q.2.1 = 0 → q.2.2.1 = 0 → ¬ R q.1 j) : CFp R Vx U T j := Or.inr (Or.inr (Or.inr (Or.inr (Or.inr (Or.inl ⟨hu, hc⟩)))))
theorem CF_i7 (hu : U j = 7) (hc : ∀ q ∈ T, q.2.1 = 0 → 0 < q.2.2.1 → ¬ R q.1 j) : CFp R Vx U T j := Or.inr (Or.inr (Or.inr (Or.inr (Or.inr (Or.inr (Or.inl ⟨hu, hc⟩))))))
theorem CF_i8 (hu : U j = 8) : CFp R Vx U T j := Or.inr (Or.inr (Or.inr (Or.inr (Or.inr (Or.inr (Or.inr (Or.inl hu)))))))
theorem CF_i9 (hu : U j = 9) : CFp R Vx U T j := Or.inr (Or.inr (Or.inr (Or.inr (Or.inr (Or.inr (Or.inr (Or.inr (Or.inl hu))))))))
theorem CF_i10 (hu : U j = 10) : CFp R Vx U T j := Or.inr (Or.inr (Or.inr (Or.inr (Or.inr (Or.inr (Or.inr (Or.inr (Or.inr (Or.inl hu)))))))))
theorem CF_i11 (hu : U j = 11) (hc : ¬ (1 ≤ (Vx j).toInt ∧ (Vx j).toInt ≤ 8)) : CFp R Vx U T j := Or.inr (Or.inr (Or.inr (Or.inr (Or.inr (Or.inr (Or.inr (Or.inr (Or.inr (Or.inr (Or.inl ⟨hu, hc⟩))))))))))
theorem CF_i12 (hu : U j = 12) (hc : ∃ (k : Nat) (q : Nat × Nat × Nat × Nat), rwK R T (j - 2) k q ∧ ((q.2.2.1 : Nat) : Int) ≤ (Vx j).toInt) : CFp R Vx U T j := Or.inr (Or.inr (Or.inr (Or.inr (Or.inr (Or.inr (Or.inr (Or.inr (Or.inr (Or.inr (Or.inr (Or.inl ⟨hu, hc⟩)))))))))))
theorem CF_i13 (hu : U j = 13) (hc : 3 < (Vx j).toInt) : CFp R Vx U T j := Or.inr (Or.inr (Or.inr (Or.inr (Or.inr (Or.inr (Or.inr (Or.inr (Or.inr (Or.inr (Or.inr (Or.inr (⟨hu, hc⟩))))))))))))
theorem CF_n0 (h : CFp R Vx U T j) : ¬ U j = 0 := by
  intro hu
  unfold CFp at h
  rw [hu] at h
  rcases h with ⟨h, -⟩ | h | h | ⟨h, -⟩ | ⟨h, -⟩ | ⟨h, -⟩ | ⟨h, -⟩ | h | h | h | ⟨h, -⟩ | ⟨h, -⟩ | ⟨h, -⟩
  · exact absurd h (by decide)
  · exact absurd h (by decide)
  · exact absurd h (by decide)
  · exact absurd h (by decide)
  · exact absurd h (by decide)
  · exact absurd h (by decide)
  · exact absurd h (by decide)
  · exact absurd h (by decide)
  · exact absurd h (by decide)
  · exact absurd h (by decide)
  · exact absurd h (by decide)
  · exact absurd h (by decide)
  · exact absurd h (by decide)
theorem mt_no {w t : Nat} : mtP sN T w t = none ↔ ∀ q ∈ T, q.2.1 = w → ¬ sN q.1 t = true := by
  unfold mtP
  rw [List.find?_eq_none]
  constructor
  · intro h q hq e c
    exact h q hq (by simp [e, c])
  · intro h q hq c
    simp at c
    exact h q hq c.1 c.2
theorem mt_so {w t : Nat} {q : Nat × Nat × Nat × Nat} (h : mtP sN T w t = some q) : q ∈ T ∧ q.2.1 = w ∧ sN q.1 t = true := by
  unfold mtP at h
  have a := List.mem_of_find?_eq_some h
  have b := List.find?_some h
  simp at b
  exact ⟨a, b.1, b.2⟩
theorem tdS_mem {w : Nat} {q : Nat × Nat × Nat × Nat} : q ∈ tdS T w ↔ q ∈ T ∧ q.2.1 = w := by
  unfold tdS
  rw [List.mem_filter]
  simp
theorem rw_so {t k : Nat} {q : Nat × Nat × Nat × Nat} (h : rwK R T t k q) : q ∈ T ∧ q.2.1 = 0 ∧ 0 < q.2.2.1 ∧ R q.1 t := by
  obtain ⟨h1, h2, h3, -⟩ := h
  obtain ⟨a, b⟩ := tdS_mem.mp (List.mem_of_getElem? h1)
  exact ⟨a, b, h2, h3⟩
theorem fst_ex {α : Type} {l : List α} {Q : α → Prop} : ∀ (k : Nat) (a : α), l[k]? = some a → Q a → ∃ (k : Nat) (a : α), l[k]? = some a ∧ Q a ∧ ∀ (k' : Nat) (a' : α), k' < k → l[k']? = some a' → ¬ Q a' := by
  intro k
  induction k using Nat.strongRecOn with
  | ind k ih =>
    intro a h hq
    by_cases c : ∃ (k' : Nat) (a' : α), k' < k ∧ l[k']? = some a' ∧ Q a'
    · obtain ⟨k', a', h1, h2, h3⟩ := c
      exact ih k' h1 a' h2 h3
    · exact ⟨k, a, h, hq, fun k' a' h1 h2 h3 => c ⟨k', a', h1, h2, h3⟩⟩
theorem rw_ex {t : Nat} {q : Nat × Nat × Nat × Nat} (h1 : q ∈ T) (h2 : q.2.1 = 0) (h3 : 0 < q.2.2.1) (h4 : R q.1 t) : ∃ k q', rwK R T t k q' := by
  obtain ⟨i, hi, ei⟩ := List.getElem_of_mem (tdS_mem.mpr ⟨h1, h2⟩)
  obtain ⟨k, a, g1, g2, g3⟩ := fst_ex (Q := fun q => 0 < q.2.2.1 ∧ R q.1 t) i q (by rw [List.getElem?_eq_getElem hi, ei]) ⟨h3, h4⟩
  exact ⟨k, a, g1, g2.1, g2.2, fun k' q' z1 z2 z3 z4 => g3 k' q' z1 z2 ⟨z3, z4⟩⟩
/-- no name is told twice -/
def nTw (sN : Nat → Nat → Bool) (T : gTd) : Prop := ∀ (j' j : Nat) (q' q : Nat × Nat × Nat × Nat), j' < j → T[j']? = some q' → T[j]? = some q → ¬ sN q'.1 q.1 = true
theorem nTw_one (hS : ∀ a b, sN a b = true → sN b a = true) (hTr : ∀ a b c, sN a b = true → sN b c = true → sN a c = true) (h : nTw sN T) {q q' : Nat × Nat × Nat × Nat} {t : Nat} (hq : q ∈ T) (hq' : q' ∈ T) (s : sN q.1 t = true) (s' : sN q'.1 t = true) : q = q' := by
  obtain ⟨i, hi, ei⟩ := List.getElem_of_mem hq
  obtain ⟨k, hk, ek⟩ := List.getElem_of_mem hq'
  have gi : T[i]? = some q := by rw [List.getElem?_eq_getElem hi, ei]
  have gk : T[k]? = some q' := by rw [List.getElem?_eq_getElem hk, ek]
  rcases Nat.lt_trichotomy i k with c | c | c
  · exact absurd (hTr _ _ _ s (hS _ _ s')) (h i k q q' c gi gk)
  · rw [c] at gi
    exact Option.some.inj (gi.symm.trans gk)
  · exact absurd (hTr _ _ _ s' (hS _ _ s)) (h k i q' q c gk gi)
theorem plc_no {t : Nat} (h : ∀ q ∈ T, q.2.1 = 0 → q.2.2.1 = 0 → ¬ sN q.1 t = true) : ¬ plc sN T t := by
  rintro ⟨q, e, r⟩
  obtain ⟨a, b, c⟩ := mt_so e
  exact h q a b r c
theorem plc_ye (hS : ∀ a b, sN a b = true → sN b a = true) (hTr : ∀ a b c, sN a b = true → sN b c = true → sN a c = true) (nt : nTw sN T) {t : Nat} (h : ¬ plc sN T t) : ∀ q ∈ T, q.2.1 = 0 → q.2.2.1 = 0 → ¬ sN q.1 t = true := by
  intro q hq e r c
  apply h
  cases hm : mtP sN T 0 t with
  | none => exact absurd c (mt_no.mp hm q hq e)
  | some q' =>
    obtain ⟨a, b, c'⟩ := mt_so hm
    have := nTw_one hS hTr nt hq a c c'
    exact ⟨q', hm, by rw [← this]; exact r⟩
theorem rwc_no {t : Nat} (h : ∀ q ∈ T, q.2.1 = 0 → 0 < q.2.2.1 → ¬ sN q.1 t = true) : ¬ ∃ n, rwc sN T t n := by
  rintro ⟨n, q, e, r, p⟩
  obtain ⟨a, b, c⟩ := mt_so e
  exact h q a b (by omega) c
theorem rwc_ye (hS : ∀ a b, sN a b = true → sN b a = true) (hTr : ∀ a b c, sN a b = true → sN b c = true → sN a c = true) (nt : nTw sN T) {t : Nat} {q : Nat × Nat × Nat × Nat} (hq : q ∈ T) (e : q.2.1 = 0) (r : 0 < q.2.2.1) (c : sN q.1 t = true) : rwc sN T t q.2.2.1 := by
  cases hm : mtP sN T 0 t with
  | none => exact absurd c (mt_no.mp hm q hq e)
  | some q' =>
    obtain ⟨a, b, c'⟩ := mt_so hm
    have := nTw_one hS hTr nt hq a c c'
    exact ⟨q', hm, by rw [← this], r⟩
theorem flt_HA : ∀ {L : gU} {E : gV}, flt sN T V L E → HAs sN U n L E → ∃ v E', v ∈ L ∧ fv sN T V E' v ∧ HAw sN U n E' v := by
  intro L
  induction L with
  | nil => intro E h; exact h.elim
  | cons w L ih =>
    intro E h g
    rcases h with h | h
    · exact ⟨w, E, List.mem_cons_self, h, g.1⟩
    · obtain ⟨v, E', h1, h2⟩ := ih h g.2
      exact ⟨v, E', List.mem_cons_of_mem _ h1, h2⟩
theorem HAs_mem : ∀ {L : gU} {E : gV}, HAs sN U n L E → ∀ v ∈ L, ∃ E', HAw sN U n E' v := by
  intro L
  induction L with
  | nil => intro E _ v hv; cases hv
  | cons w L ih =>
    intro E h v hv
    rcases List.mem_cons.mp hv with e | e
    · rw [e]; exact ⟨E, h.1⟩
    · exact ih h.2 v e
theorem HBs_flt {X : Prop} {u : Int32} : ∀ {L : gU} {E : gV}, HBs sN L E j u → (∀ v E', v ∈ L → HB sN E' v j u → X ∨ fv sN T V E' v) → X ∨ flt sN T V L E := by
  intro L
  induction L with
  | nil => intro E h; exact h.elim
  | cons w L ih =>
    intro E h g
    rcases h with h | h
    · exact (g w E List.mem_cons_self h).imp id Or.inl
    · exact (ih h (fun v E' hv => g v E' (List.mem_cons_of_mem _ hv))).imp id Or.inr
theorem te_mem {q : Nat × Nat × Nat × Nat} (h : q ∈ L.filterMap (te1 K V)) : ∃ v ∈ L, te1 K V v = some q := by
  obtain ⟨v, hv, e⟩ := List.mem_filterMap.mp h
  exact ⟨v, hv, e⟩
theorem te_is {q : Nat × Nat × Nat × Nat} (h : te1 K V v = some q) : (v.1 = 31 ∨ v.1 = 32 ∨ v.1 = 33 ∨ v.1 = 34) ∧ q.1 = v.2.1 ∧ (0 < q.2.2.1 → v.1 = 32 ∧ q.2.2.2 = v.2.2) := by
  unfold te1 at h
  split at h
  · next c => cases Option.some.inj h; exact ⟨Or.inl c, rfl, fun z => absurd z (Nat.lt_irrefl 0)⟩
  · split at h
    · next c => cases Option.some.inj h; exact ⟨Or.inr (Or.inl c), rfl, fun _ => ⟨c, rfl⟩⟩
    · split at h
      · next c => cases Option.some.inj h; exact ⟨Or.inr (Or.inr (Or.inl c)), rfl, fun z => absurd z (Nat.lt_irrefl 0)⟩
      · split at h
        · next c => cases Option.some.inj h; exact ⟨Or.inr (Or.inr (Or.inr c)), rfl, fun z => absurd z (Nat.lt_irrefl 0)⟩
        · exact absurd h (by simp)
theorem te_so (h : v.1 = 31 ∨ v.1 = 32 ∨ v.1 = 33 ∨ v.1 = 34) : ∃ q, te1 K V v = some q ∧ q.1 = v.2.1 := by
  unfold te1
  by_cases c1 : v.1 = 31
  · rw [if_pos c1]; exact ⟨_, rfl, rfl⟩
  · rw [if_neg c1]
    by_cases c2 : v.1 = 32
    · rw [if_pos c2]; exact ⟨_, rfl, rfl⟩
    · rw [if_neg c2]
      by_cases c3 : v.1 = 33
      · rw [if_pos c3]; exact ⟨_, rfl, rfl⟩
      · rw [if_neg c3, if_pos (by omega)]; exact ⟨_, rfl, rfl⟩
theorem prz_1 {w : Nat} : 0 < prz K V w := by
  unfold prz
  split
  · next c =>
    have k1 : (1 : Int32).toInt = 1 := rfl
    have := c.2.1
    rw [t_le, k1] at this
    rw [t_cl]; omega
  · omega
theorem bad8 {w : Int32} : ¬ (1 ≤ w ∧ w ≤ 8) ↔ ¬ (1 ≤ w.toInt ∧ w.toInt ≤ 8) := by
  have k1 : (1 : Int32).toInt = 1 := rfl
  have k8 : (8 : Int32).toInt = 8 := rfl
  rw [t_le, t_le, k1, k8]
/-- two told of one name -/
theorem tw_two (srt : T.Pairwise (fun a b => a.1 < b.1)) {q q' : Nat × Nat × Nat × Nat} (hq : q ∈ T) (hq' : q' ∈ T) (lt : q'.1 < q.1) (s : sN q'.1 q.1 = true) : jT sN V T := by
  obtain ⟨i, hi, ei⟩ := List.getElem_of_mem hq
  obtain ⟨k, hk, ek⟩ := List.getElem_of_mem hq'
  have gi : T[i]? = some q := by rw [List.getElem?_eq_getElem hi, ei]
  have gk : T[k]? = some q' := by rw [List.getElem?_eq_getElem hk, ek]
  have lt2 : k < i := by
    rcases Nat.lt_trichotomy k i with c | c | c
    · exact c
    · rw [c] at gk
      have := Option.some.inj (gk.symm.trans gi)
      rw [this] at lt; omega
    · have := List.pairwise_iff_getElem.mp srt i k hi hk c
      rw [ei, ek] at this; omega
  exact ⟨i, q, gi, Or.inl ⟨k, q', lt2, gk, s⟩⟩
theorem CF_one (hS : ∀ a b, sN a b = true → sN b a = true) (hTr : ∀ a b c, sN a b = true → sN b c = true → sN a c = true) (eT : T = L.filterMap (te1 K V)) (srt : T.Pairwise (fun a b => a.1 < b.1)) (hok : ∀ v ∈ L, oK K v) (hT1 : ∀ q ∈ T, K q.1 = 1 ∧ q.1 < n) (hR : ∀ a b, a < n → b < n → K a = 1 → K b = 1 → (R a b ↔ sN a b = true)) (hVx : ∀ j, j < n → K j = 2 → Vx j = V j) (hj : j < n) (hC : CFp R Vx U T j) (hv : v ∈ L) (hB : HB sN E v j (U j)) : jT sN V T ∨ fv sN T V E v := by
  obtain ⟨a, b, c⟩ := v
  obtain ⟨o1, o2, o3, o4, o5⟩ := hok _ hv
  have cv : ∀ q ∈ T, K j = 1 → (R q.1 j ↔ sN q.1 j = true) := fun q hq k => hR _ _ (hT1 q hq).2 hj (hT1 q hq).1 k
  by_cases nt : nTw sN T
  · unfold HB at hB
    rcases hB with ⟨e, eu, ej, h⟩ | ⟨e, eu, ej⟩ | ⟨e, eu, ej⟩ | ⟨e, eu, ej, ej2⟩ | ⟨e, eu, h⟩ | ⟨e, eu, ej, h⟩ | ⟨e, h, eu⟩ | ⟨e, eu, h, h2⟩ | ⟨e, eu, ej, h, h2⟩ | ⟨e, eu, ej, h⟩ | ⟨e, eu, ej⟩ | ⟨e, eu, ej⟩ | ⟨e, eu, ej⟩ | ⟨e, eu, ej⟩ | ⟨e, eu, ej⟩
    · have e : a = 3 := e
      rw [e]; exact Or.inr (fv_3.mpr h)
    · have e : a = 6 := e
      have ej : j = b := ej
      have kj : K j = 1 := by rw [ej]; exact o1 (by show a ∈ _; rw [e]; decide)
      have this := fun (q : Nat × Nat × Nat × Nat) (hq : q ∈ T) (z0 : q.2.1 = 0) (z1 : q.2.2.1 = 0) (s : sN q.1 j = true) => CF_o6 hC eu q hq z0 z1 ((cv q hq kj).mpr s)
      rw [ej] at this
      rw [e]; exact Or.inr (fv_6.mpr (plc_no this))
    · have e : a = 7 := e
      have ej : j = b := ej
      have kj : K j = 1 := by rw [ej]; exact o1 (by show a ∈ _; rw [e]; decide)
      have this := fun (q : Nat × Nat × Nat × Nat) (hq : q ∈ T) (z0 : q.2.1 = 0) (z1 : 0 < q.2.2.1) (s : sN q.1 j = true) => CF_o7 hC eu q hq z0 z1 ((cv q hq kj).mpr s)
      rw [ej] at this
      rw [e]; exact Or.inr (fv_7.mpr (rwc_no this))
    · have e : a = 12 := e
      have ej : j = b := ej
      have ej2 : j = c + 2 := ej2
      obtain ⟨k9, q, hq, hl⟩ := CF_o12 hC eu
      have e2 : j - 2 = c := by omega
      rw [e2] at hq
      obtain ⟨h1, h2, h3, h4⟩ := rw_so hq
      obtain ⟨kb, kc⟩ := o4 e
      have kb : K b = 2 := kb
      have kc : K c = 1 := kc
      have h4 := (hR _ _ (hT1 q h1).2 (by omega) (hT1 q h1).1 kc).mp h4
      rw [hVx j hj (by rw [ej]; exact kb)] at hl
      rw [e, fv_12]
      refine Or.inr ⟨q.2.2.1, rwc_ye hS hTr nt h1 h2 h3 h4, ?_⟩
      rw [← ej]; exact hl
    · have e : a = 23 := e
      rw [e]; exact Or.inr (fv_23.mpr h)
    · have ej : j = b := ej
      have kj : K j = 1 := by rw [ej]; exact o1 (by show a ∈ _; rcases e with e | e <;> (have e : a = _ := e; rw [e]; decide))
      have this := fun (q : Nat × Nat × Nat × Nat) (hq : q ∈ T) (z0 : q.2.1 = 0) (z1 : q.2.2.1 = 0) (s : sN q.1 j = true) => CF_o6 hC eu q hq z0 z1 ((cv q hq kj).mpr s)
      rw [ej] at this
      rcases e with e | e
      · have e : a = 24 := e
        rw [e]; exact Or.inr (fv_24.mpr ⟨h, plc_no this⟩)
      · have e : a = 25 := e
        rw [e]; exact Or.inr (fv_25.mpr ⟨h, plc_no this⟩)
    · have e : a = 26 := e
      rw [e]; exact Or.inr (fv_26.mpr h)
    · have e : a = 27 := e
      rw [e]; exact Or.inr (fv_27.mpr (Or.inl ⟨h, Or.inl h2⟩))
    · have e : a = 27 := e
      have ej : j = c := ej
      have kj : K j = 1 := by rw [ej]; exact (o2 e).2
      have this := fun (q : Nat × Nat × Nat × Nat) (hq : q ∈ T) (z0 : q.2.1 = 0) (z1 : q.2.2.1 = 0) (s : sN q.1 j = true) => CF_o6 hC eu q hq z0 z1 ((cv q hq kj).mpr s)
      rw [ej] at this
      rw [e]; exact Or.inr (fv_27.mpr (Or.inl ⟨h, Or.inr (plc_no this)⟩))
    · have e : a = 27 := e
      have ej : j = b := ej
      have kj : K j = 1 := by rw [ej]; exact (o2 e).1
      have this := fun (q : Nat × Nat × Nat × Nat) (hq : q ∈ T) (z0 : q.2.1 = 0) (z1 : q.2.2.1 = 0) (s : sN q.1 j = true) => CF_o6 hC eu q hq z0 z1 ((cv q hq kj).mpr s)
      rw [ej] at this
      rw [e]; exact Or.inr (fv_27.mpr (Or.inr ⟨h, plc_no this⟩))
    · have e : a = 65 ∨ a = 66 := e
      have ej : j = c := ej
      have kj : K j = 1 := by rw [ej]; exact o3 (by show a ∈ _; rcases e with e | e <;> (rw [e]; decide))
      have this := fun (q : Nat × Nat × Nat × Nat) (hq : q ∈ T) (z0 : q.2.1 = 1) (s : sN q.1 j = true) => CF_o4 hC eu q hq z0 ((cv q hq kj).mpr s)
      rw [ej] at this
      exact Or.inr ((fv_lk e).mpr (mt_no.mpr this))
    · have e : a = 67 := e
      have ej : j = c := ej
      have kj : K j = 1 := by rw [ej]; exact o3 (by show a ∈ _; rw [e]; decide)
      have this := fun (q : Nat × Nat × Nat × Nat) (hq : q ∈ T) (z0 : q.2.1 = 2) (s : sN q.1 j = true) => CF_o5 hC eu q hq z0 ((cv q hq kj).mpr s)
      rw [ej] at this
      rw [e]; exact Or.inr (fv_67.mpr (mt_no.mpr this))
    · have e : a = 70 := e
      have ej : j = c := ej
      have := CF_o13 hC eu
      have kc : K c = 2 := o5 (by show a ∈ _; rw [e]; decide)
      rw [hVx j hj (by rw [ej]; exact kc), ej] at this
      rw [e]; exact Or.inr (fv_70.mpr this)
    · have ej : j = b := ej
      obtain ⟨q', hq', lt, s⟩ := CF_o1 hC eu
      obtain ⟨q, hq, e1⟩ := te_so (K := K) (V := V) e
      have e1 : q.1 = b := e1
      have hm : q ∈ T := by rw [eT]; exact List.mem_filterMap.mpr ⟨_, hv, hq⟩
      have kj : K j = 1 := by
        have := (hT1 q hm).1
        rw [ej, ← e1]; exact this
      refine Or.inl (tw_two srt hm hq' ?_ ?_)
      · rw [e1, ← ej]; exact lt
      · rw [e1, ← ej]; exact (cv q' hq' kj).mp s
    · have e : a = 32 := e
      have ej : j = c := ej
      have := CF_o11 hC eu
      have kc : K c = 2 := o5 (by show a ∈ _; rw [e]; decide)
      rw [hVx j hj (by rw [ej]; exact kc), ej] at this
      have hm : (b, 0, prz K V c, c) ∈ T := by
        rw [eT]
        refine List.mem_filterMap.mpr ⟨_, hv, ?_⟩
        rw [e]; rfl
      obtain ⟨i, hi, ei⟩ := List.getElem_of_mem hm
      exact Or.inl ⟨i, _, by rw [List.getElem?_eq_getElem hi, ei], Or.inr ⟨prz_1, bad8.mpr this⟩⟩
  · refine Or.inl ?_
    unfold nTw at nt
    have : ∃ (j' j : Nat) (q' q : Nat × Nat × Nat × Nat), j' < j ∧ T[j']? = some q' ∧ T[j]? = some q ∧ sN q'.1 q.1 = true := by
      refine Classical.byContradiction (fun z => nt (fun j' j q' q h1 h2 h3 h4 => z ⟨j', j, q', q, h1, h2, h3, h4⟩))
    obtain ⟨j', j, q', q, h1, h2, h3, h4⟩ := this
    exact ⟨j, q, h3, Or.inl ⟨j', q', h1, h2, h4⟩⟩
theorem CF_jT (eT : T = L.filterMap (te1 K V)) (srt : T.Pairwise (fun a b => a.1 < b.1)) (hok : ∀ v ∈ L, oK K v) (hT1 : ∀ q ∈ T, K q.1 = 1 ∧ q.1 < n) (hR : ∀ a b, a < n → b < n → K a = 1 → K b = 1 → (R a b ↔ sN a b = true)) (hVx : ∀ j, j < n → K j = 2 → Vx j = V j) (hA : HAs sN U n L E) (h : jT sN V T) : ∃ j, j < n ∧ CFp R Vx U T j := by
  obtain ⟨i, q, hq, h⟩ := h
  have hm : q ∈ T := List.mem_of_getElem? hq
  have hm2 := hm
  rw [eT] at hm2
  obtain ⟨v, hv, ev⟩ := te_mem hm2
  obtain ⟨e1, e2, e3⟩ := te_is ev
  obtain ⟨E', g⟩ := HAs_mem hA v hv
  rcases h with ⟨k, q', lt, hq', s⟩ | ⟨h1, h2⟩
  · obtain ⟨hi, ei⟩ := List.getElem?_eq_some_iff.mp hq
    obtain ⟨hk, ek⟩ := List.getElem?_eq_some_iff.mp hq'
    have l2 := List.pairwise_iff_getElem.mp srt k i hk hi lt
    rw [ei, ek, e2] at l2
    rw [e2] at s
    obtain ⟨b1, b2⟩ := g.2.2.2.2.2.2.2.2.2.2.2.2.1 e1
    have hm' := List.mem_of_getElem? hq'
    have kv : K v.2.1 = 1 := by rw [← e2]; exact (hT1 q hm).1
    exact ⟨v.2.1, b1, CF_i1 b2 ⟨q', hm', l2, (hR _ _ (hT1 q' hm').2 b1 (hT1 q' hm').1 kv).mpr s⟩⟩
  · obtain ⟨c1, c2⟩ := e3 h1
    obtain ⟨b1, b2⟩ := g.2.2.2.2.2.2.2.2.2.2.2.2.2 c1
    rw [c2] at h2
    have kw : K v.2.2 = 2 := (hok v hv).2.2.2.2 (by rw [c1]; decide)
    exact ⟨v.2.2, b1, CF_i11 b2 (by rw [hVx _ b1 kw]; exact bad8.mp h2)⟩
theorem CF_fv (hS : ∀ a b, sN a b = true → sN b a = true) (hTr : ∀ a b c, sN a b = true → sN b c = true → sN a c = true) (nt : nTw sN T) (hok : oK K v) (hT1 : ∀ q ∈ T, K q.1 = 1 ∧ q.1 < n) (hR : ∀ a b, a < n → b < n → K a = 1 → K b = 1 → (R a b ↔ sN a b = true)) (hVx : ∀ j, j < n → K j = 2 → Vx j = V j) (hg : HAw sN U n E v) (h : fv sN T V E v) : ∃ j, j < n ∧ CFp R Vx U T j := by
  obtain ⟨a, b, c⟩ := v
  obtain ⟨g1, g2, g3, g4, g5, g6, g7, g8, g9, g10, g11, g12, g13, g14⟩ := hg
  obtain ⟨o1, o2, o3, o4, o5⟩ := hok
  have cv : ∀ (t : Nat), t < n → K t = 1 → ∀ q ∈ T, R q.1 t → sN q.1 t = true := fun t ht k q hq s => (hR _ _ (hT1 q hq).2 ht (hT1 q hq).1 k).mp s
  have pl : ∀ t, t < n → K t = 1 → U t = 6 → ¬ plc sN T t → CFp R Vx U T t := fun t ht k hu hp => CF_i6 hu (fun q hq e0 r s => plc_ye hS hTr nt hp q hq e0 r (cv t ht k q hq s))
  have kb : a ∈ [3, 6, 7, 23, 24, 25, 26, 31, 32, 33, 34] → K b = 1 := o1
  unfold fv at h
  rcases h with ⟨e, h⟩ | ⟨e, h⟩ | ⟨e, h⟩ | ⟨e, h⟩ | ⟨e, h⟩ | ⟨e, h, h2⟩ | ⟨e, h, h2⟩ | ⟨e, h⟩ | ⟨e, h, h2⟩ | ⟨e, h, h2⟩ | ⟨e, h⟩ | ⟨e, h⟩ | ⟨e, h⟩
  · obtain ⟨z1, z2⟩ := g1 e
    exact ⟨b, z1, CF_i3 (z2 h)⟩
  · obtain ⟨z1, z2⟩ := g2 e
    have e : a = 6 := e
    exact ⟨b, z1, pl b z1 (kb (by rw [e]; decide)) z2 h⟩
  · obtain ⟨z1, z2⟩ := g3 e
    rcases z2 with z2 | z2
    · have e : a = 7 := e
      refine ⟨b, z1, CF_i7 z2 (fun q hq e0 r s => h ⟨_, rwc_ye hS hTr nt hq e0 r (cv b z1 (kb (by rw [e]; decide)) q hq s)⟩)⟩
    · exact ⟨b, z1, CF_i9 z2⟩
  · obtain ⟨z1, z2, z3⟩ := g4 e
    obtain ⟨m, ⟨q, hm, er, p⟩, hl⟩ := h
    obtain ⟨m1, m2, m3⟩ := mt_so hm
    refine ⟨b, z1, CF_i12 z2 ?_⟩
    have z3 : b = c + 2 := z3
    have eb : b - 2 = c := by omega
    rw [eb]
    obtain ⟨kb2, kc⟩ := o4 e
    have kb2 : K b = 2 := kb2
    have kc : K c = 1 := kc
    have cn : c < n := by
      have : b < n := z1
      omega
    obtain ⟨k', q', hr⟩ := rw_ex (R := R) m1 m2 (by omega) ((hR _ _ (hT1 q m1).2 cn (hT1 q m1).1 kc).mpr m3)
    obtain ⟨r1, r2, r3, r4⟩ := rw_so hr
    have := nTw_one hS hTr nt r1 m1 (cv c cn kc q' r1 r4) m3
    refine ⟨k', q', hr, ?_⟩
    rw [this, er, hVx b z1 kb2]; exact hl
  · obtain ⟨z1, z2⟩ := g5 e
    exact ⟨b, z1, CF_i2 (z2 h)⟩
  · obtain ⟨z1, z2⟩ := g6 (Or.inl e)
    have e : a = 24 := e
    exact ⟨b, z1, pl b z1 (kb (by rw [e]; decide)) (z2 h) h2⟩
  · obtain ⟨z1, z2⟩ := g6 (Or.inr e)
    have e : a = 25 := e
    exact ⟨b, z1, pl b z1 (kb (by rw [e]; decide)) (z2 h) h2⟩
  · obtain ⟨j, z1, z2⟩ := g7 e h
    exact ⟨j, z1, z2.elim CF_i9 CF_i10⟩
  · obtain ⟨z1, z2⟩ := g8 e
    by_cases ka : kfi sN E.1 b = none
    · exact ⟨c, z1, CF_i8 ((z2 h).1 ka)⟩
    · exact ⟨c, z1, pl c z1 (o2 e).2 ((z2 h).2 ka) (h2.resolve_left ka)⟩
  · obtain ⟨z1, z2⟩ := g9 e
    exact ⟨b, z1, pl b z1 (o2 e).1 (z2 h) h2⟩
  · obtain ⟨z1, z2⟩ := g10 e
    have kc : K c = 1 := o3 (by show a ∈ _; rcases e with e | e <;> (have e : a = _ := e; rw [e]; decide))
    exact ⟨c, z1, CF_i4 z2 (fun q hq e0 s => mt_no.mp h q hq e0 (cv c z1 kc q hq s))⟩
  · obtain ⟨z1, z2⟩ := g11 e
    have kc : K c = 1 := o3 (by show a ∈ _; have e : a = _ := e; rw [e]; decide)
    exact ⟨c, z1, CF_i5 z2 (fun q hq e0 s => mt_no.mp h q hq e0 (cv c z1 kc q hq s))⟩
  · obtain ⟨z1, z2⟩ := g12 e
    have kc : K c = 2 := o5 (by show a ∈ _; have e : a = _ := e; rw [e]; decide)
    exact ⟨c, z1, CF_i13 z2 (by rw [hVx c z1 kc]; exact h)⟩
theorem CF_is (hS : ∀ a b, sN a b = true → sN b a = true) (hTr : ∀ a b c, sN a b = true → sN b c = true → sN a c = true) (eT : T = L.filterMap (te1 K V)) (srt : T.Pairwise (fun a b => a.1 < b.1)) (hok : ∀ v ∈ L, oK K v) (hT1 : ∀ q ∈ T, K q.1 = 1 ∧ q.1 < n) (hR : ∀ a b, a < n → b < n → K a = 1 → K b = 1 → (R a b ↔ sN a b = true)) (hVx : ∀ j, j < n → K j = 2 → Vx j = V j) (hA : HAs sN U n L E0v) (hB : ∀ j, j < n → ¬ U j = 0 → HBs sN L E0v j (U j)) : (∃ j, j < n ∧ CFp R Vx U T j) ↔ jFl sN K V L := by
  unfold jFl
  rw [← eT]
  constructor
  · rintro ⟨j, hj, hC⟩
    exact HBs_flt (hB j hj (CF_n0 hC)) (fun v E' hv hb => CF_one hS hTr eT srt hok hT1 hR hVx hj hC hv hb)
  · intro h
    by_cases nt : jT sN V T
    · exact CF_jT eT srt hok hT1 hR hVx hA nt
    · rcases h with h | h
      · exact absurd h nt
      · obtain ⟨v, E', hv, hf, hg⟩ := flt_HA h hA
        refine CF_fv hS hTr (fun j' j q' q h1 h2 h3 h4 => nt ⟨j, q, h3, Or.inl ⟨j', q', h1, h2, h4⟩⟩) (hok v hv) hT1 hR hVx hg hf
end CFJ
end
section
/-! the class's judge -/
section KJF
variable {G : kG} {q : kP} {d : Nat} {x : gd} {F : Int32 → gd → Prop} {T : gTd}
theorem kf_numberOf (hq : kV q) (hT : kT x) {a1 n1 : Nat} (ka1 : kK a1 = .inr (.int, n1)) (ma1 : a1 ∈ (kf q).2.1) (m t : Int32) (h0 : 0 ≤ m.toInt) (hn : m.toInt ≤ n1) (hk : ∀ i : Nat, (i : Int) < m.toInt → tk x (x.1 a1 i)) (ht : tk x t) (h : ∀ r : Int32, ((r = -1 ∧ ∀ i : Nat, (i : Int) < m.toInt → ¬ smk x (x.1 a1 i).toNatClampNeg t.toNatClampNeg) ∨ ((0 ≤ r.toInt ∧ r.toInt < m.toInt) ∧ ∃ i : Nat, (i : Int) < m.toInt ∧ r.toInt = (i : Nat) ∧ smk x (x.1 a1 i).toNatClampNeg t.toNatClampNeg)) → F r x) : KT G q (d + 1) zk_X6_numberOf 0 [(0, vr 40), (1, vr a1), (2, vi m), (3, vi t)] [] x (ri F) := by
  have loop : ∀ (n : Nat) (i : Int32), 0 ≤ i.toInt → m.toInt - i.toInt ≤ n → (∀ k : Nat, (k : Int) < i.toInt → ¬ smk x (x.1 a1 k).toNatClampNeg t.toNatClampNeg) → KT G q (d + 1) zk_X6_numberOf 3 [(0, vr 40), (1, vr a1), (2, vi m), (3, vi t), (4, vi i)] [] x (ri F) := by
    intro n
    induction n with
    | zero =>
      intro i i0 hn no
      refine kg_X6_numberOf_3 hq ka1 ma1 _ _ _ ⟨fun _ => ri_i (h _ (Or.inl ⟨rfl, fun k hk => no k (by omega)⟩)), fun c => ?_⟩
      exfalso; rw [t_le] at c; omega
    | succ n ih =>
      intro i i0 hn no
      refine kg_X6_numberOf_3 hq ka1 ma1 _ _ _ ⟨fun c => ri_i (h _ (Or.inl ⟨rfl, fun k hk => no k (by rw [t_le] at c; omega)⟩)), fun c => ?_⟩
      rw [t_le] at c
      have rm := t_rg m
      have ui := t_cl i
      have e1 : (i + 1).toInt = i.toInt + 1 := t_add (by show _ ≤ _ + (1 : Int); omega) (by show _ + (1 : Int) ≤ _; omega)
      have lt : ((i.toNatClampNeg : Nat) : Int) < m.toInt := by omega
      have v1 : vp_in i n1 := by rw [vp_in_iff]; omega
      have v2 : 0 ≤ (i + 1).toInt := by omega
      have v3 : m.toInt - (i + 1).toInt ≤ n := by omega
      refine ⟨v1, kf_sameName hq hT _ _ (hk _ lt) ht (fun r hr => ⟨fun c0 => ih _ v2 v3 (fun k hk => ?_), fun c0 => ri_i (h _ (Or.inr ⟨⟨i0, by omega⟩, i.toNatClampNeg, lt, by omega, hr.mp c0⟩))⟩)⟩
      by_cases ck : k = i.toNatClampNeg
      · rw [ck]; exact fun z => hr.mpr z c0
      · exact no k (by omega)
  exact kg_X6_numberOf_0 hq ka1 ma1 _ _ (loop m.toInt.toNat _ (by decide) (by show _ - (0 : Int) ≤ _; omega) (fun k hk => absurd hk (by show ¬ (k : Int) < 0; omega)))
theorem kf_isAmong (hq : kV q) (hT : kT x) {a1 n1 : Nat} (ka1 : kK a1 = .inr (.int, n1)) (ma1 : a1 ∈ (kf q).2.1) (m t : Int32) (h0 : 0 ≤ m.toInt) (hn : m.toInt ≤ n1) (hk : ∀ i : Nat, (i : Int) < m.toInt → tk x (x.1 a1 i)) (ht : tk x t) (h : ∀ r : Int32, (¬ r = 0 ↔ ∃ i : Nat, (i : Int) < m.toInt ∧ (x.1 a1 i).toNatClampNeg < t.toNatClampNeg ∧ smk x (x.1 a1 i).toNatClampNeg t.toNatClampNeg) → F r x) : KT G q (d + 1) zk_X6_isAmong 0 [(0, vr 40), (1, vr a1), (2, vi m), (3, vi t)] [] x (ri F) := by
  have ut := t_cl t
  have ht0 := ht.1
  have no1 : ∀ i : Int32, m.toInt ≤ i.toInt → (∀ k : Nat, (k : Int) < i.toInt → ¬ ((x.1 a1 k).toNatClampNeg < t.toNatClampNeg ∧ smk x (x.1 a1 k).toNatClampNeg t.toNatClampNeg)) → F 0 x := fun i hi no => h _ ⟨fun z => absurd rfl z, fun ⟨k, k1, k2⟩ => absurd k2 (no k (by omega))⟩
  have loop : ∀ (n : Nat) (i : Int32), 0 ≤ i.toInt → m.toInt - i.toInt ≤ n → (∀ k : Nat, (k : Int) < i.toInt → ¬ ((x.1 a1 k).toNatClampNeg < t.toNatClampNeg ∧ smk x (x.1 a1 k).toNatClampNeg t.toNatClampNeg)) → KT G q (d + 1) zk_X6_isAmong 3 [(0, vr 40), (1, vr a1), (2, vi m), (3, vi t), (4, vi i)] [] x (ri F) := by
    intro n
    induction n with
    | zero =>
      intro i i0 hn no
      refine kg_X6_isAmong_3 hq ka1 ma1 _ _ _ ⟨fun _ => ri_i (no1 i (by omega) no), fun c => ?_⟩
      exfalso; rw [t_le] at c; omega
    | succ n ih =>
      intro i i0 hn no
      refine kg_X6_isAmong_3 hq ka1 ma1 _ _ _ ⟨fun c => ri_i (no1 i (by rw [t_le] at c; exact c) no), fun c => ?_⟩
      rw [t_le] at c
      have rm := t_rg m
      have ui := t_cl i
      have e1 : (i + 1).toInt = i.toInt + 1 := t_add (by show _ ≤ _ + (1 : Int); omega) (by show _ + (1 : Int) ≤ _; omega)
      have vin : vp_in i n1 := by rw [vp_in_iff]; omega
      have lt : ((i.toNatClampNeg : Nat) : Int) < m.toInt := by omega
      have v2 : 0 ≤ (i + 1).toInt := by omega
      have v3 : m.toInt - (i + 1).toInt ≤ n := by omega
      have hti := (hk _ lt).1
      have ua := t_cl (x.1 a1 i.toNatClampNeg)
      have go : ¬ ((x.1 a1 i.toNatClampNeg).toNatClampNeg < t.toNatClampNeg ∧ smk x (x.1 a1 i.toNatClampNeg).toNatClampNeg t.toNatClampNeg) → KT G q (d + 1) zk_X6_isAmong 3 [(0, vr 40), (1, vr a1), (2, vi m), (3, vi t), (4, vi (i + 1))] [] x (ri F) := fun ni => ih _ v2 v3 (fun k hk => by
        by_cases ck : k = i.toNatClampNeg
        · rw [ck]; exact ni
        · exact no k (by omega))
      refine ⟨vin, fun c2 => go (fun z => ?_), fun c2 => ⟨vin, kf_sameName hq hT _ _ (hk _ lt) ht (fun r hr => ⟨fun c0 => go (fun z => absurd c0 (hr.mpr z.2)), fun c0 => ri_i (h _ ⟨fun _ => ⟨i.toNatClampNeg, lt, ?_, hr.mp c0⟩, fun _ => by decide⟩)⟩)⟩⟩
      · rw [t_le] at c2
        have := z.1
        omega
      · rw [t_le] at c2
        omega
  exact kg_X6_isAmong_0 hq ka1 ma1 _ _ (loop m.toInt.toNat _ (by decide) (by show _ - (0 : Int) ≤ _; omega) (fun k hk => absurd hk (by show ¬ (k : Int) < 0; omega)))
/-- a table's places, and what was told -/
theorem tb_ex {l : gTd} {m : Int32} {a : Nat → Int32} {Q : Nat → Prop} (hl : m.toInt = (l.length : Nat)) (he : ∀ (i : Nat) (q : Nat × Nat × Nat × Nat), l[i]? = some q → (a i).toNatClampNeg = q.1) : (∃ i : Nat, (i : Int) < m.toInt ∧ Q (a i).toNatClampNeg) ↔ ∃ q ∈ l, Q q.1 := by
  constructor
  · rintro ⟨i, hi, h⟩
    have il : i < l.length := by omega
    refine ⟨l[i], List.getElem_mem il, ?_⟩
    rw [← he i _ (List.getElem?_eq_getElem il)]; exact h
  · rintro ⟨q, hq, h⟩
    obtain ⟨i, hi, ei⟩ := List.getElem_of_mem hq
    refine ⟨i, by omega, ?_⟩
    rw [he i q (by rw [List.getElem?_eq_getElem hi, ei])]; exact h
theorem kf_isToldBefore (hq : kV q) (hT : kT x) (hN : NM x) (hTb : TBk x T) (hs : ∀ q ∈ T, q.2.1 = 0 ∨ q.2.1 = 1 ∨ q.2.1 = 2) (t : Int32) (ht : tk x t) (h : ∀ r : Int32, (¬ r = 0 ↔ ∃ q ∈ T, q.1 < t.toNatClampNeg ∧ smk x q.1 t.toNatClampNeg) → F r x) : KT G q (d + 2) zk_X6_isToldBefore 0 [(0, vr 40), (1, vi t)] [] x (ri F) := by
  obtain ⟨⟨a0, a1⟩, ⟨b0, b1⟩, ⟨c0, c1⟩, hc, hl, hh⟩ := hN
  obtain ⟨⟨p1, p2, p3⟩, ⟨q1, q2⟩, r1, r2⟩ := hTb
  have t0 := tb_ex (Q := fun k => k < t.toNatClampNeg ∧ smk x k t.toNatClampNeg) p1 (fun i q hq => (p3 i q hq).1)
  have t1 := tb_ex (Q := fun k => k < t.toNatClampNeg ∧ smk x k t.toNatClampNeg) q1 q2
  have t2 := tb_ex (Q := fun k => k < t.toNatClampNeg ∧ smk x k t.toNatClampNeg) r1 r2
  have yes : ∀ w r, ¬ r = (0 : Int32) → (∃ q ∈ tdS T w, q.1 < t.toNatClampNeg ∧ smk x q.1 t.toNatClampNeg) → F r x := fun w r hr ⟨q, hq, hp⟩ => h r ⟨fun _ => ⟨q, (tdS_mem.mp hq).1, hp⟩, fun _ => hr⟩
  refine kg_X6_isToldBefore_0 hq _ (kf_isAmong hq hT kk_44 (kl_44 hq) _ _ a0 a1 (fun i hi => (hc i hi).1) ht (fun r hr => ⟨fun z => ri_i (yes 0 _ (by decide) (t0.mp (hr.mp z))), fun z => kf_isAmong hq hT kk_48 (kl_48 hq) _ _ b0 b1 hl ht (fun r' hr' => ⟨fun z' => ri_i (yes 1 _ (by decide) (t1.mp (hr'.mp z'))), fun z' => kf_isAmong hq hT kk_50 (kl_50 hq) _ _ c0 c1 hh ht (fun r2 hr2 => ⟨fun z2 => ri_i (h _ ⟨fun w => absurd rfl w, fun ⟨q, hq, hp⟩ => ?_⟩), fun z2 => ri_i (yes 2 _ (by decide) (t2.mp (hr2.mp z2)))⟩)⟩)⟩))
  exfalso
  rcases hs q hq with e | e | e
  · exact hr.mpr (t0.mpr ⟨q, tdS_mem.mpr ⟨hq, e⟩, hp⟩) z
  · exact hr'.mpr (t1.mpr ⟨q, tdS_mem.mpr ⟨hq, e⟩, hp⟩) z'
  · exact hr2.mpr (t2.mpr ⟨q, tdS_mem.mpr ⟨hq, e⟩, hp⟩) z2
theorem kf_cellOf (hq : kV q) (hT : kT x) (hN : NM x) (t b : Int32) (hb : b = 0 ∨ b = 1) (ht : tk x t) (h : ∀ r : Int32, ((r = -1 ∧ ∀ i : Nat, (i : Int) < (x.1 40 6).toInt → (0 < (x.1 46 i).toInt ↔ b = 1) → ¬ smk x (x.1 44 i).toNatClampNeg t.toNatClampNeg) ∨ ((0 ≤ r.toInt ∧ r.toInt < (x.1 40 6).toInt) ∧ ∃ i : Nat, (i : Int) < (x.1 40 6).toInt ∧ r.toInt = (i : Nat) ∧ (0 < (x.1 46 i).toInt ↔ b = 1) ∧ smk x (x.1 44 i).toNatClampNeg t.toNatClampNeg ∧ ∀ k : Nat, k < i → (0 < (x.1 46 k).toInt ↔ b = 1) → ¬ smk x (x.1 44 k).toNatClampNeg t.toNatClampNeg)) → F r x) : KT G q (d + 1) zk_X6_cellOf 0 [(0, vr 40), (1, vi t), (2, vi b)] [] x (ri F) := by
  obtain ⟨⟨a0, a1⟩, -, -, hc, -⟩ := hN
  have k0 : (0 : Int32).toInt = 0 := rfl
  have loop : ∀ (n : Nat) (i : Int32), 0 ≤ i.toInt → (x.1 40 6).toInt - i.toInt ≤ n → (∀ k : Nat, (k : Int) < i.toInt → (0 < (x.1 46 k).toInt ↔ b = 1) → ¬ smk x (x.1 44 k).toNatClampNeg t.toNatClampNeg) → KT G q (d + 1) zk_X6_cellOf 2 [(0, vr 40), (1, vi t), (2, vi b), (3, vi i)] [] x (ri F) := by
    intro n
    induction n with
    | zero =>
      intro i i0 hn no
      refine kg_X6_cellOf_2 hq _ _ _ ⟨fun _ => ri_i (h _ (Or.inl ⟨rfl, fun k hk => no k (by omega)⟩)), fun c => ?_⟩
      exfalso; rw [t_le] at c; omega
    | succ n ih =>
      intro i i0 hn no
      refine kg_X6_cellOf_2 hq _ _ _ ⟨fun c => ri_i (h _ (Or.inl ⟨rfl, fun k hk => no k (by rw [t_le] at c; omega)⟩)), fun c => ?_⟩
      rw [t_le] at c
      have ui := t_cl i
      have e1 : (i + 1).toInt = i.toInt + 1 := t_add (by show _ ≤ _ + (1 : Int); omega) (by show _ + (1 : Int) ≤ _; omega)
      have vin : vp_in i 24 := by rw [vp_in_iff]; omega
      have lt : ((i.toNatClampNeg : Nat) : Int) < (x.1 40 6).toInt := by omega
      have ei : i.toInt = ((i.toNatClampNeg : Nat) : Int) := by omega
      have v2 : 0 ≤ (i + 1).toInt := by omega
      have v3 : (x.1 40 6).toInt - (i + 1).toInt ≤ n := by omega
      have v4 : i.toInt < (x.1 40 6).toInt := by omega
      have go : ((0 < (x.1 46 i.toNatClampNeg).toInt ↔ b = 1) → ¬ smk x (x.1 44 i.toNatClampNeg).toNatClampNeg t.toNatClampNeg) → KT G q (d + 1) zk_X6_cellOf 2 [(0, vr 40), (1, vi t), (2, vi b), (3, vi (i + 1))] [] x (ri F) := fun ni => ih _ v2 v3 (fun k hk => by
        by_cases ck : k = i.toNatClampNeg
        · rw [ck]; exact ni
        · exact no k (by omega))
      have mid : ∀ s : Int32, (s = b ↔ (0 < (x.1 46 i.toNatClampNeg).toInt ↔ b = 1)) → KT G q (d + 1) zk_X6_cellOf 24 [(0, vr 40), (1, vi t), (2, vi b), (3, vi i)] [vi s] x (ri F) := fun s hs => kg_X6_cellOf_24 hq _ _ _ _ ⟨fun c2 => go (fun z => absurd (hs.mpr z) c2), fun c2 => ⟨vin, kf_sameName hq hT _ _ (hc _ lt).1 ht (fun r hr => ⟨fun c0 => go (fun _ z => absurd c0 (hr.mpr z)), fun c0 => ri_i (h _ (Or.inr ⟨⟨i0, v4⟩, i.toNatClampNeg, lt, ei, hs.mp c2, hr.mp c0, fun k hk => no k (by omega)⟩))⟩)⟩⟩
      refine ⟨vin, fun c2 => mid 0 ?_, fun c2 => mid 1 ?_⟩
      · rw [t_le, k0] at c2
        rcases hb with e | e
        · rw [e]; exact ⟨fun _ => ⟨fun z => absurd z (by omega), fun z => absurd z (by decide)⟩, fun _ => rfl⟩
        · rw [e]; exact ⟨fun z => absurd z (by decide), fun z => absurd (z.mpr rfl) (by omega)⟩
      · rw [t_le, k0] at c2
        rcases hb with e | e
        · rw [e]; exact ⟨fun z => absurd z (by decide), fun z => absurd (z.mp (by omega)) (by decide)⟩
        · rw [e]; exact ⟨fun _ => ⟨fun _ => rfl, fun _ => by omega⟩, fun _ => rfl⟩
  exact kg_X6_cellOf_0 hq _ _ (loop (x.1 40 6).toInt.toNat _ (by decide) (by show _ - (0 : Int) ≤ _; omega) (fun k hk => absurd hk (by show ¬ (k : Int) < 0; omega)))
/-- what a name means: the told lock, thread or cell -/
def MNg (R : Nat → Nat → Prop) (T : gTd) (U W : Nat → Int32) (j : Nat) : Prop := (U j = 4 → ∃ (k : Nat) (q : Nat × Nat × Nat × Nat), (W j).toInt = (k : Nat) ∧ (tdS T 1)[k]? = some q ∧ R q.1 j) ∧ (U j = 5 → ∃ (k : Nat) (q : Nat × Nat × Nat × Nat), (W j).toInt = (k : Nat) ∧ (tdS T 2)[k]? = some q ∧ R q.1 j) ∧ (U j = 6 ∨ U j = 7 → ∃ (k : Nat) (q : Nat × Nat × Nat × Nat), (W j).toInt = (k : Nat) ∧ (tdS T 0)[k]? = some q ∧ R q.1 j)
theorem MNg_w {R : Nat → Nat → Prop} {U W W' : Nat → Int32} {j : Nat} (e : W' j = W j) (h : MNg R T U W j) : MNg R T U W' j := by
  unfold MNg
  rw [e]
  exact h
theorem MNg_no {R : Nat → Nat → Prop} {U W : Nat → Int32} {j : Nat} {u : Int32} (hu : U j = u) (h : ¬ u = 4 ∧ ¬ u = 5 ∧ ¬ u = 6 ∧ ¬ u = 7) : MNg R T U W j := ⟨fun z => absurd (hu.symm.trans z) h.1, fun z => absurd (hu.symm.trans z) h.2.1, fun z => z.elim (fun z => absurd (hu.symm.trans z) h.2.2.1) (fun z => absurd (hu.symm.trans z) h.2.2.2)⟩
/-- what a judged token's verdict says -/
def JV (x : gd) (T : gTd) (j : Nat) (r : Int32) (y : gd) : Prop := (r = 0 → JM y j) ∧ (r = 0 ↔ ¬ CFp (smk x) (x.1 27) (x.1 42) T j) ∧ (r = 0 → x.1 42 j = 7 → ∃ (k : Nat) (q : Nat × Nat × Nat × Nat), (y.1 43 j).toInt = (k : Nat) ∧ rwK (smk x) T j k q) ∧ (r = 0 → MNg (smk x) T (x.1 42) (y.1 43) j)
theorem JV_no {j : Nat} {r : Int32} {y : gd} (hr : ¬ r = 0) (h : CFp (smk x) (x.1 27) (x.1 42) T j) : JV x T j r y := ⟨fun z => absurd z hr, ⟨fun z => absurd z hr, fun z => absurd h z⟩, fun z => absurd z hr, fun z => absurd z hr⟩
theorem JV_ye {j : Nat} {y : gd} {u : Int32} (hu : x.1 42 j = u) (h7 : ¬ u = 7) (hj : JM y j) (hm : MNg (smk x) T (x.1 42) (y.1 43) j) (h : ¬ CFp (smk x) (x.1 27) (x.1 42) T j) : JV x T j 0 y := ⟨fun _ => hj, ⟨fun _ => h, fun _ => rfl⟩, fun _ z => absurd (hu.symm.trans z) h7, fun _ => hm⟩
theorem kf_faultOfCell (hq : kV q) (hT : kT x) (hN : NM x) (hTb : TBk x T) (i : Int32) {j : Nat} (ei : i.toInt = j) (ht : tk x i) (hU : x.1 42 j = 6 ∨ x.1 42 j = 7 ∨ x.1 42 j = 8 ∨ x.1 42 j = 9) (h : ∀ r y, fm (fun c k => c = 43 ∧ k = j) x y → JV x T j r y → F r y) : KT G q (d + 2) zk_X6_faultOfCell 0 [(0, vr 40), (1, vi i)] [] x (ri F) := by
  have vin := (kT_at hT ht).1
  have ej : i.toNatClampNeg = j := by rw [t_cl, ei]; rfl
  obtain ⟨p1, p2, p3⟩ := hTb.1
  have at0 : ∀ (k : Nat), (k : Int) < (x.1 40 6).toInt → ∃ q, (tdS T 0)[k]? = some q ∧ (x.1 44 k).toNatClampNeg = q.1 ∧ (x.1 46 k).toInt = (q.2.2.1 : Nat) := fun k hk => by
    have il : k < (tdS T 0).length := by omega
    exact ⟨_, List.getElem?_eq_getElem il, (p3 k _ (List.getElem?_eq_getElem il)).1, (p3 k _ (List.getElem?_eq_getElem il)).2.1⟩
  have mid : ∀ s : Int32, (s = 0 ∨ s = 1) → (s = 1 ↔ x.1 42 j = 7 ∨ x.1 42 j = 9) → KT G q (d + 2) zk_X6_faultOfCell 34 [(0, vr 40), (1, vi i)] [vi s, vi i, vr 40, vi i, vr 43] x (ri F) := by
    intro s hs01 hs
    refine kg_X6_faultOfCell_34 hq _ _ _ _ (kf_cellOf hq hT hN _ _ hs01 ht (fun r hr => ⟨vin, fun x4 e4 => ?_⟩))
    rw [ej] at e4 hr ⊢
    have f4 : fm (fun c k => c = 43 ∧ k = j) x x4 := by rw [e4]; exact fm_si (fm_rf _ _) ⟨rfl, rfl⟩
    have g4 : x4.1 43 j = r := by rw [e4]; (simp only [si_get, sfl_get, Nat.reduceEqDiff, eq_self, and_false, false_and, and_true, true_and, if_true, if_false, reduceIte, reduceCtorEq])
    have g6 : x4.1 40 6 = x.1 40 6 := f4 _ _ (by omega)
    have g42 : x4.1 42 j = x.1 42 j := f4 _ _ (by omega)
    have km : ∀ r : Int32, 0 ≤ r.toInt → ¬ r = -1 := fun r hr z => by rw [z, tm1] at hr; omega
    rw [g4, g42]
    refine ⟨vin, fun c => ?_, fun c => ri_i (h _ x4 f4 (JV_no (by decide) ?_))⟩
    · obtain ⟨hr2, k, hk, ek, hrow, hsm, hfi⟩ : (0 ≤ r.toInt ∧ r.toInt < (x.1 40 6).toInt) ∧ ∃ i : Nat, (i : Int) < (x.1 40 6).toInt ∧ r.toInt = (i : Nat) ∧ (0 < (x.1 46 i).toInt ↔ s = 1) ∧ smk x (x.1 44 i).toNatClampNeg j ∧ ∀ k : Nat, k < i → (0 < (x.1 46 k).toInt ↔ s = 1) → ¬ smk x (x.1 44 k).toNatClampNeg j := by
        rcases hr with ⟨e, -⟩ | e
        · exact absurd e c
        · exact e
      obtain ⟨q, hq9, q1, q2⟩ := at0 k hk
      have hqm := tdS_mem.mp (List.mem_of_getElem? hq9)
      have jm : ∀ u : Int32, x4.1 42 j = u → (u = 6 ∨ u = 7) → JM x4 j := by
        intro u eu hu
        unfold JM
        rw [eu, g4, g6]
        rcases hu with rfl | rfl <;> exact ⟨by decide, fun q => absurd q (by decide), fun q => absurd q (by decide), fun _ => hr2, fun q => absurd q (by decide)⟩
      refine ⟨vin, fun c6 => ri_i (h _ x4 f4 (JV_ye c6 (by decide) (jm 6 (by rw [g42]; exact c6) (Or.inl rfl)) ⟨fun z => absurd (c6.symm.trans z) (by decide), fun z => absurd (c6.symm.trans z) (by decide), fun _ => ⟨k, q, by rw [g4]; exact ek, hq9, by rw [← q1]; exact hsm⟩⟩ (fun hC => ?_))), fun c6 => ⟨vin, fun c7 => ri_i (h _ x4 f4 (JV_no (by decide) ?_)), fun c7 => ri_i (h _ x4 f4 ⟨fun _ => jm 7 (by rw [g42]; exact c7) (Or.inr rfl), ⟨fun _ hC => ?_, fun _ => rfl⟩, fun _ _ => ⟨k, q, by rw [g4]; exact ek, hq9, ?_, by rw [← q1]; exact hsm, fun k' q' hk' hq' hr' hR' => ?_⟩, fun _ => ⟨fun z => absurd (c7.symm.trans z) (by decide), fun z => absurd (c7.symm.trans z) (by decide), fun _ => ⟨k, q, by rw [g4]; exact ek, hq9, by rw [← q1]; exact hsm⟩⟩⟩)⟩⟩
      · have s0 : ¬ s = 1 := fun z => by
          rcases hs.mp z with e | e <;> (rw [c6] at e; exact absurd e (by decide))
        refine CF_o6 hC c6 q hqm.1 hqm.2 ?_ (by rw [← q1]; exact hsm)
        have : ¬ 0 < (x.1 46 k).toInt := fun z => s0 (hrow.mp z)
        omega
      · rcases hU with e | e | e | e
        · exact absurd e c6
        · exact absurd e c7
        · exact CF_i8 e
        · exact CF_i9 e
      · have := hrow.mpr (hs.mpr (Or.inl c7))
        exact CF_o7 hC c7 q hqm.1 hqm.2 (by omega) (by rw [← q1]; exact hsm)
      · have := hrow.mpr (hs.mpr (Or.inl c7))
        omega
      · obtain ⟨z1, z2, -⟩ := p3 k' q' hq'
        refine hfi k' hk' ⟨fun _ => hs.mpr (Or.inl c7), fun _ => by omega⟩ ?_
        rw [z1]; exact hR'
    · obtain ⟨-, hno⟩ : r = -1 ∧ ∀ i : Nat, (i : Int) < (x.1 40 6).toInt → (0 < (x.1 46 i).toInt ↔ s = 1) → ¬ smk x (x.1 44 i).toNatClampNeg j := by
        rcases hr with e | ⟨e, -⟩
        · exact e
        · exact absurd c (km r e.1)
      have all : ∀ q ∈ T, q.2.1 = 0 → (0 < q.2.2.1 ↔ s = 1) → ¬ smk x q.1 j := fun q hq e0 hr => by
        obtain ⟨k, hk, ek⟩ := List.getElem_of_mem (tdS_mem.mpr ⟨hq, e0⟩)
        have hk9 : (tdS T 0)[k]? = some q := by rw [List.getElem?_eq_getElem hk, ek]
        obtain ⟨z1, z2, -⟩ := p3 k q hk9
        have := hno k (by omega) ⟨fun z => hr.mp (by omega), fun z => by have := hr.mpr z; omega⟩
        rw [z1] at this
        exact this
      rcases hU with e | e | e | e
      · refine CF_i6 e (fun q hq e0 r0 => all q hq e0 ⟨fun z => absurd z (by omega), fun z => ?_⟩)
        rcases hs.mp z with e' | e' <;> (rw [e] at e'; exact absurd e' (by decide))
      · exact CF_i7 e (fun q hq e0 r0 => all q hq e0 ⟨fun _ => hs.mpr (Or.inl e), fun _ => r0⟩)
      · exact CF_i8 e
      · exact CF_i9 e
  refine kg_X6_faultOfCell_0 hq _ ⟨vin, ?_⟩
  rw [ej]
  exact ⟨fun c => mid 1 (Or.inr rfl) ⟨fun _ => Or.inl c, fun _ => rfl⟩, fun c => ⟨vin, fun c9 => mid 0 (Or.inl rfl) ⟨fun z => absurd z (by decide), fun z => z.elim (fun e => absurd e c) (fun e => absurd e c9)⟩, fun c9 => mid 1 (Or.inr rfl) ⟨fun _ => Or.inr c9, fun _ => rfl⟩⟩⟩
theorem rwK_un {R : Nat → Nat → Prop} {t k k' : Nat} {q q' : Nat × Nat × Nat × Nat} (h : rwK R T t k q) (h' : rwK R T t k' q') : k = k' ∧ q = q' := by
  obtain ⟨a1, a2, a3, a4⟩ := h
  obtain ⟨b1, b2, b3, b4⟩ := h'
  rcases Nat.lt_trichotomy k k' with c | c | c
  · exact absurd a3 (b4 k q c a1 a2)
  · rw [c] at a1
    exact ⟨c, Option.some.inj (a1.symm.trans b1)⟩
  · exact absurd b3 (a4 k' q' c b1 b2)
theorem kf_faultOf (hq : kV q) (hT : kT x) (hN : NM x) (hTb : TBk x T) (hs : ∀ q ∈ T, q.2.1 = 0 ∨ q.2.1 = 1 ∨ q.2.1 = 2) (i : Int32) {j : Nat} (ei : i.toInt = j) (ht : tk x i) (hU : x.1 42 j = 1 ∨ x.1 42 j = 2 ∨ x.1 42 j = 3 ∨ x.1 42 j = 4 ∨ x.1 42 j = 5 ∨ x.1 42 j = 6 ∨ x.1 42 j = 7 ∨ x.1 42 j = 8 ∨ x.1 42 j = 9 ∨ x.1 42 j = 10 ∨ x.1 42 j = 11 ∨ x.1 42 j = 12 ∨ x.1 42 j = 13) (hp : x.1 42 j = 12 → 2 ≤ j ∧ ∃ (k : Nat) (q : Nat × Nat × Nat × Nat), (x.1 43 (j - 2)).toInt = (k : Nat) ∧ rwK (smk x) T (j - 2) k q) (h : ∀ r y, fm (fun c k => c = 43 ∧ k = j) x y → JV x T j r y → F r y) : KT G q (d + 3) zk_X6_faultOf 0 [(0, vr 40), (1, vi i)] [] x (ri F) := by
  have vin := (kT_at hT ht).1
  have ej : i.toNatClampNeg = j := by rw [t_cl, ei]; rfl
  have k3 : (3 : Int32).toInt = 3 := rfl
  obtain ⟨⟨a0, a1⟩, ⟨b0, b1⟩, ⟨c0, c1⟩, hc, hl, hh⟩ := id hN
  obtain ⟨⟨p1, p2, p3⟩, ⟨q1, q2⟩, r1, r2⟩ := id hTb
  have rf := fm_rf (fun c k => c = 43 ∧ k = j) x
  have km : ∀ r : Int32, 0 ≤ r.toInt → ¬ r = -1 := fun r hr z => by rw [z, tm1] at hr; omega
  have no : ∀ {r : Int32} {y : gd}, ¬ r = 0 → CFp (smk x) (x.1 27) (x.1 42) T j → fm (fun c k => c = 43 ∧ k = j) x y → ri F (some (vi r)) y := fun hr hC hf => ri_i (h _ _ hf (JV_no hr hC))
  refine kg_X6_faultOf_0 hq _ ⟨vin, ?_⟩
  rw [ej]
  refine ⟨fun c => kf_isToldBefore hq hT hN hTb hs _ ht (fun r hr => ?_), fun c => no (by decide) (CF_i2 c) rf, fun c => no (by decide) (CF_i3 c) rf, fun c => ?_, fun c => ?_, fun c => no (by decide) (CF_i10 c) rf, fun c => ⟨vin, kg_X6_isRowSize_0 hq _ ?_⟩, fun c => ⟨vin, fun c3 => ri_i (h _ x rf (JV_ye c (by decide) (JM_of c (Or.inr (Or.inr (Or.inr rfl)))) (MNg_no c (by decide)) (fun hC => ?_))), fun c3 => no (by decide) (CF_i13 c ?_) rf⟩, fun c => ⟨fun c2 => ?_, fun _ => ?_⟩, fun c => kf_faultOfCell hq hT hN hTb _ ei ht ?_ (fun r y hf hr => ri_i (h r y hf hr))⟩
  · rw [ej] at hr
    refine ⟨fun c4 => ri_i (h _ x rf (JV_ye c (by decide) (JM_of c (Or.inr (Or.inl rfl))) (MNg_no c (by decide)) (fun hC => ?_))), fun c4 => no (by decide) (CF_i1 c (hr.mp c4)) rf⟩
    exact hr.mpr (CF_o1 hC c) c4
  · refine kf_numberOf hq hT kk_48 (kl_48 hq) _ _ b0 b1 hl ht (fun r hr => ⟨vin, fun z ez => ?_⟩)
    rw [ej] at hr
    have fz : fm (fun c k => c = 43 ∧ k = j) x z := by rw [ez]; exact fm_si (fm_rf _ _) ⟨rfl, rfl⟩
    have gz : z.1 43 j = r := by rw [ez]; (simp only [si_get, sfl_get, Nat.reduceEqDiff, eq_self, and_false, false_and, and_true, true_and, if_true, if_false, reduceIte, reduceCtorEq])
    have t1 := tb_ex (Q := fun k => smk x k j) q1 q2
    refine ⟨vin, fun c2 => ri_i (h _ z fz (JV_ye c (by decide) ?_ ⟨fun _ => by
      rw [gz] at c2
      rcases hr with ⟨e, -⟩ | ⟨-, k, hk, ek, hs9⟩
      · exact absurd e c2
      · have il : k < (tdS T 1).length := by omega
        exact ⟨k, _, by rw [gz]; exact ek, List.getElem?_eq_getElem il, by rw [← q2 k _ (List.getElem?_eq_getElem il)]; exact hs9⟩, fun z => absurd (c.symm.trans z) (by decide), fun z => z.elim (fun z => absurd (c.symm.trans z) (by decide)) (fun z => absurd (c.symm.trans z) (by decide))⟩ (fun hC => ?_))), fun c2 => no (by decide) (CF_i4 c (fun q hq e0 s => ?_)) fz⟩
    · rw [gz] at c2
      unfold JM
      rw [fz 42 j (by omega), fz 40 8 (by omega), gz, c]
      refine ⟨by decide, fun _ => ?_, fun q => absurd q (by decide), fun q => absurd q (by decide), fun q => absurd q (by decide)⟩
      rcases hr with ⟨e, -⟩ | ⟨e, -⟩
      · exact absurd e c2
      · exact e
    · rw [gz] at c2
      rcases hr with ⟨e, -⟩ | ⟨-, k, hk, -, hs9⟩
      · exact absurd e c2
      · obtain ⟨q, hq, hs8⟩ := t1.mp ⟨k, hk, hs9⟩
        obtain ⟨m1, m2⟩ := tdS_mem.mp hq
        exact CF_o4 hC c q m1 m2 hs8
    · rw [gz] at c2
      rcases hr with ⟨-, e⟩ | ⟨e, -⟩
      · obtain ⟨k, hk, hs9⟩ := t1.mpr ⟨q, tdS_mem.mpr ⟨hq, e0⟩, s⟩
        exact e k hk hs9
      · exact absurd c2 (km r e.1)
  · refine kf_numberOf hq hT kk_50 (kl_50 hq) _ _ c0 c1 hh ht (fun r hr => ⟨vin, fun z ez => ?_⟩)
    rw [ej] at hr
    have fz : fm (fun c k => c = 43 ∧ k = j) x z := by rw [ez]; exact fm_si (fm_rf _ _) ⟨rfl, rfl⟩
    have gz : z.1 43 j = r := by rw [ez]; (simp only [si_get, sfl_get, Nat.reduceEqDiff, eq_self, and_false, false_and, and_true, true_and, if_true, if_false, reduceIte, reduceCtorEq])
    have t1 := tb_ex (Q := fun k => smk x k j) r1 r2
    refine ⟨vin, fun c2 => ri_i (h _ z fz (JV_ye c (by decide) ?_ ⟨fun z => absurd (c.symm.trans z) (by decide), fun _ => by
      rw [gz] at c2
      rcases hr with ⟨e, -⟩ | ⟨-, k, hk, ek, hs9⟩
      · exact absurd e c2
      · have il : k < (tdS T 2).length := by omega
        exact ⟨k, _, by rw [gz]; exact ek, List.getElem?_eq_getElem il, by rw [← r2 k _ (List.getElem?_eq_getElem il)]; exact hs9⟩, fun z => z.elim (fun z => absurd (c.symm.trans z) (by decide)) (fun z => absurd (c.symm.trans z) (by decide))⟩ (fun hC => ?_))), fun c2 => no (by decide) (CF_i5 c (fun q hq e0 s => ?_)) fz⟩
    · rw [gz] at c2
      unfold JM
      rw [fz 42 j (by omega), fz 40 10 (by omega), gz, c]
      refine ⟨by decide, fun q => absurd q (by decide), fun _ => ?_, fun q => absurd q (by decide), fun q => absurd q (by decide)⟩
      rcases hr with ⟨e, -⟩ | ⟨e, -⟩
      · exact absurd e c2
      · exact e
    · rw [gz] at c2
      rcases hr with ⟨e, -⟩ | ⟨-, k, hk, -, hs9⟩
      · exact absurd e c2
      · obtain ⟨q, hq, hs8⟩ := t1.mp ⟨k, hk, hs9⟩
        obtain ⟨m1, m2⟩ := tdS_mem.mp hq
        exact CF_o5 hC c q m1 m2 hs8
    · rw [gz] at c2
      rcases hr with ⟨-, e⟩ | ⟨e, -⟩
      · obtain ⟨k, hk, hs9⟩ := t1.mpr ⟨q, tdS_mem.mpr ⟨hq, e0⟩, s⟩
        exact e k hk hs9
      · exact absurd c2 (km r e.1)
  · have k1 : (1 : Int32).toInt = 1 := rfl
    have k8 : (8 : Int32).toInt = 8 := rfl
    refine ⟨fun c2 => ri_i ⟨fun _ => no (by decide) (CF_i11 c (by rw [t_lt, k1] at c2; omega)) rf, fun z => absurd rfl z⟩, fun c2 => ⟨fun c3 => ri_i ⟨fun _ => no (by decide) (CF_i11 c (by rw [t_lt, k8] at c3; omega)) rf, fun z => absurd rfl z⟩, fun c3 => ri_i ⟨fun z => absurd z (by decide), fun _ => ri_i (h _ x rf (JV_ye c (by decide) (JM_of c (Or.inr (Or.inr (Or.inl rfl)))) (MNg_no c (by decide)) (fun hC => CF_o11 hC c ?_)))⟩⟩⟩
    rw [t_lt, k1] at c2
    rw [t_lt, k8] at c3
    omega
  · have := CF_o13 hC c
    rw [t_le, k3] at c3
    omega
  · rw [t_le, k3] at c3
    omega
  · exfalso
    have k2 : (2 : Int32).toInt = 2 := rfl
    obtain ⟨z, -⟩ := hp c
    rw [t_lt, k2, ei] at c2
    omega
  · obtain ⟨p1, k, q, p2, hrw⟩ := hp c
    have k2 : (2 : Int32).toInt = 2 := rfl
    have vv := vp_in_iff.mp vin
    rw [ei] at vv
    have e2 : (i - 2).toInt = ((j - 2 : Nat) : Int) := by rw [t_sub (by rw [k2, ei]; omega) (by rw [k2, ei]; omega), k2, ei]; omega
    have e3 : (i - 2).toNatClampNeg = j - 2 := by rw [t_cl, e2]; rfl
    have v2 : vp_in (i - 2) 702 := by rw [vp_in_iff] at vin ⊢; omega
    rw [e3]
    have eK : (x.1 43 (j - 2)).toNatClampNeg = k := by rw [t_cl, p2]; rfl
    rw [eK]
    obtain ⟨z1, z2, -⟩ := p3 k q hrw.1
    have kl : k < (tdS T 0).length := by
      obtain ⟨hh, -⟩ := List.getElem?_eq_some_iff.mp hrw.1
      exact hh
    refine ⟨vin, v2, by rw [vp_in_iff]; omega, fun c3 => no (by decide) (CF_i12 c ⟨k, q, hrw, ?_⟩) rf, fun c3 => ri_i (h _ x rf (JV_ye c (by decide) ?_ (MNg_no c (by decide)) (fun hC => ?_)))⟩
    · rw [t_le] at c3
      omega
    · unfold JM
      rw [c]
      refine ⟨by decide, fun q => absurd q (by decide), fun q => absurd q (by decide), fun q => absurd q (by decide), fun _ => ?_⟩
      rw [t_le] at c3
      rw [eK]
      omega
    · obtain ⟨k', q', h1, h2⟩ := CF_o12 hC c
      obtain ⟨-, eq⟩ := rwK_un hrw h1
      rw [← eq] at h2
      rw [t_le] at c3
      omega
  · have c := fun k hk => c k hk
    rcases hU with e | e | e | e | e | e | e | e | e | e | e | e | e
    · exact absurd e (c 1 (by decide))
    · exact absurd e (c 2 (by decide))
    · exact absurd e (c 3 (by decide))
    · exact absurd e (c 4 (by decide))
    · exact absurd e (c 5 (by decide))
    · exact Or.inl e
    · exact Or.inr (Or.inl e)
    · exact Or.inr (Or.inr (Or.inl e))
    · exact Or.inr (Or.inr (Or.inr e))
    · exact absurd e (c 10 (by decide))
    · exact absurd e (c 11 (by decide))
    · exact absurd e (c 12 (by decide))
    · exact absurd e (c 13 (by decide))
theorem smk_e {y : gd} (f : ∀ c k, 20 ≤ c → c < 40 → y.1 c k = x.1 c k) : smk y = smk x := by
  have r : ∀ c, 20 ≤ c → c < 40 → y.1 c = x.1 c := fun c h1 h2 => by funext k; exact f c k h1 h2
  funext a b
  unfold smk
  rw [r 27 (by omega) (by omega), r 26 (by omega) (by omega), r 24 (by omega) (by omega), r 21 (by omega) (by omega)]
theorem kf_judge (hq : kV q) (hT : kT x) (hN : NM x) (hTb : TBk x T) (hs : ∀ q ∈ T, q.2.1 = 0 ∨ q.2.1 = 1 ∨ q.2.1 = 2) (hU : ∀ j : Nat, (j : Int) < (x.1 20 7).toInt → ¬ x.1 42 j = 0 → x.1 42 j = 1 ∨ x.1 42 j = 2 ∨ x.1 42 j = 3 ∨ x.1 42 j = 4 ∨ x.1 42 j = 5 ∨ x.1 42 j = 6 ∨ x.1 42 j = 7 ∨ x.1 42 j = 8 ∨ x.1 42 j = 9 ∨ x.1 42 j = 10 ∨ x.1 42 j = 11 ∨ x.1 42 j = 12 ∨ x.1 42 j = 13) (hp : ∀ j : Nat, (j : Int) < (x.1 20 7).toInt → x.1 42 j = 12 → 2 ≤ j ∧ x.1 42 (j - 2) = 7) (h : ∀ r y, fm (fun c k => c = 43 ∨ (c = 40 ∧ k = 11)) x y → (r = 0 → ∀ j : Nat, (j : Int) < (x.1 20 7).toInt → JM y j) → (¬ r = 0 → tk x (y.1 40 11)) → (r = 0 ↔ ¬ ∃ j : Nat, (j : Int) < (x.1 20 7).toInt ∧ CFp (smk x) (x.1 27) (x.1 42) T j) → (r = 0 → ∀ j : Nat, (j : Int) < (x.1 20 7).toInt → MNg (smk x) T (x.1 42) (y.1 43) j) → F r y) : KT G q (d + 4) zk_X6_judge 0 [(0, vr 40)] [] x (ri F) := by
  obtain ⟨-, n, en, hn, -⟩ := id hT
  have loop : ∀ (m j : Nat) (i : Int32) (y : gd), i.toInt = j → j + m = n → fm (fun c k => c = 43) x y → (∀ k, k < j → JM y k) → (∀ k, k < j → ¬ CFp (smk x) (x.1 27) (x.1 42) T k) → (∀ k, k < j → x.1 42 k = 7 → ∃ (kk : Nat) (q : Nat × Nat × Nat × Nat), (y.1 43 k).toInt = (kk : Nat) ∧ rwK (smk x) T k kk q) → (∀ k, k < j → MNg (smk x) T (x.1 42) (y.1 43) k) → KT G q (d + 4) zk_X6_judge 2 [(0, vr 40), (1, vi i)] [] y (ri F) := by
    intro m
    induction m with
    | zero =>
      intro j i y ei hj hf hJ hC hM hMn
      have e7 : y.1 20 7 = x.1 20 7 := hf _ _ (by omega)
      refine kg_X6_judge_2 hq _ ⟨fun _ => ri_i (h _ y (fm_w hf (fun c k q => Or.inl q)) (fun _ k hk => hJ k (by omega)) (fun q => absurd rfl q) ⟨fun _ ⟨k, hk, hc⟩ => hC k (by omega) hc, fun _ => rfl⟩ (fun _ k hk => hMn k (by omega))), fun c => ?_⟩
      exfalso; rw [e7, t_le] at c; omega
    | succ m ih =>
      intro j i y ei hj hf hJ hC hM hMn
      have e7 : y.1 20 7 = x.1 20 7 := hf _ _ (by omega)
      have ej : i.toNatClampNeg = j := by rw [t_cl, ei]; rfl
      have hTy : kT y := kT_fm hT (fun c k q1 q2 => hf c k (by omega))
      have hNy : NM y := NM_fm hN (fun c k q1 q2 q3 q4 => hf c k (by omega)) (hf _ _ (by omega)) (hf _ _ (by omega))
      have hTby : TBk y T := TBk_f hTb (fun c k q => hf c k (by omega))
      have sm : smk y = smk x := smk_e (fun c k q1 q2 => hf c k (by omega))
      have e27 : y.1 27 = x.1 27 := by funext k; exact hf _ _ (by omega)
      have e42 : y.1 42 = x.1 42 := by funext k; exact hf _ _ (by omega)
      have jv : ∀ r z, JV y T j r z → (r = 0 → JM z j) ∧ (r = 0 ↔ ¬ CFp (smk x) (x.1 27) (x.1 42) T j) ∧ (r = 0 → x.1 42 j = 7 → ∃ (k : Nat) (q : Nat × Nat × Nat × Nat), (z.1 43 j).toInt = (k : Nat) ∧ rwK (smk x) T j k q) ∧ (r = 0 → MNg (smk x) T (x.1 42) (z.1 43) j) := fun r z hv => by
        unfold JV at hv
        rw [sm, e27, e42] at hv
        exact hv
      have hti : tk y i := by unfold tk; rw [e7]; omega
      have vin := (kT_at hTy hti).1
      have e1 : (i + 1).toInt = ((j + 1 : Nat) : Int) := by rw [t_add (by show _ ≤ _ + (1 : Int); omega) (by show _ + (1 : Int) ≤ _; omega), ei]; rfl
      refine kg_X6_judge_2 hq _ ⟨fun c => ?_, fun c => ⟨vin, ?_⟩⟩
      · exfalso; rw [e7, t_le] at c; omega
      rw [ej]
      have mid : ∀ (r : Int32) (z : gd), fm (fun c k => c = 43 ∧ k = j) y z → (r = 0 → JM z j) → (r = 0 ↔ ¬ CFp (smk x) (x.1 27) (x.1 42) T j) → (r = 0 → x.1 42 j = 7 → ∃ (k : Nat) (q : Nat × Nat × Nat × Nat), (z.1 43 j).toInt = (k : Nat) ∧ rwK (smk x) T j k q) → (r = 0 → MNg (smk x) T (x.1 42) (z.1 43) j) → KT G q (d + 4) zk_X6_judge 31 [(0, vr 40), (1, vi i)] [vi r] z (ri F) := by
        intro r z fz hr hr2 hr3 hr4
        have fx : fm (fun c k => c = 43) x z := fm_tr hf (fm_w fz (fun c k q => q.1))
        refine kg_X6_judge_31 hq _ _ ⟨fun c0 => ih (j + 1) _ z e1 (by omega) fx (fun k hk => ?_) (fun k hk => ?_) (fun k hk hu => ?_) (fun k hk => ?_), fun c0 w ew => ri_i (h _ w ?_ (fun q => absurd q c0) (fun _ => ?_) ⟨fun z => absurd z c0, fun z => absurd ⟨j, by omega, ?_⟩ z⟩ (fun q => absurd q c0))⟩
        · by_cases hkj : k = j
          · rw [hkj]; exact hr c0
          · have hk := hJ k (by omega)
            unfold JM at hk ⊢
            rw [fz 42 k (by omega), fz 43 k (by omega), fz 40 8 (by omega), fz 40 10 (by omega), fz 40 6 (by omega), fz 27 k (by omega), fz 43 (k - 2) (by omega), fz 46 _ (by omega)]
            exact hk
        · by_cases hkj : k = j
          · rw [hkj]; exact hr2.mp c0
          · exact hC k (by omega)
        · by_cases hkj : k = j
          · rw [hkj] at hu ⊢; exact hr3 c0 hu
          · rw [fz 43 k (by omega)]; exact hM k (by omega) hu
        · by_cases hkj : k = j
          · rw [hkj]; exact hr4 c0
          · exact MNg_w (fz 43 k (by omega)) (hMn k (by omega))
        · rw [ew]; exact fm_si (fm_w fx (fun c k q => Or.inl q)) (Or.inr ⟨rfl, rfl⟩)
        · have : w.1 40 11 = i := by rw [ew]; (simp only [si_get, sfl_get, Nat.reduceEqDiff, eq_self, and_false, false_and, and_true, true_and, if_true, if_false, reduceIte, reduceCtorEq])
          rw [this]; unfold tk; omega
        · exact Classical.byContradiction (fun z => c0 (hr2.mpr z))
      refine ⟨fun c1 => kf_faultOf hq hTy hNy hTby hs _ ei hti ?_ ?_ (fun r z fz hr => mid r z fz (jv r z hr).1 (jv r z hr).2.1 (jv r z hr).2.2.1 (jv r z hr).2.2.2), fun c1 => mid 0 y (fm_rf _ _) (fun _ => JM_of c1 (Or.inl rfl)) ⟨fun _ hc => CF_n0 hc (by rw [← e42]; exact c1), fun _ => rfl⟩ (fun _ z => absurd (by rw [← e42] at z; exact c1.symm.trans z) (by decide)) (fun _ => MNg_no (u := 0) (by rw [← e42]; exact c1) (by decide))⟩
      · rw [e42] at c1 ⊢
        exact hU j (by omega) c1
      · intro c12
        rw [e42] at c12
        obtain ⟨p1, p2⟩ := hp j (by omega) c12
        obtain ⟨kk, q, z1, z2⟩ := hM (j - 2) (by omega) p2
        exact ⟨p1, kk, q, z1, by rw [sm]; exact z2⟩
  exact kg_X6_judge_0 hq (loop n 0 _ x rfl (by omega) (fm_rf _ _) (fun k hk => by omega) (fun k hk => by omega) (fun k hk => by omega) (fun k hk => by omega))
end KJF
end
