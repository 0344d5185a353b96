/-! the class: all is read -/
section KDK
variable {G : kG} {q : kP} {d : Nat} {x x0 y z xs : gd} {F : Int32 → gd → Prop} {Fv : gd → Prop} {X : String → gd → Prop} {P : Option gv → gd → Prop} {K V : Nat → Int32} {sN : Nat → Nat → Bool} {e : Nat} {Ev : gV} {Ml N : gU} {T : gTd} {n : gN} {W : gD}
/-- outside a thread, L read -/
def RAo (K V : Nat → Int32) (sN : Nat → Nat → Bool) (e : Nat) (x xs y : gd) (W : gD) : Prop := ∃ (L : gU) (n : gN) (m : Nat), OT x y ∧ RIw K V sN e E0v xs y L ∧ (exs L E0v).1 = [] ∧ (exs L E0v).2.1 = [] ∧ TBk y (L.filterMap (te1 K V)) ∧ CNk y n ∧ W = pAl K V m n (nn y) L ∧ 701 ≤ m + nn y ∧ CCp sN V K y (cds sN K L cd0) (ces K V L (0, 0, [])) (tPs sN V K L E0v) ∧ eqE (cds sN K L cd0).1 (exs L E0v) ∧ rgO (cds sN K L cd0).2.2.2.1
/-- within one -/
def RAi (K V : Nat → Int32) (sN : Nat → Nat → Bool) (e : Nat) (x xs y : gd) (W : gD) : Prop := ∃ (L u : _) (c m i0 i1 : Nat) (n : gN) (L0 : gU) (W1 : gTs), (BB x y (y.1 60 13).toInt E0 ∧ W1 = eS K u c (nn y) L ∨ (BB x y (y.1 60 13).toInt E1 ∧ y.1 23 (y.1 100 4).toNatClampNeg = 54) ∧ W1 = eX K u c (nn y) L) ∧ 1 ≤ om y ∧ om y ≤ 17 ∧ 2 * ssm y + om y ≤ nx y ∧ RIw K V sN e E0v xs y L ∧ EN K e y u (exs L E0v) ∧ (y.1 100 7).toInt = (c : Nat) ∧ W1 = pBk (pS K 16) K 0 0 i0 L0 ∧ TBk y (L0.filterMap (te1 K V)) ∧ CNk y n ∧ W = W1.bind (fun q => pAl K V m n q.2.1 q.2.2) ∧ i1 < nn y ∧ 701 ≤ m + 1 + i1 ∧ CCp sN V K y (cds sN K L cd0) (ces K V L (0, 0, [])) (tPs sN V K L E0v) ∧ eqE (cds sN K L cd0).1 (exs L E0v) ∧ (cds sN K L cd0).2.2.2.1 = rg0
theorem kh_readAll (hq : kV q) (hT : kT x) (hA : KA K V sN e x) (hx : W = none → RX x X) (eW : W = pAl K V 701 (0, 0, 0, 0, 0) 0 []) (h : ∀ y n L, OT x y → W = some (n, nn y, L) → K (nn y) = 0 → KA K V sN e y → nn y ≤ e → HAs sN (y.1 42) (nn y) L E0v → (∀ j, j < nn y → ¬ y.1 42 j = 0 → HBs sN L E0v j (y.1 42 j)) → TBk y (L.filterMap (te1 K V)) → CNk y n → CCp sN V K y (cds sN K L cd0) (ces K V L (0, 0, [])) (tPs sN V K L E0v) → Fv y) : KE G q (d + 13) zk_X7_readAll 0 [(0, vr 100)] [] x (rv Fv) X := by
  have k0 : (0 : Int32).toInt = 0 := rfl
  have k700 : (700 : Int32).toInt = 700 := rfl
  obtain ⟨xs, exs0⟩ : ∃ xs : gd, nn xs = 0 := ⟨si x 100 4 0, by unfold nn; (simp only [si_get, sfl_get, Nat.reduceEqDiff, eq_self, and_false, false_and, and_true, true_and, if_true, if_false, reduceIte, reduceCtorEq]); rfl⟩
  have loop : ∀ (m : Nat) (k : Int32) (y : gd), (RAi K V sN e x xs y W ∨ RAo K V sN e x xs y W) → 0 ≤ k.toInt → k.toInt ≤ nx y → 700 - nx y < m → KE G q (d + 13) zk_X7_readAll 31 [(0, vr 100), (1, vi k)] [] y (rv Fv) X := by
    intro m
    induction m with
    | zero =>
      intro k y hy k0' kn hn
      have b2 : nx y ≤ 700 := by
        rcases hy with ⟨L, u, c, m, i0, i1, n, L0, W1, e | e, -⟩ | ⟨L, n, m, e, -⟩
        · exact e.1.1.1.2.2.1
        · exact e.1.1.1.1.2.2.1
        · exact e.1.1.2.2.1
      omega
    | succ m ih =>
      intro k y hy k0' kn hn
      have hR : RB y := by
        rcases hy with ⟨L, u, c, m, i0, i1, n, L0, W1, e | e, -⟩ | ⟨L, n, m, e, -⟩
        · exact e.1.1.1
        · exact e.1.1.1.1
        · exact e.1.1
      have b1 := hR.2.1
      have b2 := hR.2.2.1
      have cy := nn_is b1
      have ek : (k + 1).toInt = k.toInt + 1 := t_add (by show _ ≤ _ + (1 : Int); omega) (by show _ + (1 : Int) ≤ _; omega)
      have next : ∀ z, (RAi K V sN e x xs z W ∨ RAo K V sN e x xs z W) → nx y < nx z → KE G q (d + 13) zk_X7_readAll 31 [(0, vr 100), (1, vi (k + 1))] [] z (rv Fv) X := fun z hz nz => ih (k + 1) z hz (by omega) (by omega) (by omega)
      have up : ∀ z : gd, nx y < nx z → nn y < nn z := fun z nz => by
        have := nn_is (x := z) (by omega)
        omega
      have inth : ¬ y.1 100 5 = 0 → RAi K V sN e x xs y W := fun c => by
        rcases hy with e | ⟨L, n, m, e, -⟩
        · exact e
        · exact absurd e.2.2.2.2.1 c
      have outh : y.1 100 5 = 0 → RAo K V sN e x xs y W := fun c => by
        rcases hy with ⟨L, u, c9, m, i0, i1, n, L0, W1, e | e, -⟩ | e
        · exact absurd c e.1.2.2.2.2.1
        · exact absurd c e.1.1.2.2.2.2.1
        · exact e
      have pin : ¬ y.1 100 5 = 0 → KE G q (d + 13) zk_X7_readAll 52 [(0, vr 100), (1, vi k)] [] y (rv Fv) X := by
        intro c
        obtain ⟨L, u, c9, m9, i0, i1, n, L0, W1, hb, o1, o17, acc, hRI, hEN, h7, eW1, hTb, hCn, hWW, hi1, hm, hcc, hce, hcr⟩ := inth c
        have i64 : y.1 23 (y.1 100 4).toNatClampNeg = 24 ↔ K (nn y) = 64 := KA_k hRI.1 hRI.2.1 24 (by decide)
        have hx1 : W1 = none → RX x X := fun no => hx (by rw [hWW, no]; rfl)
        refine kg_X7_readAll_52 hq _ ⟨fun _ => kp_sort hq hR ⟨fun c24 => ?_, fun c24 => ?_⟩, fun z => absurd z c⟩
        · have k64 : ¬ K (nn y) = 64 := fun z => c24 (i64.mpr z)
          have eWX : W1 = eX K u c9 (nn y) L := by
            rcases hb with ⟨hB, e⟩ | ⟨-, e⟩
            · have oS : (om y).toNat = ((om y).toNat - 1) + 1 := by omega
              have hSx := hEN.2.1
              rw [oS] at hSx
              obtain ⟨z9, u2, B2, eu, -, z95, -⟩ := SKs_top hSx (hB.2.2.2.2.2.2.1 (fun e => e) ((om y).toNat - 1) (by omega))
              rw [e, eu, eS_stmt z95 k64]
            · exact e
          refine kd_statement hq c9 L hx1 eWX h7 hRI.1 hRI.2.1 hEN ⟨hb.imp (fun e => e.1) (fun e => e.1), o1, o17, acc⟩ (fun z N u9 c8 hBz oz1 oz17 az hRz hENz lz z7 hWz nz hCG => next z (Or.inl ⟨L ++ N, u9, c8, m9, i0, i1, n, L0, W1, Or.inl ⟨hBz, hWz⟩, oz1, oz17, az, RI_on b1 hRI lz.1 hRz, by rw [exs_app]; exact hENz, z7, eW1, TBk_e hTb lz.2, CNk_e hCn lz.2, hWW, Nat.lt_trans hi1 (up z nz), hm, by rw [cds_app, ces_app, tPs_app, exs_app]; exact hCG _ _ _ hce hcr hcc⟩) nz)
        · have k64 := i64.mp c24
          obtain ⟨hB, eWS⟩ : BB x y (y.1 60 13).toInt E0 ∧ W1 = eS K u c9 (nn y) L := by
            rcases hb with e | ⟨⟨-, e⟩, -⟩
            · exact e
            · rw [e] at c24; exact absurd c24 (by decide)
          refine kd_closeBlock hq c9 L hx1 eWS k64 hRI.1 hRI.2.1 hEN hB o1 o17 acc (fun z N u9 hbz oz1 oz17 az hRz hENz lz z7 nz hCG => next z (Or.inl ⟨L ++ N, u9, c9, m9, i0, i1, n, L0, W1, hbz, oz1, oz17, az, RI_on b1 hRI lz.1 hRz, by rw [exs_app]; exact hENz, by rw [z7]; exact h7, eW1, TBk_e hTb lz.2, CNk_e hCn lz.2, hWW, Nat.lt_trans hi1 (up z nz), hm, by rw [cds_app, ces_app, tPs_app, exs_app]; exact hCG _ _ _ hce hcr hcc⟩) nz) (fun z N hOz hRz e1 e2 lz hWz nz hCG => next z (Or.inr ⟨L ++ N, n, m9, hOz, RI_on b1 hRI lz.1 hRz, by rw [exs_app]; exact e1, by rw [exs_app]; exact e2, ?_, CNk_e hCn lz.2, ?_, ?_, ?_⟩) nz)
          · rw [eW1] at hWz
            have := nT_te (K := K) (V := V) (pBk_nT (pS_nT 16) hWz)
            rw [this]
            exact TBk_e hTb lz.2
          · rw [hWW, hWz]; rfl
          · have := up z nz
            omega
          · rw [cds_app, ces_app, tPs_app, exs_app]
            obtain ⟨h1, h2, h3⟩ := hCG _ _ _ hce hcr hcc
            exact ⟨h1, h2, 0, h3⟩
      have pout : y.1 100 5 = 0 → ¬ y.1 23 (y.1 100 4).toNatClampNeg = 0 → KE G q (d + 13) zk_X7_readAll 52 [(0, vr 100), (1, vi k)] [] y (rv Fv) X := by
        intro c c0
        obtain ⟨L, n, m9, hO, hRI, e1, e2, hTb, hCn, hWW, hm, hcc, hce, hcr⟩ := outh c
        obtain ⟨m8, rfl⟩ : ∃ k, m9 = k + 1 := ⟨m9 - 1, by omega⟩
        have k00 : ¬ K (nn y) = 0 := fun z => c0 ((KA_k hRI.1 hRI.2.1 0 (by decide)).mpr z)
        rw [pAl, if_neg k00] at hWW
        obtain ⟨W1, eW1⟩ : ∃ W1, W1 = pD K V n (nn y) L := ⟨_, rfl⟩
        rw [← eW1] at hWW
        have hx1 : W1 = none → RX x X := fun no => hx (by rw [hWW, no]; rfl)
        refine kg_X7_readAll_52 hq _ ⟨fun z => absurd c z, fun _ => kh_definition (Ev := exs L E0v) hq L hx1 eW1 hRI.1 hRI.2.1 hTb hCn e1 e2 hO (fun z N n' hOz nz hRz hN hWz hTz hCz lz hCG => next z (Or.inr ⟨L ++ N, n', m8, hOz, RI_on b1 hRI lz hRz, by rw [exs_app, exs_still hN]; exact e1, by rw [exs_app, exs_still hN]; exact e2, by rw [List.filterMap_append]; exact hTz, hCz, by rw [hWW, hWz]; rfl, ?_, by rw [cds_app, ces_app, tPs_app, exs_app]; exact hCG _ _ _ hce hcr hcc⟩) nz) (fun z hBz o1 o17 az nz hTH => next z (Or.inl ?_) nz)⟩
        · have := up z nz
          omega
        · obtain ⟨N, W2, i0, t, b, hRz, hENz, z7, hWz, eW2, hWS, hTz, hCz, lz, hCG⟩ := hTH
          refine ⟨L ++ N, [0], 0, m8, i0, nn y, _, L ++ [(34, t, b)], W2, Or.inl ⟨hBz, hWS⟩, o1, o17, az, RI_on b1 hRI lz hRz, by rw [exs_app]; exact hENz, z7, eW2, by rw [List.filterMap_append]; exact hTz, hCz, ?_, up z nz, hm, by rw [cds_app, ces_app, tPs_app, exs_app]; exact hCG _ _ _ hce hcr hcc⟩
          rw [hWW, hWz, Option.bind_assoc]
          rfl
      refine kg_X7_readAll_31 hq _ ⟨fun c => ?_, fun _ => ⟨fun c => pin c, fun c => kp_sort hq hR ⟨fun c0 => rv_i ?_, fun c0 => pout c c0⟩⟩⟩
      · exfalso; rw [t_lt, k700] at c; omega
      · obtain ⟨L, n, m9, hO, hRI, e1, e2, hTb, hCn, hWW, hm, hcc, hce, hcr⟩ := outh c
        obtain ⟨m8, rfl⟩ : ∃ k, m9 = k + 1 := ⟨m9 - 1, by omega⟩
        have k00 : K (nn y) = 0 := (KA_k hRI.1 hRI.2.1 0 (by decide)).mp c0
        rw [pAl, if_pos k00] at hWW
        exact h y n L hO hWW k00 hRI.1 hRI.2.1 hRI.2.2.1 (fun j hj hu => hRI.2.2.2 j (by omega) hj hu) hTb hCn hcc
  refine kg_X7_readAll_0 hq (kp_names_clear hq (fun x1 f1 n6 n8 n10 nu => kp_code_clear hq (fun x2 f2 c80 c3 c6 c9 c10 c13 c14 c16 x3 e3 x4 e4 z ez => ?_)))
  have f : fm (fun c k => c = 40 ∨ c = 42 ∨ c = 43 ∨ c = 60 ∨ (c = 80 ∧ k = 9) ∨ (c = 100 ∧ (k = 4 ∨ k = 5 ∨ k = 6))) x z := by
    rw [ez, e4, e3]
    exact fm_si (fm_si (fm_si (fm_tr (fm_w f1 (fun c k q => by omega)) (fm_w f2 (fun c k q => by omega))) (by omega)) (by omega)) (by omega)
  have g2 : ∀ c k, c ≠ 100 → z.1 c k = x2.1 c k := fun c k hc => by rw [ez, e4, e3, si_cell hc, si_cell hc, si_cell hc]
  have z4 : z.1 100 4 = 0 := by rw [ez, e4, e3]; (simp only [si_get, sfl_get, Nat.reduceEqDiff, eq_self, and_false, false_and, and_true, true_and, if_true, if_false, reduceIte, reduceCtorEq])
  have z5 : z.1 100 5 = 0 := by rw [ez]; (simp only [si_get, sfl_get, Nat.reduceEqDiff, eq_self, and_false, false_and, and_true, true_and, if_true, if_false, reduceIte, reduceCtorEq])
  have nz : nx z = 0 := by unfold nx; rw [z4]; rfl
  have sz : ssm z = 0 := by unfold ssm; rw [g2 80 9 (by decide), c80]; rfl
  have z42 : ∀ j, j < 702 → z.1 42 j = 0 := fun j hj => by rw [g2 42 j (by decide), f2 42 j (by omega)]; exact nu j hj
  have z6 : ∀ k, z.1 60 k = x2.1 60 k := fun k => g2 60 k (by decide)
  have z40 : ∀ k, z.1 40 k = x1.1 40 k := fun k => by rw [g2 40 k (by decide), f2 40 k (by omega)]
  have hTz : kT z := kT_fm hT (fun c k q1 q2 => f c k (by omega))
  have mz : 0 ≤ mt z := by obtain ⟨-, n, en, -⟩ := hTz; unfold mt; omega
  have hRz : RIw K V sN e E0v xs z [] := ⟨KA_fm hA (fun c k q1 q2 => f c k (by omega)), by unfold nn; rw [z4]; exact Nat.zero_le _, UR_0 (by rw [exs0]; unfold nn; rw [z4]; rfl)⟩
  have nnz : nn z = 0 := by unfold nn; rw [z4]; rfl
  refine loop 701 _ z (Or.inr ⟨[], (0, 0, 0, 0, 0), 701, ⟨⟨⟨hTz, by omega, by omega, by omega⟩, ⟨fun j _ h2 => z42 j h2, fun j h1 _ => by omega⟩, ?_, fun i hi => ?_⟩, ?_, ⟨fun c => absurd z5 c, ?_, ?_, ⟨by omega, fun i hi => by omega⟩, ?_⟩, fun i hi => by omega, z5, fm_w f (fun c k q => by unfold sR; omega), by omega⟩, hRz, rfl, rfl, ?_, ?_, by rw [nnz]; exact eW, by omega, ?_, ⟨rfl, rfl⟩, 0, rfl⟩) (by decide) (by rw [k0]; omega) (by omega)
  · rw [z6, c3]; decide
  · rw [z6, c3, k0] at hi; omega
  · unfold FR; rw [z4]; exact z42 _ (by decide)
  · unfold NM
    rw [z40, z40, z40, n6, n8, n10, k0]
    exact ⟨by omega, by omega, by omega, fun i hi => by omega, fun i hi => by omega, fun i hi => by omega⟩
  · unfold CD
    rw [z6, z6, z6, z6, z6, z6, z40, z40, c6, c9, c10, c14, c16, c13, n8, n10, k0]
    exact ⟨by omega, rfl, rfl, by omega, by omega, by omega, fun c => absurd z5 c⟩
  · unfold TS
    rw [z6, c10, k0]
    exact ⟨fun t ht => by omega, fun _ => Or.inl sz⟩
  · have z46 : z.1 40 6 = 0 := by rw [z40, n6]
    have z48 : z.1 40 8 = 0 := by rw [z40, n8]
    have z410 : z.1 40 10 = 0 := by rw [z40, n10]
    have z66 : z.1 60 6 = 0 := by rw [z6, c6]
    unfold TBk
    rw [z46, z48, z410, z66]
    exact ⟨⟨rfl, ⟨Int.le_refl _, rfl⟩, fun i q hq => by simp [tdS] at hq⟩, ⟨rfl, fun i q hq => by simp [tdS] at hq⟩, rfl, fun i q hq => by simp [tdS] at hq⟩
  · unfold CNk
    rw [z6, z6, z6, z6, z6, c6, c9, c10, c14, c16]
    exact ⟨rfl, rfl, rfl, rfl, rfl⟩
  · have cc : CCp sN V K z cd0 (0, 0, []) [] := by
      refine ⟨⟨by rw [z6, c3]; rfl, fun i q _ hq => by simp at hq⟩, ⟨by show ssm z = _; rw [sz]; rfl, fun j st hj => by simp at hj⟩, ⟨fun q => absurd z5 q, fun _ => rfl⟩, ⟨by rw [z6, c10]; rfl, fun t q hq => by simp at hq⟩, ⟨by rw [z6, c6]; rfl, fun j q hq => by simp at hq⟩, ⟨by rw [z6, c14]; rfl, fun k N hN => by simp [clF] at hN⟩, ⟨by rw [z6, c16]; rfl, fun k N hN => by simp [clF] at hN⟩⟩
    exact cc
end KDK
