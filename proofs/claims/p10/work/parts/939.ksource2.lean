/-! the class: what stands behind = , the whole -/
section KSO4
variable {G : kG} {q : kP} {d : Nat} {x x0 y z xs : gd} {F : Int32 → gd → Prop} {Fv : gd → Prop} {X : String → gd → Prop} {P : Option gv → gd → Prop} {M : Int} {E : Nat → Prop} {K V : Nat → Int32} {sN : Nat → Nat → Bool} {e : Nat} {Ev : gV} {L : gU} {f : Nat} {t : Option Nat} {W : gOp}
theorem sOp_16 {a : Int32} : sOp 16 a = if a = -1 then 1 else 16 := by
  unfold sOp
  by_cases c : a = -1
  · rw [if_pos ⟨rfl, c⟩, if_pos c]
  · rw [if_neg (fun q => c q.2), if_neg c]
theorem kd_srcS (hq : kV q) (hx : W = none → RX x0 X) (eW : W = pR K f t (nn x) L) (hB : BB x0 x M E0) (hf : (f : Int) + om x = 16) (ha : 2 * ssm x ≤ nx x + 1) (l a b : Int32) (hl : (a = -1 ∧ PLc x b) ∨ (¬ a = -1 ∧ 0 ≤ a.toInt ∧ a.toInt < M)) (hEv : ¬ Ev.2.1 = []) (hTc : TGc sN Ev t a b) (hT : TGT sN Ev x t a) (hA : KA K V sN e x) (hn : nn x ≤ e) (hE : KV' K e x Ev) (h : ∀ y, BB x0 y M E0 → nx x < nx y → om y = om x → ssm y = ssm x + 1 → (y.1 100 9 = x.1 100 9 ∧ y.1 100 7 = x.1 100 7 ∧ y.1 60 13 = x.1 60 13 ∧ (∀ k, y.1 20 k = x.1 20 k) ∧ OPe x y) → La x y → SFin K V sN e Ev x t L W y → Fv y) (D : Int32) (eD : D.toInt = om x + 1) (i2 e2 : Int32) (hi2 : i2 = -1) (he2 : e2 = -1) (hS : ¬ (K (nn x) = 35 ∨ K (nn x) = 10 ∨ K (nn x) = 16)) (hS2 : K (nn x) = 1 → nn x < 700 → ¬ K (nn x + 1) = 65 ∧ (K (nn x + 1) = 67 → ¬ kfi sN Ev.1 (nn x) = none)) : KE G q (d + 10) zk_X7_source 68 [(0, vr 100), (1, vi l), (2, vi a), (4, vi D), (5, vi (16 : Int32)), (6, vi b), (7, vi i2), (8, vi e2)] [] x (rv Fv) X := by
  have b0 := hB.1.1.2.1
  have he2' := he2
  have p174 := kd_src174 (d := d) (G := G) hq hx hB hf ha l a b hl hEv hTc h D eD
  refine kg_X7_source_68 hq _ _ _ _ _ _ _ ⟨fun _ => p174 x 16 b i2 e2 (Or.inr ⟨by decide, hA, hn, hE, ?_⟩) GS_rf hB (fun q => absurd q (by decide)) (by decide) (fun q => absurd rfl q) (fun _ => rfl) (Or.inr (Or.inl rfl)), fun q => absurd rfl q⟩
  by_cases c : K (nn x) = 1 ∧ nn x < 700 ∧ K (nn x + 1) = 67
  · obtain ⟨c1, c7, c67⟩ := c
    have hk := (hS2 c1 c7).2 c67
    have hW : W = if nn x < 700 ∧ 1 ≤ f then some (nn x + 1, L ++ [pal t (nn x)]) else none := by
      rw [eW]; unfold pR
      rw [if_neg hS, if_neg (fun z => (hS2 c1 c7).1 z.2.2), if_pos ⟨c1, c67⟩]
    refine ⟨L, fun q9 => ?_, fun w N2 r gw hRw hN2 hEw hpX hcp hrr => ?_⟩
    · cases f with
      | zero => rw [hW, if_neg (fun z => absurd z.2 (by decide))]
      | succ f => rw [pX_name c1 c67 c7] at q9; exact absurd q9 (by simp)
    · cases f with
      | zero => exact absurd hpX (by rw [pX_f0]; simp)
      | succ f =>
        rw [pX_name c1 c67 c7] at hpX
        have e1 := Option.some.inj hpX
        have e2 : nn x + 1 = nn w := congrArg Prod.fst e1
        have e3 : L ++ [(3, nn x, 0)] ++ [(54, 0, 0)] = L ++ N2 := congrArg Prod.snd e1
        rw [List.append_assoc] at e3
        have e4 : N2 = [(3, nn x, 0)] ++ [(54, 0, 0)] := (List.append_cancel_left e3).symm
        have u0 : w.1 42 (nn x) = 0 := by
          by_cases c0 : w.1 42 (nn x) = 0
          · exact c0
          · exfalso
            have g := hRw.2.2.2 (nn x) (Nat.le_refl _) (by omega) c0
            rw [e4] at g
            rcases HBs_app.mp g with g | g
            · have g := HBs_one.mp g
              unfold HB at g
              simp at g
              exact hk g.2
            · have g := HBs_one.mp g
              unfold HB at g
              simp at g
        refine Or.inl ⟨by decide, hEw, [pal t (nn x)], ⟨hRw.1, hRw.2.1, TGT_al hT b0 gw.1 e2.symm u0 (Or.inr ⟨hk, rfl⟩)⟩, pal_still, pal_6, ?_, fun z9 hz9 => ?_⟩
        · rw [hW, if_pos ⟨c7, by omega⟩, e2]
        · rw [sOp_16, hi2, he2'] at hz9
          rw [e4] at hcp
          exact PD_als (PD_x (PD_0 (fun c k _ => rfl) (Or.inr rfl)) (sEv_one (Or.inr (Or.inr (Or.inr (Or.inr (Or.inl ⟨rfl, rfl⟩)))))) hcp (GS_su gw) hrr) hEv hEw hTc hk hz9
  · have hW : W = (pX K false f (nn x) (L ++ pma t)).bind (pan (76, nn x, 0)) := by
      by_cases c7 : nn x < 700
      · rw [eW]; unfold pR
        rw [if_neg hS, if_neg (fun z => (hS2 z.1 c7).1 z.2.2), if_neg (fun z => c ⟨z.1, c7, z.2⟩)]
      · rw [eW, pR_7 (by omega), pX_7 (by omega)]; rfl
    refine ⟨L ++ pma t, fun q9 => by rw [hW, q9]; rfl, fun w N2 r gw hRw hN2 hEw hpX hcp hrr => ?_⟩
    obtain ⟨N20, -, hPw⟩ := PD_xp (PD_0 (x := x) (y := x) (t := t) (fun c k _ => rfl) (Or.inr rfl)) hpX hcp gw hrr
    have hu : UR sN Ev x w (pma t ++ N2) := ⟨HAs_app.mpr ⟨TGT_ma hT b0 gw.1, by rw [exs_still pma_still]; exact hRw.2.2.1⟩, fun j h1 h2 h3 => HBs_app.mpr (Or.inr (by rw [exs_still pma_still]; exact hRw.2.2.2 j h1 h2 h3))⟩
    refine Or.inl ⟨by decide, hEw, pma t ++ N2 ++ [(76, nn x, 0)], ⟨hRw.1, hRw.2.1, UR_dull hu (dull_k (by decide))⟩, still_app (still_app pma_still hN2) (stl_k (by decide)), fun t0 e1 e2 => HBs_app.mpr (Or.inl (pma_6 t0 e1 e2)), ?_, fun z9 hz9 => PD_76 hPw hEv hEw hTc (by
      rw [sOp_16, hi2, he2] at hz9
      exact hz9)⟩
    rw [hW, hpX]
    show some (nn w, L ++ pma t ++ N2 ++ [(76, nn x, 0)]) = _
    rw [List.append_assoc L, List.append_assoc L]
theorem kd_srcX (hq : kV q) (hx : W = none → RX x0 X) (eW : W = pR K f t (nn x) L) (hB : BB x0 x M E0) (hf : (f : Int) + om x = 16) (ha : 2 * ssm x ≤ nx x + 1) (l a b : Int32) (hl : (a = -1 ∧ PLc x b) ∨ (¬ a = -1 ∧ 0 ≤ a.toInt ∧ a.toInt < M)) (hEv : ¬ Ev.2.1 = []) (hTc : TGc sN Ev t a b) (hT : TGT sN Ev x t a) (hA : KA K V sN e x) (hn : nn x ≤ e) (hE : KV' K e x Ev) (h : ∀ y, BB x0 y M E0 → nx x < nx y → om y = om x → ssm y = ssm x + 1 → (y.1 100 9 = x.1 100 9 ∧ y.1 100 7 = x.1 100 7 ∧ y.1 60 13 = x.1 60 13 ∧ (∀ k, y.1 20 k = x.1 20 k) ∧ OPe x y) → La x y → SFin K V sN e Ev x t L W y → Fv y) (D : Int32) (eD : D.toInt = om x + 1) (o i2 e2 : Int32) (hi2 : i2 = -1) (he2 : e2 = -1) (hcy : ∀ c k, ccS c k → y.1 c k = x.1 c k) (ho : (o = 2 ∧ K (nn x) = 35) ∨ (o = 3 ∧ K (nn x) = 10) ∨ (o = 4 ∧ K (nn x) = 16)) (gy : GS x y) (hBy : BB x0 y M E0) (hRy : RIw K V sN e Ev x y (pme t)) (eny : nn y = nn x + 1) (c7 : nn x < 700) (hbu : ¬ a = -1 ∨ BU y) : KE G q (d + 10) zk_X7_source 68 [(0, vr 100), (1, vi l), (2, vi a), (4, vi D), (5, vi o), (6, vi b), (7, vi i2), (8, vi e2)] [] y (rv Fv) X := by
  have o1 := (BB_om hB).1
  have by0 := hBy.1.1.2.1
  have bx0 := hB.1.1.2.1
  have cy := nn_is by0
  have cx := nn_is bx0
  have p163 := kd_src163 (d := d) (G := G) hq hx hB hf ha l a b hl hEv hTc h D eD
  have eF : 17 - D.toNatClampNeg = f := by
    have u := t_cl D
    omega
  have hex : K (nn x) = 35 ∨ K (nn x) = 10 ∨ K (nn x) = 16 := ho.imp (fun z => z.2) (fun z => z.imp (fun z => z.2) (fun z => z.2))
  have n0 : ¬ o = 0 ∧ ¬ o = 16 := by rcases ho with ⟨e, -⟩ | ⟨e, -⟩ | ⟨e, -⟩ <;> rw [e] <;> decide
  have o5 : o = 0 ∨ o = 2 ∨ o = 3 ∨ o = 4 ∨ o = 16 := Or.inr (by rcases ho with ⟨e, -⟩ | ⟨e, -⟩ | ⟨e, -⟩ <;> rw [e] <;> decide)
  have hop : o = Int32.ofNat (opX (K (nn x))) := by rcases ho with ⟨e, k⟩ | ⟨e, k⟩ | ⟨e, k⟩ <;> rw [e, k] <;> rfl
  have h16 : o = 4 ↔ K (nn x) = 16 := by rcases ho with ⟨e, k⟩ | ⟨e, k⟩ | ⟨e, k⟩ <;> rw [e, k] <;> decide
  have hWp : W = (pP K f (nn y) (L ++ pme t)).bind (fun q => ((pt K 68 q).bind (pXq K f)).bind (fun q => (if K (nn x) = 16 then (pt K 68 q).bind (pXq K f) else some q).bind (pan (74, nn x, 0)))) := by
    rw [eW, eny]; unfold pR
    rw [if_pos hex, if_pos c7, Option.bind_assoc, Option.bind_assoc]
    congr 1
    funext r
    rw [Option.bind_assoc]
  have p132 : ∀ s9 : Int32, (¬ s9 = 0 ↔ y.1 23 ((y.1 100 4).toNatClampNeg + 1) = 25) → KE G q (d + 10) zk_X7_source 132 [(0, vr 100), (1, vi l), (2, vi a), (4, vi D), (5, vi o), (7, vi i2), (8, vi e2), (9, vi s9)] [vi 0, vi s9, vi 2, vr 100] y (rv Fv) X := by
    intro s9 h25
    have go : ∀ u : Int32, ((s9 = 0 ∧ u = 6) ∨ (¬ s9 = 0 ∧ u = 7)) → KE G q (d + 9) zk_X7_needFor 0 [(0, vr 100), (1, vi 2), (2, vi u)] [] y (ri (fun r4 x3 => ((s9 = (0 : Int32) → KE G q (d + 10) zk_X7_source 163 [(0, vr 100), (1, vi l), (2, vi a), (4, vi D), (5, vi o), (6, vi r4), (7, vi i2), (8, vi e2)] [] x3 (rv Fv) X) ∧ (¬ (s9 = (0 : Int32)) → KE G q (d + 9) zk_X7_pass 0 [(0, vr 100)] [] x3 (rv (fun x6 => KE G q (d + 9) zk_X7_sum 0 [(0, vr 100), (1, vi D)] [] x6 (ri (fun r8 x7 => KE G q (d + 9) zk_X7_need 0 [(0, vr 100), (1, vi 26)] [] x7 (rv (fun x9 => KE G q (d + 10) zk_X7_source 163 [(0, vr 100), (1, vi l), (2, vi a), (4, vi D), (5, vi o), (6, vi r4), (7, vi r8), (8, vi e2)] [] x9 (rv Fv) X)) X)) X)) X)))) X := by
      intro u hu
      have hu2 : u = 6 ∨ u = 7 := hu.imp (fun z => z.2) (fun z => z.2)
      refine kd_place (x := x) hq hx hWp hBy hRy.1 hRy.2.1 (KV_GS gy hE) D eF (by omega) (by omega) u s9 i2 (by rcases hu2 with e | e <;> rw [e] <;> decide) h25 pme_still hEv hi2 (PD_0 hcy (Or.inl rfl)) cy.symm (fun c z lz en hAz hnz eu => ?_) (fun c z lz en hAz hnz eu => ?_) (fun r4 i9 w => KE G q (d + 10) zk_X7_source 163 [(0, vr 100), (1, vi l), (2, vi a), (4, vi D), (5, vi o), (6, vi r4), (7, vi i9), (8, vi e2)] [] w (rv Fv) X) (fun i9 w N3 hBw gw nw uw hRw hNw hEw hWw hPw => ?_)
      · have e6 : u = 6 := by
          rcases hu with ⟨-, e⟩ | ⟨e, -⟩
          · exact e
          · exact absurd c e
        rw [e6] at eu
        exact RI_use hRy by0 lz hAz hnz en (HAs_one.mpr (HA_6.mpr ⟨by omega, eu⟩)) (fun _ => HBs_one.mpr (by rw [eu]; exact HB_6))
      · have e7 : u = 7 := by
          rcases hu with ⟨e, -⟩ | ⟨-, e⟩
          · exact absurd e c
          · exact e
        rw [e7] at eu
        exact RI_use hRy by0 lz hAz hnz en (HAs_one.mpr (HA_7.mpr ⟨by omega, Or.inl eu⟩)) (fun _ => HBs_one.mpr (by rw [eu]; exact HB_7))
      · refine p163 w o _ i9 e2 (Or.inr ⟨n0.1, h16, hEw, pme t ++ N3, hRw, hNw, pme_6, hWw, hop, he2, hPw⟩) (GS_tr gy gw) hBw (by omega) n0.2 o5 ⟨nn y, by rw [cy], by omega, ?_⟩ (hbu.imp id (fun z => Or.inr (La_BU gw.1 z)))
        rw [uw]
        exact hu2.imp id Or.inl
    exact kg_X7_source_132 hq _ _ _ _ _ _ _ _ _ _ (kg_X7_useOfCell_0 hq _ _ ⟨fun c => ⟨fun _ => ri_i (go _ (Or.inl ⟨c, rfl⟩)), fun z => absurd rfl z⟩, fun c => ⟨fun _ => ri_i (go _ (Or.inr ⟨c, rfl⟩)), fun z => absurd rfl z⟩⟩)
  have p89 : ∀ s9 : Int32, (¬ s9 = 0 ↔ y.1 23 ((y.1 100 4).toNatClampNeg + 1) = 25) → KE G q (d + 10) zk_X7_source 89 [(0, vr 100), (1, vi l), (2, vi a), (4, vi D), (5, vi o), (7, vi i2), (8, vi e2)] [vi s9] y (rv Fv) X := fun s9 h25 => kg_X7_source_89 hq _ _ _ _ _ _ _ ⟨fun _ => kg_X7_source_113 hq _ _ _ _ _ _ _ ⟨fun _ => p132 s9 h25, fun z => absurd z n0.1⟩, fun z => absurd z n0.1⟩
  exact kg_X7_source_68 hq _ _ _ _ _ _ _ ⟨fun z => absurd z n0.2, fun _ => kp_sortBehind hq hBy.1.1 ⟨fun c => p89 0 ⟨fun z => absurd rfl z, fun z => absurd z c⟩, fun c => p89 1 ⟨fun _ => c, fun _ => by decide⟩⟩⟩
end KSO4
