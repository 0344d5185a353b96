section
/-! the class: what stands behind = , the whole -/
section KSO4
variable {G : kG} {q : kP} {d : Nat} {x x0 y z xs : gd} {F : Int32 → gd → Prop} {Fv : gd → Prop} {X : String → gd → Prop} {P : Option gv → gd → Prop} {M : Int} {E : Nat → Prop} {K V : Nat → Int32} {sN : Nat → Nat → Bool} {e : Nat} {Ev : gV} {L : gU} {f : Nat} {t : Option Nat} {W : gOp}
theorem sOp_16 {a : Int32} : sOp 16 a = if a = -1 then 1 else 16 := by
  unfold sOp
  by_cases c : a = -1
  · rw [if_pos ⟨rfl, c⟩, if_pos c]
  · rw [if_neg (fun q => c q.2), if_neg c]
theorem kd_srcS (hq : kV q) (hx : W = none → RX x0 X) (eW : W = pR K f t (nn x) L) (hB : BB x0 x M E0) (hf : (f : Int) + om x = 16) (ha : 2 * ssm x ≤ nx x + 1) (l a b : Int32) (hl : (a = -1 ∧ PLc x b) ∨ (¬ a = -1 ∧ 0 ≤ a.toInt ∧ a.toInt < M)) (hEv : ¬ Ev.2.1 = []) (hTc : TGc sN Ev t a b) (hT : TGT sN Ev x t a) (hA : KA K V sN e x) (hn : nn x ≤ e) (hE : KV' K e x Ev) (h : ∀ y, BB x0 y M E0 → nx x < nx y → om y = om x → ssm y = ssm x + 1 → (y.1 100 9 = x.1 100 9 ∧ y.1 100 7 = x.1 100 7 ∧ y.1 60 13 = x.1 60 13 ∧ (∀ k, y.1 20 k = x.1 20 k) ∧ OPe x y) → La x y → SFin K V sN e Ev x t L W y → Fv y) (D : Int32) (eD : D.toInt = om x + 1) (i2 e2 : Int32) (hi2 : i2 = -1) (he2 : e2 = -1) (hS : ¬ (K (nn x) = 35 ∨ K (nn x) = 10 ∨ K (nn x) = 16)) (hS2 : K (nn x) = 1 → nn x < 700 → ¬ K (nn x + 1) = 65 ∧ (K (nn x + 1) = 67 → ¬ kfi sN Ev.1 (nn x) = none)) : KE G q (d + 10) zk_X7_source 68 [(0, vr 100), (1, vi l), (2, vi a), (4, vi D), (5, vi (16 : Int32)), (6, vi b), (7, vi i2), (8, vi e2)] [] x (rv Fv) X := by
  have b0 := hB.1.1.2.1
  have he2' := he2
  have p174 := kd_src174 (d := d) (G := G) hq hx hB hf ha l a b hl hEv hTc h D eD
  refine kg_X7_source_68 hq _ _ _ _ _ _ _ ⟨fun _ => p174 x 16 b i2 e2 (Or.inr ⟨by decide, hA, hn, hE, ?_⟩) GS_rf hB (fun q => absurd q (by decide)) (by decide) (fun q => absurd rfl q) (fun _ => rfl) (Or.inr (Or.inl rfl)), fun q => absurd rfl q⟩
  by_cases c : K (nn x) = 1 ∧ nn x < 700 ∧ K (nn x + 1) = 67
  · obtain ⟨c1, c7, c67⟩ := c
    have hk := (hS2 c1 c7).2 c67
    have hW : W = if nn x < 700 ∧ 1 ≤ f then some (nn x + 1, L ++ [pal t (nn x)]) else none := by
      rw [eW]; unfold pR
      rw [if_neg hS, if_neg (fun z => (hS2 c1 c7).1 z.2.2), if_pos ⟨c1, c67⟩]
    refine ⟨L, fun q9 => ?_, fun w N2 r gw hRw hN2 hEw hpX hcp hrr => ?_⟩
    · cases f with
      | zero => rw [hW, if_neg (fun z => absurd z.2 (by decide))]
      | succ f => rw [pX_name c1 c67 c7] at q9; exact absurd q9 (by simp)
    · cases f with
      | zero => exact absurd hpX (by rw [pX_f0]; simp)
      | succ f =>
        rw [pX_name c1 c67 c7] at hpX
        have e1 := Option.some.inj hpX
        have e2 : nn x + 1 = nn w := congrArg Prod.fst e1
        have e3 : L ++ [(3, nn x, 0)] ++ [(54, 0, 0)] = L ++ N2 := congrArg Prod.snd e1
        rw [List.append_assoc] at e3
        have e4 : N2 = [(3, nn x, 0)] ++ [(54, 0, 0)] := (List.append_cancel_left e3).symm
        have u0 : w.1 42 (nn x) = 0 := by
          by_cases c0 : w.1 42 (nn x) = 0
          · exact c0
          · exfalso
            have g := hRw.2.2.2 (nn x) (Nat.le_refl _) (by omega) c0
            rw [e4] at g
            rcases HBs_app.mp g with g | g
            · have g := HBs_one.mp g
              unfold HB at g
              simp at g
              exact hk g.2
            · have g := HBs_one.mp g
              unfold HB at g
              simp at g
        refine Or.inl ⟨by decide, hEw, [pal t (nn x)], ⟨hRw.1, hRw.2.1, TGT_al hT b0 gw.1 e2.symm u0 (Or.inr ⟨hk, rfl⟩)⟩, pal_still, pal_6, ?_, fun z9 hz9 => ?_⟩
        · rw [hW, if_pos ⟨c7, by omega⟩, e2]
        · rw [sOp_16, hi2, he2'] at hz9
          rw [e4] at hcp
          exact PD_als (PD_x (PD_0 (fun c k _ => rfl) (Or.inr rfl)) (sEv_one (Or.inr (Or.inr (Or.inr (Or.inr (Or.inl ⟨rfl, rfl⟩)))))) hcp (GS_su gw) hrr) hEv hEw hTc hk hz9
  · have hW : W = (pX K false f (nn x) (L ++ pma t)).bind (pan (76, nn x, 0)) := by
      by_cases c7 : nn x < 700
      · rw [eW]; unfold pR
        rw [if_neg hS, if_neg (fun z => (hS2 z.1 c7).1 z.2.2), if_neg (fun z => c ⟨z.1, c7, z.2⟩)]
      · rw [eW, pR_7 (by omega), pX_7 (by omega)]; rfl
    refine ⟨L ++ pma t, fun q9 => by rw [hW, q9]; rfl, fun w N2 r gw hRw hN2 hEw hpX hcp hrr => ?_⟩
    obtain ⟨N20, -, hPw⟩ := PD_xp (PD_0 (x := x) (y := x) (t := t) (fun c k _ => rfl) (Or.inr rfl)) hpX hcp gw hrr
    have hu : UR sN Ev x w (pma t ++ N2) := ⟨HAs_app.mpr ⟨TGT_ma hT b0 gw.1, by rw [exs_still pma_still]; exact hRw.2.2.1⟩, fun j h1 h2 h3 => HBs_app.mpr (Or.inr (by rw [exs_still pma_still]; exact hRw.2.2.2 j h1 h2 h3))⟩
    refine Or.inl ⟨by decide, hEw, pma t ++ N2 ++ [(76, nn x, 0)], ⟨hRw.1, hRw.2.1, UR_dull hu (dull_k (by decide))⟩, still_app (still_app pma_still hN2) (stl_k (by decide)), fun t0 e1 e2 => HBs_app.mpr (Or.inl (pma_6 t0 e1 e2)), ?_, fun z9 hz9 => PD_76 hPw hEv hEw hTc (by
      rw [sOp_16, hi2, he2] at hz9
      exact hz9)⟩
    rw [hW, hpX]
    show some (nn w, L ++ pma t ++ N2 ++ [(76, nn x, 0)]) = _
    rw [List.append_assoc L, List.append_assoc L]
theorem kd_srcX (hq : kV q) (hx : W = none → RX x0 X) (eW : W = pR K f t (nn x) L) (hB : BB x0 x M E0) (hf : (f : Int) + om x = 16) (ha : 2 * ssm x ≤ nx x + 1) (l a b : Int32) (hl : (a = -1 ∧ PLc x b) ∨ (¬ a = -1 ∧ 0 ≤ a.toInt ∧ a.toInt < M)) (hEv : ¬ Ev.2.1 = []) (hTc : TGc sN Ev t a b) (hT : TGT sN Ev x t a) (hA : KA K V sN e x) (hn : nn x ≤ e) (hE : KV' K e x Ev) (h : ∀ y, BB x0 y M E0 → nx x < nx y → om y = om x → ssm y = ssm x + 1 → (y.1 100 9 = x.1 100 9 ∧ y.1 100 7 = x.1 100 7 ∧ y.1 60 13 = x.1 60 13 ∧ (∀ k, y.1 20 k = x.1 20 k) ∧ OPe x y) → La x y → SFin K V sN e Ev x t L W y → Fv y) (D : Int32) (eD : D.toInt = om x + 1) (o i2 e2 : Int32) (hi2 : i2 = -1) (he2 : e2 = -1) (hcy : ∀ c k, ccS c k → y.1 c k = x.1 c k) (ho : (o = 2 ∧ K (nn x) = 35) ∨ (o = 3 ∧ K (nn x) = 10) ∨ (o = 4 ∧ K (nn x) = 16)) (gy : GS x y) (hBy : BB x0 y M E0) (hRy : RIw K V sN e Ev x y (pme t)) (eny : nn y = nn x + 1) (c7 : nn x < 700) (hbu : ¬ a = -1 ∨ BU y) : KE G q (d + 10) zk_X7_source 68 [(0, vr 100), (1, vi l), (2, vi a), (4, vi D), (5, vi o), (6, vi b), (7, vi i2), (8, vi e2)] [] y (rv Fv) X := by
  have o1 := (BB_om hB).1
  have by0 := hBy.1.1.2.1
  have bx0 := hB.1.1.2.1
  have cy := nn_is by0
  have cx := nn_is bx0
  have p163 := kd_src163 (d := d) (G := G) hq hx hB hf ha l a b hl hEv hTc h D eD
  have eF : 17 - D.toNatClampNeg = f := by
    have u := t_cl D
    omega
  have hex : K (nn x) = 35 ∨ K (nn x) = 10 ∨ K (nn x) = 16 := ho.imp (fun z => z.2) (fun z => z.imp (fun z => z.2) (fun z => z.2))
  have n0 : ¬ o = 0 ∧ ¬ o = 16 := by rcases ho with ⟨e, -⟩ | ⟨e, -⟩ | ⟨e, -⟩ <;> rw [e] <;> decide
  have o5 : o = 0 ∨ o = 2 ∨ o = 3 ∨ o = 4 ∨ o = 16 := Or.inr (by rcases ho with ⟨e, -⟩ | ⟨e, -⟩ | ⟨e, -⟩ <;> rw [e] <;> decide)
  have hop : o = Int32.ofNat (opX (K (nn x))) := by rcases ho with ⟨e, k⟩ | ⟨e, k⟩ | ⟨e, k⟩ <;> rw [e, k] <;> rfl
  have h16 : o = 4 ↔ K (nn x) = 16 := by rcases ho with ⟨e, k⟩ | ⟨e, k⟩ | ⟨e, k⟩ <;> rw [e, k] <;> decide
  have hWp : W = (pP K f (nn y) (L ++ pme t)).bind (fun q => ((pt K 68 q).bind (pXq K f)).bind (fun q => (if K (nn x) = 16 then (pt K 68 q).bind (pXq K f) else some q).bind (pan (74, nn x, 0)))) := by
    rw [eW, eny]; unfold pR
    rw [if_pos hex, if_pos c7, Option.bind_assoc, Option.bind_assoc]
    congr 1
    funext r
    rw [Option.bind_assoc]
  have p132 : ∀ s9 : Int32, (¬ s9 = 0 ↔ y.1 23 ((y.1 100 4).toNatClampNeg + 1) = 25) → KE G q (d + 10) zk_X7_source 132 [(0, vr 100), (1, vi l), (2, vi a), (4, vi D), (5, vi o), (7, vi i2), (8, vi e2), (9, vi s9)] [vi 0, vi s9, vi 2, vr 100] y (rv Fv) X := by
    intro s9 h25
    have go : ∀ u : Int32, ((s9 = 0 ∧ u = 6) ∨ (¬ s9 = 0 ∧ u = 7)) → KE G q (d + 9) zk_X7_needFor 0 [(0, vr 100), (1, vi 2), (2, vi u)] [] y (ri (fun r4 x3 => ((s9 = (0 : Int32) → KE G q (d + 10) zk_X7_source 163 [(0, vr 100), (1, vi l), (2, vi a), (4, vi D), (5, vi o), (6, vi r4), (7, vi i2), (8, vi e2)] [] x3 (rv Fv) X) ∧ (¬ (s9 = (0 : Int32)) → KE G q (d + 9) zk_X7_pass 0 [(0, vr 100)] [] x3 (rv (fun x6 => KE G q (d + 9) zk_X7_sum 0 [(0, vr 100), (1, vi D)] [] x6 (ri (fun r8 x7 => KE G q (d + 9) zk_X7_need 0 [(0, vr 100), (1, vi 26)] [] x7 (rv (fun x9 => KE G q (d + 10) zk_X7_source 163 [(0, vr 100), (1, vi l), (2, vi a), (4, vi D), (5, vi o), (6, vi r4), (7, vi r8), (8, vi e2)] [] x9 (rv Fv) X)) X)) X)) X)))) X := by
      intro u hu
      have hu2 : u = 6 ∨ u = 7 := hu.imp (fun z => z.2) (fun z => z.2)
      refine kd_place (x := x) hq hx hWp hBy hRy.1 hRy.2.1 (KV_GS gy hE) D eF (by omega) (by omega) u s9 i2 (by rcases hu2 with e | e <;> rw [e] <;> decide) h25 pme_still hEv hi2 (PD_0 hcy (Or.inl rfl)) cy.symm (fun c z lz en hAz hnz eu => ?_) (fun c z lz en hAz hnz eu => ?_) (fun r4 i9 w => KE G q (d + 10) zk_X7_source 163 [(0, vr 100), (1, vi l), (2, vi a), (4, vi D), (5, vi o), (6, vi r4), (7, vi i9), (8, vi e2)] [] w (rv Fv) X) (fun i9 w N3 hBw gw nw uw hRw hNw hEw hWw hPw => ?_)
      · have e6 : u = 6 := by
          rcases hu with ⟨-, e⟩ | ⟨e, -⟩
          · exact e
          · exact absurd c e
        rw [e6] at eu
        exact RI_use hRy by0 lz hAz hnz en (HAs_one.mpr (HA_6.mpr ⟨by omega, eu⟩)) (fun _ => HBs_one.mpr (by rw [eu]; exact HB_6))
      · have e7 : u = 7 := by
          rcases hu with ⟨e, -⟩ | ⟨-, e⟩
          · exact absurd e c
          · exact e
        rw [e7] at eu
        exact RI_use hRy by0 lz hAz hnz en (HAs_one.mpr (HA_7.mpr ⟨by omega, Or.inl eu⟩)) (fun _ => HBs_one.mpr (by rw [eu]; exact HB_7))
      · refine p163 w o _ i9 e2 (Or.inr ⟨n0.1, h16, hEw, pme t ++ N3, hRw, hNw, pme_6, hWw, hop, he2, hPw⟩) (GS_tr gy gw) hBw (by omega) n0.2 o5 ⟨nn y, by rw [cy], by omega, ?_⟩ (hbu.imp id (fun z => Or.inr (La_BU gw.1 z)))
        rw [uw]
        exact hu2.imp id Or.inl
    exact kg_X7_source_132 hq _ _ _ _ _ _ _ _ _ _ (kg_X7_useOfCell_0 hq _ _ ⟨fun c => ⟨fun _ => ri_i (go _ (Or.inl ⟨c, rfl⟩)), fun z => absurd rfl z⟩, fun c => ⟨fun _ => ri_i (go _ (Or.inr ⟨c, rfl⟩)), fun z => absurd rfl z⟩⟩)
  have p89 : ∀ s9 : Int32, (¬ s9 = 0 ↔ y.1 23 ((y.1 100 4).toNatClampNeg + 1) = 25) → KE G q (d + 10) zk_X7_source 89 [(0, vr 100), (1, vi l), (2, vi a), (4, vi D), (5, vi o), (7, vi i2), (8, vi e2)] [vi s9] y (rv Fv) X := fun s9 h25 => kg_X7_source_89 hq _ _ _ _ _ _ _ ⟨fun _ => kg_X7_source_113 hq _ _ _ _ _ _ _ ⟨fun _ => p132 s9 h25, fun z => absurd z n0.1⟩, fun z => absurd z n0.1⟩
  exact kg_X7_source_68 hq _ _ _ _ _ _ _ ⟨fun z => absurd z n0.2, fun _ => kp_sortBehind hq hBy.1.1 ⟨fun c => p89 0 ⟨fun z => absurd rfl z, fun z => absurd z c⟩, fun c => p89 1 ⟨fun _ => c, fun _ => by decide⟩⟩⟩
end KSO4
end
section
/-! the class: what stands behind = , reading a cell; and all of it -/
section KSO5
variable {G : kG} {q : kP} {d : Nat} {x x0 y z xs : gd} {F : Int32 → gd → Prop} {Fv : gd → Prop} {X : String → gd → Prop} {P : Option gv → gd → Prop} {M : Int} {E : Nat → Prop} {K V : Nat → Int32} {sN : Nat → Nat → Bool} {e : Nat} {Ev : gV} {L : gU} {f : Nat} {t : Option Nat} {W : gOp}
theorem kd_srcR (hq : kV q) (hx : W = none → RX x0 X) (eW : W = pR K f t (nn x) L) (hB : BB x0 x M E0) (hf : (f : Int) + om x = 16) (ha : 2 * ssm x ≤ nx x + 1) (l a b : Int32) (hl : (a = -1 ∧ PLc x b) ∨ (¬ a = -1 ∧ 0 ≤ a.toInt ∧ a.toInt < M)) (hEv : ¬ Ev.2.1 = []) (hTc : TGc sN Ev t a b) (hT : TGT sN Ev x t a) (hA : KA K V sN e x) (hn : nn x ≤ e) (hE : KV' K e x Ev) (h : ∀ y, BB x0 y M E0 → nx x < nx y → om y = om x → ssm y = ssm x + 1 → (y.1 100 9 = x.1 100 9 ∧ y.1 100 7 = x.1 100 7 ∧ y.1 60 13 = x.1 60 13 ∧ (∀ k, y.1 20 k = x.1 20 k) ∧ OPe x y) → La x y → SFin K V sN e Ev x t L W y → Fv y) (D : Int32) (eD : D.toInt = om x + 1) (i2 e2 : Int32) (hi2 : i2 = -1) (he2 : e2 = -1) (hk1 : K (nn x) = 1) (hk2 : nn x < 700 → K (nn x + 1) = 65 ∨ (K (nn x + 1) = 67 ∧ kfi sN Ev.1 (nn x) = none)) : KE G q (d + 10) zk_X7_source 68 [(0, vr 100), (1, vi l), (2, vi a), (4, vi D), (5, vi (0 : Int32)), (6, vi b), (7, vi i2), (8, vi e2)] [] x (rv Fv) X := by
  have o1 := (BB_om hB).1
  have bx0 := hB.1.1.2.1
  have cx := nn_is bx0
  have k16 : (16 : Int32).toInt = 16 := rfl
  have p163 := kd_src163 (d := d) (G := G) hq hx hB hf ha l a b hl hEv hTc h D eD
  have so0 : sOp 0 a = 0 := by unfold sOp; rw [if_neg (fun q => absurd q.1 (by decide))]
  have eF : 17 - D.toNatClampNeg = f := by
    have u := t_cl D
    omega
  have nex : ¬ (K (nn x) = 35 ∨ K (nn x) = 10 ∨ K (nn x) = 16) := by rw [hk1]; decide
  have on1 : nn x < 700 → nn x + 1 ≤ e := fun c => KA_on hA hn c (by rw [hk1]; decide) (by rw [hk1]; decide)
  have k25 : nn x < 700 → (x.1 23 (nn x + 1) = 25 ↔ K (nn x + 1) = 65) := fun c => KA_k hA (on1 c) 25 (by decide)
  have bu : ∀ (u : Int32) (w : gd), ((¬ a = -1 ∧ (u = 6 ∨ u = 7)) ∨ (a = -1 ∧ (u = 8 ∨ u = 9))) → nx x < nx w → w.1 42 (nn x) = u → ¬ a = -1 ∨ (0 : Int32) = 16 ∨ BU w := by
    intro u w hu hw eu
    rcases hu with ⟨e, -⟩ | ⟨-, e⟩
    · exact Or.inl e
    · refine Or.inr (Or.inr ⟨nn x, by omega, ?_⟩)
      rw [eu]
      rcases e with e | e
      · exact Or.inr (Or.inl e)
      · exact Or.inr (Or.inr (Or.inl e))
  have row : ∀ s9 s0 : Int32, ¬ s9 = 0 → x.1 23 ((x.1 100 4).toNatClampNeg + 1) = 25 → ((¬ a = -1 ∧ s0 = 0) ∨ (a = -1 ∧ s0 = 1)) → KE G q (d + 10) zk_X7_source 132 [(0, vr 100), (1, vi l), (2, vi a), (4, vi D), (5, vi 0), (7, vi i2), (8, vi e2), (9, vi s9)] [vi s0, vi s9, vi 2, vr 100] x (rv Fv) X := by
    intro s9 s0 hs9 h25 hs0
    have hWp : W = (pP K f (nn x) (L ++ pme t)).bind (pan (75, nn x, 0)) := by
      by_cases c7 : nn x < 700
      · rw [eW]; unfold pR
        rw [if_neg nex, if_pos ⟨hk1, c7, (k25 c7).mp h25⟩]
      · rw [eW, pR_7 (by omega)]; unfold pP
        rw [if_neg (fun z => c7 z.2)]; rfl
    have go : ∀ u : Int32, ((¬ a = -1 ∧ u = 7) ∨ (a = -1 ∧ u = 9)) → KE G q (d + 9) zk_X7_needFor 0 [(0, vr 100), (1, vi 2), (2, vi u)] [] x (ri (fun r4 x3 => ((s9 = (0 : Int32) → KE G q (d + 10) zk_X7_source 163 [(0, vr 100), (1, vi l), (2, vi a), (4, vi D), (5, vi 0), (6, vi r4), (7, vi i2), (8, vi e2)] [] x3 (rv Fv) X) ∧ (¬ (s9 = (0 : Int32)) → KE G q (d + 9) zk_X7_pass 0 [(0, vr 100)] [] x3 (rv (fun x6 => KE G q (d + 9) zk_X7_sum 0 [(0, vr 100), (1, vi D)] [] x6 (ri (fun r8 x7 => KE G q (d + 9) zk_X7_need 0 [(0, vr 100), (1, vi 26)] [] x7 (rv (fun x9 => KE G q (d + 10) zk_X7_source 163 [(0, vr 100), (1, vi l), (2, vi a), (4, vi D), (5, vi 0), (6, vi r4), (7, vi r8), (8, vi e2)] [] x9 (rv Fv) X)) X)) X)) X)))) X := by
      intro u hu
      have hu2 : u = 7 ∨ u = 9 := hu.imp (fun z => z.2) (fun z => z.2)
      refine kd_place (x := x) hq hx hWp hB hA hn hE D eF (by omega) (by omega) u s9 i2 (by rcases hu2 with e | e <;> rw [e] <;> decide) ⟨fun _ => h25, fun _ => hs9⟩ pme_still hEv hi2 (PD_0 (fun c k _ => rfl) (Or.inl rfl)) cx.symm (fun c => absurd c hs9) (fun c z lz en hAz hnz eu => ?_) (fun r4 i9 w => KE G q (d + 10) zk_X7_source 163 [(0, vr 100), (1, vi l), (2, vi a), (4, vi D), (5, vi 0), (6, vi r4), (7, vi i9), (8, vi e2)] [] w (rv Fv) X) (fun i9 w N3 hBw gw nw uw hRw hNw hEw hWw hPw => ?_)
      · refine ⟨hAz, hnz, HAs_app.mpr ⟨TGT_me hT (fun ea => ⟨nn x, by omega, Or.inl ?_⟩), HAs_one.mpr (HA_7.mpr ⟨by omega, by rw [eu]; exact hu2⟩)⟩, fun j h1 h2 h3 => HBs_app.mpr ?_⟩
        · rcases hu with ⟨e, -⟩ | ⟨-, e⟩
          · exact absurd ea e
          · rw [eu]; exact e
        · have ej : j = nn x := by omega
          rw [ej, eu]
          rcases hu with ⟨-, e⟩ | ⟨ea, e⟩
          · rw [e]; exact Or.inr (HBs_one.mpr HB_7)
          · rw [e]; exact Or.inl (TGT_meB hT ea (Or.inr (Or.inl rfl)))
      · have hF : SFp K V sN e Ev x t L W (sOp 0 a) a (x.1 100 4) i9 e2 (-1) w := by
          refine ⟨hEw, pme t ++ N3 ++ [(75, nn x, 0)], ⟨hRw.1, hRw.2.1, UR_dull hRw.2.2 (dull_k (by decide))⟩, still_app hNw (stl_k (by decide)), fun t0 e1 e2 => HBs_app.mpr (Or.inl (pme_6 t0 e1 e2)), ?_, fun z9 hz9 => PD_75 hPw hEv hEw hTc (by rw [so0, he2] at hz9; exact hz9)⟩
          rw [hWw]
          show some (nn w, L ++ (pme t ++ N3) ++ [(75, nn x, 0)]) = _
          rw [List.append_assoc L]
        refine p163 w 0 _ i9 e2 (Or.inl ⟨rfl, hF⟩) gw hBw nw (by decide) (by decide) ⟨nn x, by rw [cx], by omega, ?_⟩ (bu u w (hu.imp (fun z => ⟨z.1, Or.inr z.2⟩) (fun z => ⟨z.1, Or.inr z.2⟩)) nw uw)
        rw [uw]
        rcases hu2 with e | e
        · exact Or.inr (Or.inl e)
        · exact Or.inr (Or.inr (Or.inr e))
    refine kg_X7_source_132 hq _ _ _ _ _ _ _ _ _ _ (kg_X7_useOfCell_0 hq _ _ ⟨fun c => absurd c hs9, fun c => ⟨fun c0 => ri_i (go _ (Or.inl ⟨?_, rfl⟩)), fun c0 => ri_i (go _ (Or.inr ⟨?_, rfl⟩))⟩⟩)
    · rcases hs0 with ⟨e, -⟩ | ⟨-, e⟩
      · exact e
      · rw [e] at c0; exact absurd c0 (by decide)
    · rcases hs0 with ⟨-, e⟩ | ⟨e, -⟩
      · exact absurd e c0
      · exact e
  have alone : ∀ s0 : Int32, ¬ x.1 23 ((x.1 100 4).toNatClampNeg + 1) = 25 → 1 ≤ f → ((¬ a = -1 ∧ s0 = 0) ∨ (a = -1 ∧ s0 = 1)) → KE G q (d + 10) zk_X7_source 132 [(0, vr 100), (1, vi l), (2, vi a), (4, vi D), (5, vi 0), (7, vi i2), (8, vi e2), (9, vi 0)] [vi s0, vi 0, vi 2, vr 100] x (rv Fv) X := by
    intro s0 h25 hf1 hs0
    have go : ∀ u : Int32, ((a = -1 ∧ u = 8) ∨ (¬ a = -1 ∧ u = 6)) → KE G q (d + 9) zk_X7_needFor 0 [(0, vr 100), (1, vi 2), (2, vi u)] [] x (ri (fun r4 x3 => (((0 : Int32) = (0 : Int32) → KE G q (d + 10) zk_X7_source 163 [(0, vr 100), (1, vi l), (2, vi a), (4, vi D), (5, vi 0), (6, vi r4), (7, vi i2), (8, vi e2)] [] x3 (rv Fv) X) ∧ (¬ ((0 : Int32) = (0 : Int32)) → KE G q (d + 9) zk_X7_pass 0 [(0, vr 100)] [] x3 (rv (fun x6 => KE G q (d + 9) zk_X7_sum 0 [(0, vr 100), (1, vi D)] [] x6 (ri (fun r8 x7 => KE G q (d + 9) zk_X7_need 0 [(0, vr 100), (1, vi 26)] [] x7 (rv (fun x9 => KE G q (d + 10) zk_X7_source 163 [(0, vr 100), (1, vi l), (2, vi a), (4, vi D), (5, vi 0), (6, vi r4), (7, vi r8), (8, vi e2)] [] x9 (rv Fv) X)) X)) X)) X)))) X := by
      intro u hu
      have hu2 : u = 8 ∨ u = 6 := hu.imp (fun z => z.2) (fun z => z.2)
      refine kd_needFor hq 2 u 1 (by decide) (by decide) (by decide) (by rcases hu2 with e | e <;> rw [e] <;> decide) (fun no => hx (by rw [eW]; exact pR_7 (by
        by_cases c7 : nn x < 700
        · exact absurd ⟨hk1, c7⟩ no
        · omega))) hB hA hn (fun kk c7 z hBz nz gz en hAz hnz eu ht hcz => ⟨fun _ => ?_, fun q => absurd rfl q⟩)
      have n65 : ¬ K (nn x + 1) = 65 := fun z => h25 ((k25 c7).mpr z)
      obtain ⟨h67, hk⟩ := (hk2 c7).resolve_left n65
      have hF : SFp K V sN e Ev x t L W (sOp 0 a) a (x.1 100 4) i2 e2 (-1) z := by
        refine ⟨KV_GS gz hE, [pal t (nn x)], ⟨hAz, hnz, TGT_al hT bx0 gz.1 en eu (Or.inl ⟨hk, hu⟩)⟩, pal_still, pal_6, ?_, fun z9 hz9 => PD_al hcz (KV_GS gz hE) hTc hk cx.symm (by rw [so0, hi2, he2] at hz9; exact hz9)⟩
        rw [eW]; unfold pR
        rw [if_neg nex, if_neg (fun z => n65 z.2.2), if_pos ⟨hk1, h67⟩, if_pos ⟨c7, hf1⟩, en]
      refine p163 z 0 _ i2 e2 (Or.inl ⟨rfl, hF⟩) gz hBz (by omega) (by decide) (by decide) ⟨nn x, by rw [cx], by omega, ?_⟩ (bu u z (hu.symm.imp (fun z => ⟨z.1, Or.inl z.2⟩) (fun z => ⟨z.1, Or.inl z.2⟩)) (by omega) eu)
      rw [eu]
      rcases hu2 with e | e
      · exact Or.inr (Or.inr (Or.inl e))
      · exact Or.inl e
    refine kg_X7_source_132 hq _ _ _ _ _ _ _ _ _ _ (kg_X7_useOfCell_0 hq _ _ ⟨fun _ => ⟨fun c0 => ri_i (go _ (Or.inr ⟨?_, rfl⟩)), fun c0 => ri_i (go _ (Or.inl ⟨?_, rfl⟩))⟩, fun c => absurd rfl c⟩)
    · rcases hs0 with ⟨e, -⟩ | ⟨-, e⟩
      · exact e
      · rw [e] at c0; exact absurd c0 (by decide)
    · rcases hs0 with ⟨-, e⟩ | ⟨e, -⟩
      · exact absurd e c0
      · exact e
  refine kg_X7_source_68 hq _ _ _ _ _ _ _ ⟨fun z => absurd z (by decide), fun _ => kp_sortBehind hq hB.1.1 ⟨fun c => kg_X7_source_89 hq _ _ _ _ _ _ _ ⟨fun z => absurd rfl z, fun _ => ⟨fun z => absurd rfl z, fun _ => ⟨fun cD => kg_X7_source_113 hq _ _ _ _ _ _ _ ⟨fun z => absurd rfl z, fun _ => ⟨fun ca => alone 0 c ?_ (Or.inl ⟨ca, rfl⟩), fun ca => alone 1 c ?_ (Or.inr ⟨ca, rfl⟩)⟩⟩, fun cD => kd_refuse hq (hx ?_) hB _⟩⟩⟩, fun c => kg_X7_source_89 hq _ _ _ _ _ _ _ ⟨fun z => absurd rfl z, fun _ => ⟨fun _ => kg_X7_source_113 hq _ _ _ _ _ _ _ ⟨fun z => absurd rfl z, fun _ => ⟨fun ca => row 1 0 (by decide) c (Or.inl ⟨ca, rfl⟩), fun ca => row 1 1 (by decide) c (Or.inr ⟨ca, rfl⟩)⟩⟩, fun z => absurd z (by decide)⟩⟩⟩⟩
  · rw [t_le, k16] at cD; omega
  · rw [t_le, k16] at cD; omega
  · rw [t_le, k16] at cD
    by_cases c7 : nn x < 700
    · have n65 : ¬ K (nn x + 1) = 65 := fun z => c ((k25 c7).mpr z)
      obtain ⟨h67, hk⟩ := (hk2 c7).resolve_left n65
      rw [eW]; unfold pR
      rw [if_neg nex, if_neg (fun z => n65 z.2.2), if_pos ⟨hk1, h67⟩, if_neg (by omega)]
    · rw [eW]; exact pR_7 (by omega)
theorem kd_source (hq : kV q) (hx : W = none → RX x0 X) (eW : W = pR K f t (nn x) L) (hB : BB x0 x M E0) (hf : (f : Int) + om x = 16) (ha : 2 * ssm x ≤ nx x + 1) (l a b : Int32) (hl : (a = -1 ∧ PLc x b) ∨ (¬ a = -1 ∧ 0 ≤ a.toInt ∧ a.toInt < M)) (hEv : ¬ Ev.2.1 = []) (hTc : TGc sN Ev t a b) (hT : TGT sN Ev x t a) (hA : KA K V sN e x) (hn : nn x ≤ e) (hE : KV' K e x Ev) (h : ∀ y, BB x0 y M E0 → nx x < nx y → om y = om x → ssm y = ssm x + 1 → (y.1 100 9 = x.1 100 9 ∧ y.1 100 7 = x.1 100 7 ∧ y.1 60 13 = x.1 60 13 ∧ (∀ k, y.1 20 k = x.1 20 k) ∧ OPe x y) → La x y → SFin K V sN e Ev x t L W y → Fv y) : KE G q (d + 10) zk_X7_source 0 [(0, vr 100), (1, vi l), (2, vi a), (3, vi b)] [] x (rv Fv) X := by
  obtain ⟨o1, o2⟩ := BB_om hB
  have bx0 := hB.1.1.2.1
  have cx := nn_is bx0
  have eD := o2 (by omega)
  obtain ⟨D, hD⟩ : ∃ D, D = x.1 100 13 + 1 := ⟨_, rfl⟩
  rw [← hD] at eD
  have p41 : ∀ (o i2 e2 : Int32), i2 = -1 → e2 = -1 → ((o = 2 ∧ K (nn x) = 35) ∨ (o = 3 ∧ K (nn x) = 10) ∨ (o = 4 ∧ K (nn x) = 16)) → KE G q (d + 10) zk_X7_source 41 [(0, vr 100), (1, vi l), (2, vi a), (4, vi D), (5, vi o), (6, vi b), (7, vi i2), (8, vi e2)] [] x (rv Fv) X := by
    intro o i2 e2 hi2 he2 ho
    have hkk : ¬ K (nn x) = 0 ∧ ¬ K (nn x) = 3 := by rcases ho with ⟨-, k⟩ | ⟨-, k⟩ | ⟨-, k⟩ <;> rw [k] <;> decide
    have p63 : ∀ u : Int32, ((u = 0 ∧ ¬ a = -1) ∨ (u = 10 ∧ a = -1)) → KE G q (d + 10) zk_X7_source 63 [(0, vr 100), (1, vi l), (2, vi a), (4, vi D), (5, vi o), (6, vi b), (7, vi i2), (8, vi e2)] [vi u, vi (x.1 100 4), vr 42] x (rv Fv) X := by
      intro u hu
      refine kg_X7_source_63 hq _ _ _ _ _ _ _ _ _ ⟨RB_at hB.1.1, fun x2 ex2 => ?_⟩
      have f2 : fm (fun c k => c = 42 ∧ k = (x.1 100 4).toNatClampNeg) x x2 := by rw [ex2]; exact fm_si (fm_rf _ _) ⟨rfl, rfl⟩
      have u2 : x2.1 42 (x.1 100 4).toNatClampNeg = u := by rw [ex2]; (simp only [si_get, sfl_get, Nat.reduceEqDiff, eq_self, and_false, false_and, and_true, true_and, if_true, if_false, reduceIte, reduceCtorEq])
      have q4 : x2.1 100 4 = x.1 100 4 := f2 _ _ (by omega)
      have eN := BB_N hB
      have n2 : nx x2 = nx x := by unfold nx; rw [q4]
      have la2 : La x x2 := ⟨fun c k q1 q2 => f2 c k (by omega), by omega, fun j hj => f2 42 j (by omega)⟩
      have S2 : SU x2 := by
        obtain ⟨⟨hT, b1, b2, b3⟩, ⟨u1, u2⟩, hp, hP⟩ := hB.1
        unfold SU SV US RB mt
        rw [f2 20 7 (by omega), f2 60 3 (by omega), n2]
        refine ⟨⟨kT_fm hT la2.1, b1, b2, b3⟩, ⟨fun j h1 h2 => ?_, fun j h1 h2 => ?_⟩, hp, fun i hi => La_PQ la2 (f2 _ _ (by omega)) (f2 _ _ (by omega)) (hP i hi)⟩
        · rw [f2 42 j (by omega)]; exact u1 j h1 h2
        · rw [f2 42 j (by omega)] at h2; rw [f2 42 _ (by omega)]; exact u2 j h1 h2
      have z2 : fm sR x0 x2 := fm_tr hB.2.2.2.2.2.1 (fm_w f2 (fun c k q => by unfold sR; omega))
      refine kf_pass hq z2 (fun c7 => hx (by rw [eW]; exact pR_7 (by omega))) S2 (by rw [q4, f2 23 _ (by omega)]; exact sort_n0 hA hn hkk.1) (by rw [q4, u2]; rcases hu with ⟨rfl, -⟩ | ⟨rfl, -⟩ <;> decide) (fun c7 y f n S fr la _ => ?_)
      have g : GS x y := ⟨La_tr la2 la, fm_tr (fm_w f2 (fun c k q => by unfold sSum; omega)) (fm_w f (fun c k q => by unfold sSum; omega))⟩
      have SUy : SU y := by unfold SU; rw [f 60 3 (by omega)]; exact S
      have i7 : nn x < 700 := by omega
      have ny : nn y = nn x + 1 := nn_up bx0 (by omega)
      have uy : y.1 42 (nn x) = u := by rw [f 42 _ (by omega)]; exact u2
      refine kd_srcX hq hx eW hB hf ha l a b hl hEv hTc hT hA hn hE h D eD o i2 e2 hi2 he2 (fun c k q9 => (f c k (by unfold ccS at q9; omega)).trans (f2 c k (by unfold ccS at q9; omega))) ho g (BB_on hB SUy fr g) ⟨KA_fm hA g.1.1, by rw [ny]; exact KA_on hA hn i7 hkk.1 hkk.2, TGT_me hT (fun ea => ⟨nn x, by omega, Or.inr ?_⟩), fun j h1 h2 h3 => ?_⟩ ny i7 ?_
      · rcases hu with ⟨-, e⟩ | ⟨e, -⟩
        · exact absurd ea e
        · rw [uy]; exact e
      · have ej : j = nn x := by omega
        rw [ej, uy] at h3 ⊢
        rcases hu with ⟨e, -⟩ | ⟨e, ea⟩
        · exact absurd e h3
        · exact TGT_meB hT ea (Or.inr (Or.inr e))
      · rcases hu with ⟨-, e⟩ | ⟨e, -⟩
        · exact Or.inl e
        · refine Or.inr ⟨nn x, by omega, ?_⟩
          rw [uy, e]
          decide
    exact kg_X7_source_41 hq _ _ _ _ _ _ _ ⟨fun c => p63 _ (Or.inl ⟨rfl, c⟩), fun c => p63 _ (Or.inr ⟨rfl, c⟩)⟩
  refine kg_X7_source_0 hq _ _ _ (kd_sourceOp hq hB hA hn hE (fun r hr => ?_))
  rw [← hD]
  have ex : (r = 2 ∨ r = 3 ∨ r = 4) → ((r = 2 ∧ K (nn x) = 35) ∨ (r = 3 ∧ K (nn x) = 10) ∨ (r = 4 ∧ K (nn x) = 16)) := by
    intro c
    rcases hr with e | e | e | ⟨e, -⟩ | ⟨e, -⟩
    · exact Or.inl e
    · exact Or.inr (Or.inl e)
    · exact Or.inr (Or.inr e)
    · rw [e] at c; exact absurd c (by decide)
    · rw [e] at c; exact absurd c (by decide)
  refine ⟨fun c => p41 r _ _ rfl rfl (ex (Or.inl c)), fun c2 => ⟨fun c => p41 r _ _ rfl rfl (ex (Or.inr (Or.inl c))), fun c3 => ⟨fun c4 => ?_, fun c => p41 r _ _ rfl rfl (ex (Or.inr (Or.inr c)))⟩⟩⟩
  rcases hr with ⟨e, -⟩ | ⟨e, -⟩ | ⟨e, -⟩ | ⟨e, e1, e2⟩ | ⟨e, e1, e2⟩
  · exact absurd e c2
  · exact absurd e c3
  · exact absurd e c4
  · rw [e]; exact kd_srcR hq hx eW hB hf ha l a b hl hEv hTc hT hA hn hE h D eD _ _ rfl rfl e1 e2
  · rw [e]; exact kd_srcS hq hx eW hB hf ha l a b hl hEv hTc hT hA hn hE h D eD _ _ rfl rfl e1 e2
end KSO5
end
section
/-! the class: locals, blocks -/
section KBL
variable {G : kG} {q : kP} {d : Nat} {x x0 y z : gd} {F : Int32 → gd → Prop} {Fv : gd → Prop} {X : String → gd → Prop} {P : Option gv → gd → Prop} {M : Int} {E : Nat → Prop}
/-- known locals, lets and most locals change -/
theorem BB_kn (hB : BB x0 x M E) {M' : Int} (hM : M ≤ M') (f : fm (fun c k => (c = 100 ∧ (k = 7 ∨ k = 9)) ∨ c = 109 ∨ (c = 60 ∧ k = 13)) x z) (hK : KN z) (h1 : (x.1 100 9).toInt ≤ (z.1 100 9).toInt) (h2 : (z.1 100 9).toInt ≤ (z.1 100 7).toInt ∧ (z.1 100 7).toInt ≤ 8) (h3 : 0 ≤ (z.1 60 13).toInt ∧ (z.1 60 13).toInt ≤ 8) (h4 : (z.1 100 9).toInt ≤ (z.1 60 13).toInt) : BB x0 z M' E := by
  obtain ⟨hS, hF, ⟨r1, r2, r3, ⟨r4, r6⟩, r7⟩, hC, r5, r0, hI⟩ := hB
  have e4 : nx z = nx x := by unfold nx; rw [f 100 4 (by omega)]
  have es : ssm z = ssm x := by unfold ssm; rw [f 80 9 (by omega)]
  have eo : om z = om x := by unfold om; rw [f 100 13 (by omega)]
  have z5 : z.1 100 5 = x.1 100 5 := f _ _ (by omega)
  have la : La x z := ⟨fun c k q1 q2 => f c k (by omega), by omega, fun j _ => f 42 j (by omega)⟩
  refine ⟨?_, ?_, ⟨fun c => ⟨hK, ?_⟩, NM_fm r2 (fun c k q1 q2 q3 q4 => f c k (by omega)) (f _ _ (by omega)) (f _ _ (by omega)), ?_, ⟨by omega, fun i hi => SA_La la (f _ _ (by omega)) (f _ _ (by omega)) (f _ _ (by omega)) (f _ _ (by omega)) hM (r6 i (by omega))⟩, ?_⟩, fun i hi he => ?_, by rw [z5]; exact r5, fm_tr r0 (fm_w f (fun c k q => by unfold sR; omega)), TR_eq hI id (f _ _ (by omega)) (fun k => f _ _ (by omega))⟩
  · obtain ⟨⟨hT, b1, b2, b3⟩, ⟨u1, u2⟩, hp, hP⟩ := hS
    unfold SU SV US RB mt
    rw [f 20 7 (by omega), f 60 3 (by omega), e4]
    refine ⟨⟨kT_fm hT la.1, b1, b2, b3⟩, ⟨fun j h1 h2 => ?_, fun j h1 h2 => ?_⟩, hp, fun i hi => La_PQ la (f _ _ (by omega)) (f _ _ (by omega)) (hP i hi)⟩
    · rw [f 42 j (by omega)]; exact u1 j h1 h2
    · rw [f 42 j (by omega)] at h2; rw [f 42 _ (by omega)]; exact u2 j h1 h2
  · unfold FR at hF ⊢
    rw [f 100 4 (by omega), f 42 _ (by omega)]; exact hF
  · obtain ⟨k1, o1, o2, o3, o4⟩ := r1 r5
    unfold OPs
    rw [eo]
    refine ⟨o1, fun k hk => ?_, fun j k hj hk => ?_, h2⟩
    · have := o2 k hk
      unfold OP1 sop ssm at this ⊢
      rw [f 111 k (by omega), f 112 k (by omega), f 113 k (by omega), f 80 9 (by omega)]
      refine ⟨this.1, fun c => ?_, this.2.2.1, by omega⟩
      obtain ⟨p1, s, p2, p3, p4⟩ := this.2.1 c
      exact ⟨p1, s, p2, p3, by rw [f 81 s (by omega)]; exact p4⟩
    · rw [f 113 j (by omega), f 113 k (by omega)]; exact o3 j k hj hk
  · unfold CD at r3 ⊢
    rw [f 60 6 (by omega), f 60 9 (by omega), f 60 10 (by omega), f 60 14 (by omega), f 60 16 (by omega), z5, f 40 8 (by omega), f 40 10 (by omega)]
    exact ⟨r3.1, r3.2.1, r3.2.2.1, r3.2.2.2.1, r3.2.2.2.2.1, h3, fun _ => h4⟩
  · unfold TS at r7 ⊢
    rw [f 60 10 (by omega), z5, es]
    refine ⟨fun t ht => ?_, fun c => absurd c r5⟩
    rw [f 72 t (by omega)]; exact r7.1 t ht
  · exact SC_eq (fun j => f _ _ (by omega)) (f _ _ (by omega)) (f _ _ (by omega)) (f _ _ (by omega)) z5 (fun j => f _ _ (by omega)) (hC i (by omega) he)
theorem BB_k (hB : BB x0 x M E) : KN x ∧ OPs x ∧ CD x := ⟨(hB.2.2.1.1 hB.2.2.2.2.1).1, (hB.2.2.1.1 hB.2.2.2.2.1).2, hB.2.2.1.2.2.1⟩
end KBL
end
section
/-! the class: the name before = -/
section KTG
variable {G : kG} {q : kP} {d : Nat} {x x0 y z xs : gd} {F : Int32 → gd → Prop} {Fv : gd → Prop} {X : String → gd → Prop} {P : Option gv → gd → Prop} {M : Int} {E : Nat → Prop} {K V : Nat → Int32} {sN : Nat → Nat → Bool} {e : Nat} {Ev : gV} {Ml N : gU}
theorem kd_setTarget (hq : kV q) (hx : ¬ ((K (nn x) = 1 ∧ nn x < 700) ∧ K (nn x + 1) = 50 ∧ nn x + 1 < 700) → RX x0 X) (hA : KA K V sN e x) (hn : nn x ≤ e) (hE : KV' K e x Ev) (hB : BB x0 x M E) (hM : (x.1 100 9).toInt ≤ M) (h : ∀ t y, BB x0 y M E → nx y = nx x + 2 → om y = om x → ssm y = ssm x → vp_in t 702 → ((y.1 43 t.toNatClampNeg = -1 ∧ PLc y t) ∨ (¬ y.1 43 t.toNatClampNeg = -1 ∧ 0 ≤ (y.1 43 t.toNatClampNeg).toInt ∧ (y.1 43 t.toNatClampNeg).toInt < M)) → y.1 60 13 = x.1 60 13 → t = x.1 100 4 → ((K (nn x) = 1 ∧ nn x < 700) ∧ K (nn x + 1) = 50 ∧ nn x + 1 < 700) → nn y = nn x + 2 → La x y → KA K V sN e y → nn y ≤ e → KV' K e y Ev → y.1 42 (nn x + 1) = 0 → ((y.1 43 (nn x) = -1 ∧ kfi sN Ev.1 (nn x) = none ∧ y.1 42 (nn x) = 6) ∨ (¬ y.1 43 (nn x) = -1 ∧ ¬ kfi sN Ev.1 (nn x) = none ∧ y.1 42 (nn x) = 0)) → OPe x y → TGc sN Ev (some (nn x)) (y.1 43 (nn x)) t → (∀ c k, ccS c k → y.1 c k = x.1 c k) → F t y) : KE G q (d + 8) zk_X7_setTarget 0 [(0, vr 100)] [] x (ri F) X := by
  refine kg_X7_setTarget_0 hq (kd_needFor hq 2 0 1 (by decide) (by decide) (by decide) (by decide) (fun no => hx (fun z => no z.1)) hB hA hn (fun kk c7 y hBy ny gy en hAy hny eu ht hcy => ?_))
  have eu : y.1 42 (x.1 100 4).toNatClampNeg = 0 := eu
  have bx0 := hB.1.1.2.1
  have cx := nn_is bx0
  obtain ⟨ky, oy, cy⟩ := BB_k hBy
  have vt := (kT_at hBy.1.1.1 ht).1
  have k0 : (0 : Int32).toInt = 0 := rfl
  have y9 : y.1 100 9 = x.1 100 9 := GS_at gy _ _ (by unfold sSum; omega)
  have eN := BB_N hB
  refine kf_knownFrom hq hBy.1.1.1 ky hAy (KV_GS gy hE) _ _ (by decide) ht hn kk (fun r hr9 => ⟨vt, fun z ez => ?_⟩)
  have e9 := hE.1
  have hr : (r = -1 ∧ kfi sN Ev.1 (nn x) = none) ∨ ((0 ≤ r.toInt ∧ r.toInt < (y.1 100 9).toInt) ∧ ¬ kfi sN Ev.1 (nn x) = none) := by
    rcases hr9 with ⟨e1, e2⟩ | ⟨n, e1, e2, e3, e4, -⟩
    · exact Or.inl ⟨e1, kfi_of e2⟩
    · exact Or.inr ⟨by rw [y9]; omega, by rw [show nn x = (x.1 100 4).toNatClampNeg from rfl, e4]; simp⟩
  have hTr : TGc sN Ev (some (nn x)) r (x.1 100 4) := by
    rcases hr9 with ⟨e1, e2⟩ | ⟨n, e1, e2, e3, e4, -⟩
    · exact Or.inl ⟨kfi_of e2, e1, nn x, rfl, cx.symm⟩
    · exact Or.inr ⟨n, e4, fun q => by rw [q, tm1] at e1; omega, e1⟩
  have z43 : z.1 43 (x.1 100 4).toNatClampNeg = r := by rw [ez]; (simp only [si_get, sfl_get, Nat.reduceEqDiff, eq_self, and_false, false_and, and_true, true_and, if_true, if_false, reduceIte, reduceCtorEq])
  have fz : fm (fun c k => c = 43) y z := by rw [ez]; exact fm_si (fm_rf _ _) rfl
  have fin : ∀ v, TGc sN Ev (some (nn x)) (v.1 43 (nn x)) (x.1 100 4) → ((v.1 43 (nn x) = -1 ∧ kfi sN Ev.1 (nn x) = none ∧ v.1 42 (nn x) = 6) ∨ (¬ v.1 43 (nn x) = -1 ∧ ¬ kfi sN Ev.1 (nn x) = none ∧ v.1 42 (nn x) = 0)) → (∀ j, ¬ j = nn x → v.1 42 j = y.1 42 j) → BB x0 v M E → fm (fun c k => c = 42 ∨ c = 43) y v → ((v.1 43 (x.1 100 4).toNatClampNeg = -1 ∧ PLc v (x.1 100 4)) ∨ (¬ v.1 43 (x.1 100 4).toNatClampNeg = -1 ∧ 0 ≤ (v.1 43 (x.1 100 4).toNatClampNeg).toInt ∧ (v.1 43 (x.1 100 4).toNatClampNeg).toInt < M)) → KE G q (d + 8) zk_X7_setTarget 46 [(0, vr 100), (1, vi (x.1 100 4))] [] v (ri F) X := by
    intro v hTv hm hj hBv fv hv
    have nv : nn v = nn x + 1 := by rw [← en]; unfold nn; rw [fv 100 4 (by omega)]
    have lav : La x v := ⟨fun c k q1 q2 => by rw [fv c k (by omega), gy.1.1 c k q1 q2], by unfold nx; rw [fv 100 4 (by omega)]; exact gy.1.2.1, fun j hjx => by rw [hj j (by omega), gy.1.2.2 j hjx]⟩
    have bv0 := hBv.1.1.2.1
    refine kg_X7_setTarget_46 hq _ (kd_need (xs := v) (Ml := []) (Ev := Ev) (V := V) (sN := sN) (e := e) hq 10 50 (by decide) (by decide) (by decide) (fun no => hx (fun z => no (by rw [nv]; exact z.2))) hBv ⟨KA_fm hA lav.1, by rw [nv, ← en]; exact hny, UR_0 rfl⟩ (fun kk2 c72 u hBu nu gu enu hRu u0 hcu => ri_i (h _ u hBu ?_ ?_ ?_ vt ?_ (by rw [GS_at gu 60 13 (by unfold sSum; omega), fv 60 13 (by omega), GS_at gy 60 13 (by unfold sSum; omega)]) rfl ⟨⟨kk, c7⟩, by rw [← nv]; exact kk2, by omega⟩ (by omega) (La_tr lav gu.1) hRu.1 hRu.2.1 (KV_GS gu (KV_fm (KV_GS gy hE) (fv _ _ (by omega)) (fun k => fv _ _ (by omega)))) (by rw [← nv]; exact u0) ?_ ⟨⟨La_tr lav gu.1, fun c k q => by rw [GS_at gu c k (by unfold Tc at q; unfold sSum; omega), fv c k (by unfold Tc at q; omega), GS_at gy c k (by unfold Tc at q; unfold sSum; omega)]⟩, fun c k q1 q2 => by rw [GS_at gu _ _ (by unfold sSum; omega), fv _ _ (by omega), GS_at gy _ _ (by unfold sSum; omega)], by rw [GS_at gu _ _ (by unfold sSum; omega), fv _ _ (by omega), GS_at gy _ _ (by unfold sSum; omega)]⟩ (by rw [GS_at gu 43 _ (by unfold sSum; omega)]; exact hTv) (fun c k q => (hcu c k q).trans ((fv c k (by unfold ccS at q; omega)).trans (hcy c k q))))))
    · have : nx v = nx y := by unfold nx; rw [fv 100 4 (by omega)]
      omega
    · rw [GS_om gu, ← GS_om gy]; unfold om; rw [fv 100 13 (by omega)]
    · rw [GS_sm gu, ← GS_sm gy]; unfold ssm; rw [fv 80 9 (by omega)]
    · rw [GS_at gu 43 _ (by unfold sSum; omega)]
      exact hv.imp (fun e => ⟨e.1, PLc_La gu.1 e.2⟩) id
    · obtain ⟨-, la⟩ := La_nn bv0 gu.1
      rw [GS_at gu 43 _ (by unfold sSum; omega), la _ (by omega)]
      exact hm
  have hBz : BB x0 z M E := BB_use hBy (t := (x.1 100 4).toNatClampNeg) (by omega) eu (by rw [fz 42 _ (by omega), eu]; decide) (fm_w fz (fun c k q => Or.inl q))
  refine ⟨vt, fun c => fin z (by rw [show z.1 43 (nn x) = r from z43]; exact hTr) (Or.inr ⟨c, ?_, by rw [fz 42 _ (by omega)]; exact eu⟩) (fun j _ => fz _ _ (by omega)) hBz (fm_w fz (fun c k q => Or.inr q)) (Or.inr ?_), fun c => ⟨vt, fun v ev => ?_⟩⟩
  · rw [z43] at c
    rcases hr with ⟨e, -⟩ | ⟨-, e⟩
    · exact absurd e c
    · exact e
  · rw [z43] at c ⊢
    rcases hr with ⟨e, -⟩ | ⟨⟨e1, e2⟩, -⟩
    · exact absurd e c
    · rw [y9] at e2
      exact ⟨c, e1, by omega⟩
  · have fv : fm (fun c k => c = 43 ∨ (86 ≤ c ∧ c ≤ 89) ∨ (c = 42 ∧ k = (x.1 100 4).toNatClampNeg)) y v := by rw [ev]; exact fm_si (fm_w fz (fun c k q => Or.inl q)) (Or.inr (Or.inr ⟨rfl, rfl⟩))
    have u6 : v.1 42 (x.1 100 4).toNatClampNeg = 6 := by rw [ev]; (simp only [si_get, sfl_get, Nat.reduceEqDiff, eq_self, and_false, false_and, and_true, true_and, if_true, if_false, reduceIte, reduceCtorEq])
    have c9 : r = -1 := by rw [z43] at c; exact c
    refine fin v (by rw [show v.1 43 (nn x) = r by rw [ev, si_cell (by decide)]; exact z43]; exact hTr) (Or.inl ⟨by rw [ev, si_cell (by decide)]; exact c, ?_, u6⟩) (fun j hj => by rw [ev, si_get, if_neg (fun q => hj q.2)]; exact fz _ _ (by omega)) (BB_use hBy (t := (x.1 100 4).toNatClampNeg) (by omega) eu (by rw [u6]; decide) fv) (by rw [ev]; exact fm_si (fm_w fz (fun c k q => Or.inr q)) (Or.inl rfl)) (Or.inl ⟨?_, (x.1 100 4).toNatClampNeg, eN.symm, ?_, Or.inl u6⟩)
    · rcases hr with ⟨-, e⟩ | ⟨⟨e, -⟩, -⟩
      · exact e
      · rw [c9, tm1] at e; omega
    · rw [ev, si_cell (by decide)]; exact c
    · have : nx v = nx y := by unfold nx; rw [fv 100 4 (by omega)]
      omega
end KTG
end
section
/-! the class: a row's cell is set -/
section KRW
variable {G : kG} {q : kP} {d : Nat} {x x0 y z xs : gd} {F : Int32 → gd → Prop} {Fv : gd → Prop} {X : String → gd → Prop} {P : Option gv → gd → Prop} {M : Int} {E : Nat → Prop} {K V : Nat → Int32} {sN : Nat → Nat → Bool} {e : Nat} {Ev : gV} {Ml N : gU} {W : gTs}
theorem kd_rowStatement (hq : kV q) (f c9 : Nat) (L : gU) (hx : W = none → RX x0 X) (hx7 : 700 ≤ nn x → RX x0 X) (eW : W = pS1 K f c9 (nn x) L) (hk1 : K (nn x) = 1) (hk65 : nn x < 700 → K (nn x + 1) = 65) (hf : (f : Int) + om x = 16) (hA : KA K V sN e x) (hn : nn x ≤ e) (hE : KV' K e x Ev) (hEv : ¬ Ev.2.1 = []) (hB : BB x0 x M E0) (ha : 2 * ssm x ≤ nx x + 1) (l : Int32) (h : ∀ y, BB x0 y M E0 → nx x + 2 ≤ nx y → om y = om x → ssm y = ssm x + 1 → y.1 60 13 = x.1 60 13 → KV' K e y Ev → La x y → ∀ N, RIw K V sN e Ev x y N → still N → W = pup c9 (78, nn x, 0) (pt K 67 (nn y, L ++ N)) → y.1 100 9 = x.1 100 9 → y.1 100 7 = x.1 100 7 → OPe x y → CG sN V K Ev x y (N ++ [(78, nn x, 0)]) → Fv y) : KE G q (d + 10) zk_X7_rowStatement 0 [(0, vr 100), (1, vi l)] [] x (rv Fv) X := by
  have bx0 := hB.1.1.2.1
  have cx := nn_is bx0
  have ox := (BB_om hB).1
  refine kg_X7_rowStatement_0 hq _ (kd_needFor hq 2 7 1 (by decide) (by decide) (by decide) (by decide) (fun no => hx7 (by
    by_cases c7 : nn x < 700
    · exact absurd ⟨hk1, c7⟩ no
    · omega)) hB hA hn (fun kk c7 y hBy ny gy en hAy hny eu ht hcy => ?_))
  have h65 := hk65 c7
  have hW1 : W = if nn x + 1 < 700 then pup c9 (78, nn x, 0) (((((pX K false f (nn x + 2) (L ++ [(7, nn x, 0)])).bind (pt K 66)).bind (pt K 50)).bind (pXq K f)).bind (pt K 67)) else none := by
    rw [eW]; unfold pS1
    rw [if_neg (by rw [hk1]; decide), if_pos hk1, if_pos h65]
  have hRy : RIw K V sN e Ev x y ([] ++ [(7, nn x, 0)]) := RI_use (⟨hA, hn, UR_0 rfl⟩ : RIw K V sN e Ev x x []) bx0 gy.1 hAy hny en (HAs_one.mpr (HA_7.mpr ⟨by omega, Or.inl eu⟩)) (fun _ => HBs_one.mpr (by rw [eu]; exact HB_7))
  have hRy : RIw K V sN e Ev x y [(7, nn x, 0)] := hRy
  have by0 := hBy.1.1.2.1
  refine kd_need hq 25 65 (by decide) (by decide) (by decide) (fun no => hx ?_) hBy hRy (fun kk3 c73 y3 hB3 n3 g3 en3 hR3 _ hc3 => ?_)
  · rw [hW1, if_neg (fun z => no (by rw [en]; exact ⟨h65, z⟩))]
  rw [if_pos (by omega)] at hW1
  have en3 : nn y3 = nn x + 2 := by omega
  have o3 : om y3 = om x := by rw [GS_om g3, GS_om gy]
  obtain ⟨p1, p2⟩ := BB_om hB3
  have eF3 : 17 - (y3.1 100 13 + 1).toNatClampNeg = f := by
    have u := t_cl (y3.1 100 13 + 1)
    rw [p2 (by omega)] at u
    omega
  have hE3 := KV_GS g3 (KV_GS gy hE)
  have b30 := hB3.1.1.2.1
  refine kd_sum hq _ (L ++ [(7, nn x, 0)]) (fun q9 => hx (by rw [eF3, en3] at q9; rw [hW1, q9]; rfl)) hB3 hR3.1 hR3.2.1 hE3 (by rw [p2 (by omega)]; omega) (by rw [p2 (by omega)]; omega) (fun r5 y4 hB4 n4 g4 N2 hR4 hN2 hpX hcp5 hr5 => ?_)
  rw [eF3, en3] at hpX
  obtain ⟨N20, -, hP4⟩ := PD_xp (PD_7 (i := nn x) (PD_fr (PD_fr (PD_0 (x := x) (y := x) (t := none) (N := []) (fun c k _ => rfl) (Or.inl rfl)) hcy) hc3) hEv) hpX hcp5 g4 hr5
  rw [hpX] at hW1
  have hW2 : W = pup c9 (78, nn x, 0) ((((pt K 66 (nn y4, L ++ [(7, nn x, 0)] ++ N2)).bind (pt K 50)).bind (pXq K f)).bind (pt K 67)) := hW1
  have hs7 : still [(7, nn x, 0)] := stl_k (by decide)
  have hRx4 := RI_app b30 hs7 hR3 g4.1 hR4
  refine kd_need hq 26 66 (by decide) (by decide) (by decide) (fun no => hx (by rw [hW2, pt_no no]; rfl)) hB4 hRx4 (fun kk6 c76 y6 hB6 n6 g6 en6 hR6 _ hc6 => ?_)
  rw [pt_yes kk6 c76] at hW2
  have hW3 : W = pup c9 (78, nn x, 0) (((pt K 50 (nn y6, L ++ [(7, nn x, 0)] ++ N2)).bind (pXq K f)).bind (pt K 67)) := by rw [hW2, en6]; rfl
  refine kd_need hq 10 50 (by decide) (by decide) (by decide) (fun no => hx (by rw [hW3, pt_no no]; rfl)) hB6 hR6 (fun kk7 c77 y7 hB7 n7 g7 en7 hR7 _ hc7 => ?_)
  rw [pt_yes kk7 c77] at hW3
  have hW4 : W = pup c9 (78, nn x, 0) ((pX K false f (nn y7) (L ++ [(7, nn x, 0)] ++ N2)).bind (pt K 67)) := by rw [hW3, en7]; rfl
  have o7 : om y7 = om x := by rw [GS_om g7, GS_om g6, GS_om g4, o3]
  obtain ⟨p3, p4⟩ := BB_om hB7
  have eF7 : 17 - (y7.1 100 13 + 1).toNatClampNeg = f := by
    have u := t_cl (y7.1 100 13 + 1)
    rw [p4 (by omega)] at u
    omega
  have hE7 := KV_GS g7 (KV_GS g6 (KV_GS g4 hE3))
  have b70 := hB7.1.1.2.1
  refine kd_sum hq _ (L ++ [(7, nn x, 0)] ++ N2) (fun q9 => hx (by rw [eF7] at q9; rw [hW4, q9]; rfl)) hB7 hR7.1 hR7.2.1 hE7 (by rw [p4 (by omega)]; omega) (by rw [p4 (by omega)]; omega) (fun r9 y8 hB8 n8 g8 N3 hR8 hN3 hpX8 hcp8 hr9 => ?_)
  rw [eF7] at hpX8
  obtain ⟨N30, -, hP8⟩ := PD_xp (PD_fr (PD_fr hP4 hc6) hc7) hpX8 hcp8 g8 hr9
  rw [hpX8] at hW4
  have hRx8 := RI_app b70 (still_app hs7 hN2) hR7 g8.1 hR8
  have hE8 := KV_GS g8 hE7
  have hW5 : W = pup c9 (78, nn x, 0) (pt K 67 (nn y8, L ++ ([(7, nn x, 0)] ++ N2 ++ N3))) := by
    rw [hW4, ← List.append_assoc, ← List.append_assoc]; rfl
  have gg : GS y y8 := GS_tr (GS_tr (GS_tr (GS_tr g3 g4) g6) g7) g8
  have s8 : ssm y8 = ssm x := by rw [GS_sm gg, GS_sm gy]
  obtain ⟨a1, a2, a3, a4, a5⟩ := BB_400 hB8 (by omega)
  refine kf_add hq _ _ _ a1 a2 (fun w hA vin hF9 => ⟨vin, fun z1 e1 => ⟨vin, fun z2 e2 => ⟨vin, fun z ez => rv_i ?_⟩⟩⟩)
  obtain ⟨f1, f2, f3, f4, f5⟩ := hA
  have fz : fm (fun c k => (81 ≤ c ∧ c ≤ 89 ∧ k = (y8.1 80 9).toNatClampNeg) ∨ (c = 80 ∧ k = 9)) y8 z := by
    rw [ez, e2, e1]
    exact fm_si (fm_si (fm_si f1 (Or.inl ⟨by omega, by omega, rfl⟩)) (Or.inl ⟨by omega, by omega, rfl⟩)) (Or.inl ⟨by omega, by omega, rfl⟩)
  have es : ssm z = ssm y8 + 1 := by
    have : z.1 80 9 = w.1 80 9 := by rw [ez, e2, e1]; (simp only [si_get, sfl_get, Nat.reduceEqDiff, eq_self, and_false, false_and, and_true, true_and, if_true, if_false, reduceIte, reduceCtorEq])
    unfold ssm at *; rw [this]; exact f2
  have z81 : z.1 81 (y8.1 80 9).toNatClampNeg = 1 := by rw [ez, e2, e1]; (simp only [si_get, sfl_get, Nat.reduceEqDiff, eq_self, and_false, false_and, and_true, true_and, if_true, if_false, reduceIte, reduceCtorEq]); exact f3
  have z83 : z.1 83 (y8.1 80 9).toNatClampNeg = y8.1 100 9 := by rw [ez, e2, e1]; (simp only [si_get, sfl_get, Nat.reduceEqDiff, eq_self, and_false, false_and, and_true, true_and, if_true, if_false, reduceIte, reduceCtorEq]); exact f4
  have z85 : z.1 85 (y8.1 80 9).toNatClampNeg = x.1 100 4 := by rw [ez, e2, e1]; (simp only [si_get, sfl_get, Nat.reduceEqDiff, eq_self, and_false, false_and, and_true, true_and, if_true, if_false, reduceIte, reduceCtorEq])
  have e9 : nx z = nx y8 := by unfold nx; rw [fz 100 4 (by omega)]
  have e13 : om z = om y8 := by unfold om; rw [fz 100 13 (by omega)]
  have eN := BB_N hB
  have k1 : (1 : Int32).toInt = 1 := rfl
  have hSA : SA z M (y8.1 80 9).toNatClampNeg := by
    unfold SA sop stg
    rw [z81, z83, z85, k1]
    refine ⟨by omega, ⟨a4, a5⟩, fun _ => ⟨(x.1 100 4).toNatClampNeg, eN.symm, by omega, fun _ => Or.inr (Or.inl ?_), fun c1 => by omega, fun c1 => by omega⟩, fun c => by omega⟩
    rw [fz 42 _ (by omega), gg.1.2.2 _ (by omega)]; exact eu
  have hBz := BB_add hB8 (n := (y8.1 80 9).toNatClampNeg) (by omega) fz es hSA
  refine h z (BB_E hBz (fun e => e.elim id (fun e => by omega)) (fun i hi he hne => ?_)) (by omega) (by rw [e13, GS_om g8, o7]) (by omega) (by rw [fz 60 13 (by omega), GS_at gg 60 13 (by unfold sSum; omega), GS_at gy 60 13 (by unfold sSum; omega)]) (KV_fm hE8 (fz _ _ (by omega)) (fun k => fz _ _ (by omega))) (La_tr (GS_tr gy gg).1 ⟨fun c k q1 q2 => fz _ _ (by omega), by omega, fun j _ => fz _ _ (by omega)⟩) ([(7, nn x, 0)] ++ N2 ++ N3) (RI_st hRx8 (fz _ _ (by omega)) (fun j => fz _ _ (by omega)) (fun c k q1 q2 => fz _ _ (by omega))) (still_app (still_app hs7 hN2) hN3) (by rw [show nn z = nn y8 by unfold nn; rw [fz 100 4 (by omega)]]; exact hW5) (by rw [fz _ _ (by omega), GS_at (GS_tr gy gg) _ _ (by unfold sSum; omega)]) (by rw [fz _ _ (by omega), GS_at (GS_tr gy gg) _ _ (by unfold sSum; omega)]) (OPe_tr (OPe_GS (GS_tr gy gg)) (OPe_st fz)) (PD_78 (i := nn x) hP8 hEv hE8 cx.symm ⟨fun c k q q1 q2 => fz c k (fun w => w.elim q1 q2), es, z81, z83, rfl, z85, by rw [ez, e2, e1]; (simp only [si_get, sfl_get, Nat.reduceEqDiff, eq_self, and_false, false_and, and_true, true_and, if_true, if_false, reduceIte, reduceCtorEq]), by rw [ez, e2, e1]; (simp only [si_get, sfl_get, Nat.reduceEqDiff, eq_self, and_false, false_and, and_true, true_and, if_true, if_false, reduceIte, reduceCtorEq]), by rw [ez, e2, e1]; (simp only [si_get, sfl_get, Nat.reduceEqDiff, eq_self, and_false, false_and, and_true, true_and, if_true, if_false, reduceIte, reduceCtorEq]); exact hF9.2.2.2⟩)
  rcases he with he | he
  · exact absurd he hne
  · rw [he]
    refine SC_no ?_ ?_ <;> (unfold sop; rw [z81]; decide)
end KRW
end
section
/-! the class: a new local -/
section KLT
variable {G : kG} {q : kP} {d : Nat} {x x0 y z xs : gd} {F : Int32 → gd → Prop} {Fv : gd → Prop} {X : String → gd → Prop} {P : Option gv → gd → Prop} {M : Int} {E : Nat → Prop} {K V : Nat → Int32} {sN : Nat → Nat → Bool} {e : Nat} {Ev : gV} {Ml N : gU}
theorem HA_23 {U : Nat → Int32} {n a b : Nat} : HAw sN U n Ev (23, a, b) ↔ a < n ∧ ((∃ k ∈ Ev.1.take (Ev.1.length - Ev.2.1.headD 0), sN k.1 a = true) → U a = 2) := by unfold HAw; simp
theorem HB_23 {a b j : Nat} (h : ∃ k ∈ Ev.1.take (Ev.1.length - Ev.2.1.headD 0), sN k.1 a = true) : HB sN Ev (23, a, b) j 2 := Or.inr (Or.inr (Or.inr (Or.inr (Or.inl ⟨rfl, rfl, h⟩))))
theorem kd_newLocal (hq : kV q) (hx : (¬ ((K (nn x + 1) = 1 ∧ nn x + 1 < 700) ∧ (x.1 100 7).toInt < 8 ∧ K (nn x + 2) = 50 ∧ nn x + 2 < 700) ∨ 700 ≤ nn x) → RX x0 X) (hk26 : K (nn x) = 26) (hA : KA K V sN e x) (hn : nn x ≤ e) (hE : KV' K e x Ev) (hHd : (x.1 113 ((om x).toNat - 1)).toNatClampNeg = Ev.2.1.headD 0) (hB : BB x0 x M E) (h1 : 1 ≤ om x) (h : ∀ t y, BB x0 y M E → nx y = nx x + 3 → om y = om x → ssm y = ssm x → tk y t → y.1 100 9 = x.1 100 9 → (y.1 100 9).toInt + 1 ≤ (y.1 100 7).toInt → y.1 60 13 = x.1 60 13 → t.toNatClampNeg = nn x + 1 → ((K (nn x + 1) = 1 ∧ nn x + 1 < 700) ∧ (x.1 100 7).toInt < 8 ∧ K (nn x + 2) = 50 ∧ nn x + 2 < 700) → (y.1 100 7).toInt = (x.1 100 7).toInt + 1 → nn y = nn x + 3 → Lb x y → KV' K e y Ev → RIw K V sN e Ev x y [(23, nn x + 1, 0)] → (∀ c k, 111 ≤ c → c ≤ 113 → y.1 c k = x.1 c k) → (∀ c k, ccS c k → y.1 c k = x.1 c k) → F t y) : KE G q (d + 8) zk_X7_newLocal 0 [(0, vr 100)] [] x (ri F) X := by
  have k8 : (8 : Int32).toInt = 8 := rfl
  have bx0 := hB.1.1.2.1
  have cx := nn_is bx0
  have p26 : ∀ y, nn y = nn x + 1 → RIw K V sN e Ev x y [] → y.1 42 (nn x) = 0 → nn x < 700 → BB x0 y M E → GS x y → (∀ c k, ccS c k → y.1 c k = x.1 c k) → nx y = nx x + 1 → (y.1 23 (y.1 100 4).toNatClampNeg = 2 → (y.1 100 7).toInt < 8) → KE G q (d + 8) zk_X7_newLocal 26 [(0, vr 100)] [] y (ri F) X := by
    intro y eny hRy ui i7 hBy gy hcy ny hl8
    have gy7 : y.1 100 7 = x.1 100 7 := GS_at gy _ _ (by unfold sSum; omega)
    refine kg_X7_newLocal_26 hq (kd_needFor hq 2 0 1 (by decide) (by decide) (by decide) (by decide) (fun no => hx (Or.inl (fun z => no (by rw [eny]; exact z.1)))) hBy hRy.1 hRy.2.1 (fun kk c7 z hBz nz gz enz hAz hnz eu ht hcz => ?_))
    have cw : y.1 23 (y.1 100 4).toNatClampNeg = 2 := (KA_k hRy.1 hRy.2.1 2 (by decide)).mpr kk
    have kk1 : K (nn x + 1) = 1 := by rw [← eny]; exact kk
    have myn : (y.1 100 4).toNatClampNeg = nn x + 1 := eny
    have eu : z.1 42 (y.1 100 4).toNatClampNeg = 0 := eu
    have hEz := KV_GS gz (KV_GS gy hE)
    intro w ew
    have fw : fm (fun c k => c = 100 ∧ k = 7) z w := by rw [ew]; exact fm_si (fm_rf _ _) ⟨rfl, rfl⟩
    have w7 : w.1 100 7 = z.1 100 7 + 1 := by rw [ew]; (simp only [si_get, sfl_get, Nat.reduceEqDiff, eq_self, and_false, false_and, and_true, true_and, if_true, if_false, reduceIte, reduceCtorEq])
    have gz7 : z.1 100 7 = y.1 100 7 := GS_at gz _ _ (by unfold sSum; omega)
    have hl := hl8 cw
    obtain ⟨kz, oz, cz⟩ := BB_k hBz
    have l0 := oz.2.2.2.1
    have kk0 := kz.1.1
    have t7 : (w.1 100 7).toInt = (z.1 100 7).toInt + 1 := by
      rw [w7, t_add (by show _ ≤ _ + (1 : Int); omega) (by show _ + (1 : Int) ≤ _; rw [gz7]; omega)]; rfl
    have w9 : w.1 100 9 = z.1 100 9 := fw _ _ (by omega)
    have hKw : KN w := KN_fm kz w9 (fw _ _ (by omega)) (fun k => fw _ _ (by omega))
    have hBw : BB x0 w M E := BB_kn hBz (Int.le_refl _) (fm_w fw (fun c k q => Or.inl ⟨q.1, Or.inl q.2⟩)) hKw (by rw [w9]; exact Int.le_refl _) (by rw [w9, t7]; rw [gz7] at l0 ⊢; omega) (by rw [fw 60 13 (by omega)]; exact cz.2.2.2.2.2.1) (by rw [w9, fw 60 13 (by omega)]; exact cz.2.2.2.2.2.2 hBz.2.2.2.2.1)
    have omw : om w = om x := by rw [← GS_om gy, ← GS_om gz]; unfold om; rw [fw 100 13 (by omega)]
    have o18 := (BB_om hBw).1
    have e13 : (w.1 100 13 - 1).toInt = om w - 1 := t_sub (by show _ ≤ _ - (1 : Int); unfold om at *; omega) (by show _ - (1 : Int) ≤ _; unfold om at *; omega)
    have nw : nx w = nx z := by unfold nx; rw [fw 100 4 (by omega)]
    have htw : tk w (y.1 100 4) := by unfold tk at ht ⊢; rw [fw 20 7 (by omega)]; exact ht
    obtain ⟨-, ow, -⟩ := BB_k hBw
    have hop := ow.2.1 ((w.1 100 13 - 1).toNatClampNeg) (by rw [t_cl, e13]; omega)
    have hEw : KV' K e w Ev := KV_fm hEz (fw _ _ (by omega)) (fun k => fw _ _ (by omega))
    have hAw : KA K V sN e w := KA_fm hAz (fun c k q1 q2 => fw _ _ (by omega))
    have e13c : (w.1 100 13 - 1).toNatClampNeg = (om x).toNat - 1 := by rw [t_cl, e13, omw]; omega
    have w113 : (w.1 113 (w.1 100 13 - 1).toNatClampNeg).toNatClampNeg = Ev.2.1.headD 0 := by
      rw [e13c, fw 113 _ (by omega), GS_at gz 113 _ (by unfold sSum; omega), GS_at gy 113 _ (by unfold sSum; omega)]; exact hHd
    refine ⟨by rw [vp_in_iff, e13]; omega, kf_knownFrom hq hBw.1.1.1 hKw hAw hEw _ _ hop.2.2.1 htw (by rw [myn, ← eny]; exact hRy.2.1) (by rw [myn]; exact kk1) (fun r hr => ?_)⟩
    have tk9 : (r = -1 ∧ ¬ ∃ k ∈ Ev.1.take (Ev.1.length - Ev.2.1.headD 0), sN k.1 (nn x + 1) = true) ∨ (¬ r = -1 ∧ ∃ k ∈ Ev.1.take (Ev.1.length - Ev.2.1.headD 0), sN k.1 (nn x + 1) = true) := by
      rw [w113, myn] at hr
      rcases hr with ⟨e1, e2⟩ | ⟨n, e1, -, -, -, p, k, e3, e4, e5⟩
      · exact Or.inl ⟨e1, fun z => by
          obtain ⟨p, k, z1, z2, z3⟩ := take_ex.mp z
          exact e2 p k z1 z2 z3⟩
      · exact Or.inr ⟨fun z => by rw [z, tm1] at e1; omega, take_ex.mpr ⟨p, k, e3, e4, e5⟩⟩
    have fin : ∀ v, ((v.1 42 (nn x + 1) = 0 ∧ ¬ ∃ k ∈ Ev.1.take (Ev.1.length - Ev.2.1.headD 0), sN k.1 (nn x + 1) = true) ∨ (v.1 42 (nn x + 1) = 2 ∧ ∃ k ∈ Ev.1.take (Ev.1.length - Ev.2.1.headD 0), sN k.1 (nn x + 1) = true)) → (∀ j, ¬ j = nn x + 1 → v.1 42 j = w.1 42 j) → BB x0 v M E → fm (fun c k => c = 42) w v → KE G q (d + 8) zk_X7_newLocal 73 [(0, vr 100), (1, vi (y.1 100 4))] [] v (ri F) X := by
      intro v hm hj hBv fv
      have nzx : nn z = nn x + 2 := by omega
      have nv : nn v = nn x + 2 := by rw [← nzx]; unfold nn; rw [fv 100 4 (by omega), fw 100 4 (by omega)]
      have vi0 : v.1 42 (nn x) = 0 := by
        obtain ⟨-, la⟩ := La_nn hBy.1.1.2.1 gz.1
        rw [hj _ (by omega), fw 42 _ (by omega), la _ (by omega)]; exact ui
      have lav : La x v := ⟨fun c k q1 q2 => by rw [fv c k (by omega), fw c k (by omega), gz.1.1 c k q1 q2, gy.1.1 c k q1 q2], by
        have e1 : nx v = nx z := by unfold nx; rw [fv 100 4 (by omega), fw 100 4 (by omega)]
        omega, fun j hjx => by rw [hj j (by omega), fw 42 _ (by omega), gz.1.2.2 j (by omega), gy.1.2.2 j hjx]⟩
      have hRv : RIw K V sN e Ev x v [(23, nn x + 1, 0)] := by
        refine ⟨KA_fm hA lav.1, by rw [nv, ← nzx]; exact hnz, HAs_one.mpr (HA_23.mpr ⟨by omega, fun hk => ?_⟩), fun j h1 h2 h3 => HBs_one.mpr ?_⟩
        · rcases hm with ⟨-, e⟩ | ⟨e, -⟩
          · exact absurd hk e
          · exact e
        · have hj9 : j = nn x ∨ j = nn x + 1 := by omega
          rcases hj9 with ej | ej
          · rw [ej] at h3; exact absurd vi0 h3
          · rw [ej] at h3 ⊢
            rcases hm with ⟨e, -⟩ | ⟨e, e2⟩
            · exact absurd e h3
            · rw [e]; exact HB_23 e2
      have hEv : KV' K e v Ev := KV_fm hEw (fv _ _ (by omega)) (fun k => fv _ _ (by omega))
      have x7 : (x.1 100 7).toInt < 8 := by rw [← gy7]; exact hl
      refine kg_X7_newLocal_73 hq _ (kd_need hq 10 50 (by decide) (by decide) (by decide) (fun no => hx (Or.inl (fun z => no (by rw [nv]; exact z.2.2)))) hBv hRv (fun kk2 c72 u hBu nu gu enu hRu _ hcu => ri_i (h _ u hBu ?_ ?_ ?_ ?_ ?_ ?_ ?_ myn ⟨⟨kk1, by omega⟩, x7, by rw [← nv]; exact kk2, by omega⟩ ?_ (by omega) ⟨La_tr lav gu.1, fun c k q => by rw [GS_at gu c k (by unfold Tc at q; unfold sSum; omega), fv c k (by unfold Tc at q; omega), fw c k (by unfold Tc at q; omega), GS_at gz c k (by unfold Tc at q; unfold sSum; omega), GS_at gy c k (by unfold Tc at q; unfold sSum; omega)]⟩ (KV_GS gu hEv) hRu (fun c k q1 q2 => by rw [GS_at gu c k (by unfold sSum; omega), fv c k (by omega), fw c k (by omega), GS_at gz c k (by unfold sSum; omega), GS_at gy c k (by unfold sSum; omega)]) (fun c k q => (hcu c k q).trans ((fv c k (by unfold ccS at q; omega)).trans ((fw c k (by unfold ccS at q; omega)).trans ((hcz c k q).trans (hcy c k q))))))))
      · have : nx v = nx w := by unfold nx; rw [fv 100 4 (by omega)]
        omega
      · rw [GS_om gu, ← omw]; unfold om; rw [fv 100 13 (by omega)]
      · rw [GS_sm gu]
        have : ssm v = ssm w := by unfold ssm; rw [fv 80 9 (by omega)]
        rw [this, ← GS_sm gy, ← GS_sm gz]; unfold ssm; rw [fw 80 9 (by omega)]
      · unfold tk at htw ⊢
        rw [GS_at gu 20 7 (by unfold sSum; omega), fv 20 7 (by omega)]; exact htw
      · rw [GS_at gu 100 9 (by unfold sSum; omega), fv 100 9 (by omega), w9, GS_at gz 100 9 (by unfold sSum; omega), GS_at gy 100 9 (by unfold sSum; omega)]
      · rw [GS_at gu 100 9 (by unfold sSum; omega), GS_at gu 100 7 (by unfold sSum; omega), fv 100 9 (by omega), fv 100 7 (by omega), t7, w9]; omega
      · rw [GS_at gu 60 13 (by unfold sSum; omega), fv 60 13 (by omega), fw 60 13 (by omega), GS_at gz 60 13 (by unfold sSum; omega), GS_at gy 60 13 (by unfold sSum; omega)]
      · rw [GS_at gu 100 7 (by unfold sSum; omega), fv 100 7 (by omega), t7, gz7, gy7]
    have eN := BB_N hBy
    have w42 : w.1 42 (nn x + 1) = 0 := by rw [← myn, fw 42 _ (by omega)]; exact eu
    refine ⟨fun c => fin w (Or.inl ⟨w42, ?_⟩) (fun _ _ => rfl) hBw (fm_rf _ _), fun c => ⟨(kT_at hBw.1.1.1 htw).1, fun v ev => fin v (Or.inr ⟨by rw [ev, ← myn]; (simp only [si_get, sfl_get, Nat.reduceEqDiff, eq_self, and_false, false_and, and_true, true_and, if_true, if_false, reduceIte, reduceCtorEq]), ?_⟩) (fun j hj => by rw [ev, si_get, if_neg (fun q => hj (by rw [← myn]; exact q.2))]) ?_ (by rw [ev]; exact fm_si (fm_rf _ _) rfl)⟩⟩
    · rcases tk9 with ⟨-, e⟩ | ⟨e, -⟩
      · exact e
      · exact absurd c e
    · rcases tk9 with ⟨e, -⟩ | ⟨-, e⟩
      · exact absurd e c
      · exact e
    refine BB_use hBw (t := (y.1 100 4).toNatClampNeg) (by omega) (by rw [fw 42 _ (by omega)]; exact eu) ?_ (by rw [ev]; exact fm_si (fm_rf _ _) (Or.inr (Or.inr ⟨rfl, rfl⟩)))
    have : v.1 42 (y.1 100 4).toNatClampNeg = 2 := by rw [ev]; (simp only [si_get, sfl_get, Nat.reduceEqDiff, eq_self, and_false, false_and, and_true, true_and, if_true, if_false, reduceIte, reduceCtorEq])
    rw [this]; decide
  refine kg_X7_newLocal_0 hq (kd_pass (xs := x) (Ml := []) (Ev := Ev) hq (fun c7 => hx (Or.inr c7)) hB ⟨hA, hn, UR_0 rfl⟩ (by rw [hk26]; decide) (by rw [hk26]; decide) (fun c7 y hBy ny gy eny hRy u0 hcy => kp_sort hq hBy.1.1 ⟨fun c => p26 y eny hRy u0 c7 hBy gy hcy ny (fun q => absurd q c), fun c => ⟨fun c2 => p26 y eny hRy u0 c7 hBy gy hcy ny (fun _ => by rw [t_lt, k8] at c2; exact c2), fun c2 => kd_refuse hq (hx (Or.inl (fun z => ?_))) hBy _⟩⟩))
  rw [t_lt, k8, GS_at gy 100 7 (by unfold sSum; omega)] at c2
  exact c2 z.2.1
end KLT
end
