/-! the class: what stands behind = , reading a cell; and all of it -/
section KSO5
variable {G : kG} {q : kP} {d : Nat} {x x0 y z xs : gd} {F : Int32 → gd → Prop} {Fv : gd → Prop} {X : String → gd → Prop} {P : Option gv → gd → Prop} {M : Int} {E : Nat → Prop} {K V : Nat → Int32} {sN : Nat → Nat → Bool} {e : Nat} {Ev : gV} {L : gU} {f : Nat} {t : Option Nat} {W : gOp}
theorem kd_srcR (hq : kV q) (hx : W = none → RX x0 X) (eW : W = pR K f t (nn x) L) (hB : BB x0 x M E0) (hf : (f : Int) + om x = 16) (ha : 2 * ssm x ≤ nx x + 1) (l a b : Int32) (hl : (a = -1 ∧ PLc x b) ∨ (¬ a = -1 ∧ 0 ≤ a.toInt ∧ a.toInt < M)) (hEv : ¬ Ev.2.1 = []) (hTc : TGc sN Ev t a b) (hT : TGT sN Ev x t a) (hA : KA K V sN e x) (hn : nn x ≤ e) (hE : KV' K e x Ev) (h : ∀ y, BB x0 y M E0 → nx x < nx y → om y = om x → ssm y = ssm x + 1 → (y.1 100 9 = x.1 100 9 ∧ y.1 100 7 = x.1 100 7 ∧ y.1 60 13 = x.1 60 13 ∧ (∀ k, y.1 20 k = x.1 20 k) ∧ OPe x y) → La x y → SFin K V sN e Ev x t L W y → Fv y) (D : Int32) (eD : D.toInt = om x + 1) (i2 e2 : Int32) (hi2 : i2 = -1) (he2 : e2 = -1) (hk1 : K (nn x) = 1) (hk2 : nn x < 700 → K (nn x + 1) = 65 ∨ (K (nn x + 1) = 67 ∧ kfi sN Ev.1 (nn x) = none)) : KE G q (d + 10) zk_X7_source 68 [(0, vr 100), (1, vi l), (2, vi a), (4, vi D), (5, vi (0 : Int32)), (6, vi b), (7, vi i2), (8, vi e2)] [] x (rv Fv) X := by
  have o1 := (BB_om hB).1
  have bx0 := hB.1.1.2.1
  have cx := nn_is bx0
  have k16 : (16 : Int32).toInt = 16 := rfl
  have p163 := kd_src163 (d := d) (G := G) hq hx hB hf ha l a b hl hEv hTc h D eD
  have so0 : sOp 0 a = 0 := by unfold sOp; rw [if_neg (fun q => absurd q.1 (by decide))]
  have eF : 17 - D.toNatClampNeg = f := by
    have u := t_cl D
    omega
  have nex : ¬ (K (nn x) = 35 ∨ K (nn x) = 10 ∨ K (nn x) = 16) := by rw [hk1]; decide
  have on1 : nn x < 700 → nn x + 1 ≤ e := fun c => KA_on hA hn c (by rw [hk1]; decide) (by rw [hk1]; decide)
  have k25 : nn x < 700 → (x.1 23 (nn x + 1) = 25 ↔ K (nn x + 1) = 65) := fun c => KA_k hA (on1 c) 25 (by decide)
  have bu : ∀ (u : Int32) (w : gd), ((¬ a = -1 ∧ (u = 6 ∨ u = 7)) ∨ (a = -1 ∧ (u = 8 ∨ u = 9))) → nx x < nx w → w.1 42 (nn x) = u → ¬ a = -1 ∨ (0 : Int32) = 16 ∨ BU w := by
    intro u w hu hw eu
    rcases hu with ⟨e, -⟩ | ⟨-, e⟩
    · exact Or.inl e
    · refine Or.inr (Or.inr ⟨nn x, by omega, ?_⟩)
      rw [eu]
      rcases e with e | e
      · exact Or.inr (Or.inl e)
      · exact Or.inr (Or.inr (Or.inl e))
  have row : ∀ s9 s0 : Int32, ¬ s9 = 0 → x.1 23 ((x.1 100 4).toNatClampNeg + 1) = 25 → ((¬ a = -1 ∧ s0 = 0) ∨ (a = -1 ∧ s0 = 1)) → KE G q (d + 10) zk_X7_source 132 [(0, vr 100), (1, vi l), (2, vi a), (4, vi D), (5, vi 0), (7, vi i2), (8, vi e2), (9, vi s9)] [vi s0, vi s9, vi 2, vr 100] x (rv Fv) X := by
    intro s9 s0 hs9 h25 hs0
    have hWp : W = (pP K f (nn x) (L ++ pme t)).bind (pan (75, nn x, 0)) := by
      by_cases c7 : nn x < 700
      · rw [eW]; unfold pR
        rw [if_neg nex, if_pos ⟨hk1, c7, (k25 c7).mp h25⟩]
      · rw [eW, pR_7 (by omega)]; unfold pP
        rw [if_neg (fun z => c7 z.2)]; rfl
    have go : ∀ u : Int32, ((¬ a = -1 ∧ u = 7) ∨ (a = -1 ∧ u = 9)) → KE G q (d + 9) zk_X7_needFor 0 [(0, vr 100), (1, vi 2), (2, vi u)] [] x (ri (fun r4 x3 => ((s9 = (0 : Int32) → KE G q (d + 10) zk_X7_source 163 [(0, vr 100), (1, vi l), (2, vi a), (4, vi D), (5, vi 0), (6, vi r4), (7, vi i2), (8, vi e2)] [] x3 (rv Fv) X) ∧ (¬ (s9 = (0 : Int32)) → KE G q (d + 9) zk_X7_pass 0 [(0, vr 100)] [] x3 (rv (fun x6 => KE G q (d + 9) zk_X7_sum 0 [(0, vr 100), (1, vi D)] [] x6 (ri (fun r8 x7 => KE G q (d + 9) zk_X7_need 0 [(0, vr 100), (1, vi 26)] [] x7 (rv (fun x9 => KE G q (d + 10) zk_X7_source 163 [(0, vr 100), (1, vi l), (2, vi a), (4, vi D), (5, vi 0), (6, vi r4), (7, vi r8), (8, vi e2)] [] x9 (rv Fv) X)) X)) X)) X)))) X := by
      intro u hu
      have hu2 : u = 7 ∨ u = 9 := hu.imp (fun z => z.2) (fun z => z.2)
      refine kd_place (x := x) hq hx hWp hB hA hn hE D eF (by omega) (by omega) u s9 i2 (by rcases hu2 with e | e <;> rw [e] <;> decide) ⟨fun _ => h25, fun _ => hs9⟩ pme_still hEv hi2 (PD_0 (fun c k _ => rfl) (Or.inl rfl)) cx.symm (fun c => absurd c hs9) (fun c z lz en hAz hnz eu => ?_) (fun r4 i9 w => KE G q (d + 10) zk_X7_source 163 [(0, vr 100), (1, vi l), (2, vi a), (4, vi D), (5, vi 0), (6, vi r4), (7, vi i9), (8, vi e2)] [] w (rv Fv) X) (fun i9 w N3 hBw gw nw uw hRw hNw hEw hWw hPw => ?_)
      · refine ⟨hAz, hnz, HAs_app.mpr ⟨TGT_me hT (fun ea => ⟨nn x, by omega, Or.inl ?_⟩), HAs_one.mpr (HA_7.mpr ⟨by omega, by rw [eu]; exact hu2⟩)⟩, fun j h1 h2 h3 => HBs_app.mpr ?_⟩
        · rcases hu with ⟨e, -⟩ | ⟨-, e⟩
          · exact absurd ea e
          · rw [eu]; exact e
        · have ej : j = nn x := by omega
          rw [ej, eu]
          rcases hu with ⟨-, e⟩ | ⟨ea, e⟩
          · rw [e]; exact Or.inr (HBs_one.mpr HB_7)
          · rw [e]; exact Or.inl (TGT_meB hT ea (Or.inr (Or.inl rfl)))
      · have hF : SFp K V sN e Ev x t L W (sOp 0 a) a (x.1 100 4) i9 e2 (-1) w := by
          refine ⟨hEw, pme t ++ N3 ++ [(75, nn x, 0)], ⟨hRw.1, hRw.2.1, UR_dull hRw.2.2 (dull_k (by decide))⟩, still_app hNw (stl_k (by decide)), fun t0 e1 e2 => HBs_app.mpr (Or.inl (pme_6 t0 e1 e2)), ?_, fun z9 hz9 => PD_75 hPw hEv hEw hTc (by rw [so0, he2] at hz9; exact hz9)⟩
          rw [hWw]
          show some (nn w, L ++ (pme t ++ N3) ++ [(75, nn x, 0)]) = _
          rw [List.append_assoc L]
        refine p163 w 0 _ i9 e2 (Or.inl ⟨rfl, hF⟩) gw hBw nw (by decide) (by decide) ⟨nn x, by rw [cx], by omega, ?_⟩ (bu u w (hu.imp (fun z => ⟨z.1, Or.inr z.2⟩) (fun z => ⟨z.1, Or.inr z.2⟩)) nw uw)
        rw [uw]
        rcases hu2 with e | e
        · exact Or.inr (Or.inl e)
        · exact Or.inr (Or.inr (Or.inr e))
    refine kg_X7_source_132 hq _ _ _ _ _ _ _ _ _ _ (kg_X7_useOfCell_0 hq _ _ ⟨fun c => absurd c hs9, fun c => ⟨fun c0 => ri_i (go _ (Or.inl ⟨?_, rfl⟩)), fun c0 => ri_i (go _ (Or.inr ⟨?_, rfl⟩))⟩⟩)
    · rcases hs0 with ⟨e, -⟩ | ⟨-, e⟩
      · exact e
      · rw [e] at c0; exact absurd c0 (by decide)
    · rcases hs0 with ⟨-, e⟩ | ⟨e, -⟩
      · exact absurd e c0
      · exact e
  have alone : ∀ s0 : Int32, ¬ x.1 23 ((x.1 100 4).toNatClampNeg + 1) = 25 → 1 ≤ f → ((¬ a = -1 ∧ s0 = 0) ∨ (a = -1 ∧ s0 = 1)) → KE G q (d + 10) zk_X7_source 132 [(0, vr 100), (1, vi l), (2, vi a), (4, vi D), (5, vi 0), (7, vi i2), (8, vi e2), (9, vi 0)] [vi s0, vi 0, vi 2, vr 100] x (rv Fv) X := by
    intro s0 h25 hf1 hs0
    have go : ∀ u : Int32, ((a = -1 ∧ u = 8) ∨ (¬ a = -1 ∧ u = 6)) → KE G q (d + 9) zk_X7_needFor 0 [(0, vr 100), (1, vi 2), (2, vi u)] [] x (ri (fun r4 x3 => (((0 : Int32) = (0 : Int32) → KE G q (d + 10) zk_X7_source 163 [(0, vr 100), (1, vi l), (2, vi a), (4, vi D), (5, vi 0), (6, vi r4), (7, vi i2), (8, vi e2)] [] x3 (rv Fv) X) ∧ (¬ ((0 : Int32) = (0 : Int32)) → KE G q (d + 9) zk_X7_pass 0 [(0, vr 100)] [] x3 (rv (fun x6 => KE G q (d + 9) zk_X7_sum 0 [(0, vr 100), (1, vi D)] [] x6 (ri (fun r8 x7 => KE G q (d + 9) zk_X7_need 0 [(0, vr 100), (1, vi 26)] [] x7 (rv (fun x9 => KE G q (d + 10) zk_X7_source 163 [(0, vr 100), (1, vi l), (2, vi a), (4, vi D), (5, vi 0), (6, vi r4), (7, vi r8), (8, vi e2)] [] x9 (rv Fv) X)) X)) X)) X)))) X := by
      intro u hu
      have hu2 : u = 8 ∨ u = 6 := hu.imp (fun z => z.2) (fun z => z.2)
      refine kd_needFor hq 2 u 1 (by decide) (by decide) (by decide) (by rcases hu2 with e | e <;> rw [e] <;> decide) (fun no => hx (by rw [eW]; exact pR_7 (by
        by_cases c7 : nn x < 700
        · exact absurd ⟨hk1, c7⟩ no
        · omega))) hB hA hn (fun kk c7 z hBz nz gz en hAz hnz eu ht hcz => ⟨fun _ => ?_, fun q => absurd rfl q⟩)
      have n65 : ¬ K (nn x + 1) = 65 := fun z => h25 ((k25 c7).mpr z)
      obtain ⟨h67, hk⟩ := (hk2 c7).resolve_left n65
      have hF : SFp K V sN e Ev x t L W (sOp 0 a) a (x.1 100 4) i2 e2 (-1) z := by
        refine ⟨KV_GS gz hE, [pal t (nn x)], ⟨hAz, hnz, TGT_al hT bx0 gz.1 en eu (Or.inl ⟨hk, hu⟩)⟩, pal_still, pal_6, ?_, fun z9 hz9 => PD_al hcz (KV_GS gz hE) hTc hk cx.symm (by rw [so0, hi2, he2] at hz9; exact hz9)⟩
        rw [eW]; unfold pR
        rw [if_neg nex, if_neg (fun z => n65 z.2.2), if_pos ⟨hk1, h67⟩, if_pos ⟨c7, hf1⟩, en]
      refine p163 z 0 _ i2 e2 (Or.inl ⟨rfl, hF⟩) gz hBz (by omega) (by decide) (by decide) ⟨nn x, by rw [cx], by omega, ?_⟩ (bu u z (hu.symm.imp (fun z => ⟨z.1, Or.inl z.2⟩) (fun z => ⟨z.1, Or.inl z.2⟩)) (by omega) eu)
      rw [eu]
      rcases hu2 with e | e
      · exact Or.inr (Or.inr (Or.inl e))
      · exact Or.inl e
    refine kg_X7_source_132 hq _ _ _ _ _ _ _ _ _ _ (kg_X7_useOfCell_0 hq _ _ ⟨fun _ => ⟨fun c0 => ri_i (go _ (Or.inr ⟨?_, rfl⟩)), fun c0 => ri_i (go _ (Or.inl ⟨?_, rfl⟩))⟩, fun c => absurd rfl c⟩)
    · rcases hs0 with ⟨e, -⟩ | ⟨-, e⟩
      · exact e
      · rw [e] at c0; exact absurd c0 (by decide)
    · rcases hs0 with ⟨-, e⟩ | ⟨e, -⟩
      · exact absurd e c0
      · exact e
  refine kg_X7_source_68 hq _ _ _ _ _ _ _ ⟨fun z => absurd z (by decide), fun _ => kp_sortBehind hq hB.1.1 ⟨fun c => kg_X7_source_89 hq _ _ _ _ _ _ _ ⟨fun z => absurd rfl z, fun _ => ⟨fun z => absurd rfl z, fun _ => ⟨fun cD => kg_X7_source_113 hq _ _ _ _ _ _ _ ⟨fun z => absurd rfl z, fun _ => ⟨fun ca => alone 0 c ?_ (Or.inl ⟨ca, rfl⟩), fun ca => alone 1 c ?_ (Or.inr ⟨ca, rfl⟩)⟩⟩, fun cD => kd_refuse hq (hx ?_) hB _⟩⟩⟩, fun c => kg_X7_source_89 hq _ _ _ _ _ _ _ ⟨fun z => absurd rfl z, fun _ => ⟨fun _ => kg_X7_source_113 hq _ _ _ _ _ _ _ ⟨fun z => absurd rfl z, fun _ => ⟨fun ca => row 1 0 (by decide) c (Or.inl ⟨ca, rfl⟩), fun ca => row 1 1 (by decide) c (Or.inr ⟨ca, rfl⟩)⟩⟩, fun z => absurd z (by decide)⟩⟩⟩⟩
  · rw [t_le, k16] at cD; omega
  · rw [t_le, k16] at cD; omega
  · rw [t_le, k16] at cD
    by_cases c7 : nn x < 700
    · have n65 : ¬ K (nn x + 1) = 65 := fun z => c ((k25 c7).mpr z)
      obtain ⟨h67, hk⟩ := (hk2 c7).resolve_left n65
      rw [eW]; unfold pR
      rw [if_neg nex, if_neg (fun z => n65 z.2.2), if_pos ⟨hk1, h67⟩, if_neg (by omega)]
    · rw [eW]; exact pR_7 (by omega)
theorem kd_source (hq : kV q) (hx : W = none → RX x0 X) (eW : W = pR K f t (nn x) L) (hB : BB x0 x M E0) (hf : (f : Int) + om x = 16) (ha : 2 * ssm x ≤ nx x + 1) (l a b : Int32) (hl : (a = -1 ∧ PLc x b) ∨ (¬ a = -1 ∧ 0 ≤ a.toInt ∧ a.toInt < M)) (hEv : ¬ Ev.2.1 = []) (hTc : TGc sN Ev t a b) (hT : TGT sN Ev x t a) (hA : KA K V sN e x) (hn : nn x ≤ e) (hE : KV' K e x Ev) (h : ∀ y, BB x0 y M E0 → nx x < nx y → om y = om x → ssm y = ssm x + 1 → (y.1 100 9 = x.1 100 9 ∧ y.1 100 7 = x.1 100 7 ∧ y.1 60 13 = x.1 60 13 ∧ (∀ k, y.1 20 k = x.1 20 k) ∧ OPe x y) → La x y → SFin K V sN e Ev x t L W y → Fv y) : KE G q (d + 10) zk_X7_source 0 [(0, vr 100), (1, vi l), (2, vi a), (3, vi b)] [] x (rv Fv) X := by
  obtain ⟨o1, o2⟩ := BB_om hB
  have bx0 := hB.1.1.2.1
  have cx := nn_is bx0
  have eD := o2 (by omega)
  obtain ⟨D, hD⟩ : ∃ D, D = x.1 100 13 + 1 := ⟨_, rfl⟩
  rw [← hD] at eD
  have p41 : ∀ (o i2 e2 : Int32), i2 = -1 → e2 = -1 → ((o = 2 ∧ K (nn x) = 35) ∨ (o = 3 ∧ K (nn x) = 10) ∨ (o = 4 ∧ K (nn x) = 16)) → KE G q (d + 10) zk_X7_source 41 [(0, vr 100), (1, vi l), (2, vi a), (4, vi D), (5, vi o), (6, vi b), (7, vi i2), (8, vi e2)] [] x (rv Fv) X := by
    intro o i2 e2 hi2 he2 ho
    have hkk : ¬ K (nn x) = 0 ∧ ¬ K (nn x) = 3 := by rcases ho with ⟨-, k⟩ | ⟨-, k⟩ | ⟨-, k⟩ <;> rw [k] <;> decide
    have p63 : ∀ u : Int32, ((u = 0 ∧ ¬ a = -1) ∨ (u = 10 ∧ a = -1)) → KE G q (d + 10) zk_X7_source 63 [(0, vr 100), (1, vi l), (2, vi a), (4, vi D), (5, vi o), (6, vi b), (7, vi i2), (8, vi e2)] [vi u, vi (x.1 100 4), vr 42] x (rv Fv) X := by
      intro u hu
      refine kg_X7_source_63 hq _ _ _ _ _ _ _ _ _ ⟨RB_at hB.1.1, fun x2 ex2 => ?_⟩
      have f2 : fm (fun c k => c = 42 ∧ k = (x.1 100 4).toNatClampNeg) x x2 := by rw [ex2]; exact fm_si (fm_rf _ _) ⟨rfl, rfl⟩
      have u2 : x2.1 42 (x.1 100 4).toNatClampNeg = u := by rw [ex2]; (simp only [si_get, sfl_get, Nat.reduceEqDiff, eq_self, and_false, false_and, and_true, true_and, if_true, if_false, reduceIte, reduceCtorEq])
      have q4 : x2.1 100 4 = x.1 100 4 := f2 _ _ (by omega)
      have eN := BB_N hB
      have n2 : nx x2 = nx x := by unfold nx; rw [q4]
      have la2 : La x x2 := ⟨fun c k q1 q2 => f2 c k (by omega), by omega, fun j hj => f2 42 j (by omega)⟩
      have S2 : SU x2 := by
        obtain ⟨⟨hT, b1, b2, b3⟩, ⟨u1, u2⟩, hp, hP⟩ := hB.1
        unfold SU SV US RB mt
        rw [f2 20 7 (by omega), f2 60 3 (by omega), n2]
        refine ⟨⟨kT_fm hT la2.1, b1, b2, b3⟩, ⟨fun j h1 h2 => ?_, fun j h1 h2 => ?_⟩, hp, fun i hi => La_PQ la2 (f2 _ _ (by omega)) (f2 _ _ (by omega)) (hP i hi)⟩
        · rw [f2 42 j (by omega)]; exact u1 j h1 h2
        · rw [f2 42 j (by omega)] at h2; rw [f2 42 _ (by omega)]; exact u2 j h1 h2
      have z2 : fm sR x0 x2 := fm_tr hB.2.2.2.2.2.1 (fm_w f2 (fun c k q => by unfold sR; omega))
      refine kf_pass hq z2 (fun c7 => hx (by rw [eW]; exact pR_7 (by omega))) S2 (by rw [q4, f2 23 _ (by omega)]; exact sort_n0 hA hn hkk.1) (by rw [q4, u2]; rcases hu with ⟨rfl, -⟩ | ⟨rfl, -⟩ <;> decide) (fun c7 y f n S fr la _ => ?_)
      have g : GS x y := ⟨La_tr la2 la, fm_tr (fm_w f2 (fun c k q => by unfold sSum; omega)) (fm_w f (fun c k q => by unfold sSum; omega))⟩
      have SUy : SU y := by unfold SU; rw [f 60 3 (by omega)]; exact S
      have i7 : nn x < 700 := by omega
      have ny : nn y = nn x + 1 := nn_up bx0 (by omega)
      have uy : y.1 42 (nn x) = u := by rw [f 42 _ (by omega)]; exact u2
      refine kd_srcX hq hx eW hB hf ha l a b hl hEv hTc hT hA hn hE h D eD o i2 e2 hi2 he2 (fun c k q9 => (f c k (by unfold ccS at q9; omega)).trans (f2 c k (by unfold ccS at q9; omega))) ho g (BB_on hB SUy fr g) ⟨KA_fm hA g.1.1, by rw [ny]; exact KA_on hA hn i7 hkk.1 hkk.2, TGT_me hT (fun ea => ⟨nn x, by omega, Or.inr ?_⟩), fun j h1 h2 h3 => ?_⟩ ny i7 ?_
      · rcases hu with ⟨-, e⟩ | ⟨e, -⟩
        · exact absurd ea e
        · rw [uy]; exact e
      · have ej : j = nn x := by omega
        rw [ej, uy] at h3 ⊢
        rcases hu with ⟨e, -⟩ | ⟨e, ea⟩
        · exact absurd e h3
        · exact TGT_meB hT ea (Or.inr (Or.inr e))
      · rcases hu with ⟨-, e⟩ | ⟨e, -⟩
        · exact Or.inl e
        · refine Or.inr ⟨nn x, by omega, ?_⟩
          rw [uy, e]
          decide
    exact kg_X7_source_41 hq _ _ _ _ _ _ _ ⟨fun c => p63 _ (Or.inl ⟨rfl, c⟩), fun c => p63 _ (Or.inr ⟨rfl, c⟩)⟩
  refine kg_X7_source_0 hq _ _ _ (kd_sourceOp hq hB hA hn hE (fun r hr => ?_))
  rw [← hD]
  have ex : (r = 2 ∨ r = 3 ∨ r = 4) → ((r = 2 ∧ K (nn x) = 35) ∨ (r = 3 ∧ K (nn x) = 10) ∨ (r = 4 ∧ K (nn x) = 16)) := by
    intro c
    rcases hr with e | e | e | ⟨e, -⟩ | ⟨e, -⟩
    · exact Or.inl e
    · exact Or.inr (Or.inl e)
    · exact Or.inr (Or.inr e)
    · rw [e] at c; exact absurd c (by decide)
    · rw [e] at c; exact absurd c (by decide)
  refine ⟨fun c => p41 r _ _ rfl rfl (ex (Or.inl c)), fun c2 => ⟨fun c => p41 r _ _ rfl rfl (ex (Or.inr (Or.inl c))), fun c3 => ⟨fun c4 => ?_, fun c => p41 r _ _ rfl rfl (ex (Or.inr (Or.inr c)))⟩⟩⟩
  rcases hr with ⟨e, -⟩ | ⟨e, -⟩ | ⟨e, -⟩ | ⟨e, e1, e2⟩ | ⟨e, e1, e2⟩
  · exact absurd e c2
  · exact absurd e c3
  · exact absurd e c4
  · rw [e]; exact kd_srcR hq hx eW hB hf ha l a b hl hEv hTc hT hA hn hE h D eD _ _ rfl rfl e1 e2
  · rw [e]; exact kd_srcS hq hx eW hB hf ha l a b hl hEv hTc hT hA hn hE h D eD _ _ rfl rfl e1 e2
end KSO5
