section
/-! the class: an operand is read -/
section KPF
variable {G : kG} {q : kP} {d : Nat} {x x0 y z : gd} {F : Int32 → gd → Prop} {Fv : gd → Prop} {X : String → gd → Prop} {P : Option gv → gd → Prop} {m : Int} {K V : Nat → Int32} {sN : Nat → Nat → Bool} {e : Nat} {E : gV} {M N : gU} {o : Bool}
theorem dull_k {k a b : Nat} (h : ∀ u ∈ [3, 6, 7, 12, 23, 24, 25, 26, 27, 65, 66, 67, 70, 31, 32, 33, 34], ¬ k = u) : dull (k, a, b) := h
theorem stl_k {k a b : Nat} (h : ¬ k = 20 ∧ ¬ k = 21 ∧ ¬ k = 22) : still [(k, a, b)] := still_one h
theorem RI_app (h0 : 0 ≤ nx y) (hM : still M) (h : RIw K V sN e E x y M) (l : La y z) (g : RIw K V sN e E y z N) : RIw K V sN e E x z (M ++ N) := ⟨g.1, g.2.1, UR_app h0 h.2.2 l (by rw [exs_still hM]; exact g.2.2)⟩
theorem RI_0 (h : RIw K V sN e E x y M) : RIw K V sN e E y y [] := ⟨h.1, h.2.1, UR_0 rfl⟩
/-- a local is known, or not -/
theorem kfi_of {t : Nat} (h : ∀ (p : Nat) (k : Nat × Nat), p < E.1.length - (0 : Int32).toNatClampNeg → E.1[p]? = some k → ¬ sN k.1 t = true) : kfi sN E.1 t = none := kfi_none (fun p k hk => h p k (by
  obtain ⟨hp, -⟩ := List.getElem?_eq_some_iff.mp hk
  have : (0 : Int32).toNatClampNeg = 0 := rfl
  omega) hk)
theorem kf_readOperand (hq : kV q) (h0 : fm sR x0 x) (L : gU) (f : Nat) (hx : pO (pE K o f) K o (nn x) L = none → RX x0 X) (hS : SU x) (hH : HI x) (hf : FR x) (hK : x.1 23 (x.1 100 4).toNatClampNeg = 3 ∨ x.1 23 (x.1 100 4).toNatClampNeg = 62 ∨ (x.1 23 (x.1 100 4).toNatClampNeg = 2 ∧ o = false ∧ KN x ∧ KV' K e x E)) (hR : RIw K V sN e E x x []) (h : ∀ y, SM x y → FR y → hz y = hz x → y.1 100 17 = x.1 100 17 → (∀ k, y.1 116 k = x.1 116 k ∧ y.1 117 k = x.1 117 k) → nx y = nx x + 1 → ∀ M, RIw K V sN e E x y M → still M → pO (pE K o f) K o (nn x) L = some (nn y, L ++ M) → CPl x y (sPs sN V K E M) → (∀ k, y.1 115 k = x.1 115 k) → Fv y) : KE G q (d + 8) zk_X7_readOperand 0 [(0, vr 100)] [] x (rv Fv) X := by
  have hs : ¬ x.1 23 (x.1 100 4).toNatClampNeg = 0 ∧ ¬ x.1 23 (x.1 100 4).toNatClampNeg = 1 := by
    rcases hK with e | e | ⟨e, -⟩ <;> rw [e] <;> decide
  have hlt := RB_lt hS.1 hs.1
  have htk : tk x (x.1 100 4) := ⟨hS.1.2.1, hlt⟩
  have hKi : kc (x.1 23 (x.1 100 4).toNatClampNeg) = K (nn x) := hR.1.1 _ hR.2.1
  have kk0 : ¬ K (nn x) = 0 := by
    rw [← hKi]
    exact fun z => hs.1 (kc_i (c := 0) (z.trans (by decide)) (by decide))
  have kk3 : ¬ K (nn x) = 3 := by
    rw [← hKi]
    exact fun z => hs.2 (kc_i1 z)
  have b1 := hS.1.2.1
  have un := nn_is b1
  have fin : ∀ (z w : gd) (u : Int32) (M : gU), ¬ u = 12 → fm (fun c k => c = 42 ∧ k = (x.1 100 4).toNatClampNeg) x z → z.1 42 (x.1 100 4).toNatClampNeg = u → SU z → ∀ p a : Int32, AP z w p a → CPl z w [(p, a)] → sPs sN V K E M = [(p, a)] → ((p = 2 → (0 ≤ a.toInt ∧ a.toInt < 24) ∨ z.1 42 (x.1 100 4).toNatClampNeg = 3) ∧ ¬ p = 6) → (∀ (U : Nat → Int32) (n : Nat), U (nn x) = u → nn x < n → HAs sN U n M E) → (¬ u = 0 → HBs sN M E (nn x) u) → still M → (nn x < 700 → pO (pE K o f) K o (nn x) L = some (nn x + 1, L ++ M)) → KE G q (d + 8) zk_X7_readOperand 93 [(0, vr 100)] [] w (rv Fv) X := by
    intro z w u M hu12 fz eu hSz p a hA hCA hsp hp26 mA mB hst hpO
    obtain ⟨hp2, hp6⟩ := hp26
    have e4 : w.1 100 4 = x.1 100 4 := by rw [hA.1 _ _ (by omega), fz _ _ (by omega)]
    have Sw : SV w (z.1 60 3).toInt := AP_SV (Int.le_refl _) hSz hA
    have us : w.1 42 (w.1 100 4).toNatClampNeg = u := by rw [e4, hA.1 42 _ (by omega)]; exact eu
    have f0 : fm sSum x w := fm_tr (fm_w fz (fun c k q => by unfold sSum; omega)) (fm_w hA.1 (fun c k q => by unfold sSum; omega))
    have e5 : nx w = nx x := by unfold nx; rw [e4]
    refine kg_X7_readOperand_93 hq (kf_pass hq (fm_tr h0 (fm_w f0 (fun c k q => sSum_R q))) (fun c7 => hx ?_) Sw (by rw [e4, f0 23 _ (by unfold sSum; omega)]; exact hs.1) (by rw [us]; exact hu12) (fun c7 y f n1 S fr la _ => ?_))
    · unfold pO
      rw [if_pos (by omega)]
    have fx : fm sSum x y := fm_tr f0 (fm_w f (fun c k q => by unfold sSum; omega))
    have SUy : SU y := by
      refine ⟨S.1, S.2.1, S.2.2.1, fun i hi => ?_⟩
      rw [f 60 3 (by omega)] at hi
      rcases hA.2.2.2.2 i hi with e | ⟨e1, e2⟩
      · exact S.2.2.2 i e
      · unfold PQ
        rw [f 62 i (by omega), f 63 i (by omega), e1, e2]
        refine ⟨fun c => ?_, fun c => absurd c hp6⟩
        rcases hp2 c with g | g
        · exact Or.inl g
        · refine Or.inr ⟨(x.1 100 4).toNatClampNeg, ?_, Or.inl ?_⟩
          · have b1 := hS.1.2.1
            rw [n1, e5, t_cl]; unfold nx at *; omega
          · rw [f 42 _ (by omega), hA.1 42 _ (by omega)]; exact g
    obtain ⟨g1, g2⟩ := HI_eq (z := y) hH (by rw [f _ _ (by omega), hA.1 _ _ (by omega), fz _ _ (by omega)]) (fun c k q1 q2 => by rw [f _ _ (by omega), hA.1 _ _ (by omega), fz _ _ (by omega)])
    have laxy : La x y := ⟨fun c k q1 q2 => fx c k (by unfold sSum; omega), by omega, fun j hj => by rw [f 42 j (by omega), hA.1 42 j (by omega), fz 42 j (by rw [t_cl]; have b1 := hS.1.2.1; unfold nx at *; omega)]⟩
    have ny := nn_up (y := x) (z := y) b1 (by omega)
    have uy : y.1 42 (nn x) = u := by rw [f 42 _ (by omega), hA.1 42 _ (by omega)]; exact eu
    refine rv_i (h y ⟨SUy, g1, laxy, fx⟩ fr g2 (by rw [f _ _ (by omega), hA.1 _ _ (by omega), fz _ _ (by omega)]) (fun k => ⟨by rw [f _ _ (by omega), hA.1 _ _ (by omega), fz _ _ (by omega)], by rw [f _ _ (by omega), hA.1 _ _ (by omega), fz _ _ (by omega)]⟩) (by omega) M ⟨KA_fm hR.1 laxy.1, by rw [ny]; exact KA_on hR.1 hR.2.1 (by omega) kk0 kk3, mA _ _ uy (by omega), fun j h1 h2 h3 => ?_⟩ hst (by rw [ny]; exact hpO (by omega)) ?_ (fun k => by rw [f _ _ (by omega), hA.1 _ _ (by omega), fz _ _ (by omega)]))
    rotate_left
    · rw [hsp]
      have c1 : CPl x z [] := CPl_st CPl_rf (fz _ _ (by omega)) (fun k => ⟨fz _ _ (by omega), fz _ _ (by omega)⟩)
      exact CPl_st (CPl_app c1 hCA) (f _ _ (by omega)) (fun k => ⟨f _ _ (by omega), f _ _ (by omega)⟩)
    have ej : j = nn x := by omega
    rw [ej, uy] at h3 ⊢
    exact mB h3
  have pO2 : x.1 23 (x.1 100 4).toNatClampNeg = 3 → nn x < 700 → pO (pE K o f) K o (nn x) L = some (nn x + 1, L ++ [(52, nn x, 0)]) := fun c h7 => by
    have : K (nn x) = 2 := by rw [← hKi, c]; decide
    unfold pO
    rw [if_neg (by omega), if_pos this]
  have pO62 : x.1 23 (x.1 100 4).toNatClampNeg = 62 → nn x < 700 → pO (pE K o f) K o (nn x) L = some (nn x + 1, L ++ [(53, nn x, 0)]) := fun c h7 => by
    have : K (nn x) = 32 := by rw [← hKi, c]; decide
    unfold pO
    rw [if_neg (by omega), if_neg (by rw [this]; decide), if_pos this]
  have dl : ∀ {v : Nat × Nat × Nat} {u : Int32}, dull v → u = 0 → (∀ (U : Nat → Int32) (n : Nat), U (nn x) = u → nn x < n → HAs sN U n [v] E) ∧ (¬ u = 0 → HBs sN [v] E (nn x) u) := fun hv hu => ⟨fun U n _ _ => HAs_one.mpr (HA_dull hv), fun z => absurd hu z⟩
  have p83 : x.1 23 (x.1 100 4).toNatClampNeg = 2 → o = false → ∀ l s : Int32, (l = -1 ∧ s = 3 ∧ kfi sN E.1 (nn x) = none ∨ (0 ≤ l.toInt ∧ l.toInt < 24) ∧ s = 0 ∧ ¬ kfi sN E.1 (nn x) = none) → l = (match kfi sN E.1 (nn x) with | some p => Int32.ofNat p | none => -1) → KE G q (d + 8) zk_X7_readOperand 83 [(0, vr 100), (1, vi l)] [vi s, vi (x.1 100 4), vr 42] x (rv Fv) X := by
    intro c2 co l s hls hl9
    refine kg_X7_readOperand_83 hq _ _ _ ⟨RB_at hS.1, fun z ez => ?_⟩
    have fz : fm (fun c k => c = 42 ∧ k = (x.1 100 4).toNatClampNeg) x z := by rw [ez]; exact fm_si (fm_rf _ _) ⟨rfl, rfl⟩
    have eu : z.1 42 (x.1 100 4).toNatClampNeg = s := by rw [ez]; (simp only [si_get, sfl_get, Nat.reduceEqDiff, eq_self, and_false, false_and, and_true, true_and, if_true, if_false, reduceIte, reduceCtorEq])
    have e4 : z.1 100 4 = x.1 100 4 := fz _ _ (by omega)
    have e7 : z.1 20 7 = x.1 20 7 := fz _ _ (by omega)
    have b1 := hS.1.2.1
    have eN : ((x.1 100 4).toNatClampNeg : Int) = nx x := by rw [t_cl]; unfold nx at *; omega
    have la : La x z := ⟨fun c k q1 q2 => fz c k (by omega), by unfold nx; rw [e4]; exact Int.le_refl _, fun j hj => fz 42 j (by omega)⟩
    have Sz : SU z := by
      obtain ⟨⟨hT, b1, b2, b3⟩, ⟨u1, u2⟩, hp, hP⟩ := hS
      unfold SU SV US RB mt
      have q3 : z.1 60 3 = x.1 60 3 := fz _ _ (by omega)
      have nn : nx z = nx x := by unfold nx; rw [e4]
      rw [e7, q3, nn]
      refine ⟨⟨kT_fm hT la.1, b1, b2, b3⟩, ⟨fun j h1 h2 => ?_, fun j h1 h2 => ?_⟩, hp, fun i hi => La_PQ la (fz _ _ (by omega)) (fz _ _ (by omega)) (hP i hi)⟩
      · rw [fz 42 j (by omega)]; exact u1 j h1 h2
      · rw [fz 42 j (by omega)] at h2; rw [fz 42 _ (by omega)]; exact u2 j h1 h2
    refine kf_addPart hq _ _ Sz.2.2.1 (fun w hA hCA => fin z w s [(3, nn x, 0)] ?_ fz eu Sz 2 l hA hCA (by rw [hl9]; rfl) ⟨fun _ => ?_, by decide⟩ (fun U n hU hn => HAs_one.mpr (HA_3.mpr ⟨hn, fun hk => ?_⟩)) (fun z => HBs_one.mpr (Or.inl ⟨rfl, ?_, rfl, ?_⟩)) (stl_k (by decide)) (fun h7 => ?_))
    · rcases hls with ⟨-, rfl, -⟩ | ⟨-, rfl, -⟩ <;> decide
    · rcases hls with ⟨-, e, -⟩ | ⟨e, -⟩
      · exact Or.inr (by rw [eu, e])
      · exact Or.inl e
    · rcases hls with ⟨-, e, -⟩ | ⟨-, -, e⟩
      · rw [hU, e]
      · exact absurd hk e
    · rcases hls with ⟨-, e, -⟩ | ⟨-, e, -⟩
      · exact e
      · exact absurd e z
    · rcases hls with ⟨-, -, e⟩ | ⟨-, e, -⟩
      · exact e
      · exact absurd e z
    · have k1 : K (nn x) = 1 := by rw [← hKi, c2]; decide
      unfold pO
      rw [if_neg (by omega), if_neg (by rw [k1]; decide), if_neg (by rw [k1]; decide), if_neg (by rw [k1]; decide), if_pos k1, if_neg (by rw [co]; decide)]
  have k0 : (0 : Int32).toInt = 0 := rfl
  have p0 : x.1 23 (x.1 100 4).toNatClampNeg = 2 → o = false → KN x → KV' K e x E → KT G q (d + 7) zk_X7_knownFrom 0 [(0, vr 100), (1, vi 0), (2, vi (x.1 100 4))] [] x (ri (fun r8 x7 => ((¬ (r8 = (-1 : Int32)) → KE G q (d + 8) zk_X7_readOperand 83 [(0, vr 100), (1, vi r8)] [vi 0, vi (x7.1 100 4), vr 42] x7 (rv Fv) X) ∧ (r8 = (-1 : Int32) → KE G q (d + 8) zk_X7_readOperand 83 [(0, vr 100), (1, vi r8)] [vi 3, vi (x7.1 100 4), vr 42] x7 (rv Fv) X)))) := by
    intro c2 co hN hE
    have k8 := hN.1.2
    have e9 := hE.1
    refine kf_knownFrom hq hS.1.1 hN hR.1 hE _ _ (by decide) htk hR.2.1 (by rw [show K (x.1 100 4).toNatClampNeg = K (nn x) from rfl, ← hKi, c2]; decide) (fun r hr => ⟨fun c => p83 c2 co _ _ (Or.inr ?_) ?_, fun c => p83 c2 co _ _ (Or.inl ⟨c, rfl, ?_⟩) ?_⟩)
    · rcases hr with ⟨e, -⟩ | ⟨n, e1, e2, e3, e4, -⟩
      · exact absurd e c
      · exact ⟨⟨by omega, by omega⟩, rfl, by rw [show nn x = (x.1 100 4).toNatClampNeg from rfl, e4]; simp⟩
    · rcases hr with ⟨e, -⟩ | ⟨n, e1, e2, e3, e4, -⟩
      · exact absurd e c
      · rw [show nn x = (x.1 100 4).toNatClampNeg from rfl, e4]
        exact i32_of e1
    · rcases hr with ⟨-, e⟩ | ⟨n, e1, e2, e3, e4, -⟩
      · exact kfi_of e
      · exfalso
        rw [c, tm1] at e1
        omega
    · rcases hr with ⟨e0, e⟩ | ⟨n, e1, e2, e3, e4, -⟩
      · rw [show kfi sN E.1 (nn x) = none from kfi_of e]; exact e0
      · exfalso
        rw [c, tm1] at e1
        omega
  refine kg_X7_readOperand_0 hq (kp_sort hq hS.1 ⟨fun c3 => kp_sort hq hS.1 ⟨fun c62 => ?_, fun c62 => kf_addPart hq _ _ hS.2.2.1 (fun w hA hCA => fin x w 0 [(53, nn x, 0)] (by decide) (fm_rf _ _) hf hS 3 0 hA hCA rfl ⟨fun c => absurd c (by decide), by decide⟩ (dl (dull_k (by decide)) rfl).1 (dl (dull_k (by decide)) rfl).2 (stl_k (by decide)) (pO62 c62))⟩, fun c3 => ⟨RB_at hS.1, kf_addPart hq _ _ hS.2.2.1 (fun w hA hCA => fin x w 0 [(52, nn x, 0)] (by decide) (fm_rf _ _) hf hS 1 _ hA hCA (by rw [show x.1 27 (x.1 100 4).toNatClampNeg = V (nn x) from hR.1.2.1 _ hR.2.1 (by rw [← hKi, c3]; decide)]; rfl) ⟨fun c => absurd c (by decide), by decide⟩ (dl (dull_k (by decide)) rfl).1 (dl (dull_k (by decide)) rfl).2 (stl_k (by decide)) (pO2 c3))⟩⟩)
  rcases hK with e | e | ⟨e1, e2, e3, e4⟩
  · exact absurd e c3
  · exact absurd e c62
  · exact p0 e1 e2 e3 e4
end KPF
end
section
/-! the class: a cell in a claim -/
section KCF2
variable {G : kG} {q : kP} {d : Nat} {x x0 y z : gd} {F : Int32 → gd → Prop} {Fv : gd → Prop} {X : String → gd → Prop} {P : Option gv → gd → Prop} {m : Int} {K V : Nat → Int32} {sN : Nat → Nat → Bool} {e : Nat} {E : gV} {M N : gU} {o : Bool}
theorem exV_k {k a b : Nat} (h : ¬ k = 20 ∧ ¬ k = 21 ∧ ¬ k = 22) : exV E (k, a, b) = E := exV_still h
theorem UR_row (N8 : nn y = nn x + 4) (v0 : y.1 42 (nn x) = 7) (v1 : y.1 42 (nn x + 1) = 0) (v2 : y.1 42 (nn x + 2) = 12) (v3 : y.1 42 (nn x + 3) = 0) : UR sN E x y [(7, nn x, 0), (12, nn x + 2, nn x)] := by
  have x7 : exV E (7, nn x, 0) = E := exV_k (by decide)
  refine ⟨⟨HA_7.mpr ⟨by omega, Or.inl v0⟩, by rw [x7]; exact HAs_one.mpr (HA_12.mpr ⟨by omega, v2, rfl⟩)⟩, fun j h1 h2 h3 => ?_⟩
  have hj : j = nn x ∨ j = nn x + 1 ∨ j = nn x + 2 ∨ j = nn x + 3 := by omega
  rcases hj with ej | ej | ej | ej
  · rw [ej, v0]
    exact Or.inl (Or.inr (Or.inr (Or.inl ⟨rfl, rfl, rfl⟩)))
  · rw [ej] at h3; exact absurd v1 h3
  · rw [ej, v2]
    exact Or.inr (HBs_one.mpr (Or.inr (Or.inr (Or.inr (Or.inl ⟨rfl, rfl, rfl, rfl⟩)))))
  · rw [ej] at h3; exact absurd v3 h3
theorem kf_claimRow {y3 : gd} (hq : kV q) (z3 : fm sR x0 y3) (S3 : SV y3 m) (r3 : FR y3) (N3 : nn y3 = nn x + 1) (b1 : 0 ≤ nx x) (hA : KA K V sN e x) (La3 : La x y3) (on1 : nn x + 1 ≤ e) (hK1 : K (nn x + 1) = 65) (u3 : y3.1 42 (nn x) = 7) (hx : ¬ (nn x + 1 < 700 ∧ (K (nn x + 2) = 2 ∧ nn x + 2 < 700) ∧ K (nn x + 3) = 66 ∧ nn x + 3 < 700) → RX x0 X)
    (h : ∀ y8, (nn x + 1 < 700 ∧ (K (nn x + 2) = 2 ∧ nn x + 2 < 700) ∧ K (nn x + 3) = 66 ∧ nn x + 3 < 700) → SV y8 m → FR y8 → La x y8 → fm (fun c k => c = 42 ∨ (c = 100 ∧ k = 4)) y3 y8 → nn y8 = nn x + 4 → RIw K V sN e E x y8 [(7, nn x, 0), (12, nn x + 2, nn x)] → y8.1 23 (nn x + 2) = 3 → y8.1 42 (nn x) = 7 → y8.1 42 (nn x + 2) = 12 → Fv y8) :
    KE G q (d + 7) zk_X7_pass 0 [(0, vr 100)] [] y3 (rv (fun x5 => KE G q (d + 7) zk_X7_needFor 0 [(0, vr 100), (1, vi 3), (2, vi 12)] [] x5 (ri (fun r7 x6 => KE G q (d + 7) zk_X7_need 0 [(0, vr 100), (1, vi 26)] [] x6 (rv Fv) X)) X)) X := by
  have hA3 : KA K V sN e y3 := KA_fm hA La3.1
  have b3 := S3.1.2.1
  have c3 := nn_is b3
  have m3 : (y3.1 100 4).toNatClampNeg = nn x + 1 := N3
  have q1 : kc (y3.1 23 (nn x + 1)) = 65 := by rw [hA3.1 _ on1]; exact hK1
  have q1n : ¬ y3.1 23 (y3.1 100 4).toNatClampNeg = 0 := by
    rw [m3]; intro z; rw [z] at q1; exact absurd q1 (by decide)
  refine kf_pass hq z3 (fun c9 => hx (by omega)) S3 q1n (FR_12 r3) (fun c9 y5 f5 n5 S5 r5 l5 z5 => ?_)
  have i1 : nn x + 1 < 700 := by omega
  have N5 : nn y5 = nn x + 2 := by have := nn_up (y := y3) (z := y5) b3 n5; omega
  have m5 : (y5.1 100 4).toNatClampNeg = nn x + 2 := N5
  have on2 : nn x + 2 ≤ e := KA_on hA on1 i1 (by rw [hK1]; decide) (by rw [hK1]; decide)
  have hA5 : KA K V sN e y5 := KA_fm hA3 l5.1
  have b5 := S5.1.2.1
  have c5 := nn_is b5
  have k3 : y5.1 23 (nn x + 2) = 3 ↔ K (nn x + 2) = 2 := KA_k hA5 on2 3 (by decide)
  have u5 : ∀ j, y5.1 42 j = y3.1 42 j := fun j => f5 _ _ (fun q => absurd q.1 (by decide))
  clear c9 n5 c3 b3
  refine kf_needFor hq z5 3 12 (fun c10 => hx ?_) S5 (by decide) (fun _ => ⟨by omega, ?_⟩) (fun cw c10 y6 f6 u6 n6 S6 r6 l6 z6 _ => ?_)
  · rintro ⟨-, ⟨d1, d2⟩, -⟩
    rcases c10 with c10 | c10
    · rw [m5] at c10
      exact c10 (k3.mpr d1)
    · omega
  · rw [m5, Nat.add_sub_cancel, u5]
    exact u3
  rw [m5] at cw u6 f6
  have hK2 : K (nn x + 2) = 2 := k3.mp cw
  have i2 : nn x + 2 < 700 := by omega
  have N6 : nn y6 = nn x + 3 := by have := nn_up (y := y5) (z := y6) b5 n6; omega
  have m6 : (y6.1 100 4).toNatClampNeg = nn x + 3 := N6
  have on3 : nn x + 3 ≤ e := KA_on hA on2 i2 (by rw [hK2]; decide) (by rw [hK2]; decide)
  have hA6 : KA K V sN e y6 := KA_fm hA5 l6.1
  have b6 := S6.1.2.1
  have c6 := nn_is b6
  have k26 : y6.1 23 (nn x + 3) = 26 ↔ K (nn x + 3) = 66 := KA_k hA6 on3 26 (by decide)
  have e6 : ∀ j, ¬ j = nn x + 2 → y6.1 42 j = y5.1 42 j := fun j hj => f6 _ _ (fun q => q.elim (fun q => hj q.2) (fun q => absurd q.1 (by decide)))
  have t6 : y6.1 23 (nn x + 2) = 3 := by rw [f6 _ _ (fun q => q.elim (fun q => absurd q.1 (by decide)) (fun q => absurd q.1 (by decide)))]; exact cw
  clear n6 c5 c10
  refine kf_need hq z6 26 (fun c11 => hx ?_) S6 (by decide) r6 (fun cw3 c11 y8 f8 n8 S8 r8 l8 z8 => ?_)
  · rintro ⟨-, -, d1, d2⟩
    rcases c11 with c11 | c11
    · rw [m6] at c11
      exact c11 (k26.mpr d1)
    · omega
  rw [m6] at cw3
  have hK3 : K (nn x + 3) = 66 := k26.mp cw3
  have i3 : nn x + 3 < 700 := by omega
  have N8 : nn y8 = nn x + 4 := by have := nn_up (y := y6) (z := y8) b6 n8; omega
  have on4 : nn x + 4 ≤ e := KA_on hA on3 i3 (by rw [hK3]; decide) (by rw [hK3]; decide)
  have La8 : La x y8 := La_tr (La_tr (La_tr La3 l5) l6) l8
  have e8 : ∀ j, y8.1 42 j = y6.1 42 j := fun j => f8 _ _ (fun q => absurd q.1 (by decide))
  have v0 : y8.1 42 (nn x) = 7 := by rw [e8, e6 _ (by omega), u5]; exact u3
  have v1 : y8.1 42 (nn x + 1) = 0 := by
    rw [e8, e6 _ (by omega), u5, ← m3]
    exact r3
  have v2 : y8.1 42 (nn x + 2) = 12 := by rw [e8]; exact u6
  have v3 : y8.1 42 (nn x + 3) = 0 := by
    rw [e8, ← m6]
    exact r6
  refine h y8 ⟨i1, ⟨hK2, i2⟩, hK3, i3⟩ S8 r8 La8 ?_ N8 ⟨KA_fm hA La8.1, by rw [N8]; exact on4, UR_row N8 v0 v1 v2 v3⟩ ?_ v0 v2
  · exact fm_tr (fm_tr (fm_w f5 (fun c k q => Or.inr q)) (fm_w f6 (fun c k q => q.imp (fun q => q.1) id))) (fm_w f8 (fun c k q => Or.inr q))
  · rw [f8 _ _ (fun q => absurd q.1 (by decide))]; exact t6
theorem kf_claimedCell (hq : kV q) (h0 : fm sR x0 x) (L : gU) (f : Nat) (ho : o = true) (hx : pO (pE K o f) K o (nn x) L = none → RX x0 X) (hS : SU x) (hH : HI x) (hs : x.1 23 (x.1 100 4).toNatClampNeg = 2) (hR : RIw K V sN e E x x []) (h : ∀ y, SM x y → FR y → hz y = hz x → y.1 100 17 = x.1 100 17 → (∀ k, y.1 116 k = x.1 116 k ∧ y.1 117 k = x.1 117 k) → nx x < nx y → ∀ M, RIw K V sN e E x y M → still M → pO (pE K o f) K o (nn x) L = some (nn y, L ++ M) → (E.2.1 = [] → CPl x y (sPs sN V K E M)) → (∀ k, y.1 115 k = x.1 115 k) → Fv y) : KE G q (d + 8) zk_X7_claimedCell 0 [(0, vr 100)] [] x (rv Fv) X := by
  have b1 := hS.1.2.1
  have eN : ((x.1 100 4).toNatClampNeg : Int) = nx x := by rw [t_cl]; unfold nx at *; omega
  have un := nn_is b1
  have nx0 : (x.1 100 4).toNatClampNeg = nn x := rfl
  have hKi : K (nn x) = 1 := by rw [← hR.1.1 _ hR.2.1, show x.1 23 (nn x) = 2 from hs]; decide
  have pO7 : 700 ≤ nn x → pO (pE K o f) K o (nn x) L = none := fun c => by unfold pO; rw [if_pos c]
  have pOe : nn x < 700 → pO (pE K o f) K o (nn x) L = if K (nn x + 1) = 65 then (if nn x + 1 < 700 ∧ (K (nn x + 2) = 2 ∧ nn x + 2 < 700) ∧ K (nn x + 3) = 66 ∧ nn x + 3 < 700 then some (nn x + 4, L ++ [(7, nn x, 0), (12, nn x + 2, nn x)]) else none) else some (nn x + 1, L ++ [(6, nn x, 0)]) := fun c => by
    unfold pO
    rw [if_neg (by omega), if_neg (by rw [hKi]; decide), if_neg (by rw [hKi]; decide), if_neg (by rw [hKi]; decide), if_pos hKi, if_pos ho]
  have on1 : nn x < 700 → nn x + 1 ≤ e := fun c => KA_on hR.1 hR.2.1 c (by rw [hKi]; decide) (by rw [hKi]; decide)
  have e6 : Int32.ofNat (nn x) = x.1 100 4 := (i32_of (by have := un; unfold nx at this b1; omega)).symm
  have fin : ∀ (w y : gd) (M : gU), AP x w 6 (x.1 100 4) → CPl x w [(6, x.1 100 4)] → (E.2.1 = [] → sPs sN V K E M = [(6, Int32.ofNat (nn x))]) → SV y (x.1 60 3).toInt → fm (fun c k => c = 42 ∨ (c = 100 ∧ k = 4)) w y → La x y → FR y → nx x < nx y → (y.1 42 (x.1 100 4).toNatClampNeg = 6 ∨ (y.1 42 (x.1 100 4).toNatClampNeg = 7 ∧ nx x + 2 < nx y ∧ y.1 42 ((x.1 100 4).toNatClampNeg + 2) = 12 ∧ y.1 23 ((x.1 100 4).toNatClampNeg + 2) = 3)) → RIw K V sN e E x y M → still M → pO (pE K o f) K o (nn x) L = some (nn y, L ++ M) → Fv y := by
    intro w y M hA hCA hsp Sy fy la fr hn hp hRy hM hpO
    have fx : fm sSum x y := fm_tr (fm_w hA.1 (fun c k q => by unfold sSum; omega)) (fm_w fy (fun c k q => by unfold sSum; omega))
    have SUy : SU y := by
      refine ⟨Sy.1, Sy.2.1, Sy.2.2.1, fun i hi => ?_⟩
      rw [fy 60 3 (by omega)] at hi
      rcases hA.2.2.2.2 i hi with e | ⟨e1, e2⟩
      · exact Sy.2.2.2 i e
      · unfold PQ
        rw [fy 62 i (by omega), fy 63 i (by omega), e1, e2]
        refine ⟨fun c => absurd c (by decide), fun _ => ⟨(x.1 100 4).toNatClampNeg, eN.symm, by omega, ?_⟩⟩
        rcases hp with g | ⟨g1, g2, g3, g4⟩
        · exact Or.inl g
        · exact Or.inr ⟨g1, by omega, g3, g4⟩
    obtain ⟨g1, g2⟩ := HI_eq (z := y) hH (by rw [fy _ _ (by omega), hA.1 _ _ (by omega)]) (fun c k q1 q2 => by rw [fy _ _ (by omega), hA.1 _ _ (by omega)])
    exact h y ⟨SUy, g1, la, fx⟩ fr g2 (by rw [fy _ _ (by omega), hA.1 _ _ (by omega)]) (fun k => ⟨by rw [fy _ _ (by omega), hA.1 _ _ (by omega)], by rw [fy _ _ (by omega), hA.1 _ _ (by omega)]⟩) hn M hRy hM hpO (fun hb9 => by rw [hsp hb9, e6]; exact CPl_st hCA (fy _ _ (by omega)) (fun k => ⟨fy _ _ (by omega), fy _ _ (by omega)⟩)) (fun k => by rw [fy _ _ (by omega), hA.1 _ _ (by omega)])
  have p50 : ∀ (l s : Int32) (w : gd), AP x w 6 (x.1 100 4) → CPl x w [(6, x.1 100 4)] → (l = 0 ∧ s = 6 ∧ ¬ x.1 23 ((x.1 100 4).toNatClampNeg + 1) = 25 ∨ ¬ l = 0 ∧ s = 7 ∧ x.1 23 ((x.1 100 4).toNatClampNeg + 1) = 25) → KE G q (d + 8) zk_X7_claimedCell 50 [(0, vr 100), (1, vi l)] [vi s, vi (w.1 100 4), vr 42] w (rv Fv) X := by
    intro l s w hA hCA hls
    have w4 : w.1 100 4 = x.1 100 4 := hA.1 _ _ (by omega)
    rw [w4]
    refine kg_X7_claimedCell_50 hq _ _ _ ⟨RB_at hS.1, fun x2 e2 => ?_⟩
    have f2 : fm (fun c k => c = 42 ∧ k = (x.1 100 4).toNatClampNeg) w x2 := by rw [e2]; exact fm_si (fm_rf _ _) ⟨rfl, rfl⟩
    have u2 : x2.1 42 (x.1 100 4).toNatClampNeg = s := by rw [e2]; (simp only [si_get, sfl_get, Nat.reduceEqDiff, eq_self, and_false, false_and, and_true, true_and, if_true, if_false, reduceIte, reduceCtorEq])
    have q4 : x2.1 100 4 = x.1 100 4 := by rw [f2 _ _ (by omega)]; exact w4
    have Sw : SV w (x.1 60 3).toInt := AP_SV (Int.le_refl _) hS hA
    have nw : nx w = nx x := by unfold nx; rw [w4]
    have la2 : La w x2 := ⟨fun c k q1 q2 => f2 c k (by omega), by unfold nx; rw [f2 100 4 (by omega)]; exact Int.le_refl _, fun j hj => f2 42 j (by omega)⟩
    have S2 : SV x2 (x.1 60 3).toInt := by
      obtain ⟨⟨hT, b1, b2, b3⟩, ⟨u1, u2⟩, hp, hP⟩ := Sw
      have nn : nx x2 = nx w := by unfold nx; rw [f2 100 4 (by omega)]
      unfold SV US RB mt
      rw [f2 20 7 (by omega), f2 60 3 (by omega), nn]
      refine ⟨⟨kT_fm hT la2.1, b1, b2, b3⟩, ⟨fun j h1 h2 => ?_, fun j h1 h2 => ?_⟩, hp, fun i hi => La_PQ la2 (f2 _ _ (by omega)) (f2 _ _ (by omega)) (hP i hi)⟩
      · rw [f2 42 j (by omega)]; exact u1 j h1 h2
      · rw [f2 42 j (by omega)] at h2; rw [f2 42 _ (by omega)]; exact u2 j h1 h2
    have t2 : ∀ k, x2.1 23 k = x.1 23 k := fun k => by rw [f2 _ _ (by omega), hA.1 _ _ (by omega)]
    have fx2 : fm sSum x x2 := fm_tr (fm_w hA.1 (fun c k q => by unfold sSum; omega)) (fm_w f2 (fun c k q => by unfold sSum; omega))
    have n2 : nx x2 = nx x := by unfold nx; rw [q4]
    refine kf_pass hq (fm_tr h0 (fm_w fx2 (fun c k q => sSum_R q))) (fun c7 => hx (pO7 (by omega))) S2 (by rw [q4, t2, hs]; decide) ?_ (fun c7 y3 f3 n3 S3 r3 l3 z3 => ?_)
    · rw [q4, u2]
      rcases hls with ⟨-, rfl, -⟩ | ⟨-, rfl, -⟩ <;> decide
    have i7 : nn x < 700 := by omega
    have hpe := pOe i7
    have La3 : La x y3 := La_tr (La_tr (AP_La hA) la2) l3
    have u3 : y3.1 42 (x.1 100 4).toNatClampNeg = s := by rw [f3 _ _ (by omega)]; exact u2
    have N3 : nn y3 = nn x + 1 := nn_up (y := x) b1 (by omega)
    have m3 : (y3.1 100 4).toNatClampNeg = nn x + 1 := N3
    have k25 : x.1 23 (nn x + 1) = 25 ↔ K (nn x + 1) = 65 := KA_k hR.1 (on1 i7) 25 (by decide)
    refine ⟨fun c => rv_i ?_, fun c => ?_⟩
    · obtain ⟨-, es, e25⟩ : l = 0 ∧ s = 6 ∧ ¬ x.1 23 ((x.1 100 4).toNatClampNeg + 1) = 25 := by
        rcases hls with e | ⟨e, -⟩
        · exact e
        · exact absurd c e
      rw [if_neg (fun z => e25 (k25.mpr z))] at hpe
      have hsp : E.2.1 = [] → sPs sN V K E [(6, nn x, 0)] = [(6, Int32.ofNat (nn x))] := fun hE0 => by
        show [(6, nn x, 0)].filterMap (cPt sN V K E) = _
        have e9 : cPt sN V K E (6, nn x, 0) = some (6, Int32.ofNat (nn x)) := if_pos hE0
        simp [e9]
      refine fin w y3 [(6, nn x, 0)] hA hCA hsp S3 (fm_tr (fm_w f2 (fun c k q => Or.inl q.1)) (fm_w f3 (fun c k q => Or.inr q))) La3 r3 (by omega) (Or.inl (by rw [u3, es])) ⟨KA_fm hR.1 La3.1, by rw [N3]; exact on1 i7, HAs_one.mpr (HA_6.mpr ⟨by omega, by rw [show y3.1 42 (nn x) = s from u3, es]⟩), fun j h1 h2 h3 => ?_⟩ (stl_k (by decide)) (by rw [N3]; exact hpe)
      have ej : j = nn x := by omega
      rw [ej]
      exact HBs_one.mpr (Or.inr (Or.inl ⟨rfl, by rw [show y3.1 42 (nn x) = s from u3, es], rfl⟩))
    obtain ⟨es, e25⟩ : s = 7 ∧ x.1 23 ((x.1 100 4).toNatClampNeg + 1) = 25 := by
      rcases hls with ⟨e, -⟩ | ⟨-, e⟩
      · exact absurd e c
      · exact e
    have hK1 : K (nn x + 1) = 65 := k25.mp e25
    rw [if_pos hK1] at hpe
    refine kf_claimRow (E := E) hq z3 S3 r3 N3 b1 hR.1 La3 (on1 i7) hK1 (u3.trans es) (fun no => hx (by rw [hpe, if_neg no])) (fun y8 yes S8 r8 La8 f8 N8 hR8 c8 u8 u82 => rv_i ?_)
    rw [if_pos yes] at hpe
    have c8n := nn_is S8.1.2.1
    have hsp : E.2.1 = [] → sPs sN V K E [(7, nn x, 0), (12, nn x + 2, nn x)] = [(6, Int32.ofNat (nn x))] := fun hE0 => by
      show [(7, nn x, 0), (12, nn x + 2, nn x)].filterMap (cPt sN V K E) = _
      have e9 : cPt sN V K E (7, nn x, 0) = some (6, Int32.ofNat (nn x)) := if_pos hE0
      have e10 : cPt sN V K E (12, nn x + 2, nn x) = none := rfl
      simp [e9, e10]
    exact fin w y8 [(7, nn x, 0), (12, nn x + 2, nn x)] hA hCA hsp S8 (fm_tr (fm_tr (fm_w f2 (fun c k q => Or.inl q.1)) (fm_w f3 (fun c k q => Or.inr q))) f8) La8 r8 (by omega) (Or.inr ⟨u8, by omega, u82, c8⟩) hR8 (still_app (L := [(7, nn x, 0)]) (M := [(12, nn x + 2, nn x)]) (stl_k (by decide)) (stl_k (by decide))) (by rw [N8]; exact hpe)
  have p14 : ∀ s : Int32, (s = 0 ∧ ¬ x.1 23 ((x.1 100 4).toNatClampNeg + 1) = 25 ∨ s = 1 ∧ x.1 23 ((x.1 100 4).toNatClampNeg + 1) = 25) → KE G q (d + 8) zk_X7_claimedCell 14 [(0, vr 100)] [vi s] x (rv Fv) X := by
    intro s hs1
    refine kg_X7_claimedCell_14 hq _ (kf_addPart hq _ _ hS.2.2.1 (fun w hA hCA => ⟨fun c => p50 _ _ w hA hCA (Or.inl ⟨c, rfl, ?_⟩), fun c => p50 _ _ w hA hCA (Or.inr ⟨c, rfl, ?_⟩)⟩))
    · rcases hs1 with ⟨-, e⟩ | ⟨e, -⟩
      · exact e
      · rw [e] at c; exact absurd c (by decide)
    · rcases hs1 with ⟨e, -⟩ | ⟨-, e⟩
      · exact absurd e c
      · exact e
  exact kg_X7_claimedCell_0 hq (kp_sortBehind hq hS.1 ⟨fun c => p14 _ (Or.inl ⟨rfl, c⟩), fun c => p14 _ (Or.inr ⟨rfl, c⟩)⟩)
end KCF2
end
section
/-! the class: a sum is read as the grammar says -/
theorem dAk_1 {K : Nat → Int32} {o : Bool} {f i : Nat} {v : Nat × Nat × Nat} {L : gU} : dAk K o [(0, f, v)] i L = pE K o f 0 i L := by
  show (pE K o f 0 i L).bind (fun q => some (q.1, q.2)) = _
  cases pE K o f 0 i L with
  | none => rfl
  | some q => rfl
theorem pst_03 {k : Int32} (h : ¬ pst k = 0) : ¬ k = 0 ∧ ¬ k = 3 := ⟨fun z => h (by rw [z]; decide), fun z => h (by rw [z]; decide)⟩
theorem opE_still {M : gU} (h : opE M) : still M := fun v hv => by
  rcases h v hv with e | e <;> rw [e] <;> decide
section KSG
variable {G : kG} {q : kP} {d : Nat} {x x0 y z : gd} {F : Int32 → gd → Prop} {Fv : gd → Prop} {X : String → gd → Prop} {P : Option gv → gd → Prop} {m : Int} {K V : Nat → Int32} {sN : Nat → Nat → Bool} {e : Nat} {E : gV} {M N : gU} {o : Bool}
theorem RI_op (h : RIw K V sN e E x y M) (hN : opE N) : RIw K V sN e E x y (M ++ N) := ⟨h.1, h.2.1, UR_op h.2.2 hN⟩
/-- the parts of a sum under way: what is held, what is written (in a claim: where no block is open) -/
def SXg (sN : Nat → Nat → Bool) (V K : Nat → Int32) (E : gV) (H : Prop) (x y : gd) (sy : gH) (M : gU) : Prop := HP K y (y.1 100 17).toNatClampNeg sy ∧ (H → CPl x y (sPs sN V K E M))
theorem SX_rel {H : Prop} {sy s2 : gH} (h : SXg sN V K E H x y sy M) (hN : opE N) (hp : HP K z (z.1 100 17).toNatClampNeg s2) (hc : CPl y z (oPs K N)) : SXg sN V K E H x z s2 (M ++ N) :=
  ⟨hp, fun q => by rw [sPs_app, sPs_op hN]; exact CPl_app (h.2 q) hc⟩
theorem SX_st {H : Prop} {sy : gH} (h : SXg sN V K E H x y sy M) (e17 : z.1 100 17 = y.1 100 17) (e115 : ∀ k, z.1 115 k = y.1 115 k) (e3 : z.1 60 3 = y.1 60 3) (e6 : ∀ k, z.1 62 k = y.1 62 k ∧ z.1 63 k = y.1 63 k) : SXg sN V K E H x z sy M :=
  ⟨by rw [e17]; exact HP_eq (fun k _ => e115 k) h.1, fun q => CPl_st (h.2 q) e3 e6⟩
theorem kf_sum (hq : kV q) (h0 : fm sR x0 x) (D : Int32) (L : gU) (hx : pX K o (17 - D.toNatClampNeg) (nn x) L = none → RX x0 X) (hS : SU x) (hf : FR x) (hK : ¬ x.1 100 5 = 0 → KN x ∧ KV' K e x E) (ho : o = true ↔ x.1 100 5 = 0) (hR : RIw K V sN e E x x []) (hD : 1 ≤ D.toInt) (hD2 : D.toInt ≤ 18) (h : ∀ r y, SU y → FR y → La x y → fm sSum x y → nx x < nx y → ∀ M, RIw K V sN e E x y M → still M → pX K o (17 - D.toNatClampNeg) (nn x) L = some (nn y, L ++ M) → ((o = true → E.2.1 = []) → CPl x y (sPs sN V K E M)) → r = x.1 60 3 → F r y) : KE G q (d + 9) zk_X7_sum 0 [(0, vr 100), (1, vi D)] [] x (ri F) X := by
  have k700 : (700 : Int32).toInt = 700 := rfl
  have k1 : (1 : Int32).toInt = 1 := rfl
  have k0 : (0 : Int32).toInt = 0 := rfl
  have hn0 := hS.1.2.1
  obtain ⟨H, hH⟩ : ∃ H : Prop, H ↔ (o = true → E.2.1 = []) := ⟨_, Iff.rfl⟩
  have h0y : ∀ {y : gd}, SM x y → fm sR x0 y := fun hM => fm_tr h0 (fm_w hM.2.2.2 (fun c k q => sSum_R q))
  obtain ⟨W, eW⟩ : ∃ W, W = pE K o (17 - D.toNatClampNeg) 0 (nn x) L := ⟨_, rfl⟩
  have hxW : W = none → RX x0 X := fun z => hx (by unfold pX; rw [← eW, z]; rfl)
  have p162 : ∀ (l2 : Int32) (y : gd) (sy : gH) (M : gU), SM x y → FR y → nx x < nx y → hz y = 1 → HD y (y.1 100 17).toNatClampNeg sy → RIw K V sN e E x y M → still M → pst (K (nn y)) = 0 → W = dW K o sy (nn y) (L ++ M) → SXg sN V K E H x y sy M → l2 = x.1 60 3 → KE G q (d + 9) zk_X7_sum 162 [(0, vr 100), (2, vi l2)] [] y (ri F) X := by
    intro l2 y sy M hM hF hn hz1 hDy hRy hMs hp hW hsx hl2
    refine kg_X7_sum_162 hq _ (kf_release hq _ (by decide) (by decide) K o (nn y) sy (L ++ M) hDy hsx.1 (by rw [hp]; decide) (by omega) hM.1 hM.2.1 (fun z fz Sz Hz zz _ _ hsa a r v s' N hDz ha hN hdz hPz hCz _ => kf_addPart hq _ _ Sz.2.2.1 (fun w hA hCA => ri_i ?_)))
    obtain ⟨g1, g2, g3⟩ := SM_rel hM fz Sz Hz
    have Sw : SU w := AP_SU Sz hA (fun c => absurd c (by decide)) (by decide)
    have w4 : w.1 100 4 = z.1 100 4 := hA.1 _ _ (by omega)
    have a0 : a = 0 := by rw [k1] at ha; omega
    have se : s' = [] := by
      have e1 := HD_zs hDz
      have e2 : zc z (z.1 100 17).toNatClampNeg = 1 := by show hz z = 1; rw [zz]; exact hz1
      rw [e2] at e1
      have e3 : (1 : Nat) = zs s' + (if a = 0 then 1 else 0) := e1
      rw [if_pos a0] at e3
      cases hn9 : (z.1 100 17).toNatClampNeg with
      | zero => rw [hn9] at hDz; exact absurd hDz (by show ¬ (a, r, v) :: s' = []; simp)
      | succ n =>
        rw [hn9] at hDz
        obtain ⟨a9, r9, v9, s9, q1, q2, q3, q4, q5, q6⟩ := hDz
        have q1 : s' = s9 := (List.cons.inj q1).2
        rw [← q1] at q6
        cases n with
        | zero => exact q6
        | succ n => have := HD_b q6; omega
    have nz : nn z = nn y := by unfold nn; rw [g3]
    have nw : nn w = nn y := by rw [← nz]; unfold nn; rw [w4]
    have uz : ∀ j, w.1 42 j = y.1 42 j := fun j => by rw [hA.1 42 j (by omega), fz 42 j (by omega)]
    have lw : La x w := La_tr g1.2.2.1 (AP_La hA)
    refine h l2 w Sw ?_ lw (fm_tr g1.2.2.2 (fm_w hA.1 (fun c k q => by unfold sSum; omega))) ?_ (M ++ N ++ [(54, 0, 0)]) ?_ (still_app (still_app hMs (opE_still hN)) (stl_k (by decide))) ?_ (fun q => ?_) hl2
    rotate_right
    · rw [sPs_app]
      exact CPl_app ((SX_rel hsx hN hPz hCz).2 (hH.mpr q)) hCA
    · have := g2 hF
      unfold FR at this ⊢
      rw [w4, hA.1 42 _ (by omega)]; exact this
    · unfold nx at hn ⊢
      rw [w4, g3]; exact hn
    · have r1 : RIw K V sN e E x w M := RI_st hRy (by rw [w4, g3]) uz (fun c k q1 q2 => by rw [hA.1 _ _ (by omega), fz _ _ (by omega)])
      have r2 := RI_op r1 hN
      exact ⟨r2.1, r2.2.1, UR_dull r2.2.2 (dull_k (by decide))⟩
    · unfold pX
      rw [← eW, hW, hdz, a0, se, dW_end (by omega), nw]
      show some (nn y, L ++ M ++ N ++ [(54, 0, 0)]) = _
      rw [List.append_assoc L, List.append_assoc L]
  have p153 : ∀ (l2 p : Int32) (y : gd) (sy : gH) (M : gU), SM x y → FR y → nx x < nx y → 0 ≤ p.toInt → (hz y : Int) = p.toInt + 1 → HD y (y.1 100 17).toNatClampNeg sy → RIw K V sN e E x y M → still M → pst (K (nn y)) = 0 → W = dW K o sy (nn y) (L ++ M) → (p.toInt ≤ 0 ∨ ¬ (K (nn y) = 62 ∧ nn y < 700)) → SXg sN V K E H x y sy M → l2 = x.1 60 3 → KE G q (d + 9) zk_X7_sum 153 [(0, vr 100), (2, vi l2), (3, vi p)] [] y (ri F) X := by
    intro l2 p y sy M hM hF hn p0 hzy hDy hRy hMs hp hW hor hsx hl2
    refine kg_X7_sum_153 hq _ _ ⟨fun c => p162 l2 y sy M hM hF hn ?_ hDy hRy hMs hp hW hsx hl2, fun c => kp_refuse hq _ (RB_at hM.1.1) (h0y hM) (hxW ?_)⟩
    · rw [t_le, k0] at c; omega
    · rw [t_le, k0] at c
      rw [hW]
      refine dW_stuck hp (hor.resolve_left c) ?_
      rw [← HD_zs hDy]
      show 2 ≤ hz y
      omega
  have loop : ∀ (n : Nat) (l2 p k : Int32) (y : gd) (sy : gH) (M : gU), SM x y → FR y → 0 ≤ p.toInt → (hz y : Int) = p.toInt + 1 → 0 ≤ k.toInt → nx x + k.toInt ≤ nx y → 700 - nx y < n → HD y (y.1 100 17).toNatClampNeg sy → RIw K V sN e E x y M → still M → W = dAk K o sy (nn y) (L ++ M) → SXg sN V K E H x y sy M → l2 = x.1 60 3 → KE G q (d + 9) zk_X7_sum 25 [(0, vr 100), (2, vi l2), (3, vi p), (4, vi k)] [] y (ri F) X := by
    intro n
    induction n with
    | zero =>
      intro l2 p k y sy M hM hF p0 hzy kp hk hn hDy hRy hMs hW hsx hl2
      have b2 := hM.1.1.2.2.1
      omega
    | succ n ih =>
      intro l2 p k y sy M hM hF p0 hzy kp hk hn hDy hRy hMs hW hsx hl2
      have b2 := hM.1.1.2.2.1
      have p104 : ∀ (p : Int32) (z : gd) (sz : gH) (Mz : gU), SM x z → FR z → 0 ≤ p.toInt → (hz z : Int) = p.toInt + 1 → DL z → nx y < nx z → HD z (z.1 100 17).toNatClampNeg sz → RIw K V sN e E x z Mz → still Mz → W = dW K o sz (nn z) (L ++ Mz) → (p.toInt ≤ 0 ∨ ¬ K (nn z) = 62) → SXg sN V K E H x z sz Mz → KE G q (d + 9) zk_X7_sum 104 [(0, vr 100), (2, vi l2), (3, vi p), (4, vi k)] [] z (ri F) X := by
        intro p z sz Mz hMz hFz p0 hzz hDz hnz hSz hRz hMzs hWz hor hsz
        have hKz : kc (z.1 23 (z.1 100 4).toNatClampNeg) = K (nn z) := hRz.1.1 _ hRz.2.1
        refine kg_X7_sum_104 hq _ _ _ (kp_sort hq hMz.1.1 (kf_strengthOf hq _ _ hKz (fun r hrp hr => ⟨fun c => ?_, fun c => p153 _ _ z sz Mz hMz hFz (by omega) p0 hzz hSz hRz hMzs (by rw [c, k0] at hrp; omega) hWz (hor.imp id (fun q z => q z.1)) hsz hl2⟩)))
        obtain ⟨⟨r1, r5⟩, s2, s6, s0⟩ := hr c
        refine kf_release hq _ r1 r5 K o (nn z) sz (L ++ Mz) hSz hsz.1 (by omega) (by omega) hMz.1 hMz.2.1 (fun w fw Sw Hw zw hle _ hsa a r' v s' N hDw ha hN hdw hPw hCw h115w => ?_)
        have hsw := SX_rel hsz hN hPw hCw
        obtain ⟨g1, g2, g3⟩ := SM_rel hMz fw Sw Hw
        have t23 : ∀ j, w.1 23 j = z.1 23 j := fun j => fw _ _ (by omega)
        have u42 : ∀ j, w.1 42 j = z.1 42 j := fun j => fw _ _ (by omega)
        have hRw : RIw K V sN e E x w (Mz ++ N) := RI_op (RI_st hRz g3 u42 (fun c k q1 q2 => fw _ _ (by omega))) hN
        have nw : nn w = nn z := by unfold nn; rw [g3]
        refine kp_sort hq Sw.1 (kp_depthHere hq Hw ?_)
        rw [g3, t23]
        have dd := dh_is Hw
        have hDw2 : (dh w).toInt ≤ 16 := by
          unfold dh
          split
          · decide
          · rename_i c9
            have a0 := Hw.1.1
            have a1 := Hw.1.2
            rw [t_le, k0] at c9
            have e1 : (w.1 100 17 - 1).toInt = (w.1 100 17).toInt - 1 := t_sub (by rw [k1]; omega) (by rw [k1]; omega)
            rw [fw 117 _ (by omega)]
            refine hDz _ ?_
            rw [t_cl, e1]; omega
        obtain ⟨a', r'', v', s'', es, hr17⟩ := HD_top Hw (by omega) hDw
        have er : r' = r'' := by
          have := (List.cons.inj es).1
          exact (Prod.mk.inj (Prod.mk.inj this).2).1
        obtain ⟨f9, ef9⟩ : ∃ f9, r' = f9 + 1 := ⟨r' - 1, by omega⟩
        have e1 : (dh w + 1).toInt = (dh w).toInt + 1 := t_add (by rw [k1]; omega) (by rw [k1]; omega)
        have hzw1 : 1 ≤ hz w := by omega
        refine kf_hold hq _ _ _ Hw ⟨s2, s6⟩ (by omega) (by omega) (by omega) (fun i hi => ?_) (fun v9 fv Hv zv t1 t2 t3 t4 t5 t6 => ?_)
        · have := dd.2.2.2 i hi; omega
        obtain ⟨j1, j2, j3⟩ := SM_hold g1 fv Hv
        have v23 : ¬ v9.1 23 (v9.1 100 4).toNatClampNeg = 0 := by rw [j3, g3, fv _ _ (by omega), t23]; exact s0
        have hRv : RIw K V sN e E x v9 (Mz ++ N) := RI_st hRw j3 (fun j => fv _ _ (by omega)) (fun c k q1 q2 => fv _ _ (by omega))
        have nv9 : nn v9 = nn z := by rw [← nw]; unfold nn; rw [j3]
        have nv : nx v9 = nx z := by unfold nx; rw [j3, g3]
        have bz := hMz.1.1.2.1
        have cz := nn_is bz
        have hD9 : HD v9 (v9.1 100 17).toNatClampNeg ((pst (K (nn z)), f9, 51, nn z, 0) :: (a, f9 + 1, v) :: s') := by
          have a0 := Hw.1.1
          have hzn : hz w ≤ (w.1 100 17).toNatClampNeg := zc_le _
          have n9 : (v9.1 100 17).toNatClampNeg = (w.1 100 17).toNatClampNeg + 1 := by rw [t_cl, t_cl]; omega
          have ud := t_cl (dh w + 1)
          rw [n9]
          refine ⟨pst (K (nn z)), f9, (51, nn z, 0), (a, f9 + 1, v) :: s', rfl, Or.inl ?_, Or.inl ?_, ⟨by omega, fun q => absurd q (by omega)⟩, Or.inr rfl, ?_⟩
          · rw [t3]; omega
          · rw [t2]; exact hrp
          · rw [← ef9]; exact HD_eq t4 hDw
        have pne : ¬ pst (K (nn z)) = 0 := by omega
        have hP9 : HP K v9 (v9.1 100 17).toNatClampNeg ((pst (K (nn z)), f9, 51, nn z, 0) :: (a, f9 + 1, v) :: s') := by
          have a0 := Hw.1.1
          have n9 : (v9.1 100 17).toNatClampNeg = (w.1 100 17).toNatClampNeg + 1 := by rw [t_cl, t_cl]; omega
          rw [n9]
          refine ⟨fun _ => ?_, ?_⟩
          · rw [t5]
            show _ = if (51 : Nat) = 50 then _ else kcv (K (nn z))
            rw [if_neg (by decide)]
            exact (kcv_is hKz pne).symm
          · rw [← ef9]; exact HP_eq t6 hsw.1
        have alt : a < pst (K (nn z)) := by omega
        refine kf_pass hq (h0y j1) (fun c7 => hxW ?_) j1.1 v23 (FR_12 (j2 (g2 hFz))) (fun c7 t ft nt St rt lt _ => ?_)
        · rw [hWz, hdw]
          exact dW_op7 alt (by omega)
        obtain ⟨m1, m2⟩ := SM_pass j1 ft St lt
        have ek : (k + 1).toInt = k.toInt + 1 := t_add (by rw [k1]; omega) (by rw [k1]; omega)
        have nt9 : nn t = nn z + 1 := by have := nn_up (y := v9) (z := t) (by omega) nt; omega
        have ut : t.1 42 (nn v9) = 0 := by rw [ft 42 _ (by omega)]; exact j2 (g2 hFz)
        refine ih _ p (k + 1) t _ (Mz ++ N) m1 rt p0 (by rw [m2, zv, if_neg c, zw]; exact hzz) (by omega) (by omega) (by omega) (by rw [ft 100 17 (by omega)]; exact HD_eq (fun k _ => ⟨ft _ _ (by omega), ft _ _ (by omega)⟩) hD9) (RI_tok hRv (by omega) (by omega) (by rw [nv9]; exact (pst_03 pne).1) (by rw [nv9]; exact (pst_03 pne).2) lt nt ut) (still_app hMzs (opE_still hN)) ?_ ?_ ?_
        · rw [hWz, hdw, ef9, dW_op alt (by omega), nt9, List.append_assoc]
        · refine ⟨?_, fun q9 => CPl_st (CPl_st (hsw.2 q9) (fv _ _ (by omega)) (fun k => ⟨fv _ _ (by omega), fv _ _ (by omega)⟩)) (ft _ _ (by omega)) (fun k => ⟨ft _ _ (by omega), ft _ _ (by omega)⟩)⟩
          rw [ft 100 17 (by omega)]; exact HP_eq (fun k _ => ft _ _ (by omega)) hP9
        · exact hl2
      have p66 : ∀ (j : Nat) (p : Int32) (z : gd) (sz : gH) (Mz : gU), SM x z → FR z → 0 ≤ p.toInt → p.toInt ≤ j → (hz z : Int) = p.toInt + 1 → DL z → nx y < nx z → HD z (z.1 100 17).toNatClampNeg sz → RIw K V sN e E x z Mz → still Mz → W = dW K o sz (nn z) (L ++ Mz) → SXg sN V K E H x z sz Mz → KE G q (d + 9) zk_X7_sum 66 [(0, vr 100), (2, vi l2), (3, vi p), (4, vi k)] [] z (ri F) X := by
        intro j
        induction j with
        | zero =>
          intro p z sz Mz hMz hFz p0 pj hzz hDz hnz hSz hRz hMzs hWz hsz
          refine kg_X7_sum_66 hq _ _ _ ⟨fun c => p104 p z sz Mz hMz hFz p0 hzz hDz hnz hSz hRz hMzs hWz (Or.inl (by omega)) hsz, fun c => ?_⟩
          exfalso; rw [t_le, k0] at c; omega
        | succ j ihj =>
          intro p z sz Mz hMz hFz p0 pj hzz hDz hnz hSz hRz hMzs hWz hsz
          have hKz : kc (z.1 23 (z.1 100 4).toNatClampNeg) = K (nn z) := hRz.1.1 _ hRz.2.1
          have k22 : z.1 23 (z.1 100 4).toNatClampNeg = 22 ↔ K (nn z) = 62 := KA_k hRz.1 hRz.2.1 22 (by decide)
          refine kg_X7_sum_66 hq _ _ _ ⟨fun c => p104 p z sz Mz hMz hFz p0 hzz hDz hnz hSz hRz hMzs hWz (Or.inl (by rw [t_le, k0] at c; exact c)) hsz, fun c => kp_sort hq hMz.1.1 ⟨fun c2 => p104 p z sz Mz hMz hFz p0 hzz hDz hnz hSz hRz hMzs hWz (Or.inr (fun q => c2 (k22.mpr q))) hsz, fun c2 => ?_⟩⟩
          rw [t_le, k0] at c
          have hK62 : K (nn z) = 62 := k22.mp c2
          have pz : pst (K (nn z)) = 0 := by rw [hK62]; decide
          have bz := hMz.1.1.2.1
          have cz := nn_is bz
          refine kf_pass hq (h0y hMz) (fun c7 => hxW ?_) hMz.1 (by rw [c2]; decide) (FR_12 hFz) (fun c7 t ft nt St rt lt _ => ?_)
          · rw [hWz]
            refine dW_stuck pz (fun q => absurd q.2 (by omega)) ?_
            rw [← HD_zs hSz]
            show 2 ≤ hz z
            omega
          obtain ⟨m1, m2⟩ := SM_pass hMz ft St lt
          have nt9 : nn t = nn z + 1 := nn_up bz nt
          have ut : t.1 42 (nn z) = 0 := by rw [ft 42 _ (by omega)]; exact hFz
          have hRt : RIw K V sN e E x t Mz := RI_tok hRz bz c7 (by rw [hK62]; decide) (by rw [hK62]; decide) lt nt ut
          have hSt : HD t (t.1 100 17).toNatClampNeg sz := by rw [ft 100 17 (by omega)]; exact HD_eq (fun k _ => ⟨ft _ _ (by omega), ft _ _ (by omega)⟩) hSz
          have hst9 : SXg sN V K E H x t sz Mz := SX_st hsz (ft _ _ (by omega)) (fun k => ft _ _ (by omega)) (ft _ _ (by omega)) (fun k => ⟨ft _ _ (by omega), ft _ _ (by omega)⟩)
          refine kf_release hq _ (by decide) (by decide) K o (nn z) sz (L ++ Mz) hSt hst9.1 (by rw [pz]; decide) (by omega) m1.1 m1.2.1 (fun w fw Sw Hw zw hle htop hsa a r' v9 s' N hDw ha hN hdw hPw hCw h115w => ?_)
          have hsw := SX_rel hst9 hN hPw hCw
          intro v ev
          obtain ⟨g1, g2, g3⟩ := SM_rel m1 fw Sw Hw
          obtain ⟨⟨a0, a1⟩, a2, a3⟩ := id Hw
          have hw1 : 1 ≤ (w.1 100 17).toInt := by
            have : hz w ≤ (w.1 100 17).toNatClampNeg := zc_le _
            rw [t_cl] at this
            rw [zw, m2] at this
            omega
          have az : a = 0 := by rw [k1] at ha; omega
          have e1 : (w.1 100 17 - 1).toInt = (w.1 100 17).toInt - 1 := t_sub (by rw [k1]; omega) (by rw [k1]; omega)
          have v17 : v.1 100 17 = w.1 100 17 - 1 := by rw [ev]; (simp only [si_get, sfl_get, Nat.reduceEqDiff, eq_self, and_false, false_and, and_true, true_and, if_true, if_false, reduceIte, reduceCtorEq])
          have fv : fm (fun c k => (c = 100 ∧ k = 17) ∨ (115 ≤ c ∧ c ≤ 117)) w v := by rw [ev]; exact fm_si (fm_rf _ _) (Or.inl ⟨rfl, rfl⟩)
          have fv2 : fm (fun c k => c = 100 ∧ k = 17) w v := by rw [ev]; exact fm_si (fm_rf _ _) ⟨rfl, rfl⟩
          have Hv : HI v := by
            unfold HI
            rw [v17, e1]
            refine ⟨by omega, fun i hi => ?_, fun i j hij hj => ?_⟩
            · rw [fv2 115 i (by omega), fv2 116 i (by omega), fv2 117 i (by omega)]; exact a2 i (by omega)
            · rw [fv2 117 i (by omega), fv2 117 j (by omega)]; exact a3 i j hij (by omega)
          have n5 : (w.1 100 17).toNatClampNeg = (v.1 100 17).toNatClampNeg + 1 := by rw [v17, t_cl, t_cl, e1]; omega
          have hDv : HD v (v.1 100 17).toNatClampNeg s' := by
            rw [n5] at hDw
            obtain ⟨a9, r9, v8, s9, q1, q2, q3, q4, q5, q6⟩ := hDw
            have q1 : s' = s9 := (List.cons.inj q1).2
            rw [q1]
            exact HD_eq (fun k _ => ⟨fv2 _ _ (by omega), fv2 _ _ (by omega)⟩) q6
          have zv : hz v + 1 = hz w := by
            have z1 := HD_zs hDv
            have z2 := HD_zs hDw
            have z3 : zs ((a, r', v9) :: s') = zs s' + (if a = 0 then 1 else 0) := rfl
            rw [if_pos az] at z3
            unfold hz
            omega
          obtain ⟨j1, j2, j3⟩ := SM_hold g1 fv Hv
          have rp := t_rg p
          have ep : (p + (-1)).toInt = p.toInt - 1 := by rw [t_add (by rw [tm1]; omega) (by rw [tm1]; omega), tm1]; rfl
          clear rp
          obtain ⟨p2, ep2⟩ : ∃ p2, p2 = p + (-1) := ⟨_, rfl⟩
          rw [← ep2] at ep ⊢
          have nv : nx v = nx t := by unfold nx; rw [j3, g3]
          have nv9 : nn v = nn z + 1 := by rw [← nt9]; unfold nn; rw [j3, g3]
          have b1 : 0 ≤ p2.toInt := by rw [ep]; omega
          have b2 : p2.toInt ≤ (j : Int) := by rw [ep]; omega
          have hz9 : (hz v : Int) = p2.toInt + 1 := by rw [ep]; rw [zw, m2] at zv; omega
          have hRv : RIw K V sN e E x v (Mz ++ N) := RI_op (RI_st (RI_st hRt g3 (fun j => fw _ _ (by omega)) (fun c k q1 q2 => fw _ _ (by omega))) j3 (fun j => fv _ _ (by omega)) (fun c k q1 q2 => fv _ _ (by omega))) hN
          refine ihj p2 v s' (Mz ++ N) j1 (j2 (g2 rt)) b1 b2 hz9 ?_ (by omega) hDv hRv (still_app hMzs (opE_still hN)) ?_ ?_
          · intro i hi
            rw [v17, e1] at hi
            rw [fv2 117 i (by omega), fw 117 i (by omega), ft 117 i (by omega)]
            refine hDz i ?_
            rw [ft 100 17 (by omega)] at hle
            omega
          · rw [hWz, hdw, az]
            cases s' with
            | nil =>
              exfalso
              have z1 := HD_zs hDv
              have : zs ([] : gH) = 0 := rfl
              unfold hz at hz9
              omega
            | cons y1 s1 =>
              rw [dW_par pz, if_pos ⟨hK62, by omega⟩, nv9, List.append_assoc]
          · refine ⟨?_, fun q9 => CPl_st (hsw.2 q9) (fv2 _ _ (by omega)) (fun k => ⟨fv2 _ _ (by omega), fv2 _ _ (by omega)⟩)⟩
            have h9 := hsw.1
            rw [n5] at h9
            exact HP_eq (fun k _ => fv2 _ _ (by omega)) h9.2
      have hoy : o = true ↔ y.1 100 5 = 0 := by rw [hM.2.2.2 100 5 (by unfold sSum; omega)]; exact ho
      refine kg_X7_sum_25 hq _ _ _ ⟨fun c => ?_, fun c => kf_openOperand hq (h0y hM) sy (L ++ M) (fun z => hxW (hW.trans z)) hM.1 hM.2.1 hF hoy (RI_0 hRy) (by omega) hDy hsx.1 (fun r z hMz hFz r0 r7 hzz hDz hsz hRz a f9 v s' hSz hdz hPz hCz => kp_sort hq hMz.1.1 ?_)⟩
      · exfalso; rw [t_lt, k700] at c; omega
      have hMxz := SM_tr hM hMz
      have by0 := hM.1.1.2.1
      have hRxz : RIw K V sN e E x z M := by
        have := RI_app by0 hMs hRy hMz.2.2.1 hRz
        rw [List.append_nil] at this
        exact this
      have hWz := hW.trans hdz
      have hKz : kc (z.1 23 (z.1 100 4).toNatClampNeg) = K (nn z) := hRxz.1.1 _ hRxz.2.1
      have hzle : hz y ≤ 18 := by
        have : hz y ≤ (y.1 100 17).toNatClampNeg := zc_le _
        have a1 := hM.2.1.1.2
        rw [t_cl] at this; omega
      have epr : (p + r).toInt = p.toInt + r.toInt := t_add (by omega) (by omega)
      have hoz : o = true ↔ z.1 100 5 = 0 := by rw [hMxz.2.2.2 100 5 (by unfold sSum; omega)]; exact ho
      have hKNz : ¬ z.1 100 5 = 0 → KN z ∧ KV' K e z E := fun q9 => by
        obtain ⟨c1, c2⟩ := hK (by rw [← hMxz.2.2.2 100 5 (by unfold sSum; omega)]; exact q9)
        exact ⟨KN_fm c1 (hMxz.2.2.2 _ _ (by unfold sSum; omega)) (hMxz.2.2.2 _ _ (by unfold sSum; omega)) (fun k => hMxz.2.2.2 _ _ (by unfold sSum; omega)), KV_fm c2 (hMxz.2.2.2 _ _ (by unfold sSum; omega)) (fun k => hMxz.2.2.2 _ _ (by unfold sSum; omega))⟩
      have bz := hMz.1.1.2.1
      have hsxz : SXg sN V K E H x z ((a, f9 + 1, v) :: s') M := by
        refine ⟨hPz, fun q9 => ?_⟩
        have := CPl_app (hsx.2 q9) hCz
        rw [List.append_nil] at this
        exact this
      have pre : ¬ (K (nn z) = 29 ∨ K (nn z) = 58) ∧ pbg o (K (nn z)) := by
        refine ⟨fun q => ?_, (pbg_k hKz).mpr ?_⟩
        · rw [← hKz] at q
          rcases hsz with e | e | ⟨e, -⟩ <;> (rw [e] at q; exact absurd q (by decide))
        · rcases hsz with e | e | e
          · exact Or.inr (Or.inl e)
          · exact Or.inl e
          · exact Or.inr (Or.inr (Or.inr (Or.inr (Or.inr e))))
      have hx3 : pO (pE K o f9) K o (nn z) (L ++ M) = none → RX x0 X := fun q => hxW (hWz.trans (dA_leaf0 pre.1 q))
      have aft : ∀ w, SM z w → FR w → hz w = hz z → w.1 100 17 = z.1 100 17 → (∀ k, w.1 116 k = z.1 116 k ∧ w.1 117 k = z.1 117 k) → nx z < nx w → ∀ N, RIw K V sN e E z w N → still N → pO (pE K o f9) K o (nn z) (L ++ M) = some (nn w, L ++ M ++ N) → (H → CPl z w (sPs sN V K E N)) → (∀ k, w.1 115 k = z.1 115 k) → KE G q (d + 9) zk_X7_sum 66 [(0, vr 100), (2, vi l2), (3, vi (p + r)), (4, vi k)] [] w (ri F) X := by
        intro w hMw hFw zw w17 w117 nw N hRw hN hpO hCw h115w
        have lz := hMz.2.2.1.2.1
        refine p66 (p + r).toInt.toNat (p + r) w ((a, f9 + 1, v) :: s') (M ++ N) (SM_tr hMxz hMw) hFw (by omega) (by omega) (by rw [zw, epr]; omega) (fun i hi => ?_) (by omega) (by rw [w17]; exact HD_eq (fun k _ => w117 k) hSz) (RI_app bz hMs hRxz hMw.2.2.1 hRw) (still_app hMs hN) ?_ ?_
        · rw [(w117 i).2]
          rw [w17] at hi
          exact hDz i hi
        · rw [hWz, dA_leaf pre.2 pre.1 hpO, List.append_assoc]
        · exact ⟨by rw [w17]; exact HP_eq (fun k _ => h115w k) hsxz.1, fun q9 => by rw [sPs_app]; exact CPl_app (hsxz.2 q9) (hCw q9)⟩
      have p62 : (¬ z.1 23 (z.1 100 4).toNatClampNeg = 2 ∨ ¬ z.1 100 5 = 0) → KE G q (d + 9) zk_X7_sum 62 [(0, vr 100), (2, vi l2), (3, vi (p + r)), (4, vi k)] [] z (ri F) X := fun ho9 => kg_X7_sum_62 hq _ _ _ (kf_readOperand hq (h0y hMxz) (L ++ M) f9 hx3 hMz.1 hMz.2.1 hFz (by
        rcases hsz with e | e | ⟨e, -⟩
        · rcases ho9 with g | g
          · exact absurd e g
          · refine Or.inr (Or.inr ⟨e, ?_, hKNz g⟩)
            cases o with
            | false => rfl
            | true => exact absurd (hoz.mp rfl) g
        · exact Or.inl e
        · exact Or.inr (Or.inl e)) (RI_0 hRxz) (fun w hMw hFw zw w17 w117 nw N hRw hN hpO hCw h115w => aft w hMw hFw zw w17 w117 (by omega) N hRw hN hpO (fun _ => hCw) h115w))
      exact ⟨fun c2 => p62 (Or.inl c2), fun c2 => ⟨fun c5 => p62 (Or.inr c5), fun c5 => kf_claimedCell hq (h0y hMxz) (L ++ M) f9 (hoz.mpr c5) hx3 hMz.1 hMz.2.1 c2 (RI_0 hRxz) (fun w hMw hFw zw w17 w117 nw N hRw hN hpO hCw h115w => aft w hMw hFw zw w17 w117 nw N hRw hN hpO (fun q9 => hCw (hH.mp q9 (hoz.mpr c5))) h115w)⟩⟩
  refine kg_X7_sum_0 hq _ (fun x1 e1 => ?_)
  have f1 : fm (fun c k => c = 100 ∧ k = 17) x x1 := by rw [e1]; exact fm_si (fm_rf _ _) ⟨rfl, rfl⟩
  have q17 : x1.1 100 17 = 0 := by rw [e1]; (simp only [si_get, sfl_get, Nat.reduceEqDiff, eq_self, and_false, false_and, and_true, true_and, if_true, if_false, reduceIte, reduceCtorEq])
  have H1 : HI x1 := by
    unfold HI
    rw [q17, k0]
    exact ⟨by omega, fun i hi => by omega, fun i j hij hj => by omega⟩
  have S1 : SU x1 := by
    obtain ⟨⟨hT, b1, b2, b3⟩, ⟨u1, u2⟩, hp, hP⟩ := hS
    have nn : nx x1 = nx x := by unfold nx; rw [f1 100 4 (by omega)]
    have la : La x x1 := ⟨fun c k q1 q2 => f1 c k (by omega), by omega, fun j _ => f1 42 j (by omega)⟩
    unfold SU SV US RB mt
    rw [f1 20 7 (by omega), f1 60 3 (by omega), nn]
    refine ⟨⟨kT_fm hT la.1, b1, b2, b3⟩, ⟨fun j h1 h2 => ?_, fun j h1 h2 => ?_⟩, hp, fun i hi => La_PQ la (f1 _ _ (by omega)) (f1 _ _ (by omega)) (hP i hi)⟩
    · rw [f1 42 j (by omega)]; exact u1 j h1 h2
    · rw [f1 42 j (by omega)] at h2; rw [f1 42 _ (by omega)]; exact u2 j h1 h2
  have M1 : SM x x1 := ⟨S1, H1, ⟨fun c k q1 q2 => f1 c k (by omega), by unfold nx; rw [f1 100 4 (by omega)]; exact Int.le_refl _, fun j _ => f1 42 j (by omega)⟩, fm_w f1 (fun c k q => by unfold sSum; omega)⟩
  have F1 : FR x1 := by unfold FR at hf ⊢; rw [f1 100 4 (by omega), f1 42 _ (by omega)]; exact hf
  have z1 : hz x1 = 0 := by unfold hz; rw [q17]; rfl
  have R1 : RIw K V sN e E x x1 [] := RI_st hR (f1 _ _ (by omega)) (fun j => f1 _ _ (by omega)) (fun c k q1 q2 => f1 _ _ (by omega))
  refine kf_hold hq _ _ _ H1 (by decide) (by decide) (by rw [q17, k0]; omega) hD2 (fun i hi => by rw [q17, k0] at hi; omega) (fun x2 f2 H2 z2 t1 t2 t3 t4 t5 t6 => ?_)
  obtain ⟨g1, g2, g3⟩ := SM_hold M1 f2 H2
  have n2 : nx x2 = nx x := by unfold nx; rw [g3, f1 100 4 (by omega)]
  have nn2 : nn x2 = nn x := by unfold nn; rw [g3, f1 100 4 (by omega)]
  have R2 : RIw K V sN e E x x2 [] := RI_st R1 g3 (fun j => f2 _ _ (by omega)) (fun c k q1 q2 => f2 _ _ (by omega))
  have hD2' : HD x2 (x2.1 100 17).toNatClampNeg [(0, 17 - D.toNatClampNeg, 50, 0, 0)] := by
    have c0 : (x1.1 100 17).toNatClampNeg = 0 := by rw [q17]; rfl
    rw [q17, k0] at t1
    have n9 : (x2.1 100 17).toNatClampNeg = 0 + 1 := by rw [t_cl, t1]; rfl
    rw [c0] at t2 t3
    rw [n9]
    refine ⟨0, 17 - D.toNatClampNeg, (50, 0, 0), [], rfl, ?_, Or.inl (by rw [t2]; rfl), ⟨by decide, fun _ => rfl⟩, Or.inl rfl, rfl⟩
    rw [t3]
    omega
  refine loop 701 _ _ _ x2 _ [] g1 (g2 F1) (by decide) (by rw [z2, z1, if_pos rfl, k0]; rfl) (by decide) (by rw [k0]; omega) (by omega) hD2' R2 still_nil (by rw [dAk_1, nn2, List.append_nil]; exact eW) ⟨?_, fun _ => CPl_st (CPl_st CPl_rf (f1 _ _ (by omega)) (fun k => ⟨f1 _ _ (by omega), f1 _ _ (by omega)⟩)) (f2 _ _ (by omega)) (fun k => ⟨f2 _ _ (by omega), f2 _ _ (by omega)⟩)⟩ rfl
  rw [q17, k0] at t1
  have n9 : (x2.1 100 17).toNatClampNeg = 0 + 1 := by rw [t_cl, t1]; rfl
  rw [n9]
  exact ⟨fun q => absurd rfl q, trivial⟩
end KSG
end
