/-! the class: an operand is read -/
section KPF
variable {G : kG} {q : kP} {d : Nat} {x x0 y z : gd} {F : Int32 → gd → Prop} {Fv : gd → Prop} {X : String → gd → Prop} {P : Option gv → gd → Prop} {m : Int} {K V : Nat → Int32} {sN : Nat → Nat → Bool} {e : Nat} {E : gV} {M N : gU} {o : Bool}
theorem dull_k {k a b : Nat} (h : ∀ u ∈ [3, 6, 7, 12, 23, 24, 25, 26, 27, 65, 66, 67, 70, 31, 32, 33, 34], ¬ k = u) : dull (k, a, b) := h
theorem stl_k {k a b : Nat} (h : ¬ k = 20 ∧ ¬ k = 21 ∧ ¬ k = 22) : still [(k, a, b)] := still_one h
theorem RI_app (h0 : 0 ≤ nx y) (hM : still M) (h : RIw K V sN e E x y M) (l : La y z) (g : RIw K V sN e E y z N) : RIw K V sN e E x z (M ++ N) := ⟨g.1, g.2.1, UR_app h0 h.2.2 l (by rw [exs_still hM]; exact g.2.2)⟩
theorem RI_0 (h : RIw K V sN e E x y M) : RIw K V sN e E y y [] := ⟨h.1, h.2.1, UR_0 rfl⟩
theorem KA_n0 (h : KA K V sN e x) {j : Nat} (hj : j ≤ e) {c : Int32} (hc : x.1 23 j = c) : K j = kc c := by rw [← h.1 j hj, hc]
/-- a local is known, or not -/
theorem kfi_of {t : Nat} (h : ∀ (p : Nat) (k : Nat × Nat), p < E.1.length - (0 : Int32).toNatClampNeg → E.1[p]? = some k → ¬ sN k.1 t = true) : kfi sN E.1 t = none := kfi_none (fun p k hk => h p k (by
  obtain ⟨hp, -⟩ := List.getElem?_eq_some_iff.mp hk
  have : (0 : Int32).toNatClampNeg = 0 := rfl
  omega) hk)
theorem kf_readOperand (hq : kV q) (h0 : fm sR x0 x) (L : gU) (f : Nat) (hx : pO (pE K o f) K o (nn x) L = none → RX x0 X) (hS : SU x) (hH : HI x) (hf : FR x) (hK : x.1 23 (x.1 100 4).toNatClampNeg = 3 ∨ x.1 23 (x.1 100 4).toNatClampNeg = 62 ∨ (x.1 23 (x.1 100 4).toNatClampNeg = 2 ∧ o = false ∧ KN x ∧ KV' K e x E)) (hR : RIw K V sN e E x x []) (h : ∀ y, SM x y → FR y → hz y = hz x → y.1 100 17 = x.1 100 17 → (∀ k, y.1 116 k = x.1 116 k ∧ y.1 117 k = x.1 117 k) → nx y = nx x + 1 → ∀ M, RIw K V sN e E x y M → still M → pO (pE K o f) K o (nn x) L = some (nn y, L ++ M) → CPl x y (sPs sN V K E M) → (∀ k, y.1 115 k = x.1 115 k) → Fv y) : KE G q (d + 8) zk_X7_readOperand 0 [(0, vr 100)] [] x (rv Fv) X := by
  have hs : ¬ x.1 23 (x.1 100 4).toNatClampNeg = 0 ∧ ¬ x.1 23 (x.1 100 4).toNatClampNeg = 1 := by
    rcases hK with e | e | ⟨e, -⟩ <;> rw [e] <;> decide
  have hlt := RB_lt hS.1 hs.1
  have htk : tk x (x.1 100 4) := ⟨hS.1.2.1, hlt⟩
  have hKi : kc (x.1 23 (x.1 100 4).toNatClampNeg) = K (nn x) := hR.1.1 _ hR.2.1
  have kk0 : ¬ K (nn x) = 0 := by
    rw [← hKi]
    exact fun z => hs.1 (kc_i (c := 0) (z.trans (by decide)) (by decide))
  have kk3 : ¬ K (nn x) = 3 := by
    rw [← hKi]
    exact fun z => hs.2 (kc_i1 z)
  have b1 := hS.1.2.1
  have un := nn_is b1
  have fin : ∀ (z w : gd) (u : Int32) (M : gU), ¬ u = 12 → fm (fun c k => c = 42 ∧ k = (x.1 100 4).toNatClampNeg) x z → z.1 42 (x.1 100 4).toNatClampNeg = u → SU z → ∀ p a : Int32, AP z w p a → CPl z w [(p, a)] → sPs sN V K E M = [(p, a)] → ((p = 2 → (0 ≤ a.toInt ∧ a.toInt < 24) ∨ z.1 42 (x.1 100 4).toNatClampNeg = 3) ∧ ¬ p = 6) → (∀ (U : Nat → Int32) (n : Nat), U (nn x) = u → nn x < n → HAs sN U n M E) → (¬ u = 0 → HBs sN M E (nn x) u) → still M → (nn x < 700 → pO (pE K o f) K o (nn x) L = some (nn x + 1, L ++ M)) → KE G q (d + 8) zk_X7_readOperand 93 [(0, vr 100)] [] w (rv Fv) X := by
    intro z w u M hu12 fz eu hSz p a hA hCA hsp hp26 mA mB hst hpO
    obtain ⟨hp2, hp6⟩ := hp26
    have e4 : w.1 100 4 = x.1 100 4 := by rw [hA.1 _ _ (by omega), fz _ _ (by omega)]
    have Sw : SV w (z.1 60 3).toInt := AP_SV (Int.le_refl _) hSz hA
    have us : w.1 42 (w.1 100 4).toNatClampNeg = u := by rw [e4, hA.1 42 _ (by omega)]; exact eu
    have f0 : fm sSum x w := fm_tr (fm_w fz (fun c k q => by unfold sSum; omega)) (fm_w hA.1 (fun c k q => by unfold sSum; omega))
    have e5 : nx w = nx x := by unfold nx; rw [e4]
    refine kg_X7_readOperand_93 hq (kf_pass hq (fm_tr h0 (fm_w f0 (fun c k q => sSum_R q))) (fun c7 => hx ?_) Sw (by rw [e4, f0 23 _ (by unfold sSum; omega)]; exact hs.1) (by rw [us]; exact hu12) (fun c7 y f n1 S fr la _ => ?_))
    · unfold pO
      rw [if_pos (by omega)]
    have fx : fm sSum x y := fm_tr f0 (fm_w f (fun c k q => by unfold sSum; omega))
    have SUy : SU y := by
      refine ⟨S.1, S.2.1, S.2.2.1, fun i hi => ?_⟩
      rw [f 60 3 (by omega)] at hi
      rcases hA.2.2.2.2 i hi with e | ⟨e1, e2⟩
      · exact S.2.2.2 i e
      · unfold PQ
        rw [f 62 i (by omega), f 63 i (by omega), e1, e2]
        refine ⟨fun c => ?_, fun c => absurd c hp6⟩
        rcases hp2 c with g | g
        · exact Or.inl g
        · refine Or.inr ⟨(x.1 100 4).toNatClampNeg, ?_, Or.inl ?_⟩
          · have b1 := hS.1.2.1
            rw [n1, e5, t_cl]; unfold nx at *; omega
          · rw [f 42 _ (by omega), hA.1 42 _ (by omega)]; exact g
    obtain ⟨g1, g2⟩ := HI_eq (z := y) hH (by rw [f _ _ (by omega), hA.1 _ _ (by omega), fz _ _ (by omega)]) (fun c k q1 q2 => by rw [f _ _ (by omega), hA.1 _ _ (by omega), fz _ _ (by omega)])
    have laxy : La x y := ⟨fun c k q1 q2 => fx c k (by unfold sSum; omega), by omega, fun j hj => by rw [f 42 j (by omega), hA.1 42 j (by omega), fz 42 j (by rw [t_cl]; have b1 := hS.1.2.1; unfold nx at *; omega)]⟩
    have ny := nn_up (y := x) (z := y) b1 (by omega)
    have uy : y.1 42 (nn x) = u := by rw [f 42 _ (by omega), hA.1 42 _ (by omega)]; exact eu
    refine rv_i (h y ⟨SUy, g1, laxy, fx⟩ fr g2 (by rw [f _ _ (by omega), hA.1 _ _ (by omega), fz _ _ (by omega)]) (fun k => ⟨by rw [f _ _ (by omega), hA.1 _ _ (by omega), fz _ _ (by omega)], by rw [f _ _ (by omega), hA.1 _ _ (by omega), fz _ _ (by omega)]⟩) (by omega) M ⟨KA_fm hR.1 laxy.1, by rw [ny]; exact KA_on hR.1 hR.2.1 (by omega) kk0 kk3, mA _ _ uy (by omega), fun j h1 h2 h3 => ?_⟩ hst (by rw [ny]; exact hpO (by omega)) ?_ (fun k => by rw [f _ _ (by omega), hA.1 _ _ (by omega), fz _ _ (by omega)]))
    rotate_left
    · rw [hsp]
      have c1 : CPl x z [] := CPl_st CPl_rf (fz _ _ (by omega)) (fun k => ⟨fz _ _ (by omega), fz _ _ (by omega)⟩)
      exact CPl_st (CPl_app c1 hCA) (f _ _ (by omega)) (fun k => ⟨f _ _ (by omega), f _ _ (by omega)⟩)
    have ej : j = nn x := by omega
    rw [ej, uy] at h3 ⊢
    exact mB h3
  have pO2 : x.1 23 (x.1 100 4).toNatClampNeg = 3 → nn x < 700 → pO (pE K o f) K o (nn x) L = some (nn x + 1, L ++ [(52, nn x, 0)]) := fun c h7 => by
    have : K (nn x) = 2 := by rw [← hKi, c]; decide
    unfold pO
    rw [if_neg (by omega), if_pos this]
  have pO62 : x.1 23 (x.1 100 4).toNatClampNeg = 62 → nn x < 700 → pO (pE K o f) K o (nn x) L = some (nn x + 1, L ++ [(53, nn x, 0)]) := fun c h7 => by
    have : K (nn x) = 32 := by rw [← hKi, c]; decide
    unfold pO
    rw [if_neg (by omega), if_neg (by rw [this]; decide), if_pos this]
  have dl : ∀ {v : Nat × Nat × Nat} {u : Int32}, dull v → u = 0 → (∀ (U : Nat → Int32) (n : Nat), U (nn x) = u → nn x < n → HAs sN U n [v] E) ∧ (¬ u = 0 → HBs sN [v] E (nn x) u) := fun hv hu => ⟨fun U n _ _ => HAs_one.mpr (HA_dull hv), fun z => absurd hu z⟩
  have p83 : x.1 23 (x.1 100 4).toNatClampNeg = 2 → o = false → ∀ l s : Int32, (l = -1 ∧ s = 3 ∧ kfi sN E.1 (nn x) = none ∨ (0 ≤ l.toInt ∧ l.toInt < 24) ∧ s = 0 ∧ ¬ kfi sN E.1 (nn x) = none) → l = (match kfi sN E.1 (nn x) with | some p => Int32.ofNat p | none => -1) → KE G q (d + 8) zk_X7_readOperand 83 [(0, vr 100), (1, vi l)] [vi s, vi (x.1 100 4), vr 42] x (rv Fv) X := by
    intro c2 co l s hls hl9
    refine kg_X7_readOperand_83 hq _ _ _ ⟨RB_at hS.1, fun z ez => ?_⟩
    have fz : fm (fun c k => c = 42 ∧ k = (x.1 100 4).toNatClampNeg) x z := by rw [ez]; exact fm_si (fm_rf _ _) ⟨rfl, rfl⟩
    have eu : z.1 42 (x.1 100 4).toNatClampNeg = s := by rw [ez]; (simp only [si_get, sfl_get, Nat.reduceEqDiff, eq_self, and_false, false_and, and_true, true_and, if_true, if_false, reduceIte, reduceCtorEq])
    have e4 : z.1 100 4 = x.1 100 4 := fz _ _ (by omega)
    have e7 : z.1 20 7 = x.1 20 7 := fz _ _ (by omega)
    have b1 := hS.1.2.1
    have eN : ((x.1 100 4).toNatClampNeg : Int) = nx x := by rw [t_cl]; unfold nx at *; omega
    have la : La x z := ⟨fun c k q1 q2 => fz c k (by omega), by unfold nx; rw [e4]; exact Int.le_refl _, fun j hj => fz 42 j (by omega)⟩
    have Sz : SU z := by
      obtain ⟨⟨hT, b1, b2, b3⟩, ⟨u1, u2⟩, hp, hP⟩ := hS
      unfold SU SV US RB mt
      have q3 : z.1 60 3 = x.1 60 3 := fz _ _ (by omega)
      have nn : nx z = nx x := by unfold nx; rw [e4]
      rw [e7, q3, nn]
      refine ⟨⟨kT_fm hT la.1, b1, b2, b3⟩, ⟨fun j h1 h2 => ?_, fun j h1 h2 => ?_⟩, hp, fun i hi => La_PQ la (fz _ _ (by omega)) (fz _ _ (by omega)) (hP i hi)⟩
      · rw [fz 42 j (by omega)]; exact u1 j h1 h2
      · rw [fz 42 j (by omega)] at h2; rw [fz 42 _ (by omega)]; exact u2 j h1 h2
    refine kf_addPart hq _ _ Sz.2.2.1 (fun w hA hCA => fin z w s [(3, nn x, 0)] ?_ fz eu Sz 2 l hA hCA (by rw [hl9]; rfl) ⟨fun _ => ?_, by decide⟩ (fun U n hU hn => HAs_one.mpr (HA_3.mpr ⟨hn, fun hk => ?_⟩)) (fun z => HBs_one.mpr (Or.inl ⟨rfl, ?_, rfl, ?_⟩)) (stl_k (by decide)) (fun h7 => ?_))
    · rcases hls with ⟨-, rfl, -⟩ | ⟨-, rfl, -⟩ <;> decide
    · rcases hls with ⟨-, e, -⟩ | ⟨e, -⟩
      · exact Or.inr (by rw [eu, e])
      · exact Or.inl e
    · rcases hls with ⟨-, e, -⟩ | ⟨-, -, e⟩
      · rw [hU, e]
      · exact absurd hk e
    · rcases hls with ⟨-, e, -⟩ | ⟨-, e, -⟩
      · exact e
      · exact absurd e z
    · rcases hls with ⟨-, -, e⟩ | ⟨-, e, -⟩
      · exact e
      · exact absurd e z
    · have k1 : K (nn x) = 1 := by rw [← hKi, c2]; decide
      unfold pO
      rw [if_neg (by omega), if_neg (by rw [k1]; decide), if_neg (by rw [k1]; decide), if_neg (by rw [k1]; decide), if_pos k1, if_neg (by rw [co]; decide)]
  have k0 : (0 : Int32).toInt = 0 := rfl
  have p0 : x.1 23 (x.1 100 4).toNatClampNeg = 2 → o = false → KN x → KV' K e x E → KT G q (d + 7) zk_X7_knownFrom 0 [(0, vr 100), (1, vi 0), (2, vi (x.1 100 4))] [] x (ri (fun r8 x7 => ((¬ (r8 = (-1 : Int32)) → KE G q (d + 8) zk_X7_readOperand 83 [(0, vr 100), (1, vi r8)] [vi 0, vi (x7.1 100 4), vr 42] x7 (rv Fv) X) ∧ (r8 = (-1 : Int32) → KE G q (d + 8) zk_X7_readOperand 83 [(0, vr 100), (1, vi r8)] [vi 3, vi (x7.1 100 4), vr 42] x7 (rv Fv) X)))) := by
    intro c2 co hN hE
    have k8 := hN.1.2
    have e9 := hE.1
    refine kf_knownFrom hq hS.1.1 hN hR.1 hE _ _ (by decide) htk hR.2.1 (by rw [show K (x.1 100 4).toNatClampNeg = K (nn x) from rfl, ← hKi, c2]; decide) (fun r hr => ⟨fun c => p83 c2 co _ _ (Or.inr ?_) ?_, fun c => p83 c2 co _ _ (Or.inl ⟨c, rfl, ?_⟩) ?_⟩)
    · rcases hr with ⟨e, -⟩ | ⟨n, e1, e2, e3, e4, -⟩
      · exact absurd e c
      · exact ⟨⟨by omega, by omega⟩, rfl, by rw [show nn x = (x.1 100 4).toNatClampNeg from rfl, e4]; simp⟩
    · rcases hr with ⟨e, -⟩ | ⟨n, e1, e2, e3, e4, -⟩
      · exact absurd e c
      · rw [show nn x = (x.1 100 4).toNatClampNeg from rfl, e4]
        exact i32_of e1
    · rcases hr with ⟨-, e⟩ | ⟨n, e1, e2, e3, e4, -⟩
      · exact kfi_of e
      · exfalso
        rw [c, tm1] at e1
        omega
    · rcases hr with ⟨e0, e⟩ | ⟨n, e1, e2, e3, e4, -⟩
      · rw [show kfi sN E.1 (nn x) = none from kfi_of e]; exact e0
      · exfalso
        rw [c, tm1] at e1
        omega
  refine kg_X7_readOperand_0 hq (kp_sort hq hS.1 ⟨fun c3 => kp_sort hq hS.1 ⟨fun c62 => ?_, fun c62 => kf_addPart hq _ _ hS.2.2.1 (fun w hA hCA => fin x w 0 [(53, nn x, 0)] (by decide) (fm_rf _ _) hf hS 3 0 hA hCA rfl ⟨fun c => absurd c (by decide), by decide⟩ (dl (dull_k (by decide)) rfl).1 (dl (dull_k (by decide)) rfl).2 (stl_k (by decide)) (pO62 c62))⟩, fun c3 => ⟨RB_at hS.1, kf_addPart hq _ _ hS.2.2.1 (fun w hA hCA => fin x w 0 [(52, nn x, 0)] (by decide) (fm_rf _ _) hf hS 1 _ hA hCA (by rw [show x.1 27 (x.1 100 4).toNatClampNeg = V (nn x) from hR.1.2.1 _ hR.2.1 (by rw [← hKi, c3]; decide)]; rfl) ⟨fun c => absurd c (by decide), by decide⟩ (dl (dull_k (by decide)) rfl).1 (dl (dull_k (by decide)) rfl).2 (stl_k (by decide)) (pO2 c3))⟩⟩)
  rcases hK with e | e | ⟨e1, e2, e3, e4⟩
  · exact absurd e c3
  · exact absurd e c62
  · exact p0 e1 e2 e3 e4
end KPF
