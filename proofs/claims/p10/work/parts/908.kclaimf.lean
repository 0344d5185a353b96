/-! the class: a cell in a claim -/
section KCF2
variable {G : kG} {q : kP} {d : Nat} {x x0 y z : gd} {F : Int32 → gd → Prop} {Fv : gd → Prop} {X : String → gd → Prop} {P : Option gv → gd → Prop} {m : Int} {K V : Nat → Int32} {sN : Nat → Nat → Bool} {e : Nat} {E : gV} {M N : gU} {o : Bool}
theorem exV_k {k a b : Nat} (h : ¬ k = 20 ∧ ¬ k = 21 ∧ ¬ k = 22) : exV E (k, a, b) = E := exV_still h
theorem UR_row (N8 : nn y = nn x + 4) (v0 : y.1 42 (nn x) = 7) (v1 : y.1 42 (nn x + 1) = 0) (v2 : y.1 42 (nn x + 2) = 12) (v3 : y.1 42 (nn x + 3) = 0) : UR sN E x y [(7, nn x, 0), (12, nn x + 2, nn x)] := by
  have x7 : exV E (7, nn x, 0) = E := exV_k (by decide)
  refine ⟨⟨HA_7.mpr ⟨by omega, Or.inl v0⟩, by rw [x7]; exact HAs_one.mpr (HA_12.mpr ⟨by omega, v2, rfl⟩)⟩, fun j h1 h2 h3 => ?_⟩
  have hj : j = nn x ∨ j = nn x + 1 ∨ j = nn x + 2 ∨ j = nn x + 3 := by omega
  rcases hj with ej | ej | ej | ej
  · rw [ej, v0]
    exact Or.inl (Or.inr (Or.inr (Or.inl ⟨rfl, rfl, rfl⟩)))
  · rw [ej] at h3; exact absurd v1 h3
  · rw [ej, v2]
    exact Or.inr (HBs_one.mpr (Or.inr (Or.inr (Or.inr (Or.inl ⟨rfl, rfl, rfl, rfl⟩)))))
  · rw [ej] at h3; exact absurd v3 h3
theorem kf_claimRow {y3 : gd} (hq : kV q) (z3 : fm sR x0 y3) (S3 : SV y3 m) (r3 : FR y3) (N3 : nn y3 = nn x + 1) (b1 : 0 ≤ nx x) (hA : KA K V sN e x) (La3 : La x y3) (on1 : nn x + 1 ≤ e) (hK1 : K (nn x + 1) = 65) (u3 : y3.1 42 (nn x) = 7) (hx : ¬ (nn x + 1 < 700 ∧ (K (nn x + 2) = 2 ∧ nn x + 2 < 700) ∧ K (nn x + 3) = 66 ∧ nn x + 3 < 700) → RX x0 X)
    (h : ∀ y8, (nn x + 1 < 700 ∧ (K (nn x + 2) = 2 ∧ nn x + 2 < 700) ∧ K (nn x + 3) = 66 ∧ nn x + 3 < 700) → SV y8 m → FR y8 → La x y8 → fm (fun c k => c = 42 ∨ (c = 100 ∧ k = 4)) y3 y8 → nn y8 = nn x + 4 → RIw K V sN e E x y8 [(7, nn x, 0), (12, nn x + 2, nn x)] → y8.1 23 (nn x + 2) = 3 → y8.1 42 (nn x) = 7 → y8.1 42 (nn x + 2) = 12 → Fv y8) :
    KE G q (d + 7) zk_X7_pass 0 [(0, vr 100)] [] y3 (rv (fun x5 => KE G q (d + 7) zk_X7_needFor 0 [(0, vr 100), (1, vi 3), (2, vi 12)] [] x5 (ri (fun r7 x6 => KE G q (d + 7) zk_X7_need 0 [(0, vr 100), (1, vi 26)] [] x6 (rv Fv) X)) X)) X := by
  have hA3 : KA K V sN e y3 := KA_fm hA La3.1
  have b3 := S3.1.2.1
  have c3 := nn_is b3
  have m3 : (y3.1 100 4).toNatClampNeg = nn x + 1 := N3
  have q1 : kc (y3.1 23 (nn x + 1)) = 65 := by rw [hA3.1 _ on1]; exact hK1
  have q1n : ¬ y3.1 23 (y3.1 100 4).toNatClampNeg = 0 := by
    rw [m3]; intro z; rw [z] at q1; exact absurd q1 (by decide)
  refine kf_pass hq z3 (fun c9 => hx (by omega)) S3 q1n (FR_12 r3) (fun c9 y5 f5 n5 S5 r5 l5 z5 => ?_)
  have i1 : nn x + 1 < 700 := by omega
  have N5 : nn y5 = nn x + 2 := by have := nn_up (y := y3) (z := y5) b3 n5; omega
  have m5 : (y5.1 100 4).toNatClampNeg = nn x + 2 := N5
  have on2 : nn x + 2 ≤ e := KA_on hA on1 i1 (by rw [hK1]; decide) (by rw [hK1]; decide)
  have hA5 : KA K V sN e y5 := KA_fm hA3 l5.1
  have b5 := S5.1.2.1
  have c5 := nn_is b5
  have k3 : y5.1 23 (nn x + 2) = 3 ↔ K (nn x + 2) = 2 := KA_k hA5 on2 3 (by decide)
  have u5 : ∀ j, y5.1 42 j = y3.1 42 j := fun j => f5 _ _ (fun q => absurd q.1 (by decide))
  clear c9 n5 c3 b3
  refine kf_needFor hq z5 3 12 (fun c10 => hx ?_) S5 (by decide) (fun _ => ⟨by omega, ?_⟩) (fun cw c10 y6 f6 u6 n6 S6 r6 l6 z6 _ => ?_)
  · rintro ⟨-, ⟨d1, d2⟩, -⟩
    rcases c10 with c10 | c10
    · rw [m5] at c10
      exact c10 (k3.mpr d1)
    · omega
  · rw [m5, Nat.add_sub_cancel, u5]
    exact u3
  rw [m5] at cw u6 f6
  have hK2 : K (nn x + 2) = 2 := k3.mp cw
  have i2 : nn x + 2 < 700 := by omega
  have N6 : nn y6 = nn x + 3 := by have := nn_up (y := y5) (z := y6) b5 n6; omega
  have m6 : (y6.1 100 4).toNatClampNeg = nn x + 3 := N6
  have on3 : nn x + 3 ≤ e := KA_on hA on2 i2 (by rw [hK2]; decide) (by rw [hK2]; decide)
  have hA6 : KA K V sN e y6 := KA_fm hA5 l6.1
  have b6 := S6.1.2.1
  have c6 := nn_is b6
  have k26 : y6.1 23 (nn x + 3) = 26 ↔ K (nn x + 3) = 66 := KA_k hA6 on3 26 (by decide)
  have e6 : ∀ j, ¬ j = nn x + 2 → y6.1 42 j = y5.1 42 j := fun j hj => f6 _ _ (fun q => q.elim (fun q => hj q.2) (fun q => absurd q.1 (by decide)))
  have t6 : y6.1 23 (nn x + 2) = 3 := by rw [f6 _ _ (fun q => q.elim (fun q => absurd q.1 (by decide)) (fun q => absurd q.1 (by decide)))]; exact cw
  clear n6 c5 c10
  refine kf_need hq z6 26 (fun c11 => hx ?_) S6 (by decide) r6 (fun cw3 c11 y8 f8 n8 S8 r8 l8 z8 => ?_)
  · rintro ⟨-, -, d1, d2⟩
    rcases c11 with c11 | c11
    · rw [m6] at c11
      exact c11 (k26.mpr d1)
    · omega
  rw [m6] at cw3
  have hK3 : K (nn x + 3) = 66 := k26.mp cw3
  have i3 : nn x + 3 < 700 := by omega
  have N8 : nn y8 = nn x + 4 := by have := nn_up (y := y6) (z := y8) b6 n8; omega
  have on4 : nn x + 4 ≤ e := KA_on hA on3 i3 (by rw [hK3]; decide) (by rw [hK3]; decide)
  have La8 : La x y8 := La_tr (La_tr (La_tr La3 l5) l6) l8
  have e8 : ∀ j, y8.1 42 j = y6.1 42 j := fun j => f8 _ _ (fun q => absurd q.1 (by decide))
  have v0 : y8.1 42 (nn x) = 7 := by rw [e8, e6 _ (by omega), u5]; exact u3
  have v1 : y8.1 42 (nn x + 1) = 0 := by
    rw [e8, e6 _ (by omega), u5, ← m3]
    exact r3
  have v2 : y8.1 42 (nn x + 2) = 12 := by rw [e8]; exact u6
  have v3 : y8.1 42 (nn x + 3) = 0 := by
    rw [e8, ← m6]
    exact r6
  refine h y8 ⟨i1, ⟨hK2, i2⟩, hK3, i3⟩ S8 r8 La8 ?_ N8 ⟨KA_fm hA La8.1, by rw [N8]; exact on4, UR_row N8 v0 v1 v2 v3⟩ ?_ v0 v2
  · exact fm_tr (fm_tr (fm_w f5 (fun c k q => Or.inr q)) (fm_w f6 (fun c k q => q.imp (fun q => q.1) id))) (fm_w f8 (fun c k q => Or.inr q))
  · rw [f8 _ _ (fun q => absurd q.1 (by decide))]; exact t6
theorem kf_claimedCell (hq : kV q) (h0 : fm sR x0 x) (L : gU) (f : Nat) (ho : o = true) (hx : pO (pE K o f) K o (nn x) L = none → RX x0 X) (hS : SU x) (hH : HI x) (hs : x.1 23 (x.1 100 4).toNatClampNeg = 2) (hR : RIw K V sN e E x x []) (h : ∀ y, SM x y → FR y → hz y = hz x → y.1 100 17 = x.1 100 17 → (∀ k, y.1 116 k = x.1 116 k ∧ y.1 117 k = x.1 117 k) → nx x < nx y → ∀ M, RIw K V sN e E x y M → still M → pO (pE K o f) K o (nn x) L = some (nn y, L ++ M) → (E.2.1 = [] → CPl x y (sPs sN V K E M)) → (∀ k, y.1 115 k = x.1 115 k) → Fv y) : KE G q (d + 8) zk_X7_claimedCell 0 [(0, vr 100)] [] x (rv Fv) X := by
  have b1 := hS.1.2.1
  have eN : ((x.1 100 4).toNatClampNeg : Int) = nx x := by rw [t_cl]; unfold nx at *; omega
  have un := nn_is b1
  have nx0 : (x.1 100 4).toNatClampNeg = nn x := rfl
  have hKi : K (nn x) = 1 := by rw [← hR.1.1 _ hR.2.1, show x.1 23 (nn x) = 2 from hs]; decide
  have pO7 : 700 ≤ nn x → pO (pE K o f) K o (nn x) L = none := fun c => by unfold pO; rw [if_pos c]
  have pOe : nn x < 700 → pO (pE K o f) K o (nn x) L = if K (nn x + 1) = 65 then (if nn x + 1 < 700 ∧ (K (nn x + 2) = 2 ∧ nn x + 2 < 700) ∧ K (nn x + 3) = 66 ∧ nn x + 3 < 700 then some (nn x + 4, L ++ [(7, nn x, 0), (12, nn x + 2, nn x)]) else none) else some (nn x + 1, L ++ [(6, nn x, 0)]) := fun c => by
    unfold pO
    rw [if_neg (by omega), if_neg (by rw [hKi]; decide), if_neg (by rw [hKi]; decide), if_neg (by rw [hKi]; decide), if_pos hKi, if_pos ho]
  have on1 : nn x < 700 → nn x + 1 ≤ e := fun c => KA_on hR.1 hR.2.1 c (by rw [hKi]; decide) (by rw [hKi]; decide)
  have e6 : Int32.ofNat (nn x) = x.1 100 4 := (i32_of (by have := un; unfold nx at this b1; omega)).symm
  have fin : ∀ (w y : gd) (M : gU), AP x w 6 (x.1 100 4) → CPl x w [(6, x.1 100 4)] → (E.2.1 = [] → sPs sN V K E M = [(6, Int32.ofNat (nn x))]) → SV y (x.1 60 3).toInt → fm (fun c k => c = 42 ∨ (c = 100 ∧ k = 4)) w y → La x y → FR y → nx x < nx y → (y.1 42 (x.1 100 4).toNatClampNeg = 6 ∨ (y.1 42 (x.1 100 4).toNatClampNeg = 7 ∧ nx x + 2 < nx y ∧ y.1 42 ((x.1 100 4).toNatClampNeg + 2) = 12 ∧ y.1 23 ((x.1 100 4).toNatClampNeg + 2) = 3)) → RIw K V sN e E x y M → still M → pO (pE K o f) K o (nn x) L = some (nn y, L ++ M) → Fv y := by
    intro w y M hA hCA hsp Sy fy la fr hn hp hRy hM hpO
    have fx : fm sSum x y := fm_tr (fm_w hA.1 (fun c k q => by unfold sSum; omega)) (fm_w fy (fun c k q => by unfold sSum; omega))
    have SUy : SU y := by
      refine ⟨Sy.1, Sy.2.1, Sy.2.2.1, fun i hi => ?_⟩
      rw [fy 60 3 (by omega)] at hi
      rcases hA.2.2.2.2 i hi with e | ⟨e1, e2⟩
      · exact Sy.2.2.2 i e
      · unfold PQ
        rw [fy 62 i (by omega), fy 63 i (by omega), e1, e2]
        refine ⟨fun c => absurd c (by decide), fun _ => ⟨(x.1 100 4).toNatClampNeg, eN.symm, by omega, ?_⟩⟩
        rcases hp with g | ⟨g1, g2, g3, g4⟩
        · exact Or.inl g
        · exact Or.inr ⟨g1, by omega, g3, g4⟩
    obtain ⟨g1, g2⟩ := HI_eq (z := y) hH (by rw [fy _ _ (by omega), hA.1 _ _ (by omega)]) (fun c k q1 q2 => by rw [fy _ _ (by omega), hA.1 _ _ (by omega)])
    exact h y ⟨SUy, g1, la, fx⟩ fr g2 (by rw [fy _ _ (by omega), hA.1 _ _ (by omega)]) (fun k => ⟨by rw [fy _ _ (by omega), hA.1 _ _ (by omega)], by rw [fy _ _ (by omega), hA.1 _ _ (by omega)]⟩) hn M hRy hM hpO (fun hb9 => by rw [hsp hb9, e6]; exact CPl_st hCA (fy _ _ (by omega)) (fun k => ⟨fy _ _ (by omega), fy _ _ (by omega)⟩)) (fun k => by rw [fy _ _ (by omega), hA.1 _ _ (by omega)])
  have p50 : ∀ (l s : Int32) (w : gd), AP x w 6 (x.1 100 4) → CPl x w [(6, x.1 100 4)] → (l = 0 ∧ s = 6 ∧ ¬ x.1 23 ((x.1 100 4).toNatClampNeg + 1) = 25 ∨ ¬ l = 0 ∧ s = 7 ∧ x.1 23 ((x.1 100 4).toNatClampNeg + 1) = 25) → KE G q (d + 8) zk_X7_claimedCell 50 [(0, vr 100), (1, vi l)] [vi s, vi (w.1 100 4), vr 42] w (rv Fv) X := by
    intro l s w hA hCA hls
    have w4 : w.1 100 4 = x.1 100 4 := hA.1 _ _ (by omega)
    rw [w4]
    refine kg_X7_claimedCell_50 hq _ _ _ ⟨RB_at hS.1, fun x2 e2 => ?_⟩
    have f2 : fm (fun c k => c = 42 ∧ k = (x.1 100 4).toNatClampNeg) w x2 := by rw [e2]; exact fm_si (fm_rf _ _) ⟨rfl, rfl⟩
    have u2 : x2.1 42 (x.1 100 4).toNatClampNeg = s := by rw [e2]; (simp only [si_get, sfl_get, Nat.reduceEqDiff, eq_self, and_false, false_and, and_true, true_and, if_true, if_false, reduceIte, reduceCtorEq])
    have q4 : x2.1 100 4 = x.1 100 4 := by rw [f2 _ _ (by omega)]; exact w4
    have Sw : SV w (x.1 60 3).toInt := AP_SV (Int.le_refl _) hS hA
    have nw : nx w = nx x := by unfold nx; rw [w4]
    have la2 : La w x2 := ⟨fun c k q1 q2 => f2 c k (by omega), by unfold nx; rw [f2 100 4 (by omega)]; exact Int.le_refl _, fun j hj => f2 42 j (by omega)⟩
    have S2 : SV x2 (x.1 60 3).toInt := by
      obtain ⟨⟨hT, b1, b2, b3⟩, ⟨u1, u2⟩, hp, hP⟩ := Sw
      have nn : nx x2 = nx w := by unfold nx; rw [f2 100 4 (by omega)]
      unfold SV US RB mt
      rw [f2 20 7 (by omega), f2 60 3 (by omega), nn]
      refine ⟨⟨kT_fm hT la2.1, b1, b2, b3⟩, ⟨fun j h1 h2 => ?_, fun j h1 h2 => ?_⟩, hp, fun i hi => La_PQ la2 (f2 _ _ (by omega)) (f2 _ _ (by omega)) (hP i hi)⟩
      · rw [f2 42 j (by omega)]; exact u1 j h1 h2
      · rw [f2 42 j (by omega)] at h2; rw [f2 42 _ (by omega)]; exact u2 j h1 h2
    have t2 : ∀ k, x2.1 23 k = x.1 23 k := fun k => by rw [f2 _ _ (by omega), hA.1 _ _ (by omega)]
    have fx2 : fm sSum x x2 := fm_tr (fm_w hA.1 (fun c k q => by unfold sSum; omega)) (fm_w f2 (fun c k q => by unfold sSum; omega))
    have n2 : nx x2 = nx x := by unfold nx; rw [q4]
    refine kf_pass hq (fm_tr h0 (fm_w fx2 (fun c k q => sSum_R q))) (fun c7 => hx (pO7 (by omega))) S2 (by rw [q4, t2, hs]; decide) ?_ (fun c7 y3 f3 n3 S3 r3 l3 z3 => ?_)
    · rw [q4, u2]
      rcases hls with ⟨-, rfl, -⟩ | ⟨-, rfl, -⟩ <;> decide
    have i7 : nn x < 700 := by omega
    have hpe := pOe i7
    have La3 : La x y3 := La_tr (La_tr (AP_La hA) la2) l3
    have u3 : y3.1 42 (x.1 100 4).toNatClampNeg = s := by rw [f3 _ _ (by omega)]; exact u2
    have N3 : nn y3 = nn x + 1 := nn_up (y := x) b1 (by omega)
    have m3 : (y3.1 100 4).toNatClampNeg = nn x + 1 := N3
    have k25 : x.1 23 (nn x + 1) = 25 ↔ K (nn x + 1) = 65 := KA_k hR.1 (on1 i7) 25 (by decide)
    refine ⟨fun c => rv_i ?_, fun c => ?_⟩
    · obtain ⟨-, es, e25⟩ : l = 0 ∧ s = 6 ∧ ¬ x.1 23 ((x.1 100 4).toNatClampNeg + 1) = 25 := by
        rcases hls with e | ⟨e, -⟩
        · exact e
        · exact absurd c e
      rw [if_neg (fun z => e25 (k25.mpr z))] at hpe
      have hsp : E.2.1 = [] → sPs sN V K E [(6, nn x, 0)] = [(6, Int32.ofNat (nn x))] := fun hE0 => by
        show [(6, nn x, 0)].filterMap (cPt sN V K E) = _
        have e9 : cPt sN V K E (6, nn x, 0) = some (6, Int32.ofNat (nn x)) := if_pos hE0
        simp [e9]
      refine fin w y3 [(6, nn x, 0)] hA hCA hsp S3 (fm_tr (fm_w f2 (fun c k q => Or.inl q.1)) (fm_w f3 (fun c k q => Or.inr q))) La3 r3 (by omega) (Or.inl (by rw [u3, es])) ⟨KA_fm hR.1 La3.1, by rw [N3]; exact on1 i7, HAs_one.mpr (HA_6.mpr ⟨by omega, by rw [show y3.1 42 (nn x) = s from u3, es]⟩), fun j h1 h2 h3 => ?_⟩ (stl_k (by decide)) (by rw [N3]; exact hpe)
      have ej : j = nn x := by omega
      rw [ej]
      exact HBs_one.mpr (Or.inr (Or.inl ⟨rfl, by rw [show y3.1 42 (nn x) = s from u3, es], rfl⟩))
    obtain ⟨es, e25⟩ : s = 7 ∧ x.1 23 ((x.1 100 4).toNatClampNeg + 1) = 25 := by
      rcases hls with ⟨e, -⟩ | ⟨-, e⟩
      · exact absurd e c
      · exact e
    have hK1 : K (nn x + 1) = 65 := k25.mp e25
    rw [if_pos hK1] at hpe
    refine kf_claimRow (E := E) hq z3 S3 r3 N3 b1 hR.1 La3 (on1 i7) hK1 (u3.trans es) (fun no => hx (by rw [hpe, if_neg no])) (fun y8 yes S8 r8 La8 f8 N8 hR8 c8 u8 u82 => rv_i ?_)
    rw [if_pos yes] at hpe
    have c8n := nn_is S8.1.2.1
    have hsp : E.2.1 = [] → sPs sN V K E [(7, nn x, 0), (12, nn x + 2, nn x)] = [(6, Int32.ofNat (nn x))] := fun hE0 => by
      show [(7, nn x, 0), (12, nn x + 2, nn x)].filterMap (cPt sN V K E) = _
      have e9 : cPt sN V K E (7, nn x, 0) = some (6, Int32.ofNat (nn x)) := if_pos hE0
      have e10 : cPt sN V K E (12, nn x + 2, nn x) = none := rfl
      simp [e9, e10]
    exact fin w y8 [(7, nn x, 0), (12, nn x + 2, nn x)] hA hCA hsp S8 (fm_tr (fm_tr (fm_w f2 (fun c k q => Or.inl q.1)) (fm_w f3 (fun c k q => Or.inr q))) f8) La8 r8 (by omega) (Or.inr ⟨u8, by omega, u82, c8⟩) hR8 (still_app (L := [(7, nn x, 0)]) (M := [(12, nn x + 2, nn x)]) (stl_k (by decide)) (stl_k (by decide))) (by rw [N8]; exact hpe)
  have p14 : ∀ s : Int32, (s = 0 ∧ ¬ x.1 23 ((x.1 100 4).toNatClampNeg + 1) = 25 ∨ s = 1 ∧ x.1 23 ((x.1 100 4).toNatClampNeg + 1) = 25) → KE G q (d + 8) zk_X7_claimedCell 14 [(0, vr 100)] [vi s] x (rv Fv) X := by
    intro s hs1
    refine kg_X7_claimedCell_14 hq _ (kf_addPart hq _ _ hS.2.2.1 (fun w hA hCA => ⟨fun c => p50 _ _ w hA hCA (Or.inl ⟨c, rfl, ?_⟩), fun c => p50 _ _ w hA hCA (Or.inr ⟨c, rfl, ?_⟩)⟩))
    · rcases hs1 with ⟨-, e⟩ | ⟨e, -⟩
      · exact e
      · rw [e] at c; exact absurd c (by decide)
    · rcases hs1 with ⟨e, -⟩ | ⟨-, e⟩
      · exact absurd e c
      · exact e
  exact kg_X7_claimedCell_0 hq (kp_sortBehind hq hS.1 ⟨fun c => p14 _ (Or.inl ⟨rfl, c⟩), fun c => p14 _ (Or.inr ⟨rfl, c⟩)⟩)
end KCF2
