/-! the model: attempt() -/
section TAT
variable {G : mG} {d D : Nat} {x z a : gd} {F : Int32 → gd → Prop} {Fv : gd → Prop} {C : gCo} {nl wr : Nat}
theorem sc_attempt (q : MI z) (gc : GC C) (hK : ¬ z.1 0 66 = 0 → MK z C ∧ NCq C ∧ LkN C nl ∧ nl ≤ 6 ∧ C.2.2.1.length ≤ 24 ∧ (z.1 0 26).toInt = (C.2.2.2.1.length : Nat) ∧ (z.1 0 27).toInt = (C.2.2.2.2.length : Nat)) (hH : ¬ z.1 0 67 = 0 → HistC C wr z) (w l : Int32) (hD : 8 ≤ D) (h01 : z.1 0 66 = 0 → ∀ z', rfK 1 z z' → F 0 z') (h02 : ¬ z.1 0 66 = 0 → ¬ ((w = 0 ∨ w = 1) ∧ 1 ≤ l.toInt ∧ l.toInt ≤ 3000) → ∀ z', rfK 2 z z' → F 0 z') (h1 : ∀ (wn lim : Nat) z', (wn = 0 ∨ wn = 1) → w = Int32.ofNat wn → l.toInt = (lim : Nat) → 1 ≤ lim → lim ≤ 3000 → ¬ z.1 0 66 = 0 → PM z z' → z'.1 0 0 = 0 → (z'.1 0 67 = z.1 0 67 ∧ z'.1 0 94 = z.1 0 94 ∧ z'.1 96 = z.1 96 ∧ (¬ z.1 0 67 = 0 → HistC C wr z')) → TYc C wn z' (tryM C wn lim) → ¬ z'.1 119 wn = 0 → (∀ w', ¬ w' = wn → z'.1 119 w' = z.1 119 w') → ow wn z z' → F (z'.1 120 w.toNatClampNeg) z') : MT G D z_attempt 0 [(0, vr 0), (1, vi w), (2, vi l)] [] z (ri F) := by
  obtain ⟨D, rfl⟩ : ∃ D', D = D' + 1 := ⟨D - 1, by omega⟩
  have k0 : (0 : Int32).toInt = 0 := rfl
  have k1 : (1 : Int32).toInt = 1 := rfl
  have k3 : (3000 : Int32).toInt = 3000 := rfl
  have z0' : (0 : Int32).toNatClampNeg = 0 := rfl
  refine sg_attempt_0 _ _ (fun y e => ?_)
  have hy := z0_s e
  have b1n : ¬ vp_nar .boolean 1 = 0 := by decide
  have y66 : y.1 0 66 = z.1 0 66 := hy.1.1 66 (by decide)
  have y67 : y.1 0 67 = z.1 0 67 := hy.1.1 67 (by decide)
  have hHy : ¬ y.1 0 67 = 0 → HistC C wr y := fun h9 => HistC_0 hy.1 (hH (by rw [← y67]; exact h9))
  have qy := (MI_0 hy.1 q).1
  have y2 : y.1 0 2 = z.1 0 2 := hy.1.1 2 (by decide)
  have p51 : ¬ y.1 0 66 = 0 → ∀ b : Int32, (b = 0 → (vp_in w 2 ∧ (w = 0 ∨ w = 1)) ∧ 1 ≤ l.toInt ∧ l.toInt ≤ 3000) → (¬ b = 0 → ¬ ((w = 0 ∨ w = 1) ∧ 1 ≤ l.toInt ∧ l.toInt ≤ 3000)) → MT G (D + 1) z_attempt 51 [(0, vr 0), (1, vi w), (2, vi l)] [vi b, vr 0] y (ri F) := by
    intro hc b hb hb2
    refine sg_attempt_51 _ _ _ (sc_refk b 2 hy (by decide) (fun b0 => ⟨fun _ => ?_, fun q => absurd rfl q⟩) (fun nb y' m => ⟨fun q => absurd q (by decide), fun _ => ri_i (h02 (by rw [← y66]; exact hc) (hb2 nb) y' m)⟩))
    obtain ⟨⟨wv, w01⟩, l1, l3⟩ := hb b0
    obtain ⟨wn, w01n, ew, ewn⟩ := w_nat w01
    obtain ⟨lim, elm⟩ : ∃ lim : Nat, l.toInt = lim := ⟨l.toInt.toNat, by omega⟩
    have hcz : ¬ z.1 0 66 = 0 := by rw [← y66]; exact hc
    obtain ⟨hKz, hq2, hLk, n6, l24, l26, l27⟩ := hK hcz
    have h1 := fun z' => h1 wn lim z' w01n ew elm (by omega) (by omega) hcz
    obtain ⟨W, eW⟩ : ∃ W, W = w.toNatClampNeg := ⟨_, rfl⟩
    have W2 : W < 2 := by rw [eW]; exact vp_lt wv
    have eWn : W = wn := by rw [eW]; exact ewn
    have cp := qy.2.1 hc
    -- the trying itself; u: behind the state kept
    have p81 : ∀ u : gd, mi [136] [136] y u → (¬ y.1 0 67 = 0 → ∀ i : Nat, i < 222 → u.1 136 i = pv y i) → MT G (D + 1) z_attempt 81 [(0, vr 0), (1, vi w), (2, vi l), (3, vi (y.1 0 68))] [] u (ri F) := by
      intro u mu ru
      refine sg_attempt_81 _ _ _ (fun u1 e1 => ?_)
      have m1 := md_f u 68 w
      rw [← e1] at m1
      have h168 : u1.1 0 68 = w := by rw [e1, si_get, if_pos ⟨rfl, rfl⟩]
      have myu1 : mi [68, 136] [136] y u1 := mi_tr mu (mi_of m1) rfl rfl
      refine sp_tryAll3 gc hq2 hLk n6 l24 w01n w l ew wv (CP_mi myu1 rfl rfl cp) (MK_mi myu1 rfl rfl (MK_mi hy.1 rfl rfl hKz)) (by rw [myu1.1 26 (by decide), hy.1.1 26 (by decide)]; exact l26) (by rw [myu1.1 27 (by decide), hy.1.1 27 (by decide)]; exact l27) h168 elm l1 l3 (by omega) (fun A v hM ti tj => ⟨wv, fun v4 e4 v5 e5 => ?_⟩)
      rw [← eW] at ti tj e4
      obtain ⟨M, eM⟩ : ∃ M, M = (tryM C wn lim).1.length := ⟨_, rfl⟩
      have tyc0 : TYc C wn v (tryM C wn lim) := by rw [eWn] at ti tj; exact TYc_of hM ti tj
      rw [← eM] at hM ti
      have m4 := md_a v 119 W (vp_nar .boolean 1) (by decide)
      rw [← e4] at m4
      have m5 := md_f v4 68 (y.1 0 68)
      rw [← e5] at m5
      have h5 : v5.1 0 68 = y.1 0 68 := by rw [e5, si_get, if_pos ⟨rfl, rfl⟩]
      have mv5 : mi [68] [119] v v5 := mi_tr (mi_of m4) (mi_of m5) rfl rfl
      have my5 : mi (68 :: tL) (119 :: 136 :: tA') y v5 := mi_tr (mi_tr (L3 := 68 :: tL) (A3 := 136 :: tA') myu1 ti.1 rfl rfl) mv5 rfl rfl
      have pr5 : prE y v5 := prE_mi (prE_rf y) my5 rfl rfl
      have tyW : TY v5 W := TY_mi mv5 rfl rfl (TY_TI hM ti)
      have tyc5 : TYc C wn v5 (tryM C wn lim) := TYc_mi mv5 rfl tyc0
      have e119w : ¬ v5.1 119 wn = 0 := by rw [m5.2.1 119 (by decide) (by decide), e4, ← eWn, si_get, if_pos ⟨rfl, rfl⟩]; exact b1n
      have g119 : y.1 119 = z.1 119 := hy.1.2 119 (by decide) (by simp)
      have v0 : v5.1 0 0 = 0 := by rw [my5.1 0 (by decide)]; exact hy.2
      have owz : ow wn z y := ow_mi hy.1 rfl
      have ow5 : ow W y v5 := ow_tr (ow_tr (ow_mi myu1 rfl) ti.2.1) (ow_mi mv5 rfl)
      have e119 : ∀ w' : Nat, ¬ w' = W → v5.1 119 w' = y.1 119 w' := fun w' hw' => by
        rw [m5.2.1 119 (by decide) (by decide), e4, si_ne 119 w' hw', ti.1.2 119 (by decide) (by decide), myu1.2 119 (by decide) (by decide)]
      have tys : ∀ w' : Nat, w' < 2 → ¬ v5.1 119 w' = 0 → ¬ v5.1 0 66 = 0 ∧ TY v5 w' := by
        intro w' hw' hn
        refine ⟨by rw [my5.1 66 (by decide)]; exact hc, ?_⟩
        by_cases q9 : w' = W
        · rw [q9]; exact tyW
        · rw [e119 w' q9] at hn
          exact TY_ow hw' q9 ow5 pr5 (qy.2.2.2 w' hw' hn).2
      have g5 : G0 v5 := G0_mi my5 rfl rfl qy.1
      have cp5 : CP v5 := CP_mi my5 rfl rfl cp
      have o119 : ∀ w', ¬ w' = wn → v5.1 119 w' = z.1 119 w' := fun w' hw' => by rw [← g119]; exact e119 w' (by rw [eWn]; exact hw')
      have owy : ow wn z v5 := ow_tr owz (by rw [← eWn]; exact ow5)
      refine ⟨fun n67 => ⟨wv, ri_i (h1 v5 (PM_0 hy.1 ⟨⟨g5, fun _ => cp5, fun q9 => absurd n67 q9, tys⟩, my5.1 2 (by decide), fun k hk => my5.1 k (all_no (M := mfL) rfl k hk), fun c hc => my5.2 c (mfA_0 c hc) (all_no (M := mfA) rfl c hc)⟩) v0 ⟨by rw [my5.1 67 (by decide)]; exact y67, by rw [my5.1 94 (by decide)]; exact hy.1.1 94 (by decide), by rw [my5.2 96 (by decide) (by decide)]; exact hy.1.2 96 (by decide) (by simp), fun h9 => absurd (show z.1 0 67 = 0 by rw [← y67, ← my5.1 67 (by decide)]; exact n67) h9⟩ tyc5 e119w o119 owy)⟩, fun h67 => ?_⟩
      rw [my5.1 67 (by decide)] at h67
      obtain ⟨s, n, q1, q2, q3, q4, q5, q6, q7⟩ := hHy h67
      have av := (q2 n (Nat.le_refl _)).1
      have el : eqS (Sl (s n)) (s n) y := eqS_w (Sl_Sm _) q4
      have r136 : ∀ i : Nat, i < 222 → v5.1 136 (0 + i) = pv (s n) i := fun i hi => by
        rw [Nat.zero_add, m5.2.1 136 (by decide) (by decide), m4.2.1 136 (by decide) (by decide), ti.1.2 136 (by decide) (by decide), m1.2.1 136 (by decide) (by decide), ru h67 i hi]
        exact pv_eq el hi
      refine sp_unpack (Or.inr rfl) mk_136 ml_136 0 (by decide) (by decide) (by decide) (fun v8 m8 r8 => ?_)
      rw [z0'] at r8
      have e8 : eqS (Sl (s n)) (s n) v8 := by
        refine un_eq ?_ ?_ (fun t ht => (av.1.2 t ht).2.2.2.1) (fun i hi => by rw [r8 i hi, r136 i hi])
        · exact prE_tr (prE_eqS el) (prE_mi pr5 (mi_of m8) rfl rfl)
        · rw [m8.1 68 (by decide), h5, cF el (by decide)]
      refine MT_up (by omega) (MTv_mono (av.2.2.2.2.2 G v8 e8) (fun v9 g9 => ⟨wv, ri_i ?_⟩))
      have m59 : mi [82, 84, 88, 89, 90, 91, 92, 93] [70, 71, 72, 73, 74, 75, 76, 77, 78, 79, 80, 81, 82, 84, 86, 87, 88] v5 v9 := mi_tr (mi_of m8) (mi_of g9.2) rfl rfl
      have my9 : mi (68 :: tL) (119 :: 136 :: tA') y v9 := mi_tr my5 m59 rfl rfl
      have h9 : v9.1 0 68 = y.1 0 68 := by rw [m59.1 68 (by decide)]; exact h5
      have c9 : c96 v9 = c96 y := by unfold c96; rw [my9.2 96 (by decide) (by decide)]
      have histc : HistC C wr v9 := ⟨s, n, by rw [my9.1 94 (by decide)]; exact q1, by rw [c9]; exact q2, by rw [c9, my9.2 96 (by decide) (by decide)]; exact q3, g9.1, by rw [h9]; exact St_pr (prE_mi (prE_rf y) my9 rfl rfl) q5, by rw [h9]; exact q6, HA_mi my9 rfl rfl q7⟩
      have hist : Hist v9 := HistC_H histc
      refine h1 v9 (PM_0 hy.1 ⟨⟨G0_mi my9 rfl rfl qy.1, fun _ => CP_mi my9 rfl rfl cp, fun _ => ⟨by rw [my9.1 66 (by decide)]; exact hc, hist⟩, fun w' hw' hn => ?_⟩, my9.1 2 (by decide), fun k hk => my9.1 k (all_no (M := mfL) rfl k hk), fun c hc => my9.2 c (mfA_0 c hc) (all_no (M := mfA) rfl c hc)⟩) (by rw [m59.1 0 (by decide)]; exact v0) ⟨by rw [my9.1 67 (by decide)]; exact y67, by rw [my9.1 94 (by decide)]; exact hy.1.1 94 (by decide), by rw [my9.2 96 (by decide) (by decide)]; exact hy.1.2 96 (by decide) (by simp), fun _ => histc⟩ (TYc_mi m59 rfl tyc5) (by rw [m59.2 119 (by decide) (by decide)]; exact e119w) (fun w' hw' => by rw [m59.2 119 (by decide) (by decide)]; exact o119 w' hw') (ow_tr owy (ow_mi m59 rfl))
      rw [m59.2 119 (by decide) (by decide)] at hn
      exact ⟨by rw [my9.1 66 (by decide)]; exact hc, TY_mi m59 rfl rfl (tys w' hw' hn).2⟩
    refine ⟨fun n67 => p81 y ⟨fun _ _ => rfl, fun _ _ _ => rfl⟩ (fun q => absurd n67 q), fun h67 => ?_⟩
    obtain ⟨s, n, q1, q2, q3, q4, q5, q6, q7⟩ := hHy h67
    refine sp_pack (Or.inr rfl) mk_136 ml_136 0 (by decide) (by decide) (by decide) (fun t ht => by rw [cA q4 (c := 80) (n := 6) (by decide) ht]; exact ((q2 n (Nat.le_refl _)).1.1.2 t ht).2.2.2.1) (fun u mu _ ru _ => p81 u (mi_of mu) (fun _ i hi => ?_))
    have := ru i hi
    rw [z0', Nat.zero_add] at this
    exact this
  have p18 : ∀ b : Int32, (b = 0 → ¬ y.1 0 66 = 0) → (¬ b = 0 → y.1 0 66 = 0) → MT G (D + 1) z_attempt 18 [(0, vr 0), (1, vi w), (2, vi l)] [vi b, vr 0] y (ri F) := by
    intro b hb hb9
    refine sg_attempt_18 _ _ _ (sc_refk b 1 hy (by decide) (fun b0 => ⟨fun q => absurd rfl q, fun _ => sp_in _ _ _ ⟨fun c1 => p51 (hb b0) 1 (fun q => absurd q (by decide)) (fun _ z9 => ?_), fun c1 => sp_in _ _ _ ⟨fun c2 => p51 (hb b0) 0 (fun _ => ⟨w_in (bi_ne.mp c1), ?_⟩) (fun z9 => absurd rfl z9), fun c2 => p51 (hb b0) 1 (fun q => absurd q (by decide)) (fun _ z9 => ?_)⟩⟩⟩) (fun nb y' m => ⟨fun _ => ri_i (h01 (by rw [← y66]; exact hb9 nb) y' m), fun q => absurd q (by decide)⟩))
    · refine bi_eq.mp c1 ?_
      rcases z9.1 with e9 | e9 <;> rw [e9]
      · exact ⟨by decide, by decide⟩
      · exact ⟨by decide, by decide⟩
    rotate_left
    · exact bi_eq.mp c2 ⟨t_le.mpr (by rw [k1]; exact z9.2.1), t_le.mpr (by rw [k3]; exact z9.2.2)⟩
    obtain ⟨a1, a2⟩ := bi_ne.mp c2
    rw [t_le, k1] at a1
    rw [t_le, k3] at a2
    exact ⟨a1, a2⟩
  exact ⟨fun c => p18 0 (fun _ => c) (fun z9 => absurd rfl z9), fun c => p18 1 (fun q => absurd q (by decide)) (fun _ => c)⟩
end TAT
