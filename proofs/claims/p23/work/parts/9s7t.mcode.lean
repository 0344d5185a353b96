section
/-! the model: begin, go, draw, again with the numbers of their refusals -/
section MFK
variable {G : mG} {d D : Nat} {x z a : gd} {F : Int32 → gd → Prop} {Fv : gd → Prop} {C : gCo} {w : Nat}
theorem sk_begin (q : MI z) (l : Int32) (gc : ¬ z.1 0 66 = 0 → MK z C ∧ GC C) (hD : 7 ≤ D) (h01 : z.1 0 66 = 0 → ∀ z', rfK 1 z z' → F 0 z') (h02 : ¬ z.1 0 66 = 0 → ¬ (l = 0 ∨ l = 1) → ∀ z', rfK 2 z z' → F 0 z') (h1 : ∀ (w : Nat) z', ¬ z.1 0 66 = 0 → l = Int32.ofNat w → HistC C w z' → mi rnL rnA z z' → z'.1 0 0 = 0 → z'.1 0 67 = 1 → z'.1 0 94 = 0 → F (z'.1 0 84) z') : MT G D z_begin 0 [(0, vr 0), (1, vi l)] [] z (ri F) := by
  obtain ⟨D, rfl⟩ : ∃ D', D = D' + 1 := ⟨D - 1, by omega⟩
  have k0 : (0 : Int32).toInt = 0 := rfl
  have k1 : (1 : Int32).toInt = 1 := rfl
  refine sg_begin_0 _ (fun y e => ?_)
  have hy := z0_s e
  have e66 : y.1 0 66 = z.1 0 66 := hy.1.1 66 (by decide)
  have p40 : ¬ z.1 0 66 = 0 → ∀ b : Int32, (b = 0 → l = 0 ∨ l = 1) → (¬ b = 0 → ¬ (l = 0 ∨ l = 1)) → MT G (D + 1) z_begin 40 [(0, vr 0), (1, vi l)] [vi b, vr 0] y (ri F) := by
    intro c b hb hb2
    refine sg_begin_40 _ _ (sc_refk b 2 hy (by decide) (fun b0 => ⟨fun _ => ?_, fun q => absurd rfl q⟩) (fun nb y' m => ⟨fun q => absurd q (by decide), fun _ => ri_i (h02 c (hb2 nb) y' m)⟩))
    have qy := (MI_0 hy.1 q).1
    obtain ⟨hK, gC⟩ := gc c
    have hKy : MK y C := MK_f hK (fun k hk => hy.1.1 k (fun z9 => by rw [List.mem_singleton.mp z9] at hk; exact absurd hk (by decide))) (fun c9 hc9 => hy.1.2 c9 (mfA_0 c9 hc9) (by simp))
    obtain ⟨w, w01, ew⟩ : ∃ w : Nat, (w = 0 ∨ w = 1) ∧ l = Int32.ofNat w := by
      rcases hb b0 with e | e
      · exact ⟨0, Or.inl rfl, e⟩
      · exact ⟨1, Or.inr rfl, e⟩
    rw [ew]
    refine sc_startRun gC (qy.2.1 (by rw [e66]; exact c)) hKy w01 (by omega) (fun z' hh sf => ri_i ?_)
    obtain ⟨m, f94, ha, f67, f68⟩ := sf
    exact h1 w z' c ew hh (mi_tr hy.1 m rfl rfl) (by rw [m.1 0 (by decide)]; exact hy.2) f67 f94
  have p18 : ∀ b : Int32, (b = 0 → ¬ z.1 0 66 = 0) → (¬ b = 0 → ¬ ¬ z.1 0 66 = 0) → MT G (D + 1) z_begin 18 [(0, vr 0), (1, vi l)] [vi b, vr 0] y (ri F) := by
    intro b hb hb2
    refine sg_begin_18 _ _ (sc_refk b 1 hy (by decide) (fun b0 => ⟨fun q => absurd rfl q, fun _ => sp_in _ _ _ ⟨fun c => p40 (hb b0) 0 (fun _ => ?_) (fun z => absurd rfl z), fun c => p40 (hb b0) 1 (fun q => absurd q (by decide)) (fun _ z => ?_)⟩⟩) (fun nb y' m => ⟨fun _ => ri_i (h01 (Classical.not_not.mp (hb2 nb)) y' m), fun q => absurd q (by decide)⟩))
    · obtain ⟨c1, c2⟩ := bi_ne.mp c
      rw [t_le, k0] at c1
      rw [t_le, k1] at c2
      rw [t_eq, t_eq, k0, k1]
      omega
    · refine bi_eq.mp c ?_
      rcases z with z | z <;> rw [z] <;> decide
  rw [e66]
  exact ⟨fun c => p18 0 (fun _ => c) (fun z => absurd rfl z), fun c => p18 1 (fun q => absurd q (by decide)) (fun _ z => z c)⟩
theorem sk_go (q : MI z) (gc : GC C) (hH : ¬ z.1 0 67 = 0 → ∃ w, HistC C w z) (i : Int32) (hD : 7 ≤ D) (h01 : ¬ (¬ z.1 0 67 = 0 ∧ (z.1 0 94).toInt < 400) → ∀ z', rfK 1 z z' → F 0 z') (h02 : (¬ z.1 0 67 = 0 ∧ (z.1 0 94).toInt < 400) → ¬ (0 ≤ i.toInt ∧ i.toInt < (z.1 0 84).toInt) → ∀ z', rfK 2 z z' → F 0 z') (h1 : ∀ (w : Nat) z', ¬ z.1 0 67 = 0 → (z.1 0 94).toInt < 400 → 0 ≤ i.toInt → i.toInt < (z.1 0 84).toInt → HistC C w z → HistC C w z' → mi rnL rnA z z' → z'.1 0 0 = 0 → z'.1 0 67 = z.1 0 67 → (z'.1 0 94).toInt = (z.1 0 94).toInt + 1 → c96 z' (z.1 0 94).toInt.toNat = i.toNatClampNeg → rwE (c96 z') (c96 z) (z.1 0 94).toInt.toNat → F (z'.1 0 84) z') : MT G D z_go 0 [(0, vr 0), (1, vi i)] [] z (ri F) := by
  obtain ⟨D, rfl⟩ : ∃ D', D = D' + 2 := ⟨D - 2, by omega⟩
  have k0 : (0 : Int32).toInt = 0 := rfl
  have k1 : (1 : Int32).toInt = 1 := rfl
  have k4 : (400 : Int32).toInt = 400 := rfl
  refine sg_go_0 _ (fun y e => ?_)
  have hy := z0_s e
  have e67 : y.1 0 67 = z.1 0 67 := hy.1.1 67 (by decide)
  have e84 : y.1 0 84 = z.1 0 84 := hy.1.1 84 (by decide)
  have e94 : y.1 0 94 = z.1 0 94 := hy.1.1 94 (by decide)
  have e96 : y.1 96 = z.1 96 := hy.1.2 96 (by decide) (by simp)
  refine sc_noRunk hy (fun hr => ⟨fun q => absurd rfl q, fun _ => ?_⟩) (fun c y' m => ⟨fun _ => ri_i (h01 (fun z9 => z9.1 (by rw [← e67]; exact c)) y' m), fun q => absurd q (by decide)⟩)
  rw [e67] at hr
  obtain ⟨w, hh⟩ := hH hr
  obtain ⟨b1, b2, b3⟩ := HistC_b hh
  have hhy := HistC_0 hy.1 hh
  have p55 : ¬ y.1 0 94 = 400 → ∀ b : Int32, (b = 0 → 0 ≤ i.toInt ∧ i.toInt < (y.1 0 84).toInt) → (¬ b = 0 → ¬ (0 ≤ i.toInt ∧ i.toInt < (y.1 0 84).toInt)) → MT G (D + 2) z_go 55 [(0, vr 0), (1, vi i)] [vi b, vr 0] y (ri F) := by
    intro n4 b hb hb2
    refine sg_go_55 _ _ (sc_refk b 2 hy (by decide) (fun b0 => ⟨fun _ => ?_, fun q => absurd rfl q⟩) (fun nb y' m => ⟨fun q => absurd q (by decide), fun _ => ri_i (h02 ⟨hr, by have n5 := n4; rw [t_eq, k4, e94] at n5; omega⟩ (fun z9 => hb2 nb (by rw [e84]; exact z9)) y' m)⟩))
    rw [t_eq, k4, e94] at n4
    obtain ⟨g1, g2⟩ := hb b0
    refine sc_more gc hhy (by rw [e94]; omega) i g1 g2 (by omega) (fun z' hh' df => ri_i ?_)
    obtain ⟨m, d94, d96, d96b⟩ := df
    rw [e94] at d94 d96 d96b
    refine h1 w z' hr (by omega) g1 (by rw [← e84]; exact g2) hh hh' (mi_tr hy.1 m rfl rfl) (by rw [m.1 0 (by decide)]; exact hy.2) (by rw [m.1 67 (by decide)]; exact e67) d94 ?_ (fun k hk => ?_)
    · show (z'.1 96 _).toNatClampNeg = _
      rw [t_cl] at d96
      rw [d96]
    · show (z'.1 96 k).toNatClampNeg = (z.1 96 k).toNatClampNeg
      rw [d96b k (by rw [t_cl]; omega), e96]
  have p28 : ∀ b : Int32, (b = 0 → ¬ y.1 0 94 = 400) → (¬ b = 0 → y.1 0 94 = 400) → MT G (D + 2) z_go 28 [(0, vr 0), (1, vi i)] [vi b, vr 0] y (ri F) := by
    intro b hb hb2
    refine sg_go_28 _ _ (sc_refk b 1 hy (by decide) (fun b0 => ⟨fun q => absurd rfl q, fun _ => sp_in _ _ _ ⟨fun c => p55 (hb b0) 0 (fun _ => ?_) (fun z => absurd rfl z), fun c => p55 (hb b0) 1 (fun q => absurd q (by decide)) (fun _ z9 => ?_)⟩⟩) (fun nb y' m => ⟨fun _ => ri_i (h01 (fun z9 => ?_) y' m), fun q => absurd q (by decide)⟩))
    · obtain ⟨c1, c2⟩ := bi_ne.mp c
      rw [t_le, k0] at c1
      rw [t_le, t_sub (by rw [e84]; omega) (by rw [e84]; omega), k1] at c2
      omega
    · refine bi_eq.mp c ⟨t_le.mpr (by rw [k0]; exact z9.1), t_le.mpr ?_⟩
      rw [t_sub (by rw [e84]; omega) (by rw [e84]; omega), k1]
      omega
    · have := hb2 nb
      rw [e94] at this
      rw [this, k4] at z9
      omega
  exact ⟨fun c => p28 0 (fun _ => c) (fun z => absurd rfl z), fun c => p28 1 (fun q => absurd q (by decide)) (fun _ => c)⟩
theorem sk_draw (q : MI z) (gc : GC C) (hH : ¬ z.1 0 67 = 0 → ∃ w, HistC C w z) (s n : Int32) (hD : 7 ≤ D) (h01 : z.1 0 67 = 0 → ∀ z', rfK 1 z z' → F 0 z') (h02 : ¬ z.1 0 67 = 0 → ¬ (0 ≤ n.toInt ∧ n.toInt ≤ 400) → ∀ z', rfK 2 z z' → F 0 z') (h1 : ∀ (w : Nat) r z', ¬ z.1 0 67 = 0 → 0 ≤ n.toInt → n.toInt ≤ 400 → HistC C w z → HistC C w z' → mi rnL rnA z z' → z'.1 0 0 = 0 → z'.1 0 67 = z.1 0 67 → (z'.1 0 94).toInt = ((drS C w n.toInt.toNat s (c96 z) (z.1 0 94).toInt.toNat).2 : Nat) → rwE (c96 z') (drS C w n.toInt.toNat s (c96 z) (z.1 0 94).toInt.toNat).1 (drS C w n.toInt.toNat s (c96 z) (z.1 0 94).toInt.toNat).2 → r.toInt = ((drS C w n.toInt.toNat s (c96 z) (z.1 0 94).toInt.toNat).2 : Int) - (z.1 0 94).toInt → F r z') : MT G D z_draw 0 [(0, vr 0), (1, vi s), (2, vi n)] [] z (ri F) := by
  obtain ⟨D, rfl⟩ : ∃ D', D = D' + 2 := ⟨D - 2, by omega⟩
  have k0 : (0 : Int32).toInt = 0 := rfl
  have k1 : (1 : Int32).toInt = 1 := rfl
  have k4 : (400 : Int32).toInt = 400 := rfl
  refine sg_draw_0 _ _ (fun y e => ?_)
  have hy := z0_s e
  have e67 : y.1 0 67 = z.1 0 67 := hy.1.1 67 (by decide)
  have e94 : y.1 0 94 = z.1 0 94 := hy.1.1 94 (by decide)
  have e96 : y.1 96 = z.1 96 := hy.1.2 96 (by decide) (by simp)
  refine sc_noRunk hy (fun hr => ⟨fun q => absurd rfl q, fun _ => ?_⟩) (fun c y' m => ⟨fun _ => ri_i (h01 (by rw [← e67]; exact c) y' m), fun q => absurd q (by decide)⟩)
  rw [e67] at hr
  obtain ⟨w, hh⟩ := hH hr
  have hhy := HistC_0 hy.1 hh
  have cy : c96 y = c96 z := by unfold c96; rw [e96]
  obtain ⟨R, eR⟩ : ∃ R, R = drS C w n.toInt.toNat s (c96 z) (z.1 0 94).toInt.toNat := ⟨_, rfl⟩
  have loop : 0 ≤ n.toInt → n.toInt ≤ 400 → ∀ (m : Nat) (u : gd) (v i : Int32) (c : Nat → Nat) (k : Nat), HistC C w u → mi dL dA y u → 0 ≤ i.toInt → i.toInt + m = n.toInt → (u.1 0 94).toInt = (k : Nat) → (k : Int) = (z.1 0 94).toInt + i.toInt → rwE (c96 u) c k → drS C w m v c k = R → MT G (D + 2) z_draw 43 [(0, vr 0), (2, vi n), (3, vi v), (4, vi i)] [] u (ri F) := by
    intro n0 n4
    have end' : ∀ (u : gd) (i : Int32) (c : Nat → Nat) (k : Nat), HistC C w u → mi dL dA y u → (u.1 0 94).toInt = (k : Nat) → (k : Int) = (z.1 0 94).toInt + i.toInt → rwE (c96 u) c k → (c, k) = R → ri F (some (vi i)) u := fun u i c k hu mu h94 hk9 hc hR => ri_i (by
      have e1 : c = R.1 := by rw [← hR]
      have e2 : k = R.2 := by rw [← hR]
      refine h1 w i u hr n0 n4 hh hu (mi_tr hy.1 mu rfl rfl) (by rw [mu.1 0 (by decide)]; exact hy.2) (by rw [mu.1 67 (by decide)]; exact e67) (by rw [← eR, ← e2]; exact h94) ?_ (by rw [← eR, ← e2]; omega)
      rw [← eR, ← e2, ← e1]; exact hc)
    intro m
    induction m with
    | zero =>
      intro u v i c k hu mu i0 hm h94 hk9 hc hR
      exact sg_draw_43 _ _ _ ⟨fun _ => end' u i c k hu mu h94 hk9 hc hR, fun c9 => absurd (t_le.mpr (by omega)) c9⟩
    | succ m ih =>
      intro u v i c k hu mu i0 hm h94 hk9 hc hR
      have rE : runM C w (c96 u) k = runM C w c k := runM_cg hc
      have e84 := HistC_n hu
      have ek : (u.1 0 94).toInt.toNat = k := by rw [h94]; rfl
      rw [ek, rE] at e84
      obtain ⟨b1, b2, b3⟩ := HistC_b hu
      rw [drS] at hR
      refine sg_draw_43 _ _ _ ⟨fun c9 => ?_, fun _ => ⟨fun c9 => ?_, fun c1 => ⟨fun c9 => ?_, fun c2 => ⟨fun z9 => c1 (by rw [z9]; decide), ?_⟩⟩⟩⟩
      · rw [t_le] at c9; exfalso; push_cast at hm; omega
      · rw [t_le, k0] at c9
        rw [if_pos (Or.inl (by omega))] at hR
        exact end' u i c k hu mu h94 hk9 hc hR
      · rw [t_le, k4] at c9
        rw [if_pos (Or.inr (by omega))] at hR
        exact end' u i c k hu mu h94 hk9 hc hR
      · rw [t_le, k0] at c1
        rw [t_le, k4] at c2
        rw [if_neg (by omega)] at hR
        obtain ⟨V, eV⟩ : ∃ V, V = v * 1103515245 + 12345 := ⟨_, rfl⟩
        rw [← eV]
        have hv : drV v = V := by rw [eV]; unfold drV; rfl
        rw [hv] at hR
        clear hv eV
        obtain ⟨a1, a2⟩ := t_and (V >>> (16 &&& 31 : Int32))
        have er := t_rem2 a1 (c := u.1 0 84) (by omega)
        obtain ⟨g1, g2⟩ := t_rem a1 (c := u.1 0 84) (by omega)
        have l84 : (u.1 0 84).toInt.toNat = (chM C w (runM C w c k)).length := by rw [e84]; rfl
        have hd : (V >>> (16 &&& 31 : Int32) &&& 32767).toNatClampNeg % (u.1 0 84).toInt.toNat = drI V (chM C w (runM C w c k)).length := by rw [l84]; unfold drI; rfl
        rw [hd] at er
        clear hd
        refine sc_more gc hu (by omega) _ g1 g2 (by omega) (fun u' hu' df => ?_)
        obtain ⟨mm, d94, d96, d96b⟩ := df
        have ii : (i + 1).toInt = i.toInt + 1 := by rw [t_add (by omega) (by omega), k1]
        refine ih u' _ _ _ (k + 1) hu' (mi_tr mu mm rfl rfl) (by omega) (by push_cast at hm; omega) (by rw [d94, h94]; push_cast; rfl) (by push_cast; omega) (fun j hj => ?_) hR
        have ck : (u.1 0 94).toNatClampNeg = k := by rw [t_cl]; exact ek
        rw [ck] at d96 d96b
        show (u'.1 96 j).toNatClampNeg = upf c k _ j
        by_cases cj : j = k
        · rw [cj, upf_eq, d96, t_cl, er]; rfl
        · rw [upf_ne cj, d96b j cj]; exact hc j (by omega)
  have p29 : ∀ b : Int32, (b = 0 → 0 ≤ n.toInt ∧ n.toInt ≤ 400) → (¬ b = 0 → ¬ (0 ≤ n.toInt ∧ n.toInt ≤ 400)) → MT G (D + 2) z_draw 29 [(0, vr 0), (1, vi s), (2, vi n)] [vi b, vr 0] y (ri F) := fun b hb hb2 => by
    obtain ⟨b1, b2, b3⟩ := HistC_b hh
    exact sg_draw_29 _ _ _ (sc_refk b 2 hy (by decide) (fun b0 => ⟨fun _ => loop (hb b0).1 (hb b0).2 n.toInt.toNat y s 0 (c96 z) (z.1 0 94).toInt.toNat hhy ⟨fun _ _ => rfl, fun _ _ _ => rfl⟩ (by decide) (by have := (hb b0).1; rw [k0]; omega) (by rw [e94]; omega) (by rw [k0]; omega) (fun j _ => by rw [cy]) eR.symm, fun q => absurd rfl q⟩) (fun nb y' m => ⟨fun q => absurd q (by decide), fun _ => ri_i (h02 hr (hb2 nb) y' m)⟩))
  refine sp_in _ _ _ ⟨fun c => p29 0 (fun _ => ?_) (fun z => absurd rfl z), fun c => p29 1 (fun q => absurd q (by decide)) (fun _ z9 => ?_)⟩
  · obtain ⟨c1, c2⟩ := bi_ne.mp c
    rw [t_le, k0] at c1
    rw [t_le, k4] at c2
    exact ⟨c1, c2⟩
  · exact bi_eq.mp c ⟨t_le.mpr (by rw [k0]; exact z9.1), t_le.mpr (by rw [k4]; exact z9.2)⟩
theorem sk_again (q : MI z) (hH : ¬ z.1 0 67 = 0 → ∃ w, HistC C w z) (n : Int32) (hD : 7 ≤ D) (h01 : z.1 0 67 = 0 → ∀ z', rfK 1 z z' → F 0 z') (h02 : ¬ z.1 0 67 = 0 → ¬ (0 ≤ n.toInt ∧ n.toInt ≤ (z.1 0 94).toInt) → ∀ z', rfK 2 z z' → F 0 z') (h1 : ∀ (w : Nat) z', ¬ z.1 0 67 = 0 → 0 ≤ n.toInt → n.toInt ≤ (z.1 0 94).toInt → HistC C w z → HistC C w z' → mi rnL rnA z z' → z'.1 0 0 = 0 → z'.1 0 67 = 1 → (z'.1 0 94).toInt = n.toInt → c96 z' = c96 z → F (z'.1 0 84) z') : MT G D z_again 0 [(0, vr 0), (1, vi n)] [] z (ri F) := by
  obtain ⟨D, rfl⟩ : ∃ D', D = D' + 2 := ⟨D - 2, by omega⟩
  have k0 : (0 : Int32).toInt = 0 := rfl
  have k1 : (1 : Int32).toInt = 1 := rfl
  refine sg_again_0 _ (fun y e => ?_)
  have hy := z0_s e
  have e67 : y.1 0 67 = z.1 0 67 := hy.1.1 67 (by decide)
  have e94 : y.1 0 94 = z.1 0 94 := hy.1.1 94 (by decide)
  have e96 : y.1 96 = z.1 96 := hy.1.2 96 (by decide) (by simp)
  have cy : c96 y = c96 z := by unfold c96; rw [e96]
  refine sc_noRunk hy (fun hr => ⟨fun q => absurd rfl q, fun _ => ?_⟩) (fun c y' m => ⟨fun _ => ri_i (h01 (by rw [← e67]; exact c) y' m), fun q => absurd q (by decide)⟩)
  rw [e67] at hr
  obtain ⟨w, hh⟩ := hH hr
  have hhy := HistC_0 hy.1 hh
  obtain ⟨s, N, q1, q2, q3, q4, q5, q6, q7⟩ := hhy
  have q8 := q7.2.2.1
  have loop : 0 ≤ n.toInt → n.toInt ≤ (y.1 0 94).toInt → ∀ (m : Nat) (u : gd) (i : Int32), 0 ≤ i.toInt → i.toInt + m = n.toInt → i.toInt ≤ (N : Int) → eqS (Sm (s i.toNatClampNeg)) (s i.toNatClampNeg) u → HA u → (u.1 0 94).toInt = i.toInt → u.1 96 = y.1 96 → u.1 0 68 = y.1 0 68 → u.1 0 67 = 1 → mi (67 :: 68 :: dL) dA y u → MT G (D + 2) z_again 49 [(0, vr 0), (1, vi n), (2, vi i)] [] u (ri F) := by
    intro n0 hn
    have end' : ∀ (u : gd) (i : Int32), 0 ≤ i.toInt → i.toInt = n.toInt → i.toInt ≤ (N : Int) → eqS (Sm (s i.toNatClampNeg)) (s i.toNatClampNeg) u → HA u → (u.1 0 94).toInt = i.toInt → u.1 96 = y.1 96 → u.1 0 68 = y.1 0 68 → u.1 0 67 = 1 → mi (67 :: 68 :: dL) dA y u → ri F (some (vi (u.1 0 84))) u := by
      intro u i i0 ein iN eu hu u94 u96 u68 u67 mu
      have ci := cl_i i0
      have cu : c96 u = c96 y := by unfold c96; rw [u96]
      have hist : HistC C w u := ⟨s, i.toNatClampNeg, by omega, by rw [cu]; exact fun k hk => q2 k (by omega), by rw [cu, u96]; exact fun k hk => q3 k (by omega), eu, by rw [u68]; exact St_pr (prE_mi (prE_rf y) mu rfl rfl) q5, by rw [u68]; exact q6, hu⟩
      exact ri_i (h1 w u hr n0 (by rw [← e94]; exact hn) hh hist (mi_tr hy.1 mu rfl rfl) (by rw [mu.1 0 (by decide)]; exact hy.2) u67 (by omega) (by rw [cu, cy]))
    intro m
    induction m with
    | zero =>
      intro u i i0 hm iN eu hu u94 u96 u68 u67 mu
      exact sg_again_49 _ _ ⟨fun _ => end' u i i0 (by omega) iN eu hu u94 u96 u68 u67 mu, fun c => absurd (t_le.mpr (by omega)) c⟩
    | succ m ih =>
      intro u i i0 hm iN eu hu u94 u96 u68 u67 mu
      have ci := cl_i i0
      push_cast at hm
      refine sg_again_49 _ _ ⟨fun c => ?_, fun c => ?_⟩
      · rw [t_le] at c; exfalso; omega
      rw [t_le] at c
      refine ⟨by rw [vp_in_iff]; omega, ?_⟩
      rw [u96]
      obtain ⟨b1, b2, b3⟩ := q3 i.toNatClampNeg (by omega)
      have am := q2 i.toNatClampNeg (by omega)
      have en := AM_n am
      have cb := cl_i b1
      have b2' : (y.1 96 i.toNatClampNeg).toNatClampNeg < (chM C w (runM C w (c96 y) i.toNatClampNeg)).length := b2
      have ii : (i + 1).toInt = i.toInt + 1 := by rw [t_add (by omega) (by omega), k1]
      have ci1 : (i + 1).toNatClampNeg = i.toNatClampNeg + 1 := by have := cl_i (a := i + 1) (by omega); omega
      refine sp_doChoice am.1 _ b1 (by omega) b3 eu hu (by omega) (by omega) (fun u' eu' hu' df => ?_)
      obtain ⟨mm, d94, d96, d96b⟩ := df
      have cu : (u.1 0 94).toNatClampNeg = i.toNatClampNeg := by have := cl_i (a := u.1 0 94) (by omega); omega
      rw [cu, ← u96] at d96
      rw [cu] at d96b
      refine ih u' (i + 1) (by omega) (by omega) (by omega) (by rw [ci1]; exact eu') hu' (by omega) ?_ (by rw [mm.1 68 (by decide)]; exact u68) (by rw [mm.1 67 (by decide)]; exact u67) (mi_tr mu mm rfl rfl)
      funext j
      by_cases w : j = i.toNatClampNeg
      · rw [w, d96, u96]
      · rw [d96b j w, u96]
  have p30 : ∀ b : Int32, (b = 0 → 0 ≤ n.toInt ∧ n.toInt ≤ (y.1 0 94).toInt) → (¬ b = 0 → ¬ (0 ≤ n.toInt ∧ n.toInt ≤ (y.1 0 94).toInt)) → MT G (D + 2) z_again 30 [(0, vr 0), (1, vi n)] [vi b, vr 0] y (ri F) := by
    intro b hb hb2
    refine sg_again_30 _ _ (sc_refk b 2 hy (by decide) (fun b0 => ⟨fun _ => ?_, fun q => absurd rfl q⟩) (fun nb y' m => ⟨fun q => absurd q (by decide), fun _ => ri_i (h02 hr (fun z9 => hb2 nb (by rw [e94]; exact z9)) y' m)⟩))
    obtain ⟨n0, n1⟩ := hb b0
    refine q5 G (D + 1) y _ (by omega) (prE_rf y) (fun u eu sf => ?_)
    obtain ⟨mm, f94, hu, f67, f68⟩ := sf
    exact loop n0 n1 n.toInt.toNat u 0 (by decide) (by rw [k0]; omega) (by rw [k0]; omega) eu hu (by rw [f94]) (mm.2 96 (by decide) (by decide)) f68 f67 (mi_w mm (by decide) (by decide))
  refine sp_in _ _ _ ⟨fun c => p30 0 (fun _ => ?_) (fun z => absurd rfl z), fun c => p30 1 (fun q => absurd q (by decide)) (fun _ z9 => ?_)⟩
  · obtain ⟨c1, c2⟩ := bi_ne.mp c
    rw [t_le, k0] at c1
    rw [t_le] at c2
    exact ⟨c1, c2⟩
  · exact bi_eq.mp c ⟨t_le.mpr (by rw [k0]; exact z9.1), t_le.mpr z9.2⟩
end MFK
section KDW
variable {G : kG} {q : kP} {d : Nat} {x y z : gd} {F : Int32 → gd → Prop} {Fv : gd → Prop} {P : Option gv → gd → Prop} {X : String → gd → Prop} {C : gCo} {w n : Nat} {c c' : Nat → Nat}
theorem kk_draw (hq : kV q) (hH : HOI x q) (hK : ¬ x.1 0 10 = 0 → CK x C ∧ GC C ∧ NX3 C) (hR : ¬ x.1 0 10 = 0 → KRun C w n c x) (l1 l2 : Int32) (hS : x.1 0 10 = 0 → X iSE x) (hA : ¬ x.1 0 10 = 0 → ¬ (0 ≤ l2.toInt ∧ l2.toInt ≤ 400) → X iAE x) (hP : ∀ r y, ¬ x.1 0 10 = 0 → 0 ≤ l2.toInt → l2.toInt ≤ 400 → HOI y q → fm sRn x y → KRun C w (drS C w l2.toInt.toNat l1 c n).2 (drS C w l2.toInt.toNat l1 c n).1 y → y.1 0 10 = x.1 0 10 → r.toInt = ((drS C w l2.toInt.toNat l1 c n).2 : Int) - n → P (some (vi r)) y) : KE G q (d + 7) zk_X11_draw 0 [(0, vr 0), (1, vi l1), (2, vi l2)] [] x P X := by
  have k1 : (1 : Int32).toInt = 1 := rfl
  have k0 : (0 : Int32).toInt = 0 := rfl
  have k4 : (400 : Int32).toInt = 400 := rfl
  refine kg_X11_draw_0 hq l1 l2 (kh_run hq hH hS (fun c9 _ => ⟨fun cc => kg_X11_draw_15 hq (hA c9 (fun z9 => ?_)), fun c0 => ⟨fun c4 => ?_, fun cc => kg_X11_draw_15 hq (hA c9 (fun z9 => ?_))⟩⟩))
  · rw [t_lt, k0] at cc; omega
  · rw [t_lt, k0] at c0
    rw [t_le, k4] at c4
    obtain ⟨hKx, gc, hX3⟩ := hK c9
    have hr := hR c9
    obtain ⟨R, eR⟩ : ∃ R, R = drS C w l2.toInt.toNat l1 c n := ⟨_, rfl⟩
    obtain ⟨n0, en0⟩ : ∃ n0, n0 = n := ⟨_, rfl⟩
    have loop : ∀ (m : Nat) (l3 l4 l5 : Int32) (y : gd) (c : Nat → Nat) (n : Nat), 0 ≤ l5.toInt → l5.toInt + m = l2.toInt → (l4.toInt = l5.toInt ∧ (n : Int) = (n0 : Int) + l4.toInt) → fm sRn x y → KRun C w n c y → y.1 0 10 = x.1 0 10 → drS C w m l3 c n = R → KE G q (d + 7) zk_X11_draw 33 [(0, vr 0), (2, vi l2), (3, vi l3), (4, vi l4), (5, vi l5)] [] y P X := by
      have done : ∀ (r : Int32) (y : gd) (c : Nat → Nat) (n : Nat), (n : Int) = (n0 : Int) + r.toInt → fm sRn x y → KRun C w n c y → y.1 0 10 = x.1 0 10 → (c, n) = R → P (some (vi r)) y := fun r y c n en fy hy h10 hR9 => by
        have e1 : c = R.1 := by rw [← hR9]
        have e2 : n = R.2 := by rw [← hR9]
        refine hP r y c9 (by omega) c4 (HOI_run fy hy.1 hH) fy ?_ h10 (by rw [← eR, ← e2, ← en0]; omega)
        rw [← eR, ← e1, ← e2]; exact hy
      intro m
      induction m with
      | zero =>
        intro l3 l4 l5 y c n l50 hm hk9 fy hy h10 hR9
        refine kg_X11_draw_33 hq l2 l3 l4 l5 ⟨fun _ => done _ y c n hk9.2 fy hy h10 hR9, fun cc => ?_⟩
        exfalso; rw [t_le] at cc; omega
      | succ m ih =>
        intro l3 l4 l5 y c n l50 hm hk9 fy hy h10 hR9
        push_cast at hm
        have hn := hy.2.2.2.1
        have e13 : (y.1 120 13).toInt = ((chM C w (runM C w c n)).length : Nat) := hy.2.1.2.2.1
        have l84 := hy.1.2.1.1.2
        have n4 := hy.1.2.2.1.2.2
        rw [drS] at hR9
        refine kg_X11_draw_33 hq l2 l3 l4 l5 ⟨fun cc => ?_, fun _ => ⟨fun cc => ?_, fun c1 => ⟨fun cc => ?_, fun c2 => ⟨fun z9 => c1 (by rw [z9]; decide), ?_⟩⟩⟩⟩
        · exfalso; rw [t_le] at cc; omega
        · rw [t_le, k0] at cc
          rw [if_pos (Or.inl (by omega))] at hR9
          exact done _ y c n hk9.2 fy hy h10 hR9
        · rw [t_le, k4, hn] at cc
          rw [if_pos (Or.inr (by omega))] at hR9
          exact done _ y c n hk9.2 fy hy h10 hR9
        · rw [t_le, k0] at c1
          rw [t_le, k4, hn] at c2
          rw [if_neg (by omega)] at hR9
          obtain ⟨V, eV⟩ : ∃ V, V = l3 * 1103515245 + 12345 := ⟨_, rfl⟩
          rw [← eV]
          have hv : drV l3 = V := by rw [eV]; unfold drV; rfl
          rw [hv] at hR9
          clear hv eV
          rw [shr16 V]
          obtain ⟨a1, a2⟩ := t_and (V >>> (16 &&& 31 : Int32))
          have er := t_rem2 a1 (c := y.1 120 13) (by omega)
          obtain ⟨g1, g2⟩ := t_rem a1 (c := y.1 120 13) (by omega)
          have ll : (y.1 120 13).toInt.toNat = (chM C w (runM C w c n)).length := by rw [e13]; rfl
          have hd : (V >>> (16 &&& 31 : Int32) &&& 32767).toNatClampNeg % (y.1 120 13).toInt.toNat = drI V (chM C w (runM C w c n)).length := by rw [ll]; unfold drI; rfl
          rw [hd] at er
          clear hd
          obtain ⟨I, eI⟩ : ∃ I, I = drI V (chM C w (runM C w c n)).length := ⟨_, rfl⟩
          rw [← eI] at er hR9
          have hy' : KRun C w n (upf c n I) y := KRun_cg (fun k hk => by rw [upf_ne (by omega)]) hy
          have eM : runM C w (upf c n I) n = runM C w c n := runM_cg (fun k hk => by rw [upf_ne (by omega)])
          have i1 : (l5 + 1).toInt = l5.toInt + 1 := by rw [t_add (by rw [k1]; omega) (by rw [k1]; omega), k1]
          have i4 : (l4 + 1).toInt = l4.toInt + 1 := by rw [t_add (by rw [k1]; omega) (by rw [k1]; omega), k1]
          refine kh_doChoice hq (CK_f hKx (fun c k hc => fy c k (by unfold sRn; omega))) gc hX3 hy' _ er (by rw [eM]; omega) (by omega) (by rw [upf_eq]) (fun z fz hz _ z10 => ih _ _ _ z _ (n + 1) (by omega) (by omega) ⟨by rw [i1, i4]; omega, by rw [i4]; push_cast; omega⟩ (fm_tr fy fz) hz (by rw [z10]; exact h10) hR9)
    exact loop l2.toInt.toNat _ _ _ x c n (by decide) (by rw [k0]; omega) ⟨rfl, by rw [k0, en0]; omega⟩ (fm_rf _ _) hr rfl eR.symm
  · rw [t_le, k4] at cc; omega
end KDW
end
section
/-! the class: its calls -/
section KFA
variable {G : kG} {q q0 q1 : kP} {d : Nat} {x x0 y z : gd} {o : Nat} {F : Int32 → gd → Prop} {Fv : gd → Prop} {P : Option gv → gd → Prop} {X : String → gd → Prop}
/-- the text, whether it is compiled, and the counts stay -/
def KF (x y : gd) : Prop := y.1 20 1 = x.1 20 1 ∧ y.1 0 9 = x.1 0 9 ∧ (∀ k, y.1 21 k = x.1 21 k) ∧ ∀ c k, (60 ≤ c ∧ c < 90 ∧ ¬ (c = 60 ∧ k = 5) ∧ c ≠ 65) → y.1 c k = x.1 c k
theorem KF_rf : KF x x := ⟨rfl, rfl, fun _ => rfl, fun _ _ _ => rfl⟩
theorem KF_tr (h : KF x y) (g : KF y z) : KF x z := ⟨g.1.trans h.1, g.2.1.trans h.2.1, fun k => (g.2.2.1 k).trans (h.2.2.1 k), fun c k hk => (g.2.2.2 c k hk).trans (h.2.2.2 c k hk)⟩
theorem KF_fm {S : Nat → Nat → Prop} (f : fm S x y) (hS : ∀ c k, S c k → ¬ ((c = 20 ∧ k = 1) ∨ (c = 0 ∧ k = 9) ∨ c = 21 ∨ (60 ≤ c ∧ c < 90 ∧ ¬ (c = 60 ∧ k = 5) ∧ c ≠ 65))) : KF x y := ⟨f _ _ (fun z => hS _ _ z (Or.inl ⟨rfl, rfl⟩)), f _ _ (fun z => hS _ _ z (Or.inr (Or.inl ⟨rfl, rfl⟩))), fun k => f _ _ (fun z => hS _ _ z (Or.inr (Or.inr (Or.inl rfl)))), fun c k hc => f _ _ (fun z => hS _ _ z (Or.inr (Or.inr (Or.inr hc))))⟩
theorem rn_20 (f : fm sRn x y) : KF x y := KF_fm f (fun c k q => by unfold sRn at q; omega)
theorem rn_Lk {c k : Nat} (h : sLk 120 c k) : sRn c k := by unfold sLk at h; unfold sRn; omega
/-- what count answers -/
def cntK (x : gd) (l r : Int32) : Prop := (x.1 0 9 = 0 ∧ r = 0) ∨ (¬ x.1 0 9 = 0 ∧ ((l = 0 ∧ r = x.1 60 6) ∨ (l = 1 ∧ r = x.1 60 9) ∨ (l = 2 ∧ r = x.1 60 10) ∨ (l = 3 ∧ r = x.1 60 14) ∨ (l = 4 ∧ r = x.1 60 16)))
theorem kz_count (hq : kV q) (hH : HOI x q) (l : Int32) (hO : ¬ (0 ≤ l.toInt ∧ l.toInt ≤ 4) → X iOE x) (hP : (0 ≤ l.toInt ∧ l.toInt ≤ 4) → ∀ r y, HOI y q → y = x → cntK x l r → P (some (vi r)) y) : KE G q (d + 7) zk_X11_count 0 [(0, vr 0), (1, vi l)] [] x P X := by
  have k0 : (0 : Int32).toInt = 0 := rfl
  have k1 : (1 : Int32).toInt = 1 := rfl
  have k2 : (2 : Int32).toInt = 2 := rfl
  have k3 : (3 : Int32).toInt = 3 := rfl
  have k4 : (4 : Int32).toInt = 4 := rfl
  have k5 : (5 : Int32).toInt = 5 := rfl
  refine kg_X11_count_0 hq l (kg_X11_needWhat_0 hq l 5 ⟨fun c => kg_X11_needWhat_9 hq (hO ?_), fun c => ⟨fun c5 => rv_i ?_, fun c5 => kg_X11_needWhat_9 hq (hO ?_)⟩⟩)
  · rw [t_lt, k0] at c; omega
  · rw [t_lt, k0] at c
    rw [t_lt, k5] at c5
    have ok : 0 ≤ l.toInt ∧ l.toInt ≤ 4 := by omega
    refine ⟨fun c9 => ⟨fun e => hP ok _ x hH rfl (Or.inr ⟨c9, Or.inl ⟨e, rfl⟩⟩), fun e => hP ok _ x hH rfl (Or.inr ⟨c9, Or.inr (Or.inl ⟨e, rfl⟩)⟩), fun e => hP ok _ x hH rfl (Or.inr ⟨c9, Or.inr (Or.inr (Or.inl ⟨e, rfl⟩))⟩), fun e => hP ok _ x hH rfl (Or.inr ⟨c9, Or.inr (Or.inr (Or.inr (Or.inl ⟨e, rfl⟩)))⟩), fun e => hP ok _ x hH rfl (Or.inr ⟨c9, Or.inr (Or.inr (Or.inr (Or.inr ⟨?_, rfl⟩)))⟩)⟩, fun c9 => hP ok _ x hH rfl (Or.inl ⟨c9, rfl⟩)⟩
    have n0 := e 0 (by decide)
    have n1 := e 1 (by decide)
    have n2 := e 2 (by decide)
    have n3 := e 3 (by decide)
    rw [t_eq, k0] at n0
    rw [t_eq, k1] at n1
    rw [t_eq, k2] at n2
    rw [t_eq, k3] at n3
    rw [t_eq, k4]
    omega
  · rw [t_lt, k5] at c5; omega
/-- n bytes more: those of l2, the lowest first -/
def FBk (l2 : Int64) (j : Nat) : Int32 := vp_nar .byte (((((l2 : Int64).toUInt64 >>> ((8 * Int32.ofNat j : Int32).toInt64.toUInt64 &&& Int64.toUInt64 63)).toInt64 : Int64).toInt32 : Int32).toInt8.toInt32)
def FBc (x : gd) (l2 : Int64) (n : Nat) (y : gd) : Prop := (∀ p, p < (x.1 20 1).toNatClampNeg → y.1 21 p = x.1 21 p) ∧ ∀ j, j < n → y.1 21 ((x.1 20 1).toNatClampNeg + j) = FBk l2 j
end KFA
end
