/-! the class: begin, choices, go, draw, again, with the machine's states -/
theorem shr16 (a : Int32) : ((a.toUInt32 >>> ((16 : Int32).toUInt32 &&& Int32.toUInt32 31)).toInt32) &&& 32767 = (a >>> (16 &&& 31 : Int32)) &&& 32767 := by
  refine Int32.toBitVec_inj.mp ?_
  rw [Int32.toBitVec_and, Int32.toBitVec_and]
  have e1 : ((a.toUInt32 >>> ((16 : Int32).toUInt32 &&& Int32.toUInt32 31)).toInt32).toBitVec = a.toBitVec >>> 16 := rfl
  have e2 : (a >>> (16 &&& 31 : Int32)).toBitVec = a.toBitVec.sshiftRight 16 := rfl
  rw [e1, e2]
  refine BitVec.eq_of_getLsbD_eq (fun i hi => ?_)
  rw [BitVec.getLsbD_and, BitVec.getLsbD_and, BitVec.getLsbD_ushiftRight, BitVec.getLsbD_sshiftRight]
  by_cases c : i < 15
  · have h1 : 16 + i < 32 := by omega
    have h2 : ¬ 32 ≤ i := by omega
    simp [h1, h2]
  · have h : ∀ i, i < 32 → ¬ i < 15 → BitVec.getLsbD (Int32.toBitVec 32767) i = false := by decide +kernel
    rw [h i hi c, Bool.and_false, Bool.and_false]
section KF3
variable {G : kG} {q : kP} {d : Nat} {x y z : gd} {F : Int32 → gd → Prop} {Fv : gd → Prop} {P : Option gv → gd → Prop} {X : String → gd → Prop} {C : gCo} {w n : Nat} {c c' : Nat → Nat}
theorem KRun_cg (h : rwE c c' n) (r : KRun C w n c x) : KRun C w n c' x := by
  obtain ⟨r1, r2, r3, r4, r5⟩ := r
  have e : runM C w c n = runM C w c' n := runM_cg h
  rw [e] at r2
  refine ⟨r1, r2, r3, r4, fun k hk => ?_⟩
  have ek : runM C w c k = runM C w c' k := runM_cg (fun j hj => h j (by omega))
  obtain ⟨a, b⟩ := r5 k hk
  rw [← h k hk, ← ek]
  exact ⟨a, b⟩
theorem kh_run (hq : kV q) (hH : HOI x q) (hS : x.1 0 10 = 0 → X iSE x) (h : ¬ x.1 0 10 = 0 → RUN x → Fv x) : KE G q (d + 6) zk_X11_needRun 0 [(0, vr 0)] [] x (rv Fv) X :=
  kg_X11_needRun_0 hq ⟨fun c => rv_i (h c (hH.2.2.1 c)), fun c => hS c⟩
theorem kh_ix (hq : kV q) (l n : Int32) (hO : ¬ (0 ≤ l.toInt ∧ l.toInt < n.toInt) → X iOE x) (h : 0 ≤ l.toInt → l.toInt < n.toInt → Fv x) : KE G q (d + 6) zk_X11_needIndex 0 [(0, vi l), (1, vi n)] [] x (rv Fv) X := by
  have k0 : (0 : Int32).toInt = 0 := rfl
  refine kg_X11_needIndex_0 hq l n ⟨fun c => kg_X11_needIndex_9 hq (hO ?_), fun c => ⟨fun c2 => rv_i (h ?_ ?_), fun c2 => kg_X11_needIndex_9 hq (hO ?_)⟩⟩
  · rw [t_lt, k0] at c; omega
  · rw [t_lt, k0] at c; omega
  · rw [t_lt] at c2; exact c2
  · rw [t_lt] at c2; omega
theorem kh_beginP (hq : kV q) (hH : HOI x q) (l : Int32) (hKC : ¬ x.1 0 9 = 0 → CK x C ∧ GC C) (hS : x.1 0 9 = 0 → X iSE x) (hA : ¬ x.1 0 9 = 0 → ¬ (l = 0 ∨ l = 1) → X iAE x) (hP : ∀ (w : Nat) y, ¬ x.1 0 9 = 0 → l = Int32.ofNat w → HOI y q → fm sRn x y → (∀ c, KRun C w 0 c y) → y.1 0 10 = 1 → P (some (vi (y.1 120 13))) y) : KE G q (d + 7) zk_X11_begin 0 [(0, vr 0), (1, vi l)] [] x P X := by
  refine kg_X11_begin_0 hq l (kf_comp hq hH hS (fun c9 hC => kf_way hq l (hA c9) (fun hw => ?_)))
  obtain ⟨w, w01, ew⟩ : ∃ w : Nat, (w = 0 ∨ w = 1) ∧ l = Int32.ofNat w := by
    rcases hw with e | e
    · exact ⟨0, Or.inl rfl, e⟩
    · exact ⟨1, Or.inr rfl, e⟩
  rw [ew]
  exact kh_beginRun hq hC (hKC c9).1 (hKC c9).2 w01 (fun _ => 0) (fun y f hR _ h10 => hP w y c9 ew (HOI_run f hR.1 hH) f (fun c => KRun_cg (fun k hk => absurd hk (Nat.not_lt_zero _)) hR) h10)
theorem kh_choices (hq : kV q) (hH : HOI x q) (hS : x.1 0 10 = 0 → X iSE x) (hP : ¬ x.1 0 10 = 0 → P (some (vi (x.1 120 13))) x) : KE G q (d + 7) zk_X11_choices 0 [(0, vr 0)] [] x P X :=
  kg_X11_choices_0 hq (kh_run hq hH hS (fun c _ => hP c))
theorem kh_go (hq : kV q) (hH : HOI x q) (hK : ¬ x.1 0 10 = 0 → CK x C ∧ GC C ∧ NX3 C) (hR : ¬ x.1 0 10 = 0 → KRun C w n c x) (l : Int32) (hS : ¬ (¬ x.1 0 10 = 0 ∧ n < 400) → X iSE x) (hO : ¬ x.1 0 10 = 0 → n < 400 → ¬ (0 ≤ l.toInt ∧ l.toInt < (x.1 120 13).toInt) → X iOE x) (hP : ∀ y, ¬ x.1 0 10 = 0 → n < 400 → 0 ≤ l.toInt → l.toInt < (x.1 120 13).toInt → HOI y q → fm sRn x y → KRun C w (n + 1) (upf c n l.toNatClampNeg) y → y.1 0 10 = x.1 0 10 → P (some (vi (y.1 120 13))) y) : KE G q (d + 7) zk_X11_go 0 [(0, vr 0), (1, vi l)] [] x P X := by
  have k400 : (400 : Int32).toInt = 400 := rfl
  refine kg_X11_go_0 hq l (kh_run hq hH (fun c0 => hS (fun z9 => z9.1 c0)) (fun c9 _ => ⟨fun c4 => ?_, fun c4 => hS (fun z9 => ?_)⟩))
  · have hr := hR c9
    obtain ⟨hKx, gc, hX3⟩ := hK c9
    have hn := hr.2.2.2.1
    rw [t_lt, k400, hn] at c4
    refine kh_ix hq l _ (hO c9 (by omega)) (fun l0 l1 => ?_)
    have e13 : (x.1 120 13).toInt = ((chM C w (runM C w c n)).length : Nat) := hr.2.1.2.2.1
    have hr' : KRun C w n (upf c n l.toNatClampNeg) x := KRun_cg (fun k hk => by rw [upf_ne (by omega)]) hr
    have eR : runM C w (upf c n l.toNatClampNeg) n = runM C w c n := runM_cg (fun k hk => by rw [upf_ne (by omega)])
    have cl := cl_i l0
    exact kh_doChoice hq hKx gc hX3 hr' l (I := l.toNatClampNeg) (by omega) (by rw [eR]; omega) (by omega) (by rw [upf_eq]) (fun y f hRy _ h10 => hP y c9 (by omega) l0 l1 (HOI_run f hRy.1 hH) f hRy h10)
  · have hr := hR c9
    have hn := hr.2.2.2.1
    exact c4 (t_lt.mpr (by rw [k400, hn]; omega))
theorem kh_draw (hq : kV q) (hH : HOI x q) (hK : ¬ x.1 0 10 = 0 → CK x C ∧ GC C ∧ NX3 C) (hR : ¬ x.1 0 10 = 0 → KRun C w n c x) (l1 l2 : Int32) (hS : x.1 0 10 = 0 → X iSE x) (hA : ¬ x.1 0 10 = 0 → ¬ (0 ≤ l2.toInt ∧ l2.toInt ≤ 400) → X iAE x) (hP : ∀ r y, ¬ x.1 0 10 = 0 → 0 ≤ l2.toInt → l2.toInt ≤ 400 → HOI y q → fm sRn x y → KRun C w (drS C w l2.toInt.toNat l1 c n).2 (drS C w l2.toInt.toNat l1 c n).1 y → y.1 0 10 = x.1 0 10 → P (some (vi r)) y) : KE G q (d + 7) zk_X11_draw 0 [(0, vr 0), (1, vi l1), (2, vi l2)] [] x P X := by
  have k1 : (1 : Int32).toInt = 1 := rfl
  have k0 : (0 : Int32).toInt = 0 := rfl
  have k4 : (400 : Int32).toInt = 400 := rfl
  refine kg_X11_draw_0 hq l1 l2 (kh_run hq hH hS (fun c9 _ => ⟨fun cc => kg_X11_draw_15 hq (hA c9 (fun z9 => ?_)), fun c0 => ⟨fun c4 => ?_, fun cc => kg_X11_draw_15 hq (hA c9 (fun z9 => ?_))⟩⟩))
  · rw [t_lt, k0] at cc; omega
  · rw [t_lt, k0] at c0
    rw [t_le, k4] at c4
    obtain ⟨hKx, gc, hX3⟩ := hK c9
    have hr := hR c9
    obtain ⟨R, eR⟩ : ∃ R, R = drS C w l2.toInt.toNat l1 c n := ⟨_, rfl⟩
    have loop : ∀ (m : Nat) (l3 l4 l5 : Int32) (y : gd) (c : Nat → Nat) (n : Nat), 0 ≤ l5.toInt → l5.toInt + m = l2.toInt → fm sRn x y → KRun C w n c y → y.1 0 10 = x.1 0 10 → drS C w m l3 c n = R → KE G q (d + 7) zk_X11_draw 33 [(0, vr 0), (2, vi l2), (3, vi l3), (4, vi l4), (5, vi l5)] [] y P X := by
      have done : ∀ (r : Int32) (y : gd) (c : Nat → Nat) (n : Nat), fm sRn x y → KRun C w n c y → y.1 0 10 = x.1 0 10 → (c, n) = R → P (some (vi r)) y := fun r y c n fy hy h10 hR9 => by
        have e1 : c = R.1 := by rw [← hR9]
        have e2 : n = R.2 := by rw [← hR9]
        refine hP r y c9 (by omega) c4 (HOI_run fy hy.1 hH) fy ?_ h10
        rw [← eR, ← e1, ← e2]; exact hy
      intro m
      induction m with
      | zero =>
        intro l3 l4 l5 y c n l50 hm fy hy h10 hR9
        refine kg_X11_draw_33 hq l2 l3 l4 l5 ⟨fun _ => done _ y c n fy hy h10 hR9, fun cc => ?_⟩
        exfalso; rw [t_le] at cc; omega
      | succ m ih =>
        intro l3 l4 l5 y c n l50 hm fy hy h10 hR9
        push_cast at hm
        have hn := hy.2.2.2.1
        have e13 : (y.1 120 13).toInt = ((chM C w (runM C w c n)).length : Nat) := hy.2.1.2.2.1
        have l84 := hy.1.2.1.1.2
        have n4 := hy.1.2.2.1.2.2
        rw [drS] at hR9
        refine kg_X11_draw_33 hq l2 l3 l4 l5 ⟨fun cc => ?_, fun _ => ⟨fun cc => ?_, fun c1 => ⟨fun cc => ?_, fun c2 => ⟨fun z9 => c1 (by rw [z9]; decide), ?_⟩⟩⟩⟩
        · exfalso; rw [t_le] at cc; omega
        · rw [t_le, k0] at cc
          rw [if_pos (Or.inl (by omega))] at hR9
          exact done _ y c n fy hy h10 hR9
        · rw [t_le, k4, hn] at cc
          rw [if_pos (Or.inr (by omega))] at hR9
          exact done _ y c n fy hy h10 hR9
        · rw [t_le, k0] at c1
          rw [t_le, k4, hn] at c2
          rw [if_neg (by omega)] at hR9
          obtain ⟨V, eV⟩ : ∃ V, V = l3 * 1103515245 + 12345 := ⟨_, rfl⟩
          rw [← eV]
          have hv : drV l3 = V := by rw [eV]; unfold drV; rfl
          rw [hv] at hR9
          clear hv eV
          rw [shr16 V]
          obtain ⟨a1, a2⟩ := t_and (V >>> (16 &&& 31 : Int32))
          have er := t_rem2 a1 (c := y.1 120 13) (by omega)
          obtain ⟨g1, g2⟩ := t_rem a1 (c := y.1 120 13) (by omega)
          have ll : (y.1 120 13).toInt.toNat = (chM C w (runM C w c n)).length := by rw [e13]; rfl
          have hd : (V >>> (16 &&& 31 : Int32) &&& 32767).toNatClampNeg % (y.1 120 13).toInt.toNat = drI V (chM C w (runM C w c n)).length := by rw [ll]; unfold drI; rfl
          rw [hd] at er
          clear hd
          obtain ⟨I, eI⟩ : ∃ I, I = drI V (chM C w (runM C w c n)).length := ⟨_, rfl⟩
          rw [← eI] at er hR9
          have hy' : KRun C w n (upf c n I) y := KRun_cg (fun k hk => by rw [upf_ne (by omega)]) hy
          have eM : runM C w (upf c n I) n = runM C w c n := runM_cg (fun k hk => by rw [upf_ne (by omega)])
          have i1 : (l5 + 1).toInt = l5.toInt + 1 := by rw [t_add (by rw [k1]; omega) (by rw [k1]; omega), k1]
          refine kh_doChoice hq (CK_f hKx (fun c k hc => fy c k (by unfold sRn; omega))) gc hX3 hy' _ er (by rw [eM]; omega) (by omega) (by rw [upf_eq]) (fun z fz hz _ z10 => ih _ _ _ z _ (n + 1) (by omega) (by omega) (fm_tr fy fz) hz (by rw [z10]; exact h10) hR9)
    exact loop l2.toInt.toNat _ _ _ x c n (by decide) (by rw [k0]; omega) (fm_rf _ _) hr rfl eR.symm
  · rw [t_le, k4] at cc; omega
theorem kh_again (hq : kV q) (hH : HOI x q) (hK : ¬ x.1 0 10 = 0 → CK x C ∧ GC C ∧ NX3 C) (hR : ¬ x.1 0 10 = 0 → KRun C w n c x) (l1 : Int32) (hS : x.1 0 10 = 0 → X iSE x) (hA : ¬ x.1 0 10 = 0 → ¬ (0 ≤ l1.toInt ∧ l1.toInt ≤ (n : Nat)) → X iAE x) (hP : ∀ y, ¬ x.1 0 10 = 0 → 0 ≤ l1.toInt → l1.toInt ≤ (n : Nat) → HOI y q → fm sRn x y → KRun C w l1.toInt.toNat c y → y.1 0 10 = 1 → P (some (vi (y.1 120 13))) y) : KE G q (d + 7) zk_X11_again 0 [(0, vr 0), (1, vi l1)] [] x P X := by
  have k1 : (1 : Int32).toInt = 1 := rfl
  have k0 : (0 : Int32).toInt = 0 := rfl
  refine kg_X11_again_0 hq l1 (kh_run hq hH hS (fun c9 _ => ⟨fun cc => kg_X11_again_19 hq (hA c9 (fun z9 => ?_)), fun c0 => ⟨fun c4 => ?_, fun cc => kg_X11_again_19 hq (hA c9 (fun z9 => ?_))⟩⟩))
  · rw [t_lt, k0] at cc; omega
  · obtain ⟨hKx, gc, hX3⟩ := hK c9
    obtain ⟨r1, r2, r3, r4, r5⟩ := hR c9
    rw [t_lt, k0] at c0
    rw [t_le, r4] at c4
    have n4 := r1.2.2.1.2.2
    have loop : ∀ (m k : Nat) (l2 : Int32) (y : gd), l2.toInt = k → k + m = l1.toInt.toNat → fm sRn x y → KRun C w k c y → (∀ j, j < n → y.1 162 j = x.1 162 j) → y.1 0 10 = 1 → KE G q (d + 7) zk_X11_again 42 [(0, vr 0), (1, vi l1), (2, vi l2)] [] y P X := by
      intro m
      induction m with
      | zero =>
        intro k l2 y e2 hm fy hy h162 h10
        refine kg_X11_again_42 hq l1 l2 ⟨fun _ => hP y c9 (by omega) (by omega) (HOI_run fy hy.1 hH) fy ?_ h10, fun cc => ?_⟩
        · have : k = l1.toInt.toNat := by omega
          rw [← this]; exact hy
        · exfalso; rw [t_le] at cc; omega
      | succ m ih =>
        intro k l2 y e2 hm fy hy h162 h10
        refine kg_X11_again_42 hq l1 l2 ⟨fun cc => ?_, fun cc => ⟨by rw [vp_in_iff]; omega, ?_⟩⟩
        · exfalso; rw [t_le] at cc; omega
        obtain ⟨b1, b2⟩ := r5 k (by omega)
        have e2n : l2.toNatClampNeg = k := by rw [t_cl, e2]; rfl
        have i1 : (l2 + 1).toInt = ((k + 1 : Nat) : Int) := by rw [t_add (by rw [k1]; omega) (by rw [k1]; omega), k1, e2]; push_cast; rfl
        rw [e2n, h162 k (by omega)]
        exact kh_doChoice hq (CK_f hKx (fun c k hc => fy c k (by unfold sRn; omega))) gc hX3 hy _ b2 b1 (by omega) rfl (fun z fz hz z162 z10 => ih (k + 1) _ z i1 (by omega) (fm_tr fy fz) hz (fun j hj => by
          by_cases cj : j = k
          · have e1 := (hz.2.2.2.2 k (by omega)).2
            rw [cj, t_eq, e1, b2]
          · rw [z162 j cj]; exact h162 j hj) (by rw [z10]; exact h10))
    rw [r3.2]
    exact kh_beginRun hq r1.1.1 hKx gc r3.1 c (fun y f hRy y162 h10 => loop l1.toInt.toNat 0 _ y rfl (by omega) f hRy (fun j _ => y162 j) h10)
  · obtain ⟨r1, r2, r3, r4, r5⟩ := hR c9
    rw [t_le, r4] at cc
    omega
end KF3
