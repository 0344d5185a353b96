/-! the class: locks, threads, claims; all is read -/
section KRL
variable {G : kG} {q : kP} {d : Nat} {x x0 y z : gd} {F : Int32 → gd → Prop} {Fv : gd → Prop} {X : String → gd → Prop} {P : Option gv → gd → Prop}
theorem kp_tellLock (hq : kV q) (t : Int32) (hc : 0 ≤ (x.1 40 8).toInt) (hc6 : (x.1 40 8).toInt < 6) (h : ∀ y, fm (fun c k => (c = 40 ∧ k = 8) ∨ c = 48) x y → y.1 40 8 = x.1 40 8 + 1 → (∀ i : Nat, (i : Int) < (x.1 40 8).toInt + 1 → ((i : Int) < (x.1 40 8).toInt ∧ y.1 48 i = x.1 48 i) ∨ y.1 48 i = t) → Fv y) : KT G q d zk_X6_tellLock 0 [(0, vr 40), (1, vi t)] [] x (rv Fv) := by
  have k6 : (6 : Int32).toInt = 6 := rfl
  have eN : (((x.1 40 8).toNatClampNeg : Nat) : Int) = (x.1 40 8).toInt := by rw [t_cl]; omega
  refine kg_X6_tellLock_0 hq _ ⟨fun c => ?_, fun c => ⟨by rw [vp_in_iff]; omega, fun x3 e3 z ez => rv_i ?_⟩⟩
  · exfalso; rw [t_le, k6] at c; omega
  have q3 : x3.1 40 8 = x.1 40 8 := by rw [e3]; (simp only [si_get, sfl_get, Nat.reduceEqDiff, eq_self, and_false, false_and, and_true, true_and, if_true, if_false, reduceIte, reduceCtorEq])
  refine h z (by rw [ez, e3]; exact fm_si (fm_si (fm_rf _ _) (Or.inr rfl)) (Or.inl ⟨rfl, rfl⟩)) (by rw [ez, q3]; (simp only [si_get, sfl_get, Nat.reduceEqDiff, eq_self, and_false, false_and, and_true, true_and, if_true, if_false, reduceIte, reduceCtorEq])) (fun i hi => ?_)
  by_cases hi2 : i = (x.1 40 8).toNatClampNeg
  · subst hi2
    exact Or.inr (by rw [ez, e3]; (simp only [si_get, sfl_get, Nat.reduceEqDiff, eq_self, and_false, false_and, and_true, true_and, if_true, if_false, reduceIte, reduceCtorEq]))
  · exact Or.inl ⟨by omega, by rw [ez, e3, si_get, if_neg (by omega), si_get, if_neg (fun q => hi2 q.2)]⟩
theorem kp_tellThread (hq : kV q) (t : Int32) (hc : 0 ≤ (x.1 40 10).toInt) (hc6 : (x.1 40 10).toInt < 6) (h : ∀ y, fm (fun c k => (c = 40 ∧ k = 10) ∨ c = 50) x y → y.1 40 10 = x.1 40 10 + 1 → (∀ i : Nat, (i : Int) < (x.1 40 10).toInt + 1 → ((i : Int) < (x.1 40 10).toInt ∧ y.1 50 i = x.1 50 i) ∨ y.1 50 i = t) → Fv y) : KT G q d zk_X6_tellThread 0 [(0, vr 40), (1, vi t)] [] x (rv Fv) := by
  have k6 : (6 : Int32).toInt = 6 := rfl
  have eN : (((x.1 40 10).toNatClampNeg : Nat) : Int) = (x.1 40 10).toInt := by rw [t_cl]; omega
  refine kg_X6_tellThread_0 hq _ ⟨fun c => ?_, fun c => ⟨by rw [vp_in_iff]; omega, fun x3 e3 z ez => rv_i ?_⟩⟩
  · exfalso; rw [t_le, k6] at c; omega
  have q3 : x3.1 40 10 = x.1 40 10 := by rw [e3]; (simp only [si_get, sfl_get, Nat.reduceEqDiff, eq_self, and_false, false_and, and_true, true_and, if_true, if_false, reduceIte, reduceCtorEq])
  refine h z (by rw [ez, e3]; exact fm_si (fm_si (fm_rf _ _) (Or.inr rfl)) (Or.inl ⟨rfl, rfl⟩)) (by rw [ez, q3]; (simp only [si_get, sfl_get, Nat.reduceEqDiff, eq_self, and_false, false_and, and_true, true_and, if_true, if_false, reduceIte, reduceCtorEq])) (fun i hi => ?_)
  by_cases hi2 : i = (x.1 40 10).toNatClampNeg
  · subst hi2
    exact Or.inr (by rw [ez, e3]; (simp only [si_get, sfl_get, Nat.reduceEqDiff, eq_self, and_false, false_and, and_true, true_and, if_true, if_false, reduceIte, reduceCtorEq]))
  · exact Or.inl ⟨by omega, by rw [ez, e3, si_get, if_neg (by omega), si_get, if_neg (fun q => hi2 q.2)]⟩
theorem ko_lockDefinition (hq : kV q) (hx : RX x0 X) (hI : OT x0 x) (hs : ¬ x.1 23 (x.1 100 4).toNatClampNeg = 0) (h : ∀ y, OT x0 y → nx x < nx y → Fv y) : KE G q (d + 8) zk_X7_lockDefinition 0 [(0, vr 100)] [] x (rv Fv) X := by
  have k6 : (6 : Int32).toInt = 6 := rfl
  have hB := OT_b hI
  have acc := hI.2.2.2.2.2.2
  refine kg_X7_lockDefinition_0 hq ⟨fun c => kg_X7_lockDefinition_17 hq (ko_pass hq hx hB hs (fun y hBy ny gy => ko_needFor hq hx hBy 2 1 (by decide) (by decide) (fun cw w hBw nw gw ht => ?_))), fun _ => ko_refuse hq hx hB _⟩
  rw [t_lt, k6] at c
  have g1 := GS_tr gy gw
  have hNw := hBw.2.2.1.2.1
  have hCw := hBw.2.2.1.2.2.1
  have w9 : w.1 60 9 = x.1 60 9 := GS_at g1 _ _ (by unfold sSum; omega)
  have w8 : w.1 40 8 = x.1 60 9 := by rw [← hCw.2.1, w9]
  have e1 : (w.1 40 8 + 1).toInt = (w.1 40 8).toInt + 1 := t_add (by show _ ≤ _ + (1 : Int); rw [w8]; have := hNw.2.1.1; rw [w8] at this; omega) (by show _ + (1 : Int) ≤ _; rw [w8]; omega)
  refine kp_tellLock hq _ hNw.2.1.1 (by rw [w8]; exact c) (fun u fu cu hu => ?_)
  -- the next token is read with names told but not counted: its invariant is that of the state before
  have gu4 : u.1 100 4 = w.1 100 4 := fu _ _ (by omega)
  have SUu : SU u := by
    obtain ⟨⟨hT, b1, b2, b3⟩, ⟨u1, u2⟩, hp, hP⟩ := hBw.1
    have nn : nx u = nx w := by unfold nx; rw [gu4]
    have la : La w u := ⟨fun c k q1 q2 => fu c k (by omega), by omega, fun j _ => fu 42 j (by omega)⟩
    unfold SU SV US RB mt
    rw [fu 20 7 (by omega), fu 60 3 (by omega), nn]
    refine ⟨⟨kT_fm hT la.1, b1, b2, b3⟩, ⟨fun j h1 h2 => ?_, fun j h1 h2 => ?_⟩, hp, fun i hi => La_PQ la (fu _ _ (by omega)) (fu _ _ (by omega)) (hP i hi)⟩
    · rw [fu 42 j (by omega)]; exact u1 j h1 h2
    · rw [fu 42 j (by omega)] at h2; rw [fu 42 _ (by omega)]; exact u2 j h1 h2
  have FRu : FR u := by
    have := hBw.2.1
    unfold FR at this ⊢
    rw [gu4, fu 42 _ (by omega)]; exact this
  have fxu : fm sR x0 u := fm_tr hBw.2.2.2.2.2 (fm_w fu (fun c k q => by unfold sR; omega))
  refine kp_need hq fxu hx SUu 27 (by decide) FRu (fun _ v fv nv Sv frv lav fxv z ez => rv_i ?_)
  -- as if need came first
  have SUv : SU v := by unfold SU; rw [fv 60 3 (by omega)]; exact Sv
  obtain ⟨w', ew'⟩ : ∃ w', w' = si w 100 4 (v.1 100 4) := ⟨_, rfl⟩
  have fw' : fm (fun c k => c = 100 ∧ k = 4) w w' := by rw [ew']; exact fm_si (fm_rf _ _) ⟨rfl, rfl⟩
  have w4' : w'.1 100 4 = v.1 100 4 := by rw [ew']; (simp only [si_get, sfl_get, Nat.reduceEqDiff, eq_self, and_false, false_and, and_true, true_and, if_true, if_false, reduceIte, reduceCtorEq])
  have hvw : ∀ c k, ¬ ((c = 40 ∧ k = 8) ∨ c = 48) → v.1 c k = w'.1 c k := by
    intro c k hc
    by_cases h4 : c = 100 ∧ k = 4
    · rw [h4.1, h4.2, w4']
    · rw [fv c k h4, fu c k hc, fw' c k h4]
  have nn : nx w' = nx v := by unfold nx; rw [w4']
  have nuw : nx u = nx w := by unfold nx; rw [gu4]
  have gw' : GS w w' := ⟨⟨fun c k q1 q2 => fw' c k (by omega), by omega, fun j _ => fw' 42 j (by omega)⟩, fm_w fw' (fun c k q => by unfold sSum; omega)⟩
  have law : La v w' := ⟨fun c k q1 q2 => (hvw c k (by omega)).symm, by omega, fun j _ => (hvw 42 j (by omega)).symm⟩
  have SUw' : SU w' := by
    obtain ⟨⟨hT, b1, b2, b3⟩, ⟨u1, u2⟩, hp, hP⟩ := SUv
    unfold SU SV US RB mt
    rw [← hvw 20 7 (by omega), ← hvw 60 3 (by omega), nn]
    refine ⟨⟨kT_fm hT law.1, b1, b2, b3⟩, ⟨fun j h1 h2 => ?_, fun j h1 h2 => ?_⟩, hp, fun i hi => La_PQ law (hvw _ _ (by omega)).symm (hvw _ _ (by omega)).symm (hP i hi)⟩
    · rw [← hvw 42 j (by omega)]; exact u1 j h1 h2
    · rw [← hvw 42 j (by omega)] at h2; rw [← hvw 42 _ (by omega)]; exact u2 j h1 h2
  have FRw' : FR w' := by unfold FR at frv ⊢; rw [w4', ← hvw 42 _ (by omega)]; exact frv
  have hBw' : OTb x0 w' := OTb_on hBw SUw' FRw' gw'
  have fz : fm (fun c k => (c = 40 ∧ k = 8) ∨ c = 48 ∨ (c = 60 ∧ k = 9)) w' z := by
    intro c k hc
    rw [ez, si_get, if_neg (by omega)]
    exact hvw c k (by omega)
  have hN' := hBw'.2.2.1.2.1
  have hC' := hBw'.2.2.1.2.2.1
  have z8 : z.1 40 8 = w.1 40 8 + 1 := by rw [ez, si_cell (by decide), fv 40 8 (by omega)]; exact cu
  have z9 : z.1 60 9 = w.1 60 9 + 1 := by rw [ez, fv 60 9 (by omega), fu 60 9 (by omega)]; (simp only [si_get, sfl_get, Nat.reduceEqDiff, eq_self, and_false, false_and, and_true, true_and, if_true, if_false, reduceIte, reduceCtorEq])
  have tkk : ∀ a, tk w a → tk z a := fun a ha => by unfold tk at ha ⊢; rw [fz 20 7 (by omega), fw' 20 7 (by omega)]; exact ha
  refine h z (OT_of (OTb_nm hBw' (fm_w fz (fun c k q => by omega)) ?_ ?_ ?_) ?_) ?_
  · unfold NM
    have b8 := hNw.2.1.1
    rw [z8, e1, fz 40 6 (by omega), fw' 40 6 (by omega), fz 40 10 (by omega), fw' 40 10 (by omega), fz 60 6 (by omega), fw' 60 6 (by omega)]
    rw [w8] at b8 ⊢
    refine ⟨hNw.1, by omega, hNw.2.2.1, fun i hi => ?_, fun i hi => ?_, fun i hi => ?_⟩
    · rw [fz 44 i (by omega), fw' 44 i (by omega), fz 45 i (by omega), fw' 45 i (by omega), fz 46 i (by omega), fw' 46 i (by omega)]
      obtain ⟨p1, p2⟩ := hNw.2.2.2.1 i hi
      exact ⟨tkk _ p1, p2⟩
    · have zi : z.1 48 i = u.1 48 i := by rw [ez, si_cell (by decide), fv 48 i (by omega)]
      rw [zi]
      rcases hu i (by rw [w8]; exact hi) with ⟨g1, g2⟩ | g
      · rw [g2]; exact tkk _ (hNw.2.2.2.2.1 i g1)
      · rw [g]; exact tkk _ ht
    · rw [fz 50 i (by omega), fw' 50 i (by omega)]; exact tkk _ (hNw.2.2.2.2.2 i hi)
  · unfold CD at hC' ⊢
    rw [z8, z9, fz 60 6 (by omega), fz 60 10 (by omega), fz 60 14 (by omega), fz 60 16 (by omega), fz 60 13 (by omega), fz 40 10 (by omega), fz 100 5 (by omega), fz 100 9 (by omega), hCw.2.1]
    exact ⟨hC'.1, rfl, hC'.2.2.1, hC'.2.2.2.1, hC'.2.2.2.2.1, hC'.2.2.2.2.2.1, hC'.2.2.2.2.2.2⟩
  · have hT' := hBw'.2.2.1.2.2.2.2
    unfold TS ssm at hT' ⊢
    rw [fz 60 10 (by omega), fz 80 9 (by omega), fz 100 5 (by omega), fz 81 _ (by omega)]
    refine ⟨fun i hi => ?_, hT'.2⟩
    rw [fz 72 i (by omega)]; exact hT'.1 i hi
  · have e1 : ssm z = ssm w := by unfold ssm; rw [fz 80 9 (by omega), fw' 80 9 (by omega)]
    have e2 : nx z = nx v := by rw [← nn]; unfold nx; rw [fz 100 4 (by omega)]
    rw [e1, e2, GS_sm g1]
    omega
  · have e2 : nx z = nx v := by rw [← nn]; unfold nx; rw [fz 100 4 (by omega)]
    omega
theorem ko_claim (hq : kV q) (hx : RX x0 X) (hI : OT x0 x) (hs : ¬ x.1 23 (x.1 100 4).toNatClampNeg = 0) (h : ∀ y, OT x0 y → nx x < nx y → Fv y) : KE G q (d + 10) zk_X7_claim 0 [(0, vr 100)] [] x (rv Fv) X := by
  have k4 : (4 : Int32).toInt = 4 := rfl
  have hB := OT_b hI
  have acc := hI.2.2.2.2.2.2
  have hC := hB.2.2.1.2.2.1
  have p47 : ∀ a m : Int32, (a = 0 ∧ m = x.1 60 16 ∨ ¬ a = 0 ∧ m = x.1 60 14) → m.toInt < 4 → KE G q (d + 10) zk_X7_claim 47 [(0, vr 100), (1, vi a), (2, vi m)] [] x (rv Fv) X := by
    intro a m ham hm
    have m0 : 0 ≤ m.toInt := by
      rcases ham with ⟨-, e⟩ | ⟨-, e⟩
      · rw [e]; exact hC.2.2.2.2.1.1
      · rw [e]; exact hC.2.2.2.1.1
    refine kg_X7_claim_47 hq _ _ (ko_pass hq hx hB hs (fun y hBy ny gy => ko_sum hq hx hBy _ (by decide) (by decide) (fun r z hBz nz gz => ko_need hq hx hBz 27 (by decide) (fun _ w hBw nw gw => ?_))))
    have gg := GS_tr (GS_tr gy gz) gw
    have vm : vp_in m 4 := by rw [vp_in_iff]; omega
    have fin : ∀ (k : Nat) (v : gd), (k = 14 ∨ k = 16) → fm (fun c j => c = 76 ∨ c = 78 ∨ (c = 60 ∧ j = k)) w v → (0 ≤ (v.1 60 k).toInt ∧ (v.1 60 k).toInt ≤ 4) → Fv v := by
      intro k v hk fv hv
      have hC' := hBw.2.2.1.2.2.1
      refine h v (OT_of (OTb_nm hBw (fm_w fv (fun c j q => by omega)) (NM_fm hBw.2.2.1.2.1 (fun c k q1 q2 q3 q4 => fv c k (by omega)) (fv _ _ (by omega)) (fv _ _ (by omega))) ?_ ?_) ?_) ?_
      · unfold CD at hC' ⊢
        rw [fv 60 6 (by omega), fv 60 9 (by omega), fv 60 10 (by omega), fv 60 13 (by omega), fv 40 8 (by omega), fv 40 10 (by omega), fv 100 5 (by omega), fv 100 9 (by omega)]
        refine ⟨hC'.1, hC'.2.1, hC'.2.2.1, ?_, ?_, hC'.2.2.2.2.2.1, hC'.2.2.2.2.2.2⟩
        · rcases hk with rfl | rfl
          · exact hv
          · rw [fv 60 14 (by omega)]; exact hC'.2.2.2.1
        · rcases hk with rfl | rfl
          · rw [fv 60 16 (by omega)]; exact hC'.2.2.2.2.1
          · exact hv
      · have hT' := hBw.2.2.1.2.2.2.2
        unfold TS ssm at hT' ⊢
        rw [fv 60 10 (by omega), fv 80 9 (by omega), fv 100 5 (by omega), fv 81 _ (by omega)]
        refine ⟨fun i hi => ?_, hT'.2⟩
        rw [fv 72 i (by omega)]; exact hT'.1 i hi
      · have e1 : ssm v = ssm w := by unfold ssm; rw [fv 80 9 (by omega)]
        have e2 : nx v = nx w := by unfold nx; rw [fv 100 4 (by omega)]
        rw [e1, e2, GS_sm gg]; omega
      · have e2 : nx v = nx w := by unfold nx; rw [fv 100 4 (by omega)]
        omega
    have em : ∀ k : Nat, ¬ k = 3 → w.1 60 k = x.1 60 k := fun k hk => GS_at gg _ _ (by unfold sSum; omega)
    refine ⟨fun c => ⟨vm, fun x7 e7 v ev => rv_i (fin 16 v (Or.inr rfl) (by rw [ev, e7]; exact fm_si (fm_si (fm_rf _ _) (Or.inr (Or.inl rfl))) (Or.inr (Or.inr ⟨rfl, rfl⟩))) ?_)⟩, fun c => ⟨vm, fun x7 e7 v ev => rv_i (fin 14 v (Or.inl rfl) (by rw [ev, e7]; exact fm_si (fm_si (fm_rf _ _) (Or.inl rfl)) (Or.inr (Or.inr ⟨rfl, rfl⟩))) ?_)⟩⟩
    · have e1 : x7.1 60 16 = m := by
        rw [e7, si_cell (by decide), em 16 (by omega)]
        rcases ham with ⟨-, e⟩ | ⟨e, -⟩
        · exact e.symm
        · exact absurd c e
      have e2 : v.1 60 16 = m + 1 := by rw [ev, e1]; (simp only [si_get, sfl_get, Nat.reduceEqDiff, eq_self, and_false, false_and, and_true, true_and, if_true, if_false, reduceIte, reduceCtorEq])
      rw [e2, t_add (by show _ ≤ _ + (1 : Int); omega) (by show _ + (1 : Int) ≤ _; omega)]
      show 0 ≤ _ + (1 : Int) ∧ _ + (1 : Int) ≤ _
      omega
    · have e1 : x7.1 60 14 = m := by
        rw [e7, si_cell (by decide), em 14 (by omega)]
        rcases ham with ⟨e, -⟩ | ⟨-, e⟩
        · exact absurd e c
        · exact e.symm
      have e2 : v.1 60 14 = m + 1 := by rw [ev, e1]; (simp only [si_get, sfl_get, Nat.reduceEqDiff, eq_self, and_false, false_and, and_true, true_and, if_true, if_false, reduceIte, reduceCtorEq])
      rw [e2, t_add (by show _ ≤ _ + (1 : Int); omega) (by show _ + (1 : Int) ≤ _; omega)]
      show 0 ≤ _ + (1 : Int) ∧ _ + (1 : Int) ≤ _
      omega
  have p36 : ∀ a m : Int32, (a = 0 ∧ m = x.1 60 16 ∨ ¬ a = 0 ∧ m = x.1 60 14) → KE G q (d + 10) zk_X7_claim 36 [(0, vr 100), (1, vi a)] [vi m] x (rv Fv) X := fun a m ham => kg_X7_claim_36 hq _ _ ⟨fun c => p47 a m ham (by rw [t_lt, k4] at c; exact c), fun _ => ko_refuse hq hx hB _⟩
  have p14 : ∀ a : Int32, KE G q (d + 10) zk_X7_claim 14 [(0, vr 100)] [vi a] x (rv Fv) X := fun a => kg_X7_claim_14 hq _ ⟨fun c => p36 _ _ (Or.inl ⟨c, rfl⟩), fun c => p36 _ _ (Or.inr ⟨c, rfl⟩)⟩
  exact kg_X7_claim_0 hq (kp_sort hq hB.1.1 ⟨fun _ => p14 _, fun _ => p14 _⟩)
theorem ko_beginThread (hq : kV q) (hx : RX x0 X) (hI : OT x0 x) (hs : ¬ x.1 23 (x.1 100 4).toNatClampNeg = 0) (h : ∀ y, IT x0 y → nx x < nx y → Fv y) : KE G q (d + 9) zk_X7_beginThread 0 [(0, vr 100)] [] x (rv Fv) X := by
  have k6 : (6 : Int32).toInt = 6 := rfl
  have k0 : (0 : Int32).toInt = 0 := rfl
  have hB := OT_b hI
  have acc := hI.2.2.2.2.2.2
  have hC := hB.2.2.1.2.2.1
  have t0 := hB.2.2.1.2.1.2.2.1
  have p42 : (x.1 60 10).toInt < 6 → ∀ (a : Int32) (y : gd), OTb x0 y → GS x y → KE G q (d + 9) zk_X7_beginThread 42 [(0, vr 100), (1, vi (x.1 60 10)), (2, vi a)] [] y (rv Fv) X := by
    intro c a y hBy gy
    have ln := gy.1.2.1
    refine kg_X7_beginThread_42 hq _ _ (ko_need hq hx hBy 67 (by decide) (fun _ y1 hB1 n1 g1 => ko_needFor hq hx hB1 2 1 (by decide) (by decide) (fun cw w hBw nw gw ht => ?_)))
    have gg := GS_tr (GS_tr gy g1) gw
    obtain ⟨hS, hF, ⟨r1, hNw, hCw, ⟨r4, r6⟩, r7⟩, hSC, r5, r0⟩ := id hBw
    have w10 : w.1 60 10 = x.1 60 10 := GS_at gg _ _ (by unfold sSum; omega)
    have w40 : w.1 40 10 = x.1 60 10 := by rw [← hCw.2.2.1, w10]
    have t10 : 0 ≤ (x.1 60 10).toInt := by have := hNw.2.2.1.1; rw [w40] at this; exact this
    have e1 : (x.1 60 10 + 1).toInt = (x.1 60 10).toInt + 1 := t_add (by show _ ≤ _ + (1 : Int); omega) (by show _ + (1 : Int) ≤ _; omega)
    have eT : (((x.1 60 10).toNatClampNeg : Nat) : Int) = (x.1 60 10).toInt := by rw [t_cl]; omega
    have vt : vp_in (x.1 60 10) 6 := by rw [vp_in_iff]; omega
    refine kp_tellThread hq _ hNw.2.2.1.1 (by rw [w40]; exact c) (fun u fu cu hu => ⟨vt, fun x6 e6 => ⟨vt, fun x8 e8 x9 e9 x10 e10 x11 e11 x12 e12 z ez => ?_⟩⟩)
    have f : fm (fun c k => (c = 40 ∧ k = 10) ∨ c = 50 ∨ c = 73 ∨ (c = 72 ∧ k = (x.1 60 10).toNatClampNeg) ∨ (c = 60 ∧ k = 10) ∨ (c = 100 ∧ (k = 5 ∨ k = 7 ∨ k = 9 ∨ k = 13))) w z := by
      rw [ez, e12, e11, e10, e9, e8, e6]
      exact fm_si (fm_si (fm_si (fm_si (fm_si (fm_si (fm_si (fm_w fu (fun c k q => by omega)) (by omega)) (by omega)) (by omega)) (by omega)) (by omega)) (by omega)) (by omega)
    have z10 : z.1 60 10 = x.1 60 10 + 1 := by rw [ez, e12, e11, e10, e9, e8, e6]; (simp only [si_get, sfl_get, Nat.reduceEqDiff, eq_self, and_false, false_and, and_true, true_and, if_true, if_false, reduceIte, reduceCtorEq]); rw [fu 60 10 (by omega), w10]
    have z40 : z.1 40 10 = x.1 60 10 + 1 := by rw [ez, e12, e11, e10, e9, e8, e6]; (simp only [si_get, sfl_get, Nat.reduceEqDiff, eq_self, and_false, false_and, and_true, true_and, if_true, if_false, reduceIte, reduceCtorEq]); rw [cu, w40]
    have z72 : z.1 72 (x.1 60 10).toNatClampNeg = w.1 80 9 := by rw [ez, e12, e11, e10, e9, e8, e6]; (simp only [si_get, sfl_get, Nat.reduceEqDiff, eq_self, and_false, false_and, and_true, true_and, if_true, if_false, reduceIte, reduceCtorEq]); exact fu _ _ (by omega)
    have z5 : z.1 100 5 = 1 := by rw [ez]; (simp only [si_get, sfl_get, Nat.reduceEqDiff, eq_self, and_false, false_and, and_true, true_and, if_true, if_false, reduceIte, reduceCtorEq])
    have z7 : z.1 100 7 = 0 := by rw [ez, e12, e11, e10]; (simp only [si_get, sfl_get, Nat.reduceEqDiff, eq_self, and_false, false_and, and_true, true_and, if_true, if_false, reduceIte, reduceCtorEq])
    have z9 : z.1 100 9 = 0 := by rw [ez, e12, e11]; (simp only [si_get, sfl_get, Nat.reduceEqDiff, eq_self, and_false, false_and, and_true, true_and, if_true, if_false, reduceIte, reduceCtorEq])
    have z13 : z.1 100 13 = 0 := by rw [ez, e12]; (simp only [si_get, sfl_get, Nat.reduceEqDiff, eq_self, and_false, false_and, and_true, true_and, if_true, if_false, reduceIte, reduceCtorEq])
    have om0 : om z = 0 := by unfold om; rw [z13]; rfl
    have e4 : nx z = nx w := by unfold nx; rw [f 100 4 (by omega)]
    have es : ssm z = ssm w := by unfold ssm; rw [f 80 9 (by omega)]
    have sx : ssm w = ssm x := GS_sm gg
    have la : La w z := ⟨fun c k q1 q2 => f c k (by omega), by omega, fun j _ => f 42 j (by omega)⟩
    have tkk : ∀ a, tk w a → tk z a := fun a ha => by unfold tk at ha ⊢; rw [f 20 7 (by omega)]; exact ha
    have m13 : z.1 60 13 = w.1 60 13 := f _ _ (by omega)
    have hBz : BB x0 z (w.1 60 13).toInt E0 := by
      refine ⟨?_, ?_, ⟨fun _ => ⟨?_, ?_⟩, ?_, ?_, ⟨by omega, fun i hi => SA_La la (f _ _ (by omega)) (f _ _ (by omega)) (f _ _ (by omega)) (f _ _ (by omega)) (Int.le_refl _) (r6 i (by omega))⟩, ?_⟩, fun i hi he => ?_, by rw [z5]; decide, fm_tr r0 (fm_w f (fun c k q => by unfold sR; omega)), fun _ k hk => by omega, fun k hk => by omega⟩
      · obtain ⟨⟨hT, b1, b2, b3⟩, ⟨u1, u2⟩, hp, hP⟩ := hS
        unfold SU SV US RB mt
        rw [f 20 7 (by omega), f 60 3 (by omega), e4]
        refine ⟨⟨kT_fm hT la.1, b1, b2, b3⟩, ⟨fun j h1 h2 => ?_, fun j h1 h2 => ?_⟩, hp, fun i hi => La_PQ la (f _ _ (by omega)) (f _ _ (by omega)) (hP i hi)⟩
        · rw [f 42 j (by omega)]; exact u1 j h1 h2
        · rw [f 42 j (by omega)] at h2; rw [f 42 _ (by omega)]; exact u2 j h1 h2
      · unfold FR at hF ⊢
        rw [f 100 4 (by omega), f 42 _ (by omega)]; exact hF
      · unfold KN
        rw [z9, k0]
        exact ⟨by omega, fun i hi => by omega⟩
      · unfold OPs
        rw [om0, z9, z7, k0]
        exact ⟨by omega, fun k hk => by omega, fun j k hj hk => by omega, by omega, by omega⟩
      · unfold NM
        rw [z40, e1, f 40 6 (by omega), f 40 8 (by omega), f 60 6 (by omega)]
        refine ⟨hNw.1, hNw.2.1, by omega, fun i hi => ?_, fun i hi => ?_, fun i hi => ?_⟩
        · rw [f 44 i (by omega), f 45 i (by omega), f 46 i (by omega)]
          obtain ⟨p1, p2⟩ := hNw.2.2.2.1 i hi
          exact ⟨tkk _ p1, p2⟩
        · rw [f 48 i (by omega)]; exact tkk _ (hNw.2.2.2.2.1 i hi)
        · have zi : z.1 50 i = u.1 50 i := by rw [ez, e12, e11, e10, e9, e8, e6]; (simp only [si_get, sfl_get, Nat.reduceEqDiff, eq_self, and_false, false_and, and_true, true_and, if_true, if_false, reduceIte, reduceCtorEq])
          rw [zi]
          rcases hu i (by rw [w40]; exact hi) with ⟨g1, g2⟩ | g
          · rw [g2]; exact tkk _ (hNw.2.2.2.2.2 i g1)
          · rw [g]; exact tkk _ ht
      · unfold CD at hCw ⊢
        rw [z10, z40, f 60 6 (by omega), f 60 9 (by omega), f 40 8 (by omega), f 60 14 (by omega), f 60 16 (by omega), m13, z9, k0]
        exact ⟨hCw.1, hCw.2.1, rfl, hCw.2.2.2.1, hCw.2.2.2.2.1, hCw.2.2.2.2.2.1, fun _ => hCw.2.2.2.2.2.1.1⟩
      · unfold TS
        rw [z10, e1, z5, es]
        refine ⟨fun t ht => ?_, fun c => absurd c (by decide)⟩
        by_cases ht2 : t = (x.1 60 10).toNatClampNeg
        · rw [ht2, z72]
          exact ⟨r4, Int.le_refl _, fun c => absurd c (by decide)⟩
        · rw [f 72 t (by omega)]
          obtain ⟨p1, p2, -⟩ := r7.1 t (by rw [w10]; omega)
          exact ⟨p1, p2, fun c => absurd c (by decide)⟩
      · have := hSC i (by omega) he
        unfold SC at this ⊢
        have ep : ∀ j, sop z j = sop w j := fun j => by unfold sop; rw [f 81 j (by omega)]
        have et : stg z i = stg w i := by unfold stg; rw [f 84 i (by omega)]
        rw [ep, et, es, ep]
        intro c
        rcases this c with ⟨-, p2, -⟩ | ⟨p1, p2, p3, p4⟩
        · exact absurd r5 p2
        · exact Or.inr ⟨p1, p2, fun c5 => by rw [z5] at c5; exact absurd c5 (by decide), p4⟩
    have b2 := hS.1.2.2.1
    refine kb_openBlock hq hx hBz (by omega) (by omega) 0 _ (by decide) (Or.inl (fun k hk => by omega)) ⟨fun _ => ⟨rfl, rfl⟩, fun c => by omega⟩ (fun i hi he => absurd he (fun e => e)) (fun v hBv nv sv ov v13 => rv_i (h v ⟨Or.inl ?_, by omega, by omega, by omega⟩ (by omega)))
    rw [v13, m13]; exact hBv
  have p33 : (x.1 60 10).toInt < 6 → ∀ a : Int32, KE G q (d + 9) zk_X7_beginThread 33 [(0, vr 100), (1, vi (x.1 60 10))] [vi a] x (rv Fv) X := fun c a => kg_X7_beginThread_33 hq _ _ ⟨fun _ => p42 c _ x hB GS_rf, fun _ => ko_pass hq hx hB hs (fun y hBy ny gy => p42 c _ y hBy gy)⟩
  exact kg_X7_beginThread_0 hq ⟨fun c => kg_X7_beginThread_19 hq _ (kp_sort hq hB.1.1 ⟨fun _ => p33 (by rw [t_lt, k6] at c; exact c) _, fun _ => p33 (by rw [t_lt, k6] at c; exact c) _⟩), fun _ => ko_refuse hq hx hB _⟩
theorem ko_definition (hq : kV q) (hx : RX x0 X) (hI : OT x0 x) (h : ∀ y, (IT x0 y ∨ OT x0 y) → nx x < nx y → Fv y) : KE G q (d + 11) zk_X7_definition 0 [(0, vr 100)] [] x (rv Fv) X := by
  have hB := OT_b hI
  refine kg_X7_definition_0 hq (kp_sort hq hB.1.1 ⟨fun c => ko_cellDefinition hq hx hI (by rcases c with e | e <;> rw [e] <;> decide) (fun y hy ny => rv_i (h y (Or.inr hy) ny)), fun c => ko_lockDefinition hq hx hI (by rw [c]; decide) (fun y hy ny => rv_i (h y (Or.inr hy) ny)), fun c => ko_beginThread hq hx hI (by rcases c with e | e <;> rw [e] <;> decide) (fun y hy ny => rv_i (h y (Or.inl hy) ny)), fun c => ko_claim hq hx hI (by rcases c with e | e <;> rw [e] <;> decide) (fun y hy ny => rv_i (h y (Or.inr hy) ny)), fun _ => ko_refuse hq hx hB _⟩)
theorem kp_names_clear (hq : kV q) (h : ∀ y, fm (fun c k => c = 40 ∨ c = 42 ∨ c = 43) x y → y.1 40 6 = 0 → y.1 40 8 = 0 → y.1 40 10 = 0 → (∀ j, j < 702 → y.1 42 j = 0) → Fv y) : KT G q (d + 1) zk_X6_clear 0 [(0, vr 40)] [] x (rv Fv) := by
  refine kg_X6_clear_0 hq (fun x1 e1 x2 e2 x3 e3 x4 e4 z ez => rv_i (h z ?_ ?_ ?_ ?_ (fun j hj => ?_)))
  · rw [ez, e4, e3, e2, e1]
    exact fm_fl (fm_fl (fm_si (fm_si (fm_si (fm_rf _ _) (Or.inl rfl)) (Or.inl rfl)) (Or.inl rfl)) (fun k _ => Or.inr (Or.inl rfl))) (fun k _ => Or.inr (Or.inr rfl))
  · rw [ez, e4, e3, e2, e1]; (simp only [si_get, sfl_get, Nat.reduceEqDiff, eq_self, and_false, false_and, and_true, true_and, if_true, if_false, reduceIte, reduceCtorEq])
  · rw [ez, e4, e3, e2, e1]; (simp only [si_get, sfl_get, Nat.reduceEqDiff, eq_self, and_false, false_and, and_true, true_and, if_true, if_false, reduceIte, reduceCtorEq])
  · rw [ez, e4, e3, e2, e1]; (simp only [si_get, sfl_get, Nat.reduceEqDiff, eq_self, and_false, false_and, and_true, true_and, if_true, if_false, reduceIte, reduceCtorEq])
  · rw [ez, e4, sfl_get, if_neg (by omega), sfl_get, if_pos ⟨rfl, hj⟩]
theorem kp_code_clear (hq : kV q) (h : ∀ y, fm (fun c k => c = 60 ∨ (c = 80 ∧ k = 9)) x y → y.1 80 9 = 0 → y.1 60 3 = 0 → y.1 60 6 = 0 → y.1 60 9 = 0 → y.1 60 10 = 0 → y.1 60 13 = 0 → y.1 60 14 = 0 → y.1 60 16 = 0 → Fv y) : KT G q d zk_X0_clear 0 [(0, vr 60)] [] x (rv Fv) := by
  refine kg_X0_clear_0 hq (fun x1 e1 x2 e2 x3 e3 x4 e4 x5 e5 x6 e6 x7 e7 z ez => rv_i (h z ?_ ?_ ?_ ?_ ?_ ?_ ?_ ?_ ?_))
  · rw [ez, e7, e6, e5, e4, e3, e2, e1]
    exact fm_si (fm_si (fm_si (fm_si (fm_si (fm_si (fm_si (fm_si (fm_rf _ _) (Or.inr ⟨rfl, rfl⟩)) (Or.inl rfl)) (Or.inl rfl)) (Or.inl rfl)) (Or.inl rfl)) (Or.inl rfl)) (Or.inl rfl)) (Or.inl rfl)
  all_goals (rw [ez, e7, e6, e5, e4, e3, e2, e1]; (simp only [si_get, sfl_get, Nat.reduceEqDiff, eq_self, and_false, false_and, and_true, true_and, if_true, if_false, reduceIte, reduceCtorEq]))
theorem kb_readAll (hq : kV q) (hT : kT x) (hx : RX x X) (h : ∀ y, OT x y → Fv y) : KE G q (d + 13) zk_X7_readAll 0 [(0, vr 100)] [] x (rv Fv) X := by
  have k0 : (0 : Int32).toInt = 0 := rfl
  have k700 : (700 : Int32).toInt = 700 := rfl
  have loop : ∀ (n : Nat) (k : Int32) (y : gd), (IT x y ∨ OT x y) → 0 ≤ k.toInt → k.toInt ≤ nx y → 700 - nx y < n → KE G q (d + 13) zk_X7_readAll 31 [(0, vr 100), (1, vi k)] [] y (rv Fv) X := by
    intro n
    induction n with
    | zero =>
      intro k y hy k0' kn hn
      have b2 : nx y ≤ 700 := by
        rcases hy with ⟨e | e, -⟩ | e
        · exact e.1.1.2.2.1
        · exact e.1.1.1.2.2.1
        · exact e.1.1.2.2.1
      omega
    | succ n ih =>
      intro k y hy k0' kn hn
      have hR : RB y := by
        rcases hy with ⟨e | e, -⟩ | e
        · exact e.1.1
        · exact e.1.1.1
        · exact e.1.1
      have b2 := hR.2.2.1
      have ek : (k + 1).toInt = k.toInt + 1 := t_add (by show _ ≤ _ + (1 : Int); omega) (by show _ + (1 : Int) ≤ _; omega)
      have next : ∀ z, (IT x z ∨ OT x z) → nx y < nx z → KE G q (d + 13) zk_X7_readAll 31 [(0, vr 100), (1, vi (k + 1))] [] z (rv Fv) X := fun z hz nz => ih (k + 1) z hz (by omega) (by omega) (by omega)
      have inth : ¬ y.1 100 5 = 0 → IT x y := fun c => by
        rcases hy with e | e
        · exact e
        · exact absurd e.2.2.2.2.1 c
      have outh : y.1 100 5 = 0 → OT x y := fun c => by
        rcases hy with ⟨e | e, -⟩ | e
        · exact absurd c e.2.2.2.2.1
        · exact absurd c e.1.2.2.2.2.1
        · exact e
      have p52 : KE G q (d + 13) zk_X7_readAll 52 [(0, vr 100), (1, vi k)] [] y (rv Fv) X := by
        refine kg_X7_readAll_52 hq _ ⟨fun c => kp_sort hq hR ⟨fun _ => kb_statement hq hx (inth c) (fun z hz nz => next z (Or.inl hz) nz), fun c24 => ?_⟩, fun c => ko_definition hq hx (outh c) (fun z hz nz => next z hz nz)⟩
        obtain ⟨hb, o1, o17, acc⟩ := inth c
        rcases hb with e | ⟨-, e⟩
        · exact kb_closeBlock hq hx e o1 o17 acc (fun z hz nz => next z hz nz)
        · rw [e] at c24; exact absurd c24 (by decide)
      refine kg_X7_readAll_31 hq _ ⟨fun c => ?_, fun _ => ⟨fun _ => p52, fun c => kp_sort hq hR ⟨fun _ => rv_i (h y (outh c)), fun _ => p52⟩⟩⟩
      exfalso; rw [t_lt, k700] at c; omega
  refine kg_X7_readAll_0 hq (kp_names_clear hq (fun x1 f1 n6 n8 n10 nu => kp_code_clear hq (fun x2 f2 c80 c3 c6 c9 c10 c13 c14 c16 x3 e3 x4 e4 z ez => ?_)))
  have f : fm (fun c k => c = 40 ∨ c = 42 ∨ c = 43 ∨ c = 60 ∨ (c = 80 ∧ k = 9) ∨ (c = 100 ∧ (k = 4 ∨ k = 5 ∨ k = 6))) x z := by
    rw [ez, e4, e3]
    exact fm_si (fm_si (fm_si (fm_tr (fm_w f1 (fun c k q => by omega)) (fm_w f2 (fun c k q => by omega))) (by omega)) (by omega)) (by omega)
  have g2 : ∀ c k, c ≠ 100 → z.1 c k = x2.1 c k := fun c k hc => by rw [ez, e4, e3, si_cell hc, si_cell hc, si_cell hc]
  have z4 : z.1 100 4 = 0 := by rw [ez, e4, e3]; (simp only [si_get, sfl_get, Nat.reduceEqDiff, eq_self, and_false, false_and, and_true, true_and, if_true, if_false, reduceIte, reduceCtorEq])
  have z5 : z.1 100 5 = 0 := by rw [ez]; (simp only [si_get, sfl_get, Nat.reduceEqDiff, eq_self, and_false, false_and, and_true, true_and, if_true, if_false, reduceIte, reduceCtorEq])
  have nz : nx z = 0 := by unfold nx; rw [z4]; rfl
  have sz : ssm z = 0 := by unfold ssm; rw [g2 80 9 (by decide), c80]; rfl
  have z42 : ∀ j, j < 702 → z.1 42 j = 0 := fun j hj => by rw [g2 42 j (by decide), f2 42 j (by omega)]; exact nu j hj
  have z6 : ∀ k, z.1 60 k = x2.1 60 k := fun k => g2 60 k (by decide)
  have z40 : ∀ k, z.1 40 k = x1.1 40 k := fun k => by rw [g2 40 k (by decide), f2 40 k (by omega)]
  have hTz : kT z := kT_fm hT (fun c k q1 q2 => f c k (by omega))
  have mz : 0 ≤ mt z := by obtain ⟨-, n, en, -⟩ := hTz; unfold mt; omega
  refine loop 701 _ z (Or.inr ⟨⟨⟨hTz, by omega, by omega, by omega⟩, ⟨fun j _ h2 => z42 j h2, fun j h1 _ => by omega⟩, ?_, fun i hi => ?_⟩, ?_, ⟨fun c => absurd z5 c, ?_, ?_, ⟨by omega, fun i hi => by omega⟩, ?_⟩, fun i hi => by omega, z5, fm_w f (fun c k q => by unfold sR; omega), by omega⟩) (by decide) (by rw [k0]; omega) (by omega)
  · rw [z6, c3]; decide
  · rw [z6, c3, k0] at hi; omega
  · unfold FR; rw [z4]; exact z42 _ (by decide)
  · unfold NM
    rw [z40, z40, z40, n6, n8, n10, k0]
    exact ⟨by omega, by omega, by omega, fun i hi => by omega, fun i hi => by omega, fun i hi => by omega⟩
  · unfold CD
    rw [z6, z6, z6, z6, z6, z6, z40, z40, c6, c9, c10, c14, c16, c13, n8, n10, k0]
    exact ⟨by omega, rfl, rfl, by omega, by omega, by omega, fun c => absurd z5 c⟩
  · unfold TS
    rw [z6, c10, k0]
    exact ⟨fun t ht => by omega, fun _ => Or.inl sz⟩
end KRL
