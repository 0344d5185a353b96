section
/-! the class: the statements without a block that set nothing -/
section KPL
variable {G : kG} {q : kP} {d : Nat} {x x0 y z xs : gd} {F : Int32 → gd → Prop} {Fv : gd → Prop} {X : String → gd → Prop} {P : Option gv → gd → Prop} {M : Int} {E : Nat → Prop} {K V : Nat → Int32} {sN : Nat → Nat → Bool} {e : Nat} {Ev : gV} {Ml N : gU}
theorem HA_66 {U : Nat → Int32} {n a b : Nat} : HAw sN U n Ev (66, a, b) ↔ b < n ∧ U b = 4 := by unfold HAw; simp
theorem HA_67 {U : Nat → Int32} {n a b : Nat} : HAw sN U n Ev (67, a, b) ↔ b < n ∧ U b = 5 := by unfold HAw; simp
theorem HA_70 {U : Nat → Int32} {n a b : Nat} : HAw sN U n Ev (70, a, b) ↔ b < n ∧ U b = 13 := by unfold HAw; simp
theorem HB_66 {a b : Nat} : HB sN Ev (66, a, b) b 4 := by unfold HB; simp
theorem HB_67 {a b : Nat} : HB sN Ev (67, a, b) b 5 := by unfold HB; simp
theorem HB_70 {a b : Nat} : HB sN Ev (70, a, b) b 13 := by unfold HB; simp
theorem pS1_68 {f c i : Nat} {L : gU} (h : K i = 20 ∨ K i = 31 ∨ K i = 19) : pS1 K f c i L = pup c (68, i, 0) (pt K 67 (i + 1, L)) := by
  have n26 : ¬ K i = 26 := by rcases h with e | e | e <;> rw [e] <;> decide
  have n1 : ¬ K i = 1 := by rcases h with e | e | e <;> rw [e] <;> decide
  unfold pS1
  rw [if_neg n26, if_neg n1, if_pos h]
theorem pS1_69 {f c i : Nat} {L : gU} (h : K i = 13 ∨ K i = 14) : pS1 K f c i L = pup c (69, i, 0) ((pX K false f (i + 1) L).bind (pt K 67)) := by
  have n26 : ¬ K i = 26 := by rcases h with e | e <;> rw [e] <;> decide
  have n1 : ¬ K i = 1 := by rcases h with e | e <;> rw [e] <;> decide
  have n20 : ¬ (K i = 20 ∨ K i = 31 ∨ K i = 19) := by rcases h with e | e <;> rw [e] <;> decide
  unfold pS1
  rw [if_neg n26, if_neg n1, if_neg n20, if_pos h]
theorem pS1_70 {f c i : Nat} {L : gU} (h : K i = 15) : pS1 K f c i L = if (K (i + 1) = 2 ∧ i + 1 < 700) ∧ K (i + 2) = 68 ∧ i + 2 < 700 then pup c (70, i, i + 1) ((pX K false f (i + 3) L).bind (pt K 67)) else none := by
  have n26 : ¬ K i = 26 := by rw [h]; decide
  have n1 : ¬ K i = 1 := by rw [h]; decide
  have n20 : ¬ (K i = 20 ∨ K i = 31 ∨ K i = 19) := by rw [h]; decide
  have n13 : ¬ (K i = 13 ∨ K i = 14) := by rw [h]; decide
  unfold pS1
  rw [if_neg n26, if_neg n1, if_neg n20, if_neg n13, if_pos h]
theorem pS1_66 {f c i : Nat} {L : gU} (h : K i = 36 ∨ K i = 22 ∨ K i = 38 ∨ K i = 39 ∨ K i = 40) : pS1 K f c i L = if K (i + 1) = 1 ∧ i + 1 < 700 then pup c (66, i, i + 1) (pt K 67 (i + 2, L)) else none := by
  have n26 : ¬ K i = 26 := by rcases h with e | e | e | e | e <;> rw [e] <;> decide
  have n1 : ¬ K i = 1 := by rcases h with e | e | e | e | e <;> rw [e] <;> decide
  have n20 : ¬ (K i = 20 ∨ K i = 31 ∨ K i = 19) := by rcases h with e | e | e | e | e <;> rw [e] <;> decide
  have n13 : ¬ (K i = 13 ∨ K i = 14) := by rcases h with e | e | e | e | e <;> rw [e] <;> decide
  have n15 : ¬ K i = 15 := by rcases h with e | e | e | e | e <;> rw [e] <;> decide
  unfold pS1
  rw [if_neg n26, if_neg n1, if_neg n20, if_neg n13, if_neg n15, if_pos h]
theorem pS1_67 {f c i : Nat} {L : gU} (h : K i = 33 ∨ K i = 25) : pS1 K f c i L = if K (i + 1) = 1 ∧ i + 1 < 700 then pup c (67, i, i + 1) (pt K 67 (i + 2, L)) else none := by
  have n26 : ¬ K i = 26 := by rcases h with e | e <;> rw [e] <;> decide
  have n1 : ¬ K i = 1 := by rcases h with e | e <;> rw [e] <;> decide
  have n20 : ¬ (K i = 20 ∨ K i = 31 ∨ K i = 19) := by rcases h with e | e <;> rw [e] <;> decide
  have n13 : ¬ (K i = 13 ∨ K i = 14) := by rcases h with e | e <;> rw [e] <;> decide
  have n15 : ¬ K i = 15 := by rcases h with e | e <;> rw [e] <;> decide
  have n36 : ¬ (K i = 36 ∨ K i = 22 ∨ K i = 38 ∨ K i = 39 ∨ K i = 40) := by rcases h with e | e <;> rw [e] <;> decide
  unfold pS1
  rw [if_neg n26, if_neg n1, if_neg n20, if_neg n13, if_neg n15, if_neg n36, if_pos h]
/-- what a statement of one word does, by its token -/
def opQ (k : Int32) : Nat := if k = 13 ∨ k = 14 then opS k else if k = 20 ∨ k = 31 ∨ k = 19 then opP k else if k = 15 then 13 else opW k
theorem kd_nameStep (hq : kV q) (hx : ¬ (K (nn x) = 1 ∧ nn x < 700) → RX x0 X) (hA : KA K V sN e x) (hn : nn x ≤ e) (hB : BB x0 x M E) (ha : 2 * ssm x ≤ nx x + 1) (o l : Int32) (ho : 5 ≤ o.toInt) (ho2 : o.toInt ≤ 10) (h : ∀ y, BB x0 y M E → nx y = nx x + 1 → ssm y = ssm x + 1 → om y = om x → sop y (x.1 80 9).toNatClampNeg = o.toInt → vp_in (x.1 80 9) 400 → y.1 60 13 = x.1 60 13 → K (nn x) = 1 → nn x < 700 → nn y = nn x + 1 → KA K V sN e y → nn y ≤ e → La x y → ((o.toInt ≤ 8 ∧ y.1 42 (nn x) = 4) ∨ (9 ≤ o.toInt ∧ y.1 42 (nn x) = 5)) → y.1 100 9 = x.1 100 9 → (∀ k, y.1 109 k = x.1 109 k) → OPe x y → stK x y o (x.1 100 9) (-1) (x.1 100 4) (-1) (-1) (-1) → F (x.1 80 9) y) : KE G q (d + 8) zk_X7_nameStep 0 [(0, vr 100), (1, vi o), (2, vi l)] [] x (ri F) X := by
  have p19 : ∀ u : Int32, ((u = 4 ∧ o.toInt ≤ 8) ∨ (u = 5 ∧ 9 ≤ o.toInt)) → KE G q (d + 8) zk_X7_nameStep 19 [(0, vr 100), (1, vi o), (2, vi l)] [vi u, vi 2, vr 100] x (ri F) X := by
    intro u hu
    refine kg_X7_nameStep_19 hq _ _ _ _ (kd_needFor hq 2 u 1 (by decide) (by decide) (by decide) (by rcases hu with ⟨rfl, -⟩ | ⟨rfl, -⟩ <;> decide) hx hB hA hn (fun kk c7 y hBy ny gy en hAy hny eu ht hcy => ?_))
    have eu : y.1 42 (x.1 100 4).toNatClampNeg = u := eu
    have esm := GS_sm gy
    obtain ⟨a1, a2, a3, a4, a5⟩ := BB_400 hBy (by omega)
    have m80 : y.1 80 9 = x.1 80 9 := GS_at gy _ _ (by unfold sSum; omega)
    refine kf_add hq _ _ _ a1 a2 (fun w hA vin hF9 => ⟨vin, fun z ez => ri_i ?_⟩)
    rw [m80] at ez vin hF9 ⊢
    rw [m80] at a3
    obtain ⟨f1, f2, f3, f4, f5⟩ := hA
    rw [m80] at f1 f3 f4 f5
    have fz : fm (fun c k => (81 ≤ c ∧ c ≤ 89 ∧ k = (x.1 80 9).toNatClampNeg) ∨ (c = 80 ∧ k = 9)) y z := by rw [ez]; exact fm_si f1 (Or.inl ⟨by omega, by omega, rfl⟩)
    have es : ssm z = ssm y + 1 := by
      have : z.1 80 9 = w.1 80 9 := by rw [ez]; (simp only [si_get, sfl_get, Nat.reduceEqDiff, eq_self, and_false, false_and, and_true, true_and, if_true, if_false, reduceIte, reduceCtorEq])
      unfold ssm at *; rw [this]; exact f2
    have z81 : z.1 81 (x.1 80 9).toNatClampNeg = o := by rw [ez]; (simp only [si_get, sfl_get, Nat.reduceEqDiff, eq_self, and_false, false_and, and_true, true_and, if_true, if_false, reduceIte, reduceCtorEq]); exact f3
    have z83 : z.1 83 (x.1 80 9).toNatClampNeg = y.1 100 9 := by rw [ez]; (simp only [si_get, sfl_get, Nat.reduceEqDiff, eq_self, and_false, false_and, and_true, true_and, if_true, if_false, reduceIte, reduceCtorEq]); exact f4
    have z85 : z.1 85 (x.1 80 9).toNatClampNeg = x.1 100 4 := by rw [ez]; (simp only [si_get, sfl_get, Nat.reduceEqDiff, eq_self, and_false, false_and, and_true, true_and, if_true, if_false, reduceIte, reduceCtorEq])
    have eN := BB_N hB
    have hSA : SA z M (x.1 80 9).toNatClampNeg := by
      unfold SA sop stg
      rw [z81, z83, z85]
      refine ⟨by omega, ⟨a4, a5⟩, fun _ => ⟨(x.1 100 4).toNatClampNeg, eN.symm, ?_, fun c => by omega, fun c1 c2 => ?_, fun c => ?_⟩, fun c => by omega⟩
      · unfold nx
        rw [fz 100 4 (by omega)]
        unfold nx at *
        omega
      · rw [fz 42 _ (by omega), eu]
        rcases hu with ⟨e, -⟩ | ⟨-, e⟩
        · exact e
        · omega
      · rw [fz 42 _ (by omega), eu]
        rcases hu with ⟨-, e⟩ | ⟨e, -⟩
        · omega
        · exact e
    have lyz : La y z := ⟨fun c k q1 q2 => fz c k (by omega), by unfold nx; rw [fz 100 4 (by omega)]; exact Int.le_refl _, fun j _ => fz 42 j (by omega)⟩
    have nz9 : nn z = nn y := by unfold nn; rw [fz 100 4 (by omega)]
    have hBz := BB_add hBy (n := (x.1 80 9).toNatClampNeg) (by omega) fz es hSA
    refine h z (BB_E hBz (fun e => e.elim id (fun e => by omega)) (fun i hi he hne => ?_)) ?_ (by omega) ?_ (by unfold sop; rw [z81]) vin (by rw [fz 60 13 (by omega), GS_at gy 60 13 (by unfold sSum; omega)]) kk c7 ?_ (KA_fm hAy lyz.1) ?_ (La_tr gy.1 lyz) ?_ (by rw [fz 100 9 (by omega), GS_at gy 100 9 (by unfold sSum; omega)]) (fun k => by rw [fz 109 k (by omega), GS_at gy 109 k (by unfold sSum; omega)]) (OPe_tr (OPe_GS gy) (OPe_st fz)) ⟨fun c k q q1 q2 => (fz c k (fun w => w.elim q1 q2)).trans (hcy c k q), ?_, z81, by rw [z83]; exact GS_at gy 100 9 (by unfold sSum; omega), by rw [ez]; (simp only [si_get, sfl_get, Nat.reduceEqDiff, eq_self, and_false, false_and, and_true, true_and, if_true, if_false, reduceIte, reduceCtorEq]); exact f5, z85, by rw [ez]; (simp only [si_get, sfl_get, Nat.reduceEqDiff, eq_self, and_false, false_and, and_true, true_and, if_true, if_false, reduceIte, reduceCtorEq]); exact hF9.2.1, by rw [ez]; (simp only [si_get, sfl_get, Nat.reduceEqDiff, eq_self, and_false, false_and, and_true, true_and, if_true, if_false, reduceIte, reduceCtorEq]); exact hF9.2.2.1, by rw [ez]; (simp only [si_get, sfl_get, Nat.reduceEqDiff, eq_self, and_false, false_and, and_true, true_and, if_true, if_false, reduceIte, reduceCtorEq]); exact hF9.2.2.2⟩
    · rcases he with he | he
      · exact absurd he hne
      · rw [he]
        refine SC_no ?_ ?_ <;> (unfold sop; rw [z81]; omega)
    · unfold nx at *
      rw [fz 100 4 (by omega)]; exact ny
    · have := GS_om gy
      unfold om at *
      rw [fz 100 13 (by omega)]; exact this
    · rw [nz9]; exact en
    · rw [nz9]; exact hny
    · have e9 : z.1 42 (nn x) = u := by rw [fz 42 _ (by omega)]; exact eu
      rcases hu with ⟨e, e2⟩ | ⟨e, e2⟩
      · exact Or.inl ⟨e2, e9.trans e⟩
      · exact Or.inr ⟨e2, e9.trans e⟩
    · show ssm z = ssm x + 1
      omega
  have k9 : (9 : Int32).toInt = 9 := rfl
  have k10 : (10 : Int32).toInt = 10 := rfl
  refine kg_X7_nameStep_0 hq _ _ ⟨fun c => p19 _ (Or.inr ⟨rfl, by rw [c]; decide⟩), fun c => ⟨fun c2 => p19 _ (Or.inl ⟨rfl, ?_⟩), fun c2 => p19 _ (Or.inr ⟨rfl, by rw [c2]; decide⟩)⟩⟩
  rw [t_eq, k9] at c
  rw [t_eq, k10] at c2
  omega
theorem kd_plain (hq : kV q) (f c9 : Nat) (L : gU) (hx : (pS1 K f c9 (nn x) L = none ∨ 700 ≤ nn x) → RX x0 X) (hf : (f : Int) + om x = 16) (hA : KA K V sN e x) (hn : nn x ≤ e) (hE : KV' K e x Ev) (hB : BB x0 x M (fun _ => False)) (ha : 2 * ssm x + om x ≤ nx x) (ho : om x ≤ 17) (o l : Int32) (h5 : 5 ≤ o.toInt) (h6 : ¬ o.toInt = 15 ∧ ¬ o.toInt = 16 ∧ ¬ o.toInt = 17 ∧ ¬ o.toInt = 20) (hEv : ¬ Ev.2.1 = []) (hop : o = Int32.ofNat (opQ (K (nn x)))) (hko : (o.toInt ≤ 8 ∧ (K (nn x) = 36 ∨ K (nn x) = 22 ∨ K (nn x) = 38 ∨ K (nn x) = 39 ∨ K (nn x) = 40)) ∨ (9 ≤ o.toInt ∧ o.toInt ≤ 10 ∧ (K (nn x) = 33 ∨ K (nn x) = 25)) ∨ (o = 13 ∧ K (nn x) = 15) ∨ ((o = 14 ∨ o = 18) ∧ (K (nn x) = 13 ∨ K (nn x) = 14)) ∨ ((o = 11 ∨ o = 12 ∨ o = 19) ∧ (K (nn x) = 20 ∨ K (nn x) = 31 ∨ K (nn x) = 19))) (h : ∀ y, BB x0 y M (fun _ => False) → nx x < nx y → om y = om x → 2 * ssm y + om y ≤ nx y → y.1 60 13 = x.1 60 13 → KV' K e y Ev → OPe x y → ∀ N, RIw K V sN e Ev x y N → still N → pS1 K f c9 (nn x) L = some (c9, nn y, L ++ N) → CG sN V K Ev x y N → Fv y) : KE G q (d + 11) zk_X7_plainStatement 0 [(0, vr 100), (1, vi o), (2, vi l)] [] x (rv Fv) X := by
  have k5 : (5 : Int32).toInt = 5 := rfl
  have k10 : (10 : Int32).toInt = 10 := rfl
  have o0 := (BB_om hB).1.1
  have b0 := hB.1.1.2.1
  have c0 := nn_is b0
  obtain ⟨W, eW⟩ : ∃ W, W = pS1 K f c9 (nn x) L := ⟨_, rfl⟩
  rw [← eW] at hx h
  have hx1 : W = none → RX x0 X := fun z => hx (Or.inl z)
  have p180 : ∀ (y : gd) (N : gU) (v : Nat × Nat × Nat), RIw K V sN e Ev x y (N ++ [v]) → still (N ++ [v]) → W = pup c9 v (pt K 67 (nn y, L ++ N)) → KV' K e y Ev → BB x0 y M (fun _ => False) → nx x < nx y → (om y = om x ∧ y.1 60 13 = x.1 60 13 ∧ OPe x y) → 2 * ssm y + om y ≤ nx y + 1 → CG sN V K Ev x y (N ++ [v]) → KE G q (d + 11) zk_X7_plainStatement 180 [(0, vr 100)] [] y (rv Fv) X := fun y N v hRy hst hW hEy hBy n1 n2 n3 hCG => kg_X7_plainStatement_180 hq (kd_need hq 27 67 (by decide) (by decide) (by decide) (fun no => hx1 (by rw [hW]; unfold pt; rw [if_neg no]; rfl)) hBy hRy (fun kk c7 z hBz nz gz en hRz _ hcz => rv_i (h z hBz (by omega) (by rw [GS_om gz]; exact n2.1) (by rw [GS_om gz, GS_sm gz]; omega) (by rw [GS_at gz 60 13 (by unfold sSum; omega)]; exact n2.2.1) (KV_GS gz hEy) (OPe_tr n2.2.2 (OPe_GS gz)) (N ++ [v]) hRz hst (by
    rw [hW]; unfold pt; rw [if_pos ⟨kk, c7⟩, en]
    show some (c9, nn y + 1, L ++ N ++ [v]) = _
    rw [List.append_assoc]) (CG_st hCG hcz))))
  have p139 : ∀ (y : gd) (l5 s : Int32) (N : gU) (v : Nat × Nat × Nat), RIw K V sN e Ev x y (N ++ [v]) → still (N ++ [v]) → W = pup c9 v (pt K 67 (nn y, L ++ N)) → KV' K e y Ev → 10 < o.toInt → BB x0 y M (fun _ => False) → nx x < nx y → (om y = om x ∧ y.1 60 13 = x.1 60 13 ∧ OPe x y) → ssm y = ssm x → PCd sN V K Ev x y s N → ((v = (68, nn x, 0) ∧ l5 = -1 ∧ N = [] ∧ o = Int32.ofNat (opP (K (nn x)))) ∨ (v = (69, nn x, 0) ∧ l5 = -1 ∧ ¬ N = [] ∧ o = Int32.ofNat (opS (K (nn x)))) ∨ (v = (70, nn x, nn x + 1) ∧ l5 = V (nn x + 1) ∧ ¬ N = [] ∧ o = 13)) → KE G q (d + 11) zk_X7_plainStatement 139 [(0, vr 100), (1, vi o), (2, vi l), (5, vi l5)] [vi s] y (rv Fv) X := by
    intro y l5 s N v9 hRy hst hW hEy h10 hBy n1 n2 n3 hpc hvk
    obtain ⟨a1, a2, a3, a4, a5⟩ := BB_400 hBy (by omega)
    refine kg_X7_plainStatement_139 hq _ _ _ _ (kf_add hq _ _ _ a1 a2 (fun w hA vin hF9 => ⟨vin, fun z ez => ⟨vin, fun v ev => ?_⟩⟩))
    obtain ⟨f1, f2, f3, f4, f5⟩ := hA
    have fz : fm (fun c k => (81 ≤ c ∧ c ≤ 89 ∧ k = (y.1 80 9).toNatClampNeg) ∨ (c = 80 ∧ k = 9)) y v := by rw [ev, ez]; exact fm_si (fm_si f1 (Or.inl ⟨by omega, by omega, rfl⟩)) (Or.inl ⟨by omega, by omega, rfl⟩)
    have es : ssm v = ssm y + 1 := by
      have : v.1 80 9 = w.1 80 9 := by rw [ev, ez]; (simp only [si_get, sfl_get, Nat.reduceEqDiff, eq_self, and_false, false_and, and_true, true_and, if_true, if_false, reduceIte, reduceCtorEq])
      unfold ssm at *; rw [this]; exact f2
    have z81 : v.1 81 (y.1 80 9).toNatClampNeg = o := by rw [ev, ez]; (simp only [si_get, sfl_get, Nat.reduceEqDiff, eq_self, and_false, false_and, and_true, true_and, if_true, if_false, reduceIte, reduceCtorEq]); exact f3
    have z83 : v.1 83 (y.1 80 9).toNatClampNeg = y.1 100 9 := by rw [ev, ez]; (simp only [si_get, sfl_get, Nat.reduceEqDiff, eq_self, and_false, false_and, and_true, true_and, if_true, if_false, reduceIte, reduceCtorEq]); exact f4
    have hSA : SA v M (y.1 80 9).toNatClampNeg := by
      unfold SA sop stg
      rw [z81, z83]
      exact ⟨by omega, ⟨a4, a5⟩, fun c => by omega, fun c => by omega⟩
    have hBv := BB_add hBy (n := (y.1 80 9).toNatClampNeg) (by omega) fz es hSA
    have e4 : nx v = nx y := by unfold nx; rw [fz 100 4 (by omega)]
    have e13 : om v = om y := by unfold om; rw [fz 100 13 (by omega)]
    have nv9 : nn v = nn y := by unfold nn; rw [fz 100 4 (by omega)]
    refine p180 v N v9 (RI_st hRy (fz _ _ (by omega)) (fun j => fz _ _ (by omega)) (fun c k q1 q2 => fz _ _ (by omega))) hst (by rw [nv9]; exact hW) (KV_fm hEy (fz _ _ (by omega)) (fun k => fz _ _ (by omega))) (BB_E hBv (fun e => e.elim id (fun e => by omega)) (fun i hi he hne => ?_)) (by omega) ⟨by omega, by rw [fz 60 13 (by omega)]; exact n2.2.1, OPe_tr n2.2.2 (OPe_st fz)⟩ (by omega) (CG_pl (i := nn x) (j := nn x + 1) hEy hEv hpc ⟨fun c k q q1 q2 => fz c k (fun w => w.elim q1 q2), es, z81, z83, by rw [ev, ez]; (simp only [si_get, sfl_get, Nat.reduceEqDiff, eq_self, and_false, false_and, and_true, true_and, if_true, if_false, reduceIte, reduceCtorEq]); exact f5, by rw [ev, ez]; (simp only [si_get, sfl_get, Nat.reduceEqDiff, eq_self, and_false, false_and, and_true, true_and, if_true, if_false, reduceIte, reduceCtorEq]), by rw [ev, ez]; (simp only [si_get, sfl_get, Nat.reduceEqDiff, eq_self, and_false, false_and, and_true, true_and, if_true, if_false, reduceIte, reduceCtorEq]); exact hF9.2.1, by rw [ev, ez]; (simp only [si_get, sfl_get, Nat.reduceEqDiff, eq_self, and_false, false_and, and_true, true_and, if_true, if_false, reduceIte, reduceCtorEq]), by rw [ev, ez]; (simp only [si_get, sfl_get, Nat.reduceEqDiff, eq_self, and_false, false_and, and_true, true_and, if_true, if_false, reduceIte, reduceCtorEq]); exact hF9.2.2.2⟩ hvk)
    rcases he with he | he
    · exact absurd he hne
    · rw [he]
      refine SC_no ?_ ?_ <;> (unfold sop; rw [z81]; omega)
  have p118 : ∀ (y : gd) (l5 s : Int32) (v : Nat × Nat × Nat), KA K V sN e y → nn y ≤ e → (∀ j, nn x ≤ j → j < nn y → ¬ y.1 42 j = 0 → HB sN Ev v j (y.1 42 j)) → (∀ z, La y z → HAw sN (z.1 42) (nn z) Ev v) → still [v] → KV' K e y Ev → ((s = 0 ∧ W = pup c9 v (pt K 67 (nn y, L))) ∨ (s = 1 ∧ W = pup c9 v ((pX K false f (nn y) L).bind (pt K 67)))) → 10 < o.toInt → BB x0 y M (fun _ => False) → nx x < nx y → (om y = om x ∧ y.1 60 13 = x.1 60 13 ∧ OPe x y) → ssm y = ssm x → (∀ c k, ccS c k → y.1 c k = x.1 c k) → ((v = (68, nn x, 0) ∧ l5 = -1 ∧ s = 0 ∧ o = Int32.ofNat (opP (K (nn x)))) ∨ (v = (69, nn x, 0) ∧ l5 = -1 ∧ s = 1 ∧ o = Int32.ofNat (opS (K (nn x)))) ∨ (v = (70, nn x, nn x + 1) ∧ l5 = V (nn x + 1) ∧ s = 1 ∧ o = 13)) → KE G q (d + 11) zk_X7_plainStatement 118 [(0, vr 100), (1, vi o), (2, vi l), (5, vi l5)] [vi s] y (rv Fv) X := by
    intro y l5 s v hG1 hG2 hG3 hG4 hv hEy hWs h10 hBy n1 n2 n3 hcy hvk
    obtain ⟨o1, o2⟩ := BB_om hBy
    have by0 := hBy.1.1.2.1
    have eD : 17 - (y.1 100 13 + 1).toNatClampNeg = f := by
      have u := t_cl (y.1 100 13 + 1)
      rw [o2 (by omega)] at u
      omega
    refine kg_X7_plainStatement_118 hq _ _ _ _ ⟨fun c0 => p139 y _ _ [] v ⟨hG1, hG2, UR_late (y := y) by0 still_nil La_rf (UR_0 rfl) (hG4 y La_rf) hG3⟩ hv (by
      rcases hWs with ⟨-, e⟩ | ⟨e, -⟩
      · rw [List.append_nil]; exact e
      · rw [e] at c0; exact absurd c0 (by decide)) hEy h10 hBy n1 n2 n3 (Or.inl ⟨rfl, rfl, hcy⟩) (by
      rcases hvk with ⟨a1, a2, _, a4⟩ | ⟨_, _, a3, _⟩ | ⟨_, _, a3, _⟩
      · exact Or.inl ⟨a1, a2, rfl, a4⟩
      · rw [a3] at c0; exact absurd c0 (by decide)
      · rw [a3] at c0; exact absurd c0 (by decide)), fun c0 => kd_sum hq _ L (fun q9 => hx1 ?_) hBy hG1 hG2 hEy (by rw [o2 (by omega)]; omega) (by rw [o2 (by omega)]; omega) (fun r z hBz nz gz N hRz hN hpX hcp hr => p139 z _ _ N v ⟨hRz.1, hRz.2.1, UR_late by0 hN gz.1 hRz.2.2 (hG4 z gz.1) hG3⟩ (still_app hN hv) ?_ (KV_GS gz hEy) h10 hBz (by omega) ⟨by rw [GS_om gz]; exact n2.1, by rw [GS_at gz 60 13 (by unfold sSum; omega)]; exact n2.2.1, OPe_tr n2.2.2 (OPe_GS gz)⟩ (by rw [GS_sm gz]; exact n3) ?_ ?_)⟩
    · rw [eD] at q9
      rcases hWs with ⟨e, -⟩ | ⟨-, e⟩
      · exact absurd e c0
      · rw [e, q9]; rfl
    · rw [eD] at hpX
      rcases hWs with ⟨e, -⟩ | ⟨-, e⟩
      · exact absurd e c0
      · rw [e, hpX]; rfl
    · obtain ⟨N', eN, hs'⟩ := pX_sE hpX
      exact Or.inr ⟨N', y, eN, hs', hcy, hcp, fun c k q q1 q2 q3 => GS_at gz c k (by unfold ccS at q; unfold sSum; omega), hr⟩
    · obtain ⟨N', eN, hs'⟩ := pX_sE hpX
      have hne : ¬ N = [] := fun q => by rw [q] at eN; simp at eN
      rcases hvk with ⟨_, _, a3, _⟩ | ⟨a1, a2, _, a4⟩ | ⟨a1, a2, _, a4⟩
      · exact absurd a3 c0
      · exact Or.inr (Or.inl ⟨a1, a2, hne, a4⟩)
      · exact Or.inr (Or.inr ⟨a1, a2, hne, a4⟩)
  have p95 : ∀ (y : gd) (l5 : Int32) (v : Nat × Nat × Nat), KA K V sN e y → nn y ≤ e → (∀ j, nn x ≤ j → j < nn y → ¬ y.1 42 j = 0 → HB sN Ev v j (y.1 42 j)) → (∀ z, La y z → HAw sN (z.1 42) (nn z) Ev v) → still [v] → KV' K e y Ev → ((¬ (o = 13 ∨ o = 14 ∨ o = 18) ∧ W = pup c9 v (pt K 67 (nn y, L))) ∨ ((o = 13 ∨ o = 14 ∨ o = 18) ∧ W = pup c9 v ((pX K false f (nn y) L).bind (pt K 67)))) → 10 < o.toInt → BB x0 y M (fun _ => False) → nx x < nx y → (om y = om x ∧ y.1 60 13 = x.1 60 13 ∧ OPe x y) → ssm y = ssm x → (∀ c k, ccS c k → y.1 c k = x.1 c k) → ((v = (68, nn x, 0) ∧ l5 = -1 ∧ ¬ (o = 13 ∨ o = 14 ∨ o = 18) ∧ o = Int32.ofNat (opP (K (nn x)))) ∨ (v = (69, nn x, 0) ∧ l5 = -1 ∧ (o = 13 ∨ o = 14 ∨ o = 18) ∧ o = Int32.ofNat (opS (K (nn x)))) ∨ (v = (70, nn x, nn x + 1) ∧ l5 = V (nn x + 1) ∧ (o = 13 ∨ o = 14 ∨ o = 18) ∧ o = 13)) → KE G q (d + 11) zk_X7_plainStatement 95 [(0, vr 100), (1, vi o), (2, vi l), (5, vi l5)] [] y (rv Fv) X := by
    intro y l5 v hG1 hG2 hG3 hG4 hv hEy hWs h10 hBy n1 n2 n3 hcy hvk
    have yes : (o = 13 ∨ o = 14 ∨ o = 18) → KE G q (d + 11) zk_X7_plainStatement 118 [(0, vr 100), (1, vi o), (2, vi l), (5, vi l5)] [vi 1] y (rv Fv) X := fun c => p118 y _ _ v hG1 hG2 hG3 hG4 hv hEy (by
      rcases hWs with ⟨e, -⟩ | ⟨-, e⟩
      · exact absurd c e
      · exact Or.inr ⟨rfl, e⟩) h10 hBy n1 n2 n3 hcy (by
      rcases hvk with ⟨_, _, a3, _⟩ | ⟨a1, a2, _, a4⟩ | ⟨a1, a2, _, a4⟩
      · exact absurd c a3
      · exact Or.inr (Or.inl ⟨a1, a2, rfl, a4⟩)
      · exact Or.inr (Or.inr ⟨a1, a2, rfl, a4⟩))
    exact kg_X7_plainStatement_95 hq _ _ _ ⟨fun c => yes (Or.inl c), fun c1 => ⟨fun c => yes (Or.inr (Or.inl c)), fun c2 => ⟨fun c3 => p118 y _ _ v hG1 hG2 hG3 hG4 hv hEy (by
      rcases hWs with ⟨-, e⟩ | ⟨e, -⟩
      · exact Or.inl ⟨rfl, e⟩
      · exact absurd e (fun z => z.elim c1 (fun z => z.elim c2 c3))) h10 hBy n1 n2 n3 hcy (by
      rcases hvk with ⟨a1, a2, _, a4⟩ | ⟨_, _, a3, _⟩ | ⟨_, _, a3, _⟩
      · exact Or.inl ⟨a1, a2, rfl, a4⟩
      · exact absurd a3 (fun z => z.elim c1 (fun z => z.elim c2 c3))
      · exact absurd a3 (fun z => z.elim c1 (fun z => z.elim c2 c3))), fun c => yes (Or.inr (Or.inr c))⟩⟩⟩
  have p63 : ∀ y, nn y = nn x + 1 → y.1 42 (nn x) = 0 → KA K V sN e y → nn y ≤ e → KV' K e y Ev → 10 < o.toInt → BB x0 y M (fun _ => False) → nx x < nx y → (om y = om x ∧ y.1 60 13 = x.1 60 13 ∧ OPe x y) → ssm y = ssm x → (∀ c k, ccS c k → y.1 c k = x.1 c k) → KE G q (d + 11) zk_X7_plainStatement 63 [(0, vr 100), (1, vi o), (2, vi l)] [] y (rv Fv) X := by
    intro y en u0 hAy hny hEy h10 hBy n1 n2 n3 hcy
    have by0 := hBy.1.1.2.1
    have one : ∀ v : Nat × Nat × Nat, ∀ j, nn x ≤ j → j < nn y → ¬ y.1 42 j = 0 → HB sN Ev v j (y.1 42 j) := fun v j h1 h2 h3 => by
      have ej : j = nn x := by omega
      rw [ej] at h3
      exact absurd u0 h3
    refine kg_X7_plainStatement_63 hq _ _ ⟨fun c => ?_, fun c => ?_⟩
    · have hk : ((o = 14 ∨ o = 18) ∧ (K (nn x) = 13 ∨ K (nn x) = 14)) ∨ ((o = 11 ∨ o = 12 ∨ o = 19) ∧ (K (nn x) = 20 ∨ K (nn x) = 31 ∨ K (nn x) = 19)) := by
        rcases hko with ⟨e, -⟩ | ⟨-, e, -⟩ | ⟨e, -⟩ | e | e
        · omega
        · omega
        · exact absurd e c
        · exact Or.inl e
        · exact Or.inr e
      rcases hk with ⟨ho9, hk⟩ | ⟨ho9, hk⟩
      · exact p95 y _ (69, nn x, 0) hAy hny (one _) (fun z _ => HA_dull (dull_k (by decide))) (stl_k (by decide)) hEy (Or.inr ⟨Or.inr ho9, by rw [eW, pS1_69 hk, en]⟩) h10 hBy n1 n2 n3 hcy (Or.inr (Or.inl ⟨rfl, rfl, Or.inr ho9, by rw [hop]; unfold opQ; rw [if_pos hk]⟩))
      · exact p95 y _ (68, nn x, 0) hAy hny (one _) (fun z _ => HA_dull (dull_k (by decide))) (stl_k (by decide)) hEy (Or.inl ⟨by rcases ho9 with e | e | e <;> rw [e] <;> decide, by rw [eW, pS1_68 hk, en]⟩) h10 hBy n1 n2 n3 hcy (Or.inl ⟨rfl, rfl, by rcases ho9 with e | e | e <;> rw [e] <;> decide, by rw [hop]; unfold opQ; rw [if_neg (by rcases hk with e | e | e <;> rw [e] <;> decide), if_pos hk]⟩)
    · have hk : K (nn x) = 15 := by
        rcases hko with ⟨e, -⟩ | ⟨-, e, -⟩ | ⟨-, e⟩ | ⟨e, -⟩ | ⟨e, -⟩
        · omega
        · omega
        · exact e
        · rw [c] at e; exact absurd e (by decide)
        · rw [c] at e; exact absurd e (by decide)
      have hW := pS1_70 (f := f) (c := c9) (L := L) hk
      rw [← eW] at hW
      refine kd_needFor hq 3 13 2 (by decide) (by decide) (by decide) (by decide) (fun no => hx1 (by rw [hW, if_neg (fun z => no (by rw [en]; exact z.1))])) hBy hAy hny (fun kk c7 z hBz nz gz en2 hAz hnz eu ht hcz => ⟨RB_at hBy.1.1, ?_⟩)
      rw [en] at kk c7 eu
      have en2 : nn z = nn x + 2 := by omega
      refine kd_need (xs := z) (Ml := []) (Ev := Ev) hq 28 68 (by decide) (by decide) (by decide) (fun no => hx1 (by rw [hW, if_neg (fun z => no (by rw [en2]; exact z.2))])) hBz ⟨hAz, hnz, UR_0 rfl⟩ (fun kk2 c72 w hBw nw gw en3 hRw u2 hcw => ?_)
      rw [en2] at kk2 c72 u2
      have en3 : nn w = nn x + 3 := by omega
      rw [if_pos ⟨⟨kk, c7⟩, kk2, c72⟩] at hW
      have bz0 := hBz.1.1.2.1
      have bw0 := hBw.1.1.2.1
      obtain ⟨-, la1⟩ := La_nn by0 gz.1
      obtain ⟨-, la2⟩ := La_nn bz0 gw.1
      have w0 : w.1 42 (nn x) = 0 := by rw [la2 _ (by omega), la1 _ (by omega)]; exact u0
      have w1 : w.1 42 (nn x + 1) = 13 := by rw [la2 _ (by omega)]; exact eu
      refine p95 w _ (70, nn x, nn x + 1) hRw.1 hRw.2.1 (fun j h1 h2 h3 => ?_) (fun v lv => ?_) (stl_k (by decide)) (KV_GS gw (KV_GS gz hEy)) (Or.inr ⟨Or.inl c, by rw [hW, en3]⟩) h10 hBw (by omega) ⟨by rw [GS_om gw, GS_om gz]; exact n2.1, by rw [GS_at gw 60 13 (by unfold sSum; omega), GS_at gz 60 13 (by unfold sSum; omega)]; exact n2.2.1, OPe_tr (OPe_tr n2.2.2 (OPe_GS gz)) (OPe_GS gw)⟩ (by rw [GS_sm gw, GS_sm gz]; exact n3) (fun c k q => (hcw c k q).trans ((hcz c k q).trans (hcy c k q))) (Or.inr (Or.inr ⟨rfl, ?_, Or.inl c, c⟩))
      · have hj : j = nn x ∨ j = nn x + 1 ∨ j = nn x + 2 := by omega
        rcases hj with ej | ej | ej
        · rw [ej] at h3; exact absurd w0 h3
        · rw [ej, w1]; exact HB_70
        · rw [ej] at h3; exact absurd u2 h3
      · obtain ⟨lw1, lw2⟩ := La_nn bw0 lv
        exact HA_70.mpr ⟨by omega, by rw [lw2 _ (by omega)]; exact w1⟩
      · have m9 : (y.1 100 4).toNatClampNeg = nn x + 1 := en
        rw [m9]
        exact hAz.2.1 _ (by omega) kk
  have kk0 : ¬ K (nn x) = 0 ∧ ¬ K (nn x) = 3 := by
    rcases hko with ⟨-, e | e | e | e | e⟩ | ⟨-, -, e | e⟩ | ⟨-, e⟩ | ⟨-, e | e⟩ | ⟨-, e | e | e⟩ <;> rw [e] <;> decide
  have p14 : ∀ s : Int32, ((s = 0 ∧ ¬ K (nn x) = 40) ∨ (s = 1 ∧ K (nn x) = 40)) → KE G q (d + 11) zk_X7_plainStatement 14 [(0, vr 100), (1, vi o), (2, vi l)] [vi s] x (rv Fv) X := by
    intro s hs40
    refine kg_X7_plainStatement_14 hq _ _ _ (kd_pass (xs := x) (Ml := []) (Ev := Ev) hq (fun c7 => hx (Or.inr c7)) hB ⟨hA, hn, UR_0 rfl⟩ kk0.1 kk0.2 (fun c7 y hBy ny gy en hRy u0 hcy => ?_))
    have e1 := GS_sm gy
    have e2 := GS_om gy
    have e3 : y.1 60 13 = x.1 60 13 := GS_at gy _ _ (by unfold sSum; omega)
    refine ⟨fun c => ?_, fun c => ⟨fun c2 => p63 y en u0 hRy.1 hRy.2.1 (KV_GS gy hE) (by rw [t_lt, k10] at c2; exact c2) hBy (by omega) ⟨e2, e3, OPe_GS gy⟩ e1 hcy, fun c2 => ?_⟩⟩
    · exfalso; rw [t_lt, k5] at c; omega
    rw [t_lt, k10] at c2
    obtain ⟨v, hvv, hW⟩ : ∃ v : Nat × Nat × Nat, ((o.toInt ≤ 8 ∧ v = (66, nn x, nn x + 1)) ∨ (9 ≤ o.toInt ∧ v = (67, nn x, nn x + 1))) ∧ W = if K (nn x + 1) = 1 ∧ nn x + 1 < 700 then pup c9 v (pt K 67 (nn x + 2, L)) else none := by
      rcases hko with ⟨e, hk⟩ | ⟨e, -, hk⟩ | ⟨e, -⟩ | ⟨e, -⟩ | ⟨e, -⟩
      · exact ⟨_, Or.inl ⟨e, rfl⟩, by rw [eW, pS1_66 hk]⟩
      · exact ⟨_, Or.inr ⟨e, rfl⟩, by rw [eW, pS1_67 hk]⟩
      · rw [e] at c2; exact absurd (show (10 : Int) < (13 : Int32).toInt by decide) c2
      · rcases e with e | e <;> (rw [e] at c2; exact absurd (by decide) c2)
      · rcases e with e | e | e <;> (rw [e] at c2; exact absurd (by decide) c2)
    have by0 := hBy.1.1.2.1
    refine kd_nameStep hq (fun no => hx1 (by rw [hW, if_neg (fun z => no (by rw [en]; exact z))])) hRy.1 hRy.2.1 hBy (by omega) o l h5 (by omega) (fun z hBz nz sz oz opz vin z13 kk c72 enz hAz hnz laz huz z9 z109 opz9 hsk => ?_)
    rw [en] at kk c72 huz enz
    rw [if_pos ⟨kk, c72⟩] at hW
    obtain ⟨-, la1⟩ := La_nn by0 laz
    have w0 : z.1 42 (nn x) = 0 := by rw [la1 _ (by omega)]; exact u0
    have hRz : RIw K V sN e Ev x z ([] ++ [v]) := by
      refine ⟨hAz, hnz, HAs_one.mpr ?_, fun j h1 h2 h3 => HBs_one.mpr ?_⟩
      · rcases hvv with ⟨e1, e⟩ | ⟨e1, e⟩ <;> rcases huz with ⟨e2, e3⟩ | ⟨e2, e3⟩
        · rw [e]; exact HA_66.mpr ⟨by omega, e3⟩
        · omega
        · omega
        · rw [e]; exact HA_67.mpr ⟨by omega, e3⟩
      · have hj : j = nn x ∨ j = nn x + 1 := by omega
        rcases hj with ej | ej
        · rw [ej] at h3; exact absurd w0 h3
        · rw [ej]
          rcases hvv with ⟨e1, e⟩ | ⟨e1, e⟩ <;> rcases huz with ⟨e2, e3⟩ | ⟨e2, e3⟩
          · rw [e, e3]; exact HB_66
          · omega
          · omega
          · rw [e, e3]; exact HB_67
    have hvs : still ([] ++ [v]) := by
      rcases hvv with ⟨-, e⟩ | ⟨-, e⟩ <;> (rw [e]; exact stl_k (by decide))
    have hEz : KV' K e z Ev := KV_fm (KV_GS gy hE) z9 z109
    have fin : ∀ (v8 : Int32) (w : gd), (v8 = 1 ↔ K (nn x) = 40) → w = si z 84 (y.1 80 9).toNatClampNeg v8 → KE G q (d + 11) zk_X7_plainStatement 180 [(0, vr 100)] [] w (rv Fv) X := by
      intro v8 w hv8 ew
      have fw : fm (fun c k => c = 84 ∧ k = (y.1 80 9).toNatClampNeg) z w := by rw [ew]; exact fm_si (fm_rf _ _) ⟨rfl, rfl⟩
      have e4 : nx w = nx z := by unfold nx; rw [fw 100 4 (by omega)]
      have e13 : om w = om z := by unfold om; rw [fw 100 13 (by omega)]
      have es : ssm w = ssm z := by unfold ssm; rw [fw 80 9 (by omega)]
      have la : La z w := ⟨fun c k q1 q2 => fw c k (by omega), by omega, fun j _ => fw 42 j (by omega)⟩
      have nw9 : nn w = nn x + 2 := by rw [← enz]; unfold nn; rw [fw 100 4 (by omega)]
      refine p180 w [] v (RI_st hRz (fw _ _ (by omega)) (fun j => fw _ _ (by omega)) (fun c k q1 q2 => fw _ _ (by omega))) hvs (by rw [hW, nw9, List.append_nil]) (KV_fm hEz (fw _ _ (by omega)) (fun k => fw _ _ (by omega))) ?_ (by omega) ⟨by omega, by rw [fw 60 13 (by omega), z13, e3], OPe_tr (OPe_tr (OPe_GS gy) opz9) (OPe_st (fm_w fw (fun c k q => Or.inl ⟨by omega, by omega, q.2⟩)))⟩ (by omega) (CG_nm (i := nn x) (j := nn x + 1) (KV_GS gy hE) hcy (stK_84 hsk ew) (hvv.imp (fun q => q.2) (fun q => q.2)) ?_ ?_ hv8)
      rotate_left
      · rw [hop]
        unfold opQ
        have hk9 : ¬ (K (nn x) = 13 ∨ K (nn x) = 14) ∧ ¬ (K (nn x) = 20 ∨ K (nn x) = 31 ∨ K (nn x) = 19) ∧ ¬ K (nn x) = 15 := by
          rcases hko with ⟨-, e | e | e | e | e⟩ | ⟨-, -, e | e⟩ | ⟨e, -⟩ | ⟨e, -⟩ | ⟨e, -⟩
          · rw [e]; decide
          · rw [e]; decide
          · rw [e]; decide
          · rw [e]; decide
          · rw [e]; decide
          · rw [e]; decide
          · rw [e]; decide
          · rw [e] at c2; exact absurd (by decide) c2
          · rcases e with e | e <;> (rw [e] at c2; exact absurd (by decide) c2)
          · rcases e with e | e | e <;> (rw [e] at c2; exact absurd (by decide) c2)
        rw [if_neg hk9.1, if_neg hk9.2.1, if_neg hk9.2.2]
      · have := nn_is by0
        unfold nx at this
        omega
      obtain ⟨hS, hF, ⟨r1, r2, r3, ⟨r4, r6⟩, r7⟩, hC, r5, r0, hI⟩ := hBz
      have z5 : w.1 100 5 = z.1 100 5 := fw _ _ (by omega)
      refine ⟨?_, ?_, ⟨fun c => ?_, NM_fm r2 (fun c k q1 q2 q3 q4 => fw c k (by omega)) (fw _ _ (by omega)) (fw _ _ (by omega)), ?_, ⟨by omega, fun i hi => ?_⟩, ?_⟩, fun i hi he => ?_, by rw [z5]; exact r5, fm_tr r0 (fm_w fw (fun c k q => by unfold sR; omega)), TR_eq hI id (fw _ _ (by omega)) (fun k => fw _ _ (by omega))⟩
      · obtain ⟨⟨hT, b1, b2, b3⟩, ⟨u1, u2⟩, hp, hP⟩ := hS
        unfold SU SV US RB mt
        rw [fw 20 7 (by omega), fw 60 3 (by omega), e4]
        refine ⟨⟨kT_fm hT la.1, b1, b2, b3⟩, ⟨fun j h1 h2 => ?_, fun j h1 h2 => ?_⟩, hp, fun i hi => La_PQ la (fw _ _ (by omega)) (fw _ _ (by omega)) (hP i hi)⟩
        · rw [fw 42 j (by omega)]; exact u1 j h1 h2
        · rw [fw 42 j (by omega)] at h2; rw [fw 42 _ (by omega)]; exact u2 j h1 h2
      · unfold FR at hF ⊢
        rw [fw 100 4 (by omega), fw 42 _ (by omega)]; exact hF
      · obtain ⟨k1, o1, o2, o3, o4⟩ := r1 r5
        refine ⟨KN_fm k1 (fw _ _ (by omega)) (fw _ _ (by omega)) (fun k => fw _ _ (by omega)), ?_⟩
        unfold OPs
        rw [e13, fw 100 9 (by omega), fw 100 7 (by omega)]
        refine ⟨o1, fun k hk => OP1_eq (fun j => fw _ _ (by omega)) (fw _ _ (by omega)) (fun c j q1 q2 => fw _ _ (by omega)) (fw _ _ (by omega)) (o2 k hk), fun j k hj hk => ?_, o4⟩
        rw [fw 113 j (by omega), fw 113 k (by omega)]; exact o3 j k hj hk
      · unfold CD at r3 ⊢
        rw [fw 60 6 (by omega), fw 60 9 (by omega), fw 60 10 (by omega), fw 60 14 (by omega), fw 60 16 (by omega), fw 60 13 (by omega), z5, fw 100 9 (by omega), fw 40 8 (by omega), fw 40 10 (by omega)]
        exact r3
      · by_cases hi2 : i = (y.1 80 9).toNatClampNeg
        · have g := r6 i (by omega)
          rw [hi2] at g ⊢
          unfold SA at g ⊢
          have ep : sop w (y.1 80 9).toNatClampNeg = sop z (y.1 80 9).toNatClampNeg := by unfold sop; rw [fw 81 _ (by omega)]
          rw [ep, opz, fw 83 _ (by omega), fw 85 _ (by omega), e4]
          rw [opz] at g
          refine ⟨g.1, g.2.1, fun c => ?_, fun c => by omega⟩
          obtain ⟨t, t1, t2, t3⟩ := g.2.2.1 c
          refine ⟨t, t1, t2, ?_⟩
          rw [fw 42 t (by omega)]; exact t3
        · exact SA_La la (fw _ _ (by omega)) (fw _ _ (by omega)) (fw _ _ (by omega)) (fw _ _ (by omega)) (Int.le_refl _) (r6 i (by omega))
      · unfold TS at r7 ⊢
        rw [fw 60 10 (by omega), z5, es]
        refine ⟨fun t ht => ?_, fun c => absurd c r5⟩
        rw [fw 72 t (by omega)]; exact r7.1 t ht
      · by_cases hi2 : i = (y.1 80 9).toNatClampNeg
        · rw [hi2]
          refine SC_no ?_ ?_ <;> (unfold sop at *; rw [fw 81 _ (by omega), opz]; omega)
        · exact SC_eq (fun j => fw _ _ (by omega)) (fw _ _ (by omega)) (fw _ _ (by omega)) (fw _ _ (by omega)) z5 (fun j => fw _ _ (by omega)) (hC i (by omega) he)
    exact ⟨fun s0 => ⟨vin, fun w ew => fin _ w ⟨fun q => absurd q (by decide), fun q => by
      rcases hs40 with ⟨-, e⟩ | ⟨e, -⟩
      · exact absurd q e
      · rw [e] at s0; exact absurd s0 (by decide)⟩ ew⟩, fun s0 => ⟨vin, fun w ew => fin _ w ⟨fun _ => by
      rcases hs40 with ⟨e, -⟩ | ⟨-, e⟩
      · exact absurd e s0
      · exact e, fun _ => rfl⟩ ew⟩⟩
  exact kg_X7_plainStatement_0 hq _ _ (kp_sort hq hB.1.1 ⟨fun c => p14 _ (Or.inl ⟨rfl, fun q => c ((KA_k hA hn 70 (by decide)).mpr q)⟩), fun c => p14 _ (Or.inr ⟨rfl, (KA_k hA hn 70 (by decide)).mp c⟩)⟩)
end KPL
end
section
/-! the class: what is set -/
abbrev E0 : Nat → Prop := fun _ => False
section KSR
variable {G : kG} {q : kP} {d : Nat} {x x0 y z : gd} {F : Int32 → gd → Prop} {Fv : gd → Prop} {X : String → gd → Prop} {P : Option gv → gd → Prop} {M : Int} {E : Nat → Prop}
/-- changes that no invariant sees, and of uses that are nothing yet -/
theorem BB_use (hB : BB x0 x M E) {t : Nat} (ht : (t : Int) < nx x) (h0 : x.1 42 t = 0) (hv : ¬ z.1 42 t = 12) (f : fm (fun c k => c = 43 ∨ (86 ≤ c ∧ c ≤ 89) ∨ (c = 42 ∧ k = t)) x z) : BB x0 z M E := by
  obtain ⟨hS, hF, ⟨r1, r2, r3, ⟨r4, r6⟩, r7⟩, hC, r5, r0, hI⟩ := hB
  have e4 : nx z = nx x := by unfold nx; rw [f 100 4 (by omega)]
  have es : ssm z = ssm x := by unfold ssm; rw [f 80 9 (by omega)]
  have eo : om z = om x := by unfold om; rw [f 100 13 (by omega)]
  have z5 : z.1 100 5 = x.1 100 5 := f _ _ (by omega)
  have bu : BU x → BU z := by
    rintro ⟨j, j1, j2⟩
    have hj : j ≠ t := fun e => by rw [e, h0] at j2; revert j2; decide
    exact ⟨j, by omega, by rw [f 42 j (by omega)]; exact j2⟩
  have tt : ∀ (j : Nat) (u : Int32), ¬ u = 0 → x.1 42 j = u → z.1 42 j = u := by
    intro j u hu e
    have hj : j ≠ t := fun e2 => by rw [e2, h0] at e; exact hu e.symm
    rw [f 42 j (by omega)]; exact e
  refine ⟨?_, ?_, ⟨fun c => ?_, NM_fm r2 (fun c k q1 q2 q3 q4 => f c k (by omega)) (f _ _ (by omega)) (f _ _ (by omega)), ?_, ⟨by omega, fun i hi => ?_⟩, ?_⟩, fun i hi he => ?_, by rw [z5]; exact r5, fm_tr r0 (fm_w f (fun c k q => by unfold sR; omega)), TR_eq hI id (f _ _ (by omega)) (fun k => f _ _ (by omega))⟩
  · obtain ⟨⟨hT, b1, b2, b3⟩, ⟨u1, u2⟩, hp, hP⟩ := hS
    unfold SU SV US RB mt
    rw [f 20 7 (by omega), f 60 3 (by omega), e4]
    refine ⟨⟨kT_fm hT (fun c k q1 q2 => f c k (by omega)), b1, b2, b3⟩, ⟨fun j h1 h2 => ?_, fun j h1 h2 => ?_⟩, hp, fun i hi => ?_⟩
    · rw [f 42 j (by omega)]; exact u1 j h1 h2
    · have hj : j ≠ t := fun e => by rw [e] at h2; exact hv h2
      rw [f 42 j (by omega)] at h2
      obtain ⟨p1, p2⟩ := u2 j h1 h2
      exact ⟨p1, tt _ _ (by decide) p2⟩
    · have := hP i hi
      unfold PQ at this ⊢
      rw [f 62 i (by omega), f 63 i (by omega), e4]
      refine ⟨fun c => (this.1 c).imp id bu, fun c => ?_⟩
      obtain ⟨s, s1, s2, s3⟩ := this.2 c
      refine ⟨s, s1, s2, ?_⟩
      rcases s3 with s3 | ⟨s3, s4, s5, s6⟩
      · exact Or.inl (tt _ _ (by decide) s3)
      · exact Or.inr ⟨tt _ _ (by decide) s3, s4, tt _ _ (by decide) s5, by rw [f 23 _ (by omega)]; exact s6⟩
  · unfold FR at hF ⊢
    have b1 := hS.1.2.1
    rw [f 100 4 (by omega), f 42 _ (by
      have : (((x.1 100 4).toNatClampNeg : Nat) : Int) = nx x := by rw [t_cl]; unfold nx at *; omega
      omega)]
    exact hF
  · obtain ⟨k1, o1, o2, o3, o4⟩ := r1 r5
    refine ⟨KN_fm k1 (f _ _ (by omega)) (f _ _ (by omega)) (fun k => f _ _ (by omega)), ?_⟩
    unfold OPs
    rw [eo, f 100 9 (by omega), f 100 7 (by omega)]
    refine ⟨o1, fun k hk => OP1_eq (fun j => f _ _ (by omega)) (f _ _ (by omega)) (fun c j q1 q2 => f _ _ (by omega)) (f _ _ (by omega)) (o2 k hk), fun j k hj hk => ?_, o4⟩
    rw [f 113 j (by omega), f 113 k (by omega)]; exact o3 j k hj hk
  · unfold CD at r3 ⊢
    rw [f 60 6 (by omega), f 60 9 (by omega), f 60 10 (by omega), f 60 14 (by omega), f 60 16 (by omega), f 60 13 (by omega), z5, f 100 9 (by omega), f 40 8 (by omega), f 40 10 (by omega)]
    exact r3
  · have := r6 i (by omega)
    unfold SA sop stg at this ⊢
    rw [f 81 i (by omega), f 83 i (by omega), f 84 i (by omega), f 85 i (by omega), e4]
    refine ⟨this.1, this.2.1, fun c => ?_, fun c => (this.2.2.2 c).imp id bu⟩
    obtain ⟨s, s1, s2, s3, s4, s5⟩ := this.2.2.1 c
    refine ⟨s, s1, s2, fun c1 => ?_, fun c1 c2 => tt _ _ (by decide) (s4 c1 c2), fun c1 => tt _ _ (by decide) (s5 c1)⟩
    rcases s3 c1 with e | e | e | e
    · exact Or.inl (tt _ _ (by decide) e)
    · exact Or.inr (Or.inl (tt _ _ (by decide) e))
    · exact Or.inr (Or.inr (Or.inl (tt _ _ (by decide) e)))
    · exact Or.inr (Or.inr (Or.inr (tt _ _ (by decide) e)))
  · unfold TS at r7 ⊢
    rw [f 60 10 (by omega), z5, es]
    refine ⟨fun t ht => ?_, fun c => absurd c r5⟩
    rw [f 72 t (by omega)]; exact r7.1 t ht
  · exact SC_eq (fun j => f _ _ (by omega)) (f _ _ (by omega)) (f _ _ (by omega)) (f _ _ (by omega)) z5 (fun j => f _ _ (by omega)) (hC i (by omega) he)
/-- a cell's name -/
def PLc (y : gd) (a : Int32) : Prop := ∃ t : Nat, a.toInt = t ∧ (t : Int) < nx y ∧ (y.1 42 t = 6 ∨ y.1 42 t = 7 ∨ y.1 42 t = 8 ∨ y.1 42 t = 9)
theorem PLc_La {a : Int32} (la : La x y) (h : PLc x a) : PLc y a := by
  obtain ⟨t, t1, t2, t3⟩ := h
  have := la.2.1
  exact ⟨t, t1, by omega, by rw [la.2.2 t t2]; exact t3⟩
end KSR
end
