/-! the class: what is set -/
abbrev E0 : Nat → Prop := fun _ => False
section KSR
variable {G : kG} {q : kP} {d : Nat} {x x0 y z : gd} {F : Int32 → gd → Prop} {Fv : gd → Prop} {X : String → gd → Prop} {P : Option gv → gd → Prop} {M : Int} {E : Nat → Prop}
/-- changes that no invariant sees, and of uses that are nothing yet -/
theorem BB_use (hB : BB x0 x M E) {t : Nat} (ht : (t : Int) < nx x) (h0 : x.1 42 t = 0) (hv : ¬ z.1 42 t = 12) (f : fm (fun c k => c = 43 ∨ (86 ≤ c ∧ c ≤ 89) ∨ (c = 42 ∧ k = t)) x z) : BB x0 z M E := by
  obtain ⟨hS, hF, ⟨r1, r2, r3, ⟨r4, r6⟩, r7⟩, hC, r5, r0, hI⟩ := hB
  have e4 : nx z = nx x := by unfold nx; rw [f 100 4 (by omega)]
  have es : ssm z = ssm x := by unfold ssm; rw [f 80 9 (by omega)]
  have eo : om z = om x := by unfold om; rw [f 100 13 (by omega)]
  have z5 : z.1 100 5 = x.1 100 5 := f _ _ (by omega)
  have bu : BU x → BU z := by
    rintro ⟨j, j1, j2⟩
    have hj : j ≠ t := fun e => by rw [e, h0] at j2; revert j2; decide
    exact ⟨j, by omega, by rw [f 42 j (by omega)]; exact j2⟩
  have tt : ∀ (j : Nat) (u : Int32), ¬ u = 0 → x.1 42 j = u → z.1 42 j = u := by
    intro j u hu e
    have hj : j ≠ t := fun e2 => by rw [e2, h0] at e; exact hu e.symm
    rw [f 42 j (by omega)]; exact e
  refine ⟨?_, ?_, ⟨fun c => ?_, NM_fm r2 (fun c k q1 q2 q3 q4 => f c k (by omega)) (f _ _ (by omega)) (f _ _ (by omega)), ?_, ⟨by omega, fun i hi => ?_⟩, ?_⟩, fun i hi he => ?_, by rw [z5]; exact r5, fm_tr r0 (fm_w f (fun c k q => by unfold sR; omega)), TR_eq hI id (f _ _ (by omega)) (fun k => f _ _ (by omega))⟩
  · obtain ⟨⟨hT, b1, b2, b3⟩, ⟨u1, u2⟩, hp, hP⟩ := hS
    unfold SU SV US RB mt
    rw [f 20 7 (by omega), f 60 3 (by omega), e4]
    refine ⟨⟨kT_fm hT (fun c k q1 q2 => f c k (by omega)), b1, b2, b3⟩, ⟨fun j h1 h2 => ?_, fun j h1 h2 => ?_⟩, hp, fun i hi => ?_⟩
    · rw [f 42 j (by omega)]; exact u1 j h1 h2
    · have hj : j ≠ t := fun e => by rw [e] at h2; exact hv h2
      rw [f 42 j (by omega)] at h2
      obtain ⟨p1, p2⟩ := u2 j h1 h2
      exact ⟨p1, tt _ _ (by decide) p2⟩
    · have := hP i hi
      unfold PQ at this ⊢
      rw [f 62 i (by omega), f 63 i (by omega), e4]
      refine ⟨fun c => (this.1 c).imp id bu, fun c => ?_⟩
      obtain ⟨s, s1, s2, s3⟩ := this.2 c
      refine ⟨s, s1, s2, ?_⟩
      rcases s3 with s3 | ⟨s3, s4, s5, s6⟩
      · exact Or.inl (tt _ _ (by decide) s3)
      · exact Or.inr ⟨tt _ _ (by decide) s3, s4, tt _ _ (by decide) s5, by rw [f 23 _ (by omega)]; exact s6⟩
  · unfold FR at hF ⊢
    have b1 := hS.1.2.1
    rw [f 100 4 (by omega), f 42 _ (by
      have : (((x.1 100 4).toNatClampNeg : Nat) : Int) = nx x := by rw [t_cl]; unfold nx at *; omega
      omega)]
    exact hF
  · obtain ⟨k1, o1, o2, o3, o4⟩ := r1 r5
    refine ⟨KN_fm k1 (f _ _ (by omega)) (f _ _ (by omega)) (fun k => f _ _ (by omega)), ?_⟩
    unfold OPs
    rw [eo, f 100 9 (by omega), f 100 7 (by omega)]
    refine ⟨o1, fun k hk => OP1_eq (fun j => f _ _ (by omega)) (f _ _ (by omega)) (fun c j q1 q2 => f _ _ (by omega)) (f _ _ (by omega)) (o2 k hk), fun j k hj hk => ?_, o4⟩
    rw [f 113 j (by omega), f 113 k (by omega)]; exact o3 j k hj hk
  · unfold CD at r3 ⊢
    rw [f 60 6 (by omega), f 60 9 (by omega), f 60 10 (by omega), f 60 14 (by omega), f 60 16 (by omega), f 60 13 (by omega), z5, f 100 9 (by omega), f 40 8 (by omega), f 40 10 (by omega)]
    exact r3
  · have := r6 i (by omega)
    unfold SA sop stg at this ⊢
    rw [f 81 i (by omega), f 83 i (by omega), f 84 i (by omega), f 85 i (by omega), e4]
    refine ⟨this.1, this.2.1, fun c => ?_, fun c => (this.2.2.2 c).imp id bu⟩
    obtain ⟨s, s1, s2, s3, s4, s5⟩ := this.2.2.1 c
    refine ⟨s, s1, s2, fun c1 => ?_, fun c1 c2 => tt _ _ (by decide) (s4 c1 c2), fun c1 => tt _ _ (by decide) (s5 c1)⟩
    rcases s3 c1 with e | e | e | e
    · exact Or.inl (tt _ _ (by decide) e)
    · exact Or.inr (Or.inl (tt _ _ (by decide) e))
    · exact Or.inr (Or.inr (Or.inl (tt _ _ (by decide) e)))
    · exact Or.inr (Or.inr (Or.inr (tt _ _ (by decide) e)))
  · unfold TS at r7 ⊢
    rw [f 60 10 (by omega), z5, es]
    refine ⟨fun t ht => ?_, fun c => absurd c r5⟩
    rw [f 72 t (by omega)]; exact r7.1 t ht
  · exact SC_eq (fun j => f _ _ (by omega)) (f _ _ (by omega)) (f _ _ (by omega)) (f _ _ (by omega)) z5 (fun j => f _ _ (by omega)) (hC i (by omega) he)
/-- a cell's name -/
def PLc (y : gd) (a : Int32) : Prop := ∃ t : Nat, a.toInt = t ∧ (t : Int) < nx y ∧ (y.1 42 t = 6 ∨ y.1 42 t = 7 ∨ y.1 42 t = 8 ∨ y.1 42 t = 9)
theorem PLc_La {a : Int32} (la : La x y) (h : PLc x a) : PLc y a := by
  obtain ⟨t, t1, t2, t3⟩ := h
  have := la.2.1
  exact ⟨t, t1, by omega, by rw [la.2.2 t t2]; exact t3⟩
theorem kb_sourceOp (hq : kV q) (hB : BB x0 x M E) (h : ∀ r : Int32, (r = 0 ∨ r = 2 ∨ r = 3 ∨ r = 4 ∨ r = 16) → (¬ r = 16 → ¬ x.1 23 (x.1 100 4).toNatClampNeg = 0) → F r x) : KT G q (d + 2) zk_X7_sourceOp 0 [(0, vr 100)] [] x (ri F) := by
  have hK := (hB.2.2.1.1 hB.2.2.2.2.1).1
  have p81 : x.1 23 (x.1 100 4).toNatClampNeg = 2 → ∀ s : Int32, KT G q (d + 2) zk_X7_sourceOp 81 [(0, vr 100)] [vi s] x (ri F) := by
    intro c s
    have hs : ¬ x.1 23 (x.1 100 4).toNatClampNeg = 0 := by rw [c]; decide
    exact kg_X7_sourceOp_81 hq _ ⟨fun _ => ri_i (h _ (Or.inl rfl) (fun _ => hs)), fun _ => kp_sortBehind hq hB.1.1 ⟨fun _ => ri_i (h _ (Or.inr (Or.inr (Or.inr (Or.inr rfl)))) (fun _ => hs)), fun _ => ri_i (h _ (Or.inl rfl) (fun _ => hs))⟩⟩
  refine kg_X7_sourceOp_0 hq (kp_sort hq hB.1.1 ⟨fun c => ri_i (h _ (Or.inr (Or.inl rfl)) (fun _ => by rw [c]; decide)), fun c => ri_i (h _ (Or.inr (Or.inr (Or.inl rfl))) (fun _ => by rw [c]; decide)), fun c => ri_i (h _ (Or.inr (Or.inr (Or.inr (Or.inl rfl)))) (fun _ => by rw [c]; decide)), fun c => kp_sortBehind hq hB.1.1 ⟨fun _ => p81 c _, fun _ => kp_knownFrom hq hB.1.1.1 hK _ _ (by decide) ⟨hB.1.1.2.1, RB_lt hB.1.1 (by rw [c]; decide)⟩ (fun r _ => ⟨fun _ => p81 c _, fun _ => p81 c _⟩)⟩, fun _ => ri_i (h _ (Or.inr (Or.inr (Or.inr (Or.inr rfl)))) (fun q => absurd rfl q))⟩)
/-- a step that sets -/
theorem kb_233 (hq : kV q) (hB : BB x0 y M E0) (ha : 2 * ssm y ≤ nx y + 2) (o l a b i2 e1 f1 : Int32) (ho : o = 0 ∨ o = 1 ∨ o = 2 ∨ o = 3 ∨ o = 4 ∨ o = 16) (hb : o.toInt ≤ 4 → PLc y b) (ht : ¬ o = 1 → (0 ≤ a.toInt ∧ a.toInt < M) ∨ BU y) (h : ∀ z, BB x0 z M E0 → nx z = nx y → om z = om y → ssm z = ssm y + 1 → (∀ c k, c < 80 ∨ 89 < c → z.1 c k = y.1 c k) → Fv z) : KE G q (d + 7) zk_X7_source 233 [(0, vr 100), (1, vi l), (2, vi a), (6, vi b), (7, vi i2), (8, vi e1), (9, vi f1)] [vi o, vr 80] y (rv Fv) X := by
  obtain ⟨a1, a2, a3, a4, a5⟩ := BB_400 hB ha
  refine kg_X7_source_233 hq _ _ _ _ _ _ _ (kp_add hq _ _ _ a1 a2 (fun w hA vin => ⟨vin, fun x4 e4 => ⟨vin, fun x6 e6 => ⟨vin, fun x8 e8 => ⟨vin, fun x10 e10 => ⟨vin, fun z ez => rv_i ?_⟩⟩⟩⟩⟩))
  obtain ⟨f1, f2, f3, f4, f5⟩ := hA
  have fz : fm (fun c k => (81 ≤ c ∧ c ≤ 89 ∧ k = (y.1 80 9).toNatClampNeg) ∨ (c = 80 ∧ k = 9)) y z := by
    rw [ez, e10, e8, e6, e4]
    exact fm_si (fm_si (fm_si (fm_si (fm_si f1 (Or.inl ⟨by omega, by omega, rfl⟩)) (Or.inl ⟨by omega, by omega, rfl⟩)) (Or.inl ⟨by omega, by omega, rfl⟩)) (Or.inl ⟨by omega, by omega, rfl⟩)) (Or.inl ⟨by omega, by omega, rfl⟩)
  have es : ssm z = ssm y + 1 := by
    have : z.1 80 9 = w.1 80 9 := by rw [ez, e10, e8, e6, e4]; (simp only [si_get, sfl_get, Nat.reduceEqDiff, eq_self, and_false, false_and, and_true, true_and, if_true, if_false, reduceIte, reduceCtorEq])
    unfold ssm at *; rw [this]; exact f2
  have z81 : z.1 81 (y.1 80 9).toNatClampNeg = o := by rw [ez, e10, e8, e6, e4]; (simp only [si_get, sfl_get, Nat.reduceEqDiff, eq_self, and_false, false_and, and_true, true_and, if_true, if_false, reduceIte, reduceCtorEq]); exact f3
  have z83 : z.1 83 (y.1 80 9).toNatClampNeg = y.1 100 9 := by rw [ez, e10, e8, e6, e4]; (simp only [si_get, sfl_get, Nat.reduceEqDiff, eq_self, and_false, false_and, and_true, true_and, if_true, if_false, reduceIte, reduceCtorEq]); exact f4
  have z84 : z.1 84 (y.1 80 9).toNatClampNeg = a := by rw [ez, e10, e8, e6, e4]; (simp only [si_get, sfl_get, Nat.reduceEqDiff, eq_self, and_false, false_and, and_true, true_and, if_true, if_false, reduceIte, reduceCtorEq])
  have z85 : z.1 85 (y.1 80 9).toNatClampNeg = b := by rw [ez, e10, e8, e6, e4]; (simp only [si_get, sfl_get, Nat.reduceEqDiff, eq_self, and_false, false_and, and_true, true_and, if_true, if_false, reduceIte, reduceCtorEq])
  have e9 : nx z = nx y := by unfold nx; rw [fz 100 4 (by omega)]
  have e13 : om z = om y := by unfold om; rw [fz 100 13 (by omega)]
  have hoi : (0 ≤ o.toInt ∧ ¬ o.toInt = 15) ∧ ¬ o.toInt = 17 ∧ ¬ o.toInt = 20 ∧ (o.toInt ≤ 10 → o.toInt ≤ 4) := by rcases ho with rfl | rfl | rfl | rfl | rfl | rfl <;> decide
  have hSA : SA z M (y.1 80 9).toNatClampNeg := by
    unfold SA sop stg
    rw [z81, z83, z84, z85]
    refine ⟨hoi.1, ⟨a4, a5⟩, fun c => ?_, fun c => ?_⟩
    · obtain ⟨t, t1, t2, t3⟩ := hb (hoi.2.2.2 c)
      have := hoi.2.2.2 c
      exact ⟨t, t1, by omega, fun _ => by rw [fz 42 t (by omega)]; exact t3, fun c1 c2 => by omega, fun c1 => by omega⟩
    · have k1 : (1 : Int32).toInt = 1 := rfl
      rcases ht (fun e => by rw [e, k1] at c; omega) with g | g
      · exact Or.inl g
      · exact Or.inr (La_BU ⟨fun c k q1 q2 => fz c k (by omega), by omega, fun j _ => fz 42 j (by omega)⟩ g)
  have hBz := BB_add hB (n := (y.1 80 9).toNatClampNeg) (by omega) fz es hSA
  refine h z (BB_E hBz (fun e => e.elim id (fun e => by omega)) (fun i hi he hne => ?_)) e9 e13 es (fun c k hc => fz c k (by omega))
  rcases he with he | he
  · exact absurd he hne
  · rw [he]
    refine SC_no ?_ ?_ <;> (unfold sop; rw [z81]; omega)
theorem kb_source (hq : kV q) (hx : RX x0 X) (hB : BB x0 x M E0) (ho : om x ≤ 17) (ha : 2 * ssm x ≤ nx x + 1) (l a b : Int32) (hl : (a = -1 ∧ PLc x b) ∨ (¬ a = -1 ∧ 0 ≤ a.toInt ∧ a.toInt < M)) (h : ∀ y, BB x0 y M E0 → nx x < nx y → om y = om x → ssm y = ssm x + 1 → (y.1 100 9 = x.1 100 9 ∧ y.1 100 7 = x.1 100 7 ∧ y.1 60 13 = x.1 60 13 ∧ (∀ k, y.1 20 k = x.1 20 k)) → Fv y) : KE G q (d + 10) zk_X7_source 0 [(0, vr 100), (1, vi l), (2, vi a), (3, vi b)] [] x (rv Fv) X := by
  obtain ⟨o1, o2⟩ := BB_om hB
  have eD := o2 ho
  obtain ⟨D, hD⟩ : ∃ D, D = x.1 100 13 + 1 := ⟨_, rfl⟩
  rw [← hD] at eD
  have tail : ∀ (y : gd) (o b2 i2 e2 f2 : Int32), GS x y → BB x0 y M E0 → nx x < nx y → (o = 0 ∨ o = 1 ∨ o = 2 ∨ o = 3 ∨ o = 4 ∨ o = 16) → (o.toInt ≤ 4 → PLc y b2) → (¬ o = 1 → (0 ≤ a.toInt ∧ a.toInt < M) ∨ BU y) → KE G q (d + 10) zk_X7_source 233 [(0, vr 100), (1, vi l), (2, vi a), (6, vi b2), (7, vi i2), (8, vi e2), (9, vi f2)] [vi o, vr 80] y (rv Fv) X := by
    intro y o b2 i2 e2 f2 gy hBy ny h1 h2 h3
    have e1 := GS_sm gy
    exact kb_233 hq hBy (by omega) o l a b2 i2 e2 f2 h1 h2 h3 (fun z hBz nz oz sz fz => h z hBz (by omega) (by rw [oz, GS_om gy]) (by omega) ⟨by rw [fz _ _ (by omega), GS_at gy _ _ (by unfold sSum; omega)], by rw [fz _ _ (by omega), GS_at gy _ _ (by unfold sSum; omega)], by rw [fz _ _ (by omega), GS_at gy _ _ (by unfold sSum; omega)], fun k => by rw [fz _ _ (by omega), GS_at gy _ _ (by unfold sSum; omega)]⟩)
  -- from the first sum on
  have p211 : ∀ (y : gd) (o b2 i2 e2 f2 : Int32), GS x y → BB x0 y M E0 → nx x < nx y → (o = 0 ∨ o = 2 ∨ o = 3 ∨ o = 4 ∨ o = 16) → (¬ o = 16 → PLc y b2) → (o = 16 → b2 = b) → (¬ a = -1 ∨ o = 16 ∨ BU y) → KE G q (d + 10) zk_X7_source 211 [(0, vr 100), (1, vi l), (2, vi a), (5, vi o), (6, vi b2), (7, vi i2), (8, vi e2), (9, vi f2)] [] y (rv Fv) X := by
    intro y o b2 i2 e2 f2 gy hBy ny h1 h2 h3 h4
    have hat : ¬ a = -1 → (0 ≤ a.toInt ∧ a.toInt < M) := fun na => by
      rcases hl with ⟨e, -⟩ | ⟨-, e⟩
      · exact absurd e na
      · exact e
    refine kg_X7_source_211 hq _ _ _ _ _ _ _ ⟨fun c => tail y o b2 i2 e2 f2 gy hBy ny ?_ (fun _ => h2 c) (fun _ => ?_), fun c => ⟨fun c2 => tail y o b2 i2 e2 f2 gy hBy ny ?_ (fun c3 => ?_) (fun _ => Or.inl (hat c2)), fun c2 => tail y 1 b2 i2 e2 f2 gy hBy ny (by decide) (fun _ => ?_) (fun q => absurd rfl q)⟩⟩
    · rcases h1 with e | e | e | e | e
      · exact Or.inl e
      · exact Or.inr (Or.inr (Or.inl e))
      · exact Or.inr (Or.inr (Or.inr (Or.inl e)))
      · exact Or.inr (Or.inr (Or.inr (Or.inr (Or.inl e))))
      · exact absurd e c
    · rcases h4 with e | e | e
      · exact Or.inl (hat e)
      · exact absurd e c
      · exact Or.inr e
    · exact Or.inr (Or.inr (Or.inr (Or.inr (Or.inr c))))
    · rw [c] at c3; exact absurd c3 (by decide)
    · rw [h3 c]
      rcases hl with ⟨-, e⟩ | ⟨e, -⟩
      · exact PLc_La gy.1 e
      · exact absurd c2 e
  have p189 : ∀ (y : gd) (o b2 i2 e2 f2 : Int32), GS x y → BB x0 y M E0 → nx x < nx y → (o = 0 ∨ o = 2 ∨ o = 3 ∨ o = 4 ∨ o = 16) → (¬ o = 16 → PLc y b2) → (o = 16 → b2 = b) → (¬ a = -1 ∨ o = 16 ∨ BU y) → KE G q (d + 10) zk_X7_source 189 [(0, vr 100), (1, vi l), (2, vi a), (4, vi D), (5, vi o), (6, vi b2), (7, vi i2), (8, vi e2)] [vi f2] y (rv Fv) X := by
    intro y o b2 i2 e2 f2 gy hBy ny h1 h2 h3 h4
    refine kg_X7_source_189 hq _ _ _ _ _ _ _ _ ⟨fun _ => p211 y o b2 i2 e2 f2 gy hBy ny h1 h2 h3 h4, fun _ => kb_need hq hx hBy 28 (by decide) (fun _ z hBz nz gz => kb_sum hq hx hBz D (by omega) (by omega) (fun r w hBw nw gw => ?_))⟩
    have gg := GS_tr gz gw
    exact p211 w o b2 i2 r f2 (GS_tr gy gg) hBw (by omega) h1 (fun c => PLc_La gg.1 (h2 c)) h3 (h4.imp id (fun e => e.imp id (La_BU gg.1)))
  have p174 : ∀ (y : gd) (o b2 i2 e2 : Int32), GS x y → BB x0 y M E0 → (o = 0 → nx x < nx y) → (o = 0 ∨ o = 2 ∨ o = 3 ∨ o = 4 ∨ o = 16) → (¬ o = 16 → PLc y b2) → (o = 16 → b2 = b) → (¬ a = -1 ∨ o = 16 ∨ BU y) → KE G q (d + 10) zk_X7_source 174 [(0, vr 100), (1, vi l), (2, vi a), (4, vi D), (5, vi o), (6, vi b2), (7, vi i2), (8, vi e2)] [] y (rv Fv) X := by
    intro y o b2 i2 e2 gy hBy ny h1 h2 h3 h4
    have ln := gy.1.2.1
    refine kg_X7_source_174 hq _ _ _ _ _ _ _ ⟨fun _ => kb_sum hq hx hBy D (by omega) (by omega) (fun r w hBw nw gw => p189 w o b2 i2 e2 r (GS_tr gy gw) hBw (by omega) h1 (fun c => PLc_La gw.1 (h2 c)) h3 (h4.imp id (fun e => e.imp id (La_BU gw.1)))), fun c => p189 y o b2 i2 e2 _ gy hBy (ny c) h1 h2 h3 h4⟩
  have p163 : ∀ (y : gd) (o b2 i2 e2 : Int32), GS x y → BB x0 y M E0 → nx x < nx y → ¬ o = 16 → (o = 0 ∨ o = 2 ∨ o = 3 ∨ o = 4 ∨ o = 16) → PLc y b2 → (¬ a = -1 ∨ o = 16 ∨ BU y) → KE G q (d + 10) zk_X7_source 163 [(0, vr 100), (1, vi l), (2, vi a), (4, vi D), (5, vi o), (6, vi b2), (7, vi i2), (8, vi e2)] [] y (rv Fv) X := by
    intro y o b2 i2 e2 gy hBy ny h0 h1 h2 h4
    refine kg_X7_source_163 hq _ _ _ _ _ _ _ ⟨fun _ => p174 y o b2 i2 e2 gy hBy (fun _ => ny) h1 (fun _ => h2) (fun q => absurd q h0) h4, fun _ => kb_need hq hx hBy 28 (by decide) (fun _ z hBz nz gz => p174 z o b2 i2 e2 (GS_tr gy gz) hBz (fun _ => by omega) h1 (fun _ => PLc_La gz.1 h2) (fun q => absurd q h0) (h4.imp id (fun e => e.imp id (La_BU gz.1))))⟩
  -- the place
  have p132 : ∀ (y : gd) (o i2 e2 s9 s0 : Int32), GS x y → BB x0 y M E0 → (o = 0 ∨ o = 2 ∨ o = 3 ∨ o = 4) → (¬ s9 = 0 → y.1 23 ((y.1 100 4).toNatClampNeg + 1) = 25) → (¬ a = -1 ∨ BU y ∨ ¬ s0 = 0) → KE G q (d + 10) zk_X7_source 132 [(0, vr 100), (1, vi l), (2, vi a), (4, vi D), (5, vi o), (7, vi i2), (8, vi e2), (9, vi s9)] [vi s0, vi s9, vi 2, vr 100] y (rv Fv) X := by
    intro y o i2 e2 s9 s0 gy hBy h1 h25 h4
    have n16 : ¬ o = 16 := by rcases h1 with rfl | rfl | rfl | rfl <;> decide
    have h1' : o = 0 ∨ o = 2 ∨ o = 3 ∨ o = 4 ∨ o = 16 := h1.imp id (fun e => e.imp id (fun e => e.imp id Or.inl))
    have ln := gy.1.2.1
    have go : ∀ u : Int32, (u = 6 ∨ u = 7 ∨ u = 8 ∨ u = 9) → (¬ s0 = 0 → u = 8 ∨ u = 9) → KE G q (d + 9) zk_X7_needFor 0 [(0, vr 100), (1, vi 2), (2, vi u)] [] y (ri (fun r4 x3 => ((s9 = (0 : Int32) → KE G q (d + 10) zk_X7_source 163 [(0, vr 100), (1, vi l), (2, vi a), (4, vi D), (5, vi o), (6, vi r4), (7, vi i2), (8, vi e2)] [] x3 (rv Fv) X) ∧ (¬ (s9 = (0 : Int32)) → KE G q (d + 9) zk_X7_pass 0 [(0, vr 100)] [] x3 (rv (fun x6 => KE G q (d + 9) zk_X7_sum 0 [(0, vr 100), (1, vi D)] [] x6 (ri (fun r8 x7 => KE G q (d + 9) zk_X7_need 0 [(0, vr 100), (1, vi 26)] [] x7 (rv (fun x9 => KE G q (d + 10) zk_X7_source 163 [(0, vr 100), (1, vi l), (2, vi a), (4, vi D), (5, vi o), (6, vi r4), (7, vi r8), (8, vi e2)] [] x9 (rv Fv) X)) X)) X)) X)))) X := by
      intro u hu hu2
      refine kb_needFor hq hx hBy 2 u (by decide) (by rcases hu with rfl | rfl | rfl | rfl <;> decide) (fun cw z hBz nz gz eu ht => ?_)
      have eN := BB_N hBy
      have hpl : PLc z (y.1 100 4) := ⟨(y.1 100 4).toNatClampNeg, eN.symm, by omega, by rw [eu]; exact hu⟩
      have hbu : ¬ a = -1 ∨ o = 16 ∨ BU z := by
        rcases h4 with e | e | e
        · exact Or.inl e
        · exact Or.inr (Or.inr (La_BU gz.1 e))
        · refine Or.inr (Or.inr ⟨(y.1 100 4).toNatClampNeg, by omega, ?_⟩)
          rw [eu]
          rcases hu2 e with g | g
          · exact Or.inr (Or.inl g)
          · exact Or.inr (Or.inr (Or.inl g))
      refine ⟨fun _ => p163 z o _ i2 e2 (GS_tr gy gz) hBz (by omega) n16 h1' hpl hbu, fun c => ?_⟩
      have N1 : (z.1 100 4).toNatClampNeg = (y.1 100 4).toNatClampNeg + 1 := by
        have := BB_N hBz
        omega
      refine kb_pass hq hx hBz (by rw [N1, GS_at gz _ _ (by unfold sSum; omega), h25 c]; decide) (fun w hBw nw gw => kb_sum hq hx hBw D (by omega) (by omega) (fun r v hBv nv gv => kb_need hq hx hBv 26 (by decide) (fun _ t hBt nt gt => ?_)))
      have gg := GS_tr (GS_tr gw gv) gt
      exact p163 t o _ r e2 (GS_tr (GS_tr gy gz) gg) hBt (by omega) n16 h1' (PLc_La gg.1 hpl) (hbu.imp id (fun e => e.imp id (La_BU gg.1)))
    refine kg_X7_source_132 hq _ _ _ _ _ _ _ _ _ _ (kg_X7_useOfCell_0 hq _ _ ⟨fun _ => ⟨fun c => ri_i (go _ (Or.inl rfl) (fun q => absurd c q)), fun _ => ri_i (go _ (Or.inr (Or.inr (Or.inl rfl))) (fun _ => Or.inl rfl))⟩, fun _ => ⟨fun c => ri_i (go _ (Or.inr (Or.inl rfl)) (fun q => absurd c q)), fun _ => ri_i (go _ (Or.inr (Or.inr (Or.inr rfl))) (fun _ => Or.inr rfl))⟩⟩)
  have p113 : ∀ (y : gd) (o i2 e2 s9 : Int32), GS x y → BB x0 y M E0 → (o = 0 ∨ o = 2 ∨ o = 3 ∨ o = 4) → (¬ s9 = 0 → y.1 23 ((y.1 100 4).toNatClampNeg + 1) = 25) → (¬ a = -1 ∨ BU y ∨ o = 0) → KE G q (d + 10) zk_X7_source 113 [(0, vr 100), (1, vi l), (2, vi a), (4, vi D), (5, vi o), (7, vi i2), (8, vi e2), (9, vi s9)] [] y (rv Fv) X := by
    intro y o i2 e2 s9 gy hBy h1 h25 h4
    refine kg_X7_source_113 hq _ _ _ _ _ _ _ ⟨fun c => p132 y o i2 e2 s9 0 gy hBy h1 h25 ?_, fun c => ⟨fun c2 => p132 y o i2 e2 s9 0 gy hBy h1 h25 (Or.inl c2), fun c2 => p132 y o i2 e2 s9 1 gy hBy h1 h25 (Or.inr (Or.inr (by decide)))⟩⟩
    rcases h4 with e | e | e
    · exact Or.inl e
    · exact Or.inr (Or.inl e)
    · exact absurd e c
  have p89 : ∀ (y : gd) (o i2 e2 s9 : Int32), GS x y → BB x0 y M E0 → (o = 0 ∨ o = 2 ∨ o = 3 ∨ o = 4) → (¬ s9 = 0 → y.1 23 ((y.1 100 4).toNatClampNeg + 1) = 25) → (¬ a = -1 ∨ BU y ∨ o = 0) → KE G q (d + 10) zk_X7_source 89 [(0, vr 100), (1, vi l), (2, vi a), (4, vi D), (5, vi o), (7, vi i2), (8, vi e2)] [vi s9] y (rv Fv) X := fun y o i2 e2 s9 gy hBy h1 h25 h4 => kg_X7_source_89 hq _ _ _ _ _ _ _ ⟨fun _ => p113 y o i2 e2 s9 gy hBy h1 h25 h4, fun _ => ⟨fun _ => p113 y o i2 e2 s9 gy hBy h1 h25 h4, fun _ => ⟨fun _ => p113 y o i2 e2 s9 gy hBy h1 h25 h4, fun _ => kb_refuse hq hx hBy _⟩⟩⟩
  have p68 : ∀ (y : gd) (o i2 e2 : Int32), GS x y → BB x0 y M E0 → (o = 0 ∨ o = 2 ∨ o = 3 ∨ o = 4 ∨ o = 16) → (¬ a = -1 ∨ BU y ∨ o = 0 ∨ o = 16) → KE G q (d + 10) zk_X7_source 68 [(0, vr 100), (1, vi l), (2, vi a), (4, vi D), (5, vi o), (6, vi b), (7, vi i2), (8, vi e2)] [] y (rv Fv) X := by
    intro y o i2 e2 gy hBy h1 h4
    refine kg_X7_source_68 hq _ _ _ _ _ _ _ ⟨fun c => p174 y o b i2 e2 gy hBy (fun c0 => by rw [c] at c0; exact absurd c0 (by decide)) h1 (fun q => absurd c q) (fun _ => rfl) (Or.inr (Or.inl c)), fun c => ?_⟩
    have h1' : o = 0 ∨ o = 2 ∨ o = 3 ∨ o = 4 := by
      rcases h1 with e | e | e | e | e
      · exact Or.inl e
      · exact Or.inr (Or.inl e)
      · exact Or.inr (Or.inr (Or.inl e))
      · exact Or.inr (Or.inr (Or.inr e))
      · exact absurd e c
    have h4' : ¬ a = -1 ∨ BU y ∨ o = 0 := by
      rcases h4 with e | e | e | e
      · exact Or.inl e
      · exact Or.inr (Or.inl e)
      · exact Or.inr (Or.inr e)
      · exact absurd e c
    exact kp_sortBehind hq hBy.1.1 ⟨fun c25 => p89 y o i2 e2 0 gy hBy h1' (fun q => absurd rfl q) h4', fun c25 => p89 y o i2 e2 1 gy hBy h1' (fun _ => c25) h4'⟩
  have p41 : ∀ (o i2 e2 : Int32), (o = 2 ∨ o = 3 ∨ o = 4) → ¬ x.1 23 (x.1 100 4).toNatClampNeg = 0 → KE G q (d + 10) zk_X7_source 41 [(0, vr 100), (1, vi l), (2, vi a), (4, vi D), (5, vi o), (6, vi b), (7, vi i2), (8, vi e2)] [] x (rv Fv) X := by
    intro o i2 e2 h1 hs
    have h1' : o = 0 ∨ o = 2 ∨ o = 3 ∨ o = 4 ∨ o = 16 := Or.inr (h1.imp id (fun e => e.imp id Or.inl))
    have p63 : ∀ u : Int32, ((u = 0 ∧ ¬ a = -1) ∨ u = 10) → KE G q (d + 10) zk_X7_source 63 [(0, vr 100), (1, vi l), (2, vi a), (4, vi D), (5, vi o), (6, vi b), (7, vi i2), (8, vi e2)] [vi u, vi (x.1 100 4), vr 42] x (rv Fv) X := by
      intro u hu
      refine kg_X7_source_63 hq _ _ _ _ _ _ _ _ _ ⟨RB_at hB.1.1, fun x2 ex2 => ?_⟩
      have f2 : fm (fun c k => c = 42 ∧ k = (x.1 100 4).toNatClampNeg) x x2 := by rw [ex2]; exact fm_si (fm_rf _ _) ⟨rfl, rfl⟩
      have u2 : x2.1 42 (x.1 100 4).toNatClampNeg = u := by rw [ex2]; (simp only [si_get, sfl_get, Nat.reduceEqDiff, eq_self, and_false, false_and, and_true, true_and, if_true, if_false, reduceIte, reduceCtorEq])
      have q4 : x2.1 100 4 = x.1 100 4 := f2 _ _ (by omega)
      have eN := BB_N hB
      have n2 : nx x2 = nx x := by unfold nx; rw [q4]
      have la2 : La x x2 := ⟨fun c k q1 q2 => f2 c k (by omega), by omega, fun j hj => f2 42 j (by omega)⟩
      have S2 : SU x2 := by
        obtain ⟨⟨hT, b1, b2, b3⟩, ⟨u1, u2⟩, hp, hP⟩ := hB.1
        unfold SU SV US RB mt
        rw [f2 20 7 (by omega), f2 60 3 (by omega), n2]
        refine ⟨⟨kT_fm hT la2.1, b1, b2, b3⟩, ⟨fun j h1 h2 => ?_, fun j h1 h2 => ?_⟩, hp, fun i hi => La_PQ la2 (f2 _ _ (by omega)) (f2 _ _ (by omega)) (hP i hi)⟩
        · rw [f2 42 j (by omega)]; exact u1 j h1 h2
        · rw [f2 42 j (by omega)] at h2; rw [f2 42 _ (by omega)]; exact u2 j h1 h2
      have z2 : fm sR x0 x2 := fm_tr hB.2.2.2.2.2.1 (fm_w f2 (fun c k q => by unfold sR; omega))
      refine kp_pass hq z2 hx S2 (by rw [q4, f2 23 _ (by omega)]; exact hs) (by rw [q4, u2]; rcases hu with ⟨rfl, -⟩ | rfl <;> decide) (fun y f n S fr la _ => ?_)
      have g : GS x y := ⟨La_tr la2 la, fm_tr (fm_w f2 (fun c k q => by unfold sSum; omega)) (fm_w f (fun c k q => by unfold sSum; omega))⟩
      have SUy : SU y := by unfold SU; rw [f 60 3 (by omega)]; exact S
      refine p68 y o i2 e2 g (BB_on hB SUy fr g) h1' ?_
      rcases hu with ⟨-, e⟩ | e
      · exact Or.inl e
      · refine Or.inr (Or.inl ⟨(x.1 100 4).toNatClampNeg, by omega, ?_⟩)
        rw [f 42 _ (by omega), u2, e]
        decide
    exact kg_X7_source_41 hq _ _ _ _ _ _ _ ⟨fun c => p63 _ (Or.inl ⟨rfl, c⟩), fun _ => p63 _ (Or.inr rfl)⟩
  refine kg_X7_source_0 hq _ _ _ (kb_sourceOp hq hB (fun r hr hr2 => ?_))
  rw [← hD]
  refine ⟨fun c => p41 r _ _ (Or.inl c) (hr2 (by rw [c]; decide)), fun c2 => ⟨fun c => p41 r _ _ (Or.inr (Or.inl c)) (hr2 (by rw [c]; decide)), fun c3 => ⟨fun c4 => p68 x r _ _ GS_rf hB hr ?_, fun c => p41 r _ _ (Or.inr (Or.inr c)) (hr2 (by rw [c]; decide))⟩⟩⟩
  rcases hr with e | e | e | e | e
  · exact Or.inr (Or.inr (Or.inl e))
  · exact absurd e c2
  · exact absurd e c3
  · exact absurd e c4
  · exact Or.inr (Or.inr (Or.inr e))
end KSR
