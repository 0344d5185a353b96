/-! the class: a choice is performed -/
section KPF
variable {G : kG} {q : kP} {d : Nat} {x x0 y z : gd} {o : Nat} {F : Int32 → gd → Prop} {Fv : gd → Prop}
abbrev S346 : Nat → Prop := fun k => k = 2 ∨ k = 3 ∨ k = 4 ∨ k = 6
theorem ka_access (hq : kV q) (ho : kiM q o) (h : MM x o) {T : Nat} (t p : Int32) (et : t.toInt = T) (hT : (T : Int) < (x.1 60 10).toInt) (hp : p.toInt = sop x (rg x o T 2).toInt.toNat) (hp4 : p.toInt ≤ 4) (hF : ∀ r y, AR S346 x y o → rg y o T 3 = rg x o T 3 → (r = 0 → 0 ≤ (y.1 (o + 20) 2).toInt ∧ (y.1 (o + 20) 2).toInt < (x.1 60 6).toInt) → F r y) : KT G q (d + 3) zk_X5_doAccess 0 [(0, vr o), (1, vi t), (2, vi (rg x o T 2)), (3, vi p)] [] x (ri F) := by
  have hO := kiM_O ho
  have hT6 := MM_6 h.1 hT
  have hA := (h.2.2 T hT).1
  obtain ⟨v, e, l⟩ := MM_st h.1 hA
  obtain ⟨b1, b2, b3, b4, b5, b6, b7⟩ := MG_b h.1 h.2.1
  have c24 := h.1.1.1
  have m8 := h.1.1.2.2.2.1
  have k8 : (8 : Int32).toInt = 8 := rfl
  obtain ⟨st, est⟩ : ∃ st, st = (rg x o T 2).toInt.toNat := ⟨_, rfl⟩
  rw [← est] at l hp
  have est2 : (rg x o T 2).toInt = st := by have := hA.1.1; omega
  have eN : (rg x o T 2).toNatClampNeg = st := by rw [t_cl, est2]; rfl
  have hcs := (h.1.2.2.2.1 _ l).2
  refine kg_X5_doAccess_0 hq ho _ _ _ (kp_placeOf hq ho h.1 h.2.1 _ et hT6 hA (by rw [← est]; omega) (fun c y fy hc x3 e3 => ?_))
  have fM := fm_w fy (fun c k q => sLk_M q)
  have hy : AR S346 x y o := ⟨MM_Lk hO fy h, fM, fun t k _ => rg_Lk hO fy t k, fun k _ => fy _ _ (by unfold sLk; omega)⟩
  obtain ⟨h3, r3⟩ := AR_deed (S := S346) hO hy.1 (Or.inl rfl) e3
  have hh := AR_tr hy h3
  have rr : ∀ t k, rg x3 o t k = rg x o t k := fun t k => by rw [r3, rg_Lk hO fy]
  have d2 : x3.1 (o + 20) 2 = c := by rw [e3, si_get, if_pos ⟨rfl, rfl⟩]
  refine ⟨fun cn => ?_, fun cn => ?_⟩
  · have hcc : 0 ≤ c.toInt ∧ c.toInt < (x.1 60 6).toInt := by
      rcases hc with ⟨g, -⟩ | g
      · exact absurd g cn
      · exact g
    have hA3 : TA x3 o T := (hh.1.2.2 T (by rw [(AR_9 hO hh).2.1]; exact hT)).1
    refine kp_seenBy hq ho h3.1.1 h3.1.2.1 _ _ et hT6 hA3 (by omega) (fun r6 => ⟨fun np0 => ⟨v, kp_localsAt hq ho h3.1.1 h3.1.2.1 _ et hT6 (fun r10 r0 r4 => kp_work hq h3.1.1 (kk_M5 ho) (kl_M5 hq ho) _ _ _ r0 r4 (fun r12 w fw => ?_))⟩, fun p0 z ez => ⟨v, ?_⟩⟩)
    · obtain ⟨hw, rw9⟩ := AR_wk (S := fun _ => False) hO h3.1 fw
      have hxw : AR S346 x w o := AR_tr hh (AR_w hw (fun _ q => absurd q (fun e => e)))
      have w2 : w.1 (o + 20) 2 = c := by rw [hw.2.2.2 2 (fun e => e)]; exact d2
      have w10 : w.1 60 10 = x.1 60 10 := (AR_9 hO hxw).2.1
      have w6 : w.1 60 6 = x.1 60 6 := (AR_9 hO hxw).2.2
      have ws : ssm w = ssm x := by unfold ssm; rw [hxw.2.1 80 9 (by unfold sMk; omega)]
      have w3 : rg w o T 3 = rg x o T 3 := by rw [rw9, rr]
      have fin : ∀ (S : Nat → Prop) (r : Int32) (u : gd), (∀ k, S k → k = 3 ∨ k = 4) → AR S w u o → rg u o T 3 = rg w o T 3 → ri F (some (vi r)) u := fun S r u hS hu u3 => ri_i (hF r u (AR_tr hxw (AR_w hu (fun k hk => by have := hS k hk; show k = 2 ∨ k = 3 ∨ k = 4 ∨ k = 6; omega))) (by rw [u3]; exact w3) (fun _ => by rw [hu.2.2.2 2 (fun q => by have := hS 2 q; omega), w2]; exact hcc))
      refine ⟨fun _ => ⟨fun np1 => ?_, fun p1 => ?_⟩, fun _ => fin (fun _ => False) _ w (fun _ q => absurd q (fun e => e)) (AR_rf hw.1) rfl⟩
      · have hop2 : 2 ≤ sop x st ∧ sop x st ≤ 4 := by
          rw [t_eq] at np0 np1
          have k0 : (0 : Int32).toInt = 0 := rfl
          have k1 : (1 : Int32).toInt = 1 := rfl
          rw [k0] at np0
          rw [k1] at np1
          have := hcs.1
          omega
        have htg := hcs.2.2.1 (Or.inr (Or.inl hop2))
        refine ka_exchange (S := fun k => k = 3 ∨ k = 4) (Or.inl rfl) (Or.inr rfl) hq ho hw.1 _ _ _ _ et (by rw [w10]; exact hT) est2 (by rw [ws]; exact l) (by unfold stg at *; rw [hxw.2.1 84 st (by unfold sMk; omega), hxw.2.1 60 13 (by unfold sMk; omega)]; exact htg) (by rw [w6]; exact hcc) (fun r u hu u3 => fin _ r u (fun _ q => q) hu u3)
      · exact ka_write (S := fun k => k = 3 ∨ k = 4) (Or.inr rfl) hq ho hw.1 _ _ _ _ et (by rw [w10]; exact hT) est2 (by rw [ws]; exact l) (by rw [w6]; exact hcc) (fun r u hu u3 => fin _ r u (fun _ q => q) hu u3)
    · obtain ⟨hz, rz⟩ := AR_deed (S := fun k => k = 3) hO h3.1 rfl ez
      have hxz : AR S346 x z o := AR_tr hh (AR_w hz (fun k q => Or.inr (Or.inl q)))
      rw [eN, hxz.2.1 84 st (by unfold sMk; omega)]
      have k0 : (0 : Int32).toInt = 0 := rfl
      rw [p0, k0] at hp
      obtain ⟨t1, t2⟩ := hcs.2.2.1 (Or.inl hp.symm)
      have e8 : (8 + x.1 84 st).toInt = ((8 + (stg x st).toNat : Nat) : Int) := by rw [t_add (by rw [k8]; unfold stg at *; omega) (by rw [k8]; unfold stg at *; omega), k8]; unfold stg at *; omega
      refine ka_set (S := fun _ => False) hq ho hz.1 _ _ _ et e8 hT6 (by rw [(AR_9 hO hxz).1]; omega) (by omega) (fun q => by omega) (fun u hu gu => ri_i (hF _ u (AR_tr hxz (AR_w hu (fun _ q => absurd q (fun e => e)))) ?_ (fun _ => ?_)))
      · rw [gu 3 (by omega), if_neg (by omega), rz, rr]
      · rw [hu.2.2.2 2 (fun e => e), hz.2.2.2 2 (by decide), d2]; exact hcc
  · refine ri_i (hF _ x3 hh (rr T 3) (fun c0 => ?_))
    exfalso
    rcases hc with ⟨-, g⟩ | g
    · rw [e3, si_cell (by omega)] at c0; exact g c0
    · rw [cn, tm1] at g; omega
theorem ka_act (hq : kV q) (ho : kiM q o) (h : MM x o) {T : Nat} (t p w : Int32) (et : t.toInt = T) (hT : (T : Int) < (x.1 60 10).toInt) (hg : rg x o T 0 = 1) (hp : (rg x o T 3 = 0 ∧ p = x.1 81 (rg x o T 2).toInt.toNat) ∨ (¬ rg x o T 3 = 0 ∧ p = 15)) (hF : ∀ r y, AR S346 x y o → (r = 0 → (¬ p = 7 → rg y o T 3 = 0) ∧ (p.toInt ≤ 4 → 0 ≤ (y.1 (o + 20) 2).toInt ∧ (y.1 (o + 20) 2).toInt < (x.1 60 6).toInt) ∧ (¬ p.toInt ≤ 4 → y.1 (o + 20) 2 = x.1 (o + 20) 2) ∧ (p = 9 → y = x ∧ rg x o (x.1 85 (rg x o T 2).toInt.toNat).toInt.toNat 0 = 0)) → F r y) : KT G q (d + 4) zk_X5_actFailure 0 [(0, vr o), (1, vi t), (2, vi (rg x o T 2)), (3, vi p), (4, vi w)] [] x (ri F) := by
  have hO := kiM_O ho
  have hT6 := MM_6 h.1 hT
  have hA := (h.2.2 T hT).1
  have hgo := (h.2.2 T hT).2 hg
  obtain ⟨v, e, l⟩ := MM_st h.1 hA
  have hcs := h.1.2.2.2.1 _ l
  have t6 := h.1.1.2.2.1
  obtain ⟨st, est⟩ : ∃ st, st = (rg x o T 2).toInt.toNat := ⟨_, rfl⟩
  rw [← est] at l hp hF hgo hcs
  have est2 : (rg x o T 2).toInt = st := by have := hA.1.1; omega
  have eN : (rg x o T 2).toNatClampNeg = st := by rw [t_cl, est2]; rfl
  -- the act's sort is the step's own, but for a retake
  have own : ¬ p = 15 → rg x o T 3 = 0 ∧ p.toInt = sop x st := fun n15 => by
    rcases hp with ⟨g1, g2⟩ | ⟨-, g2⟩
    · exact ⟨g1, by rw [g2]⟩
    · exact absurd g2 n15
  have lock : ∀ k : Int32, 5 ≤ k.toInt → k.toInt ≤ 8 → ¬ k = 15 → p = k → 0 ≤ (x.1 85 st).toInt ∧ (x.1 85 st).toInt < (x.1 60 9).toInt := fun k k5 k8 n15 ek => by
    obtain ⟨-, g⟩ := own (by rw [ek]; exact n15)
    rw [ek] at g
    exact hcs.1.2.1 (by omega) (by omega)
  have fin : ∀ (r : Int32) (y : gd), AR (fun k => k = 4 ∨ k = 6) x y o → (¬ p = 7 → rg y o T 3 = 0) → ¬ p.toInt ≤ 4 → (p = 9 → r = 0 → y = x ∧ rg x o (x.1 85 st).toInt.toNat 0 = 0) → ri F (some (vi r)) y := fun r y hy y3 n4 h9 => ri_i (hF r y (AR_w hy (fun k hk => by show k = 2 ∨ k = 3 ∨ k = 4 ∨ k = 6; omega)) (fun r0 => ⟨y3, fun c => absurd c n4, fun _ => hy.2.2.2 2 (by decide), fun c9 => h9 c9 r0⟩))
  refine kg_X5_actFailure_0 hq ho _ _ _ _ ⟨v, ?_⟩
  rw [eN]
  refine ⟨fun c => ?_, fun c => ?_, fun c => ?_, fun c => ?_, fun c => ?_, fun c => ⟨v, fun _ => ?_, fun _ => ?_⟩, fun c => ?_, fun c => ?_, fun c => ?_⟩
  · -- an access
    have c4 : ¬ p = 15 ∧ p.toInt ≤ 4 ∧ ¬ p = 7 ∧ ¬ p = 9 := by rcases c with rfl | rfl | rfl | rfl | rfl <;> decide
    obtain ⟨w3, pe⟩ := own c4.1
    exact ka_access hq ho h _ _ et hT (by rw [← est]; exact pe) c4.2.1 (fun r y hy y3 hr => ri_i (hF r y hy (fun r0 => ⟨fun _ => by rw [y3]; exact w3, fun _ => hr r0, fun n => absurd c4.2.1 n, fun c9 => absurd c9 c4.2.2.2⟩)))
  · -- take
    have hl := lock 5 (by decide) (by decide) (by decide) c
    exact kp_often hq ho h.1 h.2.1 _ hl.1 hl.2 (fun r7 => ka_setLock hq ho h _ _ _ hl (fun y hy ry => fin _ y hy (fun _ => by rw [ry]; exact (own (by rw [c]; decide)).1) (by rw [c]; decide) (fun c9 => by rw [c] at c9; exact absurd c9 (by decide))))
  · -- give
    have hl := lock 6 (by decide) (by decide) (by decide) c
    exact ka_doGive hq ho h _ _ hl (fun r y hy ry => fin _ y hy (fun _ => by rw [ry]; exact (own (by rw [c]; decide)).1) (by rw [c]; decide) (fun c9 => by rw [c] at c9; exact absurd c9 (by decide)))
  · -- wait
    have hl := lock 7 (by decide) (by decide) (by decide) c
    have k7 : (7 : Int32).toInt = 7 := rfl
    have h7 := (own (by rw [c]; decide)).2
    rw [c, k7] at h7
    exact ka_doWait hq ho h _ _ et hT6 ⟨hg, by rw [← est]; exact h7.symm⟩ hl (fun r y hy => fin _ y hy (fun n => absurd c n) (by rw [c]; decide) (fun c9 => by rw [c] at c9; exact absurd c9 (by decide)))
  · -- retake
    have h7 : sop x st = 7 := by
      rcases hp with ⟨g1, g2⟩ | ⟨g1, -⟩
      · exfalso
        have k15 : (15 : Int32).toInt = 15 := rfl
        refine hcs.2.1.2 ?_
        unfold sop
        rw [← g2, c]; rfl
      · exact hgo.2 g1
    have hl := hcs.1.2.1 (by omega) (by omega)
    exact ka_doRetake hq ho h _ _ et hT6 hl (fun r y hy y3 => fin _ y hy (fun _ => y3) (by rw [c]; decide) (fun c9 => by rw [c] at c9; exact absurd c9 (by decide)))
  · -- wake
    have hl := lock 8 (by decide) (by decide) (by decide) c
    exact kg_X5_actFailure_163 hq ho _ _ _ _ (ka_doWake (S := fun k => k = 4 ∨ k = 6) (Or.inr rfl) hq ho h (T := T) _ _ _ _ hT6 hl (fun r y hy y3 => fin _ y hy (fun _ => by rw [y3]; exact (own (by rw [c]; decide)).1) (by rw [c]; decide) (fun c9 => by rw [c] at c9; exact absurd c9 (by decide))))
  · have hl := lock 8 (by decide) (by decide) (by decide) c
    exact kg_X5_actFailure_163 hq ho _ _ _ _ (ka_doWake (S := fun k => k = 4 ∨ k = 6) (Or.inr rfl) hq ho h (T := T) _ _ _ _ hT6 hl (fun r y hy y3 => fin _ y hy (fun _ => by rw [y3]; exact (own (by rw [c]; decide)).1) (by rw [c]; decide) (fun c9 => by rw [c] at c9; exact absurd c9 (by decide))))
  · -- start
    have h9 := (own (by rw [c]; decide))
    have k9 : (9 : Int32).toInt = 9 := rfl
    rw [c, k9] at h9
    obtain ⟨u0, u1⟩ := hcs.1.2.2 (by omega) (by omega)
    refine kp_get hq ho h.1 h.2.1 _ _ (show (x.1 85 st).toInt = (((x.1 85 st).toInt.toNat : Nat) : Int) by omega) (show (0 : Int32).toInt = ((0 : Nat) : Int) from rfl) (by omega) (by omega) ⟨fun _ => fin _ x (AR_rf h) (fun _ => h9.1) (by rw [c]; decide) (fun _ c0 => absurd c0 (by decide)), fun c0 => fin _ x (AR_rf h) (fun _ => h9.1) (by rw [c]; decide) (fun _ _ => ⟨rfl, c0⟩)⟩
  · -- call, back
    have cc : ¬ p = 15 ∧ ¬ p.toInt ≤ 4 ∧ ¬ p = 9 := by rcases c with rfl | rfl <;> decide
    exact ka_call (S := fun k => k = 4 ∨ k = 6) (Or.inl rfl) hq ho h _ _ _ et hT6 v (fun r y hy y3 => fin _ y hy (fun _ => by rw [y3]; exact (own cc.1).1) cc.2.1 (fun c9 => absurd c9 cc.2.2))
  · -- the others
    have n15 := c 15 (by decide)
    refine fin _ x (AR_rf h) (fun _ => (own n15).1) (fun c4 => ?_) (fun c9 => absurd c9 (c 9 (by decide)))
    have pe := (own n15).2
    have p0 := hcs.2.1
    have n0 := c 0 (by decide)
    have n1 := c 1 (by decide)
    have n2 := c 2 (by decide)
    have n3 := c 3 (by decide)
    have n4 := c 4 (by decide)
    clear hF fin lock own c
    ((try simp only [t_lt, t_le, t_eq, t_cl, tm1, vp_in_iff, Int32.toInt_add, Int32.toInt_sub, Int32.toInt_mul, Int32.reduceToInt, Nat.reducePow] at *) <;> (try simp (disch := omega) only [bm] at *) <;> omega)
/-- the deed that was done -/
def DE (y : gd) (o : Nat) : Prop := gbool (y.1 (o + 20) 5) ∧ (y.1 (o + 20) 0 = -1 ∨ ((0 ≤ (y.1 (o + 20) 0).toInt ∧ (y.1 (o + 20) 0).toInt < (y.1 60 10).toInt) ∧ 0 ≤ (y.1 (o + 20) 1).toInt ∧ (y.1 (o + 20) 5 = 0 → ((y.1 (o + 20) 1).toInt ≤ 4 → 0 ≤ (y.1 (o + 20) 2).toInt ∧ (y.1 (o + 20) 2).toInt < (y.1 60 6).toInt) ∧ ((5 ≤ (y.1 (o + 20) 1).toInt ∧ (y.1 (o + 20) 1).toInt ≤ 8) ∨ (y.1 (o + 20) 1).toInt = 15 → 0 ≤ (y.1 (o + 20) 2).toInt ∧ (y.1 (o + 20) 2).toInt < (y.1 60 9).toInt) ∧ ((y.1 (o + 20) 1).toInt = 9 ∨ (y.1 (o + 20) 1).toInt = 10 → 0 ≤ (y.1 (o + 20) 2).toInt ∧ (y.1 (o + 20) 2).toInt < (y.1 60 10).toInt))))
/-- the choices that are listed -/
def LSk (x : gd) (o : Nat) : Prop := (0 ≤ (x.1 o 13).toInt ∧ (x.1 o 13).toInt ≤ 84) ∧ ∀ i : Nat, (i : Int) < (x.1 o 13).toInt → ∃ T : Nat, (x.1 (o + 11) i).toInt = T ∧ (T : Int) < (x.1 60 10).toInt ∧ ((x.1 (o + 12) i = -1 ∧ rg x o T 0 = 1) ∨ ∃ J : Nat, (x.1 (o + 12) i).toInt = J ∧ (J : Int) < (rg x o T 7).toInt)
theorem kp_deedClear (hq : kV q) (hd : kiD q o) (a b c : Int32) (h : ∀ y, fm (fun c k => c = o) x y → y.1 o 0 = a → y.1 o 1 = b → y.1 o 2 = c → y.1 o 5 = 0 → Fv y) : KT G q d zk_X1_clear 0 [(0, vr o), (1, vi a), (2, vi b), (3, vi c)] [] x (rv Fv) := by
  refine kg_X1_clear_0 hq hd _ _ _ (fun x1 e1 x2 e2 x3 e3 x4 e4 x5 e5 x6 e6 z ez => rv_i (h z ?_ ?_ ?_ ?_ ?_))
  · rw [ez, e6, e5, e4, e3, e2, e1]; exact fm_si (fm_si (fm_si (fm_si (fm_si (fm_si (fm_si (fm_rf _ _) rfl) rfl) rfl) rfl) rfl) rfl) rfl
  all_goals (rw [ez, e6, e5, e4, e3, e2, e1]; (simp only [si_get, sfl_get, Nat.reduceEqDiff, eq_self, and_false, false_and, and_true, true_and, if_true, if_false, reduceIte, reduceCtorEq]))
theorem MM_dc (hO : o = 120 ∨ o = 220) (h : MM x o) (f : fm (fun c k => c = o + 20) x y) : MM y o ∧ fm (sMk o) x y ∧ ∀ t k, rg y o t k = rg x o t k := by
  have fM : fm (sMk o) x y := fm_w f (fun c j q => by unfold sMk; omega)
  have r : ∀ t j, rg y o t j = rg x o t j := fun t j => rg_eq hO (fm_w f (fun c j q => by omega)) t j
  exact ⟨MM_low hO h fM r, fM, r⟩
theorem km_perform (hq : kV q) (ho : kiM q o) (h : MM x o) (hL : LSk x o) (i : Int32) {I : Nat} (ei : i.toInt = I) (hi : (I : Int) < (x.1 o 13).toInt) (hF : ∀ y, MM y o → fm (sMk o) x y → DE y o → Fv y) : KT G q (d + 5) zk_X5_perform 0 [(0, vr o), (1, vi i)] [] x (rv Fv) := by
  have hO := kiM_O ho
  obtain ⟨L84, hLi⟩ := hL
  obtain ⟨T, eT, hT, hcase⟩ := hLi I hi
  have eN : i.toNatClampNeg = I := by rw [t_cl, ei]; rfl
  have vi9 : vp_in i 84 := by rw [vp_in_iff]; omega
  have hT6 := MM_6 h.1 hT
  have hA := (h.2.2 T hT).1
  obtain ⟨b1, b2, b3, b4, b5, b6, b7⟩ := MG_b h.1 h.2.1
  have c24 := h.1.1.1
  have t6 := h.1.1.2.2.1
  refine kg_X5_perform_0 hq ho _ ⟨vi9, vi9, ?_⟩
  rw [eN]
  refine ⟨fun c => ?_, fun c => ?_⟩
  · -- an act
    have hg : rg x o T 0 = 1 := by
      rcases hcase with ⟨-, g⟩ | ⟨J, g, -⟩
      · exact g
      · rw [c, tm1] at g; omega
    have hgo := (h.2.2 T hT).2 hg
    obtain ⟨v, e, l⟩ := MM_st h.1 hA
    have hcs := h.1.2.2.2.1 _ l
    have est2 : (rg x o T 2).toInt = (((rg x o T 2).toInt.toNat : Nat) : Int) := by have := hA.1.1; omega
    have go : ∀ p : Int32, ((rg x o T 3 = 0 ∧ p = x.1 81 (rg x o T 2).toInt.toNat) ∨ (¬ rg x o T 3 = 0 ∧ p = 15)) → KT G q (d + 4) zk_X5_get 0 [(0, vr o), (1, vi (x.1 (o + 11) I)), (2, vi 2)] [] x (ri (fun r7 x6 => vp_in r7 400 ∧ KT G q (d + 4) zk_X1_clear 0 [(0, vr (o + 20)), (1, vi (x.1 (o + 11) I)), (2, vi p), (3, vi (x6.1 85 (r7 : Int32).toNatClampNeg))] [] x6 (rv (fun x9 => vp_in i 84 ∧ KT G q (d + 4) zk_X5_actFailure 0 [(0, vr o), (1, vi (x.1 (o + 11) I)), (2, vi r7), (3, vi p), (4, vi (x9.1 (o + 13) I))] [] x9 (ri (fun r12 x11 => ((r12 = (0 : Int32) → ((¬ (p = (9 : Int32)) → KT G q (d + 5) zk_X5_perform 129 [(0, vr o), (2, vi (x.1 (o + 11) I)), (3, vi p), (4, vi r7)] [] x11 (rv Fv)) ∧ (p = (9 : Int32) → vp_in r7 400 ∧ KT G q (d + 4) zk_X5_rouse 0 [(0, vr o), (1, vi (x11.1 85 (r7 : Int32).toNatClampNeg))] [] x11 (rv (fun x16 => KT G q (d + 5) zk_X5_perform 129 [(0, vr o), (2, vi (x.1 (o + 11) I)), (3, vi p), (4, vi r7)] [] x16 (rv Fv)))))) ∧ (¬ (r12 = (0 : Int32)) → (∀ x17 : gd, x17 = si x11 (o + 20) 5 1 → KT G q (d + 4) zk_X5_fail 0 [(0, vr o), (1, vi (x.1 (o + 11) I)), (2, vi r12)] [] x17 (rv (fun x18 => rv Fv none x18))))))))))) := by
      intro p hp
      have p0 : 0 ≤ p.toInt := by
        rcases hp with ⟨-, e1⟩ | ⟨-, e1⟩
        · rw [e1]; exact hcs.2.1.1
        · rw [e1]; decide
      refine kp_get hq ho h.1 h.2.1 _ _ eT (show (2 : Int32).toInt = ((2 : Nat) : Int) from rfl) hT6 (by omega) ⟨v, ?_⟩
      rw [e]
      refine kp_deedClear hq (kiM_D ho) _ _ _ (fun y fy y0 y1 y2 y5 => ⟨vi9, ?_⟩)
      obtain ⟨hy, fM, ry⟩ := MM_dc hO h fy
      have y10 : y.1 60 10 = x.1 60 10 := fy _ _ (by omega)
      have y85 : ∀ j, y.1 85 j = x.1 85 j := fun j => fy _ _ (by omega)
      have y81 : ∀ j, y.1 81 j = x.1 81 j := fun j => fy _ _ (by omega)
      rw [← ry T 2]
      refine ka_act hq ho hy _ _ _ eT (by rw [y10]; exact hT) (by rw [ry]; exact hg) (by rw [ry, ry, y81]; exact hp) (fun r z hz hr => ?_)
      have fz := fm_tr fM hz.2.1
      have z10 : z.1 60 10 = x.1 60 10 := by rw [(AR_9 hO hz).2.1]; exact y10
      have d0 : z.1 (o + 20) 0 = x.1 (o + 11) I := by rw [hz.2.2.2 0 (by decide)]; exact y0
      have d1 : z.1 (o + 20) 1 = p := by rw [hz.2.2.2 1 (by decide)]; exact y1
      have d5 : z.1 (o + 20) 5 = 0 := by rw [hz.2.2.2 5 (by decide)]; exact y5
      have zT : rg z o T 2 = rg x o T 2 := by rw [hz.2.2.1 T 2 (by omega), ry]
      have z0 : rg z o T 0 = 1 := by rw [hz.2.2.1 T 0 (by omega), ry]; exact hg
      rw [ry]
      -- the deed of an act that was done
      have deed : r = 0 → ∀ w, fm (sSt o) z w → DE w o := by
        intro r0 w fw
        obtain ⟨-, q2, q3, -⟩ := hr r0
        have w20 : ∀ k, w.1 (o + 20) k = z.1 (o + 20) k := fun k => fw _ _ (by unfold sSt; omega)
        have ww : ∀ k, k ≠ 5 → w.1 60 k = x.1 60 k := fun k hk => by rw [fw 60 k (by unfold sSt; omega), fz 60 k (by unfold sMk; omega)]
        unfold DE
        rw [w20, w20, w20, w20, d0, d1, d5, ww 10 (by omega), ww 6 (by omega), ww 9 (by omega)]
        refine ⟨gbool_0, Or.inr ⟨by omega, p0, fun _ => ⟨fun c4 => ?_, fun c58 => ?_, fun c9 => ?_⟩⟩⟩
        · have := q2 c4
          rw [fy 60 6 (by omega)] at this; exact this
        · rw [q3 (by omega), y2]
          rcases hp with ⟨e3, e1⟩ | ⟨e3, e1⟩
          · rcases c58 with c | c
            · rw [e1] at c
              exact hcs.1.2.1 c.1 c.2
            · exfalso; rw [e1] at c; exact hcs.2.1.2 c
          · have h7 := hgo.2 e3
            exact hcs.1.2.1 (by omega) (by omega)
        · rw [q3 (by omega), y2]
          rcases hp with ⟨e3, e1⟩ | ⟨e3, e1⟩
          · rw [e1] at c9
            exact hcs.1.2.2 (by unfold sop; omega) (by unfold sop; omega)
          · exfalso; rw [e1] at c9; revert c9; decide
      have p129 : r = 0 → ∀ w, MM w o → fm (sSt o) z w → rg w o T 2 = rg x o T 2 → (¬ p = 7 → rg w o T 3 = 0) → KT G q (d + 5) zk_X5_perform 129 [(0, vr o), (2, vi (x.1 (o + 11) I)), (3, vi p), (4, vi (rg x o T 2))] [] w (rv Fv) := by
        intro r0 w hw fw w2 w3
        refine kg_X5_perform_129 hq ho _ _ _ ⟨fun _ => rv_i (hF w hw (fm_tr fz (fm_w fw (fun c k q => sSt_M q))) (deed r0 w fw)), fun n7 => ?_⟩
        have w9 : w.1 o 9 = x.1 o 9 := by rw [fw _ _ (by unfold sSt; omega), fz _ _ (by unfold sMk; omega)]
        have w10 : w.1 60 10 = x.1 60 10 := by rw [fw _ _ (by unfold sSt; omega)]; exact z10
        have ws : ssm w = ssm x := by unfold ssm; rw [fw _ _ (by unfold sSt; omega), fz _ _ (by unfold sMk; omega)]
        have k1 : (1 : Int32).toInt = 1 := rfl
        have s35 := h.1.2.2.1.2
        have nst := hcs.2.2.2.2.2 (by omega)
        have e1 : (rg x o T 2 + 1).toInt = (rg x o T 2).toInt + 1 := by rw [t_add (by rw [k1]; omega) (by rw [k1]; omega), k1]
        refine ks_set hq ho (MM_MS hw) hT6 _ _ _ eT (show (2 : Int32).toInt = ((2 : Nat) : Int) from rfl) (by rw [w9]; omega) (by omega) (fun _ => by rw [ws]; omega) (fun c => by omega) (fun c => by omega) (fun u hu fu gu => ?_)
        refine ks_settle hq ho hu (by rw [fu 60 10 (by unfold sSt; omega), w10]; exact hT) _ eT ?_ (fun s hs fs _ => rv_i (hF s hs (fm_tr fz (fm_w (fm_tr (fm_tr fw fu) fs) (fun c k q => sSt_M q))) (deed r0 s (fm_tr (fm_tr fw fu) fs))))
        rw [gu 3 (by rw [w9]; omega), if_neg (by omega)]; exact w3 n7
      refine ⟨fun r0 => ⟨fun n9 => p129 r0 z hz.1 (fm_rf _ _) zT (hr r0).1, fun c9 => ⟨v, ?_⟩⟩, fun rn x17 e17 => ?_⟩
      · obtain ⟨e1, e2⟩ := (hr r0).2.2.2 c9
        have k9 : (9 : Int32).toInt = 9 := rfl
        have pe : sop x (rg x o T 2).toInt.toNat = 9 := by
          rcases hp with ⟨-, e3⟩ | ⟨-, e3⟩
          · unfold sop; rw [← e3, c9]; rfl
          · rw [e3] at c9; exact absurd c9 (by decide)
        obtain ⟨u0, u1⟩ := hcs.1.2.2 (by omega) (by omega)
        rw [ry] at e2
        rw [y85] at e2
        subst e1
        rw [ry] at e2
        rw [y85]
        have hu : (((x.1 85 (rg x o T 2).toInt.toNat).toInt.toNat : Nat) : Int) < (z.1 60 10).toInt := by rw [z10]; omega
        have hA9 := (hz.1.2.2 _ hu).1
        refine km_rouse hq ho hz.1 _ (show (x.1 85 (rg x o T 2).toInt.toNat).toInt = (((x.1 85 (rg x o T 2).toInt.toNat).toInt.toNat : Nat) : Int) by omega) hu (hA9.2.2.2.2 (by rw [ry]; exact e2)) (fun w hw fw gw => p129 r0 w hw fw ?_ (fun n7 => ?_))
        · have hne : T ≠ (x.1 85 (rg x o T 2).toInt.toNat).toInt.toNat := fun q9 => by rw [← q9, hg] at e2; exact absurd e2 (by decide)
          rw [gw T 2 hne (by rw [fy o 8 (by omega)]; omega), ry]
        · have hne : T ≠ (x.1 85 (rg x o T 2).toInt.toNat).toInt.toNat := fun q9 => by rw [← q9, hg] at e2; exact absurd e2 (by decide)
          rw [gw T 3 hne (by rw [fy o 8 (by omega)]; omega)]
          exact (hr r0).1 n7
      · obtain ⟨h17, r17⟩ := AR_deed (S := fun k => k = 5) hO hz.1 rfl e17
        have f17 := fm_tr fz h17.2.1
        refine ks_fail hq ho (MM_MS h17.1) hT6 _ _ eT (fun w hw fw w0 w3 => rv_i (hF w (MS_MM hw (fun _ c1 => ?_)) (fm_tr f17 (fm_w fw (fun c k q => sSt_M q))) ?_))
        · rw [w0] at c1; exact absurd c1 (by decide)
        · have w20 : ∀ k, w.1 (o + 20) k = x17.1 (o + 20) k := fun k => fw _ _ (by unfold sSt; omega)
          have q5 : x17.1 (o + 20) 5 = 1 := by rw [e17, si_get, if_pos ⟨rfl, rfl⟩]
          unfold DE
          rw [w20, w20, w20, w20, q5, h17.2.2.2 0 (by decide), h17.2.2.2 1 (by decide), d0, d1, fw 60 10 (by unfold sSt; omega), f17 60 10 (by unfold sMk; omega)]
          exact ⟨gbool_1, Or.inr ⟨by omega, p0, fun c5 => absurd c5 (by decide)⟩⟩
    exact kp_sortOf hq ho h.1 h.2.1 _ eT hT6 hA (fun c0 => go _ (Or.inl ⟨c0, rfl⟩)) (fun c0 => go _ (Or.inr ⟨c0, rfl⟩))
  · -- a late one comes
    obtain ⟨J, eJ, hJ⟩ : ∃ J : Nat, (x.1 (o + 12) I).toInt = J ∧ (J : Int) < (rg x o T 7).toInt := by
      rcases hcase with ⟨g, -⟩ | g
      · exact absurd g c
      · exact g
    refine kp_deedClear hq (kiM_D ho) _ _ _ (fun y fy y0 y1 y2 y5 => ⟨vi9, ?_⟩)
    obtain ⟨hy, fM, ry⟩ := MM_dc hO h fy
    rw [fy (o + 12) I (by omega)]
    refine km_bring hq ho hy _ _ eT eJ (by rw [fy 60 10 (by omega)]; exact hT) (by rw [ry]; exact hJ) (fun z hz fz z20 => rv_i (hF z hz (fm_tr fM fz) ⟨?_, Or.inl ?_⟩))
    · rw [z20, y5]; exact gbool_0
    · rw [z20, y0]
end KPF
