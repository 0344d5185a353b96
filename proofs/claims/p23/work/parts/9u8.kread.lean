section
/-! the class: calls that only look, calls that forget -/
def sRd (c k : Nat) : Prop := (c = 120 ∧ k = 14) ∨ (180 ≤ c ∧ c < 260) ∨ 300 ≤ c ∨ (c = 60 ∧ k = 5) ∨ c = 65
def KRd (x y : gd) : Prop := fm sRd x y
def ZR (y : gd) : Prop := y.1 0 10 = 0 ∧ ∀ o, (o = 260 ∨ o = 280) → y.1 o 0 = 0
section KRX
variable {x y z : gd} {q : kP} {C : gCo} {w n o : Nat} {c : Nat → Nat} {T : gTy}
theorem KR_rf : KRd x x := fm_rf _ _
theorem KR_KF (f : KRd x y) : KF x y := KF_fm f (fun c k q => by unfold sRd at q; omega)
theorem ZR_of (h10 : y.1 0 10 = 0) (hz : ∀ o, kiT q o → y.1 o 0 = 0) (hh : HOI y q) : ZR y := ⟨h10, fun o hO => by
  by_cases k : kiT q o
  · exact hz o k
  · exact (hh.2.2.2 o hO).2 k⟩
theorem KRun_rd (f : KRd x y) (hK : CK x C) (hR : RUN y) (r : KRun C w n c x) : KRun C w n c y := by
  obtain ⟨r1, ⟨r2, r3, r4⟩, ⟨r5, r6⟩, r7, r8⟩ := r
  have g : ∀ c k, ¬ sRd c k → y.1 c k = x.1 c k := f
  refine ⟨hR, ⟨KMm_ag (Or.inl rfl) r1.1 hK (g _ _ (by unfold sRd; omega)) (g _ _ (by unfold sRd; omega)) (g _ _ (by unfold sRd; omega)) (fun k hk => g _ _ (by unfold sRd; omega)) (fun k => g _ _ (by unfold sRd; omega)) r2, r3, kchL_ag (g _ _ (by unfold sRd; omega)) (fun c k h => g _ _ (by unfold sRd; omega)) r4⟩, ⟨r5, by rw [g _ _ (by unfold sRd; omega)]; exact r6⟩, by rw [g _ _ (by unfold sRd; omega)]; exact r7, fun k hk => by rw [g 162 k (by unfold sRd; omega)]; exact r8 k hk⟩
theorem TR3_rd (hO : o = 260 ∨ o = 280) (f : KRd x y) (h : TR3 C w x o T) : TR3 C w y o T := by
  have g : ∀ c k, ¬ sRd c k → y.1 c k = x.1 c k := f
  exact TR3_f (g _ _ (by unfold sRd; omega)) (g _ _ (by unfold sRd; omega)) (fun c k hc => g _ _ (by unfold sRd; omega)) h
end KRX
section KFR8
variable {G : kG} {q q0 q1 : kP} {d : Nat} {x x0 y z : gd} {o : Nat} {F : Int32 → gd → Prop} {Fv : gd → Prop} {P : Option gv → gd → Prop} {X : String → gd → Prop}
theorem kr_fault (hq : kV q) (hH : HOI x q) (l : Int32) (hO : X iOE x) (hP : ∀ r y, HOI y q → KRd x y → P (some (vi r)) y) : KE G q (d + 6) zk_X11_fault 0 [(0, vr 0), (1, vi l)] [] x P X := by
  have p19 : KE G q (d + 6) zk_X11_fault 19 [(0, vr 0), (1, vi l)] [] x P X := kg_X11_fault_19 hq l ⟨fun _ => hP _ x hH KR_rf, fun _ => hP _ x hH KR_rf⟩
  exact kg_X11_fault_0 hq l ⟨fun _ => p19, fun _ => ⟨fun _ => p19, fun _ => hO⟩⟩
theorem kr_runq (hq : kV q) (hH : HOI x q) (l : Int32) (hS : X iSE x) (hO : X iOE x) (hP : ∀ r y, HOI y q → KRd x y → P (some (vi r)) y) : KE G q (d + 7) zk_X11_run 0 [(0, vr 0), (1, vi l)] [] x P X := by
  have here : ∀ r, P (some (vi r)) x := fun r => hP r x hH KR_rf
  have hm : kiM q 120 := Or.inl rfl
  exact kg_X11_run_0 hq l (kz_run hq hH hS (fun hR => kz_what hq l 8 hO ⟨fun _ => here _, fun _ => here _, fun _ => here _, fun _ => ⟨fun _ => here _, fun _ => here _⟩, fun _ => km_isStuck hq hm hR.1 (fun r => ⟨fun _ => here _, fun _ => here _⟩), fun _ => kj_races hq hR.2.2 (fun r => here r), fun _ => here _, fun _ => km_allLate hq hm hR.1 (fun r => here r)⟩))
theorem kr_lock (hq : kV q) (hH : HOI x q) (l1 l2 : Int32) (hS : X iSE x) (hO : X iOE x) (hP : ∀ r y, HOI y q → KRd x y → P (some (vi r)) y) : KE G q (d + 7) zk_X11_lock 0 [(0, vr 0), (1, vi l1), (2, vi l2)] [] x P X := by
  have hm : kiM q 120 := Or.inl rfl
  exact kg_X11_lock_0 hq l1 l2 (kz_run hq hH hS (fun hR => kz_ix hq l1 _ hO (fun h0 h1 => kz_what hq l2 3 hO ⟨fun _ => kp_holder hq hm hR.1.1 hR.1.2.1 l1 h0 h1 (fun r => hP r x hH KR_rf), fun _ => kp_often hq hm hR.1.1 hR.1.2.1 l1 h0 h1 (fun r => hP r x hH KR_rf), fun _ => kp_waiters hq hm hR.1.1 hR.1.2.1 l1 (fun r r14 => hP r14 x hH KR_rf)⟩)))
theorem kr_thread (hq : kV q) (hH : HOI x q) (l1 l2 : Int32) (hS : X iSE x) (hO : X iOE x) (hP : ∀ r y, HOI y q → KRd x y → P (some (vi r)) y) : KE G q (d + 7) zk_X11_thread 0 [(0, vr 0), (1, vi l1), (2, vi l2)] [] x P X := by
  have hm : kiM q 120 := Or.inl rfl
  refine kg_X11_thread_0 hq l1 l2 (kz_run hq hH hS (fun hR => kz_ix hq l1 _ hO (fun h0 h1 => kz_what hq l2 5 hO ?_)))
  have hT : ((l1.toInt.toNat : Nat) : Int) < (x.1 60 10).toInt := by omega
  have eT : l1.toInt = ((l1.toInt.toNat : Nat) : Int) := by omega
  have hT6 := MM_6 hR.1.1 hT
  have hA := (hR.1.2.2 _ hT).1
  exact ⟨fun _ => kp_get hq hm hR.1.1 hR.1.2.1 l1 0 (K := 0) eT rfl hT6 (by omega) (hP _ x hH KR_rf), fun _ => kp_get hq hm hR.1.1 hR.1.2.1 l1 1 (K := 1) eT rfl hT6 (by omega) (hP _ x hH KR_rf), fun _ => kp_get hq hm hR.1.1 hR.1.2.1 l1 7 (K := 7) eT rfl hT6 (by omega) (hP _ x hH KR_rf), fun _ => kp_known hq hm hR.1.1 hR.1.2.1 l1 eT hT6 hA (fun r _ _ => hP r x hH KR_rf), fun _ => kp_lineOf hq hm hR.1.1 hR.1.2.1 l1 eT hT6 hA (fun r => hP r x hH KR_rf)⟩
theorem kr_act (hq : kV q) (hH : HOI x q) (l1 l2 : Int32) (hS : X iSE x) (hO : X iOE x) (hP : ∀ r y, HOI y q → KRd x y → P (some (vi r)) y) : KE G q (d + 7) zk_X11_act 0 [(0, vr 0), (1, vi l1), (2, vi l2)] [] x P X := by
  have here : ∀ r, P (some (vi r)) x := fun r => hP r x hH KR_rf
  refine kg_X11_act_0 hq l1 l2 (kz_run hq hH hS (fun hR => kz_ix hq l1 _ hO (fun h0 h1 => kz_what hq l2 5 hO ?_)))
  have v : vp_in l1 400 := by have := hR.2.2.1; rw [vp_in_iff]; omega
  exact ⟨fun _ => ⟨v, here _⟩, fun _ => ⟨v, here _⟩, fun _ => ⟨v, here _⟩, fun _ => ⟨v, here _⟩, fun _ => ⟨v, here _⟩⟩
theorem kr_before (hq : kV q) (hH : HOI x q) (l1 l2 : Int32) (hS : X iSE x) (hO : X iOE x) (hP : ∀ r y, gbool r → HOI y q → KRd x y → P (some (vi r)) y) : KE G q (d + 7) zk_X11_before 0 [(0, vr 0), (1, vi l1), (2, vi l2)] [] x P X := by
  exact kg_X11_before_0 hq l1 l2 (kz_run hq hH hS (fun hR => kz_ix hq l1 _ hO (fun h0 h1 => kz_ix hq l2 _ hO (fun g0 g1 => kj_isBefore hq hR.2.2 l1 l2 (A := l1.toInt.toNat) (B := l2.toInt.toNat) (by omega) (by omega) (by omega) (by omega) (fun r gr => ⟨gr, hP r x gr hH KR_rf⟩)))))
theorem kr_race (hq : kV q) (hH : HOI x q) (l1 l2 : Int32) (hS : X iSE x) (hO : X iOE x) (hP : ∀ r y, HOI y q → KRd x y → P (some (vi r)) y) : KE G q (d + 7) zk_X11_race 0 [(0, vr 0), (1, vi l1), (2, vi l2)] [] x P X :=
  kg_X11_race_0 hq l1 l2 (kz_run hq hH hS (fun hR => kj_races hq hR.2.2 (fun r => kz_ix hq l1 _ hO (fun h0 h1 => kz_what hq l2 2 hO (kj_laterOfRace hq hR.2.2 l1 (fun r7 hr7 => ⟨fun _ => kj_earlierOfRace hq hR.2.2 l1 r7 hr7 (fun r => hP r x hH KR_rf), fun _ => hP _ x hH KR_rf⟩))))))
theorem kr_tried (hq : kV q) (hH : HOI x q) (l1 l2 : Int32) (hA : X iAE x) (hO : X iOE x) (hP : ∀ r y, HOI y q → KRd x y → P (some (vi r)) y) : KE G q (d + 7) zk_X11_tried 0 [(0, vr 0), (1, vi l1), (2, vi l2)] [] x P X := by
  have here : ∀ r, P (some (vi r)) x := fun r => hP r x hH KR_rf
  exact kg_X11_tried_0 hq l1 l2 (kz_way hq l1 hA (fun hw => kz_what hq l2 6 hO (kz_was hq hH l1 hw ⟨fun c => absurd rfl c, fun _ => here _⟩ (fun o e7 ho hz ht hC hp => ⟨fun _ => ⟨way_in hw, fun u7 e => ⟨o, by rw [e, e7], ho, fun _ => here _, fun _ => ⟨fun _ => here _, fun _ => here _⟩, fun _ => here _, fun _ => here _, fun _ => here _, fun _ => here _⟩⟩, fun _ => here _⟩))))
theorem kr_outcome (hq : kV q) (hH : HOI x q) (l1 l2 l3 : Int32) (hA : X iAE x) (hO : X iOE x) (hP : ∀ r y, HOI y q → KRd x y → P (some (vi r)) y) : KE G q (d + 7) zk_X11_outcome 0 [(0, vr 0), (1, vi l1), (2, vi l2), (3, vi l3)] [] x P X := by
  have here : ∀ r, P (some (vi r)) x := fun r => hP r x hH KR_rf
  have k0 : (0 : Int32).toInt = 0 := rfl
  refine kg_X11_outcome_0 hq l1 l2 l3 (kz_way hq l1 hA (fun hw => kz_was hq hH l1 hw ⟨fun _ => kg_X11_outcome_26 hq l1 l2 l3 _ _ (kz_ix hq l2 0 hO (fun h0 h1 => ?_)), fun c => absurd rfl c⟩ (fun o e7 ho hz ht hC hp => ⟨fun c => absurd c (by decide), fun _ => ⟨way_in hw, fun u6 e6 => ⟨o, by rw [e6, e7], ho, kg_X11_outcome_26 hq l1 l2 l3 _ _ (kz_ix hq l2 _ hO (fun h0 h1 => kz_ix hq l3 _ hO (fun g0 g1 => ⟨way_in hw, fun u4 e4 => ⟨o, by rw [e4, e7], ho, kt_valueOf hq ho l2 l3 ht ⟨h0, h1⟩ (by have := hC.1.1; omega) (fun r => here r)⟩⟩)))⟩⟩⟩)))
  rw [k0] at h1; omega
theorem kr_common (hq : kV q) (hH : HOI x q) (l1 l2 : Int32) (hA : X iAE x) (hO : X iOE x) (hP : ∀ r y, HOI y q → KRd x y → P (some (vi r)) y) : KE G q (d + 7) zk_X11_common 0 [(0, vr 0), (1, vi l1), (2, vi l2)] [] x P X := by
  have here : ∀ r, P (some (vi r)) x := fun r => hP r x hH KR_rf
  refine kg_X11_common_0 hq l1 l2 (kz_way hq l1 hA (fun hw => ?_))
  have p23 : ∀ s0 : Int32, s0.toInt ≤ 24 → KE G q (d + 7) zk_X11_common 23 [(0, vr 0), (1, vi l1), (2, vi l2)] [vi s0, vi l2] x P X := fun s0 hs0 => kg_X11_common_23 hq l1 l2 s0 l2 (kz_ix hq l2 s0 hO (fun g0 g1 => kz_was hq hH l1 hw ⟨fun _ => here _, fun c => absurd rfl c⟩ (fun o e7 ho hz ht hC hp => ⟨fun c => absurd c (by decide), fun _ => ⟨way_in hw, fun u6 e6 => ⟨o, by rw [e6, e7], ho, by rw [vp_in_iff]; omega, here _⟩⟩⟩)))
  exact ⟨fun _ => p23 _ (by decide), fun c => p23 _ (hH.2.1 c).1.1.2⟩
theorem kr_ring (hq : kV q) (hH : HOI x q) (l1 : Int32) (hA : X iAE x) (hP : ∀ r y, HOI y q → KRd x y → P (some (vi r)) y) : KE G q (d + 7) zk_X11_ring 0 [(0, vr 0), (1, vi l1)] [] x P X := by
  have here : ∀ r, P (some (vi r)) x := fun r => hP r x hH KR_rf
  exact kg_X11_ring_0 hq l1 (kz_way hq l1 hA (fun hw => kz_was hq hH l1 hw ⟨fun _ => here _, fun c => absurd rfl c⟩ (fun o e7 ho hz ht hC hp => ⟨fun c => absurd c (by decide), fun _ => ⟨way_in hw, fun u6 e6 => ⟨o, by rw [e6, e7], ho, kt_ring hq ho (fun r => here r)⟩⟩⟩)))
theorem kr_alike (hq : kV q) (hH : HOI x q) (hP : ∀ r y, HOI y q → KRd x y → P (some (vi r)) y) : KT G q (d + 2) zk_X11_alike 0 [(0, vr 0)] [] x P := by
  have here : ∀ r, P (some (vi r)) x := fun r => hP r x hH KR_rf
  refine kg_X11_alike_0 hq (kz_was hq hH 0 (Or.inl rfl) ⟨fun _ => here _, fun c => absurd rfl c⟩ (fun o e0 ho hz ht hC hp => ⟨fun c => absurd c (by decide), fun _ => kz_was hq hH 1 (Or.inr rfl) ⟨fun _ => here _, fun c => absurd rfl c⟩ (fun o2 e1 ho2 hz2 ht2 hC2 hp2 => ⟨fun c => absurd c (by decide), fun _ => ⟨way_in (Or.inl rfl), fun u8 e8 => ⟨o, by rw [e8, e0], ho, fun _ => here _, fun _ => ⟨way_in (Or.inr rfl), fun u13 e13 => ⟨o2, by rw [e13, e1], ho2, fun _ => ⟨way_in (Or.inl rfl), fun u18 e18 => ⟨way_in (Or.inr rfl), fun u20 e20 => ⟨o2, by rw [e20, e1], ho2, o, by rw [e18, e0], ho, ?_⟩⟩⟩, fun _ => here _⟩⟩⟩⟩⟩)⟩))
  exact kt_same hq ho ho2 _ hC.1.1.2 ht ht2 (fun r _ => ⟨fun _ => here _, fun _ => here _⟩)
theorem kr_wipe (hq : kV q) (hH : HOI x q) (hP : ∀ y, HOI y q → (y.1 20 1 = 0 ∧ y.1 0 9 = 0) ∧ ZR y → P (some (vi (x.1 20 1))) y) : KT G q (d + 1) zk_X11_wipe 0 [(0, vr 0)] [] x P := by
  refine kg_X11_wipe_0 hq (fun x1 e1 => kz_forget hq (fun y f h9 h10 hz hf => ?_))
  have hh : HOI y q := by
    have f1 : fm sCm x x1 := by rw [e1]; exact fm_si (fm_rf _ _) (by unfold sCm; omega)
    have e20 : y.1 20 1 = 0 := by rw [f 20 1 (by unfold sFo; omega), e1, si_get, if_pos ⟨rfl, rfl⟩]
    refine HOI_z (fm_tr f1 (fm_w f (fun c k => fo_cm))) ?_ (fun e => absurd h9 e) h10 hz hH (fun o hO hn => ?_)
    · unfold kL; rw [e20]; decide
    · rw [hf o hO hn, e1, si_get, if_neg (by omega)]
  · exact hP y hh ⟨⟨by rw [f 20 1 (by unfold sFo; omega), e1, si_get, if_pos ⟨rfl, rfl⟩], h9⟩, ZR_of h10 hz hh⟩
theorem kr_feed (hq : kV q) (hH : HOI x q) (l1 : Int32) (l2 : Int64) (hA : ¬ (1 ≤ l1.toInt ∧ l1.toInt ≤ 8 ∧ (x.1 20 1).toInt + l1.toInt ≤ 3000) → X iAE x) (hP : (1 ≤ l1.toInt ∧ l1.toInt ≤ 8 ∧ (x.1 20 1).toInt + l1.toInt ≤ 3000) → ∀ y, HOI y q → ((y.1 20 1).toInt = (x.1 20 1).toInt + l1.toInt ∧ y.1 0 9 = 0 ∧ FBc x l2 l1.toInt.toNat y) ∧ ZR y → P (some (vi (y.1 20 1))) y) : KE G q (d + 7) zk_X11_feed 0 [(0, vr 0), (1, vi l1), (2, vl l2)] [] x P X := by
  have k1 : (1 : Int32).toInt = 1 := rfl
  have k8 : (8 : Int32).toInt = 8 := rfl
  have k3 : (3000 : Int32).toInt = 3000 := rfl
  have bL := hH.1
  unfold kL at bL
  refine kg_X11_feed_0 hq l1 l2 ⟨fun c => kg_X11_feed_11 hq (hA ?_), fun c1 => ⟨fun c8 => ⟨fun c3 => ?_, fun c3 => hA ?_⟩, fun c8 => kg_X11_feed_11 hq (hA ?_)⟩⟩
  · rw [t_lt, k1] at c; omega
  · rw [t_lt, k1] at c1
    rw [t_le, k8] at c8
    rw [t_le, k3, t_add (by omega) (by omega)] at c3
    have hok : 1 ≤ l1.toInt ∧ l1.toInt ≤ 8 ∧ (x.1 20 1).toInt + l1.toInt ≤ 3000 := by omega
    have loop : ∀ (n k : Nat) (i : Int32) (y : gd), i.toInt = k → (k : Int) ≤ l1.toInt → l1.toInt - k ≤ n → fm (fun c k => c = 21 ∨ (c = 20 ∧ k = 1)) x y → kL y → (y.1 20 1).toInt = (x.1 20 1).toInt + k ∧ FBc x l2 k y → KE G q (d + 7) zk_X11_feed 49 [(0, vr 0), (1, vi l1), (2, vl l2), (4, vi i)] [] y P X := by
      intro n
      have fin : ∀ (k : Nat) (y : gd), (k : Int) = l1.toInt → fm (fun c k => c = 21 ∨ (c = 20 ∧ k = 1)) x y → kL y → (y.1 20 1).toInt = (x.1 20 1).toInt + k ∧ FBc x l2 k y → KT G q (d + 6) zk_X11_forgetAll 0 [(0, vr 0)] [] y (rv (fun x2 => P (some (vi (x2.1 20 1))) x2)) := by
        intro k y ek fy hL el
        refine kz_forget hq (fun z f h9 h10 hz hf => ?_)
        have hh : HOI z q := by
          have f1 : fm sCm x y := fm_w fy (fun c k q => by unfold sCm; omega)
          refine HOI_z (fm_tr f1 (fm_w f (fun c k => fo_cm))) ?_ (fun e => absurd h9 e) h10 hz hH (fun o hO hn => ?_)
          · unfold kL at hL ⊢; rw [f 20 1 (by unfold sFo; omega)]; exact hL
          · rw [hf o hO hn, fy o 0 (by omega)]
        · refine hP hok z hh ⟨⟨by rw [f 20 1 (by unfold sFo; omega), el.1, ek], h9, ?_⟩, ZR_of h10 hz hh⟩
          have ekn : l1.toInt.toNat = k := by omega
          rw [ekn]
          exact ⟨fun p hp => by rw [f 21 p (by unfold sFo; omega)]; exact el.2.1 p hp, fun j hj => by rw [f 21 _ (by unfold sFo; omega)]; exact el.2.2 j hj⟩
      induction n with
      | zero =>
        intro k i y ei hk hn fy hL el
        refine kg_X11_feed_49 hq l1 l2 i ⟨fun c => fin k y (by omega) fy hL el, fun c => ?_⟩
        rw [t_le] at c; omega
      | succ n ih =>
        intro k i y ei hk hn fy hL el
        refine kg_X11_feed_49 hq l1 l2 i ⟨fun c => fin k y (by rw [t_le] at c; omega) fy hL el, fun c => ?_⟩
        rw [t_le] at c
        have k3' : (3000 : Int32).toInt = 3000 := rfl
        have hL0 := hL
        unfold kL at hL0
        have e1 := el.1
        have ub := t_cl (x.1 20 1)
        have uy := t_cl (y.1 20 1)
        refine kg_X9_addByte_0 hq _ ⟨fun c2 => ?_, fun c2 => ⟨by rw [vp_in_iff]; omega, fun x3 e3 x4 e4 => rv_i (ih (k + 1) _ x4 (by rw [t_add (by rw [k1]; omega) (by rw [k1]; omega), k1, ei]; rfl) (by push_cast; omega) (by push_cast; omega) (fm_tr fy ?_) ?_ ⟨?_, fun p hp => ?_, fun j hj => ?_⟩)⟩⟩
        · exfalso; rw [t_le, k3'] at c2; omega
        · rw [e4, e3]; exact fm_si (fm_si (fm_rf _ _) (Or.inl rfl)) (Or.inr ⟨rfl, rfl⟩)
        · have e : x4.1 20 1 = y.1 20 1 + 1 := by rw [e4, e3]; (simp only [si_get, sfl_get, Nat.reduceEqDiff, eq_self, and_false, false_and, and_true, true_and, if_true, if_false, reduceIte, reduceCtorEq])
          unfold kL
          rw [e, t_add (by rw [k1]; omega) (by rw [k1]; omega), k1]
          omega
        · have e : x4.1 20 1 = y.1 20 1 + 1 := by rw [e4, e3]; (simp only [si_get, sfl_get, Nat.reduceEqDiff, eq_self, and_false, false_and, and_true, true_and, if_true, if_false, reduceIte, reduceCtorEq])
          rw [e, t_add (by rw [k1]; omega) (by rw [k1]; omega), k1]
          push_cast; omega
        · rw [e4, si_cell (by decide), e3, si_get, if_neg (fun z => ?_)]
          · exact el.2.1 p hp
          · have := z.2
            omega
        · have ey : (y.1 20 1).toNatClampNeg = (x.1 20 1).toNatClampNeg + k := by omega
          rw [e4, si_cell (by decide), e3, si_get, ey]
          by_cases cj : j = k
          · rw [if_pos ⟨rfl, by rw [cj]⟩]
            have ek : i = Int32.ofNat j := by
              rw [t_eq, ei, cj]
              have : (k : Int) < 8 := by omega
              exact (Int32.toInt_ofNat_of_lt (by omega)).symm
            rw [ek]
            rfl
          · rw [if_neg (fun z => cj (by have := z.2; omega))]
            exact el.2.2 j (by omega)
    exact loop 8 0 _ x rfl (by omega) (by omega) (fm_rf _ _) hH.1 ⟨by push_cast; omega, fun p hp => rfl, fun j hj => absurd hj (Nat.not_lt_zero _)⟩
  · rw [t_lt, k1] at c1
    rw [t_le, k8] at c8
    rw [t_le, k3, t_add (by omega) (by omega)] at c3
    omega
  · rw [t_le, k8] at c8; omega
end KFR8
section KFR9
variable {G : kG} {q q0 q1 : kP} {d : Nat} {x x0 y z : gd} {o : Nat} {P : Option gv → gd → kP → Prop} {X : String → gd → kP → Prop}
theorem kr_linear (hu : kU q) (hH : HOI x q) (l : Int32) (hS : X iSE x q) (hA : X iAE x q) (hP : ∀ r y q1, kU q1 → kle q q1 → HOI y q1 → KRd x y → P (some (vi r)) y q1) : KM G q (d + 18) zk_X11_linear 0 [(0, vr 0), (1, vi l)] [] x P X := by
  have p56 : ∀ (q1 : kP) (y : gd), kU q1 → kle q q1 → HOI y q1 → JN y → q1.hi = true → KRd x y → KM G q1 (d + 18) zk_X11_linear 56 [(0, vr 0), (1, vi l)] [] y P X := by
    intro q1 y hu1 hl1 hH1 hJ hh el
    refine kg_X11_linear_56 (d := d + 11) hu1 l (fun u1 e1 => ⟨by rw [e1, k08_t hh], hh, kh_take (d := d + 16) hu1.1 hh hJ (fun z fz hc u3 e3 => ⟨by rw [e3, k08_t hh], hh, kh_fewest hu1.1 hh l hc.1 (fun r w fw => ?_)⟩)⟩)
    have f : fm sNw y w := fm_tr (fm_w fz (fun c k q => by unfold sHi at q; unfold sNw; omega)) (fm_w fw (fun c k q => by unfold sHl at q; unfold sNw; omega))
    have hw := HOI_mk (kle_rf q1) hu1 f hH1
    have e20 : KRd x w := fm_tr el (fm_w f (fun c k q => by unfold sNw at q; unfold sRd; omega))
    exact ⟨fun _ => hP _ w q1 hu1 hl1 hw e20, fun _ => hP _ w q1 hu1 hl1 hw e20⟩
  refine kg_X11_linear_0 (d := d + 11) hu l (kz_run hu.1 hH hS (fun hR => ⟨fun _ => kg_X11_linear_13 hu hA, fun _ => ⟨fun _ => ⟨fun _ u5 e5 => ⟨fun hn => ⟨k08_n (by rw [← e5, hn]), fun q8 x9 e8 e9 hu8 hl8 => ?_⟩, fun c7 h7 => p56 q x hu (kle_rf q) hH hR.2.2 (k08_s (e5.symm.trans h7)) KR_rf⟩, fun _ => hP _ x q hu (kle_rf q) hH KR_rf⟩, fun _ => kg_X11_linear_13 hu hA⟩⟩))
  have f9 : fm sNw x x9 := by
    rw [e9]
    refine fm_new (fun c hc k => ?_)
    have := (by decide +kernel : ∀ c ∈ 180 :: ops_180.flatMap xtch, (180 ≤ c ∧ c < 260) ∨ 300 ≤ c) c hc
    exact this
  exact p56 q8 x9 hu8 hl8 (HOI_mk hl8 hu8 f9 hH) (JN_o (fun c k a b => f9 c k (by unfold sNw; omega)) hR.2.2) (by rw [e8]; rfl) (fm_w f9 (fun c k q => by unfold sNw at q; unfold sRd; omega))
theorem kr_compile (hu : kU q) (hH : HOI x q) (hP : ∀ r y q1, (q1 = q ∨ q1 = kTh q) → kU q1 → HOI y q1 → y.1 20 1 = x.1 20 1 → CCf x y → ZR y → P (some (vi r)) y q1) : KM G q (d + 14) zk_X11_compile 0 [(0, vr 0)] [] x P X := by
  have hfin : ∀ (r : Int32) (y : gd) (q1 : kP), (q1 = q ∨ q1 = kTh q) → Bs x q y → (¬ y.1 0 9 = 0 → CO y) → CCf x y → P (some (vi r)) y q1 := by
    intro r y q1 h1 hB hC hcf
    obtain ⟨b1, b2, b3, ⟨b4, b5⟩, b6⟩ := hB
    have hh : HOI y q := HOI_z b1 b2 hC b3 b4 hH b5
    rcases h1 with e | e
    · subst e; exact hP r y _ (Or.inl rfl) hu hh b6 hcf (ZR_of b3 b4 hh)
    · subst e; exact hP r y _ (Or.inr rfl) (kTh_U hu) (HOI_th hh) b6 hcf (ZR_of b3 b4 hh)
  have p116 : ∀ (q1 : kP) (y : gd) (l1 s0 : Int32), (q1 = q ∨ q1 = kTh q) → kU q1 → Bs x q y → (¬ y.1 0 9 = 0 → LPre y) → CCz x y → KM G q1 (d + 14) zk_X11_compile 116 [(0, vr 0), (1, vi l1)] [vi s0, vr 0] y P X := by
    intro q1 y l1 s0 h1 hu1 hB hL hZ
    refine kg_X11_compile_116 (d := d + 13) hu1 l1 s0 (fun x1 e1 => ?_)
    have f1 : fm (fun c k => c = 0 ∧ k = 12) y x1 := by rw [e1]; exact fm_si (fm_rf _ _) ⟨rfl, rfl⟩
    have hB1 : Bs x q x1 := Bs_st (fm_w f1 (fun c k q => by omega)) hB
    have e9 : x1.1 0 9 = y.1 0 9 := f1 _ _ (by omega)
    refine ⟨fun c => ?_, fun c => hfin _ x1 q1 h1 hB1 (fun e => absurd c e) (CCz_f (CCz_st (fm_w f1 (fun c k q => by omega)) hZ) c)⟩
    have c9 := c
    rw [e9] at c
    obtain ⟨a, b, o1, o2, o3⟩ := LPre_0 (fm_w f1 (fun c k q => q.1)) (hL c)
    refine kf_link hu1.1 (OT_j o2 o1) o3 (fun w hC fw lk1 lk2 => ?_)
    exact hfin _ w q1 h1 (Bs_st (fm_w fw (fun c k q => by omega)) hB1) (fun _ => hC) (CCz_lk (CCz_st (fm_w f1 (fun c k q => by omega)) hZ) c9 fw lk1 lk2)
  have p92 : ∀ (q1 : kP) (y : gd) (l1 l2 s0 : Int32), (q1 = q ∨ q1 = kTh q) → kU q1 → Bs x q y → (¬ y.1 0 9 = 0 → LPre y) → (y.1 0 9 = 0 → vp_in l2 702) → CCz x y → KM G q1 (d + 14) zk_X11_compile 92 [(0, vr 0), (1, vi l1), (2, vi l2)] [vi s0, vr 0] y P X := by
    intro q1 y l1 l2 s0 h1 hu1 hB hL hv hZ
    refine kg_X11_compile_92 (d := d + 13) hu1 l1 l2 s0 (fun x1 e1 => ?_)
    have f1 : fm (fun c k => c = 0 ∧ k = 11) y x1 := by rw [e1]; exact fm_si (fm_rf _ _) ⟨rfl, rfl⟩
    have hB1 : Bs x q x1 := Bs_st (fm_w f1 (fun c k q => by omega)) hB
    have e9 : x1.1 0 9 = y.1 0 9 := f1 _ _ (by omega)
    have hL1 : ¬ x1.1 0 9 = 0 → LPre x1 := fun c => LPre_0 (fm_w f1 (fun c k q => q.1)) (hL (by rw [← e9]; exact c))
    have hZ1 := CCz_st (fm_w f1 (fun c k q => by omega)) hZ
    exact ⟨fun c => ⟨hv (by rw [← e9]; exact c), p116 q1 x1 l1 _ h1 hu1 hB1 hL1 hZ1⟩, fun c => p116 q1 x1 l1 _ h1 hu1 hB1 hL1 hZ1⟩
  have p58 : ∀ (q1 : kP) (y : gd) (l1 l2 : Int32), (q1 = q ∨ q1 = kTh q) → kU q1 → Bs x q y → (l1 = 0 → LPre y) → (¬ l1 = 0 → vp_in l2 702) → CCv x y l1 → KM G q1 (d + 14) zk_X11_compile 58 [(0, vr 0), (1, vi l1), (2, vi l2)] [] y P X := by
    intro q1 y l1 l2 h1 hu1 hB hL hv hZ
    have p68 : ∀ s0 : Int32, gbool s0 → (s0 = 0 ↔ ¬ l1 = 0) → (¬ s0 = 0 → LPre y) → (s0 = 0 → vp_in l2 702) → KM G q1 (d + 14) zk_X11_compile 68 [(0, vr 0), (1, vi l1), (2, vi l2)] [vi s0, vr 0] y P X := by
      intro s0 g hs9 hL0 hv0
      refine kg_X11_compile_68 (d := d + 13) hu1 l1 l2 s0 ⟨g, fun x1 e1 => ?_⟩
      have f1 : fm (fun c k => c = 0 ∧ k = 9) y x1 := by rw [e1]; exact fm_si (fm_rf _ _) ⟨rfl, rfl⟩
      have hB1 : Bs x q x1 := Bs_st (fm_w f1 (fun c k q => by omega)) hB
      have e9 : x1.1 0 9 = s0 := by rw [e1, si_get, if_pos ⟨rfl, rfl⟩]
      have hL1 : ¬ x1.1 0 9 = 0 → LPre x1 := fun c => LPre_0 (fm_w f1 (fun c k q => q.1)) (hL0 (by rw [← e9]; exact c))
      have hv1 : x1.1 0 9 = 0 → vp_in l2 702 := fun c => hv0 (by rw [← e9]; exact c)
      have hZ1 : CCz x x1 := CCv_z f1 (by rw [e9]; exact hs9) hZ
      exact ⟨fun c => ⟨hv1 c, p92 q1 x1 l1 l2 _ h1 hu1 hB1 hL1 hv1 hZ1⟩, fun c => p92 q1 x1 l1 l2 _ h1 hu1 hB1 hL1 hv1 hZ1⟩
    refine kg_X11_compile_58 (d := d + 13) hu1 l1 l2 ⟨fun c => p68 0 gbool_0 ⟨fun _ => c, fun _ => rfl⟩ (fun e => absurd rfl e) (fun _ => hv c), fun c => p68 1 gbool_1 ⟨fun e => absurd e (by decide), fun e => absurd c e⟩ (fun _ => hL c) (fun e => absurd e (by decide))⟩
  refine kg_X11_compile_0 (d := d + 13) hu (kz_forget hu.1 (fun x1 f1 e9 e10 hz hf => ?_))
  have hB1 : Bs x q x1 := by
    have e20 : x1.1 20 1 = x.1 20 1 := f1 _ _ (by unfold sFo; omega)
    refine ⟨fm_w f1 (fun c k => fo_cm), ?_, e10, ⟨hz, hf⟩, e20⟩
    have := hH.1
    unfold kL at this ⊢; rw [e20]; exact this
  have e21 : ∀ k, x1.1 21 k = x.1 21 k := fun k => f1 _ _ (by unfold sFo; omega)
  have eb : kby x1 = kby x := by funext p; unfold kby; rw [e21]
  have el1 : kln x1 = kln x := by unfold kln; rw [hB1.2.2.2.2]
  refine kf_cut (d := d + 3) hu.1 hB1.2.1 (fun x2 e f2 hK => ?_)
  rw [eb, el1] at hK
  have hT2 : kT x2 := hK.2.2.2
  have hB2 : Bs x q x2 := Bs_st (fm_w f2 (fun c k q => by unfold skC at q; omega)) hB1
  have z21 : ∀ k, x2.1 21 k = x.1 21 k := fun k => by rw [f2 21 k (by unfold skC; omega)]; exact e21 k
  have hKA := KA_ct hK
  obtain ⟨W, eW⟩ : ∃ W, W = pAl (ctK x2 e) (ctV x2 e) 701 (0, 0, 0, 0, 0) 0 [] := ⟨_, rfl⟩
  refine kh_readAll (d := d) hu.1 hT2 hKA (fun no y fy vy hn => ⟨rfl, ?_⟩) eW (fun y n L hOT hW hk0 hAy hny hHA hHB hTb hCn hCc => ?_)
  · have hBy : Bs x q y := Bs_st (fm_w fy (fun c k q => by unfold sR at q; omega)) hB2
    refine kg_X11_compile_42 (d := d + 13) (kTh_U hu) (kg_X7_tokenHere_0 (kTh_U hu).1 (ri_i ?_))
    refine p58 (kTh q) y _ _ (Or.inr rfl) (kTh_U hu) hBy (fun e => absurd e hn) (fun _ => vy) ⟨x2, e, hK, z21, fun k => by rw [fy 21 k (by unfold sR; omega)]; exact z21 k, Or.inr ⟨fun n j L e2 => ?_, hn⟩⟩
    rw [← eW, no] at e2
    exact absurd e2 (by simp)
  · have hBy : Bs x q y := Bs_st (fm_w hOT.2.2.2.2.2.1 (fun c k q => by unfold sR at q; omega)) hB2
    have hkT : kT y := hOT.1.1.1
    have hnx : 0 ≤ nx y := hOT.1.1.2.1
    have hnm : nx y ≤ mt y := hOT.1.1.2.2.2
    have hUS : US y := hOT.1.2.1
    have hFR := hOT.2.1
    have cy := nn_is hnx
    have hmt : (y.1 20 7).toInt ≤ 701 := by
      obtain ⟨-, n, hn, hn2, -⟩ := hkT
      omega
    have y21 : ∀ k, y.1 21 k = x.1 21 k := fun k => by rw [hOT.2.2.2.2.2.1 21 k (by unfold sR; omega)]; exact z21 k
    rw [eW] at hW
    obtain ⟨N9, eN, hok, srt, hbd, -⟩ := pAl_dT 701 _ _ _ _ hW
    have eN : L = N9 := eN
    rw [← eN] at hok srt hbd
    have hT1 : ∀ q ∈ L.filterMap (te1 (ctK x2 e) (ctV x2 e)), ctK x2 e q.1 = 1 ∧ q.1 < nn y := fun q hq => by
      obtain ⟨v, hv, ev⟩ := te_mem hq
      obtain ⟨g1, g2, -⟩ := te_is ev
      refine ⟨?_, (hbd q hq).2⟩
      rw [g2]
      exact (hok v hv).1 (by rcases g1 with g | g | g | g <;> rw [g] <;> decide)
    have hcf := CF_is (sN := smkB x2) (R := smk y) (Vx := y.1 27) (U := y.1 42) (fun a b z => smkB_is.mpr (smk_s (smkB_is.mp z))) (fun a b c z1 z2 => smkB_is.mpr (smk_t (smkB_is.mp z1) (smkB_is.mp z2))) rfl srt hok hT1 (fun a b ha hb ka kb => hAy.2.2.1 a b (by omega) (by omega) ka kb) (fun j hj k2 => hAy.2.1 j (by omega) k2) hHA hHB
    have lt9 : ∀ j : Nat, (j : Int) < (y.1 20 7).toInt → ¬ y.1 42 j = 0 → j < nn y := fun j hj h0 => by
      by_cases c : (j : Int) < nx y
      · omega
      · by_cases heq : (j : Int) = nx y
        · unfold FR at hFR
          have ej : (y.1 100 4).toNatClampNeg = j := by rw [t_cl]; show (nx y).toNat = j; omega
          rw [ej] at hFR
          exact absurd hFR h0
        · exact absurd (hUS.1 j (by omega) (by omega)) h0
    have hmy : mt y = (y.1 20 7).toInt := rfl
    refine kf_judge (d := d + 9) hu.1 hkT hOT.2.2.1.2.1 hTb (fun q hq => ?_) (fun j hj h0 => ?_) (fun j hj h12 => ?_) (fun r z fz hr0 hr1 hr2 hr3 => ?_)
    · obtain ⟨v, -, ev⟩ := te_mem hq
      exact te_srt ev
    · obtain ⟨v, E', hb⟩ := HBs_ex (hHB j (lt9 j hj h0) h0)
      exact HB_u hb
    · have hlt := lt9 j hj (by rw [h12]; decide)
      exact hUS.2 j (by omega) h12
    · have hBz : Bs x q z := Bs_st (fm_w fz (fun c k q => by omega)) hBy
      have emt : mt z = mt y := by unfold mt; rw [fz 20 7 (by omega)]
      have key : r = 0 ↔ ¬ jFl (smkB x2) (ctK x2 e) (ctV x2 e) L := by
        rw [hr2, ← hcf]
        refine ⟨fun g ⟨j, h1, h2⟩ => g ⟨j, by omega, h2⟩, fun g ⟨j, h1, h2⟩ => g ⟨j, lt9 j h1 (CF_n0 h2), h2⟩⟩
      refine p58 q z r _ (Or.inl rfl) hu hBz (fun e => ⟨x2, y, hOT, fm_w fz (fun c k q => by omega), fun j hj => hr0 e j (by rw [emt] at hj; exact hj)⟩) (fun e => ?_) ⟨x2, e, hK, z21, fun k => by rw [fz 21 k (by omega)]; exact y21 k, ?_⟩
      · have ht := hr1 e
        unfold tk at ht
        obtain ⟨-, n, hn, hn2, -⟩ := hkT
        rw [vp_in_iff]; omega
      · by_cases c0 : r = 0
        · refine Or.inl ⟨n, nn y, L, hW, key.mp c0, c0, CNk_k hCn (fun k hk => fz _ _ (by omega)), CCp_eq (fun c k q => fz c k (by unfold ccS at q; omega)) hCc, TBk_j hTb fz, fun j hj => ?_, fun j hj => ?_, ⟨nn y, ?_, ?_⟩, ?_, by rw [emt]; exact hmt⟩
          · have e42 : z.1 42 = y.1 42 := by funext k; exact fz 42 k (by omega)
            have hj' : (j : Int) < (y.1 20 7).toInt := by rw [emt] at hj; exact hj
            refine ⟨?_, fun z9 => ?_⟩
            · have sm : smk y = smk x2 := smk_e (fun c k q1 q2 => hOT.2.2.2.2.2.1 c k (by unfold sR; omega))
              have er : (fun a b => smkB x2 a b = true) = smk y := by
                funext a b
                rw [sm]
                exact propext smkB_is
              rw [er, e42]
              exact hr3 c0 j hj'
            · have := (hr0 c0 j hj').1
              rw [z9] at this
              revert this
              decide
          · have le : j ≤ e := by
              by_cases cc : j ≤ e
              · exact cc
              · unfold ctK at hj
                rw [if_neg cc] at hj
                exact absurd hj (by decide)
            rw [fz 27 j (by omega)]
            exact hAy.2.1 j le hj
          · have e42 : z.1 42 = y.1 42 := by funext k; exact fz 42 k (by omega)
            rw [e42]; exact hHA
          · rw [emt]; omega
          · have a := tPs_800 (sN := smkB x2) (E := E0v) hW
            have b := hAy.2.2.2.1
            omega
        · refine Or.inr ⟨fun n' j' L' e2 => ?_, c0⟩
          rw [hW] at e2
          have e3 : L = L' := congrArg (fun q : gN × Nat × gU => q.2.2) (Option.some.inj e2)
          rw [← e3]
          exact Classical.byContradiction (fun z => c0 (key.mpr z))
end KFR9
end
section
/-! class and model together: runs and tryings alike -/
def JC (C : gCo) (x w : gd) : Prop := (¬ x.1 0 9 = 0 ∧ w.1 0 66 = 1 ∧ x.1 60 6 = w.1 0 23 ∧ x.1 60 9 = w.1 0 24 ∧ x.1 60 10 = w.1 0 25 ∧ x.1 60 14 = w.1 0 26 ∧ x.1 60 16 = w.1 0 27) ∧ CK x C ∧ MK w C ∧ gdC C
def RNw (C : gCo) (wr n : Nat) (x w : gd) : Prop := (x.1 0 10 = 0 ∧ w.1 0 67 = 0) ∨ (¬ x.1 0 10 = 0 ∧ ¬ w.1 0 67 = 0 ∧ KRun C wr n (c96 w) x ∧ HistC C wr w ∧ (w.1 0 94).toInt = (n : Nat))
def TRw (C : gCo) (lm : Nat → Nat) (x w : gd) : Prop := ∀ wn, (wn = 0 ∨ wn = 1) → (x.1 (260 + 20 * wn) 0 = 0 ∧ w.1 119 wn = 0) ∨ (¬ x.1 (260 + 20 * wn) 0 = 0 ∧ ¬ w.1 119 wn = 0 ∧ TR3 C wn x (260 + 20 * wn) (tryM C wn (lm wn)) ∧ TYc C wn w (tryM C wn (lm wn)))
def ZM (w : gd) : Prop := w.1 0 67 = 0 ∧ w.1 119 0 = 0 ∧ w.1 119 1 = 0
def JH (C : gCo) (wr n : Nat) (lm : Nat → Nat) (x w : gd) : Prop := TXs x w ∧ (((x.1 0 9 = 0 ∧ w.1 0 66 = 0 ∧ z5 w) ∧ ZR x ∧ ZM w ∧ C = ([], [], [], [], [])) ∨ (JC C x w ∧ RNw C wr n x w ∧ TRw C lm x w))
def JR3 (x w : gd) : Prop := ∃ (C : gCo) (wr n : Nat) (lm : Nat → Nat), JH C wr n lm x w
section JN3
variable {C : gCo} {wr n : Nat} {lm : Nat → Nat} {x y w w' : gd} {q : kP} {l l1 l2 : Int32}
theorem GC_0 : GC (([], [], [], [], []) : gCo) := by
  refine ⟨⟨fun j st h => ?_, fun q h => ?_, fun Q h => ?_⟩, fun j st h => ?_, Nat.zero_le _⟩
  · exact absurd (gt_lt h) (Nat.not_lt_zero _)
  · cases h
  · rcases h with h | h <;> cases h
  · exact absurd (gt_lt h) (Nat.not_lt_zero _)
theorem NX3_0 : NX3 (([], [], [], [], []) : gCo) := fun j st h => absurd (gt_lt h) (Nat.not_lt_zero _)
theorem JC_C (hC : CO x) (h : JC C x w) : GC C ∧ NX3 C ∧ LkN C (x.1 60 9).toInt.toNat ∧ NCq C ∧ (x.1 60 9).toInt = ((x.1 60 9).toInt.toNat : Nat) ∧ (x.1 60 9).toInt.toNat ≤ 6 ∧ C.2.2.1.length ≤ 24 ∧ (w.1 0 26).toInt = (C.2.2.2.1.length : Nat) ∧ (w.1 0 27).toInt = (C.2.2.2.2.length : Nat) := by
  obtain ⟨⟨a1, a2, a3, a4, a5, a6, a7⟩, k1, k2, g1, g2, g3, g4⟩ := h
  have c6 := hC.1.1
  have c9 := hC.1.2.1
  have c10 := hC.1.2.2.1
  have e6 : (x.1 60 6).toInt = (C.2.2.1.length : Nat) := k1.2.2.1.1
  have e10 : (x.1 60 10).toInt = (C.2.1.length : Nat) := k1.2.1.1
  have e14 : (x.1 60 14).toInt = (C.2.2.2.1.length : Nat) := k1.2.2.2.1.1
  have e16 : (x.1 60 16).toInt = (C.2.2.2.2.length : Nat) := k1.2.2.2.2.1
  have en : (x.1 60 9).toInt = ((x.1 60 9).toInt.toNat : Nat) := by omega
  exact ⟨⟨g1, NXc_of hC k1 g1 g2, by omega⟩, g3, LkN_of hC k1 g1 en, NCq_of hC k1 g4, en, by omega, by omega, by rw [← a6]; exact e14, by rw [← a7]; exact e16⟩
theorem JH_gc (h : JH C wr n lm x w) (hH : HOI x q) : GC C ∧ NX3 C := by
  obtain ⟨-, ⟨-, -, -, e⟩ | ⟨j, -, -⟩⟩ := h
  · rw [e]; exact ⟨GC_0, NX3_0⟩
  · have := JC_C (hH.2.1 j.1.1) j
    exact ⟨this.1, this.2.1⟩
theorem JH_9 (h : JH C wr n lm x w) : x.1 0 9 = 0 ↔ w.1 0 66 = 0 := by
  obtain ⟨-, ⟨a, -⟩ | ⟨j, -⟩⟩ := h
  · exact ⟨fun _ => a.2.1, fun _ => a.1⟩
  · exact ⟨fun z => absurd z j.1.1, fun z => absurd (z.symm.trans j.1.2.1) (by decide)⟩
theorem JH_10 (h : JH C wr n lm x w) : x.1 0 10 = 0 ↔ w.1 0 67 = 0 := by
  obtain ⟨-, ⟨-, z, m, -⟩ | ⟨-, r, -⟩⟩ := h
  · exact ⟨fun _ => m.1, fun _ => z.1⟩
  · rcases r with ⟨a, b⟩ | ⟨a, b, -⟩
    · exact ⟨fun _ => b, fun _ => a⟩
    · exact ⟨fun z => absurd z a, fun z => absurd z b⟩
theorem JH_K (h : JH C wr n lm x w) (h9 : ¬ x.1 0 9 = 0) : JC C x w := by
  obtain ⟨-, ⟨a, -⟩ | ⟨j, -⟩⟩ := h
  · exact absurd a.1 h9
  · exact j
theorem JH_R (h : JH C wr n lm x w) (h10 : ¬ x.1 0 10 = 0) : JC C x w ∧ KRun C wr n (c96 w) x ∧ HistC C wr w ∧ (w.1 0 94).toInt = (n : Nat) := by
  obtain ⟨-, ⟨-, z, -⟩ | ⟨j, r, -⟩⟩ := h
  · exact absurd z.1 h10
  · rcases r with ⟨a, -⟩ | ⟨-, -, r⟩
    · exact absurd a h10
    · exact ⟨j, r⟩
/-- as many choices -/
theorem JH_84 (h : JH C wr n lm x w) (h10 : ¬ x.1 0 10 = 0) : x.1 120 13 = w.1 0 84 := by
  obtain ⟨-, r, hh, e94⟩ := JH_R h h10
  have e1 : (x.1 120 13).toInt = ((chM C wr (runM C wr (c96 w) n)).length : Nat) := r.2.1.2.2.1
  have e2 := HistC_n hh
  have en : (w.1 0 94).toInt.toNat = n := by rw [e94]; rfl
  rw [en] at e2
  rw [t_eq, e1, e2]
theorem JH_wr {wr' : Nat} (h : HistC C wr w) (g : HistC C wr' w) : wr' = wr := by
  obtain ⟨_, _, _, _, _, _, _, ⟨a1, a2⟩, _⟩ := h
  obtain ⟨_, _, _, _, _, _, _, ⟨b1, b2⟩, _⟩ := g
  exact wn_eq b1 a1 b2 a2
theorem JH_T (h : JH C wr n lm x w) : ∀ wn, (wn = 0 ∨ wn = 1) → (x.1 (260 + 20 * wn) 0 = 0 ↔ w.1 119 wn = 0) ∧ (¬ x.1 (260 + 20 * wn) 0 = 0 → JC C x w ∧ TR3 C wn x (260 + 20 * wn) (tryM C wn (lm wn)) ∧ TYc C wn w (tryM C wn (lm wn))) := by
  intro wn w01
  obtain ⟨-, ⟨-, z, m, -⟩ | ⟨j, -, t⟩⟩ := h
  · have e1 := z.2 (260 + 20 * wn) (by omega)
    have e2 : w.1 119 wn = 0 := by rcases w01 with e | e <;> rw [e]; exact m.2.1; exact m.2.2
    exact ⟨⟨fun _ => e2, fun _ => e1⟩, fun z9 => absurd e1 z9⟩
  · rcases t wn w01 with ⟨a, b⟩ | ⟨a, b, c⟩
    · exact ⟨⟨fun _ => b, fun _ => a⟩, fun z9 => absurd a z9⟩
    · exact ⟨⟨fun z9 => absurd z9 a, fun z9 => absurd z9 b⟩, fun _ => ⟨j, c⟩⟩
theorem TXs_k (h : TXs x w) (k : KF x y) (p : PM w w') : TXs y w' := by
  obtain ⟨h1, h2⟩ := h
  obtain ⟨k1, k2, k3, k4⟩ := k
  obtain ⟨-, p1, p2, p3⟩ := p
  exact ⟨by rw [k1, p1]; exact h1, fun q hq => by rw [k3, p3 2 (by decide)]; exact h2 q (by rw [← k1]; exact hq)⟩
theorem JC_k (h : JC C x w) (k : KF x y) (p : PM w w') : JC C y w' := by
  obtain ⟨k1, k2, k3, k4⟩ := k
  obtain ⟨-, p1, p2, p3⟩ := p
  obtain ⟨a, c1, c2, c3⟩ := h
  refine ⟨?_, CK_f c1 k4, MK_f c2 p2 p3, c3⟩
  rw [k2, k4 60 6 (by omega), k4 60 9 (by omega), k4 60 10 (by omega), k4 60 14 (by omega), k4 60 16 (by omega), p2 23 (by decide), p2 24 (by decide), p2 25 (by decide), p2 26 (by decide), p2 27 (by decide), p2 66 (by decide)]
  exact a
theorem z5_k (h : z5 w) (p : PM w w') : z5 w' := by
  obtain ⟨-, p1, p2, p3⟩ := p
  unfold z5 at h ⊢
  rw [p2 23 (by decide), p2 24 (by decide), p2 25 (by decide), p2 26 (by decide), p2 27 (by decide)]
  exact h
/-- calls that only look -/
theorem JQ_rd (h : JH C wr n lm x w) (hH : HOI y q) (k : KRd x y) (m : rdM C wr w w') : JR3 y w' := by
  have g : ∀ c k, ¬ sRd c k → y.1 c k = x.1 c k := k
  have kf := KR_KF k
  obtain ⟨p, ⟨m67, m94, m96⟩, m119, mh, mt⟩ := m
  have e10 : y.1 0 10 = x.1 0 10 := g _ _ (by unfold sRd; omega)
  have eo : ∀ o, (o = 260 ∨ o = 280) → y.1 o 0 = x.1 o 0 := fun o hO => g _ _ (by unfold sRd; omega)
  have ec : c96 w' = c96 w := by unfold c96; rw [m96]
  refine ⟨C, wr, n, lm, TXs_k h.1 kf p, ?_⟩
  rcases h.2 with ⟨⟨a1, a2, a3⟩, z, m, e⟩ | ⟨j, r, t⟩
  · refine Or.inl ⟨⟨by rw [kf.2.1]; exact a1, ?_, z5_k a3 p⟩, ⟨by rw [e10]; exact z.1, fun o hO => by rw [eo o hO]; exact z.2 o hO⟩, ⟨by rw [m67]; exact m.1, by rw [m119]; exact m.2.1, by rw [m119]; exact m.2.2⟩, e⟩
    rw [p.2.2.1 66 (by decide)]; exact a2
  · refine Or.inr ⟨JC_k j kf p, ?_, fun wn w01 => ?_⟩
    · rcases r with ⟨r1, r2⟩ | ⟨r1, r2, r3, r4, r5⟩
      · exact Or.inl ⟨by rw [e10]; exact r1, by rw [m67]; exact r2⟩
      · have y10 : ¬ y.1 0 10 = 0 := by rw [e10]; exact r1
        exact Or.inr ⟨y10, by rw [m67]; exact r2, by rw [ec]; exact KRun_rd k j.2.1 (hH.2.2.1 y10) r3, mh r4, by rw [m94]; exact r5⟩
    · rcases t wn w01 with ⟨t1, t2⟩ | ⟨t1, t2, t3, t4⟩
      · exact Or.inl ⟨by rw [eo _ (by omega)]; exact t1, by rw [m119]; exact t2⟩
      · exact Or.inr ⟨by rw [eo _ (by omega)]; exact t1, by rw [m119]; exact t2, TR3_rd (by omega) k t3, mt wn _ t4⟩
/-- calls that make a run, or do choices -/
theorem JQ_run {wr' n' : Nat} (h : JH C wr n lm x w) (h9 : ¬ x.1 0 9 = 0) (f : fm sRn x y) (p : PM w w') (e119 : w'.1 119 = w.1 119) (ty : ∀ wn T, TYc C wn w T → TYc C wn w' T) (r : KRun C wr' n' (c96 w') y) (h10 : ¬ y.1 0 10 = 0) (hh : HistC C wr' w') (h67 : ¬ w'.1 0 67 = 0) (h94 : (w'.1 0 94).toInt = (n' : Nat)) : JR3 y w' := by
  have kf := rn_20 f
  have eo : ∀ o, (o = 260 ∨ o = 280) → y.1 o 0 = x.1 o 0 := fun o hO => f _ _ (by unfold sRn; omega)
  refine ⟨C, wr', n', lm, TXs_k h.1 kf p, Or.inr ?_⟩
  rcases h.2 with ⟨⟨a1, -⟩, -⟩ | ⟨j, -, t⟩
  · exact absurd a1 h9
  · refine ⟨JC_k j kf p, Or.inr ⟨h10, h67, r, hh, h94⟩, fun wn w01 => ?_⟩
    rcases t wn w01 with ⟨t1, t2⟩ | ⟨t1, t2, t3, t4⟩
    · exact Or.inl ⟨by rw [eo _ (by omega)]; exact t1, by rw [e119]; exact t2⟩
    · exact Or.inr ⟨by rw [eo _ (by omega)]; exact t1, by rw [e119]; exact t2, TR3_rn (by omega) f t3, ty wn _ t4⟩
/-- what the model's calls leave: refused, or a run -/
def rnM (C : gCo) (wr n : Nat) (w w' : gd) : Prop := PM w w' ∧ w'.1 119 = w.1 119 ∧ (∀ wn T, TYc C wn w T → TYc C wn w' T) ∧ HistC C wr w' ∧ ¬ w'.1 0 67 = 0 ∧ (w'.1 0 94).toInt = (n : Nat)
theorem rnM_of {L A : List Nat} {wr' n' : Nat} (m : mi L A w w') (hA : [119, 120, 126, 130, 131, 132].all (fun k => !A.elem k) = true) (p : PM w w') (hh : HistC C wr' w') (h67 : ¬ w'.1 0 67 = 0) (h94 : (w'.1 0 94).toInt = (n' : Nat)) : rnM C wr' n' w w' := ⟨p, m.2 119 (by decide) (all_no hA 119 (by decide)), fun wn T h => TYc_mi m (all_sub hA rfl) h, hh, h67, h94⟩
/-! how a call answers: two ways to refuse, or an answer -/
def ansK (E1 E2 : Prop) (S : Int32 → gd → Prop) (x : gd) (r9 : Int32) (y : gd) : Prop := (E1 ∧ r9 = 1 ∧ KRd x y) ∨ (E2 ∧ r9 = 2 ∧ KRd x y) ∨ (¬ E1 ∧ ¬ E2 ∧ r9 = 0 ∧ ∃ r : Int32, y.2 299 (0 : Int32).toNatClampNeg = r.toInt64 ∧ S r y)
def ansM (C : gCo) (wr : Nat) (E1 E2 : Prop) (S : Int32 → gd → Prop) (w : gd) (r : Int32) (w' : gd) : Prop := MI w' ∧ ((E1 ∧ w'.1 0 0 = 1 ∧ rdM C wr w w') ∨ (E2 ∧ w'.1 0 0 = 2 ∧ rdM C wr w w') ∨ (¬ E1 ∧ ¬ E2 ∧ w'.1 0 0 = 0 ∧ S r w'))
def ansE (r9 r : Int32) (y w' : gd) : Prop := (r9 = 0 ∧ w'.1 0 0 = 0 ∧ y.2 299 (0 : Int32).toNatClampNeg = r.toInt64) ∨ (¬ r9 = 0 ∧ w'.1 0 0 = r9)
theorem ans_eq {E1 E2 E1' E2' : Prop} {S S' : Int32 → gd → Prop} {r9 r : Int32} (h : JH C wr n lm x w) (hH : HOI y q) (e1 : E1 ↔ E1') (e2 : E2 ↔ E2') (e3 : E1 → ¬ E2) (k : ansK E1 E2 S x r9 y) (m : ansM C wr E1' E2' S' w r w') (js : ¬ E1 → ¬ E2 → ∀ r', S r' y → S' r w' → JR3 y w' ∧ r' = r) : JR3 y w' ∧ ansE r9 r y w' := by
  obtain ⟨-, m⟩ := m
  rcases k with ⟨k1, k2, k3⟩ | ⟨k1, k2, k3⟩ | ⟨k1, k2, k3, r', k4, k5⟩
  · rcases m with ⟨m1, m2, m3⟩ | ⟨m1, m2, m3⟩ | ⟨m1, m2, m3, m4⟩
    · exact ⟨JQ_rd h hH k3 m3, Or.inr ⟨by rw [k2]; decide, by rw [m2, k2]⟩⟩
    · exact absurd (e2.mpr m1) (e3 k1)
    · exact absurd (e1.mp k1) m1
  · rcases m with ⟨m1, m2, m3⟩ | ⟨m1, m2, m3⟩ | ⟨m1, m2, m3, m4⟩
    · exact absurd k1 (e3 (e1.mpr m1))
    · exact ⟨JQ_rd h hH k3 m3, Or.inr ⟨by rw [k2]; decide, by rw [m2, k2]⟩⟩
    · exact absurd (e2.mp k1) m2
  · rcases m with ⟨m1, m2, m3⟩ | ⟨m1, m2, m3⟩ | ⟨m1, m2, m3, m4⟩
    · exact absurd (e1.mpr m1) k1
    · exact absurd (e2.mpr m1) k2
    · obtain ⟨j1, j2⟩ := js k1 k2 r' k5 m4
      exact ⟨j1, Or.inl ⟨k3, m3, by rw [k4, j2]⟩⟩
theorem JR3_84 (h : JR3 y w') (h10 : ¬ y.1 0 10 = 0) : y.1 120 13 = w'.1 0 84 := by
  obtain ⟨C, wr, n, lm, h⟩ := h
  exact JH_84 h h10
theorem JR3_94 (h : JR3 y w') (h10 : ¬ y.1 0 10 = 0) : y.1 160 2 = w'.1 0 94 := by
  obtain ⟨C, wr, n, lm, h⟩ := h
  obtain ⟨-, r, -, e⟩ := JH_R h h10
  rw [t_eq, e]
  exact r.2.2.2.1
theorem w_01 {wn : Nat} (h : wn = 0 ∨ wn = 1) (e : l = Int32.ofNat wn) : l = 0 ∨ l = 1 := by
  rcases h with rfl | rfl
  · exact Or.inl e
  · exact Or.inr e
/-! choices -/
abbrev e1Ch (x : gd) : Prop := x.1 0 10 = 0
def sCh (x : gd) (r : Int32) (y : gd) : Prop := r = x.1 120 13 ∧ KRd x y
abbrev f1Ch (w : gd) : Prop := w.1 0 67 = 0
def tCh (C : gCo) (wr : Nat) (w : gd) (r : Int32) (w' : gd) : Prop := r = w.1 0 84 ∧ rdM C wr w w'
theorem ja_choices {r9 r : Int32} (h : JH C wr n lm x w) (hH : HOI y q) (k : ansK (e1Ch x) False (sCh x) x r9 y) (m : ansM C wr (f1Ch w) False (tCh C wr w) w r w') : JR3 y w' ∧ ansE r9 r y w' :=
  ans_eq h hH (JH_10 h) Iff.rfl (fun _ z => z) k m (fun c _ r' s t => ⟨JQ_rd h hH s.2 t.2, by rw [s.1, t.1, JH_84 h c]⟩)
/-! begin -/
abbrev e1Bg (x : gd) : Prop := x.1 0 9 = 0
abbrev e2Bg (x : gd) (l : Int32) : Prop := ¬ x.1 0 9 = 0 ∧ ¬ (l = 0 ∨ l = 1)
def sBg (C : gCo) (x : gd) (l r : Int32) (y : gd) : Prop := r = y.1 120 13 ∧ ∃ wn : Nat, (wn = 0 ∨ wn = 1) ∧ l = Int32.ofNat wn ∧ fm sRn x y ∧ (∀ c, KRun C wn 0 c y) ∧ y.1 0 10 = 1
abbrev f1Bg (w : gd) : Prop := w.1 0 66 = 0
abbrev f2Bg (w : gd) (l : Int32) : Prop := ¬ w.1 0 66 = 0 ∧ ¬ (l = 0 ∨ l = 1)
def tBg (C : gCo) (w : gd) (l r : Int32) (w' : gd) : Prop := r = w'.1 0 84 ∧ ∃ wn : Nat, (wn = 0 ∨ wn = 1) ∧ l = Int32.ofNat wn ∧ rnM C wn 0 w w'
theorem ja_begin {r9 r : Int32} (h : JH C wr n lm x w) (hH : HOI y q) (k : ansK (e1Bg x) (e2Bg x l) (sBg C x l) x r9 y) (m : ansM C wr (f1Bg w) (f2Bg w l) (tBg C w l) w r w') : JR3 y w' ∧ ansE r9 r y w' := by
  have e9 := JH_9 h
  refine ans_eq h hH e9 ⟨fun z => ⟨fun a => z.1 (e9.mpr a), z.2⟩, fun z => ⟨fun a => z.1 (e9.mp a), z.2⟩⟩ (fun a z => z.1 a) k m (fun c _ r' s t => ?_)
  obtain ⟨s1, wn, k2, k3, k4, k5, k6⟩ := s
  obtain ⟨t1, wn', m2, m3, m4⟩ := t
  have e := wn_eq m2 k2 m3 k3
  subst e
  obtain ⟨p, e119, ty, hh, h67, h94⟩ := m4
  have y10 : ¬ y.1 0 10 = 0 := by rw [k6]; decide
  have j := JQ_run h c k4 p e119 ty (k5 _) y10 hh h67 h94
  exact ⟨j, by rw [s1, t1, JR3_84 j y10]⟩
/-! go -/
abbrev okGo (n : Nat) (x : gd) : Prop := ¬ x.1 0 10 = 0 ∧ n < 400
abbrev e1Go (n : Nat) (x : gd) : Prop := ¬ okGo n x
abbrev e2Go (n : Nat) (x : gd) (l : Int32) : Prop := okGo n x ∧ ¬ (0 ≤ l.toInt ∧ l.toInt < (x.1 120 13).toInt)
def sGo (C : gCo) (wr n : Nat) (c : Nat → Nat) (x : gd) (l r : Int32) (y : gd) : Prop := r = y.1 120 13 ∧ fm sRn x y ∧ KRun C wr (n + 1) (upf c n l.toNatClampNeg) y ∧ y.1 0 10 = x.1 0 10
abbrev okGm (w : gd) : Prop := ¬ w.1 0 67 = 0 ∧ (w.1 0 94).toInt < 400
abbrev f1Go (w : gd) : Prop := ¬ okGm w
abbrev f2Go (w : gd) (l : Int32) : Prop := okGm w ∧ ¬ (0 ≤ l.toInt ∧ l.toInt < (w.1 0 84).toInt)
def tGo (C : gCo) (wr n : Nat) (w : gd) (l r : Int32) (w' : gd) : Prop := r = w'.1 0 84 ∧ rnM C wr (n + 1) w w' ∧ c96 w' n = l.toNatClampNeg ∧ rwE (c96 w') (c96 w) n
theorem ja_go {r9 r : Int32} (h : JH C wr n lm x w) (hH : HOI y q) (k : ansK (e1Go n x) (e2Go n x l) (sGo C wr n (c96 w) x l) x r9 y) (m : ansM C wr (f1Go w) (f2Go w l) (tGo C wr n w l) w r w') : JR3 y w' ∧ ansE r9 r y w' := by
  have co : okGo n x ↔ okGm w := by
    by_cases c : x.1 0 10 = 0
    · exact ⟨fun z => absurd c z.1, fun z => absurd ((JH_10 h).mp c) z.1⟩
    · have e94 := (JH_R h c).2.2.2
      have c' : ¬ w.1 0 67 = 0 := fun z => c ((JH_10 h).mpr z)
      exact ⟨fun z => ⟨c', by have := z.2; omega⟩, fun z => ⟨c, by have := z.2; omega⟩⟩
  refine ans_eq h hH ⟨fun a b => a (co.mpr b), fun a b => a (co.mp b)⟩ ⟨fun z => ⟨co.mp z.1, by rw [← JH_84 h z.1.1]; exact z.2⟩, fun z => ⟨co.mpr z.1, by rw [JH_84 h (co.mpr z.1).1]; exact z.2⟩⟩ (fun a z => a z.1) k m (fun c _ r' s t => ?_)
  have c := Classical.not_not.mp c
  obtain ⟨s1, k2, k3, k4⟩ := s
  obtain ⟨t1, m2, m3, m4⟩ := t
  obtain ⟨p, e119, ty, hh, h67, h94⟩ := m2
  have y10 : ¬ y.1 0 10 = 0 := by rw [k4]; exact c.1
  have j := JQ_run h (JH_R h c.1).1.1.1 k2 p e119 ty (KRun_cg (fun j hj => by
    by_cases cj : j = n
    · rw [cj, upf_eq, m3]
    · rw [upf_ne cj, m4 j (by omega)]) k3) y10 hh h67 h94
  exact ⟨j, by rw [s1, t1, JR3_84 j y10]⟩
/-! draw -/
abbrev e2Dr (x : gd) (l2 : Int32) : Prop := ¬ x.1 0 10 = 0 ∧ ¬ (0 ≤ l2.toInt ∧ l2.toInt ≤ 400)
def sDr (C : gCo) (wr n : Nat) (c : Nat → Nat) (x : gd) (l1 l2 r : Int32) (y : gd) : Prop := r.toInt = ((drS C wr l2.toInt.toNat l1 c n).2 : Int) - n ∧ fm sRn x y ∧ KRun C wr (drS C wr l2.toInt.toNat l1 c n).2 (drS C wr l2.toInt.toNat l1 c n).1 y ∧ y.1 0 10 = x.1 0 10
abbrev f2Dr (w : gd) (l2 : Int32) : Prop := ¬ w.1 0 67 = 0 ∧ ¬ (0 ≤ l2.toInt ∧ l2.toInt ≤ 400)
def tDr (C : gCo) (wr n : Nat) (w : gd) (l1 l2 r : Int32) (w' : gd) : Prop := r.toInt = ((drS C wr l2.toInt.toNat l1 (c96 w) n).2 : Int) - n ∧ rnM C wr (drS C wr l2.toInt.toNat l1 (c96 w) n).2 w w' ∧ rwE (c96 w') (drS C wr l2.toInt.toNat l1 (c96 w) n).1 (drS C wr l2.toInt.toNat l1 (c96 w) n).2
theorem ja_draw {r9 r : Int32} (h : JH C wr n lm x w) (hH : HOI y q) (k : ansK (e1Ch x) (e2Dr x l2) (sDr C wr n (c96 w) x l1 l2) x r9 y) (m : ansM C wr (f1Ch w) (f2Dr w l2) (tDr C wr n w l1 l2) w r w') : JR3 y w' ∧ ansE r9 r y w' := by
  have e9 := JH_10 h
  refine ans_eq h hH e9 ⟨fun z => ⟨fun a => z.1 (e9.mpr a), z.2⟩, fun z => ⟨fun a => z.1 (e9.mp a), z.2⟩⟩ (fun a z => z.1 a) k m (fun c _ r' s t => ?_)
  obtain ⟨s1, k2, k3, k4⟩ := s
  obtain ⟨t1, m2, m3⟩ := t
  obtain ⟨p, e119, ty, hh, h67, h94⟩ := m2
  exact ⟨JQ_run h (JH_R h c).1.1.1 k2 p e119 ty (KRun_cg (fun j hj => (m3 j hj).symm) k3) (by rw [k4]; exact c) hh h67 h94, by rw [t_eq, s1, t1]⟩
/-! again -/
abbrev e2Ag (n : Nat) (x : gd) (l : Int32) : Prop := ¬ x.1 0 10 = 0 ∧ ¬ (0 ≤ l.toInt ∧ l.toInt ≤ (n : Nat))
def sAg (C : gCo) (wr : Nat) (c : Nat → Nat) (x : gd) (l r : Int32) (y : gd) : Prop := r = y.1 120 13 ∧ fm sRn x y ∧ KRun C wr l.toInt.toNat c y ∧ y.1 0 10 = 1
abbrev f2Ag (w : gd) (l : Int32) : Prop := ¬ w.1 0 67 = 0 ∧ ¬ (0 ≤ l.toInt ∧ l.toInt ≤ (w.1 0 94).toInt)
def tAg (C : gCo) (wr : Nat) (w : gd) (l r : Int32) (w' : gd) : Prop := r = w'.1 0 84 ∧ rnM C wr l.toInt.toNat w w' ∧ c96 w' = c96 w
theorem ja_again {r9 r : Int32} (h : JH C wr n lm x w) (hH : HOI y q) (k : ansK (e1Ch x) (e2Ag n x l) (sAg C wr (c96 w) x l) x r9 y) (m : ansM C wr (f1Ch w) (f2Ag w l) (tAg C wr w l) w r w') : JR3 y w' ∧ ansE r9 r y w' := by
  have e9 := JH_10 h
  refine ans_eq h hH e9 ⟨fun z => ⟨fun a => z.1 (e9.mpr a), by rw [(JH_R h z.1).2.2.2]; exact z.2⟩, fun z => ⟨fun a => z.1 (e9.mp a), by rw [← (JH_R h (fun a => z.1 (e9.mp a))).2.2.2]; exact z.2⟩⟩ (fun a z => z.1 a) k m (fun c _ r' s t => ?_)
  obtain ⟨s1, k2, k3, k4⟩ := s
  obtain ⟨t1, m2, m3⟩ := t
  obtain ⟨p, e119, ty, hh, h67, h94⟩ := m2
  have y10 : ¬ y.1 0 10 = 0 := by rw [k4]; decide
  have j := JQ_run h (JH_R h c).1.1.1 k2 p e119 ty (by rw [m3]; exact k3) y10 hh h67 h94
  exact ⟨j, by rw [s1, t1, JR3_84 j y10]⟩
/-! show -/
abbrev e1Sh (l1 l2 : Int32) : Prop := ¬ ((l1 = 0 ∨ l1 = 1) ∧ 0 ≤ l2.toInt ∧ l2.toInt < 11)
def shK (C : gCo) (Tw : Nat → gTy) (x : gd) (l1 l2 : Int32) : Prop := ∃ wn s : Nat, (wn = 0 ∨ wn = 1) ∧ l1 = Int32.ofNat wn ∧ 0 ≤ l2.toInt ∧ l2.toInt < 11 ∧ ¬ x.1 (260 + 20 * wn) 0 = 0 ∧ fsF C wn (Tw wn) l2.toInt.toNat s ∧ (pth (Tw wn) s).length ≤ 400
noncomputable abbrev twM (C : gCo) (lm : Nat → Nat) : Nat → gTy := fun v => tryM C v (lm v)
abbrev e2Sh (C : gCo) (lm : Nat → Nat) (x : gd) (l1 l2 : Int32) : Prop := ((l1 = 0 ∨ l1 = 1) ∧ 0 ≤ l2.toInt ∧ l2.toInt < 11) ∧ ¬ shK C (twM C lm) x l1 l2
def sSh (C : gCo) (lm : Nat → Nat) (x : gd) (l1 l2 r : Int32) (y : gd) : Prop := r = y.1 160 2 ∧ ∃ wn s : Nat, ((wn = 0 ∨ wn = 1) ∧ l1 = Int32.ofNat wn ∧ ¬ x.1 (260 + 20 * wn) 0 = 0 ∧ fsF C wn (twM C lm wn) l2.toInt.toNat s) ∧ fm sRn x y ∧ (∀ c, (∀ k v, (pth (twM C lm wn) s)[k]? = some v → c k = v) → KRun C wn (pth (twM C lm wn) s).length c y) ∧ y.1 0 10 = 1
abbrev f2Sh (C : gCo) (lm : Nat → Nat) (w : gd) (l1 l2 : Int32) : Prop := ((l1 = 0 ∨ l1 = 1) ∧ 0 ≤ l2.toInt ∧ l2.toInt < 11) ∧ ¬ shG C (twM C lm) w l1 l2
def tSh (C : gCo) (lm : Nat → Nat) (w : gd) (l1 l2 r : Int32) (w' : gd) : Prop := r = w'.1 0 94 ∧ ∃ wn s : Nat, ((wn = 0 ∨ wn = 1) ∧ l1 = Int32.ofNat wn ∧ ¬ w.1 119 wn = 0 ∧ fsF C wn (twM C lm wn) l2.toInt.toNat s) ∧ rnM C wn (pth (twM C lm wn) s).length w w' ∧ ∀ k v, (pth (twM C lm wn) s)[k]? = some v → c96 w' k = v
theorem ja_show {r9 r : Int32} (h : JH C wr n lm x w) (hH : HOI y q) (k : ansK (e1Sh l1 l2) (e2Sh C lm x l1 l2) (sSh C lm x l1 l2) x r9 y) (m : ansM C wr (e1Sh l1 l2) (f2Sh C lm w l1 l2) (tSh C lm w l1 l2) w r w') : JR3 y w' ∧ ansE r9 r y w' := by
  have tt := JH_T h
  have co : shK C (twM C lm) x l1 l2 ↔ shG C (twM C lm) w l1 l2 := ⟨fun ⟨wn, s, a1, a2, a3, a4, a5, a6⟩ => ⟨wn, s, a1, a2, a3, a4, fun z => a5 ((tt wn a1).1.mpr z), a6⟩, fun ⟨wn, s, a1, a2, a3, a4, a5, a6⟩ => ⟨wn, s, a1, a2, a3, a4, fun z => a5 ((tt wn a1).1.mp z), a6⟩⟩
  refine ans_eq h hH Iff.rfl ⟨fun z => ⟨z.1, fun a => z.2 (co.mpr a)⟩, fun z => ⟨z.1, fun a => z.2 (co.mp a)⟩⟩ (fun a z => a z.1) k m (fun c _ r' s t => ?_)
  obtain ⟨s1, wn, s, ⟨a1, a2, a5, a6⟩, k2, k3, k4⟩ := s
  obtain ⟨t1, wn', s', ⟨b1, b2, b5, b6⟩, m2, m3⟩ := t
  have e := wn_eq b1 a1 b2 a2
  subst e
  have e2 := fsF_u b6 a6
  subst e2
  obtain ⟨p, e119, ty, hh, h67, h94⟩ := m2
  have y10 : ¬ y.1 0 10 = 0 := by rw [k4]; decide
  have j := JQ_run h ((tt _ a1).2 a5).1.1.1 k2 p e119 ty (k3 _ m3) y10 hh h67 h94
  exact ⟨j, by rw [s1, t1, JR3_94 j y10]⟩
/-- a trying has its first state -/
theorem bfS_pre {w lim : Nat} : ∀ f s (T : gTy), T.1.length ≤ (bfS C w lim f s T).1.length := by
  intro f
  induction f with
  | zero => intro s T; exact Nat.le_refl _
  | succ f ih =>
    intro s T
    cases hs : T.1[s]? with
    | none => rw [bfS_end hs]; exact Nat.le_refl _
    | some p =>
      rw [bfS_go hs]
      have a := (onS_pre (C := C) (w := w) (lim := lim) (M := p.1) (gt_lt hs) s (chM C w p.1).length).2
      exact Nat.le_trans a (ih _ _)
theorem tryM_1 {w lim : Nat} : 1 ≤ (tryM C w lim).1.length := bfS_pre 3001 0 ([(fsM C, 0, 0)], false)
/-! attempt -/
abbrev e2At (x : gd) (l1 l2 : Int32) : Prop := ¬ x.1 0 9 = 0 ∧ ¬ ((l1 = 0 ∨ l1 = 1) ∧ 1 ≤ l2.toInt ∧ l2.toInt ≤ 3000)
def sAq (C : gCo) (x : gd) (l1 l2 r : Int32) (y : gd) : Prop := ∃ wn lim : Nat, ((wn = 0 ∨ wn = 1) ∧ l1 = Int32.ofNat wn ∧ l2.toInt = (lim : Nat)) ∧ r = y.1 (260 + 20 * wn) 0 ∧ KF x y ∧ fm (sAt (260 + 20 * wn)) x y ∧ TR3 C wn y (260 + 20 * wn) (tryM C wn lim)
abbrev f2At (w : gd) (l1 l2 : Int32) : Prop := ¬ w.1 0 66 = 0 ∧ ¬ ((l1 = 0 ∨ l1 = 1) ∧ 1 ≤ l2.toInt ∧ l2.toInt ≤ 3000)
def tAq (C : gCo) (wr : Nat) (w : gd) (l1 l2 r : Int32) (w' : gd) : Prop := ∃ wn lim : Nat, ((wn = 0 ∨ wn = 1) ∧ l1 = Int32.ofNat wn ∧ l2.toInt = (lim : Nat)) ∧ r = w'.1 120 wn ∧ PM w w' ∧ (w'.1 0 67 = w.1 0 67 ∧ w'.1 0 94 = w.1 0 94 ∧ w'.1 96 = w.1 96 ∧ (¬ w.1 0 67 = 0 → HistC C wr w')) ∧ TYc C wn w' (tryM C wn lim) ∧ ¬ w'.1 119 wn = 0 ∧ (∀ v, ¬ v = wn → w'.1 119 v = w.1 119 v) ∧ ow wn w w'
theorem ja_attempt {r9 r : Int32} (h : JH C wr n lm x w) (hH : HOI y q) (k : ansK (e1Bg x) (e2At x l1 l2) (sAq C x l1 l2) x r9 y) (m : ansM C wr (f1Bg w) (f2At w l1 l2) (tAq C wr w l1 l2) w r w') : JR3 y w' ∧ ansE r9 r y w' := by
  have e9 := JH_9 h
  refine ans_eq h hH e9 ⟨fun z => ⟨fun a => z.1 (e9.mpr a), z.2⟩, fun z => ⟨fun a => z.1 (e9.mp a), z.2⟩⟩ (fun a z => z.1 a) k m (fun c _ r' s t => ?_)
  obtain ⟨wn, lim, ⟨a1, a2, a3⟩, s1, k2, k3, k4⟩ := s
  obtain ⟨wn', lim', ⟨b1, b2, b3⟩, t1, p, ⟨m67, m94, m96, mh⟩, mt, mf, mo, ow9⟩ := t
  have e := wn_eq b1 a1 b2 a2
  subst e
  have e2 : lim' = lim := by omega
  subst e2
  have ec : c96 w' = c96 w := by unfold c96; rw [m96]
  have e10 : y.1 0 10 = x.1 0 10 := k3 _ _ (by unfold sAt; omega)
  refine ⟨⟨C, wr, n, upf lm wn' lim', TXs_k h.1 k2 p, Or.inr ?_⟩, by rw [s1, t1, t_eq, k4.1.1, mt.1]⟩
  rcases h.2 with ⟨⟨c1, -⟩, -⟩ | ⟨j, r, t⟩
  · exact absurd c1 c
  · refine ⟨JC_k j k2 p, ?_, fun v v01 => ?_⟩
    · rcases r with ⟨r1, r2⟩ | ⟨r1, r2, r3, r4, r5⟩
      · exact Or.inl ⟨by rw [e10]; exact r1, by rw [m67]; exact r2⟩
      · exact Or.inr ⟨by rw [e10]; exact r1, by rw [m67]; exact r2, by rw [ec]; exact KRun_at (by omega) j.2.1 k3 r3, mh r2, by rw [m94]; exact r5⟩
    · by_cases cv : v = wn'
      · rw [cv, upf_eq]
        refine Or.inr ⟨fun z9 => ?_, mf, k4, mt⟩
        have e9 := k4.1.1
        rw [z9] at e9
        have k0 : (0 : Int32).toInt = 0 := rfl
        have := tryM_1 (C := C) (w := wn') (lim := lim')
        omega
      · rw [upf_ne cv]
        have eo : y.1 (260 + 20 * v) 0 = x.1 (260 + 20 * v) 0 := k3 _ _ (by unfold sAt; omega)
        rcases t v v01 with ⟨t1, t2⟩ | ⟨t1, t2, t3, t4⟩
        · exact Or.inl ⟨by rw [eo]; exact t1, by rw [mo v cv]; exact t2⟩
        · exact Or.inr ⟨by rw [eo]; exact t1, by rw [mo v cv]; exact t2, TR3_at (by omega) (by omega) (by omega) k3 t3, TYc_ow TW_try (by omega) cv ow9 t4⟩
/-- calls that forget -/
theorem JR3_z (h : JR x w) (z : ZR x) (m : ZM w) : JR3 x w := by
  obtain ⟨h1, h2⟩ := h
  rcases h2 with h2 | ⟨a1, a2, a3, a4, a5, a6, a7, C, c1, c2, c3⟩
  · exact ⟨_, 0, 0, fun _ => 0, h1, Or.inl ⟨h2, z, m, rfl⟩⟩
  · refine ⟨C, 0, 0, fun _ => 0, h1, Or.inr ⟨⟨⟨a1, a2, a3, a4, a5, a6, a7⟩, c1, c2, c3⟩, Or.inl ⟨z.1, m.1⟩, fun wn w01 => Or.inl ⟨z.2 _ (by omega), ?_⟩⟩⟩
    rcases w01 with e | e <;> rw [e]
    · exact m.2.1
    · exact m.2.2
theorem JH_J (h : JH C wr n lm x w) : JR x w := by
  obtain ⟨h1, h2⟩ := h
  refine ⟨h1, ?_⟩
  rcases h2 with ⟨a, -⟩ | ⟨⟨a, b⟩, -⟩
  · exact Or.inl a
  · obtain ⟨a1, a2, a3, a4, a5, a6, a7⟩ := a
    exact Or.inr ⟨a1, a2, a3, a4, a5, a6, a7, C, b⟩
theorem JR3_x {x1 : gd} (e : x1.1 = x.1) (h : JR3 x w) : JR3 x1 w := by
  obtain ⟨C, wr, n, lm, h⟩ := h
  obtain ⟨x1a, x1b⟩ := x1
  have e : x1a = x.1 := e
  subst e
  exact ⟨C, wr, n, lm, h⟩
end JN3
end
