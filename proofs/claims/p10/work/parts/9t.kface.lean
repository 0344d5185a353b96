/-! the class: its calls -/
section KFA
variable {G : kG} {q q0 q1 : kP} {d : Nat} {x x0 y z : gd} {o : Nat} {F : Int32 → gd → Prop} {Fv : gd → Prop} {P : Option gv → gd → Prop} {X : String → gd → Prop}
/-- the text, whether it is compiled, and the counts stay -/
def KF (x y : gd) : Prop := y.1 20 1 = x.1 20 1 ∧ y.1 0 9 = x.1 0 9 ∧ (∀ k, y.1 21 k = x.1 21 k) ∧ ∀ c k, (60 ≤ c ∧ c < 90 ∧ ¬ (c = 60 ∧ k = 5) ∧ c ≠ 65) → y.1 c k = x.1 c k
theorem KF_rf : KF x x := ⟨rfl, rfl, fun _ => rfl, fun _ _ _ => rfl⟩
theorem KF_tr (h : KF x y) (g : KF y z) : KF x z := ⟨g.1.trans h.1, g.2.1.trans h.2.1, fun k => (g.2.2.1 k).trans (h.2.2.1 k), fun c k hk => (g.2.2.2 c k hk).trans (h.2.2.2 c k hk)⟩
theorem KF_fm {S : Nat → Nat → Prop} (f : fm S x y) (hS : ∀ c k, S c k → ¬ ((c = 20 ∧ k = 1) ∨ (c = 0 ∧ k = 9) ∨ c = 21 ∨ (60 ≤ c ∧ c < 90 ∧ ¬ (c = 60 ∧ k = 5) ∧ c ≠ 65))) : KF x y := ⟨f _ _ (fun z => hS _ _ z (Or.inl ⟨rfl, rfl⟩)), f _ _ (fun z => hS _ _ z (Or.inr (Or.inl ⟨rfl, rfl⟩))), fun k => f _ _ (fun z => hS _ _ z (Or.inr (Or.inr (Or.inl rfl)))), fun c k hc => f _ _ (fun z => hS _ _ z (Or.inr (Or.inr (Or.inr hc))))⟩
theorem rn_20 (f : fm sRn x y) : KF x y := KF_fm f (fun c k q => by unfold sRn at q; omega)
theorem rn_Lk {c k : Nat} (h : sLk 120 c k) : sRn c k := by unfold sLk at h; unfold sRn; omega
theorem kz_fault (hq : kV q) (hH : HOI x q) (l : Int32) (hO : X iOE x) (hP : ∀ r y, HOI y q → KF x y → P (some (vi r)) y) : KE G q (d + 6) zk_X11_fault 0 [(0, vr 0), (1, vi l)] [] x P X := by
  have p19 : KE G q (d + 6) zk_X11_fault 19 [(0, vr 0), (1, vi l)] [] x P X := kg_X11_fault_19 hq l ⟨fun _ => hP _ x hH KF_rf, fun _ => hP _ x hH KF_rf⟩
  exact kg_X11_fault_0 hq l ⟨fun _ => p19, fun _ => ⟨fun _ => p19, fun _ => hO⟩⟩
/-- what count answers -/
def cntK (x : gd) (l r : Int32) : Prop := (x.1 0 9 = 0 ∧ r = 0) ∨ (¬ x.1 0 9 = 0 ∧ ((l = 0 ∧ r = x.1 60 6) ∨ (l = 1 ∧ r = x.1 60 9) ∨ (l = 2 ∧ r = x.1 60 10) ∨ (l = 3 ∧ r = x.1 60 14) ∨ (l = 4 ∧ r = x.1 60 16)))
theorem kz_count (hq : kV q) (hH : HOI x q) (l : Int32) (hO : ¬ (0 ≤ l.toInt ∧ l.toInt ≤ 4) → X iOE x) (hP : (0 ≤ l.toInt ∧ l.toInt ≤ 4) → ∀ r y, HOI y q → y = x → cntK x l r → P (some (vi r)) y) : KE G q (d + 7) zk_X11_count 0 [(0, vr 0), (1, vi l)] [] x P X := by
  have k0 : (0 : Int32).toInt = 0 := rfl
  have k1 : (1 : Int32).toInt = 1 := rfl
  have k2 : (2 : Int32).toInt = 2 := rfl
  have k3 : (3 : Int32).toInt = 3 := rfl
  have k4 : (4 : Int32).toInt = 4 := rfl
  have k5 : (5 : Int32).toInt = 5 := rfl
  refine kg_X11_count_0 hq l (kg_X11_needWhat_0 hq l 5 ⟨fun c => kg_X11_needWhat_9 hq (hO ?_), fun c => ⟨fun c5 => rv_i ?_, fun c5 => kg_X11_needWhat_9 hq (hO ?_)⟩⟩)
  · rw [t_lt, k0] at c; omega
  · rw [t_lt, k0] at c
    rw [t_lt, k5] at c5
    have ok : 0 ≤ l.toInt ∧ l.toInt ≤ 4 := by omega
    refine ⟨fun c9 => ⟨fun e => hP ok _ x hH rfl (Or.inr ⟨c9, Or.inl ⟨e, rfl⟩⟩), fun e => hP ok _ x hH rfl (Or.inr ⟨c9, Or.inr (Or.inl ⟨e, rfl⟩)⟩), fun e => hP ok _ x hH rfl (Or.inr ⟨c9, Or.inr (Or.inr (Or.inl ⟨e, rfl⟩))⟩), fun e => hP ok _ x hH rfl (Or.inr ⟨c9, Or.inr (Or.inr (Or.inr (Or.inl ⟨e, rfl⟩)))⟩), fun e => hP ok _ x hH rfl (Or.inr ⟨c9, Or.inr (Or.inr (Or.inr (Or.inr ⟨?_, rfl⟩)))⟩)⟩, fun c9 => hP ok _ x hH rfl (Or.inl ⟨c9, rfl⟩)⟩
    have n0 := e 0 (by decide)
    have n1 := e 1 (by decide)
    have n2 := e 2 (by decide)
    have n3 := e 3 (by decide)
    rw [t_eq, k0] at n0
    rw [t_eq, k1] at n1
    rw [t_eq, k2] at n2
    rw [t_eq, k3] at n3
    rw [t_eq, k4]
    omega
  · rw [t_lt, k5] at c5; omega
theorem kz_begin {C : gCo} (hq : kV q) (hH : HOI x q) (l : Int32) (hKC : ¬ x.1 0 9 = 0 → CK x C ∧ NC C) (hS : x.1 0 9 = 0 → X iSE x) (hA : ¬ x.1 0 9 = 0 → ¬ (l = 0 ∨ l = 1) → X iAE x) (hP : ¬ x.1 0 9 = 0 → (l = 0 ∨ l = 1) → ∀ r y, HOI y q → KF x y → bgR C r → P (some (vi r)) y) : KE G q (d + 7) zk_X11_begin 0 [(0, vr 0), (1, vi l)] [] x P X :=
  kg_X11_begin_0 hq l (kf_comp hq hH hS (fun c9 hC => kf_way hq l (hA c9) (fun hw => kf_beginRun hq hC (hKC c9).1 (hKC c9).2 l hw (fun y f hR hb => hP c9 hw _ y (HOI_run f hR hH) (rn_20 f) hb))))
theorem kz_choices (hq : kV q) (hH : HOI x q) (hS : X iSE x) (hP : ∀ r y, HOI y q → KF x y → P (some (vi r)) y) : KE G q (d + 7) zk_X11_choices 0 [(0, vr 0)] [] x P X :=
  kg_X11_choices_0 hq (kz_run hq hH hS (fun _ => hP _ x hH KF_rf))
theorem kz_choice (hq : kV q) (hH : HOI x q) (l1 l2 : Int32) (hS : X iSE x) (hO : X iOE x) (hP : ∀ r y, HOI y q → KF x y → P (some (vi r)) y) : KE G q (d + 7) zk_X11_choice 0 [(0, vr 0), (1, vi l1), (2, vi l2)] [] x P X := by
  have here : ∀ r, P (some (vi r)) x := fun r => hP r x hH KF_rf
  have hm : kiM q 120 := Or.inl rfl
  refine kg_X11_choice_0 hq l1 l2 (kz_run hq hH hS (fun hR => kz_ix hq l1 _ hO (fun h0 h1 => kz_what hq l2 5 hO ?_)))
  obtain ⟨hM, hL, hJ⟩ := hR
  have b84 := hL.1
  have v84 : vp_in l1 84 := by rw [vp_in_iff]; omega
  obtain ⟨T, e1, e2, e3⟩ := hL.2 l1.toInt.toNat (by omega)
  have hT6 := MM_6 hM.1 e2
  obtain ⟨hA, -⟩ := hM.2.2 T e2
  have e1 : (x.1 131 l1.toInt.toNat).toInt = T := e1
  have e3 : (x.1 132 l1.toInt.toNat = -1 ∧ rg x 120 T 0 = 1) ∨ ∃ J : Nat, (x.1 132 l1.toInt.toNat).toInt = J ∧ (J : Int) < (rg x 120 T 7).toInt := e3
  rw [t_cl]
  refine ⟨v84, v84, fun _ => here _, fun _ => ⟨fun _ => here _, fun _ => here _⟩, fun _ => ⟨fun _ => here _, fun _ => kp_sortOf hq hm hM.1 hM.2.1 _ e1 hT6 hA (fun _ => here _) (fun _ => here _)⟩, fun _ => ⟨fun c => ?_, fun _ => km_objectOf hq hm hM _ e1 e2 (fun r y f _ => hP r y (HOI_run (fm_w f (fun c k => rn_Lk)) (RUN_Lk f ⟨hM, hL, hJ⟩) hH) (rn_20 (fm_w f (fun c k => rn_Lk))))⟩, fun _ => ⟨v84, here _⟩⟩
  rcases e3 with e | ⟨J, ej, hJ7⟩
  · exact absurd e.1 c
  · exact kp_lateCell hq hm hM.1 hM.2.1 _ _ e1 hT6 ej (by have := hA.2.1; omega) (here _)
theorem kz_go (hq : kV q) (hH : HOI x q) (l : Int32) (hS : X iSE x) (hO : X iOE x) (hP : ∀ r y, HOI y q → KF x y → P (some (vi r)) y) : KE G q (d + 7) zk_X11_go 0 [(0, vr 0), (1, vi l)] [] x P X :=
  kg_X11_go_0 hq l (kz_run hq hH hS (fun hR => ⟨fun _ => kz_ix hq l _ hO (fun _ _ => kz_doChoice hq hR l (fun y f hR2 => hP _ y (HOI_run f hR2 hH) (rn_20 f))), fun _ => hS⟩))
theorem kz_draw (hq : kV q) (hH : HOI x q) (l1 l2 : Int32) (hS : X iSE x) (hA : X iAE x) (hP : ∀ r y, HOI y q → KF x y → P (some (vi r)) y) : KE G q (d + 7) zk_X11_draw 0 [(0, vr 0), (1, vi l1), (2, vi l2)] [] x P X := by
  have k1 : (1 : Int32).toInt = 1 := rfl
  have k0 : (0 : Int32).toInt = 0 := rfl
  have k4 : (400 : Int32).toInt = 400 := rfl
  refine kg_X11_draw_0 hq l1 l2 (kz_run hq hH hS (fun hR => ⟨fun _ => kg_X11_draw_15 hq hA, fun _ => ⟨fun c4 => ?_, fun _ => kg_X11_draw_15 hq hA⟩⟩))
  rw [t_le, k4] at c4
  have loop : ∀ (n k : Nat) (l3 l4 l5 : Int32) (y : gd), l5.toInt = k → l2.toInt - k ≤ n → fm sRn x y → RUN y → KE G q (d + 7) zk_X11_draw 33 [(0, vr 0), (2, vi l2), (3, vi l3), (4, vi l4), (5, vi l5)] [] y P X := by
    intro n
    induction n with
    | zero =>
      intro k l3 l4 l5 y e5 hn fy hRy
      refine kg_X11_draw_33 hq l2 l3 l4 l5 ⟨fun _ => hP _ y (HOI_run fy hRy hH) (rn_20 fy), fun c => ?_⟩
      rw [t_le] at c; omega
    | succ n ih =>
      intro k l3 l4 l5 y e5 hn fy hRy
      have done : ∀ r, P (some (vi r)) y := fun r => hP r y (HOI_run fy hRy hH) (rn_20 fy)
      refine kg_X11_draw_33 hq l2 l3 l4 l5 ⟨fun _ => done _, fun c => ⟨fun _ => done _, fun c2 => ⟨fun _ => done _, fun _ => ⟨?_, kz_doChoice hq hRy _ (fun z fz hRz => ?_)⟩⟩⟩⟩
      · rw [t_le, k0] at c2
        intro e
        rw [e, k0] at c2; omega
      · rw [t_le] at c
        exact ih (k + 1) _ _ _ z (by rw [t_add (by rw [k1]; omega) (by rw [k1]; omega), k1, e5]; rfl) (by push_cast; omega) (fm_tr fy fz) hRz
  exact loop 400 0 _ _ _ x rfl (by omega) (fm_rf _ _) hR
theorem kz_again (hq : kV q) (hH : HOI x q) (l1 : Int32) (hS : X iSE x) (hA : X iAE x) (hP : ∀ r y, HOI y q → KF x y → P (some (vi r)) y) : KE G q (d + 7) zk_X11_again 0 [(0, vr 0), (1, vi l1)] [] x P X := by
  have k1 : (1 : Int32).toInt = 1 := rfl
  refine kg_X11_again_0 hq l1 (kz_run hq hH hS (fun hR => ⟨fun _ => kg_X11_again_19 hq hA, fun _ => ⟨fun c4 => ?_, fun _ => kg_X11_again_19 hq hA⟩⟩))
  rw [t_le] at c4
  have c4 : l1.toInt ≤ 400 := by have := hR.2.2.1; omega
  have loop : ∀ (n k : Nat) (l2 : Int32) (y : gd), l2.toInt = k → l1.toInt - k ≤ n → fm sRn x y → RUN y → KE G q (d + 7) zk_X11_again 42 [(0, vr 0), (1, vi l1), (2, vi l2)] [] y P X := by
    intro n
    induction n with
    | zero =>
      intro k l2 y e5 hn fy hRy
      refine kg_X11_again_42 hq l1 l2 ⟨fun _ => hP _ y (HOI_run fy hRy hH) (rn_20 fy), fun c => ?_⟩
      rw [t_le] at c; omega
    | succ n ih =>
      intro k l2 y e5 hn fy hRy
      refine kg_X11_again_42 hq l1 l2 ⟨fun _ => hP _ y (HOI_run fy hRy hH) (rn_20 fy), fun c => ?_⟩
      rw [t_le] at c
      exact ⟨by rw [vp_in_iff]; omega, kz_doChoice hq hRy _ (fun z fz hRz => ih (k + 1) _ z (by rw [t_add (by rw [k1]; omega) (by rw [k1]; omega), k1, e5]; rfl) (by push_cast; omega) (fm_tr fy fz) hRz)⟩
  exact kz_beginRun hq hR.1.1 _ hR.1.2.1.1 (fun y f hRy => loop 400 0 _ y rfl (by omega) f hRy)
theorem kz_runq (hq : kV q) (hH : HOI x q) (l : Int32) (hS : X iSE x) (hO : X iOE x) (hP : ∀ r y, HOI y q → KF x y → P (some (vi r)) y) : KE G q (d + 7) zk_X11_run 0 [(0, vr 0), (1, vi l)] [] x P X := by
  have here : ∀ r, P (some (vi r)) x := fun r => hP r x hH KF_rf
  have hm : kiM q 120 := Or.inl rfl
  exact kg_X11_run_0 hq l (kz_run hq hH hS (fun hR => kz_what hq l 8 hO ⟨fun _ => here _, fun _ => here _, fun _ => here _, fun _ => ⟨fun _ => here _, fun _ => here _⟩, fun _ => km_isStuck hq hm hR.1 (fun r => ⟨fun _ => here _, fun _ => here _⟩), fun _ => kj_races hq hR.2.2 (fun r => here r), fun _ => here _, fun _ => km_allLate hq hm hR.1 (fun r => here r)⟩))
theorem kz_cell (hq : kV q) (hH : HOI x q) (l : Int32) (hS : X iSE x) (hO : X iOE x) (hP : ∀ r y, HOI y q → KF x y → P (some (vi r)) y) : KE G q (d + 7) zk_X11_cell 0 [(0, vr 0), (1, vi l)] [] x P X :=
  kg_X11_cell_0 hq l (kz_run hq hH hS (fun hR => kz_ix hq l _ hO (fun h0 h1 => ⟨by have := hR.1.1.1.1; rw [vp_in_iff]; omega, hP _ x hH KF_rf⟩)))
theorem kz_seen (hq : kV q) (hH : HOI x q) (l1 l2 : Int32) (hS : X iSE x) (hO : X iOE x) (hP : ∀ r y, HOI y q → KF x y → P (some (vi r)) y) : KE G q (d + 7) zk_X11_seen 0 [(0, vr 0), (1, vi l1), (2, vi l2)] [] x P X := by
  have hm : kiM q 120 := Or.inl rfl
  refine kg_X11_seen_0 hq l1 l2 (kz_run hq hH hS (fun hR => kz_ix hq l1 _ hO (fun h0 h1 => kz_ix hq l2 _ hO (fun g0 g1 => ?_))))
  have hT : ((l1.toInt.toNat : Nat) : Int) < (x.1 60 10).toInt := by omega
  exact kp_seenBy hq hm hR.1.1 hR.1.2.1 l1 l2 (T := l1.toInt.toNat) (by omega) (MM_6 hR.1.1 hT) (hR.1.2.2 _ hT).1 (by have := hR.1.1.1.1; omega) (fun r => hP r x hH KF_rf)
theorem kz_lock (hq : kV q) (hH : HOI x q) (l1 l2 : Int32) (hS : X iSE x) (hO : X iOE x) (hP : ∀ r y, HOI y q → KF x y → P (some (vi r)) y) : KE G q (d + 7) zk_X11_lock 0 [(0, vr 0), (1, vi l1), (2, vi l2)] [] x P X := by
  have hm : kiM q 120 := Or.inl rfl
  exact kg_X11_lock_0 hq l1 l2 (kz_run hq hH hS (fun hR => kz_ix hq l1 _ hO (fun h0 h1 => kz_what hq l2 3 hO ⟨fun _ => kp_holder hq hm hR.1.1 hR.1.2.1 l1 h0 h1 (fun r => hP r x hH KF_rf), fun _ => kp_often hq hm hR.1.1 hR.1.2.1 l1 h0 h1 (fun r => hP r x hH KF_rf), fun _ => kp_waiters hq hm hR.1.1 hR.1.2.1 l1 (fun r r14 => hP r14 x hH KF_rf)⟩)))
theorem kz_thread (hq : kV q) (hH : HOI x q) (l1 l2 : Int32) (hS : X iSE x) (hO : X iOE x) (hP : ∀ r y, HOI y q → KF x y → P (some (vi r)) y) : KE G q (d + 7) zk_X11_thread 0 [(0, vr 0), (1, vi l1), (2, vi l2)] [] x P X := by
  have hm : kiM q 120 := Or.inl rfl
  refine kg_X11_thread_0 hq l1 l2 (kz_run hq hH hS (fun hR => kz_ix hq l1 _ hO (fun h0 h1 => kz_what hq l2 5 hO ?_)))
  have hT : ((l1.toInt.toNat : Nat) : Int) < (x.1 60 10).toInt := by omega
  have eT : l1.toInt = ((l1.toInt.toNat : Nat) : Int) := by omega
  have hT6 := MM_6 hR.1.1 hT
  have hA := (hR.1.2.2 _ hT).1
  exact ⟨fun _ => kp_get hq hm hR.1.1 hR.1.2.1 l1 0 (K := 0) eT rfl hT6 (by omega) (hP _ x hH KF_rf), fun _ => kp_get hq hm hR.1.1 hR.1.2.1 l1 1 (K := 1) eT rfl hT6 (by omega) (hP _ x hH KF_rf), fun _ => kp_get hq hm hR.1.1 hR.1.2.1 l1 7 (K := 7) eT rfl hT6 (by omega) (hP _ x hH KF_rf), fun _ => kp_known hq hm hR.1.1 hR.1.2.1 l1 eT hT6 hA (fun r _ _ => hP r x hH KF_rf), fun _ => kp_lineOf hq hm hR.1.1 hR.1.2.1 l1 eT hT6 hA (fun r => hP r x hH KF_rf)⟩
theorem kz_local (hq : kV q) (hH : HOI x q) (l1 l2 : Int32) (hS : X iSE x) (hO : X iOE x) (hP : ∀ r y, HOI y q → KF x y → P (some (vi r)) y) : KE G q (d + 7) zk_X11_local 0 [(0, vr 0), (1, vi l1), (2, vi l2)] [] x P X := by
  have hm : kiM q 120 := Or.inl rfl
  have k8 : (8 : Int32).toInt = 8 := rfl
  refine kg_X11_local_0 hq l1 l2 (kz_run hq hH hS (fun hR => kz_ix hq l1 _ hO (fun h0 h1 => ?_)))
  have hT : ((l1.toInt.toNat : Nat) : Int) < (x.1 60 10).toInt := by omega
  have eT : l1.toInt = ((l1.toInt.toNat : Nat) : Int) := by omega
  have hT6 := MM_6 hR.1.1 hT
  have hA := (hR.1.2.2 _ hT).1
  refine kp_known hq hm hR.1.1 hR.1.2.1 l1 eT hT6 hA (fun r r0 r8 => kz_ix hq l2 r hO (fun g0 g1 => kp_get hq hm hR.1.1 hR.1.2.1 l1 (8 + l2) (K := 8 + l2.toInt.toNat) eT ?_ hT6 (by omega) (hP _ x hH KF_rf)))
  rw [t_add (by rw [k8]; omega) (by rw [k8]; omega), k8]; omega
theorem kz_act (hq : kV q) (hH : HOI x q) (l1 l2 : Int32) (hS : X iSE x) (hO : X iOE x) (hP : ∀ r y, HOI y q → KF x y → P (some (vi r)) y) : KE G q (d + 7) zk_X11_act 0 [(0, vr 0), (1, vi l1), (2, vi l2)] [] x P X := by
  have here : ∀ r, P (some (vi r)) x := fun r => hP r x hH KF_rf
  refine kg_X11_act_0 hq l1 l2 (kz_run hq hH hS (fun hR => kz_ix hq l1 _ hO (fun h0 h1 => kz_what hq l2 5 hO ?_)))
  have v : vp_in l1 400 := by have := hR.2.2.1; rw [vp_in_iff]; omega
  exact ⟨fun _ => ⟨v, here _⟩, fun _ => ⟨v, here _⟩, fun _ => ⟨v, here _⟩, fun _ => ⟨v, here _⟩, fun _ => ⟨v, here _⟩⟩
theorem kz_before (hq : kV q) (hH : HOI x q) (l1 l2 : Int32) (hS : X iSE x) (hO : X iOE x) (hP : ∀ r y, gbool r → HOI y q → KF x y → P (some (vi r)) y) : KE G q (d + 7) zk_X11_before 0 [(0, vr 0), (1, vi l1), (2, vi l2)] [] x P X := by
  exact kg_X11_before_0 hq l1 l2 (kz_run hq hH hS (fun hR => kz_ix hq l1 _ hO (fun h0 h1 => kz_ix hq l2 _ hO (fun g0 g1 => kj_isBefore hq hR.2.2 l1 l2 (A := l1.toInt.toNat) (B := l2.toInt.toNat) (by omega) (by omega) (by omega) (by omega) (fun r gr => ⟨gr, hP r x gr hH KF_rf⟩)))))
theorem kz_race (hq : kV q) (hH : HOI x q) (l1 l2 : Int32) (hS : X iSE x) (hO : X iOE x) (hP : ∀ r y, HOI y q → KF x y → P (some (vi r)) y) : KE G q (d + 7) zk_X11_race 0 [(0, vr 0), (1, vi l1), (2, vi l2)] [] x P X :=
  kg_X11_race_0 hq l1 l2 (kz_run hq hH hS (fun hR => kj_races hq hR.2.2 (fun r => kz_ix hq l1 _ hO (fun h0 h1 => kz_what hq l2 2 hO (kj_laterOfRace hq hR.2.2 l1 (fun r7 hr7 => ⟨fun _ => kj_earlierOfRace hq hR.2.2 l1 r7 hr7 (fun r => hP r x hH KF_rf), fun _ => hP _ x hH KF_rf⟩))))))
theorem kz_tried (hq : kV q) (hH : HOI x q) (l1 l2 : Int32) (hA : X iAE x) (hO : X iOE x) (hP : ∀ r y, HOI y q → KF x y → P (some (vi r)) y) : KE G q (d + 7) zk_X11_tried 0 [(0, vr 0), (1, vi l1), (2, vi l2)] [] x P X := by
  have here : ∀ r, P (some (vi r)) x := fun r => hP r x hH KF_rf
  exact kg_X11_tried_0 hq l1 l2 (kz_way hq l1 hA (fun hw => kz_what hq l2 6 hO (kz_was hq hH l1 hw ⟨fun c => absurd rfl c, fun _ => here _⟩ (fun o e7 ho hz ht hC hp => ⟨fun _ => ⟨way_in hw, fun u7 e => ⟨o, by rw [e, e7], ho, fun _ => here _, fun _ => ⟨fun _ => here _, fun _ => here _⟩, fun _ => here _, fun _ => here _, fun _ => here _, fun _ => here _⟩⟩, fun _ => here _⟩))))
theorem kz_outcome (hq : kV q) (hH : HOI x q) (l1 l2 l3 : Int32) (hA : X iAE x) (hO : X iOE x) (hP : ∀ r y, HOI y q → KF x y → P (some (vi r)) y) : KE G q (d + 7) zk_X11_outcome 0 [(0, vr 0), (1, vi l1), (2, vi l2), (3, vi l3)] [] x P X := by
  have here : ∀ r, P (some (vi r)) x := fun r => hP r x hH KF_rf
  have k0 : (0 : Int32).toInt = 0 := rfl
  refine kg_X11_outcome_0 hq l1 l2 l3 (kz_way hq l1 hA (fun hw => kz_was hq hH l1 hw ⟨fun _ => kg_X11_outcome_26 hq l1 l2 l3 _ _ (kz_ix hq l2 0 hO (fun h0 h1 => ?_)), fun c => absurd rfl c⟩ (fun o e7 ho hz ht hC hp => ⟨fun c => absurd c (by decide), fun _ => ⟨way_in hw, fun u6 e6 => ⟨o, by rw [e6, e7], ho, kg_X11_outcome_26 hq l1 l2 l3 _ _ (kz_ix hq l2 _ hO (fun h0 h1 => kz_ix hq l3 _ hO (fun g0 g1 => ⟨way_in hw, fun u4 e4 => ⟨o, by rw [e4, e7], ho, kt_valueOf hq ho l2 l3 ht ⟨h0, h1⟩ (by have := hC.1.1; omega) (fun r => here r)⟩⟩)))⟩⟩⟩)))
  rw [k0] at h1; omega
theorem kz_finding (hq : kV q) (hH : HOI x q) (l1 l2 : Int32) (hA : X iAE x) (hP : ∀ r y, HOI y q → KF x y → P (some (vi r)) y) : KE G q (d + 7) zk_X11_finding 0 [(0, vr 0), (1, vi l1), (2, vi l2)] [] x P X := by
  have here : ∀ r, P (some (vi r)) x := fun r => hP r x hH KF_rf
  refine kg_X11_finding_0 hq l1 l2 (kz_way hq l1 hA (fun hw => kz_fnd hq l2 hA (fun h0 h1 => kz_first hq hH l1 l2 hw h0 h1 ⟨fun c => absurd rfl c, fun _ => here _⟩ (fun r o e7 ho hz hC hr => ⟨fun c => ⟨way_in hw, fun u7 e => ⟨o, by rw [e, e7], ho, ?_, here _⟩⟩, fun _ => here _⟩))))
  rcases hr with e | e
  · exact absurd e c
  · have := hz.1; rw [vp_in_iff]; omega
theorem kz_show (hq : kV q) (hH : HOI x q) (l1 l2 : Int32) (hA : X iAE x) (hS : X iSE x) (hP : ∀ r y, HOI y q → KF x y → P (some (vi r)) y) : KE G q (d + 7) zk_X11_show 0 [(0, vr 0), (1, vi l1), (2, vi l2)] [] x P X := by
  have k1 : (1 : Int32).toInt = 1 := rfl
  have k4 : (400 : Int32).toInt = 400 := rfl
  have loop : ∀ (l4 : Int32), l4.toInt ≤ 400 → ∀ (n k : Nat) (l2 : Int32) (y : gd), l2.toInt = k → l4.toInt - k ≤ n → fm sRn x y → RUN y → KE G q (d + 7) zk_X11_show 88 [(0, vr 0), (4, vi l4), (5, vi l2)] [] y P X := by
    intro l4 h4 n
    induction n with
    | zero =>
      intro k l2 y e5 hn fy hRy
      refine kg_X11_show_88 hq l4 l2 ⟨fun _ => hP _ y (HOI_run fy hRy hH) (rn_20 fy), fun c => ?_⟩
      rw [t_le] at c; omega
    | succ n ih =>
      intro k l2 y e5 hn fy hRy
      refine kg_X11_show_88 hq l4 l2 ⟨fun _ => hP _ y (HOI_run fy hRy hH) (rn_20 fy), fun c => ?_⟩
      rw [t_le] at c
      exact ⟨by rw [vp_in_iff]; omega, kz_doChoice hq hRy _ (fun z fz hRz => ih (k + 1) _ z (by rw [t_add (by rw [k1]; omega) (by rw [k1]; omega), k1, e5]; rfl) (by push_cast; omega) (fm_tr fy fz) hRz)⟩
  refine kg_X11_show_0 hq l1 l2 (kz_way hq l1 hA (fun hw => kz_fnd hq l2 hA (fun h0 h1 => kz_first hq hH l1 l2 hw h0 h1 ⟨fun c => absurd rfl c, fun _ => hS⟩ (fun r o e7 ho hz hC hr => ⟨fun c => ⟨way_in hw, fun u7 e => ⟨o, by rw [e, e7], ho, ?_⟩⟩, fun _ => hS⟩))))
  have hr : 0 ≤ r.toInt ∧ r.toInt < (x.1 o 0).toInt := by
    rcases hr with e | e
    · exact absurd e c
    · exact e
  have hO := iT_O ho
  refine ⟨by have := hz.1; rw [vp_in_iff]; omega, fun c4 => ⟨way_in hw, fun u13 e13 => ⟨o, by rw [e13, e7], ho, kt_pathTo hq ho kk_162 (kl_162 hq) (by omega) r hz hr (fun y fy => ?_)⟩⟩, fun _ => hS⟩
  rw [t_le, k4] at c4
  have f1 : fm sRn x y := fm_w fy (fun c k q => by unfold sRn; omega)
  exact kz_beginRun hq (CO_fm hC (fun c k hc => fy c k (by omega))) l1 hw (fun z fz hRz => loop _ c4 400 0 _ z rfl (by omega) (fm_tr f1 fz) hRz)
theorem kz_common (hq : kV q) (hH : HOI x q) (l1 l2 : Int32) (hA : X iAE x) (hO : X iOE x) (hP : ∀ r y, HOI y q → KF x y → P (some (vi r)) y) : KE G q (d + 7) zk_X11_common 0 [(0, vr 0), (1, vi l1), (2, vi l2)] [] x P X := by
  have here : ∀ r, P (some (vi r)) x := fun r => hP r x hH KF_rf
  refine kg_X11_common_0 hq l1 l2 (kz_way hq l1 hA (fun hw => ?_))
  have p23 : ∀ s0 : Int32, s0.toInt ≤ 24 → KE G q (d + 7) zk_X11_common 23 [(0, vr 0), (1, vi l1), (2, vi l2)] [vi s0, vi l2] x P X := fun s0 hs0 => kg_X11_common_23 hq l1 l2 s0 l2 (kz_ix hq l2 s0 hO (fun g0 g1 => kz_was hq hH l1 hw ⟨fun _ => here _, fun c => absurd rfl c⟩ (fun o e7 ho hz ht hC hp => ⟨fun c => absurd c (by decide), fun _ => ⟨way_in hw, fun u6 e6 => ⟨o, by rw [e6, e7], ho, by rw [vp_in_iff]; omega, here _⟩⟩⟩)))
  exact ⟨fun _ => p23 _ (by decide), fun c => p23 _ (hH.2.1 c).1.1.2⟩
theorem kz_ring (hq : kV q) (hH : HOI x q) (l1 : Int32) (hA : X iAE x) (hP : ∀ r y, HOI y q → KF x y → P (some (vi r)) y) : KE G q (d + 7) zk_X11_ring 0 [(0, vr 0), (1, vi l1)] [] x P X := by
  have here : ∀ r, P (some (vi r)) x := fun r => hP r x hH KF_rf
  exact kg_X11_ring_0 hq l1 (kz_way hq l1 hA (fun hw => kz_was hq hH l1 hw ⟨fun _ => here _, fun c => absurd rfl c⟩ (fun o e7 ho hz ht hC hp => ⟨fun c => absurd c (by decide), fun _ => ⟨way_in hw, fun u6 e6 => ⟨o, by rw [e6, e7], ho, kt_ring hq ho (fun r => here r)⟩⟩⟩)))
theorem kz_alike (hq : kV q) (hH : HOI x q) (hP : ∀ r y, HOI y q → KF x y → P (some (vi r)) y) : KT G q (d + 2) zk_X11_alike 0 [(0, vr 0)] [] x P := by
  have here : ∀ r, P (some (vi r)) x := fun r => hP r x hH KF_rf
  refine kg_X11_alike_0 hq (kz_was hq hH 0 (Or.inl rfl) ⟨fun _ => here _, fun c => absurd rfl c⟩ (fun o e0 ho hz ht hC hp => ⟨fun c => absurd c (by decide), fun _ => kz_was hq hH 1 (Or.inr rfl) ⟨fun _ => here _, fun c => absurd rfl c⟩ (fun o2 e1 ho2 hz2 ht2 hC2 hp2 => ⟨fun c => absurd c (by decide), fun _ => ⟨way_in (Or.inl rfl), fun u8 e8 => ⟨o, by rw [e8, e0], ho, fun _ => here _, fun _ => ⟨way_in (Or.inr rfl), fun u13 e13 => ⟨o2, by rw [e13, e1], ho2, fun _ => ⟨way_in (Or.inl rfl), fun u18 e18 => ⟨way_in (Or.inr rfl), fun u20 e20 => ⟨o2, by rw [e20, e1], ho2, o, by rw [e18, e0], ho, ?_⟩⟩⟩, fun _ => here _⟩⟩⟩⟩⟩)⟩))
  exact kt_same hq ho ho2 _ hC.1.1.2 ht ht2 (fun r _ => ⟨fun _ => here _, fun _ => here _⟩)
theorem kz_wipe (hq : kV q) (hH : HOI x q) (hP : ∀ y, HOI y q → y.1 20 1 = 0 ∧ y.1 0 9 = 0 → P (some (vi (x.1 20 1))) y) : KT G q (d + 1) zk_X11_wipe 0 [(0, vr 0)] [] x P := by
  refine kg_X11_wipe_0 hq (fun x1 e1 => kz_forget hq (fun y f h9 h10 hz hf => hP y ?_ ?_))
  · have f1 : fm sCm x x1 := by rw [e1]; exact fm_si (fm_rf _ _) (by unfold sCm; omega)
    have e20 : y.1 20 1 = 0 := by rw [f 20 1 (by unfold sFo; omega), e1, si_get, if_pos ⟨rfl, rfl⟩]
    refine HOI_z (fm_tr f1 (fm_w f (fun c k => fo_cm))) ?_ (fun e => absurd h9 e) h10 hz hH (fun o hO hn => ?_)
    · unfold kL; rw [e20]; decide
    · rw [hf o hO hn, e1, si_get, if_neg (by omega)]
  · exact ⟨by rw [f 20 1 (by unfold sFo; omega), e1, si_get, if_pos ⟨rfl, rfl⟩], h9⟩
/-- n bytes more: those of l2, the lowest first -/
def FBk (l2 : Int64) (j : Nat) : Int32 := vp_nar .byte (((((l2 : Int64).toUInt64 >>> ((8 * Int32.ofNat j : Int32).toInt64.toUInt64 &&& Int64.toUInt64 63)).toInt64 : Int64).toInt32 : Int32).toInt8.toInt32)
def FBc (x : gd) (l2 : Int64) (n : Nat) (y : gd) : Prop := (∀ p, p < (x.1 20 1).toNatClampNeg → y.1 21 p = x.1 21 p) ∧ ∀ j, j < n → y.1 21 ((x.1 20 1).toNatClampNeg + j) = FBk l2 j
theorem kz_feed (hq : kV q) (hH : HOI x q) (l1 : Int32) (l2 : Int64) (hA : ¬ (1 ≤ l1.toInt ∧ l1.toInt ≤ 8 ∧ (x.1 20 1).toInt + l1.toInt ≤ 3000) → X iAE x) (hP : (1 ≤ l1.toInt ∧ l1.toInt ≤ 8 ∧ (x.1 20 1).toInt + l1.toInt ≤ 3000) → ∀ y, HOI y q → (y.1 20 1).toInt = (x.1 20 1).toInt + l1.toInt ∧ y.1 0 9 = 0 ∧ FBc x l2 l1.toInt.toNat y → P (some (vi (y.1 20 1))) y) : KE G q (d + 7) zk_X11_feed 0 [(0, vr 0), (1, vi l1), (2, vl l2)] [] x P X := by
  have k1 : (1 : Int32).toInt = 1 := rfl
  have k8 : (8 : Int32).toInt = 8 := rfl
  have k3 : (3000 : Int32).toInt = 3000 := rfl
  have bL := hH.1
  unfold kL at bL
  refine kg_X11_feed_0 hq l1 l2 ⟨fun c => kg_X11_feed_11 hq (hA ?_), fun c1 => ⟨fun c8 => ⟨fun c3 => ?_, fun c3 => hA ?_⟩, fun c8 => kg_X11_feed_11 hq (hA ?_)⟩⟩
  · rw [t_lt, k1] at c; omega
  · rw [t_lt, k1] at c1
    rw [t_le, k8] at c8
    rw [t_le, k3, t_add (by omega) (by omega)] at c3
    have hok : 1 ≤ l1.toInt ∧ l1.toInt ≤ 8 ∧ (x.1 20 1).toInt + l1.toInt ≤ 3000 := by omega
    have loop : ∀ (n k : Nat) (i : Int32) (y : gd), i.toInt = k → (k : Int) ≤ l1.toInt → l1.toInt - k ≤ n → fm (fun c k => c = 21 ∨ (c = 20 ∧ k = 1)) x y → kL y → (y.1 20 1).toInt = (x.1 20 1).toInt + k ∧ FBc x l2 k y → KE G q (d + 7) zk_X11_feed 49 [(0, vr 0), (1, vi l1), (2, vl l2), (4, vi i)] [] y P X := by
      intro n
      have fin : ∀ (k : Nat) (y : gd), (k : Int) = l1.toInt → fm (fun c k => c = 21 ∨ (c = 20 ∧ k = 1)) x y → kL y → (y.1 20 1).toInt = (x.1 20 1).toInt + k ∧ FBc x l2 k y → KT G q (d + 6) zk_X11_forgetAll 0 [(0, vr 0)] [] y (rv (fun x2 => P (some (vi (x2.1 20 1))) x2)) := by
        intro k y ek fy hL el
        refine kz_forget hq (fun z f h9 h10 hz hf => hP hok z ?_ ?_)
        · have f1 : fm sCm x y := fm_w fy (fun c k q => by unfold sCm; omega)
          refine HOI_z (fm_tr f1 (fm_w f (fun c k => fo_cm))) ?_ (fun e => absurd h9 e) h10 hz hH (fun o hO hn => ?_)
          · unfold kL at hL ⊢; rw [f 20 1 (by unfold sFo; omega)]; exact hL
          · rw [hf o hO hn, fy o 0 (by omega)]
        · refine ⟨by rw [f 20 1 (by unfold sFo; omega), el.1, ek], h9, ?_⟩
          have ekn : l1.toInt.toNat = k := by omega
          rw [ekn]
          exact ⟨fun p hp => by rw [f 21 p (by unfold sFo; omega)]; exact el.2.1 p hp, fun j hj => by rw [f 21 _ (by unfold sFo; omega)]; exact el.2.2 j hj⟩
      induction n with
      | zero =>
        intro k i y ei hk hn fy hL el
        refine kg_X11_feed_49 hq l1 l2 i ⟨fun c => fin k y (by omega) fy hL el, fun c => ?_⟩
        rw [t_le] at c; omega
      | succ n ih =>
        intro k i y ei hk hn fy hL el
        refine kg_X11_feed_49 hq l1 l2 i ⟨fun c => fin k y (by rw [t_le] at c; omega) fy hL el, fun c => ?_⟩
        rw [t_le] at c
        have k3' : (3000 : Int32).toInt = 3000 := rfl
        have hL0 := hL
        unfold kL at hL0
        have e1 := el.1
        have ub := t_cl (x.1 20 1)
        have uy := t_cl (y.1 20 1)
        refine kg_X9_addByte_0 hq _ ⟨fun c2 => ?_, fun c2 => ⟨by rw [vp_in_iff]; omega, fun x3 e3 x4 e4 => rv_i (ih (k + 1) _ x4 (by rw [t_add (by rw [k1]; omega) (by rw [k1]; omega), k1, ei]; rfl) (by push_cast; omega) (by push_cast; omega) (fm_tr fy ?_) ?_ ⟨?_, fun p hp => ?_, fun j hj => ?_⟩)⟩⟩
        · exfalso; rw [t_le, k3'] at c2; omega
        · rw [e4, e3]; exact fm_si (fm_si (fm_rf _ _) (Or.inl rfl)) (Or.inr ⟨rfl, rfl⟩)
        · have e : x4.1 20 1 = y.1 20 1 + 1 := by rw [e4, e3]; (simp only [si_get, sfl_get, Nat.reduceEqDiff, eq_self, and_false, false_and, and_true, true_and, if_true, if_false, reduceIte, reduceCtorEq])
          unfold kL
          rw [e, t_add (by rw [k1]; omega) (by rw [k1]; omega), k1]
          omega
        · have e : x4.1 20 1 = y.1 20 1 + 1 := by rw [e4, e3]; (simp only [si_get, sfl_get, Nat.reduceEqDiff, eq_self, and_false, false_and, and_true, true_and, if_true, if_false, reduceIte, reduceCtorEq])
          rw [e, t_add (by rw [k1]; omega) (by rw [k1]; omega), k1]
          push_cast; omega
        · rw [e4, si_cell (by decide), e3, si_get, if_neg (fun z => ?_)]
          · exact el.2.1 p hp
          · have := z.2
            omega
        · have ey : (y.1 20 1).toNatClampNeg = (x.1 20 1).toNatClampNeg + k := by omega
          rw [e4, si_cell (by decide), e3, si_get, ey]
          by_cases cj : j = k
          · rw [if_pos ⟨rfl, by rw [cj]⟩]
            have ek : i = Int32.ofNat j := by
              rw [t_eq, ei, cj]
              have : (k : Int) < 8 := by omega
              exact (Int32.toInt_ofNat_of_lt (by omega)).symm
            rw [ek]
            rfl
          · rw [if_neg (fun z => cj (by have := z.2; omega))]
            exact el.2.2 j (by omega)
    exact loop 8 0 _ x rfl (by omega) (by omega) (fm_rf _ _) hH.1 ⟨by push_cast; omega, fun p hp => rfl, fun j hj => absurd hj (Nat.not_lt_zero _)⟩
  · rw [t_lt, k1] at c1
    rw [t_le, k8] at c8
    rw [t_le, k3, t_add (by omega) (by omega)] at c3
    omega
  · rw [t_le, k8] at c8; omega
end KFA
