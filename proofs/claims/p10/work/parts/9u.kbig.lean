/-! the class: calls that make something; the compiling -/
/-- cells whose data the ops touch -/
def xtch (o : gop) : List Nat := match o with
  | .inl a => [a.1]
  | .inr (.inl _) => []
  | .inr (.inr (.inl a)) => [a.1]
  | .inr (.inr (.inr _)) => (List.range 14).map gcl
theorem xops_same {l : List gop} {x : gd} {c : Nat} (h : c ∉ l.flatMap xtch) : (xops x l).1 c = x.1 c := by
  induction l generalizing x with
  | nil => rfl
  | cons o r ih =>
    rw [List.flatMap_cons] at h
    show (xops (xop x o) r).1 c = _
    rw [ih (fun q => h (List.mem_append_right _ q))]
    have h0 : c ∉ xtch o := fun q => h (List.mem_append_left _ q)
    rcases o with a | a | a | a
    · exact if_neg (fun e => h0 (List.mem_singleton.mpr e))
    · rfl
    · funext k
      show (si x a.1 a.2.1 a.2.2).1 c k = _
      rw [si_get, if_neg (fun e => h0 (List.mem_singleton.mpr e.1))]
    · exact if_neg (fun e => h0 (isG_m e))
theorem fm_new {S : Nat → Nat → Prop} {x : gd} {b : Nat} {l : List gop} (h : ∀ c ∈ b :: l.flatMap xtch, ∀ k, S c k) : fm S x (xops (znew x b) l) := by
  intro c k hc
  rw [xops_same (fun z => hc (h c (List.mem_cons_of_mem _ z) k)), zn_get, if_neg]
  intro e
  exact hc (h c (by rw [e]; exact List.mem_cons_self) k)
section KBG
variable {G : kG} {q q0 q1 : kP} {d : Nat} {x x0 y z : gd} {o : Nat} {P : Option gv → gd → kP → Prop} {X : String → gd → kP → Prop}
theorem k08_n (h : (kf q).1 0 8 = none) : q.hi = false := by
  have h : (if q.hi = true then some 180 else none) = (none : Option Nat) := h
  by_cases e : q.hi = true
  · rw [if_pos e] at h; cases h
  · cases hh : q.hi
    · rfl
    · exact absurd hh e
theorem k08_s {c : Nat} (h : (kf q).1 0 8 = some c) : q.hi = true := by
  have h : (if q.hi = true then some 180 else none) = some c := h
  by_cases e : q.hi = true
  · exact e
  · rw [if_neg e] at h; cases h
theorem k08_t (h : q.hi = true) : (kf q).1 0 8 = some 180 := by
  show (if q.hi = true then some 180 else none) = _
  rw [if_pos h]
theorem k07_n (h : (kf q).1 0 7 = none) : q.ex = false := by
  have h : (if q.ex = true then some 200 else none) = (none : Option Nat) := h
  by_cases e : q.ex = true
  · rw [if_pos e] at h; cases h
  · cases hh : q.ex
    · rfl
    · exact absurd hh e
theorem k07_s {c : Nat} (h : (kf q).1 0 7 = some c) : q.ex = true := by
  have h : (if q.ex = true then some 200 else none) = some c := h
  by_cases e : q.ex = true
  · exact e
  · rw [if_neg e] at h; cases h
theorem k07_t (h : q.ex = true) : (kf q).1 0 7 = some 200 := by
  show (if q.ex = true then some 200 else none) = _
  rw [if_pos h]
theorem k7_n0 (h : (kf q).1 7 0 = none) : q.t0 = false := by
  have h : (if q.t0 = true then some 260 else none) = (none : Option Nat) := h
  by_cases e : q.t0 = true
  · rw [if_pos e] at h; cases h
  · cases hh : q.t0
    · rfl
    · exact absurd hh e
theorem k7_n1 (h : (kf q).1 7 1 = none) : q.t1 = false := by
  have h : (if q.t1 = true then some 280 else none) = (none : Option Nat) := h
  by_cases e : q.t1 = true
  · rw [if_pos e] at h; cases h
  · cases hh : q.t1
    · rfl
    · exact absurd hh e
theorem k7_le {n : Nat} (hl : kle q q1) (h : (kf q).1 7 n = some o) : (kf q1).1 7 n = some o := by
  have h : kR q 7 n = some o := h
  show kR q1 7 n = some o
  unfold kR at h ⊢
  rw [if_neg (by omega), if_neg (by omega), if_pos rfl] at h ⊢
  by_cases e0 : n = 0
  · rw [if_pos e0] at h ⊢
    by_cases e : q.t0 = true
    · rw [if_pos e] at h; rw [if_pos (hl.2.1.2.2.1 e)]; exact h
    · rw [if_neg e] at h; cases h
  · rw [if_neg e0] at h ⊢
    by_cases e1 : n = 1
    · rw [if_pos e1] at h ⊢
      by_cases e : q.t1 = true
      · rw [if_pos e] at h; rw [if_pos (hl.2.1.2.2.2 e)]; exact h
      · rw [if_neg e] at h; cases h
    · rw [if_neg e1] at h; cases h
theorem HOI_Tn (hO : o = 260 ∨ o = 280) (f : fm (fun c k => o ≤ c ∧ c ≤ o + 14) x y) (z0 : y.1 o 0 = 0) (z3 : y.1 o 3 = 0) (hl : kle q q1) (hu1 : kU q1) (h : HOI x q) : HOI y q1 := by
  obtain ⟨h1, h2, h3, h4⟩ := h
  have hc : agC x y := fun c k hc => f c k (by omega)
  refine ⟨?_, fun h9 => ?_, fun h10 => ?_, fun p hp => ?_⟩
  · unfold kL at h1 ⊢; rw [f 20 1 (by omega)]; exact h1
  · rw [f 0 9 (by omega)] at h9; exact CO_fm (h2 h9) hc
  · rw [f 0 10 (by omega)] at h10
    exact RUN_o hc (fun c k a b => f c k (by omega)) (h3 h10)
  · by_cases e : p = o
    · subst e
      refine ⟨⟨?_, Or.inl z0⟩, fun _ => z0⟩
      unfold TO
      rw [z3]
      have k0 : (0 : Int32).toInt = 0 := rfl
      rw [k0]
      exact ⟨⟨by omega, by omega, oN_U hu1 p⟩, fun i hi => by omega⟩
    · obtain ⟨⟨t1, t2⟩, t3⟩ := h4 p hp
      have g0 : ∀ k, y.1 p k = x.1 p k := fun k => f p k (by omega)
      have ff : fm (fun c k => ¬ (p ≤ c ∧ c ≤ p + 14)) x y := fun c k hk => f c k (by omega)
      refine ⟨⟨TO_le hu1 hl (TO_fm ff (by omega) (fun k => by omega) t1), ?_⟩, fun hn => ?_⟩
      · rw [g0]
        rcases t2 with e2 | ⟨a, b⟩
        · exact Or.inl e2
        · exact Or.inr ⟨TZ_fm ff (by omega) (fun c k hc => by omega) a, CO_fm b hc⟩
      · rw [g0]; exact t3 (fun e3 => hn (kle_T hl e3))
theorem kz_linear (hu : kU q) (hH : HOI x q) (l : Int32) (hS : X iSE x q) (hA : X iAE x q) (hP : ∀ r y q1, kU q1 → kle q q1 → HOI y q1 → KF x y → P (some (vi r)) y q1) : KM G q (d + 18) zk_X11_linear 0 [(0, vr 0), (1, vi l)] [] x P X := by
  have p56 : ∀ (q1 : kP) (y : gd), kU q1 → kle q q1 → HOI y q1 → JN y → q1.hi = true → KF x y → KM G q1 (d + 18) zk_X11_linear 56 [(0, vr 0), (1, vi l)] [] y P X := by
    intro q1 y hu1 hl1 hH1 hJ hh el
    refine kg_X11_linear_56 (d := d + 11) hu1 l (fun u1 e1 => ⟨by rw [e1, k08_t hh], hh, kh_take (d := d + 16) hu1.1 hh hJ (fun z fz hc u3 e3 => ⟨by rw [e3, k08_t hh], hh, kh_fewest hu1.1 hh l hc.1 (fun r w fw => ?_)⟩)⟩)
    have f : fm sNw y w := fm_tr (fm_w fz (fun c k q => by unfold sHi at q; unfold sNw; omega)) (fm_w fw (fun c k q => by unfold sHl at q; unfold sNw; omega))
    have hw := HOI_mk (kle_rf q1) hu1 f hH1
    have e20 : KF x w := KF_tr el (KF_fm f (fun c k q => by unfold sNw at q; omega))
    exact ⟨fun _ => hP _ w q1 hu1 hl1 hw e20, fun _ => hP _ w q1 hu1 hl1 hw e20⟩
  refine kg_X11_linear_0 (d := d + 11) hu l (kz_run hu.1 hH hS (fun hR => ⟨fun _ => kg_X11_linear_13 hu hA, fun _ => ⟨fun _ => ⟨fun _ u5 e5 => ⟨fun hn => ⟨k08_n (by rw [← e5, hn]), fun q8 x9 e8 e9 hu8 hl8 => ?_⟩, fun c7 h7 => p56 q x hu (kle_rf q) hH hR.2.2 (k08_s (e5.symm.trans h7)) KF_rf⟩, fun _ => hP _ x q hu (kle_rf q) hH KF_rf⟩, fun _ => kg_X11_linear_13 hu hA⟩⟩))
  have f9 : fm sNw x x9 := by
    rw [e9]
    refine fm_new (fun c hc k => ?_)
    have := (by decide +kernel : ∀ c ∈ 180 :: ops_180.flatMap xtch, (180 ≤ c ∧ c < 260) ∨ 300 ≤ c) c hc
    exact this
  exact p56 q8 x9 hu8 hl8 (HOI_mk hl8 hu8 f9 hH) (JN_o (fun c k a b => f9 c k (by unfold sNw; omega)) hR.2.2) (by rw [e8]; rfl) (KF_fm f9 (fun c k q => by unfold sNw at q; omega))
theorem kz_attempt (hu : kU q) (hH : HOI x q) (l1 l2 : Int32) (hS : X iSE x q) (hA : X iAE x q) (hP : ∀ r y q1, kU q1 → kle q q1 → HOI y q1 → KF x y → P (some (vi r)) y q1) : KM G q (d + 7) zk_X11_attempt 0 [(0, vr 0), (1, vi l1), (2, vi l2)] [] x P X := by
  refine kg_X11_attempt_0 hu l1 l2 (kz_comp hu.1 hH hS (fun _ hC => kz_way hu.1 l1 hA (fun hw => ?_)))
  have hv := way_in hw
  have p75 : ∀ (q1 : kP) (y : gd) (o : Nat), kU q1 → kle q q1 → HOI y q1 → CO y → q1.ex = true → (kf q1).1 7 l1.toNatClampNeg = some o → KF x y → KM G q1 (d + 7) zk_X11_attempt 75 [(0, vr 0), (1, vi l1), (2, vi l2)] [] y P X := by
    intro q1 y o hu1 hl1 hH1 hC1 he eo el
    have ho := k7_T eo
    refine kg_X11_attempt_75 hu1 l1 l2 (fun u1 e1 => ⟨hv, fun u3 e3 => ⟨o, by rw [e3, eo], ho, by rw [e1, k07_t he], he, kx_explore hu1 he ho hC1 l1 l2 hw (fun z q7 hu7 hl7 et7 fz hz ht => ⟨hv, fun u9 e9 => ⟨o, by rw [e9, k7_le hl7 eo], kle_T hl7 ho, ?_⟩⟩)⟩⟩)
    have hO := iT_O ho
    exact hP _ z q7 hu7 (kle_tr hl1 hl7) (HOI_ex hl7 hu7 ho fz hz ht hC1 hH1) (KF_tr el (KF_fm fz (fun c k q => by unfold sEx at q; omega)))
  have p53 : ∀ (q1 : kP) (y : gd), kU q1 → kle q q1 → HOI y q1 → CO y → q1.ex = true → KF x y → KM G q1 (d + 7) zk_X11_attempt 53 [(0, vr 0), (1, vi l1), (2, vi l2)] [] y P X := by
    intro q1 y hu1 hl1 hH1 hC1 he el
    refine kg_X11_attempt_53 hu1 l1 l2 ⟨hv, fun u2 e2 => ⟨fun hn => ⟨hv, fun i0 => ?_, fun i1 => ?_⟩, fun c4 h4 => p75 q1 y c4 hu1 hl1 hH1 hC1 he (by rw [← e2, h4]) el⟩⟩
    · rw [i0, hn] at e2
      refine ⟨k7_n0 e2.symm, fun q5 x6 e5 e6 hu5 hl5 => ?_⟩
      have f6 : fm (fun c k => 260 ≤ c ∧ c ≤ 260 + 14) y x6 := by
        rw [e6]
        exact fm_new (fun c hc k => (by decide +kernel : ∀ c ∈ 260 :: ops_260.flatMap xtch, 260 ≤ c ∧ c ≤ 260 + 14) c hc)
      refine p75 q5 x6 260 hu5 (kle_tr hl1 hl5) (HOI_Tn (Or.inl rfl) f6 (by rw [e6]; rfl) (by rw [e6]; rfl) hl5 hu5 hH1) (CO_fm hC1 (fun c k hc => f6 c k (by omega))) (hl5.2.1.2.1 he) ?_ (KF_tr el (KF_fm f6 (fun c k q => by omega)))
      rw [i0, e5]; rfl
    · rw [i1, hn] at e2
      refine ⟨k7_n1 e2.symm, fun q5 x6 e5 e6 hu5 hl5 => ?_⟩
      have f6 : fm (fun c k => 280 ≤ c ∧ c ≤ 280 + 14) y x6 := by
        rw [e6]
        exact fm_new (fun c hc k => (by decide +kernel : ∀ c ∈ 280 :: ops_280.flatMap xtch, 280 ≤ c ∧ c ≤ 280 + 14) c hc)
      refine p75 q5 x6 280 hu5 (kle_tr hl1 hl5) (HOI_Tn (Or.inr rfl) f6 (by rw [e6]; rfl) (by rw [e6]; rfl) hl5 hu5 hH1) (CO_fm hC1 (fun c k hc => f6 c k (by omega))) (hl5.2.1.2.1 he) ?_ (KF_tr el (KF_fm f6 (fun c k q => by omega)))
      rw [i1, e5]; rfl
  refine ⟨fun _ => kg_X11_attempt_20 hu hA, fun _ => ⟨fun _ u5 e5 => ⟨fun hn => ⟨k07_n (by rw [← e5, hn]), fun q8 x9 e8 e9 hu8 hl8 => ?_⟩, fun c7 h7 => p53 q x hu (kle_rf q) hH hC (k07_s (e5.symm.trans h7)) KF_rf⟩, fun _ => kg_X11_attempt_20 hu hA⟩⟩
  have f9 : fm sNw x x9 := by
    rw [e9]
    refine fm_new (fun c hc k => ?_)
    exact (by decide +kernel : ∀ c ∈ 200 :: ops_200.flatMap xtch, (180 ≤ c ∧ c < 260) ∨ 300 ≤ c) c hc
  exact p53 q8 x9 hu8 hl8 (HOI_mk hl8 hu8 f9 hH) (CO_fm hC (fun c k hc => f9 c k (by unfold sNw; omega))) (by rw [e8]; rfl) (KF_fm f9 (fun c k q => by unfold sNw at q; omega))
/-- what the judging and the answer leave alone -/
theorem OT_j (f : fm (fun c k => c = 43 ∨ (c = 40 ∧ k = 11) ∨ c = 0) x y) (h : OT x0 x) : OT y y := by
  have e : ∀ c, c ≠ 43 → c ≠ 40 → c ≠ 0 → y.1 c = x.1 c := fun c a b c0 => funext fun k => f c k (by omega)
  have e6 : y.1 40 6 = x.1 40 6 := f _ _ (by omega)
  have e8 : y.1 40 8 = x.1 40 8 := f _ _ (by omega)
  have e10 : y.1 40 10 = x.1 40 10 := f _ _ (by omega)
  obtain ⟨h1, h2, h3, h4, h5, -, h7⟩ := h
  have E20 := e 20 (by omega) (by omega) (by omega)
  have E23 := e 23 (by omega) (by omega) (by omega)
  have E24 := e 24 (by omega) (by omega) (by omega)
  have E26 := e 26 (by omega) (by omega) (by omega)
  have E27 := e 27 (by omega) (by omega) (by omega)
  have E42 := e 42 (by omega) (by omega) (by omega)
  have E44 := e 44 (by omega) (by omega) (by omega)
  have E45 := e 45 (by omega) (by omega) (by omega)
  have E46 := e 46 (by omega) (by omega) (by omega)
  have E48 := e 48 (by omega) (by omega) (by omega)
  have E50 := e 50 (by omega) (by omega) (by omega)
  have E60 := e 60 (by omega) (by omega) (by omega)
  have E62 := e 62 (by omega) (by omega) (by omega)
  have E63 := e 63 (by omega) (by omega) (by omega)
  have E72 := e 72 (by omega) (by omega) (by omega)
  have E80 := e 80 (by omega) (by omega) (by omega)
  have E81 := e 81 (by omega) (by omega) (by omega)
  have E83 := e 83 (by omega) (by omega) (by omega)
  have E84 := e 84 (by omega) (by omega) (by omega)
  have E85 := e 85 (by omega) (by omega) (by omega)
  have E100 := e 100 (by omega) (by omega) (by omega)
  have E109 := e 109 (by omega) (by omega) (by omega)
  have E111 := e 111 (by omega) (by omega) (by omega)
  have E112 := e 112 (by omega) (by omega) (by omega)
  have E113 := e 113 (by omega) (by omega) (by omega)
  refine ⟨?_, ?_, ?_, ?_, ?_, fm_rf _ _, ?_⟩
  · unfold SU SV RB kT kL kTw US PQ BU nx mt at h1 ⊢
    simp only [E20, E23, E24, E26, E27, E42, E60, E62, E63, E100] at h1 ⊢
    exact h1
  · unfold FR at h2 ⊢
    simp only [E42, E100]
    exact h2
  · unfold RI0 KN OPs OP1 NM CD SA TS BU tk nx om ssm sop stg at h3 ⊢
    simp only [E20, E23, E24, E26, E27, E42, E44, E45, E46, E48, E50, E60, E62, E63, E72, E80, E81, E83, E84, E85, E100, E109, E111, E112, E113, e6, e8, e10] at h3 ⊢
    exact h3
  · unfold SCs SC sop stg ssm om at h4 ⊢
    simp only [E80, E81, E84, E100, E112] at h4 ⊢
    exact h4
  · rw [E100]; exact h5
  · show 2 * (y.1 80 9).toInt ≤ (y.1 100 4).toInt
    rw [E80, E100]; exact h7
theorem JM_j {j : Nat} (f : fm (fun c k => c = 0) x y) (h : JM x j) : JM y j := by
  unfold JM at h ⊢
  rw [f 42 j (by omega), f 43 j (by omega), f 40 8 (by omega), f 40 10 (by omega), f 40 6 (by omega), f 27 j (by omega), f 43 (j - 2) (by omega), f 46 _ (by omega)]
  exact h
/-- while a text is compiled -/
def Bs (x : gd) (q : kP) (y : gd) : Prop := fm sCm x y ∧ kL y ∧ y.1 0 10 = 0 ∧ ((∀ o, kiT q o → y.1 o 0 = 0) ∧ ∀ o, (o = 260 ∨ o = 280) → ¬ kiT q o → y.1 o 0 = x.1 o 0) ∧ y.1 20 1 = x.1 20 1
theorem Bs_st (f : fm (fun c k => ((20 ≤ c ∧ c < 120) ∧ ¬ (c = 20 ∧ k = 1)) ∨ (c = 0 ∧ ¬ k = 10)) y z) (h : Bs x q y) : Bs x q z := by
  obtain ⟨h1, h2, h3, ⟨h4, h5⟩, h6⟩ := h
  refine ⟨fm_tr h1 (fm_w f (fun c k q => by unfold sCm; omega)), ?_, ?_, ⟨fun o ho => ?_, fun o hO hn => ?_⟩, ?_⟩
  · unfold kL at h2 ⊢; rw [f 20 1 (by omega)]; exact h2
  · rw [f 0 10 (by omega)]; exact h3
  · have := iT_O ho
    rw [f o 0 (by omega)]; exact h4 o ho
  · rw [f o 0 (by omega)]; exact h5 o hO hn
  · rw [f 20 1 (by omega)]; exact h6
/-- what the linking asks for -/
def LPre (z : gd) : Prop := ∃ x0 y0, OT x0 y0 ∧ fm (fun c k => c = 43 ∨ (c = 40 ∧ k = 11) ∨ c = 0) y0 z ∧ ∀ j : Nat, (j : Int) < mt z → JM z j
theorem LPre_0 (f : fm (fun c k => c = 0) y z) (h : LPre y) : LPre z := by
  obtain ⟨a, b, h1, h2, h3⟩ := h
  refine ⟨a, b, h1, fm_tr h2 (fm_w f (fun c k q => Or.inr (Or.inr q))), fun j hj => JM_j f (h3 j ?_)⟩
  have e : mt z = mt y := by unfold mt; rw [f 20 7 (by omega)]
  rw [← e]; exact hj
/-! what compile makes of a text -/
def ctK (x : gd) (e j : Nat) : Int32 := if j ≤ e then kc (x.1 23 j) else 0
def ctV (x : gd) (e j : Nat) : Int32 := if j ≤ e ∧ kc (x.1 23 j) = 2 then x.1 27 j else 0
noncomputable def smkB (x : gd) (a b : Nat) : Bool := @decide (smk x a b) (Classical.propDecidable _)
theorem smkB_is {a b : Nat} : smkB x a b = true ↔ smk x a b := by
  unfold smkB
  exact @decide_eq_true_iff _ (Classical.propDecidable _)
theorem smk_s {a b : Nat} (h : smk x a b) : smk x b a := ⟨h.1.symm, h.2.1.symm, fun i hi => (h.2.2 i (by rw [h.2.1]; exact hi)).symm⟩
theorem smk_t {a b c : Nat} (h : smk x a b) (g : smk x b c) : smk x a c := ⟨h.1.trans g.1, h.2.1.trans g.2.1, fun i hi => (h.2.2 i hi).trans (g.2.2 i (by rw [← h.2.1]; exact hi))⟩
theorem KA_ct {b : Nat → Int32} {N e : Nat} (h : KCUT b N x e) : KA (ctK x e) (ctV x e) (smkB x) e x := by
  obtain ⟨⟨t0, t1, t2, t3, t4, t5⟩, -⟩ := h
  have ck : ∀ j, j ≤ e → ctK x e j = kc (x.1 23 j) := fun j hj => by unfold ctK; rw [if_pos hj]
  refine ⟨fun j hj => (ck j hj).symm, fun j hj k2 => ?_, fun a b _ _ _ _ => smkB_is.symm, t0, ?_⟩
  · rw [ck j hj] at k2
    unfold ctV
    rw [if_pos ⟨hj, k2⟩]
  · rw [ck e (Nat.le_refl _)]; exact t5
/-- compiled, and how many of each, and the code in numbers: as the text says -/
def CCf (x y : gd) : Prop := ∃ (z : gd) (e : Nat), KCUT (kby x) (kln x) z e ∧ (∀ k, z.1 21 k = x.1 21 k) ∧ (∀ k, y.1 21 k = x.1 21 k) ∧ ((∃ n j L, pAl (ctK z e) (ctV z e) 701 (0, 0, 0, 0, 0) 0 [] = some (n, j, L) ∧ ¬ jFl (smkB z) (ctK z e) (ctV z e) L ∧ ¬ y.1 0 9 = 0 ∧ CNk y n ∧ CK y (codN (smkB z) (ctV z e) (ctK z e) L)) ∨ ((∀ n j L, pAl (ctK z e) (ctV z e) 701 (0, 0, 0, 0, 0) 0 [] = some (n, j, L) → jFl (smkB z) (ctK z e) (ctV z e) L) ∧ y.1 0 9 = 0))
theorem LPk_f {sN : Nat → Nat → Bool} {V K : Nat → Int32} {L : gU} (f : fm (fun c _ => c = 0) y z) (h : LPk sN V K L y) : LPk sN V K L z := by
  obtain ⟨h1, h2, h3, h4, ⟨n, h5, h6⟩, h7, h8⟩ := h
  have e42 : z.1 42 = y.1 42 := by funext k; exact f 42 k (by omega)
  have e43 : z.1 43 = y.1 43 := by funext k; exact f 43 k (by omega)
  have em : mt z = mt y := by unfold mt; rw [f 20 7 (by omega)]
  refine ⟨CCp_eq (fun c k q => f c k (by unfold ccS at q; omega)) h1, TBk_f h2 (fun c k q => f c k (by omega)), fun j hj => ?_, fun j hj => by rw [f 27 j (by omega)]; exact h4 j hj, ⟨n, by rw [e42]; exact h5, by rw [em]; exact h6⟩, h7, by rw [em]; exact h8⟩
  rw [e42, e43]
  exact h3 j (by rw [← em]; exact hj)
theorem TBk_j {T : gTd} (h : TBk x T) (g : fm (fun c k => c = 43 ∨ (c = 40 ∧ k = 11)) x y) : TBk y T := by
  unfold TBk at h ⊢
  rw [g 40 6 (by omega), g 40 8 (by omega), g 40 10 (by omega), g 60 6 (by omega)]
  obtain ⟨⟨a1, a2, a3⟩, ⟨b1, b2⟩, c1, c2⟩ := h
  exact ⟨⟨a1, a2, fun i q hq => by rw [g 44 _ (by omega), g 46 _ (by omega), g 45 _ (by omega)]; exact a3 i q hq⟩, ⟨b1, fun i q hq => by rw [g 48 _ (by omega)]; exact b2 i q hq⟩, c1, fun i q hq => by rw [g 50 _ (by omega)]; exact c2 i q hq⟩
theorem te_srt {K V : Nat → Int32} {v : Nat × Nat × Nat} {q : Nat × Nat × Nat × Nat} (h : te1 K V v = some q) : q.2.1 = 0 ∨ q.2.1 = 1 ∨ q.2.1 = 2 := by
  unfold te1 at h
  split at h
  · cases Option.some.inj h; exact Or.inl rfl
  · split at h
    · cases Option.some.inj h; exact Or.inl rfl
    · split at h
      · cases Option.some.inj h; exact Or.inr (Or.inl rfl)
      · split at h
        · cases Option.some.inj h; exact Or.inr (Or.inr rfl)
        · exact absurd h (by simp)
theorem HBs_ex {sN : Nat → Nat → Bool} {j : Nat} {w : Int32} : ∀ {L : gU} {E : gV}, HBs sN L E j w → ∃ v E', HB sN E' v j w := by
  intro L
  induction L with
  | nil => intro E h; exact h.elim
  | cons v L ih =>
    intro E h
    rcases h with h | h
    · exact ⟨v, E, h⟩
    · exact ih h
theorem HB_u {sN : Nat → Nat → Bool} {v : Nat × Nat × Nat} {E : gV} {j : Nat} {w : Int32} (h : HB sN E v j w) : w = 1 ∨ w = 2 ∨ w = 3 ∨ w = 4 ∨ w = 5 ∨ w = 6 ∨ w = 7 ∨ w = 8 ∨ w = 9 ∨ w = 10 ∨ w = 11 ∨ w = 12 ∨ w = 13 := by
  unfold HB at h
  rcases h with ⟨-, h, -⟩ | ⟨-, h, -⟩ | ⟨-, h, -⟩ | ⟨-, h, -⟩ | ⟨-, h, -⟩ | ⟨-, h, -⟩ | ⟨-, -, h⟩ | ⟨-, h, -⟩ | ⟨-, h, -⟩ | ⟨-, h, -⟩ | ⟨-, h, -⟩ | ⟨-, h, -⟩ | ⟨-, h, -⟩ | ⟨-, h, -⟩ | ⟨-, h, -⟩
  · rw [h]; decide
  · rw [h]; decide
  · rw [h]; decide
  · rw [h]; decide
  · rw [h]; decide
  · rw [h]; decide
  · rcases h with h | h | h <;> rw [h] <;> decide
  · rw [h]; decide
  · rw [h]; decide
  · rw [h]; decide
  · rw [h]; decide
  · rw [h]; decide
  · rw [h]; decide
  · rw [h]; decide
  · rw [h]; decide
theorem CNk_k {n : gN} (h : CNk x n) (g : ∀ k, (k = 6 ∨ k = 9 ∨ k = 10 ∨ k = 14 ∨ k = 16) → y.1 60 k = x.1 60 k) : CNk y n := by
  unfold CNk at h ⊢
  rw [g 6 (by omega), g 9 (by omega), g 10 (by omega), g 14 (by omega), g 16 (by omega)]
  exact h
/-- while compiled is not yet said, l telling the fault; when it is said -/
def CCv (x y : gd) (l : Int32) : Prop := ∃ (z : gd) (e : Nat), KCUT (kby x) (kln x) z e ∧ (∀ k, z.1 21 k = x.1 21 k) ∧ (∀ k, y.1 21 k = x.1 21 k) ∧ ((∃ n j L, pAl (ctK z e) (ctV z e) 701 (0, 0, 0, 0, 0) 0 [] = some (n, j, L) ∧ ¬ jFl (smkB z) (ctK z e) (ctV z e) L ∧ l = 0 ∧ CNk y n ∧ LPk (smkB z) (ctV z e) (ctK z e) L y) ∨ ((∀ n j L, pAl (ctK z e) (ctV z e) 701 (0, 0, 0, 0, 0) 0 [] = some (n, j, L) → jFl (smkB z) (ctK z e) (ctV z e) L) ∧ ¬ l = 0))
/-- before it is linked -/
def CCz (x y : gd) : Prop := ∃ (z : gd) (e : Nat), KCUT (kby x) (kln x) z e ∧ (∀ k, z.1 21 k = x.1 21 k) ∧ (∀ k, y.1 21 k = x.1 21 k) ∧ ((∃ n j L, pAl (ctK z e) (ctV z e) 701 (0, 0, 0, 0, 0) 0 [] = some (n, j, L) ∧ ¬ jFl (smkB z) (ctK z e) (ctV z e) L ∧ ¬ y.1 0 9 = 0 ∧ CNk y n ∧ LPk (smkB z) (ctV z e) (ctK z e) L y) ∨ ((∀ n j L, pAl (ctK z e) (ctV z e) 701 (0, 0, 0, 0, 0) 0 [] = some (n, j, L) → jFl (smkB z) (ctK z e) (ctV z e) L) ∧ y.1 0 9 = 0))
theorem CCz_f (h : CCz x y) (h9 : y.1 0 9 = 0) : CCf x y := by
  obtain ⟨a, e, h1, h2, h3, h4⟩ := h
  exact ⟨a, e, h1, h2, h3, h4.elim (fun ⟨n, j, L, g1, g2, g3, g4⟩ => absurd h9 g3) Or.inr⟩
theorem CCz_lk (h : CCz x y) (h9 : ¬ y.1 0 9 = 0) (f : fm (fun c _ => c = 85 ∨ c = 86 ∨ c = 62 ∨ c = 63) y z) (l1 : ∀ j : Nat, (j : Int) < ssm y → LK1 y z j) (l2 : ∀ i : Nat, (i : Int) < (y.1 60 3).toInt → LK2 y z i) : CCf x z := by
  obtain ⟨a, e, h1, h2, h3, h4⟩ := h
  refine ⟨a, e, h1, h2, fun k => by rw [f 21 k (by omega)]; exact h3 k, ?_⟩
  rw [f 0 9 (by omega)]
  rcases h4 with ⟨n, j, L, g1, g2, g3, g4, g5⟩ | ⟨-, g⟩
  · obtain ⟨N9, eN, -, srt, -, -⟩ := pAl_dT 701 _ _ _ _ g1
    have eN : L = N9 := eN
    rw [← eN] at srt
    exact Or.inl ⟨n, j, L, g1, g2, g3, CNk_k g4 (fun k hk => f _ _ (by omega)), CK_of (fun a b z => smkB_is.mpr (smk_s (smkB_is.mp z))) (fun a b c z1 z2 => smkB_is.mpr (smk_t (smkB_is.mp z1) (smkB_is.mp z2))) g2 srt g5 (cod_ok g1 g2) f l1 l2⟩
  · exact absurd g h9
theorem CCz_st (f : fm (fun c k => c = 0 ∧ ¬ k = 9) y z) (h : CCz x y) : CCz x z := by
  obtain ⟨a, e, h1, h2, h3, h4⟩ := h
  refine ⟨a, e, h1, h2, fun k => by rw [f 21 k (by omega)]; exact h3 k, ?_⟩
  rw [f 0 9 (by omega)]
  exact h4.imp (fun ⟨n, j, L, g1, g2, g3, g4, g5⟩ => ⟨n, j, L, g1, g2, g3, CNk_k g4 (fun k hk => f _ _ (by omega)), LPk_f (fm_w f (fun c k q => q.1)) g5⟩) id
theorem CCv_z {l : Int32} (f : fm (fun c k => c = 0 ∧ k = 9) y z) (h9 : z.1 0 9 = 0 ↔ ¬ l = 0) (h : CCv x y l) : CCz x z := by
  obtain ⟨a, e, h1, h2, h3, h4⟩ := h
  refine ⟨a, e, h1, h2, fun k => by rw [f 21 k (by omega)]; exact h3 k, ?_⟩
  exact h4.imp (fun ⟨n, j, L, g1, g2, g3, g4, g5⟩ => ⟨n, j, L, g1, g2, fun z0 => h9.mp z0 g3, CNk_k g4 (fun k hk => f _ _ (by omega)), LPk_f (fm_w f (fun c k q => q.1)) g5⟩) (fun ⟨g1, g2⟩ => ⟨g1, h9.mpr g2⟩)
theorem kz_compile (hu : kU q) (hH : HOI x q) (hP : ∀ r y q1, (q1 = q ∨ q1 = kTh q) → kU q1 → HOI y q1 → y.1 20 1 = x.1 20 1 → CCf x y → P (some (vi r)) y q1) : KM G q (d + 14) zk_X11_compile 0 [(0, vr 0)] [] x P X := by
  have hfin : ∀ (r : Int32) (y : gd) (q1 : kP), (q1 = q ∨ q1 = kTh q) → Bs x q y → (¬ y.1 0 9 = 0 → CO y) → CCf x y → P (some (vi r)) y q1 := by
    intro r y q1 h1 hB hC hcf
    obtain ⟨b1, b2, b3, ⟨b4, b5⟩, b6⟩ := hB
    have hh : HOI y q := HOI_z b1 b2 hC b3 b4 hH b5
    rcases h1 with e | e
    · subst e; exact hP r y _ (Or.inl rfl) hu hh b6 hcf
    · subst e; exact hP r y _ (Or.inr rfl) (kTh_U hu) (HOI_th hh) b6 hcf
  have p116 : ∀ (q1 : kP) (y : gd) (l1 s0 : Int32), (q1 = q ∨ q1 = kTh q) → kU q1 → Bs x q y → (¬ y.1 0 9 = 0 → LPre y) → CCz x y → KM G q1 (d + 14) zk_X11_compile 116 [(0, vr 0), (1, vi l1)] [vi s0, vr 0] y P X := by
    intro q1 y l1 s0 h1 hu1 hB hL hZ
    refine kg_X11_compile_116 (d := d + 13) hu1 l1 s0 (fun x1 e1 => ?_)
    have f1 : fm (fun c k => c = 0 ∧ k = 12) y x1 := by rw [e1]; exact fm_si (fm_rf _ _) ⟨rfl, rfl⟩
    have hB1 : Bs x q x1 := Bs_st (fm_w f1 (fun c k q => by omega)) hB
    have e9 : x1.1 0 9 = y.1 0 9 := f1 _ _ (by omega)
    refine ⟨fun c => ?_, fun c => hfin _ x1 q1 h1 hB1 (fun e => absurd c e) (CCz_f (CCz_st (fm_w f1 (fun c k q => by omega)) hZ) c)⟩
    have c9 := c
    rw [e9] at c
    obtain ⟨a, b, o1, o2, o3⟩ := LPre_0 (fm_w f1 (fun c k q => q.1)) (hL c)
    refine kf_link hu1.1 (OT_j o2 o1) o3 (fun w hC fw lk1 lk2 => ?_)
    exact hfin _ w q1 h1 (Bs_st (fm_w fw (fun c k q => by omega)) hB1) (fun _ => hC) (CCz_lk (CCz_st (fm_w f1 (fun c k q => by omega)) hZ) c9 fw lk1 lk2)
  have p92 : ∀ (q1 : kP) (y : gd) (l1 l2 s0 : Int32), (q1 = q ∨ q1 = kTh q) → kU q1 → Bs x q y → (¬ y.1 0 9 = 0 → LPre y) → (y.1 0 9 = 0 → vp_in l2 702) → CCz x y → KM G q1 (d + 14) zk_X11_compile 92 [(0, vr 0), (1, vi l1), (2, vi l2)] [vi s0, vr 0] y P X := by
    intro q1 y l1 l2 s0 h1 hu1 hB hL hv hZ
    refine kg_X11_compile_92 (d := d + 13) hu1 l1 l2 s0 (fun x1 e1 => ?_)
    have f1 : fm (fun c k => c = 0 ∧ k = 11) y x1 := by rw [e1]; exact fm_si (fm_rf _ _) ⟨rfl, rfl⟩
    have hB1 : Bs x q x1 := Bs_st (fm_w f1 (fun c k q => by omega)) hB
    have e9 : x1.1 0 9 = y.1 0 9 := f1 _ _ (by omega)
    have hL1 : ¬ x1.1 0 9 = 0 → LPre x1 := fun c => LPre_0 (fm_w f1 (fun c k q => q.1)) (hL (by rw [← e9]; exact c))
    have hZ1 := CCz_st (fm_w f1 (fun c k q => by omega)) hZ
    exact ⟨fun c => ⟨hv (by rw [← e9]; exact c), p116 q1 x1 l1 _ h1 hu1 hB1 hL1 hZ1⟩, fun c => p116 q1 x1 l1 _ h1 hu1 hB1 hL1 hZ1⟩
  have p58 : ∀ (q1 : kP) (y : gd) (l1 l2 : Int32), (q1 = q ∨ q1 = kTh q) → kU q1 → Bs x q y → (l1 = 0 → LPre y) → (¬ l1 = 0 → vp_in l2 702) → CCv x y l1 → KM G q1 (d + 14) zk_X11_compile 58 [(0, vr 0), (1, vi l1), (2, vi l2)] [] y P X := by
    intro q1 y l1 l2 h1 hu1 hB hL hv hZ
    have p68 : ∀ s0 : Int32, gbool s0 → (s0 = 0 ↔ ¬ l1 = 0) → (¬ s0 = 0 → LPre y) → (s0 = 0 → vp_in l2 702) → KM G q1 (d + 14) zk_X11_compile 68 [(0, vr 0), (1, vi l1), (2, vi l2)] [vi s0, vr 0] y P X := by
      intro s0 g hs9 hL0 hv0
      refine kg_X11_compile_68 (d := d + 13) hu1 l1 l2 s0 ⟨g, fun x1 e1 => ?_⟩
      have f1 : fm (fun c k => c = 0 ∧ k = 9) y x1 := by rw [e1]; exact fm_si (fm_rf _ _) ⟨rfl, rfl⟩
      have hB1 : Bs x q x1 := Bs_st (fm_w f1 (fun c k q => by omega)) hB
      have e9 : x1.1 0 9 = s0 := by rw [e1, si_get, if_pos ⟨rfl, rfl⟩]
      have hL1 : ¬ x1.1 0 9 = 0 → LPre x1 := fun c => LPre_0 (fm_w f1 (fun c k q => q.1)) (hL0 (by rw [← e9]; exact c))
      have hv1 : x1.1 0 9 = 0 → vp_in l2 702 := fun c => hv0 (by rw [← e9]; exact c)
      have hZ1 : CCz x x1 := CCv_z f1 (by rw [e9]; exact hs9) hZ
      exact ⟨fun c => ⟨hv1 c, p92 q1 x1 l1 l2 _ h1 hu1 hB1 hL1 hv1 hZ1⟩, fun c => p92 q1 x1 l1 l2 _ h1 hu1 hB1 hL1 hv1 hZ1⟩
    refine kg_X11_compile_58 (d := d + 13) hu1 l1 l2 ⟨fun c => p68 0 gbool_0 ⟨fun _ => c, fun _ => rfl⟩ (fun e => absurd rfl e) (fun _ => hv c), fun c => p68 1 gbool_1 ⟨fun e => absurd e (by decide), fun e => absurd c e⟩ (fun _ => hL c) (fun e => absurd e (by decide))⟩
  refine kg_X11_compile_0 (d := d + 13) hu (kz_forget hu.1 (fun x1 f1 e9 e10 hz hf => ?_))
  have hB1 : Bs x q x1 := by
    have e20 : x1.1 20 1 = x.1 20 1 := f1 _ _ (by unfold sFo; omega)
    refine ⟨fm_w f1 (fun c k => fo_cm), ?_, e10, ⟨hz, hf⟩, e20⟩
    have := hH.1
    unfold kL at this ⊢; rw [e20]; exact this
  have e21 : ∀ k, x1.1 21 k = x.1 21 k := fun k => f1 _ _ (by unfold sFo; omega)
  have eb : kby x1 = kby x := by funext p; unfold kby; rw [e21]
  have el1 : kln x1 = kln x := by unfold kln; rw [hB1.2.2.2.2]
  refine kf_cut (d := d + 3) hu.1 hB1.2.1 (fun x2 e f2 hK => ?_)
  rw [eb, el1] at hK
  have hT2 : kT x2 := hK.2.2.2
  have hB2 : Bs x q x2 := Bs_st (fm_w f2 (fun c k q => by unfold skC at q; omega)) hB1
  have z21 : ∀ k, x2.1 21 k = x.1 21 k := fun k => by rw [f2 21 k (by unfold skC; omega)]; exact e21 k
  have hKA := KA_ct hK
  obtain ⟨W, eW⟩ : ∃ W, W = pAl (ctK x2 e) (ctV x2 e) 701 (0, 0, 0, 0, 0) 0 [] := ⟨_, rfl⟩
  refine kh_readAll (d := d) hu.1 hT2 hKA (fun no y fy vy hn => ⟨rfl, ?_⟩) eW (fun y n L hOT hW hk0 hAy hny hHA hHB hTb hCn hCc => ?_)
  · have hBy : Bs x q y := Bs_st (fm_w fy (fun c k q => by unfold sR at q; omega)) hB2
    refine kg_X11_compile_42 (d := d + 13) (kTh_U hu) (kg_X7_tokenHere_0 (kTh_U hu).1 (ri_i ?_))
    refine p58 (kTh q) y _ _ (Or.inr rfl) (kTh_U hu) hBy (fun e => absurd e hn) (fun _ => vy) ⟨x2, e, hK, z21, fun k => by rw [fy 21 k (by unfold sR; omega)]; exact z21 k, Or.inr ⟨fun n j L e2 => ?_, hn⟩⟩
    rw [← eW, no] at e2
    exact absurd e2 (by simp)
  · have hBy : Bs x q y := Bs_st (fm_w hOT.2.2.2.2.2.1 (fun c k q => by unfold sR at q; omega)) hB2
    have hkT : kT y := hOT.1.1.1
    have hnx : 0 ≤ nx y := hOT.1.1.2.1
    have hnm : nx y ≤ mt y := hOT.1.1.2.2.2
    have hUS : US y := hOT.1.2.1
    have hFR := hOT.2.1
    have cy := nn_is hnx
    have hmt : (y.1 20 7).toInt ≤ 701 := by
      obtain ⟨-, n, hn, hn2, -⟩ := hkT
      omega
    have y21 : ∀ k, y.1 21 k = x.1 21 k := fun k => by rw [hOT.2.2.2.2.2.1 21 k (by unfold sR; omega)]; exact z21 k
    rw [eW] at hW
    obtain ⟨N9, eN, hok, srt, hbd, -⟩ := pAl_dT 701 _ _ _ _ hW
    have eN : L = N9 := eN
    rw [← eN] at hok srt hbd
    have hT1 : ∀ q ∈ L.filterMap (te1 (ctK x2 e) (ctV x2 e)), ctK x2 e q.1 = 1 ∧ q.1 < nn y := fun q hq => by
      obtain ⟨v, hv, ev⟩ := te_mem hq
      obtain ⟨g1, g2, -⟩ := te_is ev
      refine ⟨?_, (hbd q hq).2⟩
      rw [g2]
      exact (hok v hv).1 (by rcases g1 with g | g | g | g <;> rw [g] <;> decide)
    have hcf := CF_is (sN := smkB x2) (R := smk y) (Vx := y.1 27) (U := y.1 42) (fun a b z => smkB_is.mpr (smk_s (smkB_is.mp z))) (fun a b c z1 z2 => smkB_is.mpr (smk_t (smkB_is.mp z1) (smkB_is.mp z2))) rfl srt hok hT1 (fun a b ha hb ka kb => hAy.2.2.1 a b (by omega) (by omega) ka kb) (fun j hj k2 => hAy.2.1 j (by omega) k2) hHA hHB
    have lt9 : ∀ j : Nat, (j : Int) < (y.1 20 7).toInt → ¬ y.1 42 j = 0 → j < nn y := fun j hj h0 => by
      by_cases c : (j : Int) < nx y
      · omega
      · by_cases heq : (j : Int) = nx y
        · unfold FR at hFR
          have ej : (y.1 100 4).toNatClampNeg = j := by rw [t_cl]; show (nx y).toNat = j; omega
          rw [ej] at hFR
          exact absurd hFR h0
        · exact absurd (hUS.1 j (by omega) (by omega)) h0
    have hmy : mt y = (y.1 20 7).toInt := rfl
    refine kf_judge (d := d + 9) hu.1 hkT hOT.2.2.1.2.1 hTb (fun q hq => ?_) (fun j hj h0 => ?_) (fun j hj h12 => ?_) (fun r z fz hr0 hr1 hr2 hr3 => ?_)
    · obtain ⟨v, -, ev⟩ := te_mem hq
      exact te_srt ev
    · obtain ⟨v, E', hb⟩ := HBs_ex (hHB j (lt9 j hj h0) h0)
      exact HB_u hb
    · have hlt := lt9 j hj (by rw [h12]; decide)
      exact hUS.2 j (by omega) h12
    · have hBz : Bs x q z := Bs_st (fm_w fz (fun c k q => by omega)) hBy
      have emt : mt z = mt y := by unfold mt; rw [fz 20 7 (by omega)]
      have key : r = 0 ↔ ¬ jFl (smkB x2) (ctK x2 e) (ctV x2 e) L := by
        rw [hr2, ← hcf]
        refine ⟨fun g ⟨j, h1, h2⟩ => g ⟨j, by omega, h2⟩, fun g ⟨j, h1, h2⟩ => g ⟨j, lt9 j h1 (CF_n0 h2), h2⟩⟩
      refine p58 q z r _ (Or.inl rfl) hu hBz (fun e => ⟨x2, y, hOT, fm_w fz (fun c k q => by omega), fun j hj => hr0 e j (by rw [emt] at hj; exact hj)⟩) (fun e => ?_) ⟨x2, e, hK, z21, fun k => by rw [fz 21 k (by omega)]; exact y21 k, ?_⟩
      · have ht := hr1 e
        unfold tk at ht
        obtain ⟨-, n, hn, hn2, -⟩ := hkT
        rw [vp_in_iff]; omega
      · by_cases c0 : r = 0
        · refine Or.inl ⟨n, nn y, L, hW, key.mp c0, c0, CNk_k hCn (fun k hk => fz _ _ (by omega)), CCp_eq (fun c k q => fz c k (by unfold ccS at q; omega)) hCc, TBk_j hTb fz, fun j hj => ?_, fun j hj => ?_, ⟨nn y, ?_, ?_⟩, ?_, by rw [emt]; exact hmt⟩
          · have e42 : z.1 42 = y.1 42 := by funext k; exact fz 42 k (by omega)
            have hj' : (j : Int) < (y.1 20 7).toInt := by rw [emt] at hj; exact hj
            refine ⟨?_, fun z9 => ?_⟩
            · have sm : smk y = smk x2 := smk_e (fun c k q1 q2 => hOT.2.2.2.2.2.1 c k (by unfold sR; omega))
              have er : (fun a b => smkB x2 a b = true) = smk y := by
                funext a b
                rw [sm]
                exact propext smkB_is
              rw [er, e42]
              exact hr3 c0 j hj'
            · have := (hr0 c0 j hj').1
              rw [z9] at this
              revert this
              decide
          · have le : j ≤ e := by
              by_cases cc : j ≤ e
              · exact cc
              · unfold ctK at hj
                rw [if_neg cc] at hj
                exact absurd hj (by decide)
            rw [fz 27 j (by omega)]
            exact hAy.2.1 j le hj
          · have e42 : z.1 42 = y.1 42 := by funext k; exact fz 42 k (by omega)
            rw [e42]; exact hHA
          · rw [emt]; omega
          · have a := tPs_800 (sN := smkB x2) (E := E0v) hW
            have b := hAy.2.2.2.1
            omega
        · refine Or.inr ⟨fun n' j' L' e2 => ?_, c0⟩
          rw [hW] at e2
          have e3 : L = L' := congrArg (fun q : gN × Nat × gU => q.2.2) (Option.some.inj e2)
          rw [← e3]
          exact Classical.byContradiction (fun z => c0 (key.mpr z))
end KBG
