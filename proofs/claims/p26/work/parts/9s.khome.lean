section
/-! the class: the house; what stands between calls -/
def RUN (x : gd) : Prop := MM x 120 ∧ LSk x 120 ∧ JN x
def TRI (x : gd) (q : kP) (o : Nat) : Prop := TO x q o ∧ (x.1 o 0 = 0 ∨ (TZ x o ∧ CO x))
def HOI (x : gd) (q : kP) : Prop := kL x ∧ (¬ x.1 0 9 = 0 → CO x) ∧ (¬ x.1 0 10 = 0 → RUN x) ∧ ∀ o, (o = 260 ∨ o = 280) → TRI x q o ∧ (¬ kiT q o → x.1 o 0 = 0)
/-- what a run changes; what a compiling; what is beside -/
def sRn (c k : Nat) : Prop := (120 ≤ c ∧ c < 180) ∨ (c = 0 ∧ k = 10) ∨ (c = 60 ∧ k = 5) ∨ c = 65
def sCm (c k : Nat) : Prop := (20 ≤ c ∧ c < 120) ∨ c = 0 ∨ ((c = 260 ∨ c = 280) ∧ k = 0)
def sNw (c k : Nat) : Prop := (180 ≤ c ∧ c < 260) ∨ 300 ≤ c
def sFo (c k : Nat) : Prop := (c = 0 ∧ (k = 9 ∨ k = 10)) ∨ ((c = 260 ∨ c = 280) ∧ k = 0)
section KHO
variable {G : kG} {q q0 q1 : kP} {d : Nat} {x x0 y z : gd} {o : Nat} {F : Int32 → gd → Prop} {Fv : gd → Prop} {P : Option gv → gd → Prop} {X : String → gd → Prop}
theorem JN_o (f : ∀ c k, 160 ≤ c → c < 180 → y.1 c k = x.1 c k) (h : JN x) : JN y := by
  unfold JN at h ⊢
  rw [f 160 3 (by omega) (by omega), f 160 2 (by omega) (by omega)]
  refine ⟨h.1, fun a ha => JA_eq (fun c k hc => f c k (by omega) (by omega)) (h.2.1 a ha), fun t ht => ?_⟩
  rw [f 174 t (by omega) (by omega)]; exact h.2.2 t ht
theorem RUN_o (hc : agC x y) (f : ∀ c k, 120 ≤ c → c < 180 → y.1 c k = x.1 c k) (h : RUN x) : RUN y := by
  obtain ⟨h1, h2, h3⟩ := h
  exact ⟨MM_ag hc (fun k a b => f _ _ (by omega) (by omega)) (fun k hk => f _ _ (by omega) (by omega)) h1, LSk_ag h1 hc (fun k a b => f _ _ (by omega) (by omega)) (fun k hk => f _ _ (by omega) (by omega)) (f _ _ (by omega) (by omega)) (fun k => f _ _ (by omega) (by omega)) (fun k => f _ _ (by omega) (by omega)) h2, JN_o (fun c k a b => f c k (by omega) (by omega)) h3⟩
theorem RUN_Lk (f : fm (sLk 120) x y) (h : RUN x) : RUN y := by
  obtain ⟨h1, h2, h3⟩ := h
  have hc : agC x y := fun c k hc => f c k (by unfold sLk; omega)
  have hm : agM 120 x y := fun k a b => f _ _ (by unfold sLk; omega)
  have hr : ∀ k : Nat, (k : Int) < (x.1 120 5).toInt → y.1 (120 + 5) k = x.1 (120 + 5) k := fun k hk => f _ _ (by unfold sLk; omega)
  exact ⟨MM_ag hc hm hr h1, LSk_ag h1 hc hm hr (f _ _ (by unfold sLk; omega)) (fun k => f _ _ (by unfold sLk; omega)) (fun k => f _ _ (by unfold sLk; omega)) h2, JN_o (fun c k a b => f c k (by unfold sLk; omega)) h3⟩
theorem TRI_fm {S : Nat → Nat → Prop} (hO : o = 260 ∨ o = 280) (f : fm S x y) (hc : agC x y) (hS : ∀ c k, 260 ≤ c → c < 300 → ¬ S c k) (h : TRI x q o) : TRI y q o := by
  obtain ⟨h1, h2⟩ := h
  refine ⟨TO_fm f (hS _ _ (by omega) (by omega)) (fun k => hS _ _ (by omega) (by omega)) h1, ?_⟩
  rw [f o 0 (hS _ _ (by omega) (by omega))]
  rcases h2 with e | ⟨a, b⟩
  · exact Or.inl e
  · exact Or.inr ⟨TZ_fm f (hS _ _ (by omega) (by omega)) (fun c k hc => hS _ _ (by omega) (by omega)) a, CO_fm b hc⟩
theorem HOI_run (f : fm sRn x y) (hR : RUN y) (h : HOI x q) : HOI y q := by
  obtain ⟨h1, h2, h3, h4⟩ := h
  have hc : agC x y := fun c k hc => f c k (by unfold sRn; omega)
  refine ⟨?_, fun h9 => ?_, fun _ => hR, fun o hO => ⟨TRI_fm hO f hc (fun c k a b => by unfold sRn; omega) (h4 o hO).1, fun hn => ?_⟩⟩
  · unfold kL at h1 ⊢; rw [f 20 1 (by unfold sRn; omega)]; exact h1
  · rw [f 0 9 (by unfold sRn; omega)] at h9; exact CO_fm (h2 h9) hc
  · rw [f o 0 (by unfold sRn; omega)]; exact (h4 o hO).2 hn
theorem HOI_z (f : fm sCm x y) (hL : kL y) (h9 : ¬ y.1 0 9 = 0 → CO y) (h10 : y.1 0 10 = 0) (hz : ∀ o, kiT q o → y.1 o 0 = 0) (h : HOI x q) (hf : ∀ o, (o = 260 ∨ o = 280) → ¬ kiT q o → y.1 o 0 = x.1 o 0) : HOI y q := by
  refine ⟨hL, h9, fun e => absurd h10 e, fun o hO => ?_⟩
  have z0 : y.1 o 0 = 0 := by
    by_cases e : kiT q o
    · exact hz o e
    · rw [hf o hO e]; exact (h.2.2.2 o hO).2 e
  exact ⟨⟨TO_fm f (by unfold sCm; omega) (fun k => by unfold sCm; omega) (h.2.2.2 o hO).1.1, Or.inl z0⟩, fun _ => z0⟩
theorem HOI_th (h : HOI x q) : HOI x (kTh q) := h
theorem HOI_mk (hl : kle q q1) (hu1 : kU q1) (f : fm sNw x y) (h : HOI x q) : HOI y q1 := by
  obtain ⟨h1, h2, h3, h4⟩ := h
  have hc : agC x y := fun c k hc => f c k (by unfold sNw; omega)
  refine ⟨?_, fun h9 => ?_, fun h10 => ?_, fun o hO => ?_⟩
  · unfold kL at h1 ⊢; rw [f 20 1 (by unfold sNw; omega)]; exact h1
  · rw [f 0 9 (by unfold sNw; omega)] at h9; exact CO_fm (h2 h9) hc
  · rw [f 0 10 (by unfold sNw; omega)] at h10
    exact RUN_o hc (fun c k a b => f c k (by unfold sNw; omega)) (h3 h10)
  · have t := TRI_fm hO f hc (fun c k a b => by unfold sNw; omega) (h4 o hO).1
    refine ⟨⟨TO_le hu1 hl t.1, t.2⟩, fun hn => ?_⟩
    rw [f o 0 (by unfold sNw; omega)]
    exact (h4 o hO).2 (fun e => hn (kle_T hl e))
theorem HOI_ex (hl : kle q q1) (hu1 : kU q1) (ho : kiT q o) (f : fm (sEx o) x y) (hz : TZ y o) (ht : TO y q1 o) (hC : CO x) (h : HOI x q) : HOI y q1 := by
  obtain ⟨h1, h2, h3, h4⟩ := h
  have hO := iT_O ho
  have hc : agC x y := fun c k hc => f c k (by unfold sEx; omega)
  refine ⟨?_, fun h9 => CO_fm hC hc, fun h10 => ?_, fun p hp => ?_⟩
  · unfold kL at h1 ⊢; rw [f 20 1 (by unfold sEx; omega)]; exact h1
  · rw [f 0 10 (by unfold sEx; omega)] at h10
    exact RUN_o hc (fun c k a b => f c k (by unfold sEx; omega)) (h3 h10)
  · by_cases e : p = o
    · subst e
      exact ⟨⟨ht, Or.inr ⟨hz, CO_fm hC hc⟩⟩, fun hn => absurd (kle_T hl ho) hn⟩
    · obtain ⟨⟨t1, t2⟩, t3⟩ := h4 p hp
      have g0 : ∀ k, y.1 p k = x.1 p k := fun k => f p k (by unfold sEx; omega)
      have ff : fm (fun c k => ¬ (p ≤ c ∧ c ≤ p + 14)) x y := fun c k hk => f c k (by unfold sEx; omega)
      refine ⟨⟨TO_le hu1 hl (TO_fm ff (by omega) (fun k => by omega) t1), ?_⟩, fun hn => ?_⟩
      · rw [g0]
        rcases t2 with e2 | ⟨a, b⟩
        · exact Or.inl e2
        · exact Or.inr ⟨TZ_fm ff (by omega) (fun c k hc => by omega) a, CO_fm b hc⟩
      · rw [g0]; exact t3 (fun e3 => hn (kle_T hl e3))
theorem k7_T {n : Nat} (h : (kf q).1 7 n = some o) : kiT q o := by
  have h : kR q 7 n = some o := h
  unfold kR at h
  rw [if_neg (by omega), if_neg (by omega), if_pos rfl] at h
  by_cases e0 : n = 0
  · rw [if_pos e0] at h
    by_cases e : q.t0 = true
    · rw [if_pos e] at h; cases h; exact Or.inl ⟨rfl, e⟩
    · rw [if_neg e] at h; cases h
  · rw [if_neg e0] at h
    by_cases e1 : n = 1
    · rw [if_pos e1] at h
      by_cases e : q.t1 = true
      · rw [if_pos e] at h; cases h; exact Or.inr ⟨rfl, e⟩
      · rw [if_neg e] at h; cases h
    · rw [if_neg e1] at h; cases h
theorem k7_0 (h : (kf q).1 7 0 = none) : ¬ kiT q 260 := by
  intro e
  rcases e with ⟨-, e⟩ | ⟨e, -⟩
  · have h : (if q.t0 = true then some 260 else none) = (none : Option Nat) := h
    rw [if_pos e] at h; cases h
  · omega
theorem k7_1 (h : (kf q).1 7 1 = none) : ¬ kiT q 280 := by
  intro e
  rcases e with ⟨e, -⟩ | ⟨-, e⟩
  · omega
  · have h : (if q.t1 = true then some 280 else none) = (none : Option Nat) := h
    rw [if_pos e] at h; cases h
theorem kz_forget (hq : kV q) (h : ∀ y, fm sFo x y → y.1 0 9 = 0 → y.1 0 10 = 0 → (∀ o, kiT q o → y.1 o 0 = 0) → (∀ o, (o = 260 ∨ o = 280) → ¬ kiT q o → y.1 o 0 = x.1 o 0) → Fv y) : KT G q d zk_X11_forgetAll 0 [(0, vr 0)] [] x (rv Fv) := by
  have k2 : (2 : Int32).toInt = 2 := rfl
  have n0 : (0 : Int32).toNatClampNeg = 0 := rfl
  have n1 : (0 + 1 : Int32).toNatClampNeg = 1 := by decide
  have v0 : vp_in (0 : Int32) 2 := vin0 (by omega)
  have v1 : vp_in (0 + 1 : Int32) 2 := by rw [vp_in_iff]; decide
  refine kg_X11_forgetAll_0 hq (fun x1 e1 x2 e2 => ?_)
  have f2 : fm sFo x x2 := by rw [e2, e1]; exact fm_si (fm_si (fm_rf _ _) (by unfold sFo; omega)) (by unfold sFo; omega)
  have a9 : x2.1 0 9 = 0 := by rw [e2, si_get, if_neg (by omega), e1, si_get, if_pos ⟨rfl, rfl⟩]
  have a10 : x2.1 0 10 = 0 := by rw [e2, si_get, if_pos ⟨rfl, rfl⟩]
  have a26 : x2.1 260 0 = x.1 260 0 := by rw [e2, si_get, if_neg (by omega), e1, si_get, if_neg (by omega)]
  have a28 : x2.1 280 0 = x.1 280 0 := by rw [e2, si_get, if_neg (by omega), e1, si_get, if_neg (by omega)]
  have last : ∀ w : gd, fm sFo x w → w.1 0 9 = 0 → w.1 0 10 = 0 → (∀ o, kiT q o → w.1 o 0 = 0) → (∀ o, (o = 260 ∨ o = 280) → ¬ kiT q o → w.1 o 0 = x.1 o 0) → KT G q d zk_X11_forgetAll 12 [(0, vr 0), (1, vi (0 + 1 + 1))] [] w (rv Fv) := fun w a b c e g => kg_X11_forgetAll_12 hq _ ⟨fun _ => rv_i (h w a b c e g), fun c9 => absurd (by decide) c9⟩
  have second : ∀ w : gd, fm sFo x w → w.1 0 9 = 0 → w.1 0 10 = 0 → (kiT q 260 → w.1 260 0 = 0) → (¬ kiT q 260 → w.1 260 0 = x.1 260 0) → w.1 280 0 = x.1 280 0 → KT G q d zk_X11_forgetAll 12 [(0, vr 0), (1, vi (0 + 1))] [] w (rv Fv) := by
    intro w fw w9 w10 wT wF w8
    refine kg_X11_forgetAll_12 hq _ ⟨fun c9 => absurd c9 (by decide), fun _ => ⟨v1, fun u3 e3 => ?_⟩⟩
    rw [n1] at e3
    rw [n1]
    refine ⟨fun hn => last w fw w9 w10 (fun o ho => ?_) (fun o hO hno => ?_), fun c5 h5 => ⟨v1, fun u7 e7 => ⟨c5, by rw [e7, ← e3, h5], k7_T (by rw [← e3, h5]), fun x10 e10 => ?_⟩⟩⟩
    · rw [hn] at e3
      rcases iT_O ho with e | e
      · subst e; exact wT ho
      · subst e; exact absurd ho (k7_1 e3.symm)
    · rcases hO with e | e
      · subst e; exact wF hno
      · subst e; exact w8
    · have hc5 : c5 = 280 := by
        have : (if q.t1 = true then some 280 else none) = some c5 := by rw [← h5, e3]; rfl
        by_cases e : q.t1 = true
        · rw [if_pos e] at this; cases this; rfl
        · rw [if_neg e] at this; cases this
      subst hc5
      have g : ∀ c k, ¬ (c = 280 ∧ k = 0) → x10.1 c k = w.1 c k := fun c k hc => by rw [e10, si_get, if_neg hc]
      refine last x10 (fm_tr fw (by rw [e10]; exact fm_si (fm_rf _ _) (by unfold sFo; omega))) (by rw [g _ _ (by omega)]; exact w9) (by rw [g _ _ (by omega)]; exact w10) (fun o ho => ?_) (fun o hO hno => ?_)
      · rcases iT_O ho with e | e
        · subst e; rw [g _ _ (by omega)]; exact wT ho
        · subst e; rw [e10, si_get, if_pos ⟨rfl, rfl⟩]
      · rcases hO with e | e
        · subst e; rw [g _ _ (by omega)]; exact wF hno
        · subst e; exact absurd (k7_T (by rw [← e3, h5])) hno
  refine kg_X11_forgetAll_12 hq _ ⟨fun c9 => absurd c9 (by decide), fun _ => ⟨v0, fun u3 e3 => ?_⟩⟩
  rw [n0] at e3
  rw [n0]
  refine ⟨fun hn => second x2 f2 a9 a10 (fun ho => ?_) (fun _ => a26) a28, fun c5 h5 => ⟨v0, fun u7 e7 => ⟨c5, by rw [e7, ← e3, h5], k7_T (by rw [← e3, h5]), fun x10 e10 => ?_⟩⟩⟩
  · rw [hn] at e3; exact absurd ho (k7_0 e3.symm)
  · have hc5 : c5 = 260 := by
      have : (if q.t0 = true then some 260 else none) = some c5 := by rw [← h5, e3]; rfl
      by_cases e : q.t0 = true
      · rw [if_pos e] at this; cases this; rfl
      · rw [if_neg e] at this; cases this
    subst hc5
    have g : ∀ c k, ¬ (c = 260 ∧ k = 0) → x10.1 c k = x2.1 c k := fun c k hc => by rw [e10, si_get, if_neg hc]
    exact second x10 (fm_tr f2 (by rw [e10]; exact fm_si (fm_rf _ _) (by unfold sFo; omega))) (by rw [g _ _ (by omega)]; exact a9) (by rw [g _ _ (by omega)]; exact a10) (fun _ => by rw [e10, si_get, if_pos ⟨rfl, rfl⟩]) (fun hno => absurd (k7_T (by rw [← e3, h5])) hno) (by rw [g _ _ (by omega)]; exact a28)
theorem fo_cm {c k : Nat} (h : sFo c k) : sCm c k := by unfold sFo at h; unfold sCm; omega
/-! what is needed first -/
theorem kz_run (hq : kV q) (hH : HOI x q) (hS : X iSE x) (h : RUN x → Fv x) : KE G q (d + 6) zk_X11_needRun 0 [(0, vr 0)] [] x (rv Fv) X :=
  kg_X11_needRun_0 hq ⟨fun c => rv_i (h (hH.2.2.1 c)), fun _ => hS⟩
theorem kz_way (hq : kV q) (l : Int32) (hA : X iAE x) (h : (l = 0 ∨ l = 1) → Fv x) : KE G q (d + 6) zk_X11_needWay 0 [(0, vi l)] [] x (rv Fv) X := by
  refine kg_X11_needWay_0 hq l ⟨fun _ => kg_X11_needWay_9 hq hA, fun c => ⟨fun c2 => rv_i (h ?_), fun _ => kg_X11_needWay_9 hq hA⟩⟩
  have k0 : (0 : Int32).toInt = 0 := rfl
  have k1 : (1 : Int32).toInt = 1 := rfl
  have k2 : (2 : Int32).toInt = 2 := rfl
  rw [t_lt, k0] at c
  rw [t_lt, k2] at c2
  rw [t_eq, t_eq, k0, k1]; omega
theorem kz_ix (hq : kV q) (l n : Int32) (hO : X iOE x) (h : 0 ≤ l.toInt → l.toInt < n.toInt → Fv x) : KE G q (d + 6) zk_X11_needIndex 0 [(0, vi l), (1, vi n)] [] x (rv Fv) X := by
  refine kg_X11_needIndex_0 hq l n ⟨fun _ => kg_X11_needIndex_9 hq hO, fun c => ⟨fun c2 => rv_i (h ?_ ?_), fun _ => kg_X11_needIndex_9 hq hO⟩⟩
  · have k0 : (0 : Int32).toInt = 0 := rfl
    rw [t_lt, k0] at c; omega
  · rw [t_lt] at c2; exact c2
theorem kz_what (hq : kV q) (l n : Int32) (hO : X iOE x) (h : Fv x) : KE G q (d + 6) zk_X11_needWhat 0 [(0, vi l), (1, vi n)] [] x (rv Fv) X :=
  kg_X11_needWhat_0 hq l n ⟨fun _ => kg_X11_needWhat_9 hq hO, fun _ => ⟨fun _ => rv_i h, fun _ => kg_X11_needWhat_9 hq hO⟩⟩
theorem way_in {l : Int32} (hw : l = 0 ∨ l = 1) : vp_in l 2 := by
  rw [vp_in_iff]
  rcases hw with e | e <;> rw [e] <;> decide
theorem kz_was (hq : kV q) (hH : HOI x q) (l : Int32) (hw : l = 0 ∨ l = 1) (h0 : F 0 x) (h1 : ∀ o, (kf q).1 7 l.toNatClampNeg = some o → kiT q o → TZ x o → TO x q o → CO x → 0 < (x.1 o 0).toInt → F 1 x) : KT G q d zk_X11_wasTried 0 [(0, vr 0), (1, vi l)] [] x (ri F) := by
  have k0 : (0 : Int32).toInt = 0 := rfl
  have v := way_in hw
  refine kg_X11_wasTried_0 hq l ⟨v, fun u2 e2 => ⟨fun _ => ri_i h0, fun c4 h4 => ⟨v, fun u6 e6 => ⟨c4, by rw [e6, ← e2, h4], k7_T (by rw [← e2, h4]), fun _ => ri_i h0, fun c => ri_i ?_⟩⟩⟩⟩
  have ho : kiT q c4 := k7_T (by rw [← e2, h4])
  rw [t_le, k0] at c
  obtain ⟨⟨t1, t2⟩, -⟩ := hH.2.2.2 c4 (iT_O ho)
  rcases t2 with e | ⟨a, b⟩
  · rw [e, k0] at c; omega
  · exact h1 c4 (by rw [← e2, h4]) ho a t1 b (by omega)
end KHO
end
section
/-! the class: begin() -/
section KBF
variable {G : kG} {q : kP} {d : Nat} {x y : gd} {F : Int32 → gd → Prop} {Fv : gd → Prop} {X : String → gd → Prop} {C : gCo}
theorem kf_comp (hq : kV q) (hH : HOI x q) (hS : x.1 0 9 = 0 → X iSE x) (h : ¬ x.1 0 9 = 0 → CO x → Fv x) : KE G q (d + 6) zk_X11_needCompiled 0 [(0, vr 0)] [] x (rv Fv) X :=
  kg_X11_needCompiled_0 hq ⟨fun c => rv_i (h c (hH.2.1 c)), fun c => hS c⟩
theorem kf_way (hq : kV q) (l : Int32) (hA : ¬ (l = 0 ∨ l = 1) → X iAE x) (h : (l = 0 ∨ l = 1) → Fv x) : KE G q (d + 6) zk_X11_needWay 0 [(0, vi l)] [] x (rv Fv) X := by
  have k0 : (0 : Int32).toInt = 0 := rfl
  have k1 : (1 : Int32).toInt = 1 := rfl
  have k2 : (2 : Int32).toInt = 2 := rfl
  refine kg_X11_needWay_0 hq l ⟨fun c => kg_X11_needWay_9 hq (hA (fun z => ?_)), fun c => ⟨fun c2 => rv_i (h ?_), fun c2 => kg_X11_needWay_9 hq (hA (fun z => ?_))⟩⟩
  · rw [t_lt, k0] at c
    rcases z with z | z <;> rw [z] at c
    · rw [k0] at c; omega
    · rw [k1] at c; omega
  · rw [t_lt, k0] at c
    rw [t_lt, k2] at c2
    rw [t_eq, t_eq, k0, k1]
    omega
  · rw [t_lt, k2] at c2
    rcases z with z | z <;> rw [z] at c2
    · rw [k0] at c2; omega
    · rw [k1] at c2; omega
end KBF
end
section
/-! the machine: what stands, which choices there are, what one does -/
/-- a thread: status, number, step, waits (1 not woken, 2 woken), how often it held, its call's kind (-1: none), late writes, locals by place -/
abbrev gTq := Nat × Nat × Nat × Nat × Int32 × Int32 × List (Nat × Int32) × (Nat → Int32)
/-- cells, locks (holder + 1 or 0, how often), threads -/
abbrev gMa := (Nat → Int32) × (Nat → Nat × Int32) × (Nat → gTq)
def stN (C : gCo) (s : Nat) : gNs := (C.1[s]?).getD (0, [], 0, none, 0, 0, false, none, none, none)
def obM (C : gCo) (s : Nat) : Nat := (stN C s).2.2.2.2.1.toNatClampNeg
def suM (C : gCo) (c : Nat) : Bool := match C.2.2.1[c]? with
  | some q => q.2
  | none => false
/-- what comes of a thread's own steps -/
noncomputable def owR (C : gCo) (me : Int32) (s : Nat) (lv : Nat → Int32) : gTr := @dite gTr (∃ r, ∃ n, setP C me n 0 s lv = some r) (Classical.propDecidable _) (fun h => h.choose) (fun _ => (0, 0, 0, fun _ => 0))
theorem owR_is {C : gCo} {me : Int32} {n s : Nat} {lv : Nat → Int32} {r : gTr} (h : setP C me n 0 s lv = some r) : owR C me s lv = r := by
  have h' : ∃ r, ∃ n, setP C me n 0 s lv = some r := ⟨r, n, h⟩
  unfold owR
  rw [dif_pos h']
  obtain ⟨m, hm⟩ := h'.choose_spec
  exact set_det hm h
/-- locals that are known there; 0 where not -/
def kvL (C : gCo) (u s : Nat) (lv : Nat → Int32) : Nat → Int32 := fun p => if (u = 1 ∨ u = 3) ∧ p < (stN C s).2.1.length then lv p else 0
/-- a thread goes on from a step, up to before its next act -/
noncomputable def thN (C : gCo) (t : Nat) (h : gTq) (s : Nat) (lv : Nat → Int32) : gTq := ((owR C (Int32.ofNat t) s lv).1, (owR C (Int32.ofNat t) s lv).2.1, (owR C (Int32.ofNat t) s lv).2.2.1, h.2.2.2.1, h.2.2.2.2.1, h.2.2.2.2.2.1, h.2.2.2.2.2.2.1, kvL C (owR C (Int32.ofNat t) s lv).1 (owR C (Int32.ofNat t) s lv).2.2.1 (owR C (Int32.ofNat t) s lv).2.2.2)
def thF (h : gTq) (k : Nat) : gTq := (3, k, h.2.2)
def upf {α : Type} (f : Nat → α) (j : Nat) (v : α) : Nat → α := fun i => if i = j then v else f i
def upC (M : gMa) (c : Nat) (v : Int32) : gMa := (upf M.1 c v, M.2)
def upL (M : gMa) (l : Nat) (v : Nat × Int32) : gMa := (M.1, upf M.2.1 l v, M.2.2)
def upT (M : gMa) (t : Nat) (h : gTq) : gMa := (M.1, M.2.1, upf M.2.2 t h)
/-- the sort of its next act -/
def soM (C : gCo) (h : gTq) : Nat := if h.2.2.2.1 = 0 then (stN C h.2.2.1).1 else 15
/-- a thread as a run begins; a run's beginning -/
def th0 : gTq := (0, 0, 0, 0, 0, -1, [], fun _ => 0)
noncomputable def fsM (C : gCo) : gMa := (fun c => match C.2.2.1[c]? with | some q => q.1 | none => 0, fun _ => (0, 0), fun t => match C.2.1[t]? with | some q => if q.2 = 1 then th0 else thN C t th0 q.1 (fun _ => 0) | none => th0)
/-- the latest of a row of writes to a cell -/
def seL : List (Nat × Int32) → Nat → Int32 → Int32
  | [], _, v => v
  | q :: r, c, v => seL r c (if q.1 = c then q.2 else v)
def seM (M : gMa) (t c : Nat) : Int32 := seL (M.2.2 t).2.2.2.2.2.2.1 c (M.1 c)
/-- whether its next act can be done -/
abbrev canM (C : gCo) (w : Nat) (M : gMa) (t : Nat) : Prop := (M.2.2 t).1 = 1 ∧ ¬ (M.2.2 t).2.2.2.1 = 1 ∧
  (¬ (soM C (M.2.2 t) = 0 ∨ soM C (M.2.2 t) = 12 ∨ soM C (M.2.2 t) = 13 ∨ soM C (M.2.2 t) = 14 ∨ (w = 1 ∧ soM C (M.2.2 t) = 1 ∧ suM C (obM C (M.2.2 t).2.2.1) = false)) → (M.2.2 t).2.2.2.2.2.2.1 = []) ∧
  ((soM C (M.2.2 t) = 5 ∨ soM C (M.2.2 t) = 15) → (M.2.1 (obM C (M.2.2 t).2.2.1)).1 = 0 ∨ (M.2.1 (obM C (M.2.2 t).2.2.1)).1 = t + 1) ∧
  (soM C (M.2.2 t) = 10 → 2 ≤ (M.2.2 (obM C (M.2.2 t).2.2.1)).1 ∧ (M.2.2 (obM C (M.2.2 t).2.2.1)).2.2.2.2.2.2.1 = [])
/-- those that wait for a lock, not woken yet -/
def waM (C : gCo) (M : gMa) (l : Nat) : List Nat := (List.range C.2.1.length).filter (fun o => (M.2.2 o).2.2.2.1 == 1 && obM C (M.2.2 o).2.2.1 == l)
/-- a thread's late ones that may come: the first of each cell -/
def ltM (h : gTq) : List Nat := (List.range h.2.2.2.2.2.2.1.length).filter (fun i => ((h.2.2.2.2.2.2.1.take i).all (fun q => !(some q.1 == (h.2.2.2.2.2.2.1[i]?).map (fun z => z.1)))))
/-- a choice: thread, late one, woken thread -/
abbrev gCh := Nat × Option Nat × Option Nat
def ch1 (C : gCo) (w : Nat) (M : gMa) (t : Nat) : List gCh :=
  (if canM C w M t then (if soM C (M.2.2 t) = 8 ∧ (stN C (M.2.2 t).2.2.1).2.2.2.2.2.2.1 = false ∧ (M.2.1 (obM C (M.2.2 t).2.2.1)).1 = t + 1 ∧ ¬ waM C M (obM C (M.2.2 t).2.2.1) = [] then (waM C M (obM C (M.2.2 t).2.2.1)).map (fun o => (t, none, some o)) else [(t, none, none)]) else [])
  ++ (ltM (M.2.2 t)).map (fun i => (t, some i, none))
def chM (C : gCo) (w : Nat) (M : gMa) : List gCh := (List.range C.2.1.length).flatMap (ch1 C w M)
/-- where its [ ] leads: a failure, or the cell -/
def lkI (C : gCo) (M : gMa) (t : Nat) : Nat × Int32 := match (stN C (M.2.2 t).2.2.1).2.2.2.2.2.2.2.1 with
  | none => (0, (stN C (M.2.2 t).2.2.1).2.2.2.2.1)
  | some Q => match wkQ (M.2.2 t).2.2.2.2.2.2.2 (fun _ => 0) (Int32.ofNat t) Q with
    | none => (1, -1)
    | some v => if v < 0 ∨ (stN C (M.2.2 t).2.2.1).2.2.2.2.2.1 ≤ v then (2, -1) else (0, (stN C (M.2.2 t).2.2.1).2.2.2.2.1 + v)
def evO (lv : Nat → Int32) (me : Int32) : Option (List gQ) → Option Int32
  | none => some 0
  | some Q => wkQ lv (fun _ => 0) me Q
/-- what else it may fail by -/
def rsF (C : gCo) (w : Nat) (M : gMa) (t s c : Nat) : Nat :=
  if s = 6 ∧ ¬ (M.2.1 c).1 = t + 1 then 3
  else if (s = 7 ∨ s = 8) ∧ ¬ (M.2.1 c).1 = t + 1 then 4
  else if s = 9 ∧ ¬ (M.2.2 c).1 = 0 then 7
  else if (s = 13 ∧ ¬ (M.2.2 t).2.2.2.2.2.1 = -1) ∨ (s = 14 ∧ (M.2.2 t).2.2.2.2.2.1 = -1) then 8
  else if s = 1 ∧ w = 1 ∧ suM C c = false ∧ 8 ≤ (M.2.2 t).2.2.2.2.2.2.1.length then 9 else 0
/-- an act looked at: its failure (0: none), its cell, lock or thread, its values -/
def lkM (C : gCo) (w : Nat) (M : gMa) (t : Nat) : Nat × Int32 × Int32 × Int32 :=
  if ¬ (M.2.2 t).2.2.2.1 = 0 then (0, (stN C (M.2.2 t).2.2.1).2.2.2.2.1, 0, 0)
  else if ¬ (lkI C M t).1 = 0 then ((lkI C M t).1, (lkI C M t).2, 0, 0)
  else match evO (M.2.2 t).2.2.2.2.2.2.2 (Int32.ofNat t) (stN C (M.2.2 t).2.2.1).2.2.2.2.2.2.2.2.1 with
    | none => (1, (lkI C M t).2, 0, 0)
    | some e => match evO (M.2.2 t).2.2.2.2.2.2.2 (Int32.ofNat t) (stN C (M.2.2 t).2.2.1).2.2.2.2.2.2.2.2.2 with
      | none => (1, (lkI C M t).2, e, 0)
      | some f => (rsF C w M t (stN C (M.2.2 t).2.2.1).1 (lkI C M t).2.toNatClampNeg, (lkI C M t).2, e, f)
section PLK
variable {C : gCo} {w : Nat} {M : gMa} {t : Nat} {e f v : Int32} {Q : List gQ}
theorem lkI_n (h : (stN C (M.2.2 t).2.2.1).2.2.2.2.2.2.2.1 = none) : lkI C M t = (0, (stN C (M.2.2 t).2.2.1).2.2.2.2.1) := by
  unfold lkI
  rw [h]
theorem lkI_1 (h : (stN C (M.2.2 t).2.2.1).2.2.2.2.2.2.2.1 = some Q) (g : wkQ (M.2.2 t).2.2.2.2.2.2.2 (fun _ => 0) (Int32.ofNat t) Q = none) : lkI C M t = (1, -1) := by
  unfold lkI
  rw [h]
  simp only [g]
theorem lkI_2 (h : (stN C (M.2.2 t).2.2.1).2.2.2.2.2.2.2.1 = some Q) (g : wkQ (M.2.2 t).2.2.2.2.2.2.2 (fun _ => 0) (Int32.ofNat t) Q = some v) (c : v < 0 ∨ (stN C (M.2.2 t).2.2.1).2.2.2.2.2.1 ≤ v) : lkI C M t = (2, -1) := by
  unfold lkI
  rw [h]
  simp only [g]
  rw [if_pos c]
theorem lkI_0 (h : (stN C (M.2.2 t).2.2.1).2.2.2.2.2.2.2.1 = some Q) (g : wkQ (M.2.2 t).2.2.2.2.2.2.2 (fun _ => 0) (Int32.ofNat t) Q = some v) (c : ¬ (v < 0 ∨ (stN C (M.2.2 t).2.2.1).2.2.2.2.2.1 ≤ v)) : lkI C M t = (0, (stN C (M.2.2 t).2.2.1).2.2.2.2.1 + v) := by
  unfold lkI
  rw [h]
  simp only [g]
  rw [if_neg c]
theorem lkM_15 (h : ¬ (M.2.2 t).2.2.2.1 = 0) : lkM C w M t = (0, (stN C (M.2.2 t).2.2.1).2.2.2.2.1, 0, 0) := by
  unfold lkM
  rw [if_pos h]
theorem lkM_i (h : (M.2.2 t).2.2.2.1 = 0) (g : ¬ (lkI C M t).1 = 0) : lkM C w M t = ((lkI C M t).1, (lkI C M t).2, 0, 0) := by
  unfold lkM
  rw [if_neg (fun z => z h), if_pos g]
theorem lkM_1 (h : (M.2.2 t).2.2.2.1 = 0) (g : (lkI C M t).1 = 0) (e1 : evO (M.2.2 t).2.2.2.2.2.2.2 (Int32.ofNat t) (stN C (M.2.2 t).2.2.1).2.2.2.2.2.2.2.2.1 = none) : lkM C w M t = (1, (lkI C M t).2, 0, 0) := by
  unfold lkM
  rw [if_neg (fun z => z h), if_neg (fun z => z g)]
  simp only [e1]
theorem lkM_2 (h : (M.2.2 t).2.2.2.1 = 0) (g : (lkI C M t).1 = 0) (e1 : evO (M.2.2 t).2.2.2.2.2.2.2 (Int32.ofNat t) (stN C (M.2.2 t).2.2.1).2.2.2.2.2.2.2.2.1 = some e) (e2 : evO (M.2.2 t).2.2.2.2.2.2.2 (Int32.ofNat t) (stN C (M.2.2 t).2.2.1).2.2.2.2.2.2.2.2.2 = none) : lkM C w M t = (1, (lkI C M t).2, e, 0) := by
  unfold lkM
  rw [if_neg (fun z => z h), if_neg (fun z => z g)]
  simp only [e1, e2]
theorem lkM_3 (h : (M.2.2 t).2.2.2.1 = 0) (g : (lkI C M t).1 = 0) (e1 : evO (M.2.2 t).2.2.2.2.2.2.2 (Int32.ofNat t) (stN C (M.2.2 t).2.2.1).2.2.2.2.2.2.2.2.1 = some e) (e2 : evO (M.2.2 t).2.2.2.2.2.2.2 (Int32.ofNat t) (stN C (M.2.2 t).2.2.1).2.2.2.2.2.2.2.2.2 = some f) : lkM C w M t = (rsF C w M t (stN C (M.2.2 t).2.2.1).1 (lkI C M t).2.toNatClampNeg, (lkI C M t).2, e, f) := by
  unfold lkM
  rw [if_neg (fun z => z h), if_neg (fun z => z g)]
  simp only [e1, e2]
end PLK
/-- what it does to others, and what it answers -/
noncomputable def efM (C : gCo) (w : Nat) (M : gMa) (t s c : Nat) (e f : Int32) (wk : Option Nat) : gMa × Int32 :=
  if s = 0 then (M, seM M t c)
  else if s = 1 then (if w = 0 ∨ suM C c = true then (upC M c e, 0) else (upT M t ((M.2.2 t).1, (M.2.2 t).2.1, (M.2.2 t).2.2.1, (M.2.2 t).2.2.2.1, (M.2.2 t).2.2.2.2.1, (M.2.2 t).2.2.2.2.2.1, (M.2.2 t).2.2.2.2.2.2.1 ++ [(c, e)], (M.2.2 t).2.2.2.2.2.2.2), 0))
  else if s = 2 then (upC M c e, M.1 c)
  else if s = 3 then (upC M c (M.1 c + e), M.1 c)
  else if s = 4 then (upC M c (if M.1 c = e then f else M.1 c), if M.1 c = e then 1 else 0)
  else if s = 5 then (upL M c (t + 1, (M.2.1 c).2 + 1), 0)
  else if s = 6 then (upL M c (if (M.2.1 c).2 - 1 = 0 then 0 else t + 1, (M.2.1 c).2 - 1), 0)
  else if s = 7 then (upT (upL M c (0, 0)) t ((M.2.2 t).1, (M.2.2 t).2.1, (M.2.2 t).2.2.1, 1, (M.2.1 c).2, (M.2.2 t).2.2.2.2.2), 0)
  else if s = 8 then ((M.1, M.2.1, fun o => if o < C.2.1.length ∧ (M.2.2 o).2.2.2.1 = 1 ∧ obM C (M.2.2 o).2.2.1 = c ∧ ((stN C (M.2.2 t).2.2.1).2.2.2.2.2.2.1 = true ∨ wk = some o) then ((M.2.2 o).1, (M.2.2 o).2.1, (M.2.2 o).2.2.1, 2, (M.2.2 o).2.2.2.2) else M.2.2 o), 0)
  else if s = 9 then (match C.2.1[c]? with | some q => upT M c (thN C c (M.2.2 c) q.1 (M.2.2 c).2.2.2.2.2.2.2) | none => M, 0)
  else if s = 13 then (upT M t ((M.2.2 t).1, (M.2.2 t).2.1, (M.2.2 t).2.2.1, (M.2.2 t).2.2.2.1, (M.2.2 t).2.2.2.2.1, (stN C (M.2.2 t).2.2.1).2.2.2.2.1, (M.2.2 t).2.2.2.2.2.2), 0)
  else if s = 14 then (upT M t ((M.2.2 t).1, (M.2.2 t).2.1, (M.2.2 t).2.2.1, (M.2.2 t).2.2.2.1, (M.2.2 t).2.2.2.2.1, -1, (M.2.2 t).2.2.2.2.2.2), 0)
  else if s = 15 then (upT (upL M c (t + 1, (M.2.2 t).2.2.2.2.1)) t ((M.2.2 t).1, (M.2.2 t).2.1, (M.2.2 t).2.2.1, 0, 0, (M.2.2 t).2.2.2.2.2), 0)
  else (M, 0)
def toV (st : gNs) (lv : Nat → Int32) (v : Int32) : Nat → Int32 := match st.2.2.2.1 with
  | some p => fup lv p v
  | none => lv
/-- a thread's act is done -/
noncomputable def acM (C : gCo) (w : Nat) (M : gMa) (t : Nat) (wk : Option Nat) : gMa :=
  if ¬ (lkM C w M t).1 = 0 then upT M t (thF (M.2.2 t) (lkM C w M t).1)
  else if soM C (M.2.2 t) = 7 then (efM C w M t 7 (lkM C w M t).2.1.toNatClampNeg 0 0 wk).1
  else upT (efM C w M t (soM C (M.2.2 t)) (lkM C w M t).2.1.toNatClampNeg (lkM C w M t).2.2.1 (lkM C w M t).2.2.2 wk).1 t
    (thN C t ((efM C w M t (soM C (M.2.2 t)) (lkM C w M t).2.1.toNatClampNeg (lkM C w M t).2.2.1 (lkM C w M t).2.2.2 wk).1.2.2 t) ((M.2.2 t).2.2.1 + 1) (toV (stN C (M.2.2 t).2.2.1) (M.2.2 t).2.2.2.2.2.2.2 (efM C w M t (soM C (M.2.2 t)) (lkM C w M t).2.1.toNatClampNeg (lkM C w M t).2.2.1 (lkM C w M t).2.2.2 wk).2))
/-- a late one comes -/
def laM (M : gMa) (t i : Nat) : gMa := match (M.2.2 t).2.2.2.2.2.2.1[i]? with
  | some q => upT (upC M q.1 q.2) t ((M.2.2 t).1, (M.2.2 t).2.1, (M.2.2 t).2.2.1, (M.2.2 t).2.2.2.1, (M.2.2 t).2.2.2.2.1, (M.2.2 t).2.2.2.2.2.1, (M.2.2 t).2.2.2.2.2.2.1.eraseIdx i, (M.2.2 t).2.2.2.2.2.2.2)
  | none => M
/-- a choice is done -/
noncomputable def doM (C : gCo) (w : Nat) (M : gMa) (c : gCh) : gMa := match c.2.1 with
  | some i => laM M c.1 i
  | none => acM C w M c.1 c.2.2
/-- what else every code is like: sums only where they belong; wakeall's sign -/
def NXc (C : gCo) : Prop := ∀ (j : Nat) (st : gNs), C.1[j]? = some st → (¬ st.2.2.2.2.2.2.2.1 = none → st.1 ≤ 4) ∧ (¬ st.2.2.2.2.2.2.2.2.2 = none → st.1 = 4) ∧ (¬ st.2.2.2.2.2.2.2.2.1 = none → (1 ≤ st.1 ∧ st.1 ≤ 4) ∨ st.1 = 13 ∨ st.1 = 14 ∨ (16 ≤ st.1 ∧ st.1 ≤ 18)) ∧ (st.1 = 8 → st.2.2.2.2.2.1 = if st.2.2.2.2.2.2.1 = true then 1 else 0) ∧ (¬ (st.1 = 0 ∨ (2 ≤ st.1 ∧ st.1 ≤ 4) ∨ st.1 = 16 ∨ st.1 = 17 ∨ st.1 = 20) → st.2.2.2.1 = none) ∧ (st.1 ≤ 4 → 0 ≤ st.2.2.2.2.1.toInt ∧ st.2.2.2.2.1.toInt < C.2.2.1.length ∧ (¬ st.2.2.2.2.2.2.2.1 = none → st.2.2.2.2.1.toInt + st.2.2.2.2.2.1.toInt ≤ C.2.2.1.length))
end
section
/-! the model: what a thread's own steps leave, wholly -/
/-- which locals are known: the bits of a mask -/
theorem or_sr (a b j : Int32) : ((a ||| b) >>> j) &&& 1 = ((a >>> j) &&& 1) ||| ((b >>> j) &&& 1) := by
  apply Int32.toBitVec_inj.1
  simp only [Int32.toBitVec_and, Int32.toBitVec_or, Int32.toBitVec_shiftRight, BitVec.sshiftRight_eq', BitVec.sshiftRight_or_distrib]
  ext i hi
  simp [Bool.and_or_distrib_right]
theorem km_1 : ∀ s, s < 8 → ∀ k, k < 8 → (((1 : Int32) <<< (Int32.ofNat s &&& 31)) >>> (Int32.ofNat k &&& 31)) &&& 1 = if k = s then 1 else 0 := by decide +kernel
theorem km_0 : ∀ k, k < 8 → ((0 : Int32) >>> (Int32.ofNat k &&& 31)) &&& 1 = 0 := by decide +kernel
theorem km_bit : ∀ {sl : List Nat}, (∀ s ∈ sl, s < 8) → ∀ k, k < 8 → (kmN sl >>> (Int32.ofNat k &&& 31)) &&& 1 = if k ∈ sl then 1 else 0 := by
  intro sl
  induction sl with
  | nil => intro _ k hk; rw [if_neg (by simp)]; exact km_0 k hk
  | cons s r ih =>
    intro h k hk
    rw [kmN, or_sr, ih (fun s hs => h s (List.mem_cons_of_mem _ hs)) k hk, km_1 s (h s List.mem_cons_self) k hk]
    by_cases c1 : k = s
    · rw [if_pos c1, if_pos (show k ∈ s :: r by rw [c1]; exact List.mem_cons_self)]
      by_cases c2 : k ∈ r
      · rw [if_pos c2]; decide
      · rw [if_neg c2]; decide
    · rw [if_neg c1]
      by_cases c2 : k ∈ r
      · rw [if_pos c2, if_pos (List.mem_cons_of_mem _ c2)]; decide
      · rw [if_neg c2, if_neg (fun z => (List.mem_cons.mp z).elim c1 c2)]; decide
def th3 (t : Nat) (x x' : gd) : Prop := md hL hA x x' ∧ (∀ c j : Nat, (c = 73 ∨ c = 74 ∨ c = 75 ∨ c = 77 ∨ c = 78) → ¬ j = t → x'.1 c j = x.1 c j) ∧ ∀ j : Nat, ¬ (8 * t ≤ j ∧ j < 8 * t + 8) → x'.1 76 j = x.1 76 j
theorem th3_th {t : Nat} {x x' : gd} (h : th3 t x x') : th t x x' := ⟨h.1, fun c j hc hj => h.2.1 c j (by omega) hj⟩
theorem th3_rf (t : Nat) (x : gd) : th3 t x x := ⟨md_w (md_rf x) (by decide) (by decide), fun _ _ _ _ => rfl, fun _ _ => rfl⟩
theorem th3_tr {t : Nat} {x y z : gd} (a : th3 t x y) (b : th3 t y z) : th3 t x z := ⟨md_tr a.1 b.1 rfl rfl, fun c j h1 h2 => (b.2.1 c j h1 h2).trans (a.2.1 c j h1 h2), fun j h => (b.2.2 j h).trans (a.2.2 j h)⟩
theorem th3_si {t c : Nat} (h : c ∈ [73, 74, 75, 77, 78]) (x : gd) (v : Int32) : th3 t x (si x c t v) := by
  refine ⟨(th_si h x v).1, fun c' j _ hj => si_ne c' j hj, fun j _ => ?_⟩
  rw [si_cell (fun e => by rw [← e] at h; exact absurd h (by decide))]
theorem th3_md {t : Nat} {L A : List Nat} {x x' : gd} (h : md L A x x') (h1 : L.all (hL.elem ·) = true) (h2 : A.all ([84].elem ·) = true) : th3 t x x' := by
  have g : ∀ k ∈ A, k ∈ [84] := fun k hk => List.elem_iff.mp (List.all_eq_true.mp h2 k hk)
  refine ⟨md_w h (fun k hk => List.elem_iff.mp (List.all_eq_true.mp h1 k hk)) (fun k hk => by have := g k hk; simp at this ⊢; omega), fun c j hc _ => ?_, fun j _ => ?_⟩
  · rw [h.2.1 c (by omega) (fun q => by have := g c q; simp at this; omega)]
  · rw [h.2.1 76 (by decide) (fun q => by have := g 76 q; simp at this)]
theorem th3_76 {t i : Nat} (h : 8 * t ≤ i ∧ i < 8 * t + 8) (x : gd) (v : Int32) : th3 t x (si x 76 i v) := by
  refine ⟨md_w (md_a x 76 i v (by decide)) (fun i hi => nomatch hi) (fun i hi => by rw [List.mem_singleton.mp hi]; decide), fun c j hc _ => ?_, fun j hj => ?_⟩
  · rw [si_cell (by omega)]
  · rw [si_get, if_neg (fun z => hj (by rw [z.2]; exact h))]
section DSL
variable {d : Nat} {S : gS} {x : gd} {F : Int32 → gd → gS → Prop} {Fv : gd → gS → Prop} {C : gCo}
theorem ds_fail3 (t n : Int32) (ht : vp_in t 6) (h : ∀ x', th3 t.toNatClampNeg x x' → x'.1 73 t.toNatClampNeg = 3 → x'.1 74 t.toNatClampNeg = x.1 74 t.toNatClampNeg → x'.1 77 t.toNatClampNeg = 0 → x'.1 75 t.toNatClampNeg = n → x'.1 78 t.toNatClampNeg = 0 → x'.1 76 = x.1 76 → Fv x' S) : MD d z_failThread 0 [(0, vr 0), (1, vi t), (2, vi n)] [] S x (Dv Fv) := by
  refine sd_failThread_0 _ _ ⟨ht, fun x2 e2 => ⟨ht, fun x4 e4 => ⟨ht, fun x6 e6 => ⟨ht, fun x8 e8 => Dv_i (h x8 ?_ ?_ ?_ ?_ ?_ ?_ ?_)⟩⟩⟩⟩
  · rw [e8, e6, e4, e2]
    exact th3_tr (th3_tr (th3_tr (th3_si (by decide) _ _) (th3_si (by decide) _ _)) (th3_si (by decide) _ _)) (th3_si (by decide) _ _)
  · rw [e8, si_cell (by decide), e6, si_cell (by decide), e4, si_cell (by decide), e2, si_get, if_pos ⟨rfl, rfl⟩]
  · rw [e8, si_cell (by decide), e6, si_cell (by decide), e4, si_cell (by decide), e2, si_cell (by decide)]
  · rw [e8, si_cell (by decide), e6, si_get, if_pos ⟨rfl, rfl⟩]
  · rw [e8, si_cell (by decide), e6, si_cell (by decide), e4, si_get, if_pos ⟨rfl, rfl⟩]
  · rw [e8, si_get, if_pos ⟨rfl, rfl⟩]
  · rw [e8, si_cell (by decide), e6, si_cell (by decide), e4, si_cell (by decide), e2, si_cell (by decide)]
theorem ds_clean3 (t : Int32) (ht : vp_in t 6) (ha : 0 ≤ (x.1 74 t.toNatClampNeg).toInt ∧ (x.1 74 t.toNatClampNeg).toInt < 1500) {sl : List Nat} (h8 : ∀ s ∈ sl, s < 8) (hm : x.1 73 t.toNatClampNeg = 1 ∨ x.1 73 t.toNatClampNeg = 3 → x.1 62 (x.1 74 t.toNatClampNeg).toNatClampNeg = kmN sl) (h : ∀ x', th3 t.toNatClampNeg x x' → x'.1 73 = x.1 73 → x'.1 75 = x.1 75 → x'.1 77 = x.1 77 → x'.1 78 = x.1 78 → (¬ (x.1 73 t.toNatClampNeg = 0 ∨ x.1 73 t.toNatClampNeg = 2) → x'.1 74 = x.1 74) → (x.1 73 t.toNatClampNeg = 0 ∨ x.1 73 t.toNatClampNeg = 2 → x'.1 74 t.toNatClampNeg = 0) → (∀ s, s < 8 → x'.1 76 (8 * t.toNatClampNeg + s) = if (x.1 73 t.toNatClampNeg = 1 ∨ x.1 73 t.toNatClampNeg = 3) ∧ s ∈ sl then x.1 76 (8 * t.toNatClampNeg + s) else 0) → Fv x' S) : MD d z_clean 0 [(0, vr 0), (1, vi t)] [] S x (Dv Fv) := by
  have k1 : (1 : Int32).toInt = 1 := rfl
  have k8 : (8 : Int32).toInt = 8 := rfl
  have tv := vp_in_iff.mp ht
  obtain ⟨T, eT⟩ : ∃ T, T = t.toNatClampNeg := ⟨_, rfl⟩
  have tT : t.toInt = (T : Nat) := by rw [eT, t_cl]; omega
  rw [← eT] at ha hm h
  have m1 : (8 * t).toInt = 8 * t.toInt := by rw [t_mul (by rw [k8]; omega) (by rw [k8]; omega), k8]
  have loop : ∀ (n : Nat) (y : gd) (m i : Int32), (∀ s, s < 8 → (¬ (m >>> (Int32.ofNat s &&& 31)) &&& 1 = 0 ↔ (x.1 73 T = 1 ∨ x.1 73 T = 3) ∧ s ∈ sl)) → md [] [76] x y → th3 T x y → 0 ≤ i.toInt → 8 - i.toInt ≤ n → (∀ s, s < 8 → y.1 76 (8 * T + s) = if (s : Int) < i.toInt ∧ ¬ ((x.1 73 T = 1 ∨ x.1 73 T = 3) ∧ s ∈ sl) then 0 else x.1 76 (8 * T + s)) → MD d z_clean 38 [(0, vr 0), (1, vi t), (2, vi m), (3, vi i)] [] S y (Dv Fv) := by
    have last : ∀ y : gd, md [] [76] x y → th3 T x y → (∀ s, s < 8 → y.1 76 (8 * T + s) = if (x.1 73 T = 1 ∨ x.1 73 T = 3) ∧ s ∈ sl then x.1 76 (8 * T + s) else 0) → vp_in t 6 ∧ (((y.1 73 t.toNatClampNeg) = (0 : Int32) → vp_in t 6 ∧ (∀ x5 : gd, x5 = si y 74 t.toNatClampNeg 0 → Dv Fv none x5 S)) ∧ (¬ ((y.1 73 t.toNatClampNeg) = (0 : Int32)) → vp_in t 6 ∧ ((¬ ((y.1 73 t.toNatClampNeg) = (2 : Int32)) → Dv Fv none y S) ∧ ((y.1 73 t.toNatClampNeg) = (2 : Int32) → vp_in t 6 ∧ (∀ x9 : gd, x9 = si y 74 t.toNatClampNeg 0 → Dv Fv none x9 S))))) := by
      intro y my ty hl
      have e73 : y.1 73 = x.1 73 := my.2.1 73 (by decide) (by decide)
      have e74 : y.1 74 = x.1 74 := my.2.1 74 (by decide) (by decide)
      have e75 : y.1 75 = x.1 75 := my.2.1 75 (by decide) (by decide)
      have e77 : y.1 77 = x.1 77 := my.2.1 77 (by decide) (by decide)
      have e78 : y.1 78 = x.1 78 := my.2.1 78 (by decide) (by decide)
      have z0 : x.1 73 T = 0 ∨ x.1 73 T = 2 → ∀ x5 : gd, x5 = si y 74 T 0 → Dv Fv none x5 S := by
        intro q x5 e5
        refine Dv_i (h x5 ?_ ?_ ?_ ?_ ?_ (fun c => absurd q c) (fun _ => ?_) (fun s hs => ?_))
        · rw [e5]; exact th3_tr ty (th3_si (by decide) _ _)
        · rw [e5, si_cell (by decide), e73]
        · rw [e5, si_cell (by decide), e75]
        · rw [e5, si_cell (by decide), e77]
        · rw [e5, si_cell (by decide), e78]
        · rw [e5, si_get, if_pos ⟨rfl, rfl⟩]
        · rw [e5, si_cell (by decide)]; exact hl s hs
      rw [e73, ← eT]
      exact ⟨ht, fun c => ⟨ht, z0 (Or.inl c)⟩, fun c0 => ⟨ht, fun c2 => Dv_i (h y ty e73 e75 e77 e78 (fun _ => e74) (fun c => absurd c (fun z => z.elim c0 c2)) hl), fun c => ⟨ht, z0 (Or.inr c)⟩⟩⟩
    have lastI : ∀ (y : gd) (i : Int32), 8 ≤ i.toInt → (∀ s, s < 8 → y.1 76 (8 * T + s) = if (s : Int) < i.toInt ∧ ¬ ((x.1 73 T = 1 ∨ x.1 73 T = 3) ∧ s ∈ sl) then 0 else x.1 76 (8 * T + s)) → ∀ s, s < 8 → y.1 76 (8 * T + s) = if (x.1 73 T = 1 ∨ x.1 73 T = 3) ∧ s ∈ sl then x.1 76 (8 * T + s) else 0 := fun y i hi hl s hs => by
      rw [hl s hs]
      by_cases c : (x.1 73 T = 1 ∨ x.1 73 T = 3) ∧ s ∈ sl
      · rw [if_pos c, if_neg (fun z => z.2 c)]
      · rw [if_neg c, if_pos ⟨by omega, c⟩]
    intro n
    induction n with
    | zero =>
      intro y m i hb my ty i0 hi hl
      exact sd_clean_38 _ _ _ ⟨fun _ => last y my ty (lastI y i (by omega) hl), fun c => absurd (t_le.mpr (by rw [k8]; omega)) c⟩
    | succ n ih =>
      intro y m i hb my ty i0 hi hl
      refine sd_clean_38 _ _ _ ⟨fun c => last y my ty (lastI y i (by rw [t_le, k8] at c; exact c) hl), fun c => ?_⟩
      rw [t_le, k8] at c
      have i1 : (i + 1).toInt = i.toInt + 1 := by rw [t_add (by omega) (by omega), k1]
      have ei : i = Int32.ofNat i.toInt.toNat := i32_of (by omega)
      have hbi := hb i.toInt.toNat (by omega)
      rw [← ei] at hbi
      have es : (8 * t + i).toNatClampNeg = 8 * T + i.toInt.toNat := by rw [t_cl, t_add (by omega) (by omega), m1]; omega
      refine ⟨fun cb => ih y m (i + 1) hb my ty (by omega) (by omega) (fun s hs => ?_), fun cb => ⟨?_, fun y2 e2 => ?_⟩⟩
      · rw [hl s hs]
        have hB := hbi.mp cb
        by_cases e : s = i.toInt.toNat
        · rw [e, if_neg (fun z => z.2 hB), if_neg (fun z => z.2 hB)]
        · by_cases c9 : (s : Int) < i.toInt
          · by_cases c8 : (x.1 73 T = 1 ∨ x.1 73 T = 3) ∧ s ∈ sl
            · rw [if_neg (fun z => z.2 c8), if_neg (fun z => z.2 c8)]
            · rw [if_pos ⟨c9, c8⟩, if_pos ⟨by omega, c8⟩]
          · rw [if_neg (fun z => c9 z.1), if_neg (fun z => by have := z.1; omega)]
      · rw [vp_in_iff, t_add (by omega) (by omega), m1]; omega
      · rw [es] at e2
        have m2 := md_a y 76 (8 * T + i.toInt.toNat) 0 (by decide)
        rw [← e2] at m2
        have hB : ¬ ((x.1 73 T = 1 ∨ x.1 73 T = 3) ∧ i.toInt.toNat ∈ sl) := fun z => hbi.mpr z cb
        refine ih y2 m (i + 1) hb (md_tr my m2 rfl rfl) (th3_tr ty (by rw [e2]; exact th3_76 (by omega) _ _)) (by omega) (by omega) (fun s hs => ?_)
        rw [e2, si_get]
        by_cases e : s = i.toInt.toNat
        · rw [e, if_pos ⟨rfl, rfl⟩, if_pos ⟨by omega, hB⟩]
        · rw [if_neg (fun z => by have := z.2; omega), hl s hs]
          by_cases c8 : (x.1 73 T = 1 ∨ x.1 73 T = 3) ∧ s ∈ sl
          · rw [if_neg (fun z => z.2 c8), if_neg (fun z => z.2 c8)]
          · by_cases c9 : (s : Int) < i.toInt
            · rw [if_pos ⟨c9, c8⟩, if_pos ⟨by omega, c8⟩]
            · rw [if_neg (fun z => c9 z.1), if_neg (fun z => by have := z.1; omega)]
  have go : ∀ m : Int32, (∀ s, s < 8 → (¬ (m >>> (Int32.ofNat s &&& 31)) &&& 1 = 0 ↔ (x.1 73 T = 1 ∨ x.1 73 T = 3) ∧ s ∈ sl)) → MD d z_clean 38 [(0, vr 0), (1, vi t), (2, vi m), (3, vi 0)] [] S x (Dv Fv) := fun m hb => loop 8 x m 0 hb (md_w (md_rf x) (by decide) (by decide)) (th3_rf T x) (by decide) (by decide) (fun s hs => by
    rw [if_neg (fun z => by have := z.1; rw [show (0 : Int32).toInt = 0 from rfl] at this; omega)])
  have g20 : x.1 73 T = 1 ∨ x.1 73 T = 3 → MD d z_clean 20 [(0, vr 0), (1, vi t)] [] S x (Dv Fv) := fun c => sd_clean_20 _ ⟨ht, by rw [← eT, vp_in_iff]; omega, go _ (fun s hs => by
    rw [← eT, hm c, km_bit h8 s hs]
    by_cases e : s ∈ sl
    · rw [if_pos e]; exact ⟨fun _ => ⟨c, e⟩, fun _ => by decide⟩
    · rw [if_neg e]; exact ⟨fun z => absurd rfl z, fun z => absurd z.2 e⟩)⟩
  refine sd_clean_0 _ ⟨ht, fun c => g20 (by rw [← eT] at c; exact Or.inl c), fun c1 => ⟨ht, fun c3 => go _ (fun s hs => ?_), fun c => g20 (by rw [← eT] at c; exact Or.inr c)⟩⟩
  rw [← eT] at c1 c3
  rw [km_0 s hs]
  exact ⟨fun z => absurd rfl z, fun z => absurd z.1 (fun q => q.elim c1 c3)⟩
end DSL
end
section
/-! the model: a thread's own steps, wholly -/
/-- known locals stand in their slots, the others are 0 -/
def mLv (y : gd) (C : gCo) (T u s : Nat) (lv : Nat → Int32) : Prop := ((u = 1 ∨ u = 3) → ∀ p, p < (stN C s).2.1.length → y.1 76 (8 * T + slN (stN C s).2.1 p) = lv p) ∧ ∀ k, k < 8 → ¬ ((u = 1 ∨ u = 3) ∧ k ∈ (stN C s).2.1) → y.1 76 (8 * T + k) = 0
/-- what its own steps left of a thread -/
def owM (y : gd) (C : gCo) (T : Nat) (r : gTr) : Prop := y.1 73 T = Int32.ofNat r.1 ∧ (r.1 = 1 ∨ r.1 = 2 ∨ r.1 = 3) ∧ y.1 75 T = Int32.ofNat r.2.1 ∧ (y.1 74 T).toInt = (r.2.2.1 : Nat) ∧ mLv y C T r.1 r.2.2.1 r.2.2.2 ∧ (¬ r.1 = 2 → ∃ st, C.1[r.2.2.1]? = some st)
def q0 (z : gd) (T : Nat) : Prop := z.1 77 T = 0 ∧ z.1 78 T = 0 ∧ z.1 75 T = 0
theorem q0_si {z : gd} {T c k : Nat} {v : Int32} (h : c ≠ 77 ∧ c ≠ 78 ∧ c ≠ 75) (q : q0 z T) : q0 (si z c k v) T := by
  unfold q0
  rw [si_cell (fun e => h.1 e.symm), si_cell (fun e => h.2.1 e.symm), si_cell (fun e => h.2.2 e.symm)]
  exact q
def finP (C : gCo) (y : gd) (T : Nat) (r : gTr) : Prop := y.1 73 T = Int32.ofNat r.1 ∧ (r.1 = 1 ∨ r.1 = 2 ∨ r.1 = 3) ∧ y.1 75 T = Int32.ofNat r.2.1 ∧ (r.1 = 2 → r.2.2.1 = 0) ∧ (¬ r.1 = 2 → (y.1 74 T).toInt = (r.2.2.1 : Nat) ∧ ∃ st, C.1[r.2.2.1]? = some st ∧ ∀ p, p < st.2.1.length → y.1 76 (8 * T + slN st.2.1 p) = r.2.2.2 p)
theorem stN_is {C : gCo} {s : Nat} {st : gNs} (h : C.1[s]? = some st) : stN C s = st := by
  unfold stN
  rw [h]; rfl
section DOG
variable {d : Nat} {S : gS} {x : gd} {F : Int32 → gd → gS → Prop} {Fv : gd → gS → Prop} {C : gCo}
theorem ds_own3 (t : Int32) (ht : vp_in t 6) (cp : CP x) (ha : 0 ≤ (x.1 74 t.toNatClampNeg).toInt ∧ (x.1 74 t.toNatClampNeg).toInt < 1500) (h1 : x.1 73 t.toNatClampNeg = 1 → (x.1 74 t.toNatClampNeg).toInt < (x.1 0 52).toInt) (hw : q0 x t.toNatClampNeg) (hK : MK x C) (hN : NC C) (hg : x.1 73 t.toNatClampNeg = 1) {st0 : gNs} {lv0 : Nat → Int32} (hst0 : C.1[(x.1 74 t.toNatClampNeg).toNatClampNeg]? = some st0) (hlv0 : ∀ p, p < st0.2.1.length → x.1 76 (8 * t.toNatClampNeg + slN st0.2.1 p) = lv0 p) (h : ∀ x' S', th3 t.toNatClampNeg x x' → ssub S S' → ra x' t.toNatClampNeg → x'.1 77 t.toNatClampNeg = 0 → x'.1 78 t.toNatClampNeg = 0 → owM x' C t.toNatClampNeg (owR C (Int32.ofNat t.toNatClampNeg) (x.1 74 t.toNatClampNeg).toNatClampNeg lv0) → Fv x' S') : MD (d + 3) z_own 0 [(0, vr 0), (1, vi t)] [] S x (Dv Fv) := by
  obtain ⟨T, eT⟩ : ∃ T, T = t.toNatClampNeg := ⟨_, rfl⟩
  rw [← eT] at ha h1 hw h hg hst0 hlv0
  have k1 : (1 : Int32).toInt = 1 := rfl
  have k8 : (8 : Int32).toInt = 8 := rfl
  have k300 : (300 : Int32).toInt = 300 := rfl
  have tv := vp_in_iff.mp ht
  have tT : t = Int32.ofNat T := i32_of (by rw [eT, t_cl]; omega)
  have tTi : t.toInt = (T : Nat) := by rw [eT, t_cl]; omega
  obtain ⟨G0, eG0⟩ : ∃ G0 : gTr → Prop, G0 = fun r => ∃ n, setP C (Int32.ofNat T) n 0 (x.1 74 T).toNatClampNeg lv0 = some r := ⟨_, rfl⟩
  obtain ⟨J, eJ⟩ : ∃ J : Int32 → gd → Prop, J = fun m y => (y.1 73 T = 1 ∧ ∃ st lv, C.1[(y.1 74 T).toNatClampNeg]? = some st ∧ (∀ p, p < st.2.1.length → y.1 76 (8 * T + slN st.2.1 p) = lv p) ∧ ∀ r, (∃ n, setP C (Int32.ofNat T) n m.toInt.toNat (y.1 74 T).toNatClampNeg lv = some r) → G0 r) ∨ (¬ y.1 73 T = 1 ∧ ∃ r, G0 r ∧ finP C y T r) := ⟨_, rfl⟩
  have noJ : ∀ {m : Int32} {y : gd}, ¬ y.1 73 T = 1 → J m y → ∃ r, G0 r ∧ finP C y T r := fun {m y} hn hJ => by
    rw [eJ] at hJ
    rcases hJ with ⟨c, -⟩ | ⟨-, c⟩
    · exact absurd c hn
    · exact c
  obtain ⟨_, ⟨j1, j2, j3, j4, j5, _⟩, _⟩ := id cp
  -- the loop's state
  let I : gd → gS → Prop := fun y S1 => th3 T x y ∧ ssub S S1 ∧ (0 ≤ (y.1 74 T).toInt ∧ (y.1 74 T).toInt < 1500) ∧ (y.1 73 T = 1 → (y.1 74 T).toInt < (x.1 0 52).toInt) ∧ y.1 77 T = 0 ∧ y.1 78 T = 0 ∧ (y.1 73 T = 1 → y.1 75 T = 0)
  have out : ∀ (y : gd) (S1 : gS), I y S1 → (y.1 73 T = 1 → y.1 54 (y.1 74 T).toNatClampNeg = 6) → (∃ r, G0 r ∧ finP C y T r) → MD (d + 3) z_own 264 [(0, vr 0), (1, vi t)] [] S1 y (Dv Fv) := by
    intro y S1 iy q6 hfin
    obtain ⟨i1, i2, i3, i4, i5⟩ := iy
    obtain ⟨r, hr, f1, f3, f5, f2, fn⟩ := hfin
    rw [eG0] at hr
    obtain ⟨n, hn⟩ := hr
    have hr := owR_is hn
    have hsl : ∃ sl : List Nat, (∀ k ∈ sl, k < 8) ∧ (y.1 73 T = 1 ∨ y.1 73 T = 3 → y.1 62 (y.1 74 T).toNatClampNeg = kmN sl) ∧ (¬ r.1 = 2 → sl = (stN C r.2.2.1).2.1) := by
      by_cases c2 : r.1 = 2
      · refine ⟨[], (fun k hk => nomatch hk), fun c => ?_, fun c => absurd c2 c⟩
        rw [f1, c2] at c
        exact absurd c (by decide)
      · obtain ⟨g1, st, g2, g3⟩ := fn c2
        have ns := hN.1 _ st g2
        obtain ⟨-, pm, p8⟩ := ns.2.2.2.2.1
        obtain ⟨-, -, -, -, -, -, -, -, h62⟩ := hK.1.2 _ st g2
        refine ⟨st.2.1, fun k hk => by have := pm k hk; omega, fun _ => ?_, fun _ => by rw [stN_is g2]⟩
        rw [i1.1.2.1 62 (by decide) (by decide), show (y.1 74 T).toNatClampNeg = r.2.2.1 by rw [t_cl, g1]; rfl]
        exact h62
    obtain ⟨sl, sl8, slm, slr⟩ := hsl
    have st3 : ∀ v : Nat, v = 1 ∨ v = 2 ∨ v = 3 → ((Int32.ofNat v = 1 ∨ Int32.ofNat v = 3) ↔ (v = 1 ∨ v = 3)) ∧ ((Int32.ofNat v = 0 ∨ Int32.ofNat v = 2) ↔ v = 2) := by
      intro v hv
      rcases hv with e | e | e <;> rw [e] <;> decide
    obtain ⟨s13, s02⟩ := st3 r.1 f3
    rw [← f1] at s13 s02
    refine sd_own_264 _ (ds_clean3 t ht (by rw [← eT]; exact i3) sl8 (by rw [← eT]; exact slm) (fun z tz e73 e75 e77 e78 e74 e74' e76 => Dv_i (h z S1 ?_ i2 ?_ ?_ ?_ ?_)))
    · rw [← eT] at tz; exact th3_tr i1 tz
    · rw [← eT] at e74 e74' tz
      have f52 : z.1 0 52 = x.1 0 52 := by rw [tz.1.1 52 (by decide), i1.1.1 52 (by decide)]
      have f54 : z.1 54 = y.1 54 := tz.1.2.1 54 (by decide) (by decide)
      by_cases c : y.1 73 T = 0 ∨ y.1 73 T = 2
      · have e := e74' c
        refine ⟨by rw [e]; decide, by rw [e]; decide, fun q => ?_⟩
        rw [e73] at q
        rw [q] at c
        exact absurd c (by decide)
      · have e := e74 c
        refine ⟨by rw [e]; exact i3.1, by rw [e]; exact i3.2, fun q => ?_⟩
        rw [e73] at q
        rw [e, f52, f54]
        exact ⟨i4 q, q6 q⟩
    · rw [e77]; exact i5.1
    · rw [e78]; exact i5.2.1
    · rw [← eT] at e74 e74' e76
      rw [hr]
      refine ⟨by rw [e73]; exact f1, f3, by rw [e75]; exact f5, ?_, ⟨fun c p hp => ?_, fun k hk c => ?_⟩, fun c => ?_⟩
      · by_cases c : r.1 = 2
        · rw [e74' (s02.mpr c), f2 c]; rfl
        · rw [e74 (fun z => c (s02.mp z))]; exact (fn c).1
      · have c2 : ¬ r.1 = 2 := by omega
        obtain ⟨g1, st, g2, g3⟩ := fn c2
        have es := slr c2
        rw [stN_is g2] at es hp ⊢
        have hm := slN_mem hp
        rw [e76 _ (sl8 _ (by rw [es]; exact hm)), if_pos ⟨s13.mpr c, by rw [es]; exact hm⟩]
        exact g3 p hp
      · rw [e76 k hk, if_neg (fun z => c ⟨s13.mp z.1, by rw [← slr (by have := s13.mp z.1; omega)]; exact z.2⟩)]
      · obtain ⟨-, st, g2, -⟩ := fn c
        exact ⟨st, g2⟩
  have loop : ∀ (n : Nat) (y : gd) (S1 : gS) (m : Int32), I y S1 → 0 ≤ m.toInt → m.toInt ≤ 300 → (y.1 73 T = 1 → (300 - m.toInt) * 3001 + gg x (y.1 74 T) + 1 ≤ n) → J m y → MD (d + 3) z_own 2 [(0, vr 0), (1, vi t), (2, vi m)] [] S1 y (Dv Fv) := by
    have gone : ∀ (y : gd) (S1 : gS) (m : Int32), I y S1 → ¬ y.1 73 T = 1 → (∃ r, G0 r ∧ finP C y T r) → MD (d + 3) z_own 2 [(0, vr 0), (1, vi t), (2, vi m)] [] S1 y (Dv Fv) := by
      intro y S1 m iy ne hfin
      refine sd_own_2 _ _ ⟨ht, fun _ => out y S1 iy (fun q => absurd q ne) hfin, fun q => ?_⟩
      rw [← eT] at q
      exact absurd q ne
    intro n
    induction n with
    | zero =>
      intro y S1 m iy m0 m3 hm hJ
      by_cases q : y.1 73 T = 1
      · have := hm q
        have g0 : 0 ≤ gg x (y.1 74 T) := by
          unfold gg
          have := iy.2.2.1
          split <;> omega
        omega
      · exact gone y S1 m iy q (noJ q hJ)
    | succ n ih =>
      intro y S1 m iy m0 m3 hm hJ
      by_cases q : y.1 73 T = 1
      rotate_left
      · exact gone y S1 m iy q (noJ q hJ)
      have hm := hm q
      obtain ⟨i1, i2, i3, i4, i5⟩ := id iy
      have q5 : q0 y T := ⟨i5.1, i5.2.1, i5.2.2 q⟩
      obtain ⟨st, lv, hst, hlv, lift⟩ : ∃ st lv, C.1[(y.1 74 T).toNatClampNeg]? = some st ∧ (∀ p, p < st.2.1.length → y.1 76 (8 * T + slN st.2.1 p) = lv p) ∧ ∀ r, (∃ n, setP C (Int32.ofNat T) n m.toInt.toNat (y.1 74 T).toNatClampNeg lv = some r) → G0 r := by
        rw [eJ] at hJ
        rcases hJ with ⟨-, c⟩ | ⟨c, -⟩
        · exact c
        · exact absurd q c
      clear hJ
      obtain ⟨k, ek⟩ : ∃ k, k = y.1 74 T := ⟨_, rfl⟩
      rw [← ek] at hm i3 i4 hst lift
      have kv : vp_in k 1500 := by rw [vp_in_iff]; omega
      have kl := i4 q
      have ck := cl_i i3.1
      have f : ∀ c : Nat, c ≠ 0 → c ∉ hA → y.1 c = x.1 c := fun c c0 hc => i1.1.2.1 c c0 hc
      have f54 := f 54 (by decide) (by decide)
      have f59 := f 59 (by decide) (by decide)
      have f61 := f 61 (by decide) (by decide)
      obtain ⟨so, sc2, sc3⟩ := j5 k.toNatClampNeg (by omega)
      obtain ⟨wa, we, wf, sv, go⟩ := so
      have cpy : CP y := CP_th (th3_th i1) cp
      have ns := hN.1 _ st hst
      have n22 := ns.1.1
      obtain ⟨h54, -, -, -, -, h59, -, h61, -⟩ := hK.1.2 _ st hst
      obtain ⟨w6, w3, w5, w0, w2, w1⟩ := mWh_i st.1 n22
      rw [← h54] at w6 w3 w5 w0 w2 w1
      have l52 : (x.1 0 52).toInt = C.1.length := hK.1.1
      have len : ∀ {j : Nat} {s9 : gNs}, C.1[j]? = some s9 → (Int32.ofNat j).toInt = (j : Nat) ∧ (Int32.ofNat j).toNatClampNeg = j := fun {j s9} hj => by
        have := gt_lt hj
        have e9 : (Int32.ofNat j).toInt = (j : Nat) := Int32.toInt_ofNat_of_lt (by omega)
        exact ⟨e9, by rw [t_cl, e9]; rfl⟩
      -- it goes on at a step
      have onJ : ∀ (m' a : Int32) (n2 : Nat) (z2 : gd) (st' : gNs) (lv2 : Nat → Int32) (l9 : List Nat), z2.1 73 T = 1 → z2.1 74 T = a → a.toNatClampNeg = n2 → C.1[n2]? = some st' → st'.2.1 <:+ l9 → (∀ p, p < l9.length → z2.1 76 (8 * T + slN l9 p) = lv2 p) → (∀ r, (∃ n, setP C (Int32.ofNat T) n m'.toInt.toNat n2 lv2 = some r) → G0 r) → J m' z2 := fun m' a n2 z2 st' lv2 l9 z3 z4 ea hs' hsf hl9 hlift => by
        rw [eJ]
        refine Or.inl ⟨z3, st', lv2, by rw [z4, ea]; exact hs', fun p hp => ?_, fun r hr => hlift r (by rw [z4, ea] at hr; exact hr)⟩
        rw [slN_suf hsf hp]
        exact hl9 p (by have := hsf.length_le; omega)
      -- at goes to a step
      have to : ∀ (z : gd) (S2 : gS) (m' a : Int32) (z2 : gd), th3 T x z → ssub S S2 → q0 z T → z2 = si z 74 T a → 0 ≤ a.toInt → a.toInt < (x.1 0 52).toInt → 0 ≤ m'.toInt → m'.toInt ≤ 300 → (300 - m'.toInt) * 3001 + gg x a + 1 ≤ n → J m' z2 → MD (d + 3) z_own 2 [(0, vr 0), (1, vi t), (2, vi m')] [] S2 z2 (Dv Fv) := by
        intro z S2 m' a z2 tz s2 w0 e2 a0 a1 m1 m2 hg hJ2
        have ea : z2.1 74 T = a := by rw [e2, si_get, if_pos ⟨rfl, rfl⟩]
        have tz2 : th3 T x z2 := by rw [e2]; exact th3_tr tz (th3_si (by decide) _ _)
        refine ih z2 S2 m' ⟨tz2, s2, by rw [ea]; exact ⟨a0, by omega⟩, fun _ => by rw [ea]; exact a1, by rw [e2, si_cell (by decide)]; exact w0.1, by rw [e2, si_cell (by decide)]; exact w0.2.1, fun _ => by rw [e2, si_cell (by decide)]; exact w0.2.2⟩ m1 m2 (fun _ => by rw [ea]; exact hg) hJ2
      -- the thread ends
      have fin : ∀ (z : gd) (S2 : gS) (m' : Int32) (z2 : gd), th3 T x z → ssub S S2 → q0 z T → z.1 74 T = k → z2 = si z 73 T 2 → G0 (2, 0, 0, lv) → MD (d + 3) z_own 2 [(0, vr 0), (1, vi t), (2, vi m')] [] S2 z2 (Dv Fv) := by
        intro z S2 m' z2 tz s2 w0 e74 e2 hG
        have tz2 : th3 T x z2 := by rw [e2]; exact th3_tr tz (th3_si (by decide) _ _)
        have e73 : z2.1 73 T = 2 := by rw [e2, si_get, if_pos ⟨rfl, rfl⟩]
        refine gone z2 S2 m' ⟨tz2, s2, by rw [e2, si_cell (by decide), e74]; exact i3, fun q => by rw [e73] at q; exact absurd q (by decide), by rw [e2, si_cell (by decide)]; exact w0.1, by rw [e2, si_cell (by decide)]; exact w0.2.1, fun q => by rw [e73] at q; exact absurd q (by decide)⟩ (by rw [e73]; decide) ⟨_, hG, e73, Or.inr (Or.inl rfl), by rw [e2, si_cell (by decide)]; exact w0.2.2, fun _ => rfl, fun c => absurd rfl c⟩
      have fail : ∀ (z : gd) (S2 : gS) (m' n' : Int32), th3 T x z → ssub S S2 → z.1 74 T = k → z.1 76 = y.1 76 → (∃ j, n' = Int32.ofNat j ∧ G0 (3, j, k.toNatClampNeg, lv)) → MD (d + 2) z_failThread 0 [(0, vr 0), (1, vi t), (2, vi n')] [] S2 z (Dv (fun z2 S3 => MD (d + 3) z_own 2 [(0, vr 0), (1, vi t), (2, vi m')] [] S3 z2 (Dv Fv))) := by
        intro z S2 m' n' tz s2 e74 z76 hG
        refine ds_fail3 t n' ht (fun z2 t2 e3 e4 e7 e5 e8 e6 => ?_)
        rw [← eT] at t2 e3 e4 e7 e5 e8
        exact gone z2 S2 m' ⟨th3_tr tz t2, s2, by rw [e4, e74]; exact i3, fun q => by rw [e3] at q; exact absurd q (by decide), e7, e8, fun q => by rw [e3] at q; exact absurd q (by decide)⟩ (by rw [e3]; decide) (by
          obtain ⟨j, ej, hG⟩ := hG
          exact ⟨_, hG, e3, Or.inr (Or.inr rfl), e5.trans ej, fun c => absurd c (by show ¬ 3 = 2; decide), fun _ => ⟨by rw [e4, e74]; exact ck.symm, st, hst, fun p hp => by rw [e6, z76]; exact hlv p hp⟩⟩)
      have g0 : ∀ a : Int32, 0 ≤ a.toInt → a.toInt < 1500 → 0 ≤ gg x a ∧ gg x a ≤ 1501 := fun a a0 a1 => by
        unfold gg
        split <;> omega
      have nx : ¬ x.1 54 k.toNatClampNeg = 5 → (k + 1).toInt = k.toInt + 1 ∧ k.toInt + 1 < (x.1 0 52).toInt := fun ne => by
        have := sc3.resolve_left ne
        exact ⟨by rw [t_add (by omega) (by omega), k1], by omega⟩
      have p153 : ¬ x.1 54 k.toNatClampNeg = 3 → ¬ x.1 54 k.toNatClampNeg = 5 → ¬ x.1 54 k.toNatClampNeg = 6 → ∀ (z : gd) (S2 : gS) (m' v : Int32), th3 T x z → ssub S S2 → q0 z T → z.1 74 T = k → 0 ≤ m'.toInt → m'.toInt ≤ 300 → m'.toInt = m.toInt + 1 → z.1 73 T = 1 → z.1 76 = y.1 76 → (st.1 = 19 ∨ ∃ Q, st.2.2.2.2.2.2.2.2.1 = some Q ∧ wkQ lv (fun _ => 0) (Int32.ofNat T) Q = some v) → MD (d + 3) z_own 153 [(0, vr 0), (1, vi t), (2, vi m'), (3, vi k), (4, vi (x.1 54 k.toNatClampNeg)), (5, vi v)] [] S2 z (Dv Fv) := by
        intro n3 n5 n6 z S2 m' v tz s2 z77 e74 m1 m2 em z73 z76 hv
        obtain ⟨nx1, nx2⟩ := nx n5
        have o16 : ¬ st.1 < 16 := fun z => n6 (w6.mpr z)
        have o20 : ¬ st.1 = 20 := fun z => n3 (w3.mpr z)
        have o21 : ¬ st.1 = 21 := fun z => n5 (w5.mpr z)
        have c2 : ¬ (st.1 < 20 ∧ 300 ≤ m.toInt.toNat) := by omega
        have eown : (if st.1 < 20 then m.toInt.toNat + 1 else m.toInt.toNat) = m'.toInt.toNat := by rw [if_pos (by omega)]; omega
        have ow : ¬ st.1 = 19 → ow1 (Int32.ofNat T) k.toNatClampNeg st lv = (if st.1 = 18 ∧ v = 0 then .inl (3, 5, k.toNatClampNeg, lv) else .inr (if st.1 = 17 ∧ v = 0 then st.2.2.2.1.getD 0 else k.toNatClampNeg + 1, if st.1 = 16 then fup lv (st.2.2.2.1.getD 0) v else lv)) := fun n19 => by
          rcases hv with hv | ⟨Q, hQ, hv⟩
          · exact absurd hv n19
          · unfold ow1
            rw [if_neg (by omega), if_neg o20, hQ]
            show (match wkQ lv (fun _ => 0) (Int32.ofNat T) Q with | none => _ | some v => _) = _
            rw [hv]
        have goR : ∀ {s2 : Nat} {lv2 : Nat → Int32}, ow1 (Int32.ofNat T) k.toNatClampNeg st lv = .inr (s2, lv2) → ∀ r, (∃ n, setP C (Int32.ofNat T) n m'.toInt.toNat s2 lv2 = some r) → G0 r := fun {s2 lv2} how r hr => by
          obtain ⟨n9, hn9⟩ := hr
          refine lift r ⟨n9 + 1, ?_⟩
          rw [set_r hst o16 c2 how, eown]
          exact hn9
        have nxt : ∃ st', C.1[k.toNatClampNeg + 1]? = some st' ∧ st'.2.1 <:+ aftN st := ns.2.1 (by omega)
        have ek1 : (k + 1).toNatClampNeg = k.toNatClampNeg + 1 := by rw [t_cl]; omega
        have lz : ∀ p, p < st.2.1.length → z.1 76 (8 * T + slN st.2.1 p) = lv p := fun p hp => by rw [z76]; exact hlv p hp
        have ean : ¬ st.1 = 16 → aftN st = st.2.1 := fun n16 => if_neg (fun z => by omega)
        have fz61 : z.1 61 = x.1 61 := tz.1.2.1 61 (by decide) (by decide)
        have gk : gg x k = 0 := by unfold gg; rw [if_neg n3]
        have me : ∀ a : Int32, 0 ≤ a.toInt → a.toInt < 1500 → (300 - m'.toInt) * 3001 + gg x a + 1 ≤ n := fun a a0 a1 => by
          have := (g0 a a0 a1).2
          rw [gk] at hm
          omega
        refine sd_own_153 _ _ _ _ _ ⟨fun ne0 => ⟨fun ne2 => ⟨fun ne1 => ⟨ht, fun z2 e2 => ?_⟩, fun e1 => ⟨fun nv => ⟨ht, ht, fun z2 e2 => ?_⟩, fun v0 => fail z S2 m' _ tz s2 e74 z76 ⟨5, rfl, lift _ ⟨1, set_l hst o16 c2 ?_⟩⟩⟩⟩, fun e2 => ⟨fun v0 => ⟨kv, ht, fun z2 e3 => ?_⟩, fun nv => ⟨ht, fun z2 e3 => ?_⟩⟩⟩, fun e0 => ⟨kv, ?_, fun z2 e2 => ⟨ht, ht, fun z3 e3 => ?_⟩⟩⟩
        · rw [← eT] at e2
          have s19 : st.1 = 19 := by
            have a1 : ¬ st.1 = 16 := fun z => ne0 (w0.mpr z)
            have a2 : ¬ st.1 = 17 := fun z => ne2 (w2.mpr z)
            have a3 : ¬ st.1 = 18 := fun z => ne1 (w1.mpr z)
            omega
          refine fin z S2 m' z2 tz s2 z77 e74 e2 (lift _ ⟨1, set_l hst o16 c2 ?_⟩)
          unfold ow1
          rw [if_pos (Or.inl s19)]
        · rw [← eT, e74] at e2
          have s18 : st.1 = 18 := w1.mp e1
          have how : ow1 (Int32.ofNat T) k.toNatClampNeg st lv = .inr (k.toNatClampNeg + 1, lv) := by rw [ow (by omega), if_neg (fun z => nv z.2), if_neg (by omega), if_neg (by omega)]
          obtain ⟨st', hs', hsf⟩ := nxt
          rw [ean (by omega)] at hsf
          refine to z S2 m' (k + 1) z2 tz s2 z77 e2 (by omega) (by omega) m1 m2 (me _ (by omega) (by omega)) (onJ m' (k + 1) _ z2 st' lv st.2.1 (by rw [e2, si_cell (by decide)]; exact z73) (by rw [e2, si_get, if_pos ⟨rfl, rfl⟩]) ek1 hs' hsf (fun p hp => by rw [e2, si_cell (by decide)]; exact lz p hp) (goR how))
        · have s18 : st.1 = 18 := w1.mp e1
          rw [ow (by omega), if_pos ⟨s18, v0⟩]
        · have tw := sc2 (Or.inl e2)
          have s17 : st.1 = 17 := w2.mp e2
          obtain ⟨n2, st', hto, hs', hsf⟩ := ns.2.2.1 (Or.inl s17)
          have h61' : x.1 61 k.toNatClampNeg = Int32.ofNat n2 := by
            rw [h61]
            unfold mNt
            rw [hto]
            show (if st.1 = 17 ∨ st.1 = 20 then Int32.ofNat n2 else _) = _
            rw [if_pos (Or.inl s17)]
          obtain ⟨l1, l2⟩ := len hs'
          have t0 : 0 ≤ (x.1 61 k.toNatClampNeg).toInt := by rw [h61', l1]; omega
          rw [← eT, fz61] at e3
          have how : ow1 (Int32.ofNat T) k.toNatClampNeg st lv = .inr (n2, lv) := by rw [ow (by omega), if_neg (fun z => by omega), if_pos ⟨s17, v0⟩, if_neg (by omega), hto]; rfl
          refine to z S2 m' _ z2 tz s2 z77 e3 t0 tw m1 m2 (me _ t0 (by omega)) (onJ m' _ n2 z2 st' lv st.2.1 (by rw [e3, si_cell (by decide)]; exact z73) (by rw [e3, si_get, if_pos ⟨rfl, rfl⟩]) (by rw [h61']; exact l2) hs' hsf (fun p hp => by rw [e3, si_cell (by decide)]; exact lz p hp) (goR how))
        · rw [← eT] at e3
          have s17 : st.1 = 17 := w2.mp e2
          have how : ow1 (Int32.ofNat T) k.toNatClampNeg st lv = .inr (k.toNatClampNeg + 1, lv) := by rw [ow (by omega), if_neg (fun z => by omega), if_neg (fun z => nv z.2), if_neg (by omega)]
          obtain ⟨st', hs', hsf⟩ := nxt
          rw [ean (by omega)] at hsf
          refine to z S2 m' (k + 1) z2 tz s2 z77 e3 (by omega) (by omega) m1 m2 (me _ (by omega) (by omega)) (onJ m' (k + 1) _ z2 st' lv st.2.1 (by rw [e3, si_cell (by decide)]; exact z73) (by rw [e3, si_get, if_pos ⟨rfl, rfl⟩]) ek1 hs' hsf (fun p hp => by rw [e3, si_cell (by decide)]; exact lz p hp) (goR how))
        · rw [fz61]
          have s8 : 0 ≤ (x.1 61 k.toNatClampNeg).toInt ∧ (x.1 61 k.toNatClampNeg).toInt < 8 := by
            rcases sv with ⟨_, s⟩ | s | ⟨s, _⟩ | s | s | ⟨s, _⟩
            · exact s
            · rw [s] at e0; exact absurd e0 (by decide)
            · rw [e0] at s; exact absurd s (by decide)
            · rw [s] at e0; exact absurd e0 (by decide)
            · rw [s] at e0; exact absurd e0 (by decide)
            · rw [s] at e0; exact absurd e0 (by decide)
          have m9 : (8 * t).toInt = 8 * t.toInt := by rw [t_mul (by rw [k8]; omega) (by rw [k8]; omega), k8]
          rw [vp_in_iff, t_add (by omega) (by omega), m9]; omega
        · have m9 := md_a z 76 (8 * t + z.1 61 k.toNatClampNeg).toNatClampNeg v (by decide)
          rw [← e2] at m9
          rw [← eT, show z2.1 74 T = k by rw [m9.2.1 74 (by decide) (by decide)]; exact e74] at e3
          have s16 : st.1 = 16 := w0.mp e0
          obtain ⟨p, hto, hp⟩ := ns.2.2.2.1 (Or.inr (Or.inr s16))
          obtain ⟨pw, pm, p8⟩ := ns.2.2.2.2.1
          have how : ow1 (Int32.ofNat T) k.toNatClampNeg st lv = .inr (k.toNatClampNeg + 1, fup lv p v) := by rw [ow (by omega), if_neg (fun z => by omega), if_neg (fun z => by omega), if_pos s16, hto]; rfl
          obtain ⟨st', hs', hsf⟩ := nxt
          -- the slot that is set
          have ap : (aftN st).Pairwise (fun a b => b < a) ∧ (∀ s ∈ aftN st, s < 8) ∧ p < (aftN st).length ∧ x.1 61 k.toNatClampNeg = Int32.ofNat (slN (aftN st) p) ∧ ∀ j, j < (aftN st).length → ¬ j = p → j < st.2.1.length ∧ slN (aftN st) j = slN st.2.1 j := by
            have h61' : x.1 61 k.toNatClampNeg = Int32.ofNat (if p = st.2.1.length then st.2.2.1 else slN st.2.1 p) := by
              rw [h61]
              unfold mNt
              rw [hto]
              show (if st.1 = 17 ∨ st.1 = 20 then _ else Int32.ofNat (if p = st.2.1.length then st.2.2.1 else slN st.2.1 p)) = _
              rw [if_neg (by omega)]
            rcases hp with hp | ⟨hp, hp8⟩
            · have ea : aftN st = st.2.1 := if_neg (fun z => by rw [hto] at z; have := Option.some.inj z.2; omega)
              rw [ea]
              refine ⟨pw, fun s hs => by have := pm s hs; omega, hp, by rw [h61', if_neg (by omega)], fun j hj _ => ⟨hj, rfl⟩⟩
            · have ea : aftN st = st.2.2.1 :: st.2.1 := if_pos ⟨Or.inr (Or.inr s16), by rw [hto, hp]⟩
              rw [ea]
              refine ⟨List.Pairwise.cons pm pw, fun s hs => ?_, by rw [hp]; exact Nat.lt_succ_self _, ?_, fun j hj hne => ?_⟩
              · rcases List.mem_cons.mp hs with e | hs
                · rw [e]; exact hp8
                · have := pm s hs; omega
              · rw [h61', if_pos hp]
                show _ = Int32.ofNat (if p = st.2.1.length then st.2.2.1 else slN st.2.1 p)
                rw [if_pos hp]
              · have hj : j < st.2.1.length + 1 := hj
                refine ⟨by omega, ?_⟩
                show (if j = st.2.1.length then st.2.2.1 else slN st.2.1 j) = _
                rw [if_neg (by omega)]
          obtain ⟨apw, ap8, app, ap61, apj⟩ := ap
          have sl8 := ap8 _ (slN_mem app)
          have ei : (8 * t + z.1 61 k.toNatClampNeg).toNatClampNeg = 8 * T + slN (aftN st) p := by
            have m8 : (8 * t).toInt = 8 * t.toInt := by rw [t_mul (by rw [k8]; omega) (by rw [k8]; omega), k8]
            have eo : (Int32.ofNat (slN (aftN st) p)).toInt = (slN (aftN st) p : Nat) := Int32.toInt_ofNat_of_lt (by omega)
            rw [fz61, ap61, t_cl, t_add (by omega) (by omega), m8, eo, tTi]
            omega
          rw [ei] at e2
          have t2 : th3 T x z2 := th3_tr tz (by rw [e2]; exact th3_76 (by omega) _ _)
          refine to z2 S2 m' (k + 1) z3 t2 s2 (by rw [e2]; exact q0_si (by decide) z77) e3 (by omega) (by omega) m1 m2 (me _ (by omega) (by omega)) (onJ m' (k + 1) _ z3 st' (fup lv p v) (aftN st) (by rw [e3, si_cell (by decide), m9.2.1 73 (by decide) (by decide)]; exact z73) (by rw [e3, si_get, if_pos ⟨rfl, rfl⟩]) ek1 hs' hsf (fun j hj => ?_) (goR how))
          rw [e3, si_cell (by decide), e2, si_get]
          unfold fup
          by_cases c : j = p
          · rw [c, if_pos ⟨rfl, rfl⟩, if_pos rfl]
          · obtain ⟨j1', j2'⟩ := apj j hj c
            rw [if_neg (fun z => c (slN_inj apw hj app (by have := z.2; omega))), if_neg c, j2']
            exact lz j j1'
      have ne19 : st.1 = 19 → ¬ ¬ x.1 59 k.toNatClampNeg = -1 := fun c19 nn => by
        have e1 := ns.2.2.2.2.2.2.2.2.2.2 (by omega)
        rw [e1] at h59
        exact nn h59
      have p125 : ¬ x.1 54 k.toNatClampNeg = 3 → ¬ x.1 54 k.toNatClampNeg = 5 → ¬ x.1 54 k.toNatClampNeg = 6 → ∀ (z : gd) (S2 : gS) (m' v : Int32), th3 T x z → ssub S S2 → q0 z T → z.1 74 T = k → 0 ≤ m'.toInt → m'.toInt ≤ 300 → m'.toInt = m.toInt + 1 → z.1 73 T = 1 → z.1 76 = y.1 76 → (x.1 59 k.toNatClampNeg = -1 → st.1 = 19) → (¬ x.1 59 k.toNatClampNeg = -1 → S2 0 82 ∧ ∃ Q, st.2.2.2.2.2.2.2.2.1 = some Q ∧ wkM z (wkQ lv (fun _ => 0) (Int32.ofNat T) Q) v) → MD (d + 3) z_own 125 [(0, vr 0), (1, vi t), (2, vi m'), (3, vi k), (4, vi (x.1 54 k.toNatClampNeg))] [vi v] S2 z (Dv Fv) := by
        intro n3 n5 n6 z S2 m' v tz s2 z77 e74 m1 m2 em z73 z76 hno hyes
        have o16 : ¬ st.1 < 16 := fun z => n6 (w6.mpr z)
        have o20 : ¬ st.1 = 20 := fun z => n3 (w3.mpr z)
        have o21 : ¬ st.1 = 21 := fun z => n5 (w5.mpr z)
        have fz59 : z.1 59 = x.1 59 := tz.1.2.1 59 (by decide) (by decide)
        refine sd_own_125 _ _ _ _ _ ⟨kv, ?_⟩
        rw [fz59]
        refine ⟨fun e => p153 n3 n5 n6 z S2 m' v tz s2 z77 e74 m1 m2 em z73 z76 (Or.inl (hno e)), fun ne => ⟨(hyes ne).1, fun c => ?_, fun c => ?_⟩⟩
        · obtain ⟨-, Q, hQ, hw⟩ := hyes ne
          rcases hw with ⟨v9, hw, er, -⟩ | ⟨-, e82⟩
          · exact p153 n3 n5 n6 z S2 m' v tz s2 z77 e74 m1 m2 em z73 z76 (Or.inr ⟨Q, hQ, by rw [er]; exact hw⟩)
          · rw [e82] at c; exact absurd c (by decide)
        · obtain ⟨-, Q, hQ, hw⟩ := hyes ne
          rcases hw with ⟨v9, hw, er, e82⟩ | ⟨hw, -⟩
          · rw [e82] at c; exact absurd (by decide) c
          · refine fail z S2 m' _ tz s2 e74 z76 ⟨1, rfl, lift _ ⟨1, set_l hst o16 (by omega) ?_⟩⟩
            by_cases c19 : st.1 = 19
            · exfalso
              exact ne19 c19 ne
            unfold ow1
            rw [if_neg (by omega), if_neg o20, hQ]
            show (match wkQ lv (fun _ => 0) (Int32.ofNat T) Q with | none => _ | some v => _) = _
            rw [hw]
      refine sd_own_2 _ _ ⟨ht, fun c => ?_, fun _ => ⟨ht, ?_⟩⟩
      · rw [← eT] at c; exact absurd q c
      rw [← eT, ← ek]
      refine ⟨kv, fun c6 => out y S1 iy (fun _ => by rw [← ek]; exact c6) ⟨(1, 0, k.toNatClampNeg, lv), lift _ ⟨1, set_act hst (w6.mp (by rw [← f54]; exact c6))⟩, q, Or.inl rfl, q5.2.2, fun c => absurd c (by show ¬ 1 = 2; decide), fun _ => ⟨by rw [← ek]; exact ck.symm, st, hst, hlv⟩⟩, fun c6 => ⟨ht, kv, ?_⟩⟩
      rw [f54] at c6
      rw [f54]
      refine ⟨fun n3 => ⟨fun n5 => ?_, fun e5 => ⟨ht, fun z2 e2 => fin y S1 m z2 i1 i2 q5 ek.symm e2 (lift _ ⟨1, set_l hst (fun z => c6 (w6.mpr z)) (fun z => by have := w5.mp e5; omega) (by unfold ow1; rw [if_pos (Or.inr (w5.mp e5))])⟩)⟩⟩, fun e3 => ⟨kv, ht, fun z2 e2 => ?_⟩⟩
      · have mi : (m + 1).toInt = m.toInt + 1 := by rw [t_add (by omega) (by omega), k1]
        refine ⟨fun c3 => ⟨kv, ?_⟩, fun c3 => fail y S1 (m + 1) _ i1 i2 ek.symm rfl ⟨6, rfl, lift _ ⟨1, set_6 hst (fun z => c6 (w6.mpr z)) ⟨?_, ?_⟩⟩⟩⟩
        rotate_left
        · have a1 : ¬ st.1 = 20 := fun z => n3 (w3.mpr z)
          have a2 : ¬ st.1 = 21 := fun z => n5 (w5.mpr z)
          omega
        · rw [t_le, k300] at c3
          omega
        rw [t_le, k300] at c3
        have a0 : ¬ st.1 < 16 := fun z => c6 (w6.mpr z)
        have a1 : ¬ st.1 = 20 := fun z => n3 (w3.mpr z)
        have a2 : ¬ st.1 = 21 := fun z => n5 (w5.mpr z)
        rw [f59]
        refine ⟨fun ne => ⟨kv, ?_⟩, fun e59 => p125 n3 n5 c6 y S1 (m + 1) 0 i1 i2 q5 ek.symm (by omega) (by omega) mi q rfl (fun _ => ?_) (fun z => absurd e59 z)⟩
        · have n19 : ¬ st.1 = 19 := fun c => ne19 c ne
          obtain ⟨Q, hQ⟩ := ns.2.2.2.2.2.1 (by omega)
          obtain ⟨q1, q2⟩ := ns.2.2.2.2.2.2.2.2.1 Q hQ
          obtain ⟨pw, pm, p8⟩ := ns.2.2.2.2.1
          rw [hQ] at h59
          have h59 : SUm x (x.1 59 k.toNatClampNeg) (Q.map (mQp st.2.1)) := h59
          have f49 : y.1 0 49 = x.1 0 49 := i1.1.1 49 (by decide)
          refine ds_workedf (lv := lv) (cv := fun _ => 0) (SUm_f h59 f49 (f 51 (by decide) (by decide)) (f 52 (by decide) (by decide))) (by rw [f49]; omega) q1 (fun p hp => ?_) (fun r z S2 mz s2 s82 hwk => ?_)
          · obtain ⟨b1, b2, b3⟩ := q2 p hp
            refine ⟨b1, fun c => ?_, fun c => absurd c b3⟩
            have pl := b2 c
            have sm := pm _ (slN_mem pl)
            have m8 : (8 * t).toInt = 8 * t.toInt := by rw [t_mul (by rw [k8]; omega) (by rw [k8]; omega), k8]
            have eo : (Int32.ofNat (slN st.2.1 p.2.1)).toInt = (slN st.2.1 p.2.1 : Nat) := Int32.toInt_ofNat_of_lt (by omega)
            have es : (8 * t + Int32.ofNat (slN st.2.1 p.2.1)).toInt = 8 * t.toInt + (slN st.2.1 p.2.1 : Nat) := by rw [t_add (by omega) (by omega), m8, eo]
            refine ⟨by rw [vp_in_iff, es]; omega, ?_⟩
            have ei : (8 * t + Int32.ofNat (slN st.2.1 p.2.1)).toNatClampNeg = 8 * T + slN st.2.1 p.2.1 := by rw [t_cl, es, tTi]; omega
            rw [ei]
            exact hlv _ pl
          · rw [tT] at hwk
            exact p125 n3 n5 c6 z S2 (m + 1) r (th3_tr i1 (th3_md mz rfl rfl)) (ssub_tr i2 s2) (by unfold q0; rw [mz.2.1 77 (by decide) (by decide), mz.2.1 78 (by decide) (by decide), mz.2.1 75 (by decide) (by decide)]; exact q5) (by rw [mz.2.1 74 (by decide) (by decide)]; exact ek.symm) (by omega) (by omega) mi (by rw [mz.2.1 73 (by decide) (by decide)]; exact q) (mz.2.1 76 (by decide) (by decide)) (fun z => absurd z ne) (fun _ => ⟨s82, Q, hQ, hwk⟩)
        · by_cases n19 : st.1 = 19
          · exact n19
          · exfalso
            obtain ⟨Q, hQ⟩ := ns.2.2.2.2.2.1 (by omega)
            rw [hQ] at h59
            have h59 : SUm x (x.1 59 k.toNatClampNeg) (Q.map (mQp st.2.1)) := h59
            have := h59.1
            rw [e59] at this
            exact absurd this (by decide)
      · rw [f61] at e2
        have gk : gg x k = 1501 - k.toInt := by unfold gg; rw [if_pos e3]
        have tw := sc2 (Or.inr e3)
        have s20 : st.1 = 20 := w3.mp e3
        obtain ⟨n2, st', hto, hs', hsf⟩ := ns.2.2.1 (Or.inr s20)
        have h61' : x.1 61 k.toNatClampNeg = Int32.ofNat n2 := by
          rw [h61]
          unfold mNt
          rw [hto]
          show (if st.1 = 17 ∨ st.1 = 20 then Int32.ofNat n2 else _) = _
          rw [if_pos (Or.inr s20)]
        obtain ⟨l1, l2⟩ := len hs'
        have t0 : 0 ≤ (x.1 61 k.toNatClampNeg).toInt := by rw [h61', l1]; omega
        have how : ow1 (Int32.ofNat T) k.toNatClampNeg st lv = .inr (n2, lv) := by
          unfold ow1
          rw [if_neg (by omega), if_pos s20, hto]
          rfl
        refine to y S1 m _ z2 i1 i2 q5 e2 t0 tw m0 m3 ?_ (onJ m _ n2 z2 st' lv st.2.1 (by rw [e2, si_cell (by decide)]; exact q) (by rw [e2, si_get, if_pos ⟨rfl, rfl⟩]) (by rw [h61']; exact l2) hs' hsf (fun p hp => by rw [e2, si_cell (by decide)]; exact hlv p hp) (fun r hr => ?_))
        rotate_left
        · obtain ⟨n9, hn9⟩ := hr
          refine lift r ⟨n9 + 1, ?_⟩
          rw [set_r hst (by omega) (by omega) how, if_neg (by omega)]
          exact hn9
        rcases go e3 with g | ⟨_, _, g⟩
        · have : gg x (x.1 61 k.toNatClampNeg) ≤ 1501 - (x.1 61 k.toNatClampNeg).toInt := by
            unfold gg
            split <;> omega
          omega
        · have : gg x (x.1 61 k.toNatClampNeg) = 0 := by
            unfold gg
            rw [if_neg (by rw [g]; decide)]
          omega
  refine sd_own_0 _ (loop ((300 - 0) * 3001 + gg x (x.1 74 T) + 1).toNat x S 0 ⟨th3_rf T x, ssub_rf S, ha, h1, hw.1, hw.2.1, fun _ => hw.2.2⟩ (by decide) (by decide) (fun _ => Int.self_le_toNat _) ?_)
  rw [eJ]
  refine Or.inl ⟨hg, st0, lv0, hst0, hlv0, fun r hr => ?_⟩
  rw [eG0]
  exact hr
end DOG
end
section
/-! the model's memory against the machine; an act looked at -/
def mLt (y : gd) (t : Nat) (l : List (Nat × Int32)) : Prop := (y.1 80 t).toInt = (l.length : Nat) ∧ ∀ j q, l[j]? = some q → y.1 81 (10 * t + j) = Int32.ofNat q.1 ∧ y.1 82 (10 * t + j) = q.2 ∧ q.1 < 24
def mTq (y : gd) (C : gCo) (t : Nat) (h : gTq) : Prop := y.1 73 t = Int32.ofNat h.1 ∧ h.1 ≤ 3 ∧ y.1 75 t = Int32.ofNat h.2.1 ∧ (y.1 74 t).toInt = (h.2.2.1 : Nat) ∧ y.1 77 t = Int32.ofNat h.2.2.2.1 ∧ h.2.2.2.1 ≤ 2 ∧ y.1 78 t = h.2.2.2.2.1 ∧ y.1 79 t = h.2.2.2.2.2.1 ∧ mLt y t h.2.2.2.2.2.2.1 ∧ mLv y C t h.1 h.2.2.1 h.2.2.2.2.2.2.2
def MM1 (y : gd) (C : gCo) (M : gMa) : Prop := (∀ c, c < 24 → y.1 70 c = M.1 c) ∧ (∀ l, l < 6 → y.1 71 l = Int32.ofNat (M.2.1 l).1 - 1 ∧ (M.2.1 l).1 ≤ 6 ∧ y.1 72 l = (M.2.1 l).2) ∧ ∀ t, t < 6 → mTq y C t (M.2.2 t)
theorem hol_t : ∀ h, h < 7 → ∀ t, t < 6 → (Int32.ofNat h - 1 = Int32.ofNat t ↔ h = t + 1) := by decide +kernel
theorem sta_0 : ∀ h, h < 4 → (Int32.ofNat h = 0 ↔ h = 0) := by decide +kernel
theorem wai_2 : ∀ h, h < 3 → (Int32.ofNat h = 2 ↔ h = 2) ∧ (Int32.ofNat h = 1 ↔ h = 1) ∧ (Int32.ofNat h = 0 ↔ h = 0) := by decide +kernel
theorem op_16 : ∀ h, h < 16 → (Int32.ofNat h).toInt = (h : Nat) := by decide +kernel
def lkQ (y : gd) (L : Nat × Int32 × Int32 × Int32) : Prop := y.1 0 89 = Int32.ofNat L.1 ∧ y.1 0 88 = L.2.1 ∧ (L.1 = 0 → y.1 0 90 = L.2.2.1 ∧ y.1 0 91 = L.2.2.2)
section DLK
variable {d : Nat} {S : gS} {x : gd} {F : Int32 → gd → gS → Prop} {Fv : gd → gS → Prop} {C : gCo} {M : gMa} {w : Nat}
theorem ds_look3 (t : Int32) (ht : vp_in t 6) (ri : RI x S) (h1 : x.1 73 t.toNatClampNeg = 1) (hw1 : ¬ x.1 77 t.toNatClampNeg = 1) (hK : MK x C) (hN : NC C) (hX : NXc C) (hM : MM1 x C M) (wy : x.1 0 68 = Int32.ofNat w) (w01 : w = 0 ∨ w = 1) (h : ∀ x' S', md [82, 88, 89, 90, 91] [84] x x' → ssub S S' → lkS S' → lkP x x' t.toNatClampNeg → lkQ x' (lkM C w M t.toNatClampNeg) → Fv x' S') : MD (d + 3) z_lookAt 0 [(0, vr 0), (1, vi t)] [] S x (Dv Fv) := by
  have k0 : (0 : Int32).toInt = 0 := rfl
  obtain ⟨kv, _, so, av⟩ := RI_step ri (vt ht) h1
  obtain ⟨s1, s2, s3⟩ := srt_of ri (vt ht) h1
  have w6 : (x.1 0 49).toInt ≤ 6000 := by have := ri.1.2.1.2.2.2.1; omega
  unfold lkP at h
  have tv := vp_in_iff.mp ht
  have k8 : (8 : Int32).toInt = 8 := rfl
  obtain ⟨T, eT⟩ : ∃ T, T = t.toNatClampNeg := ⟨_, rfl⟩
  have hT : T < 6 := by rw [eT]; exact vt ht
  have tT : t = Int32.ofNat T := i32_of (by rw [eT, t_cl]; omega)
  have tTi : t.toInt = (T : Nat) := by rw [eT, t_cl]; omega
  rw [← eT] at h h1 hw1 s1 s2 s3 kv so av
  obtain ⟨m73, l73, m75, m74, m77, l77, m78, m79, mlt, mlv⟩ := hM.2.2 T hT
  obtain ⟨k, ek⟩ : ∃ k, k = x.1 74 T := ⟨_, rfl⟩
  rw [← ek] at kv av s1 s2 s3 so h m74
  obtain ⟨s, es⟩ : ∃ s, s = srt x T := ⟨_, rfl⟩
  rw [← es] at s1 s2 s3 h
  -- the step of the code
  have l52 : (x.1 0 52).toInt = C.1.length := hK.1.1
  have kst : k.toNatClampNeg = (M.2.2 T).2.2.1 := by rw [t_cl, m74]; rfl
  have kl : (M.2.2 T).2.2.1 < C.1.length := by
    have := (RI_step ri hT h1).2.1
    rw [← ek, m74] at this
    omega
  obtain ⟨st, hst⟩ : ∃ st, C.1[(M.2.2 T).2.2.1]? = some st := ⟨_, List.getElem?_eq_getElem kl⟩
  have esN := stN_is hst
  obtain ⟨g54, g55, g56, g57, g58, g59, g60, -, -⟩ := hK.1.2 _ st hst
  have ns := hN.1 _ st hst
  obtain ⟨nx1, nx2, nx3, nx4, -, nx5⟩ := hX _ st hst
  rw [← kst] at g54 g55 g56 g57 g58 g59 g60
  have o16 : st.1 < 16 := by
    have a := ((ri.2 T hT).1.2.2 h1).2
    rw [← ek, g54] at a
    exact (mWh_i st.1 ns.1.1).1.mp a
  have g55 := g55 o16
  have sta1 : (M.2.2 T).1 = 1 := by
    have : Int32.ofNat (M.2.2 T).1 = 1 := by rw [← m73]; exact h1
    have a := (M.2.2 T).1
    rcases (show (M.2.2 T).1 = 0 ∨ (M.2.2 T).1 = 1 ∨ (M.2.2 T).1 = 2 ∨ (M.2.2 T).1 = 3 by omega) with e | e | e | e <;> rw [e] at this ⊢ <;> first | rfl | exact absurd this (by decide)
  have lv : ∀ p, p < st.2.1.length → x.1 76 (8 * T + slN st.2.1 p) = (M.2.2 T).2.2.2.2.2.2.2 p := by
    have a := mlv.1 (Or.inl sta1)
    rw [esN] at a
    exact a
  have w2 : ¬ s = 15 → (M.2.2 T).2.2.2.1 = 0 ∧ s = Int32.ofNat st.1 := fun n15 => by
    obtain ⟨b2, b1, b0⟩ := wai_2 _ (show (M.2.2 T).2.2.2.1 < 3 by omega)
    rw [← m77] at b2 b1 b0
    have c2 : ¬ x.1 77 T = 2 := fun z => n15 (by rw [es]; unfold srt; rw [if_pos z])
    refine ⟨?_, by rw [es]; unfold srt; rw [if_neg c2, ← ek]; exact g55⟩
    have a1 : ¬ (M.2.2 T).2.2.2.1 = 2 := fun z => c2 (b2.mpr z)
    have a2 : ¬ (M.2.2 T).2.2.2.1 = 1 := fun z => hw1 (b1.mpr z)
    omega
  have w15 : s = 15 → ¬ (M.2.2 T).2.2.2.1 = 0 := fun e15 z => by
    have : s = Int32.ofNat st.1 := by
      rw [es]; unfold srt
      rw [if_neg (by rw [m77, z]; decide), ← ek]; exact g55
    have c := op_16 st.1 o16
    rw [← this, e15] at c
    have : st.1 = 15 := by
      have e : (15 : Int32).toInt = 15 := rfl
      omega
    exact ns.1.2 this
  -- what stands while it looks
  let Z : gd → gS → Prop := fun z S2 => md [82, 88, 89, 90, 91] [84] x z ∧ ssub S S2 ∧ lkS S2 ∧ ((0 ≤ s.toInt ∧ s.toInt ≤ 4) → 0 ≤ (z.1 0 88).toInt ∧ (z.1 0 88).toInt < 24) ∧ ((5 ≤ s.toInt ∧ s.toInt ≤ 10) ∨ s = 15 → z.1 0 88 = x.1 56 k.toNatClampNeg)
  have fail : ∀ (z : gd) (S2 : gS) (n : Int32) (z2 : gd), Z z S2 → 0 < n.toInt → z2 = si z 0 89 n → Int32.ofNat (lkM C w M T).1 = n → z.1 0 88 = (lkM C w M T).2.1 → ¬ (lkM C w M T).1 = 0 → Dv Fv none z2 (sadd S2 0 89) := by
    intro z S2 n z2 hz hn e2 L1 L2 L0
    obtain ⟨z1, z2', z3, z4, z5⟩ := hz
    have m := md_f z 89 n
    rw [← e2] at m
    have e88 : z2.1 0 88 = z.1 0 88 := m.1 88 (by decide)
    have e89 : z2.1 0 89 = n := by rw [e2, si_get, if_pos ⟨rfl, rfl⟩]
    refine Dv_i (h z2 _ (md_tr z1 m rfl rfl) (ssub_tr z2' (ssub_ad _ _ _)) (lkS_up (ssub_ad _ _ _) z3) ⟨fun q => Or.inr (by rw [e88]; exact z4 q), fun q => by rw [e88]; exact z5 q, fun q => ?_⟩ ⟨by rw [e89]; exact L1.symm, by rw [e88]; exact L2, fun z => absurd z L0⟩)
    rw [e89] at q; omega
  have good : ∀ (z : gd) (S2 : gS), Z z S2 → (s = 9 → x.1 73 (x.1 56 k.toNatClampNeg).toNatClampNeg = 0) → (s = 1 → x.1 0 68 = 1 → x.1 37 (z.1 0 88).toNatClampNeg = 0 → ¬ x.1 80 T = 8) → lkQ z (lkM C w M T) → Dv Fv none z S2 := by
    intro z S2 hz q9 q1 L
    obtain ⟨z1, z2', z3, z4, z5⟩ := hz
    exact Dv_i (h z S2 z1 z2' z3 ⟨fun q => Or.inr (z4 q), z5, fun _ => ⟨z4, q9, q1⟩⟩ L)
  have bad : ∀ (z : gd) (S2 : gS), Z z S2 → ¬ (z.1 0 89).toInt ≤ 0 → lkQ z (lkM C w M T) → Dv Fv none z S2 := by
    intro z S2 hz q L
    obtain ⟨z1, z2', z3, z4, z5⟩ := hz
    exact Dv_i (h z S2 z1 z2' z3 ⟨fun q => Or.inr (z4 q), z5, fun q2 => absurd q2 q⟩ L)
  have ev : ∀ (o : Option (List gQ)) (v : Int32), mNs x st.2.1 v o → (v = -1 ∧ o = none) ∨ (¬ v = -1 ∧ ∃ Q, o = some Q ∧ SUm x v (Q.map (mQp st.2.1))) := fun o v ho => by
    cases o with
    | none => exact Or.inl ⟨ho, rfl⟩
    | some Q =>
      have ho : SUm x v (Q.map (mQp st.2.1)) := ho
      refine Or.inr ⟨fun z => ?_, Q, rfl, ho⟩
      have := ho.1
      rw [z] at this
      exact absurd this (by decide)
  -- good so far: its place, its values
  let R : gd → Int32 → Int32 → Prop := fun z e f => ¬ s = 15 ∧ z.1 0 88 = (lkI C M T).2 ∧ z.1 0 89 = 0 ∧ z.1 0 90 = e ∧ z.1 0 91 = f ∧ lkM C w M T = (rsF C w M T st.1 (lkI C M T).2.toNatClampNeg, (lkI C M T).2, e, f)
  have sI : ¬ s = 15 → s.toInt = (st.1 : Nat) := fun n => by rw [(w2 n).2]; exact op_16 _ o16
  have sE : ¬ s = 15 → ∀ n : Nat, n < 16 → (s = Int32.ofNat n ↔ st.1 = n) := fun n15 n hn => by
    rw [t_eq, sI n15, op_16 n hn]; omega
  have obj : ¬ s = 15 → (5 ≤ st.1 ∧ st.1 ≤ 10) → (lkI C M T).2 = x.1 56 k.toNatClampNeg ∧ (x.1 56 k.toNatClampNeg).toNatClampNeg < 6 := fun n15 hs => by
    have a := sI n15
    have o := s2 (Or.inl (by omega))
    have ni : st.2.2.2.2.2.2.2.1 = none := by
      cases e : st.2.2.2.2.2.2.2.1 with
      | none => rfl
      | some Q => have := nx1 (by rw [e]; exact fun z => nomatch z); omega
    refine ⟨?_, by rw [t_cl]; omega⟩
    rw [lkI_n (by rw [esN]; exact ni), esN]
    exact g56.symm
  have hcl : ¬ s = 15 → s = 1 → ∀ (z : gd) (S2 : gS), Z z S2 → z.1 0 88 = (lkI C M T).2 → (z.1 0 88).toNatClampNeg < C.2.2.1.length := by
    intro n15 c z S2 hz e
    have o1 : st.1 = 1 := (sE n15 1 (by omega)).mp c
    obtain ⟨b1, b2, b3⟩ := nx5 (by omega)
    have r := hz.2.2.2.1 (by rw [c]; decide)
    rw [e] at r ⊢
    cases ei : st.2.2.2.2.2.2.2.1 with
    | none =>
      rw [lkI_n (by rw [esN]; exact ei), esN, t_cl]
      show st.2.2.2.2.1.toInt.toNat < _
      omega
    | some Q =>
      have b4 := b3 (by rw [ei]; exact fun z => nomatch z)
      have ei' : (stN C (M.2.2 T).2.2.1).2.2.2.2.2.2.2.1 = some Q := by rw [esN]; exact ei
      obtain ⟨av1, av2, av3, av4⟩ := aV_acc av (by rw [g55, op_16 _ o16]; omega) (by rw [g55, op_16 _ o16]; omega)
      have n58 : ¬ x.1 58 k.toNatClampNeg = -1 := by
        rcases ev _ _ g58 with ⟨-, a⟩ | ⟨a, -⟩
        · rw [ei] at a; exact nomatch a
        · exact a
      have av5 := av4.resolve_left n58
      rw [g56, g57] at av5
      rw [g56] at av1
      cases ew : wkQ (M.2.2 T).2.2.2.2.2.2.2 (fun _ => 0) (Int32.ofNat T) Q with
      | none => rw [lkI_1 ei' ew] at r; exact absurd r.1 (by decide)
      | some v =>
        by_cases cv : v < 0 ∨ (stN C (M.2.2 T).2.2.1).2.2.2.2.2.1 ≤ v
        · rw [lkI_2 ei' ew cv] at r; exact absurd r.1 (by decide)
        · rw [lkI_0 ei' ew cv, t_cl]
          rw [esN, t_lt, t_le, k0] at cv
          rw [esN]
          show (st.2.2.2.2.1 + v).toInt.toNat < _
          rw [t_add (by omega) (by omega)]
          omega
  have p362 : ∀ (z : gd) (S2 : gS) (e f : Int32), Z z S2 → R z e f → (s = 9 → x.1 73 (x.1 56 k.toNatClampNeg).toNatClampNeg = 0) → ¬ (st.1 = 6 ∧ ¬ (M.2.1 (lkI C M T).2.toNatClampNeg).1 = T + 1) → ¬ ((st.1 = 7 ∨ st.1 = 8) ∧ ¬ (M.2.1 (lkI C M T).2.toNatClampNeg).1 = T + 1) → ¬ (st.1 = 9 ∧ ¬ (M.2.2 (lkI C M T).2.toNatClampNeg).1 = 0) → ¬ ((st.1 = 13 ∧ ¬ (M.2.2 T).2.2.2.2.2.1 = -1) ∨ (st.1 = 14 ∧ (M.2.2 T).2.2.2.2.2.1 = -1)) → MD (d + 3) z_lookAt 362 [(0, vr 0), (1, vi t), (3, vi s)] [] S2 z (Dv Fv) := by
    intro z S2 e f hz hR q9 r3 r4 r7 r8
    obtain ⟨n15, R88, R89, R90, R91, RL⟩ := hR
    have rs : rsF C w M T st.1 (lkI C M T).2.toNatClampNeg = if st.1 = 1 ∧ w = 1 ∧ suM C (lkI C M T).2.toNatClampNeg = false ∧ 8 ≤ (M.2.2 T).2.2.2.2.2.2.1.length then 9 else 0 := by
      unfold rsF
      rw [if_neg r3, if_neg r4, if_neg r7, if_neg r8]
    have gd0 : ¬ (st.1 = 1 ∧ w = 1 ∧ suM C (lkI C M T).2.toNatClampNeg = false ∧ 8 ≤ (M.2.2 T).2.2.2.2.2.2.1.length) → lkQ z (lkM C w M T) := fun c => by
      rw [if_neg c] at rs
      rw [RL, rs]
      exact ⟨R89, R88, fun _ => ⟨R90, R91⟩⟩
    have f68 : z.1 0 68 = x.1 0 68 := hz.1.1 68 (by decide)
    have f37 : z.1 37 = x.1 37 := hz.1.2.1 37 (by decide) (by decide)
    have f80 : z.1 80 = x.1 80 := hz.1.2.1 80 (by decide) (by decide)
    have s1' := sE n15 1 (by omega)
    have l8 : (x.1 80 T).toInt = ((M.2.2 T).2.2.2.2.2.2.1.length : Nat) := mlt.1
    have ll8 := (ri.2 T hT).2.2.2.1
    refine sd_lookAt_362 _ _ ⟨fun c => good z S2 hz q9 (fun q => absurd q c) (gd0 (fun z => c (s1'.mpr z.1))), fun c => ?_⟩
    rw [f68, f37, f80]
    have r := hz.2.2.2.1 (by rw [c]; decide)
    have su : x.1 37 (z.1 0 88).toNatClampNeg = if suM C (lkI C M T).2.toNatClampNeg = true then 1 else 0 := by
      rw [← R88]
      by_cases cl : (z.1 0 88).toNatClampNeg < C.2.2.1.length
      · obtain ⟨q, hq⟩ : ∃ q, C.2.2.1[(z.1 0 88).toNatClampNeg]? = some q := ⟨_, List.getElem?_eq_getElem cl⟩
        rw [(hK.2.2.1.2 _ q hq).2]
        unfold suM
        rw [hq]
      · exact absurd (hcl n15 c z S2 hz R88) cl
    refine ⟨fun c2 => good z S2 hz q9 (fun _ q => absurd q c2) (gd0 (fun z => c2 (by rw [wy, z.2.1]; rfl))), fun c68 => ⟨hz.2.2.1.1, by rw [vp_in_iff]; exact r, fun c3 => good z S2 hz q9 (fun _ _ q => absurd q c3) (gd0 (fun z9 => c3 (by rw [su, z9.2.2.1]; rfl))), fun c3 => ⟨ht, ?_⟩⟩⟩
    rw [← eT]
    have w1 : w = 1 := w01.resolve_left (fun z => by rw [z] at wy; rw [wy] at c68; exact absurd c68 (by decide))
    have su0 : suM C (lkI C M T).2.toNatClampNeg = false := by
      cases e9 : suM C (lkI C M T).2.toNatClampNeg with
      | false => rfl
      | true => rw [su, e9] at c3; exact absurd c3 (by decide)
    refine ⟨fun c4 => good z S2 hz q9 (fun _ _ _ => c4) (gd0 (fun z9 => c4 ?_)), fun c4 z2 e2 => ?_⟩
    · rw [t_eq, l8, k8]
      have := z9.2.2.2
      omega
    · rw [if_pos ⟨s1'.mp c, w1, su0, by rw [t_eq, l8, k8] at c4; omega⟩] at rs
      exact fail z S2 9 z2 hz (by decide) e2 (by rw [RL, rs]; rfl) (by rw [RL]; exact R88) (by rw [RL, rs]; exact fun z => nomatch z)
  have p321 : ∀ (z : gd) (S2 : gS) (e f : Int32), Z z S2 → R z e f → (s = 9 → x.1 73 (x.1 56 k.toNatClampNeg).toNatClampNeg = 0) → ¬ (st.1 = 6 ∧ ¬ (M.2.1 (lkI C M T).2.toNatClampNeg).1 = T + 1) → ¬ ((st.1 = 7 ∨ st.1 = 8) ∧ ¬ (M.2.1 (lkI C M T).2.toNatClampNeg).1 = T + 1) → ¬ (st.1 = 9 ∧ ¬ (M.2.2 (lkI C M T).2.toNatClampNeg).1 = 0) → MD (d + 3) z_lookAt 321 [(0, vr 0), (1, vi t), (3, vi s)] [] S2 z (Dv Fv) := by
    intro z S2 e f hz hR q9 r3 r4 r7
    obtain ⟨n15, R88, R89, R90, R91, RL⟩ := id hR
    have f79 : z.1 79 = x.1 79 := hz.1.2.1 79 (by decide) (by decide)
    have s13 := sE n15 13 (by omega)
    have s14 := sE n15 14 (by omega)
    have bad8 : ((st.1 = 13 ∧ ¬ (M.2.2 T).2.2.2.2.2.1 = -1) ∨ (st.1 = 14 ∧ (M.2.2 T).2.2.2.2.2.1 = -1)) → ∀ z2, z2 = si z 0 89 8 → Dv Fv none z2 (sadd S2 0 89) := fun c z2 e2 => by
      have rs : rsF C w M T st.1 (lkI C M T).2.toNatClampNeg = 8 := by
        unfold rsF
        rw [if_neg r3, if_neg r4, if_neg r7, if_pos c]
      exact fail z S2 8 z2 hz (by decide) e2 (by rw [RL, rs]; rfl) (by rw [RL]; exact R88) (by rw [RL, rs]; exact fun z => nomatch z)
    have p337 : ¬ (st.1 = 13 ∧ ¬ (M.2.2 T).2.2.2.2.2.1 = -1) → MD (d + 3) z_lookAt 337 [(0, vr 0), (1, vi t), (3, vi s)] [] S2 z (Dv Fv) := fun n13 => sd_lookAt_337 _ _ ⟨fun c => p362 z S2 e f hz hR q9 r3 r4 r7 (fun q => q.elim n13 (fun q => c (s14.mpr q.1))), fun c => ⟨ht, by
      rw [f79, ← eT, m79]
      exact ⟨fun c2 => p362 z S2 e f hz hR q9 r3 r4 r7 (fun q => q.elim n13 (fun q => c2 q.2)), fun c2 z2 e2 => bad8 (Or.inr ⟨s14.mp c, c2⟩) z2 e2⟩⟩⟩
    refine sd_lookAt_321 _ _ ⟨fun c => p337 (fun q => c (s13.mpr q.1)), fun c => ⟨ht, ?_⟩⟩
    rw [f79, ← eT, m79]
    exact ⟨fun c2 z2 e2 => bad8 (Or.inl ⟨s13.mp c, c2⟩) z2 e2, fun c2 => p337 (fun q => q.2 c2)⟩
  have p292 : ∀ (z : gd) (S2 : gS) (e f : Int32), Z z S2 → R z e f → ¬ (st.1 = 6 ∧ ¬ (M.2.1 (lkI C M T).2.toNatClampNeg).1 = T + 1) → ¬ ((st.1 = 7 ∨ st.1 = 8) ∧ ¬ (M.2.1 (lkI C M T).2.toNatClampNeg).1 = T + 1) → MD (d + 3) z_lookAt 292 [(0, vr 0), (1, vi t), (2, vi k), (3, vi s)] [] S2 z (Dv Fv) := by
    intro z S2 e f hz hR r3 r4
    obtain ⟨n15, R88, R89, R90, R91, RL⟩ := id hR
    have f56 : z.1 56 = x.1 56 := hz.1.2.1 56 (by decide) (by decide)
    have f73 : z.1 73 = x.1 73 := hz.1.2.1 73 (by decide) (by decide)
    have s9 := sE n15 9 (by omega)
    refine sd_lookAt_292 _ _ _ ⟨fun c => p321 z S2 e f hz hR (fun q => absurd q c) r3 r4 (fun q => c (s9.mpr q.1)), fun c => ⟨kv, ?_⟩⟩
    have o := s2 (Or.inl (by rw [c]; decide))
    obtain ⟨ob1, ob2⟩ := obj n15 (by have := s9.mp c; omega)
    have l9 := (hM.2.2 _ ob2).2.1
    have e9 := (hM.2.2 _ ob2).1
    have z9 := sta_0 _ (show (M.2.2 (x.1 56 k.toNatClampNeg).toNatClampNeg).1 < 4 by omega)
    rw [← e9] at z9
    rw [f56, f73]
    refine ⟨by rw [vp_in_iff]; omega, fun c2 => p321 z S2 e f hz hR (fun _ => c2) r3 r4 (fun q => q.2 (by rw [ob1]; exact z9.mp c2)), fun c2 z2 e2 => ?_⟩
    have rs : rsF C w M T st.1 (lkI C M T).2.toNatClampNeg = 7 := by
      unfold rsF
      rw [if_neg r3, if_neg r4, if_pos ⟨s9.mp c, fun q => c2 (z9.mpr (by rw [ob1] at q; exact q))⟩]
    exact fail z S2 7 z2 hz (by decide) e2 (by rw [RL, rs]; rfl) (by rw [RL]; exact R88) (by rw [RL, rs]; exact fun z => nomatch z)
  have p267 : ∀ (z : gd) (S2 : gS) (b e f : Int32), Z z S2 → R z e f → ¬ (st.1 = 6 ∧ ¬ (M.2.1 (lkI C M T).2.toNatClampNeg).1 = T + 1) → ((st.1 = 7 ∨ st.1 = 8) → (b = 0 ↔ ¬ (M.2.1 (lkI C M T).2.toNatClampNeg).1 = T + 1)) → MD (d + 3) z_lookAt 267 [(0, vr 0), (1, vi t), (2, vi k), (3, vi s), (4, vi b)] [] S2 z (Dv Fv) := by
    intro z S2 b e f hz hR r3 hb
    obtain ⟨n15, R88, R89, R90, R91, RL⟩ := id hR
    have s7 := sE n15 7 (by omega)
    have s8 := sE n15 8 (by omega)
    have p279 : (st.1 = 7 ∨ st.1 = 8) → MD (d + 3) z_lookAt 279 [(0, vr 0), (1, vi t), (2, vi k), (3, vi s), (4, vi b)] [] S2 z (Dv Fv) := fun c78 => sd_lookAt_279 _ _ _ _ ⟨fun c => p292 z S2 e f hz hR r3 (fun q => c ((hb c78).mpr q.2)), fun c z2 e2 => by
      have rs : rsF C w M T st.1 (lkI C M T).2.toNatClampNeg = 4 := by
        unfold rsF
        rw [if_neg r3, if_pos ⟨c78, (hb c78).mp c⟩]
      exact fail z S2 4 z2 hz (by decide) e2 (by rw [RL, rs]; rfl) (by rw [RL]; exact R88) (by rw [RL, rs]; exact fun z => nomatch z)⟩
    exact sd_lookAt_267 _ _ _ _ ⟨fun c => p279 (Or.inl (s7.mp c)), fun c => ⟨fun c8 => p292 z S2 e f hz hR r3 (fun q => q.1.elim (fun q => c (s7.mpr q)) (fun q => c8 (s8.mpr q))), fun c8 => p279 (Or.inr (s8.mp c8))⟩⟩
  have p246 : ∀ (z : gd) (S2 : gS) (b e f : Int32), Z z S2 → R z e f → ((st.1 = 6 ∨ st.1 = 7 ∨ st.1 = 8) → (b = 0 ↔ ¬ (M.2.1 (lkI C M T).2.toNatClampNeg).1 = T + 1)) → MD (d + 3) z_lookAt 246 [(0, vr 0), (1, vi t), (2, vi k), (3, vi s)] [vi b] S2 z (Dv Fv) := by
    intro z S2 b e f hz hR hb
    obtain ⟨n15, R88, R89, R90, R91, RL⟩ := id hR
    have s6 := sE n15 6 (by omega)
    refine sd_lookAt_246 _ _ _ _ ⟨fun c => p267 z S2 b e f hz hR (fun q => c (s6.mpr q.1)) (fun q => hb (Or.inr q)), fun c => ⟨fun c0 => p267 z S2 b e f hz hR (fun q => c0 ((hb (Or.inl q.1)).mpr q.2)) (fun q => hb (Or.inr q)), fun c0 z2 e2 => ?_⟩⟩
    have rs : rsF C w M T st.1 (lkI C M T).2.toNatClampNeg = 3 := by
      unfold rsF
      rw [if_pos ⟨s6.mp c, (hb (Or.inl (s6.mp c))).mp c0⟩]
    exact fail z S2 3 z2 hz (by decide) e2 (by rw [RL, rs]; rfl) (by rw [RL]; exact R88) (by rw [RL, rs]; exact fun z => nomatch z)
  have p226 : ∀ (z : gd) (S2 : gS) (e f : Int32), Z z S2 → R z e f → (6 ≤ st.1 ∧ st.1 ≤ 8) → MD (d + 3) z_lookAt 226 [(0, vr 0), (1, vi t), (2, vi k), (3, vi s)] [] S2 z (Dv Fv) := by
    intro z S2 e f hz hR q
    have n15 := hR.1
    have sI' := sI n15
    have o := s2 (Or.inl (by omega))
    obtain ⟨ob1, ob2⟩ := obj n15 (by omega)
    obtain ⟨e71, l71, -⟩ := hM.2.1 _ ob2
    have ht1 := hol_t _ (show (M.2.1 (x.1 56 k.toNatClampNeg).toNatClampNeg).1 < 7 by omega) T hT
    rw [← e71, ← tT] at ht1
    have f56 : z.1 56 = x.1 56 := hz.1.2.1 56 (by decide) (by decide)
    have f71 : z.1 71 = x.1 71 := hz.1.2.1 71 (by decide) (by decide)
    refine sd_lookAt_226 _ _ _ ⟨kv, ?_⟩
    rw [f56, f71]
    exact ⟨by rw [vp_in_iff]; omega, fun c => p246 z S2 0 e f hz hR (fun _ => ⟨fun _ q => c (ht1.mpr (by rw [ob1] at q; exact q)), fun _ => rfl⟩), fun c => p246 z S2 1 e f hz hR (fun _ => ⟨fun q => absurd q (by decide), fun q => absurd (by rw [ob1]; exact ht1.mp c) q⟩)⟩
  have p200 : ∀ (z : gd) (S2 : gS), Z z S2 → ((∃ e f, R z e f) ∨ (¬ (z.1 0 89).toInt ≤ 0 ∧ lkQ z (lkM C w M T))) → MD (d + 3) z_lookAt 200 [(0, vr 0), (1, vi t), (2, vi k), (3, vi s)] [] S2 z (Dv Fv) := by
    intro z S2 hz hR
    refine sd_lookAt_200 _ _ _ ⟨hz.2.2.1.2.1, fun c => ?_, fun c => ?_⟩
    · rcases hR with ⟨e, f, hR⟩ | ⟨hR, -⟩
      · have n15 := hR.1
        have s6 := sE n15 6 (by omega)
        have s7 := sE n15 7 (by omega)
        have s8 := sE n15 8 (by omega)
        exact ⟨fun c => p226 z S2 e f hz hR (by have := s6.mp c; omega), fun n6 => ⟨fun c => p226 z S2 e f hz hR (by have := s7.mp c; omega), fun n7 => ⟨fun n8 => p246 z S2 0 e f hz hR (fun q => absurd q (fun q => q.elim (fun q => n6 (s6.mpr q)) (fun q => q.elim (fun q => n7 (s7.mpr q)) (fun q => n8 (s8.mpr q))))), fun c => p226 z S2 e f hz hR (by have := s8.mp c; omega)⟩⟩⟩
      · rw [t_le, k0] at c; exact absurd c hR
    · rcases hR with ⟨e, f, hR⟩ | ⟨hR, L⟩
      · rw [hR.2.2.1] at c; exact absurd (by decide) c
      · exact bad z S2 hz hR L
  have wk : ∀ (z : gd) (S2 : gS) (r : Int32) (Q : List gQ) (F9 : Int32 → gd → gS → Prop), Z z S2 → sQo st.2.1 (some Q) → SUm x r (Q.map (mQp st.2.1)) → (∀ v z2 S3, Z z2 S3 → S3 0 82 → md [82] [84] z z2 → wkM z2 (wkQ (M.2.2 T).2.2.2.2.2.2.2 (fun _ => 0) (Int32.ofNat T) Q) v → F9 v z2 S3) → MD (d + 2) z_worked 0 [(0, vr 0), (1, vi r), (2, vi t)] [] S2 z (Di F9) := by
    intro z S2 r Q F9 hz hq hs hF
    obtain ⟨q1, q2⟩ := hq Q rfl
    obtain ⟨pw, pm, p8⟩ := ns.2.2.2.2.1
    have f49 : z.1 0 49 = x.1 0 49 := hz.1.1 49 (by decide)
    refine ds_workedf (lv := (M.2.2 T).2.2.2.2.2.2.2) (cv := fun _ => 0) (SUm_f hs f49 (hz.1.2.1 51 (by decide) (by decide)) (hz.1.2.1 52 (by decide) (by decide))) (by rw [f49]; exact w6) q1 (fun p hp => ?_) (fun v z2 S3 m9 ss s82 hwk => hF v z2 S3 ?_ s82 m9 (by rw [tT] at hwk; exact hwk))
    · obtain ⟨b1, b2, b3⟩ := q2 p hp
      refine ⟨b1, fun c => ?_, fun c => absurd c b3⟩
      have pl := b2 c
      have sm := pm _ (slN_mem pl)
      have m8 : (8 * t).toInt = 8 * t.toInt := by rw [t_mul (by rw [k8]; omega) (by rw [k8]; omega), k8]
      have eo : (Int32.ofNat (slN st.2.1 p.2.1)).toInt = (slN st.2.1 p.2.1 : Nat) := Int32.toInt_ofNat_of_lt (by omega)
      have es : (8 * t + Int32.ofNat (slN st.2.1 p.2.1)).toInt = 8 * t.toInt + (slN st.2.1 p.2.1 : Nat) := by rw [t_add (by omega) (by omega), m8, eo]
      refine ⟨by rw [vp_in_iff, es]; omega, ?_⟩
      have ei : (8 * t + Int32.ofNat (slN st.2.1 p.2.1)).toNatClampNeg = 8 * T + slN st.2.1 p.2.1 := by rw [t_cl, es, tTi]; omega
      rw [ei, hz.1.2.1 76 (by decide) (by decide)]
      exact lv _ pl
    · have e88 : z2.1 0 88 = z.1 0 88 := m9.1 88 (by decide)
      exact ⟨md_tr hz.1 m9 rfl rfl, ssub_tr hz.2.1 ss, lkS_up ss hz.2.2.1, by rw [e88]; exact hz.2.2.2.1, by rw [e88]; exact hz.2.2.2.2⟩
  have Zf : ∀ (z : gd) (S2 : gS) (f : Nat) (v : Int32) (z2 : gd), (f = 89 ∨ f = 90 ∨ f = 91) → Z z S2 → z2 = si z 0 f v → Z z2 (sadd S2 0 f) := by
    intro z S2 f v z2 hf hz e2
    have m := md_f z f v
    rw [← e2] at m
    have e88 : z2.1 0 88 = z.1 0 88 := m.1 88 (by simp; omega)
    have m2 : md [89, 90, 91] [] z z2 := md_w m (fun i hi => by rw [List.mem_singleton.mp hi]; simp; omega) (fun i hi => nomatch hi)
    exact ⟨md_tr hz.1 m2 rfl rfl, ssub_tr hz.2.1 (ssub_ad _ _ _), lkS_up (ssub_ad _ _ _) hz.2.2.1, by rw [e88]; exact hz.2.2.2.1, by rw [e88]; exact hz.2.2.2.2⟩
  obtain ⟨eE, eeE⟩ : ∃ eE, eE = evO (M.2.2 T).2.2.2.2.2.2.2 (Int32.ofNat T) st.2.2.2.2.2.2.2.2.1 := ⟨_, rfl⟩
  obtain ⟨eF, eeF⟩ : ∃ eF, eF = evO (M.2.2 T).2.2.2.2.2.2.2 (Int32.ofNat T) st.2.2.2.2.2.2.2.2.2 := ⟨_, rfl⟩
  have p160 : ∀ (z : gd) (S2 : gS), Z z S2 → ¬ s = 15 → (lkI C M T).1 = 0 → z.1 0 88 = (lkI C M T).2 → z.1 0 91 = 0 → ((∃ e, eE = some e ∧ z.1 0 89 = 0 ∧ z.1 0 90 = e) ∨ (eE = none ∧ z.1 0 89 = 1)) → MD (d + 3) z_lookAt 160 [(0, vr 0), (1, vi t), (2, vi k), (3, vi s)] [] S2 z (Dv Fv) := by
    intro z S2 hz n15 i0 z88 z91 hE
    have f60 : z.1 60 = x.1 60 := hz.1.2.1 60 (by decide) (by decide)
    refine sd_lookAt_160 _ _ _ ⟨hz.2.2.1.2.1, fun c => ?_, fun c => ⟨kv, ?_⟩⟩
    · rcases hE with ⟨e, -, z89, -⟩ | ⟨e1, z89⟩
      · exact absurd z89 c
      · refine p200 z S2 hz (Or.inr ⟨by rw [z89]; decide, ?_⟩)
        rw [lkM_1 (w2 n15).1 i0 (by rw [esN, ← eeE]; exact e1)]
        exact ⟨z89, z88, fun z => nomatch z⟩
    · obtain ⟨e, e1, z89, z90⟩ : ∃ e, eE = some e ∧ z.1 0 89 = 0 ∧ z.1 0 90 = e := by
        rcases hE with h | ⟨-, h⟩
        · exact h
        · rw [h] at c; exact absurd c (by decide)
      have L3 : ∀ f, eF = some f → lkM C w M T = (rsF C w M T st.1 (lkI C M T).2.toNatClampNeg, (lkI C M T).2, e, f) := fun f hf => by
        rw [lkM_3 (w2 n15).1 i0 (by rw [esN, ← eeE]; exact e1) (by rw [esN, ← eeF]; exact hf), esN]
      rw [f60]
      rcases ev _ _ g60 with ⟨a1, a2⟩ | ⟨a1, Q, a2, a3⟩
      · refine ⟨fun _ => p200 z S2 hz (Or.inl ⟨e, 0, n15, z88, z89, z90, z91, L3 0 (by rw [eeF, a2]; rfl)⟩), fun ne => absurd a1 ne⟩
      · refine ⟨fun c => absurd c a1, fun _ => ⟨kv, wk z S2 _ Q _ hz (by rw [← a2]; exact ns.2.2.2.2.2.2.2.2.2.1) a3 (fun v z2 S3 hz2 s82 m9 hwk z4 e4 => ⟨Or.inr s82, fun z6 e6 => ?_⟩)⟩⟩
        have hz4 := Zf z2 _ 91 _ z4 (Or.inr (Or.inr rfl)) hz2 e4
        have hz6 := Zf z4 _ 89 _ z6 (Or.inl rfl) hz4 e6
        have m4 := md_f z2 91 v
        rw [← e4] at m4
        have m6 := md_f z4 89 (z4.1 0 82)
        rw [← e6] at m6
        have y88 : z6.1 0 88 = (lkI C M T).2 := by rw [m6.1 88 (by decide), m4.1 88 (by decide), m9.1 88 (by decide)]; exact z88
        have y90 : z6.1 0 90 = e := by rw [m6.1 90 (by decide), m4.1 90 (by decide), m9.1 90 (by decide)]; exact z90
        have y91 : z6.1 0 91 = v := by rw [m6.1 91 (by decide), e4, si_get, if_pos ⟨rfl, rfl⟩]
        have y89 : z6.1 0 89 = z2.1 0 82 := by rw [e6, si_get, if_pos ⟨rfl, rfl⟩, m4.1 82 (by decide)]
        rcases hwk with ⟨v9, b1, b2, b3⟩ | ⟨b1, b2⟩
        · exact p200 z6 _ hz6 (Or.inl ⟨e, v, n15, y88, by rw [y89]; exact b3, y90, y91, L3 v (by rw [eeF, a2, b2]; exact b1)⟩)
        · refine p200 z6 _ hz6 (Or.inr ⟨by rw [y89, b2]; decide, ?_⟩)
          rw [lkM_2 (w2 n15).1 i0 (by rw [esN, ← eeE]; exact e1) (by rw [esN, a2]; exact b1)]
          exact ⟨by rw [y89]; exact b2, y88, fun z => nomatch z⟩
  have p127 : ∀ (z : gd) (S2 : gS), Z z S2 → ¬ s = 15 → (lkI C M T).1 = 0 → z.1 0 88 = (lkI C M T).2 → z.1 0 89 = 0 → z.1 0 90 = 0 → z.1 0 91 = 0 → MD (d + 3) z_lookAt 127 [(0, vr 0), (1, vi t), (2, vi k), (3, vi s)] [] S2 z (Dv Fv) := by
    intro z S2 hz n15 i0 z88 z89 z90 z91
    have f59 : z.1 59 = x.1 59 := hz.1.2.1 59 (by decide) (by decide)
    refine sd_lookAt_127 _ _ _ ⟨kv, ?_⟩
    rw [f59]
    rcases ev _ _ g59 with ⟨a1, a2⟩ | ⟨a1, Q, a2, a3⟩
    · exact ⟨fun _ => p160 z S2 hz n15 i0 z88 z91 (Or.inl ⟨0, by rw [eeE, a2]; rfl, z89, z90⟩), fun ne => absurd a1 ne⟩
    · refine ⟨fun c => absurd c a1, fun _ => ⟨kv, wk z S2 _ Q _ hz (by rw [← a2]; exact ns.2.2.2.2.2.2.2.2.1) a3 (fun v z2 S3 hz2 s82 m9 hwk z4 e4 => ⟨Or.inr s82, fun z6 e6 => ?_⟩)⟩⟩
      have hz4 := Zf z2 _ 90 _ z4 (Or.inr (Or.inl rfl)) hz2 e4
      have hz6 := Zf z4 _ 89 _ z6 (Or.inl rfl) hz4 e6
      have m4 := md_f z2 90 v
      rw [← e4] at m4
      have m6 := md_f z4 89 (z4.1 0 82)
      rw [← e6] at m6
      have y88 : z6.1 0 88 = (lkI C M T).2 := by rw [m6.1 88 (by decide), m4.1 88 (by decide), m9.1 88 (by decide)]; exact z88
      have y91 : z6.1 0 91 = 0 := by rw [m6.1 91 (by decide), m4.1 91 (by decide), m9.1 91 (by decide)]; exact z91
      have y90 : z6.1 0 90 = v := by rw [m6.1 90 (by decide), e4, si_get, if_pos ⟨rfl, rfl⟩]
      have y89 : z6.1 0 89 = z2.1 0 82 := by rw [e6, si_get, if_pos ⟨rfl, rfl⟩, m4.1 82 (by decide)]
      refine p160 z6 _ hz6 n15 i0 y88 y91 ?_
      rcases hwk with ⟨v9, b1, b2, b3⟩ | ⟨b1, b2⟩
      · exact Or.inl ⟨v, by rw [eeE, a2, b2]; exact b1, by rw [y89]; exact b3, y90⟩
      · exact Or.inr ⟨by rw [eeE, a2]; exact b1, by rw [y89]; exact b2⟩
  refine sd_lookAt_0 _ ⟨ht, ds_sortOf t ht (by rw [← eT, ← ek]; exact kv) ?_⟩
  rw [← eT, ← es, ← ek]
  intro z4 e4
  refine ⟨kv, fun z6 e6 z7 e7 z8 e8 => ?_⟩
  have m4 := md_f x 89 0
  rw [← e4] at m4
  have f56 : z4.1 56 = x.1 56 := m4.2.1 56 (by decide) (by decide)
  rw [f56] at e6
  have m6 := md_f z4 88 (x.1 56 k.toNatClampNeg)
  rw [← e6] at m6
  have m7 := md_f z6 90 0
  rw [← e7] at m7
  have m8 := md_f z7 91 0
  rw [← e8] at m8
  have m : md [89, 88, 90, 91] [] x z8 := md_tr (md_tr (L3 := [89, 88, 90]) (A3 := []) (md_tr (L3 := [89, 88]) (A3 := []) m4 m6 rfl rfl) m7 rfl rfl) m8 rfl rfl
  have e88 : z8.1 0 88 = x.1 56 k.toNatClampNeg := by rw [m8.1 88 (by decide), m7.1 88 (by decide), e6, si_get, if_pos ⟨rfl, rfl⟩]
  have hz : Z z8 (sadd (sadd (sadd (sadd S 0 89) 0 88) 0 90) 0 91) := ⟨md_w m (by decide) (by decide), fun c j q => Or.inr (Or.inr (Or.inr (Or.inr q))), ⟨Or.inr (Or.inr (Or.inl ⟨rfl, rfl⟩)), Or.inr (Or.inr (Or.inr (Or.inl ⟨rfl, rfl⟩))), Or.inr (Or.inl ⟨rfl, rfl⟩), Or.inl ⟨rfl, rfl⟩⟩, fun q => by rw [e88]; exact ⟨(s1 q).2.1, (s1 q).2.2⟩, fun _ => e88⟩
  have f58 : z8.1 58 = x.1 58 := m.2.1 58 (by decide) (by decide)
  rw [f58]
  have e89 : z8.1 0 89 = 0 := by rw [m8.1 89 (by decide), m7.1 89 (by decide), m6.1 89 (by decide), e4, si_get, if_pos ⟨rfl, rfl⟩]
  have e90 : z8.1 0 90 = 0 := by rw [m8.1 90 (by decide), e7, si_get, if_pos ⟨rfl, rfl⟩]
  have e91 : z8.1 0 91 = 0 := by rw [e8, si_get, if_pos ⟨rfl, rfl⟩]
  refine ⟨fun n15 => ⟨kv, ?_⟩, fun e15 => ?_⟩
  rotate_left
  · refine good z8 _ hz (fun q => by rw [e15] at q; exact absurd q (by decide)) (fun q => by rw [e15] at q; exact absurd q (by decide)) ?_
    rw [lkM_15 (w15 e15), esN]
    exact ⟨e89, by rw [e88]; exact g56, fun _ => ⟨e90, e91⟩⟩
  rcases ev _ _ g58 with ⟨a1, a2⟩ | ⟨a1, Q, a2, a3⟩
  · have hI := lkI_n (C := C) (M := M) (t := T) (by rw [esN]; exact a2)
    rw [esN] at hI
    exact ⟨fun _ => p127 z8 _ hz n15 (by rw [hI]) (by rw [hI, e88]; exact g56) e89 e90 e91, fun ne => absurd a1 ne⟩
  have o4 := nx1 (by rw [a2]; exact fun z => nomatch z)
  have ss := sI n15
  have s04 : 0 ≤ s.toInt ∧ s.toInt ≤ 4 := by omega
  have a2' : (stN C (M.2.2 T).2.2.1).2.2.2.2.2.2.2.1 = some Q := by rw [esN]; exact a2
  obtain ⟨av1, av2, av3, av4⟩ := aV_acc av (by rw [g55, op_16 _ o16]; omega) (by rw [g55, op_16 _ o16]; omega)
  have av5 := av4.resolve_left a1
  have k1 : (1 : Int32).toInt = 1 := rfl
  have bnd : ∀ v : Int32, (0 ≤ v ∧ v ≤ x.1 57 k.toNatClampNeg - 1) ↔ ¬ (v < 0 ∨ st.2.2.2.2.2.1 ≤ v) := fun v => by
    rw [← g57, t_le, t_le, t_lt, t_le, k0, t_sub (by omega) (by omega), k1]
    omega
  refine ⟨fun c => absurd c a1, fun _ => ⟨kv, wk z8 _ _ Q _ hz (by rw [← a2]; exact ns.2.2.2.2.2.2.2.1) a3 (fun v z2 S3 hz2 s82 m9 hwk => ⟨s82, fun c82 => ⟨kv, ds_in _ _ _ ⟨fun c => ⟨kv, fun z3 e3 => ?_⟩, fun c z3 e3 z5 e5 => ?_⟩⟩, fun c82 z3 e3 z5 e5 => ?_⟩)⟩⟩
  · -- a place in a row
    have f56b : z2.1 56 = x.1 56 := hz2.1.2.1 56 (by decide) (by decide)
    have f57b : z2.1 57 = x.1 57 := hz2.1.2.1 57 (by decide) (by decide)
    have c9 := bi_ne.mp c
    rw [f57b] at c9
    have wv : wkQ (M.2.2 T).2.2.2.2.2.2.2 (fun _ => 0) (Int32.ofNat T) Q = some v := by
      rcases hwk with ⟨v9, b1, b2, b3⟩ | ⟨b1, b2⟩
      · rw [b2]; exact b1
      · rw [b2] at c82; exact absurd c82 (by decide)
    have hI := lkI_0 a2' wv (by rw [esN]; exact (bnd v).mp c9)
    rw [esN] at hI
    obtain ⟨c1, c2⟩ := c9
    rw [t_le] at c2
    rw [t_le, k0] at c1
    rw [f56b] at e3
    have m3 := md_f z2 88 (x.1 56 k.toNatClampNeg + v)
    rw [← e3] at m3
    have y88 : z3.1 0 88 = x.1 56 k.toNatClampNeg + v := by rw [e3, si_get, if_pos ⟨rfl, rfl⟩]
    refine p127 z3 _ ⟨md_tr hz2.1 m3 rfl rfl, ssub_tr hz2.2.1 (ssub_ad _ _ _), lkS_up (ssub_ad _ _ _) hz2.2.2.1, fun q => ?_, fun q => absurd (s2 q).2.2 a1⟩ n15 (by rw [hI]) (by rw [hI, y88, g56]) (by rw [m3.1 89 (by decide), m9.1 89 (by decide)]; exact e89) (by rw [m3.1 90 (by decide), m9.1 90 (by decide)]; exact e90) (by rw [m3.1 91 (by decide), m9.1 91 (by decide)]; exact e91)
    rw [t_sub (by omega) (by omega), k1] at c2
    rw [y88, t_add (by omega) (by omega)]
    omega
  · -- outside
    have f57b : z2.1 57 = x.1 57 := hz2.1.2.1 57 (by decide) (by decide)
    have wv : wkQ (M.2.2 T).2.2.2.2.2.2.2 (fun _ => 0) (Int32.ofNat T) Q = some v := by
      rcases hwk with ⟨v9, b1, b2, b3⟩ | ⟨b1, b2⟩
      · rw [b2]; exact b1
      · rw [b2] at c82; exact absurd c82 (by decide)
    have c9 : v < 0 ∨ st.2.2.2.2.2.1 ≤ v := Classical.byContradiction (fun n9 => by
      have := (bnd v).mpr n9
      rw [← f57b] at this
      exact bi_ne.mpr this c)
    have hI := lkI_2 a2' wv (by rw [esN]; exact c9)
    have m3 := md_f z2 89 2
    rw [← e3] at m3
    have m5 := md_f z3 88 (-1)
    rw [← e5] at m5
    have g88 : z5.1 0 88 = -1 := by rw [e5, si_get, if_pos ⟨rfl, rfl⟩]
    have g89 : z5.1 0 89 = 2 := by rw [m5.1 89 (by decide), e3, si_get, if_pos ⟨rfl, rfl⟩]
    refine Dv_i (h z5 _ (md_tr (md_tr (L3 := [82, 88, 89, 90, 91]) (A3 := [84]) hz2.1 m3 rfl rfl) m5 rfl rfl) (ssub_tr hz2.2.1 (ssub_tr (ssub_ad _ _ _) (ssub_ad _ _ _))) (lkS_up (ssub_tr (ssub_ad _ _ _) (ssub_ad _ _ _)) hz2.2.2.1) ⟨fun _ => Or.inl g88, fun q => absurd (s2 q).2.2 a1, fun q => ?_⟩ ?_)
    · rw [g89] at q
      exact absurd q (by decide)
    · rw [lkM_i (w2 n15).1 (by rw [hI]; exact fun z => nomatch z), hI]
      exact ⟨g89, g88, fun z => nomatch z⟩
  · have wv : wkQ (M.2.2 T).2.2.2.2.2.2.2 (fun _ => 0) (Int32.ofNat T) Q = none := by
      rcases hwk with ⟨v9, b1, b2, b3⟩ | ⟨b1, b2⟩
      · rw [b3] at c82; exact absurd (by decide) c82
      · exact b1
    have hI := lkI_1 a2' wv
    have m3 := md_f z2 89 1
    rw [← e3] at m3
    have m5 := md_f z3 88 (-1)
    rw [← e5] at m5
    have g88 : z5.1 0 88 = -1 := by rw [e5, si_get, if_pos ⟨rfl, rfl⟩]
    have g89 : z5.1 0 89 = 1 := by rw [m5.1 89 (by decide), e3, si_get, if_pos ⟨rfl, rfl⟩]
    refine Dv_i (h z5 _ (md_tr (md_tr (L3 := [82, 88, 89, 90, 91]) (A3 := [84]) hz2.1 m3 rfl rfl) m5 rfl rfl) (ssub_tr hz2.2.1 (ssub_tr (ssub_ad _ _ _) (ssub_ad _ _ _))) (lkS_up (ssub_tr (ssub_ad _ _ _) (ssub_ad _ _ _)) hz2.2.2.1) ⟨fun _ => Or.inl g88, fun q => absurd (s2 q).2.2 a1, fun q => ?_⟩ ?_)
    · rw [g89] at q
      exact absurd q (by decide)
    · rw [lkM_i (w2 n15).1 (by rw [hI]; exact fun z => nomatch z), hI]
      exact ⟨g89, g88, fun z => nomatch z⟩
end DLK
end
section
/-! the model: what stays of the machine while one thread goes on -/
section MTL
variable {C : gCo} {M E : gMa} {x y z : gd} {T t s : Nat} {h : gTq} {lv : Nat → Int32}
theorem kn_8 (hN : NC C) (s : Nat) : ∀ k ∈ (stN C s).2.1, k < 8 := fun k hk => by
  unfold stN at hk
  cases e : C.1[s]? with
  | none => rw [e] at hk; exact nomatch hk
  | some st =>
    rw [e] at hk
    obtain ⟨-, pm, p8⟩ := (hN.1 _ st e).2.2.2.2.1
    have hk : k ∈ st.2.1 := hk
    have := pm k hk
    omega
theorem mLt_eq {l : List (Nat × Int32)} (h : mLt x t l) (e80 : y.1 80 = x.1 80) (e81 : y.1 81 = x.1 81) (e82 : y.1 82 = x.1 82) : mLt y t l := by
  unfold mLt
  rw [e80, e81, e82]; exact h
/-- another thread's memory stays -/
theorem mTq_th (hN : NC C) (hz : th3 T x z) (ne : ¬ t = T) (q : mTq x C t h) : mTq z C t h := by
  obtain ⟨a1, a2, a3, a4, a5, a6, a7, a8, a9, b1, b2⟩ := q
  have f := fun c hc => hz.2.1 c t hc ne
  have g : ∀ n, n < 8 → z.1 76 (8 * t + n) = x.1 76 (8 * t + n) := fun n hn => hz.2.2 _ (by omega)
  refine ⟨by rw [f 73 (by omega)]; exact a1, a2, by rw [f 75 (by omega)]; exact a3, by rw [f 74 (by omega)]; exact a4, by rw [f 77 (by omega)]; exact a5, a6, by rw [f 78 (by omega)]; exact a7, by rw [hz.1.2.1 79 (by decide) (by decide)]; exact a8, mLt_eq a9 (hz.1.2.1 80 (by decide) (by decide)) (hz.1.2.1 81 (by decide) (by decide)) (hz.1.2.1 82 (by decide) (by decide)), fun c p hp => ?_, fun k hk c => ?_⟩
  · rw [g _ (kn_8 hN _ _ (slN_mem hp))]; exact b1 c p hp
  · rw [g k hk]; exact b2 k hk c
/-- a thread's memory behind its own steps -/
theorem mTq_own (o : owM z C T (owR C (Int32.ofNat T) s lv)) (z77 : z.1 77 T = 0) (z78 : z.1 78 T = 0) (h3 : h.2.2.2.1 = 0) (h4 : h.2.2.2.2.1 = 0) (h5 : z.1 79 T = h.2.2.2.2.2.1) (h6 : mLt z T h.2.2.2.2.2.2.1) : mTq z C T (thN C T h s lv) := by
  obtain ⟨o1, o2, o3, o4, ⟨o5, o6⟩, -⟩ := o
  refine ⟨o1, ?_, o3, o4, ?_, ?_, ?_, h5, h6, fun c p hp => ?_, o6⟩
  · show (owR C (Int32.ofNat T) s lv).1 ≤ 3
    omega
  · show z.1 77 T = Int32.ofNat h.2.2.2.1
    rw [h3, z77]; rfl
  · show h.2.2.2.1 ≤ 2
    omega
  · show z.1 78 T = h.2.2.2.2.1
    rw [h4, z78]
  · show z.1 76 _ = kvL C _ _ _ p
    unfold kvL
    rw [if_pos ⟨c, hp⟩]
    exact o5 c p hp
/-- cells and locks stay -/
def MMc (y : gd) (M : gMa) : Prop := (∀ c, c < 24 → y.1 70 c = M.1 c) ∧ ∀ l, l < 6 → y.1 71 l = Int32.ofNat (M.2.1 l).1 - 1 ∧ (M.2.1 l).1 ≤ 6 ∧ y.1 72 l = (M.2.1 l).2
theorem MMc_eq (h : MMc x M) (e0 : y.1 70 = x.1 70) (e1 : y.1 71 = x.1 71) (e2 : y.1 72 = x.1 72) : MMc y M := by
  unfold MMc
  rw [e0, e1, e2]; exact h
theorem MMc_th (h : MMc x M) (hz : th3 T x z) : MMc z M := MMc_eq h (hz.1.2.1 70 (by decide) (by decide)) (hz.1.2.1 71 (by decide) (by decide)) (hz.1.2.1 72 (by decide) (by decide))
theorem upf_eq {α : Type} {f : Nat → α} {j : Nat} {v : α} : upf f j v j = v := if_pos rfl
theorem upf_ne {α : Type} {f : Nat → α} {i j : Nat} {v : α} (h : ¬ i = j) : upf f j v i = f i := if_neg h
theorem MK_th3 (h : MK x C) (hz : th3 T x z) : MK z C := MK_md hz.1 rfl rfl h
end MTL
section DTL
variable {d : Nat} {S : gS} {x y : gd} {F : Int32 → gd → gS → Prop} {Fv : gd → gS → Prop} {C : gCo} {E : gMa}
/-- the end of an act: the thread goes on; then one that was started -/
theorem ds_act695 (t c s : Int32) (ht : vp_in t 6) {T K : Nat} (eT : T = t.toNatClampNeg) (cp : CP y) (hK : MK y C) (hN : NC C) (y73 : y.1 73 T = 1) (y74 : (y.1 74 T).toInt = (K : Nat)) (K2 : (K : Int) + 1 < (y.1 0 52).toInt ∧ (y.1 0 52).toInt ≤ 1500) (yq : q0 y T) {lv : Nat → Int32} (hlv : ∀ p, p < (stN C (K + 1)).2.1.length → y.1 76 (8 * T + slN (stN C (K + 1)).2.1 p) = lv p) (mc : MMc y E) (mT : ∀ t' : Nat, t' < 6 → ¬ t' = T → (s = 9 → ¬ t' = c.toNatClampNeg) → mTq y C t' (E.2.2 t')) (e3 : (E.2.2 T).2.2.2.1 = 0) (e4 : (E.2.2 T).2.2.2.2.1 = 0) (e5 : y.1 79 T = (E.2.2 T).2.2.2.2.2.1) (e6 : mLt y T (E.2.2 T).2.2.2.2.2.2.1)
    (hc : s = 9 → vp_in c 6 ∧ ¬ c.toNatClampNeg = T ∧ y.1 73 c.toNatClampNeg = 1 ∧ q0 y c.toNatClampNeg ∧ ∃ (h : gTq) (b : Nat) (lc : Nat → Int32), E.2.2 c.toNatClampNeg = thN C c.toNatClampNeg h b lc ∧ (y.1 74 c.toNatClampNeg).toInt = (b : Nat) ∧ b < C.1.length ∧ (∀ p, p < (stN C b).2.1.length → y.1 76 (8 * c.toNatClampNeg + slN (stN C b).2.1 p) = lc p) ∧ h.2.2.2.1 = 0 ∧ h.2.2.2.2.1 = 0 ∧ y.1 79 c.toNatClampNeg = h.2.2.2.2.2.1 ∧ mLt y c.toNatClampNeg h.2.2.2.2.2.2.1)
    (rt : ∀ t' : Nat, t' < 6 → ¬ t' = T → (s = 9 → ¬ t' = c.toNatClampNeg) → rT y S t') (rlT : rl y S T) (rlc : s = 9 → rl y S c.toNatClampNeg)
    (h : ∀ x' S', RI x' S' → ssub S S' → md hL hA y x' → MM1 x' C (upT E T (thN C T (E.2.2 T) (K + 1) lv)) → Fv x' S') : MD (d + 4) z_doAct 695 [(0, vr 0), (1, vi t), (4, vi s), (5, vi c)] [] S y (Dv Fv) := by
  have k1 : (1 : Int32).toInt = 1 := rfl
  have T6 : T < 6 := by rw [eT]; exact vt ht
  have l52 : (y.1 0 52).toInt = C.1.length := hK.1.1
  refine sd_doAct_695 _ _ _ ⟨ht, ht, fun y3' e3' => ?_⟩
  rw [← eT] at e3'
  have ki : (y.1 74 T + 1).toInt = (K + 1 : Nat) := by
    rw [t_add (by omega) (by omega), k1, y74]; omega
  have kc : (y.1 74 T + 1).toNatClampNeg = K + 1 := by rw [t_cl, ki]; rfl
  have t3 : th3 T y y3' := by rw [e3']; exact th3_si (by decide) _ _
  have a3 : y3'.1 74 T = y.1 74 T + 1 := by rw [e3', si_get, if_pos ⟨rfl, rfl⟩]
  have b73 : y3'.1 73 = y.1 73 := by rw [e3', si_cell (by decide)]
  have b76 : y3'.1 76 = y.1 76 := by rw [e3', si_cell (by decide)]
  have b52 : y3'.1 0 52 = y.1 0 52 := by rw [e3', si_cell (by decide)]
  have bq : q0 y3' T := by rw [e3']; exact q0_si (by decide) yq
  obtain ⟨st1, hst1⟩ : ∃ st1, C.1[K + 1]? = some st1 := ⟨_, List.getElem?_eq_getElem (by omega)⟩
  rw [stN_is hst1] at hlv
  refine ds_own3 t ht (CP_th (th3_th t3) cp) (by rw [← eT, a3, ki]; omega) (fun _ => by rw [← eT, a3, b52, ki]; omega) (by rw [← eT]; exact bq) (MK_th3 hK t3) hN (by rw [← eT, b73]; exact y73) (st0 := st1) (lv0 := lv) (by rw [← eT, a3, kc]; exact hst1) (fun p hp => by rw [← eT, b76]; exact hlv p hp) (fun z S2 tz sz raz w9 z78 ow => ?_)
  rw [← eT] at tz raz w9 z78 ow
  rw [a3, kc] at ow
  have ty : th3 T y z := th3_tr t3 tz
  have rtz : ∀ t' : Nat, t' < 6 → (s = 9 → ¬ t' = c.toNatClampNeg) → rT z S2 t' := by
    intro t' ht' hc'
    by_cases q : t' = T
    · rw [q]; exact ⟨raz, Or.inl w9, rl_th (th3_th ty) sz rlT⟩
    · exact rT_th (th3_th ty) sz q (rt t' ht' q hc')
  have mz : mTq z C T (thN C T (E.2.2 T) (K + 1) lv) := mTq_own ow w9 z78 e3 e4 (by rw [ty.1.2.1 79 (by decide) (by decide)]; exact e5) (mLt_eq e6 (ty.1.2.1 80 (by decide) (by decide)) (ty.1.2.1 81 (by decide) (by decide)) (ty.1.2.1 82 (by decide) (by decide)))
  have mo : ∀ t' : Nat, t' < 6 → ¬ t' = T → (s = 9 → ¬ t' = c.toNatClampNeg) → mTq z C t' (E.2.2 t') := fun t' ht' ne hc' => mTq_th hN ty ne (mT t' ht' ne hc')
  refine ⟨fun n9 => Dv_i (h z S2 ⟨CP_th (th3_th ty) cp, fun t' ht' => rtz t' ht' (fun q => absurd q n9)⟩ sz ty.1 ⟨(MMc_th mc ty).1, (MMc_th mc ty).2, fun t' ht' => ?_⟩), fun e9 => ?_⟩
  · show mTq z C t' (upf E.2.2 T _ t')
    by_cases q : t' = T
    · rw [q, upf_eq]; exact mz
    · rw [upf_ne q]; exact mo t' ht' q (fun z => absurd z n9)
  obtain ⟨c1, c2, c3, c4, hh, b, lc, g1, g2, g3, g4, g5, g6, g7, g8⟩ := hc e9
  obtain ⟨N, eN⟩ : ∃ N, N = c.toNatClampNeg := ⟨_, rfl⟩
  rw [← eN] at c2 c3 c4 g1 g2 g4 g7 g8
  have N6 : N < 6 := by rw [eN]; exact vt c1
  have f := fun q hq => ty.2.1 q N hq c2
  obtain ⟨stb, hstb⟩ : ∃ stb, C.1[b]? = some stb := ⟨_, List.getElem?_eq_getElem g3⟩
  have es := stN_is hstb
  have z74 : z.1 74 N = y.1 74 N := f 74 (by omega)
  have bc : (z.1 74 N).toNatClampNeg = b := by rw [z74, t_cl, g2]; rfl
  refine ds_own3 c c1 (CP_th (th3_th ty) cp) (by rw [← eN, z74, g2]; omega) (fun _ => by rw [← eN, z74, g2, ty.1.1 52 (by decide)]; omega) (by rw [← eN]; unfold q0; rw [f 77 (by omega), f 78 (by omega), f 75 (by omega)]; exact c4) (MK_th3 hK ty) hN (by rw [← eN, f 73 (by omega)]; exact c3) (st0 := stb) (lv0 := lc) (by rw [← eN, bc]; exact hstb) (fun p hp => ?_) (fun u S3 tu su rau wu u78 ou => ?_)
  · have hp' : p < (stN C b).2.1.length := by rw [es]; exact hp
    have k8 := kn_8 hN b _ (slN_mem hp')
    have g4' := g4 p hp'
    rw [es] at k8 g4'
    rw [← eN, ty.2.2 _ (by omega)]
    exact g4'
  rw [← eN] at tu rau wu u78 ou
  rw [bc] at ou
  refine Dv_i (h u S3 ⟨CP_th (th3_th tu) (CP_th (th3_th ty) cp), fun t' ht' => ?_⟩ (ssub_tr sz su) (md_tr ty.1 tu.1 rfl rfl) ⟨(MMc_th (MMc_th mc ty) tu).1, (MMc_th (MMc_th mc ty) tu).2, fun t' ht' => ?_⟩)
  · by_cases q : t' = N
    · rw [q]; exact ⟨rau, Or.inl wu, rl_th (th3_th tu) su (rl_th (th3_th ty) sz (by rw [eN]; exact rlc e9))⟩
    · exact rT_th (th3_th tu) su q (rtz t' ht' (fun _ => by rw [← eN]; exact q))
  · show mTq u C t' (upf E.2.2 T _ t')
    by_cases q : t' = T
    · rw [q, upf_eq]
      exact mTq_th hN tu (fun z => c2 z.symm) mz
    · rw [upf_ne q]
      by_cases q2 : t' = N
      · rw [q2, g1]
        exact mTq_own ou wu u78 g5 g6 (by rw [tu.1.2.1 79 (by decide) (by decide), ty.1.2.1 79 (by decide) (by decide)]; exact g7) (mLt_eq g8 (by rw [tu.1.2.1 80 (by decide) (by decide), ty.1.2.1 80 (by decide) (by decide)]) (by rw [tu.1.2.1 81 (by decide) (by decide), ty.1.2.1 81 (by decide) (by decide)]) (by rw [tu.1.2.1 82 (by decide) (by decide), ty.1.2.1 82 (by decide) (by decide)]))
      · exact mTq_th hN tu q2 (mo t' ht' q (fun _ => by rw [← eN]; exact q2))
end DTL
end
section
/-! the model: what an act answers is kept; the thread goes on -/
section DAC
variable {d : Nat} {S : gS} {x y : gd} {F : Int32 → gd → gS → Prop} {Fv : gd → gS → Prop} {C : gCo} {E : gMa}
/-- the slot that an act sets, and the others -/
theorem aft_slot (hN : NC C) {K p : Nat} {st : gNs} (hst : C.1[K]? = some st) (o4 : st.1 = 0 ∨ (2 ≤ st.1 ∧ st.1 ≤ 4)) (hto : st.2.2.2.1 = some p) : (aftN st).Pairwise (fun a b => b < a) ∧ (∀ s ∈ aftN st, s < 8) ∧ p < (aftN st).length ∧ mNt st = Int32.ofNat (slN (aftN st) p) ∧ ∀ j, j < (aftN st).length → ¬ j = p → j < st.2.1.length ∧ slN (aftN st) j = slN st.2.1 j := by
  have ns := hN.1 _ st hst
  obtain ⟨p', hto', hp⟩ := ns.2.2.2.1 (by omega)
  rw [hto] at hto'
  have ep := Option.some.inj hto'
  rw [← ep] at hp
  obtain ⟨pw, pm, p8⟩ := ns.2.2.2.2.1
  have h61' : mNt st = Int32.ofNat (if p = st.2.1.length then st.2.2.1 else slN st.2.1 p) := by
    unfold mNt
    rw [hto]
    show (if st.1 = 17 ∨ st.1 = 20 then _ else Int32.ofNat (if p = st.2.1.length then st.2.2.1 else slN st.2.1 p)) = _
    rw [if_neg (by omega)]
  rcases hp with hp | ⟨hp, hp8⟩
  · have ea : aftN st = st.2.1 := if_neg (fun z => by rw [hto] at z; have := Option.some.inj z.2; omega)
    rw [ea]
    exact ⟨pw, fun s hs => by have := pm s hs; omega, hp, by rw [h61', if_neg (by omega)], fun j hj _ => ⟨hj, rfl⟩⟩
  · have ea : aftN st = st.2.2.1 :: st.2.1 := if_pos ⟨by omega, by rw [hto, hp]⟩
    rw [ea]
    refine ⟨List.Pairwise.cons pm pw, fun s hs => ?_, by rw [hp]; exact Nat.lt_succ_self _, ?_, fun j hj hne => ?_⟩
    · rcases List.mem_cons.mp hs with e | hs
      · rw [e]; exact hp8
      · have := pm s hs; omega
    · rw [h61', if_pos hp]
      show _ = Int32.ofNat (if p = st.2.1.length then st.2.2.1 else slN st.2.1 p)
      rw [if_pos hp]
    · have hj : j < st.2.1.length + 1 := hj
      refine ⟨by omega, ?_⟩
      show (if j = st.2.1.length then st.2.2.1 else slN st.2.1 j) = _
      rw [if_neg (by omega)]
theorem ds_act667 (t k c s v : Int32) (ht : vp_in t 6) {T K : Nat} (eT : T = t.toNatClampNeg) (eK : k.toInt = (K : Nat)) (cp : CP y) (hK : MK y C) (hN : NC C) (hX : NXc C) {st : gNs} (hst : C.1[K]? = some st) (o16 : st.1 < 16) (K2 : (K : Int) + 1 < (y.1 0 52).toInt ∧ (y.1 0 52).toInt ≤ 1500) (mc : MMc y E) (mT : ∀ t' : Nat, t' < 6 → (s = 9 → ¬ t' = c.toNatClampNeg) → mTq y C t' (E.2.2 t')) (cT : s = 9 → ¬ c.toNatClampNeg = T) (e0 : (E.2.2 T).1 = 1) (e1 : (E.2.2 T).2.1 = 0) (e2 : (E.2.2 T).2.2.1 = K) (e3 : (E.2.2 T).2.2.2.1 = 0) (e4 : (E.2.2 T).2.2.2.2.1 = 0)
    (hc : s = 9 → vp_in c 6 ∧ y.1 73 c.toNatClampNeg = 1 ∧ q0 y c.toNatClampNeg ∧ ∃ (h : gTq) (b : Nat) (lc : Nat → Int32), E.2.2 c.toNatClampNeg = thN C c.toNatClampNeg h b lc ∧ (y.1 74 c.toNatClampNeg).toInt = (b : Nat) ∧ b < C.1.length ∧ (∀ p, p < (stN C b).2.1.length → y.1 76 (8 * c.toNatClampNeg + slN (stN C b).2.1 p) = lc p) ∧ h.2.2.2.1 = 0 ∧ h.2.2.2.2.1 = 0 ∧ y.1 79 c.toNatClampNeg = h.2.2.2.2.2.1 ∧ mLt y c.toNatClampNeg h.2.2.2.2.2.2.1)
    (rt : ∀ t' : Nat, t' < 6 → (s = 9 → ¬ t' = c.toNatClampNeg) → rT y S t') (rlc : s = 9 → rl y S c.toNatClampNeg)
    (h : ∀ x' S', RI x' S' → ssub S S' → md hL hA y x' → MM1 x' C (upT E T (thN C T (E.2.2 T) (K + 1) (toV st (E.2.2 T).2.2.2.2.2.2.2 v))) → Fv x' S') : MD (d + 4) z_doAct 667 [(0, vr 0), (1, vi t), (3, vi k), (4, vi s), (5, vi c), (6, vi v)] [] S y (Dv Fv) := by
  have k8 : (8 : Int32).toInt = 8 := rfl
  have tv := vp_in_iff.mp ht
  have T6 : T < 6 := by rw [eT]; exact vt ht
  have tTi : t.toInt = (T : Nat) := by rw [eT, t_cl]; omega
  have kK : k.toNatClampNeg = K := by rw [t_cl, eK]; rfl
  have kv : vp_in k 1500 := by rw [vp_in_iff]; omega
  have cT' : s = 9 → ¬ T = c.toNatClampNeg := fun z q => cT z q.symm
  obtain ⟨a1, a2, a3, a4, a5, a6, a7, a8, a9, b1, b2⟩ := mT T T6 cT'
  rw [e0] at a1
  rw [e1] at a3
  rw [e2] at a4
  rw [e3] at a5
  rw [e4] at a7
  rw [e0, e2] at b1
  have b1 := b1 (Or.inl rfl)
  rw [stN_is hst] at b1
  have ns := hN.1 _ st hst
  obtain ⟨-, -, -, -, -, -, -, g61, -⟩ := hK.1.2 _ st hst
  obtain ⟨-, -, -, -, nx6, -⟩ := hX _ st hst
  obtain ⟨st1, hst1, hsf⟩ := ns.2.1 (by omega)
  have es1 := stN_is hst1
  have fin : ∀ z : gd, th3 T y z → z.1 73 = y.1 73 → z.1 74 = y.1 74 → z.1 75 = y.1 75 → z.1 77 = y.1 77 → z.1 78 = y.1 78 → (∀ p, p < (aftN st).length → z.1 76 (8 * T + slN (aftN st) p) = toV st (E.2.2 T).2.2.2.2.2.2.2 v p) → MD (d + 4) z_doAct 695 [(0, vr 0), (1, vi t), (4, vi s), (5, vi c)] [] S z (Dv Fv) := by
    intro z tz f73 f74 f75 f77 f78 hl
    have f := fun q (h0 : q ≠ 0) hq => tz.1.2.1 q h0 hq
    have f52 : z.1 0 52 = y.1 0 52 := tz.1.1 52 (by decide)
    have lt : ∀ {n : Nat} {l : List (Nat × Int32)}, mLt y n l → mLt z n l := fun q => mLt_eq q (f 80 (by decide) (by decide)) (f 81 (by decide) (by decide)) (f 82 (by decide) (by decide))
    refine ds_act695 t c s ht eT (CP_th (th3_th tz) cp) (MK_th3 hK tz) hN (by rw [f73]; exact a1) (by rw [f74]; exact a4) (by rw [f52]; exact K2) (by unfold q0; rw [f77, f78, f75]; exact ⟨a5, a7, a3⟩) (fun p hp => ?_) (MMc_th mc tz) (fun t' ht' ne hc' => mTq_th hN tz ne (mT t' ht' hc')) e3 e4 (by rw [f 79 (by decide) (by decide)]; exact a8) (lt a9) (fun e9 => ?_) (fun t' ht' ne hc' => rT_th (th3_th tz) (ssub_rf _) ne (rt t' ht' hc')) (rl_th (th3_th tz) (ssub_rf _) (rt T T6 cT').2.2) (fun e9 => rl_th (th3_th tz) (ssub_rf _) (rlc e9)) (fun x' S' r ss m mm => h x' S' r ss (md_tr tz.1 m rfl rfl) mm)
    · rw [es1] at hp ⊢
      rw [slN_suf hsf hp]
      exact hl p (by have := hsf.length_le; omega)
    · obtain ⟨c1, c3, c4, hh, b, lc, g1, g2, g3, g4, g5, g6, g7, g8⟩ := hc e9
      refine ⟨c1, cT e9, by rw [f73]; exact c3, by unfold q0; rw [f77, f78, f75]; exact c4, hh, b, lc, g1, by rw [f74]; exact g2, g3, fun p hp => ?_, g5, g6, by rw [f 79 (by decide) (by decide)]; exact g7, lt g8⟩
      have q8 := kn_8 hN b _ (slN_mem hp)
      have cne := cT e9
      rw [tz.2.2 _ (by omega)]
      exact g4 p hp
  rw [← kK] at g61
  refine sd_doAct_667 _ _ _ _ _ ⟨kv, ?_⟩
  rw [g61]
  cases hto : st.2.2.2.1 with
  | none =>
    have em : mNt st = -1 := by unfold mNt; rw [hto]
    have ea : aftN st = st.2.1 := if_neg (fun z => by rw [hto] at z; exact nomatch z.2)
    rw [em]
    refine ⟨fun _ => fin y (th3_rf T y) rfl rfl rfl rfl rfl (fun p hp => ?_), fun ne => absurd rfl ne⟩
    rw [ea] at hp ⊢
    unfold toV
    rw [hto]
    exact b1 p hp
  | some p =>
    have o4 : st.1 = 0 ∨ (2 ≤ st.1 ∧ st.1 ≤ 4) := Classical.byContradiction (fun n4 => by
      rw [nx6 (by omega)] at hto
      exact nomatch hto)
    obtain ⟨apw, ap8, app, ap61, apj⟩ := aft_slot hN hst o4 hto
    have sl8 := ap8 _ (slN_mem app)
    have eo : (Int32.ofNat (slN (aftN st) p)).toInt = (slN (aftN st) p : Nat) := Int32.toInt_ofNat_of_lt (by omega)
    have m8 : (8 * t).toInt = 8 * t.toInt := by rw [t_mul (by rw [k8]; omega) (by rw [k8]; omega), k8]
    have ei : (8 * t + Int32.ofNat (slN (aftN st) p)).toInt = 8 * t.toInt + (slN (aftN st) p : Nat) := by rw [t_add (by omega) (by omega), m8, eo]
    have ei' : (8 * t + Int32.ofNat (slN (aftN st) p)).toNatClampNeg = 8 * T + slN (aftN st) p := by rw [t_cl, ei, tTi]; omega
    rw [ap61]
    refine ⟨fun q => ?_, fun ne => ⟨kv, by rw [vp_in_iff, ei]; omega, fun z ez => ?_⟩⟩
    · rw [t_eq, eo, show (-1 : Int32).toInt = -1 from rfl] at q
      omega
    · rw [ei'] at ez
      have tz : th3 T y z := by rw [ez]; exact th3_76 (by omega) _ _
      refine fin z tz (by rw [ez, si_cell (by decide)]) (by rw [ez, si_cell (by decide)]) (by rw [ez, si_cell (by decide)]) (by rw [ez, si_cell (by decide)]) (by rw [ez, si_cell (by decide)]) (fun j hj => ?_)
      unfold toV
      rw [hto, ez, si_get]
      show _ = fup _ p v j
      unfold fup
      by_cases c9 : j = p
      · rw [c9, if_pos ⟨rfl, rfl⟩, if_pos rfl]
      · obtain ⟨j1', j2'⟩ := apj j hj c9
        rw [if_neg (fun z => c9 (slN_inj apw hj app (by have := z.2; omega))), if_neg c9, j2']
        exact b1 j j1'
end DAC
end
section
/-! the machine: small rows; the model's see -/
section PAC
variable {C : gCo} {M : gMa} {w t s c : Nat} {e f : Int32} {wk : Option Nat}
theorem lkI_le : (lkI C M t).1 ≤ 2 := by
  unfold lkI
  split
  · exact Nat.zero_le _
  · split
    · show 1 ≤ 2
      omega
    · split
      · show 2 ≤ 2
        omega
      · exact Nat.zero_le _
theorem rsF_le : rsF C w M t s c ≤ 9 := by
  unfold rsF
  (repeat' split) <;> omega
theorem lkM_le : (lkM C w M t).1 ≤ 9 := by
  unfold lkM
  split
  · exact Nat.zero_le _
  · split
    · show (lkI C M t).1 ≤ 9
      have := lkI_le (C := C) (M := M) (t := t)
      omega
    · split
      · show 1 ≤ 9
        omega
      · split
        · show 1 ≤ 9
          omega
        · exact rsF_le
theorem ef_0 : efM C w M t 0 c e f wk = (M, seM M t c) := by unfold efM; rfl
theorem ef_1 : efM C w M t 1 c e f wk = if w = 0 ∨ suM C c = true then (upC M c e, 0) else (upT M t ((M.2.2 t).1, (M.2.2 t).2.1, (M.2.2 t).2.2.1, (M.2.2 t).2.2.2.1, (M.2.2 t).2.2.2.2.1, (M.2.2 t).2.2.2.2.2.1, (M.2.2 t).2.2.2.2.2.2.1 ++ [(c, e)], (M.2.2 t).2.2.2.2.2.2.2), 0) := by unfold efM; rfl
theorem ef_2 : efM C w M t 2 c e f wk = (upC M c e, M.1 c) := by unfold efM; rfl
theorem ef_3 : efM C w M t 3 c e f wk = (upC M c (M.1 c + e), M.1 c) := by unfold efM; rfl
theorem ef_4 : efM C w M t 4 c e f wk = (upC M c (if M.1 c = e then f else M.1 c), if M.1 c = e then 1 else 0) := by unfold efM; rfl
theorem ef_5 : efM C w M t 5 c e f wk = (upL M c (t + 1, (M.2.1 c).2 + 1), 0) := by unfold efM; rfl
theorem ef_6 : efM C w M t 6 c e f wk = (upL M c (if (M.2.1 c).2 - 1 = 0 then 0 else t + 1, (M.2.1 c).2 - 1), 0) := by unfold efM; rfl
theorem ef_7 : efM C w M t 7 c e f wk = (upT (upL M c (0, 0)) t ((M.2.2 t).1, (M.2.2 t).2.1, (M.2.2 t).2.2.1, 1, (M.2.1 c).2, (M.2.2 t).2.2.2.2.2), 0) := by unfold efM; rfl
theorem ef_13 : efM C w M t 13 c e f wk = (upT M t ((M.2.2 t).1, (M.2.2 t).2.1, (M.2.2 t).2.2.1, (M.2.2 t).2.2.2.1, (M.2.2 t).2.2.2.2.1, (stN C (M.2.2 t).2.2.1).2.2.2.2.1, (M.2.2 t).2.2.2.2.2.2), 0) := by unfold efM; rfl
theorem ef_14 : efM C w M t 14 c e f wk = (upT M t ((M.2.2 t).1, (M.2.2 t).2.1, (M.2.2 t).2.2.1, (M.2.2 t).2.2.2.1, (M.2.2 t).2.2.2.2.1, -1, (M.2.2 t).2.2.2.2.2.2), 0) := by unfold efM; rfl
theorem ef_15 : efM C w M t 15 c e f wk = (upT (upL M c (t + 1, (M.2.2 t).2.2.2.2.1)) t ((M.2.2 t).1, (M.2.2 t).2.1, (M.2.2 t).2.2.1, 0, 0, (M.2.2 t).2.2.2.2.2), 0) := by unfold efM; rfl
theorem ef_o (h : s = 10 ∨ s = 11 ∨ s = 12) : efM C w M t s c e f wk = (M, 0) := by
  rcases h with h | h | h <;> rw [h] <;> unfold efM <;> rfl
theorem acM_F (h : ¬ (lkM C w M t).1 = 0) : acM C w M t wk = upT M t (thF (M.2.2 t) (lkM C w M t).1) := by
  unfold acM
  rw [if_pos h]
theorem acM_7 (h : (lkM C w M t).1 = 0) (h7 : soM C (M.2.2 t) = 7) : acM C w M t wk = (efM C w M t 7 (lkM C w M t).2.1.toNatClampNeg 0 0 wk).1 := by
  unfold acM
  rw [if_neg (fun z => z h), if_pos h7]
theorem acM_is {E : gMa} {v : Int32} (h : (lkM C w M t).1 = 0) (h7 : ¬ soM C (M.2.2 t) = 7) (e9 : efM C w M t (soM C (M.2.2 t)) (lkM C w M t).2.1.toNatClampNeg (lkM C w M t).2.2.1 (lkM C w M t).2.2.2 wk = (E, v)) : acM C w M t wk = upT E t (thN C t (E.2.2 t) ((M.2.2 t).2.2.1 + 1) (toV (stN C (M.2.2 t).2.2.1) (M.2.2 t).2.2.2.2.2.2.2 v)) := by
  unfold acM
  rw [if_neg (fun z => z h), if_neg h7, e9]
end PAC
section DSE
variable {d : Nat} {S : gS} {x y : gd} {F : Int32 → gd → gS → Prop} {Fv : gd → gS → Prop} {C : gCo} {M : gMa}
theorem ds_see3 (t c : Int32) (ht : vp_in t 6) (hc : vp_in c 24) (q : rl x S t.toNatClampNeg) {l : List (Nat × Int32)} (hl : mLt x t.toNatClampNeg l) (h : F (seL l c.toNatClampNeg (x.1 70 c.toNatClampNeg)) x S) : MD d z_see 0 [(0, vr 0), (1, vi t), (2, vi c)] [] S x (Di F) := by
  have k1 : (1 : Int32).toInt = 1 := rfl
  obtain ⟨l1, l2⟩ := hl
  have q8 := q.2.1
  have cb := vp_in_iff.mp hc
  have cc := cl_i cb.1
  obtain ⟨R, eR⟩ : ∃ R, R = seL l c.toNatClampNeg (x.1 70 c.toNatClampNeg) := ⟨_, rfl⟩
  rw [← eR] at h
  have loop : ∀ (n : Nat) (v i : Int32), 0 ≤ i.toInt → (x.1 80 t.toNatClampNeg).toInt - i.toInt ≤ n → seL (l.drop i.toInt.toNat) c.toNatClampNeg v = R → MD d z_see 10 [(0, vr 0), (1, vi t), (2, vi c), (3, vi v), (4, vi i)] [] S x (Di F) := by
    have fin : ∀ (v i : Int32), (x.1 80 t.toNatClampNeg).toInt ≤ i.toInt → seL (l.drop i.toInt.toNat) c.toNatClampNeg v = R → Di F (some (vi v)) x S := fun v i hi hs => by
      rw [List.drop_eq_nil_of_le (by omega)] at hs
      have hs : v = R := hs
      rw [hs]
      exact Di_i h
    intro n
    induction n with
    | zero =>
      intro v i i0 hi hs
      exact sd_see_10 _ _ _ _ ⟨ht, fun _ => fin v i (by omega) hs, fun c => absurd (t_le.mpr (by omega)) c⟩
    | succ n ih =>
      intro v i i0 hi hs
      refine sd_see_10 _ _ _ _ ⟨ht, fun c9 => fin v i (by rw [t_le] at c9; exact c9) hs, fun c9 => ?_⟩
      rw [t_le] at c9
      obtain ⟨a1, a2, a3, a4⟩ := rl_at ht q (i := i) i0 (by omega)
      have i1 : (i + 1).toInt = i.toInt + 1 := by rw [t_add (by omega) (by omega), k1]
      have hi' : i.toInt.toNat < l.length := by omega
      obtain ⟨b1, b2, b3⟩ := l2 i.toInt.toNat _ (List.getElem?_eq_getElem hi')
      rw [List.drop_eq_getElem_cons hi', seL] at hs
      have ea : (10 * t + i).toNatClampNeg = 10 * t.toNatClampNeg + i.toInt.toNat := by rw [(t10 ht i0 (by omega)).2, t_cl i]
      have en : (i + 1).toInt.toNat = i.toInt.toNat + 1 := by omega
      have ec : Int32.ofNat l[i.toInt.toNat].1 = c ↔ l[i.toInt.toNat].1 = c.toNatClampNeg := by
        have e9 : (Int32.ofNat l[i.toInt.toNat].1).toInt = (l[i.toInt.toNat].1 : Nat) := Int32.toInt_ofNat_of_lt (by omega)
        rw [t_eq, e9]
        omega
      refine ⟨a1, a2, fun c9 => ih _ _ (by omega) (by omega) ?_, fun c9 => ⟨a1, a3, ih _ _ (by omega) (by omega) ?_⟩⟩
      · rw [ea, b1] at c9
        rw [if_neg (fun z => c9 (ec.mpr z))] at hs
        rw [en]; exact hs
      · rw [ea, b1] at c9
        rw [if_pos (ec.mp c9)] at hs
        rw [en, ea, b2]; exact hs
  exact sd_see_0 _ _ ⟨hc, loop _ _ 0 (by decide) (Int.self_le_toNat _) eR.symm⟩
theorem MM1_md {L A : List Nat} (m : md L A x y) (hA : [70, 71, 72, 73, 74, 75, 76, 77, 78, 79, 80, 81, 82].all (fun k => !A.elem k) = true) (h : MM1 x C M) : MM1 y C M := by
  have f : ∀ k ∈ [70, 71, 72, 73, 74, 75, 76, 77, 78, 79, 80, 81, 82], y.1 k = x.1 k := fun k hk => m.2.1 k (fun e => by rw [e] at hk; exact absurd hk (by decide)) (all_no hA k hk)
  unfold MM1 mTq mLt mLv at h ⊢
  rw [f 70 (by decide), f 71 (by decide), f 72 (by decide), f 73 (by decide), f 74 (by decide), f 75 (by decide), f 76 (by decide), f 77 (by decide), f 78 (by decide), f 79 (by decide), f 80 (by decide), f 81 (by decide), f 82 (by decide)]
  exact h
end DSE
end
section
/-! the model: an act done is what the machine does -/
/-- what holds of every state of the machine -/
def WM (M : gMa) : Prop := ∀ t, t < 6 → (¬ (M.2.2 t).1 = 3 → (M.2.2 t).2.1 = 0) ∧ ((M.2.2 t).2.2.2.1 = 0 → (M.2.2 t).2.2.2.2.1 = 0) ∧ (¬ (M.2.2 t).1 = 1 → (M.2.2 t).2.2.2.1 = 0)
section DAD
variable {d : Nat} {S : gS} {x y z : gd} {F : Int32 → gd → gS → Prop} {Fv : gd → gS → Prop} {C : gCo} {M : gMa}
theorem mTq_md {L A : List Nat} {t : Nat} {h : gTq} (m : md L A x y) (hA : [73, 74, 75, 76, 77, 78, 79, 80, 81, 82].all (fun k => !A.elem k) = true) (q : mTq x C t h) : mTq y C t h := by
  have f : ∀ k ∈ [73, 74, 75, 76, 77, 78, 79, 80, 81, 82], y.1 k = x.1 k := fun k hk => m.2.1 k (fun e => by rw [e] at hk; exact absurd hk (by decide)) (all_no hA k hk)
  unfold mTq mLt mLv at q ⊢
  rw [f 73 (by decide), f 74 (by decide), f 75 (by decide), f 76 (by decide), f 77 (by decide), f 78 (by decide), f 79 (by decide), f 80 (by decide), f 81 (by decide), f 82 (by decide)]
  exact q
theorem MMc_C {c : Nat} {v : Int32} (h : MMc x M) (e0 : ∀ j, z.1 70 j = if j = c then v else x.1 70 j) (e1 : z.1 71 = x.1 71) (e2 : z.1 72 = x.1 72) : MMc z (upC M c v) := by
  refine ⟨fun j hj => ?_, fun l hl => ?_⟩
  · rw [e0 j]
    show _ = upf M.1 c v j
    unfold upf
    by_cases q : j = c
    · rw [if_pos q, if_pos q]
    · rw [if_neg q, if_neg q]; exact h.1 j hj
  · rw [e1, e2]; exact h.2 l hl
theorem MMc_L {c n : Nat} {a b : Int32} (h : MMc x M) (e0 : z.1 70 = x.1 70) (e1 : ∀ j, z.1 71 j = if j = c then a else x.1 71 j) (e2 : ∀ j, z.1 72 j = if j = c then b else x.1 72 j) (ha : a = Int32.ofNat n - 1) (hn : n ≤ 6) : MMc z (upL M c (n, b)) := by
  refine ⟨fun j hj => by rw [e0]; exact h.1 j hj, fun l hl => ?_⟩
  rw [e1 l, e2 l]
  show _ = Int32.ofNat (upf M.2.1 c (n, b) l).1 - 1 ∧ (upf M.2.1 c (n, b) l).1 ≤ 6 ∧ _ = (upf M.2.1 c (n, b) l).2
  unfold upf
  by_cases q : l = c
  · rw [if_pos q, if_pos q, if_pos q]; exact ⟨ha, hn, rfl⟩
  · rw [if_neg q, if_neg q, if_neg q]; exact h.2 l hl
theorem si_at {c n c' : Nat} {v : Int32} (h : c' = c) (j : Nat) : (si x c n v).1 c' j = if j = n then v else x.1 c' j := by
  rw [si_get]
  by_cases q : j = n
  · rw [if_pos ⟨h, q⟩, if_pos q]
  · rw [if_neg (fun z => q z.2), if_neg q]
/-- an act that fails -/
theorem ds_actF (t n : Int32) (ht : vp_in t 6) {T k : Nat} (eT : T = t.toNatClampNeg) (ri : RI y S) (hK : MK y C) (hN : NC C) (hM : MM1 y C M) (hW : WM M) (h1 : y.1 73 T = 1) (w0 : (M.2.2 T).2.2.2.1 = 0) (en : n = Int32.ofNat k) (h : ∀ x' S', RI x' S' → ssub S S' → md hL hA y x' → MM1 x' C (upT M T (thF (M.2.2 T) k)) → Fv x' S') : MD (d + 1) z_failThread 0 [(0, vr 0), (1, vi t), (2, vi n)] [] S y (Dv (fun z S1 => MD (d + 1) z_clean 0 [(0, vr 0), (1, vi t)] [] S1 z (Dv Fv))) := by
  have T6 : T < 6 := by rw [eT]; exact vt ht
  obtain ⟨a1, a2, a3, a4, a5, a6, a7, a8, a9, b1, b2⟩ := hM.2.2 T T6
  have kk := (ri.2 T T6).1
  have l52 : (y.1 0 52).toInt = C.1.length := hK.1.1
  have sta1 : (M.2.2 T).1 = 1 := by
    have : Int32.ofNat (M.2.2 T).1 = 1 := by rw [← a1]; exact h1
    rcases (show (M.2.2 T).1 = 0 ∨ (M.2.2 T).1 = 1 ∨ (M.2.2 T).1 = 2 ∨ (M.2.2 T).1 = 3 by omega) with e | e | e | e <;> rw [e] at this ⊢ <;> first | rfl | exact absurd this (by decide)
  obtain ⟨st, hst⟩ : ∃ st, C.1[(M.2.2 T).2.2.1]? = some st := ⟨_, List.getElem?_eq_getElem (by have := (kk.2.2 h1).1; omega)⟩
  have es := stN_is hst
  obtain ⟨-, -, -, -, -, -, -, -, g62⟩ := hK.1.2 _ st hst
  have cK : (y.1 74 T).toNatClampNeg = (M.2.2 T).2.2.1 := by rw [t_cl, a4]; rfl
  refine ds_fail3 t n ht (fun z tz e3 e4 e7 e5 e8 e6 => ?_)
  rw [← eT] at tz e3 e4 e7 e5 e8
  have z62 : z.1 62 = y.1 62 := tz.1.2.1 62 (by decide) (by decide)
  refine ds_clean3 t ht (by rw [← eT, e4]; exact ⟨kk.1, kk.2.1⟩) (sl := st.2.1) (fun k hk => kn_8 hN (M.2.2 T).2.2.1 k (by rw [es]; exact hk)) (fun _ => by rw [← eT, e4, cK, z62]; exact g62) (fun u tu f73 f75 f77 f78 f74 _ f76 => h u S ⟨CP_th (th3_th tu) (CP_th (th3_th tz) ri.1), fun t' ht' => ?_⟩ (ssub_rf _) (md_tr tz.1 tu.1 rfl rfl) ⟨(MMc_th (MMc_th (M := M) ⟨hM.1, hM.2.1⟩ tz) tu).1, (MMc_th (MMc_th (M := M) ⟨hM.1, hM.2.1⟩ tz) tu).2, fun t' ht' => ?_⟩)
  · rw [← eT] at tu f74
    have g74 := f74 (by rw [e3]; decide)
    by_cases q : t' = T
    · rw [q]
      refine ⟨⟨by rw [g74, e4]; exact kk.1, by rw [g74, e4]; exact kk.2.1, fun z9 => by rw [f73, e3] at z9; exact absurd z9 (by decide)⟩, Or.inl (by rw [f77]; exact e7), rl_th (th3_th tu) (ssub_rf _) (rl_th (th3_th tz) (ssub_rf _) (ri.2 T T6).2.2)⟩
    · exact rT_th (th3_th tu) (ssub_rf _) q (rT_th (th3_th tz) (ssub_rf _) q (ri.2 t' ht'))
  · rw [← eT] at tu f74 f76
    have g74 := f74 (by rw [e3]; decide)
    show mTq u C t' (upf M.2.2 T _ t')
    by_cases q : t' = T
    · rw [q, upf_eq]
      have f := fun q (h0 : q ≠ 0) hq => (tu.1.2.1 q h0 hq).trans (tz.1.2.1 q h0 hq)
      refine ⟨by rw [f73, e3]; rfl, Nat.le_refl _, by rw [f75, e5, en]; rfl, by rw [g74, e4]; exact a4, ?_, a6, ?_, by rw [f 79 (by decide) (by decide)]; exact a8, mLt_eq a9 (f 80 (by decide) (by decide)) (f 81 (by decide) (by decide)) (f 82 (by decide) (by decide)), fun _ p hp => ?_, fun k' hk' c9 => ?_⟩
      · show u.1 77 T = Int32.ofNat (M.2.2 T).2.2.2.1
        rw [f77, e7, w0]; rfl
      · show u.1 78 T = (M.2.2 T).2.2.2.2.1
        rw [f78, e8, (hW T T6).2.1 w0]
      · have hp : p < (stN C (M.2.2 T).2.2.1).2.1.length := hp
        show u.1 76 (8 * T + slN (stN C (M.2.2 T).2.2.1).2.1 p) = (M.2.2 T).2.2.2.2.2.2.2 p
        have hm := slN_mem hp
        rw [f76 _ (kn_8 hN _ _ hm), if_pos ⟨Or.inr e3, by rw [← es]; exact hm⟩, e6]
        exact b1 (Or.inl sta1) p hp
      · have c9 : ¬ ((3 = 1 ∨ 3 = 3) ∧ k' ∈ (stN C (M.2.2 T).2.2.1).2.1) := c9
        rw [f76 k' hk', if_neg (fun z9 => c9 ⟨Or.inr rfl, by rw [es]; exact z9.2⟩)]
    · rw [upf_ne q]
      exact mTq_th hN tu q (mTq_th hN tz q (hM.2.2 t' ht'))
end DAD
end
section
/-! the model: a late write comes -/
section DLT
variable {d : Nat} {S : gS} {x : gd} {F : Int32 → gd → gS → Prop} {Fv : gd → gS → Prop} {C : gCo} {M : gMa}
theorem ds_doLate3 (t i : Int32) (ht : vp_in t 6) (ri : RI x S) (h0 : 0 ≤ i.toInt) (h1 : i.toInt < (x.1 80 t.toNatClampNeg).toInt) (hM : MM1 x C M) (h : ∀ x' S', RI x' S' → ssub S S' → md [] [70, 80, 81, 82] x x' → MM1 x' C (laM M t.toNatClampNeg i.toInt.toNat) → Fv x' S') : MD d z_doLate 0 [(0, vr 0), (1, vi t), (2, vi i)] [] S x (Dv Fv) := by
  have k1 : (1 : Int32).toInt = 1 := rfl
  obtain ⟨T, eT⟩ : ∃ T, T = t.toNatClampNeg := ⟨_, rfl⟩
  have T6 : T < 6 := by rw [eT]; exact vt ht
  have mT := hM.2.2 T T6
  obtain ⟨lL, lA⟩ := mT.2.2.2.2.2.2.2.2.1
  obtain ⟨l, el⟩ : ∃ l, l = (M.2.2 T).2.2.2.2.2.2.1 := ⟨_, rfl⟩
  rw [← el] at lL lA
  obtain ⟨I, eI⟩ : ∃ I, I = i.toInt.toNat := ⟨_, rfl⟩
  obtain ⟨L, eL⟩ : ∃ L, L = x.1 80 t.toNatClampNeg := ⟨_, rfl⟩
  have rx := (ri.2 _ (vt ht)).2.2
  have L8 := rx.2.1
  rw [← eL] at h1 L8
  have l1 : (L - 1).toInt = L.toInt - 1 := by rw [t_sub (by omega) (by omega), k1]
  -- every place of the thread below L is in order
  let Z : gd → gS → Prop := fun z S2 => md [] [70, 80, 81, 82] x z ∧ ssub S S2 ∧ z.1 80 t.toNatClampNeg = L - 1 ∧ (∀ t' : Nat, ¬ t' = t.toNatClampNeg → z.1 80 t' = x.1 80 t') ∧ ∀ t' : Nat, t' < 6 → ∀ k : Nat, (k : Int) < (x.1 80 t').toInt → S2 81 (10 * t' + k) ∧ S2 82 (10 * t' + k) ∧ 0 ≤ (z.1 81 (10 * t' + k)).toInt ∧ (z.1 81 (10 * t' + k)).toInt < 24
  have lL' : L.toInt = (l.length : Nat) := by rw [eL, ← eT]; exact lL
  have hIl : I < l.length := by omega
  have hq : l[I]? = some l[I] := List.getElem?_eq_getElem hIl
  have hla : laM M T I = upT (upC M l[I].1 l[I].2) T ((M.2.2 T).1, (M.2.2 T).2.1, (M.2.2 T).2.2.1, (M.2.2 T).2.2.2.1, (M.2.2 T).2.2.2.2.1, (M.2.2 T).2.2.2.2.2.1, l.eraseIdx I, (M.2.2 T).2.2.2.2.2.2.2) := by
    unfold laM
    rw [← el, hq]
  -- the thread's row, moved up to j; the others' as they were; the cell
  let G : gd → Int32 → Prop := fun z j => (∀ p : Nat, p < 10 → z.1 81 (10 * T + p) = (if I ≤ p ∧ (p : Int) < j.toInt then x.1 81 (10 * T + (p + 1)) else x.1 81 (10 * T + p)) ∧ z.1 82 (10 * T + p) = (if I ≤ p ∧ (p : Int) < j.toInt then x.1 82 (10 * T + (p + 1)) else x.1 82 (10 * T + p))) ∧ (∀ n : Nat, ¬ (10 * T ≤ n ∧ n < 10 * T + 10) → z.1 81 n = x.1 81 n ∧ z.1 82 n = x.1 82 n) ∧ ∀ n : Nat, z.1 70 n = if n = l[I].1 then l[I].2 else x.1 70 n
  have fin : ∀ (z : gd) (S2 : gS) (j : Int32), Z z S2 → G z j → L.toInt - 1 ≤ j.toInt → Dv Fv none z S2 := by
    intro z S2 j hz hg hj
    obtain ⟨z1, z2, z3, z4, z5⟩ := hz
    refine Dv_i (h z S2 ⟨CP_md z1 rfl rfl ri.1, fun t' ht' => ?_⟩ z2 z1 ?_)
    rotate_left
    · rw [← eT, ← eI, hla]
      obtain ⟨g1, g2, g3⟩ := hg
      have f := fun q (h0 : q ≠ 0) hq => z1.2.1 q h0 hq
      have same : ∀ (t' : Nat) (hh : gTq), mLt z t' hh.2.2.2.2.2.2.1 → mTq x C t' (hh.1, hh.2.1, hh.2.2.1, hh.2.2.2.1, hh.2.2.2.2.1, hh.2.2.2.2.2.1, (M.2.2 t').2.2.2.2.2.2.1, hh.2.2.2.2.2.2.2) → mTq z C t' hh := fun t' hh hm q => by
        obtain ⟨a1, a2, a3, a4, a5, a6, a7, a8, -, b1⟩ := q
        refine ⟨by rw [f 73 (by decide) (by decide)]; exact a1, a2, by rw [f 75 (by decide) (by decide)]; exact a3, by rw [f 74 (by decide) (by decide)]; exact a4, by rw [f 77 (by decide) (by decide)]; exact a5, a6, by rw [f 78 (by decide) (by decide)]; exact a7, by rw [f 79 (by decide) (by decide)]; exact a8, hm, ?_⟩
        unfold mLv at b1 ⊢
        rw [f 76 (by decide) (by decide)]; exact b1
      refine ⟨(MMc_C (M := M) (z := z) ⟨hM.1, hM.2.1⟩ g3 (f 71 (by decide) (by decide)) (f 72 (by decide) (by decide))).1, (MMc_C (M := M) (z := z) ⟨hM.1, hM.2.1⟩ g3 (f 71 (by decide) (by decide)) (f 72 (by decide) (by decide))).2, fun t' ht' => ?_⟩
      show mTq z C t' (upf M.2.2 T _ t')
      by_cases c : t' = T
      · rw [c, upf_eq]
        refine same T _ ⟨?_, fun p q hpq => ?_⟩ (hM.2.2 T T6)
        · rw [← eT] at z3
          show (z.1 80 T).toInt = ((l.eraseIdx I).length : Nat)
          rw [z3, l1, List.length_eraseIdx_of_lt hIl]
          omega
        · have hpq : (l.eraseIdx I)[p]? = some q := hpq
          rw [List.getElem?_eraseIdx] at hpq
          by_cases c9 : p < I
          · rw [if_pos c9] at hpq
            have := gt_lt hpq
            obtain ⟨b1, b2⟩ := g1 p (by omega)
            rw [if_neg (fun z => by omega)] at b1 b2
            rw [b1, b2]
            exact lA p q hpq
          · rw [if_neg c9] at hpq
            have := gt_lt hpq
            obtain ⟨b1, b2⟩ := g1 p (by omega)
            rw [if_pos ⟨by omega, by omega⟩] at b1 b2
            rw [b1, b2]
            exact lA (p + 1) q hpq
      · rw [upf_ne c]
        refine same t' _ ⟨?_, fun p q hpq => ?_⟩ (hM.2.2 t' ht')
        · rw [z4 t' (by rw [← eT]; exact c)]
          exact (hM.2.2 t' ht').2.2.2.2.2.2.2.2.1.1
        · have b := (hM.2.2 t' ht').2.2.2.2.2.2.2.2.1
          have := gt_lt hpq
          have r8 := (ri.2 t' ht').2.2.2.1
          have b1 := b.1
          obtain ⟨c1, c2⟩ := g2 (10 * t' + p) (by omega)
          rw [c1, c2]
          exact b.2 p q hpq
    obtain ⟨q1, q2, q3⟩ := ri.2 t' ht'
    have g := fun k (h0 : k ≠ 0) hk => z1.2.1 k h0 hk
    refine ⟨?_, ?_, ?_⟩
    · unfold ra
      rw [g 73 (by decide) (by decide), g 74 (by decide) (by decide), g 54 (by decide) (by decide), z1.1 52 (by decide)]
      exact q1
    · unfold rw'
      rw [g 73 (by decide) (by decide), g 74 (by decide) (by decide), g 55 (by decide) (by decide), g 77 (by decide) (by decide)]
      exact q2
    · by_cases c : t' = t.toNatClampNeg
      · rw [c]
        refine ⟨by rw [z3]; omega, by rw [z3]; omega, fun k hk => z5 _ (vt ht) k ?_⟩
        rw [z3] at hk
        rw [← eL]; omega
      · unfold rl
        rw [z4 t' c]
        exact ⟨q3.1, q3.2.1, fun k hk => z5 t' ht' k hk⟩
  have loop : ∀ (n : Nat) (z : gd) (S2 : gS) (j : Int32), Z z S2 → G z j → I ≤ j.toInt.toNat → 0 ≤ j.toInt → L.toInt - 1 - j.toInt ≤ n → MD d z_doLate 39 [(0, vr 0), (1, vi t), (3, vi j)] [] S2 z (Dv Fv) := by
    intro n
    induction n with
    | zero =>
      intro z S2 j hz hg hIj j0 hj
      refine sd_doLate_39 _ _ ⟨ht, ?_⟩
      rw [hz.2.2.1]
      exact ⟨fun _ => fin z S2 j hz hg (by omega), fun c => absurd (t_le.mpr (by omega)) c⟩
    | succ n ih =>
      intro z S2 j hz hg hIj j0 hj
      refine sd_doLate_39 _ _ ⟨ht, ?_⟩
      rw [hz.2.2.1]
      refine ⟨fun c => fin z S2 j hz hg (by rw [t_le] at c; omega), fun c => ?_⟩
      rw [t_le] at c
      have j1 : (j + 1).toInt = j.toInt + 1 := by rw [t_add (by omega) (by omega), k1]
      have cj := cl_i j0
      have cj1 := cl_i (a := j + 1) (by omega)
      obtain ⟨v, e⟩ := t10 ht (i := j) j0 (by omega)
      obtain ⟨v', e'⟩ := t10 ht (i := j + 1) (by omega) (by omega)
      have ea : 10 * t + j + 1 = 10 * t + (j + 1) := by
        have a1 := vp_in_iff.mp v
        have a2 := vp_in_iff.mp v'
        have b1 := cl_i (a := 10 * t + j) (by omega)
        have b2 := cl_i (a := 10 * t + (j + 1)) (by omega)
        have b3 : (10 * t + j + 1).toInt = (10 * t + j).toInt + 1 := by rw [t_add (by omega) (by omega), k1]
        exact t_eq.mpr (by omega)
      obtain ⟨z1, z2, z3, z4, z5⟩ := id hz
      obtain ⟨s1, s2, s3⟩ := z5 _ (vt ht) (j + 1).toNatClampNeg (by rw [← eL]; omega)
      rw [ea, e', e]
      refine ⟨v', s1, v, fun z6 e6 => ⟨v', Or.inr s2, v, fun z8 e8 => ?_⟩⟩
      have m6 := md_a z 81 (10 * t.toNatClampNeg + j.toNatClampNeg) (z.1 81 (10 * t.toNatClampNeg + (j + 1).toNatClampNeg)) (by decide)
      rw [← e6] at m6
      have m8 := md_a z6 82 (10 * t.toNatClampNeg + j.toNatClampNeg) (z6.1 82 (10 * t.toNatClampNeg + (j + 1).toNatClampNeg)) (by decide)
      rw [← e8] at m8
      have mm : md [] [81, 82] z z8 := md_tr m6 m8 rfl rfl
      have e80 : z8.1 80 = z.1 80 := mm.2.1 80 (by decide) (by decide)
      refine ih z8 _ (j + 1) ⟨md_tr z1 mm rfl rfl, ssub_tr z2 (ssub_tr (ssub_ad _ _ _) (ssub_ad _ _ _)), by rw [e80]; exact z3, fun t' h' => by rw [e80]; exact z4 t' h', fun t' ht' k hk => ?_⟩ ?_ (by omega) (by omega) (by omega)
      rotate_left
      · obtain ⟨g1, g2, g3⟩ := hg
        have ej : j.toNatClampNeg = j.toInt.toNat := t_cl j
        have ej1 : (j + 1).toNatClampNeg = j.toInt.toNat + 1 := by rw [t_cl (j + 1)]; omega
        rw [← eT, ej, ej1] at e6 e8
        refine ⟨fun p hp => ?_, fun n hn => ?_, fun n => ?_⟩
        · obtain ⟨b1, b2⟩ := g1 p hp
          obtain ⟨d1, d2⟩ := g1 (j.toInt.toNat + 1) (by omega)
          rw [if_neg (fun z => by omega)] at d1 d2
          have w81 : z8.1 81 (10 * T + p) = if p = j.toInt.toNat then z.1 81 (10 * T + (j.toInt.toNat + 1)) else z.1 81 (10 * T + p) := by
            rw [e8, si_cell (by decide), e6, si_get]
            by_cases c9 : p = j.toInt.toNat
            · rw [if_pos ⟨rfl, by omega⟩, if_pos c9]
            · rw [if_neg (fun z => c9 (by have := z.2; omega)), if_neg c9]
          have w82 : z8.1 82 (10 * T + p) = if p = j.toInt.toNat then z.1 82 (10 * T + (j.toInt.toNat + 1)) else z.1 82 (10 * T + p) := by
            rw [e8, si_get]
            by_cases c9 : p = j.toInt.toNat
            · rw [if_pos ⟨rfl, by omega⟩, if_pos c9, e6, si_cell (by decide)]
            · rw [if_neg (fun z => c9 (by have := z.2; omega)), if_neg c9, e6, si_cell (by decide)]
          rw [w81, w82]
          by_cases c9 : p = j.toInt.toNat
          · rw [if_pos c9, if_pos c9, if_pos ⟨by omega, by omega⟩, if_pos ⟨by omega, by omega⟩, d1, d2, c9]
            exact ⟨rfl, rfl⟩
          · rw [if_neg c9, if_neg c9, b1, b2]
            by_cases c8 : I ≤ p ∧ (p : Int) < j.toInt
            · rw [if_pos c8, if_pos c8, if_pos ⟨c8.1, by omega⟩, if_pos ⟨c8.1, by omega⟩]
              exact ⟨rfl, rfl⟩
            · rw [if_neg c8, if_neg c8, if_neg (fun z => c8 ⟨z.1, by have := z.2; omega⟩), if_neg (fun z => c8 ⟨z.1, by have := z.2; omega⟩)]
              exact ⟨rfl, rfl⟩
        · obtain ⟨b1, b2⟩ := g2 n hn
          rw [e8, si_cell (by decide), si_get, if_neg (fun z => hn (by have := z.2; omega)), e6, si_get, if_neg (fun z => hn (by have := z.2; omega)), si_cell (by decide)]
          exact ⟨b1, b2⟩
        · rw [mm.2.1 70 (by decide) (by decide)]; exact g3 n
      obtain ⟨a, b, c9⟩ := z5 t' ht' k hk
      refine ⟨Or.inr (Or.inr a), Or.inr (Or.inr b), ?_⟩
      rw [e8, si_cell (by decide), e6, si_get]
      by_cases w : (81 : Nat) = 81 ∧ 10 * t' + k = 10 * t.toNatClampNeg + j.toNatClampNeg
      · rw [if_pos w]; exact s3
      · rw [if_neg w]; exact c9
  obtain ⟨a1, a2, a3, a4⟩ := rl_at ht rx (i := i) h0 (by rw [← eL]; exact h1)
  refine sd_doLate_0 _ _ ⟨a1, a2, a1, a3, a4, fun z6 e6 => ⟨ht, ht, fun z9 e9 => ?_⟩⟩
  have m6 := md_a x 70 (x.1 81 (10 * t + i).toNatClampNeg).toNatClampNeg (x.1 82 (10 * t + i).toNatClampNeg) (by decide)
  rw [← e6] at m6
  have f80 : z6.1 80 = x.1 80 := m6.2.1 80 (by decide) (by decide)
  rw [f80, ← eL] at e9
  have m9 := md_a z6 80 t.toNatClampNeg (L - 1) (by decide)
  rw [← e9] at m9
  have mm : md [] [70, 80] x z9 := md_tr m6 m9 rfl rfl
  refine loop (L.toInt - 1 - i.toInt).toNat z9 S i ⟨md_w mm (by decide) (by decide), ssub_rf S, by rw [e9, si_get, if_pos ⟨rfl, rfl⟩], fun t' h' => by rw [e9, si_ne 80 t' h', f80], fun t' ht' k hk => ?_⟩ ?_ (by omega) h0 (Int.self_le_toNat _)
  rotate_left
  · have e81 : z9.1 81 = x.1 81 := mm.2.1 81 (by decide) (by decide)
    have e82 : z9.1 82 = x.1 82 := mm.2.1 82 (by decide) (by decide)
    refine ⟨fun p hp => ?_, fun n hn => by rw [e81, e82]; exact ⟨rfl, rfl⟩, fun n => ?_⟩
    · rw [e81, e82, if_neg (fun z => by omega), if_neg (fun z => by omega)]
      exact ⟨rfl, rfl⟩
    · obtain ⟨b1, b2, b3⟩ := lA I _ hq
      have ea : (10 * t + i).toNatClampNeg = 10 * T + I := by rw [(t10 ht h0 (by omega)).2, t_cl i, ← eT, ← eI]
      have en : (Int32.ofNat l[I].1).toNatClampNeg = l[I].1 := by
        have e9 : (Int32.ofNat l[I].1).toInt = (l[I].1 : Nat) := Int32.toInt_ofNat_of_lt (by omega)
        rw [t_cl, e9]; rfl
      rw [ea, b1, b2, en] at e6
      rw [e9, si_cell (by decide), e6, si_at rfl]
  rw [mm.2.1 81 (by decide) (by decide)]
  exact (ri.2 t' ht').2.2.2.2 k hk
end DLT
end
section
/-! the model: threads are woken -/
def wkT (C : gCo) (M : gMa) (t c : Nat) (wk : Option Nat) : Nat → gTq := fun o => if o < C.2.1.length ∧ (M.2.2 o).2.2.2.1 = 1 ∧ obM C (M.2.2 o).2.2.1 = c ∧ ((stN C (M.2.2 t).2.2.1).2.2.2.2.2.2.1 = true ∨ wk = some o) then ((M.2.2 o).1, (M.2.2 o).2.1, (M.2.2 o).2.2.1, 2, (M.2.2 o).2.2.2.2) else M.2.2 o
theorem ef_8 {C : gCo} {M : gMa} {w t c : Nat} {e f : Int32} {wk : Option Nat} : efM C w M t 8 c e f wk = ((M.1, M.2.1, wkT C M t c wk), 0) := by unfold efM; rfl
theorem mTq_77 {C : gCo} {y z : gd} {o v : Nat} {h : gTq} (q : mTq y C o h) (e : z = si y 77 o (Int32.ofNat v)) (hv : v ≤ 2) : mTq z C o (h.1, h.2.1, h.2.2.1, v, h.2.2.2.2) := by
  obtain ⟨a1, a2, a3, a4, a5, a6, a7, a8, a9, b1⟩ := q
  have f : ∀ c, c ≠ 77 → z.1 c = y.1 c := fun c hc => by rw [e, si_cell hc]
  refine ⟨by rw [f 73 (by decide)]; exact a1, a2, by rw [f 75 (by decide)]; exact a3, by rw [f 74 (by decide)]; exact a4, by rw [e, si_get, if_pos ⟨rfl, rfl⟩], hv, by rw [f 78 (by decide)]; exact a7, by rw [f 79 (by decide)]; exact a8, mLt_eq a9 (f 80 (by decide)) (f 81 (by decide)) (f 82 (by decide)), ?_⟩
  unfold mLv at b1 ⊢
  rw [f 76 (by decide)]; exact b1
section DWK
variable {d : Nat} {S : gS} {x : gd} {F : Int32 → gd → gS → Prop} {Fv : gd → gS → Prop} {C : gCo} {M : gMa}
theorem ds_one3 (v : Int32) (h : F (if v = 0 then 0 else 1) x S) : MD d z_one 0 [(0, vi v)] [] S x (Di F) := sd_one_0 _ ⟨fun c => Di_i (by first | (rw [if_pos c] at h; exact h) | (rw [if_neg c] at h; exact h)), fun c => Di_i (by first | (rw [if_pos c] at h; exact h) | (rw [if_neg c] at h; exact h))⟩
theorem ds_wake3 (t w k c s : Int32) {T K : Nat} (ri : RI x S) (hK : MK x C) (hN : NC C) (hX : NXc C) (hM : MM1 x C M) (eK : k.toInt = (K : Nat)) (K15 : K < 1500) (hKT : (M.2.2 T).2.2.1 = K) {st : gNs} (hst : C.1[K]? = some st) (o8 : st.1 = 8) (hc : 0 ≤ c.toInt ∧ c.toInt < 6) (w9 : x.1 77 T = 0) {wk : Option Nat} (hwk : (wk = none ∧ w = -1) ∨ ∃ o : Nat, wk = some o ∧ o < 6 ∧ w = Int32.ofNat o)
    (kk : ∀ z, RI z S → md [] [77] x z → z.1 77 T = 0 → (∀ t' : Nat, t' < 6 → mTq z C t' (wkT C M T c.toNatClampNeg wk t')) → MD (d + 4) z_doAct 667 [(0, vr 0), (1, vi t), (3, vi k), (4, vi s), (5, vi c), (6, vi 0)] [] S z (Dv Fv)) : MD (d + 4) z_doAct 513 [(0, vr 0), (1, vi t), (2, vi w), (3, vi k), (4, vi s), (5, vi c), (6, vi 0), (8, vi 0)] [] S x (Dv Fv) := by
  have k0 : (0 : Int32).toInt = 0 := rfl
  have k1 : (1 : Int32).toInt = 1 := rfl
  have h25 := ri.1.1.2.2.2.2.2.1
  have l25 : (x.1 0 25).toInt = C.2.1.length := hK.2.1.1
  have kv : vp_in k 1500 := by rw [vp_in_iff]; omega
  have kK : k.toNatClampNeg = K := by rw [t_cl, eK]; rfl
  have esT : stN C (M.2.2 T).2.2.1 = st := by rw [hKT]; exact stN_is hst
  obtain ⟨-, -, -, g57, -⟩ := hK.1.2 _ st hst
  obtain ⟨-, -, -, nx4, -⟩ := hX _ st hst
  have nx4 := nx4 o8
  rw [← g57, ← kK] at nx4
  have loop : ∀ (n : Nat) (y : gd) (o : Int32), RI y S → md [] [77] x y → y.1 77 T = 0 → 0 ≤ o.toInt → (x.1 0 25).toInt - o.toInt ≤ n → (∀ t' : Nat, t' < 6 → mTq y C t' (if (t' : Int) < o.toInt then wkT C M T c.toNatClampNeg wk t' else M.2.2 t')) → MD (d + 4) z_doAct 513 [(0, vr 0), (1, vi t), (2, vi w), (3, vi k), (4, vi s), (5, vi c), (6, vi 0), (8, vi o)] [] S y (Dv Fv) := by
    have fin : ∀ (y : gd) (o : Int32), RI y S → md [] [77] x y → y.1 77 T = 0 → (x.1 0 25).toInt ≤ o.toInt → (∀ t' : Nat, t' < 6 → mTq y C t' (if (t' : Int) < o.toInt then wkT C M T c.toNatClampNeg wk t' else M.2.2 t')) → MD (d + 4) z_doAct 667 [(0, vr 0), (1, vi t), (3, vi k), (4, vi s), (5, vi c), (6, vi 0)] [] S y (Dv Fv) := fun y o ry my yT ho mt => kk y ry my yT (fun t' ht' => by
      have q := mt t' ht'
      by_cases c9 : (t' : Int) < o.toInt
      · rw [if_pos c9] at q; exact q
      · rw [if_neg c9] at q
        have : wkT C M T c.toNatClampNeg wk t' = M.2.2 t' := if_neg (fun z => by have := z.1; omega)
        rw [this]; exact q)
    intro n
    induction n with
    | zero =>
      intro y o ry my yT o0 hn mt
      have e25 : y.1 0 25 = x.1 0 25 := my.1 25 (by decide)
      exact sd_doAct_513 _ _ _ _ _ _ _ ⟨fun _ => fin y o ry my yT (by omega) mt, fun cc => absurd (t_le.mpr (by rw [e25]; omega)) cc⟩
    | succ n ih =>
      intro y o ry my yT o0 hn mt
      have e25 : y.1 0 25 = x.1 0 25 := my.1 25 (by decide)
      refine sd_doAct_513 _ _ _ _ _ _ _ ⟨fun cc => fin y o ry my yT (by rw [t_le, e25] at cc; exact cc) mt, fun cc => ?_⟩
      rw [t_le, e25] at cc
      have ov : vp_in o 6 := by rw [vp_in_iff]; omega
      have oi : (o + 1).toInt = o.toInt + 1 := by rw [t_add (by omega) (by omega), k1]
      obtain ⟨O, eO⟩ : ∃ O, O = o.toNatClampNeg := ⟨_, rfl⟩
      have oO : (O : Int) = o.toInt := by rw [eO]; exact cl_i o0
      have O6 : O < 6 := by omega
      have oI : o = Int32.ofNat O := i32_of (by omega)
      have ra' := (ry.2 O O6).1
      have q := mt O O6
      rw [if_neg (by omega)] at q
      have m77 := q.2.2.2.2.1
      have l77 := q.2.2.2.2.2.1
      have m74 := q.2.2.2.1
      obtain ⟨-, b1, -⟩ := wai_2 _ (show (M.2.2 O).2.2.2.1 < 3 by omega)
      rw [← m77] at b1
      have f56 : y.1 56 = x.1 56 := my.2.1 56 (by decide) (by decide)
      have f57 : y.1 57 = x.1 57 := my.2.1 57 (by decide) (by decide)
      -- set, and go on
      have set : ∀ (v : Nat) (z : gd), z = si y 77 O (Int32.ofNat v) → v ≤ 2 → wkT C M T c.toNatClampNeg wk O = ((M.2.2 O).1, (M.2.2 O).2.1, (M.2.2 O).2.2.1, v, (M.2.2 O).2.2.2.2) → (v = (M.2.2 O).2.2.2.1 ∨ (v = 2 ∧ y.1 77 O = 1)) → MD (d + 4) z_doAct 513 [(0, vr 0), (1, vi t), (2, vi w), (3, vi k), (4, vi s), (5, vi c), (6, vi 0), (8, vi (o + 1))] [] S z (Dv Fv) := by
        intro v z ez v2 hwv hv
        have tz : th3 O y z := by rw [ez]; exact th3_si (by decide) _ _
        have mz := md_a y 77 O (Int32.ofNat v) (by decide)
        rw [← ez] at mz
        have c73 : z.1 73 = y.1 73 := by rw [ez, si_cell (by decide)]
        have c74 : z.1 74 = y.1 74 := by rw [ez, si_cell (by decide)]
        have wo' : z.1 77 O = Int32.ofNat v := by rw [ez, si_get, if_pos ⟨rfl, rfl⟩]
        have wT' : z.1 77 T = 0 := by
          by_cases q9 : T = O
          · rw [q9] at yT ⊢
            rw [wo']
            rcases hv with hv | ⟨_, hv⟩
            · rw [hv, ← m77]; exact yT
            · rw [yT] at hv; exact absurd hv (by decide)
          · rw [tz.2.1 77 T (by omega) q9]; exact yT
        refine ih z (o + 1) ⟨CP_th (th3_th tz) ry.1, fun t' ht' => ?_⟩ (md_tr my mz rfl rfl) wT' (by omega) (by omega) (fun t' ht' => ?_)
        · by_cases q9 : t' = O
          · obtain ⟨q1, q2, q3⟩ := ry.2 t' ht'
            rw [q9] at q1 q2 q3 ⊢
            refine ⟨?_, ?_, rl_th (th3_th tz) (ssub_rf _) q3⟩
            · unfold ra
              rw [c73, c74, tz.1.1 52 (by decide), tz.1.2.1 54 (by decide) (by decide)]
              exact q1
            · unfold rw'
              rw [c73, c74, wo', tz.1.2.1 55 (by decide) (by decide)]
              rcases hv with hv | ⟨hv, hv1⟩
              · rw [hv, ← m77]; exact q2
              · rcases q2 with q2 | ⟨_, q2⟩
                · rw [hv1] at q2; exact absurd q2 (by decide)
                · exact Or.inr ⟨Or.inr (by rw [hv]; rfl), q2⟩
          · exact rT_th (th3_th tz) (ssub_rf _) q9 (ry.2 t' ht')
        · by_cases q9 : t' = O
          · rw [q9, if_pos (by omega), hwv]
            exact mTq_77 q ez v2
          · have q8 := mTq_th hN tz q9 (mt t' ht')
            by_cases c9 : (t' : Int) < o.toInt
            · rw [if_pos c9] at q8
              rw [if_pos (by omega)]; exact q8
            · rw [if_neg c9] at q8
              rw [if_neg (by omega)]; exact q8
      have p571 : ∀ b : Int32, (¬ b = 0 → y.1 77 O = 1 ∧ wkT C M T c.toNatClampNeg wk O = ((M.2.2 O).1, (M.2.2 O).2.1, (M.2.2 O).2.2.1, 2, (M.2.2 O).2.2.2.2)) → (b = 0 → wkT C M T c.toNatClampNeg wk O = M.2.2 O) → MD (d + 4) z_doAct 571 [(0, vr 0), (1, vi t), (2, vi w), (3, vi k), (4, vi s), (5, vi c), (6, vi 0), (8, vi o)] [vi b] S y (Dv Fv) := by
        intro b hb hb0
        refine sd_doAct_571 _ _ _ _ _ _ _ _ ⟨fun c0 => ⟨ov, ov, fun z ez => ?_⟩, fun nb => ⟨ov, fun z ez => ?_⟩⟩
        · rw [← eO] at ez
          exact set (M.2.2 O).2.2.2.1 z (by rw [ez, m77]) l77 (by rw [hb0 c0]) (Or.inl rfl)
        · rw [← eO] at ez
          exact set 2 z ez (Nat.le_refl _) (hb nb).2 (Or.inr ⟨rfl, (hb nb).1⟩)
      have no : ¬ ((M.2.2 O).2.2.2.1 = 1 ∧ obM C (M.2.2 O).2.2.1 = c.toNatClampNeg ∧ (st.2.2.2.2.2.2.1 = true ∨ wk = some O)) → wkT C M T c.toNatClampNeg wk O = M.2.2 O := fun n9 => if_neg (fun z => n9 ⟨z.2.1, z.2.2.1, by have := z.2.2.2; rw [esT] at this; exact this⟩)
      have yes : (M.2.2 O).2.2.2.1 = 1 → obM C (M.2.2 O).2.2.1 = c.toNatClampNeg → (st.2.2.2.2.2.2.1 = true ∨ wk = some O) → wkT C M T c.toNatClampNeg wk O = ((M.2.2 O).1, (M.2.2 O).2.1, (M.2.2 O).2.2.1, 2, (M.2.2 O).2.2.2.2) := fun y1 y2 y3 => if_pos ⟨by omega, y1, y2, by rw [esT]; exact y3⟩
      have fl : x.1 57 k.toNatClampNeg = 1 ↔ st.2.2.2.2.2.2.1 = true := by
        rw [nx4]
        by_cases c9 : st.2.2.2.2.2.2.1 = true
        · rw [if_pos c9]; exact ⟨fun _ => c9, fun _ => rfl⟩
        · rw [if_neg c9]; exact ⟨fun z => absurd z (by decide), fun z => absurd z c9⟩
      have wo : w = o ↔ wk = some O := by
        rcases hwk with ⟨h1, h2⟩ | ⟨o9, h1, h2, h3⟩
        · rw [h1, h2]
          refine ⟨fun z => ?_, fun z => nomatch z⟩
          rw [← z] at o0
          exact absurd o0 (by decide)
        · have e9 : (Int32.ofNat o9).toInt = (o9 : Nat) := op_16 o9 (by omega)
          rw [h1, h3, t_eq, e9]
          refine ⟨fun z => by congr 1; omega, fun z => ?_⟩
          have := Option.some.inj z
          omega
      rw [← eO]
      refine ⟨ov, fun n1 => p571 0 (fun q => absurd rfl q) (fun _ => no (fun z => n1 (b1.mpr z.1))), fun w1 => ⟨ov, by rw [vp_in_iff]; exact ⟨ra'.1, ra'.2.1⟩, ?_⟩⟩
      have g1 : y.1 73 O = 1 := by
        rcases (ry.2 O O6).2.1 with z | ⟨-, z, -⟩
        · rw [w1] at z; exact absurd z (by decide)
        · exact z
      have g5 : y.1 55 (y.1 74 O).toNatClampNeg = 7 := by
        rcases (ry.2 O O6).2.1 with z | ⟨-, -, z⟩
        · rw [w1] at z; exact absurd z (by decide)
        · exact z
      have av := (RI_step ry O6 g1).2.2.2
      rw [g5] at av
      have ob : y.1 56 (y.1 74 O).toNatClampNeg = c ↔ obM C (M.2.2 O).2.2.1 = c.toNatClampNeg := by
        have lo : 0 ≤ (y.1 56 (y.1 74 O).toNatClampNeg).toInt := by
          rcases av.2 with z | z | z
          · exact z.2.2.1
          · exact z.2.2.1
          · exact absurd z.1 (by decide)
        have l52 : (x.1 0 52).toInt = C.1.length := hK.1.1
        have kl : (M.2.2 O).2.2.1 < C.1.length := by
          have := (RI_step ry O6 g1).2.1
          rw [m74, my.1 52 (by decide)] at this
          omega
        obtain ⟨so, hso⟩ : ∃ so, C.1[(M.2.2 O).2.2.1]? = some so := ⟨_, List.getElem?_eq_getElem kl⟩
        obtain ⟨-, -, g56, -⟩ := hK.1.2 _ so hso
        have ec : (y.1 74 O).toNatClampNeg = (M.2.2 O).2.2.1 := by rw [t_cl, m74]; rfl
        rw [ec, f56, g56] at lo ⊢
        unfold obM
        rw [stN_is hso, t_cl, t_cl, t_eq]
        omega
      refine ⟨fun n5 => p571 0 (fun q => absurd rfl q) (fun _ => no (fun z => n5 (ob.mpr z.2.1))), fun e5 => ⟨kv, ?_⟩⟩
      rw [f57]
      refine ⟨fun e1 => p571 1 (fun _ => ⟨w1, yes (b1.mp w1) (ob.mp e5) (Or.inl (fl.mp e1))⟩) (fun z => absurd z (by decide)), fun n1 => ⟨fun nw => p571 0 (fun q => absurd rfl q) (fun _ => no (fun z => z.2.2.elim (fun z => n1 (fl.mpr z)) (fun z => nw (wo.mpr z)))), fun ew => p571 1 (fun _ => ⟨w1, yes (b1.mp w1) (ob.mp e5) (Or.inr (wo.mp ew))⟩) (fun z => absurd z (by decide))⟩⟩
  refine loop (x.1 0 25).toInt.toNat x 0 ri (md_w (md_rf x) (by decide) (by decide)) w9 (by decide) (by rw [k0]; omega) (fun t' ht' => ?_)
  rw [if_neg (by rw [k0]; omega)]
  exact hM.2.2 t' ht'
end DWK
end
