/-! the class: the house; what stands between calls -/
def RUN (x : gd) : Prop := MM x 120 ∧ LSk x 120 ∧ JN x
def TRI (x : gd) (q : kP) (o : Nat) : Prop := TO x q o ∧ (x.1 o 0 = 0 ∨ (TZ x o ∧ CO x))
def HOI (x : gd) (q : kP) : Prop := kL x ∧ (¬ x.1 0 9 = 0 → CO x) ∧ (¬ x.1 0 10 = 0 → RUN x) ∧ ∀ o, (o = 260 ∨ o = 280) → TRI x q o ∧ (¬ kiT q o → x.1 o 0 = 0)
/-- what a run changes; what a compiling; what is beside -/
def sRn (c k : Nat) : Prop := (120 ≤ c ∧ c < 180) ∨ (c = 0 ∧ k = 10) ∨ (c = 60 ∧ k = 5) ∨ c = 65
def sCm (c k : Nat) : Prop := (20 ≤ c ∧ c < 120) ∨ c = 0 ∨ ((c = 260 ∨ c = 280) ∧ k = 0)
def sNw (c k : Nat) : Prop := (180 ≤ c ∧ c < 260) ∨ 300 ≤ c
def sFo (c k : Nat) : Prop := (c = 0 ∧ (k = 9 ∨ k = 10)) ∨ ((c = 260 ∨ c = 280) ∧ k = 0)
section KHO
variable {G : kG} {q q0 q1 : kP} {d : Nat} {x x0 y z : gd} {o : Nat} {F : Int32 → gd → Prop} {Fv : gd → Prop} {P : Option gv → gd → Prop} {X : String → gd → Prop}
theorem JN_o (f : ∀ c k, 160 ≤ c → c < 180 → y.1 c k = x.1 c k) (h : JN x) : JN y := by
  unfold JN at h ⊢
  rw [f 160 3 (by omega) (by omega), f 160 2 (by omega) (by omega)]
  refine ⟨h.1, fun a ha => JA_eq (fun c k hc => f c k (by omega) (by omega)) (h.2.1 a ha), fun t ht => ?_⟩
  rw [f 174 t (by omega) (by omega)]; exact h.2.2 t ht
theorem RUN_o (hc : agC x y) (f : ∀ c k, 120 ≤ c → c < 180 → y.1 c k = x.1 c k) (h : RUN x) : RUN y := by
  obtain ⟨h1, h2, h3⟩ := h
  exact ⟨MM_ag hc (fun k a b => f _ _ (by omega) (by omega)) (fun k hk => f _ _ (by omega) (by omega)) h1, LSk_ag h1 hc (fun k a b => f _ _ (by omega) (by omega)) (fun k hk => f _ _ (by omega) (by omega)) (f _ _ (by omega) (by omega)) (fun k => f _ _ (by omega) (by omega)) (fun k => f _ _ (by omega) (by omega)) h2, JN_o (fun c k a b => f c k (by omega) (by omega)) h3⟩
theorem RUN_Lk (f : fm (sLk 120) x y) (h : RUN x) : RUN y := by
  obtain ⟨h1, h2, h3⟩ := h
  have hc : agC x y := fun c k hc => f c k (by unfold sLk; omega)
  have hm : agM 120 x y := fun k a b => f _ _ (by unfold sLk; omega)
  have hr : ∀ k : Nat, (k : Int) < (x.1 120 5).toInt → y.1 (120 + 5) k = x.1 (120 + 5) k := fun k hk => f _ _ (by unfold sLk; omega)
  exact ⟨MM_ag hc hm hr h1, LSk_ag h1 hc hm hr (f _ _ (by unfold sLk; omega)) (fun k => f _ _ (by unfold sLk; omega)) (fun k => f _ _ (by unfold sLk; omega)) h2, JN_o (fun c k a b => f c k (by unfold sLk; omega)) h3⟩
theorem TRI_fm {S : Nat → Nat → Prop} (hO : o = 260 ∨ o = 280) (f : fm S x y) (hc : agC x y) (hS : ∀ c k, 260 ≤ c → c < 300 → ¬ S c k) (h : TRI x q o) : TRI y q o := by
  obtain ⟨h1, h2⟩ := h
  refine ⟨TO_fm f (hS _ _ (by omega) (by omega)) (fun k => hS _ _ (by omega) (by omega)) h1, ?_⟩
  rw [f o 0 (hS _ _ (by omega) (by omega))]
  rcases h2 with e | ⟨a, b⟩
  · exact Or.inl e
  · exact Or.inr ⟨TZ_fm f (hS _ _ (by omega) (by omega)) (fun c k hc => hS _ _ (by omega) (by omega)) a, CO_fm b hc⟩
theorem HOI_run (f : fm sRn x y) (hR : RUN y) (h : HOI x q) : HOI y q := by
  obtain ⟨h1, h2, h3, h4⟩ := h
  have hc : agC x y := fun c k hc => f c k (by unfold sRn; omega)
  refine ⟨?_, fun h9 => ?_, fun _ => hR, fun o hO => ⟨TRI_fm hO f hc (fun c k a b => by unfold sRn; omega) (h4 o hO).1, fun hn => ?_⟩⟩
  · unfold kL at h1 ⊢; rw [f 20 1 (by unfold sRn; omega)]; exact h1
  · rw [f 0 9 (by unfold sRn; omega)] at h9; exact CO_fm (h2 h9) hc
  · rw [f o 0 (by unfold sRn; omega)]; exact (h4 o hO).2 hn
theorem HOI_z (f : fm sCm x y) (hL : kL y) (h9 : ¬ y.1 0 9 = 0 → CO y) (h10 : y.1 0 10 = 0) (hz : ∀ o, kiT q o → y.1 o 0 = 0) (h : HOI x q) (hf : ∀ o, (o = 260 ∨ o = 280) → ¬ kiT q o → y.1 o 0 = x.1 o 0) : HOI y q := by
  refine ⟨hL, h9, fun e => absurd h10 e, fun o hO => ?_⟩
  have z0 : y.1 o 0 = 0 := by
    by_cases e : kiT q o
    · exact hz o e
    · rw [hf o hO e]; exact (h.2.2.2 o hO).2 e
  exact ⟨⟨TO_fm f (by unfold sCm; omega) (fun k => by unfold sCm; omega) (h.2.2.2 o hO).1.1, Or.inl z0⟩, fun _ => z0⟩
theorem HOI_th (h : HOI x q) : HOI x (kTh q) := h
theorem HOI_mk (hl : kle q q1) (hu1 : kU q1) (f : fm sNw x y) (h : HOI x q) : HOI y q1 := by
  obtain ⟨h1, h2, h3, h4⟩ := h
  have hc : agC x y := fun c k hc => f c k (by unfold sNw; omega)
  refine ⟨?_, fun h9 => ?_, fun h10 => ?_, fun o hO => ?_⟩
  · unfold kL at h1 ⊢; rw [f 20 1 (by unfold sNw; omega)]; exact h1
  · rw [f 0 9 (by unfold sNw; omega)] at h9; exact CO_fm (h2 h9) hc
  · rw [f 0 10 (by unfold sNw; omega)] at h10
    exact RUN_o hc (fun c k a b => f c k (by unfold sNw; omega)) (h3 h10)
  · have t := TRI_fm hO f hc (fun c k a b => by unfold sNw; omega) (h4 o hO).1
    refine ⟨⟨TO_le hu1 hl t.1, t.2⟩, fun hn => ?_⟩
    rw [f o 0 (by unfold sNw; omega)]
    exact (h4 o hO).2 (fun e => hn (kle_T hl e))
theorem HOI_ex (hl : kle q q1) (hu1 : kU q1) (ho : kiT q o) (f : fm (sEx o) x y) (hz : TZ y o) (ht : TO y q1 o) (hC : CO x) (h : HOI x q) : HOI y q1 := by
  obtain ⟨h1, h2, h3, h4⟩ := h
  have hO := iT_O ho
  have hc : agC x y := fun c k hc => f c k (by unfold sEx; omega)
  refine ⟨?_, fun h9 => CO_fm hC hc, fun h10 => ?_, fun p hp => ?_⟩
  · unfold kL at h1 ⊢; rw [f 20 1 (by unfold sEx; omega)]; exact h1
  · rw [f 0 10 (by unfold sEx; omega)] at h10
    exact RUN_o hc (fun c k a b => f c k (by unfold sEx; omega)) (h3 h10)
  · by_cases e : p = o
    · subst e
      exact ⟨⟨ht, Or.inr ⟨hz, CO_fm hC hc⟩⟩, fun hn => absurd (kle_T hl ho) hn⟩
    · obtain ⟨⟨t1, t2⟩, t3⟩ := h4 p hp
      have g0 : ∀ k, y.1 p k = x.1 p k := fun k => f p k (by unfold sEx; omega)
      have ff : fm (fun c k => ¬ (p ≤ c ∧ c ≤ p + 14)) x y := fun c k hk => f c k (by unfold sEx; omega)
      refine ⟨⟨TO_le hu1 hl (TO_fm ff (by omega) (fun k => by omega) t1), ?_⟩, fun hn => ?_⟩
      · rw [g0]
        rcases t2 with e2 | ⟨a, b⟩
        · exact Or.inl e2
        · exact Or.inr ⟨TZ_fm ff (by omega) (fun c k hc => by omega) a, CO_fm b hc⟩
      · rw [g0]; exact t3 (fun e3 => hn (kle_T hl e3))
theorem k7_T {n : Nat} (h : (kf q).1 7 n = some o) : kiT q o := by
  have h : kR q 7 n = some o := h
  unfold kR at h
  rw [if_neg (by omega), if_neg (by omega), if_pos rfl] at h
  by_cases e0 : n = 0
  · rw [if_pos e0] at h
    by_cases e : q.t0 = true
    · rw [if_pos e] at h; cases h; exact Or.inl ⟨rfl, e⟩
    · rw [if_neg e] at h; cases h
  · rw [if_neg e0] at h
    by_cases e1 : n = 1
    · rw [if_pos e1] at h
      by_cases e : q.t1 = true
      · rw [if_pos e] at h; cases h; exact Or.inr ⟨rfl, e⟩
      · rw [if_neg e] at h; cases h
    · rw [if_neg e1] at h; cases h
theorem k7_0 (h : (kf q).1 7 0 = none) : ¬ kiT q 260 := by
  intro e
  rcases e with ⟨-, e⟩ | ⟨e, -⟩
  · have h : (if q.t0 = true then some 260 else none) = (none : Option Nat) := h
    rw [if_pos e] at h; cases h
  · omega
theorem k7_1 (h : (kf q).1 7 1 = none) : ¬ kiT q 280 := by
  intro e
  rcases e with ⟨e, -⟩ | ⟨-, e⟩
  · omega
  · have h : (if q.t1 = true then some 280 else none) = (none : Option Nat) := h
    rw [if_pos e] at h; cases h
theorem kz_forget (hq : kV q) (h : ∀ y, fm sFo x y → y.1 0 9 = 0 → y.1 0 10 = 0 → (∀ o, kiT q o → y.1 o 0 = 0) → (∀ o, (o = 260 ∨ o = 280) → ¬ kiT q o → y.1 o 0 = x.1 o 0) → Fv y) : KT G q d zk_X11_forgetAll 0 [(0, vr 0)] [] x (rv Fv) := by
  have k2 : (2 : Int32).toInt = 2 := rfl
  have n0 : (0 : Int32).toNatClampNeg = 0 := rfl
  have n1 : (0 + 1 : Int32).toNatClampNeg = 1 := by decide
  have v0 : vp_in (0 : Int32) 2 := vin0 (by omega)
  have v1 : vp_in (0 + 1 : Int32) 2 := by rw [vp_in_iff]; decide
  refine kg_X11_forgetAll_0 hq (fun x1 e1 x2 e2 => ?_)
  have f2 : fm sFo x x2 := by rw [e2, e1]; exact fm_si (fm_si (fm_rf _ _) (by unfold sFo; omega)) (by unfold sFo; omega)
  have a9 : x2.1 0 9 = 0 := by rw [e2, si_get, if_neg (by omega), e1, si_get, if_pos ⟨rfl, rfl⟩]
  have a10 : x2.1 0 10 = 0 := by rw [e2, si_get, if_pos ⟨rfl, rfl⟩]
  have a26 : x2.1 260 0 = x.1 260 0 := by rw [e2, si_get, if_neg (by omega), e1, si_get, if_neg (by omega)]
  have a28 : x2.1 280 0 = x.1 280 0 := by rw [e2, si_get, if_neg (by omega), e1, si_get, if_neg (by omega)]
  have last : ∀ w : gd, fm sFo x w → w.1 0 9 = 0 → w.1 0 10 = 0 → (∀ o, kiT q o → w.1 o 0 = 0) → (∀ o, (o = 260 ∨ o = 280) → ¬ kiT q o → w.1 o 0 = x.1 o 0) → KT G q d zk_X11_forgetAll 12 [(0, vr 0), (1, vi (0 + 1 + 1))] [] w (rv Fv) := fun w a b c e g => kg_X11_forgetAll_12 hq _ ⟨fun _ => rv_i (h w a b c e g), fun c9 => absurd (by decide) c9⟩
  have second : ∀ w : gd, fm sFo x w → w.1 0 9 = 0 → w.1 0 10 = 0 → (kiT q 260 → w.1 260 0 = 0) → (¬ kiT q 260 → w.1 260 0 = x.1 260 0) → w.1 280 0 = x.1 280 0 → KT G q d zk_X11_forgetAll 12 [(0, vr 0), (1, vi (0 + 1))] [] w (rv Fv) := by
    intro w fw w9 w10 wT wF w8
    refine kg_X11_forgetAll_12 hq _ ⟨fun c9 => absurd c9 (by decide), fun _ => ⟨v1, fun u3 e3 => ?_⟩⟩
    rw [n1] at e3
    rw [n1]
    refine ⟨fun hn => last w fw w9 w10 (fun o ho => ?_) (fun o hO hno => ?_), fun c5 h5 => ⟨v1, fun u7 e7 => ⟨c5, by rw [e7, ← e3, h5], k7_T (by rw [← e3, h5]), fun x10 e10 => ?_⟩⟩⟩
    · rw [hn] at e3
      rcases iT_O ho with e | e
      · subst e; exact wT ho
      · subst e; exact absurd ho (k7_1 e3.symm)
    · rcases hO with e | e
      · subst e; exact wF hno
      · subst e; exact w8
    · have hc5 : c5 = 280 := by
        have : (if q.t1 = true then some 280 else none) = some c5 := by rw [← h5, e3]; rfl
        by_cases e : q.t1 = true
        · rw [if_pos e] at this; cases this; rfl
        · rw [if_neg e] at this; cases this
      subst hc5
      have g : ∀ c k, ¬ (c = 280 ∧ k = 0) → x10.1 c k = w.1 c k := fun c k hc => by rw [e10, si_get, if_neg hc]
      refine last x10 (fm_tr fw (by rw [e10]; exact fm_si (fm_rf _ _) (by unfold sFo; omega))) (by rw [g _ _ (by omega)]; exact w9) (by rw [g _ _ (by omega)]; exact w10) (fun o ho => ?_) (fun o hO hno => ?_)
      · rcases iT_O ho with e | e
        · subst e; rw [g _ _ (by omega)]; exact wT ho
        · subst e; rw [e10, si_get, if_pos ⟨rfl, rfl⟩]
      · rcases hO with e | e
        · subst e; rw [g _ _ (by omega)]; exact wF hno
        · subst e; exact absurd (k7_T (by rw [← e3, h5])) hno
  refine kg_X11_forgetAll_12 hq _ ⟨fun c9 => absurd c9 (by decide), fun _ => ⟨v0, fun u3 e3 => ?_⟩⟩
  rw [n0] at e3
  rw [n0]
  refine ⟨fun hn => second x2 f2 a9 a10 (fun ho => ?_) (fun _ => a26) a28, fun c5 h5 => ⟨v0, fun u7 e7 => ⟨c5, by rw [e7, ← e3, h5], k7_T (by rw [← e3, h5]), fun x10 e10 => ?_⟩⟩⟩
  · rw [hn] at e3; exact absurd ho (k7_0 e3.symm)
  · have hc5 : c5 = 260 := by
      have : (if q.t0 = true then some 260 else none) = some c5 := by rw [← h5, e3]; rfl
      by_cases e : q.t0 = true
      · rw [if_pos e] at this; cases this; rfl
      · rw [if_neg e] at this; cases this
    subst hc5
    have g : ∀ c k, ¬ (c = 260 ∧ k = 0) → x10.1 c k = x2.1 c k := fun c k hc => by rw [e10, si_get, if_neg hc]
    exact second x10 (fm_tr f2 (by rw [e10]; exact fm_si (fm_rf _ _) (by unfold sFo; omega))) (by rw [g _ _ (by omega)]; exact a9) (by rw [g _ _ (by omega)]; exact a10) (fun _ => by rw [e10, si_get, if_pos ⟨rfl, rfl⟩]) (fun hno => absurd (k7_T (by rw [← e3, h5])) hno) (by rw [g _ _ (by omega)]; exact a28)
theorem fo_cm {c k : Nat} (h : sFo c k) : sCm c k := by unfold sFo at h; unfold sCm; omega
theorem kz_beginRun (hq : kV q) (hC : CO x) (w : Int32) (hw : w = 0 ∨ w = 1) (h : ∀ y, fm sRn x y → RUN y → Fv y) : KT G q (d + 6) zk_X11_beginRun 0 [(0, vr 0), (1, vi w)] [] x (rv Fv) := by
  have hm : kiM q 120 := Or.inl rfl
  refine kg_X11_beginRun_0 hq w (km_reset hq hm hC w hw (fun x1 hM f1 _ => km_listChoices hq hm hM (fun x2 f2 hL => kj_clear hq (fun x3 hJ f3 x4 e4 => rv_i (h x4 ?_ ?_)))))
  · refine fm_tr (fm_tr (fm_tr (fm_w f1 (fun c k q => by unfold sRe at q; unfold sRn; omega)) (fm_w f2 (fun c k q => by unfold sLi at q; unfold sRn; omega))) (fm_w f3 (fun c k q => by unfold sRn; omega))) ?_
    rw [e4]; exact fm_si (fm_rf _ _) (by unfold sRn; omega)
  · have hM2 := MM_Li (Or.inl rfl) f2 hM
    have g : ∀ c k, c < 160 → ¬ (c = 0) → x4.1 c k = x2.1 c k := fun c k a b => by rw [e4, si_get, if_neg (by omega)]; exact f3 c k (by omega)
    have hc : agC x2 x4 := fun c k hc => g c k (by omega) (by omega)
    refine ⟨MM_ag hc (fun k a b => g _ _ (by omega) (by omega)) (fun k hk => g _ _ (by omega) (by omega)) hM2, LSk_ag hM2 hc (fun k a b => g _ _ (by omega) (by omega)) (fun k hk => g _ _ (by omega) (by omega)) (g _ _ (by omega) (by omega)) (fun k => g _ _ (by omega) (by omega)) (fun k => g _ _ (by omega) (by omega)) hL, ?_⟩
    refine JN_o (fun c k a b => ?_) hJ
    rw [e4, si_get, if_neg (by omega)]
theorem kz_doChoice (hq : kV q) (hR : RUN x) (i : Int32) (h : ∀ y, fm sRn x y → RUN y → Fv y) : KT G q (d + 6) zk_X11_doChoice 0 [(0, vr 0), (1, vi i)] [] x (rv Fv) := by
  have hm : kiM q 120 := Or.inl rfl
  have k0 : (0 : Int32).toInt = 0 := rfl
  obtain ⟨hM, hL, hJ⟩ := hR
  have here : rv Fv none x := rv_i (h x (fm_rf _ _) ⟨hM, hL, hJ⟩)
  refine kg_X11_doChoice_0 hq i ⟨fun _ => here, fun c0 => ⟨fun _ => here, fun c1 => ⟨fun _ => ?_, fun _ => here⟩⟩⟩
  rw [t_lt, k0] at c0
  rw [t_le] at c1
  refine km_perform hq hm hM hL i (I := i.toInt.toNat) (by omega) (by omega) (fun x4 hM4 f4 hD4 => ?_)
  have hJ4 : JN x4 := JN_o (fun c k a b => f4 c k (by unfold sMk; omega)) hJ
  refine kj_note hq hJ4 hM4.1 hD4 i (fun x5 hJ5 f5 => ?_)
  have hc5 : agC x4 x5 := fun c k hc => f5 c k (by omega)
  have hM5 : MM x5 120 := MM_ag hc5 (fun k a b => f5 _ _ (by omega)) (fun k hk => f5 _ _ (by omega)) hM4
  refine km_listChoices hq hm hM5 (fun x6 f6 hL6 => rv_i (h x6 ?_ ⟨MM_Li (Or.inl rfl) f6 hM5, hL6, JN_o (fun c k a b => f6 c k (by unfold sLi; omega)) hJ5⟩))
  exact fm_tr (fm_tr (fm_w f4 (fun c k q => by unfold sMk at q; unfold sRn; omega)) (fm_w f5 (fun c k q => by unfold sRn; omega))) (fm_w f6 (fun c k q => by unfold sLi at q; unfold sRn; omega))
/-! what is needed first -/
theorem kz_comp (hq : kV q) (hH : HOI x q) (hS : X iSE x) (h : ¬ x.1 0 9 = 0 → CO x → Fv x) : KE G q (d + 6) zk_X11_needCompiled 0 [(0, vr 0)] [] x (rv Fv) X :=
  kg_X11_needCompiled_0 hq ⟨fun c => rv_i (h c (hH.2.1 c)), fun _ => hS⟩
theorem kz_run (hq : kV q) (hH : HOI x q) (hS : X iSE x) (h : RUN x → Fv x) : KE G q (d + 6) zk_X11_needRun 0 [(0, vr 0)] [] x (rv Fv) X :=
  kg_X11_needRun_0 hq ⟨fun c => rv_i (h (hH.2.2.1 c)), fun _ => hS⟩
theorem kz_way (hq : kV q) (l : Int32) (hA : X iAE x) (h : (l = 0 ∨ l = 1) → Fv x) : KE G q (d + 6) zk_X11_needWay 0 [(0, vi l)] [] x (rv Fv) X := by
  refine kg_X11_needWay_0 hq l ⟨fun _ => kg_X11_needWay_9 hq hA, fun c => ⟨fun c2 => rv_i (h ?_), fun _ => kg_X11_needWay_9 hq hA⟩⟩
  have k0 : (0 : Int32).toInt = 0 := rfl
  have k1 : (1 : Int32).toInt = 1 := rfl
  have k2 : (2 : Int32).toInt = 2 := rfl
  rw [t_lt, k0] at c
  rw [t_lt, k2] at c2
  rw [t_eq, t_eq, k0, k1]; omega
theorem kz_ix (hq : kV q) (l n : Int32) (hO : X iOE x) (h : 0 ≤ l.toInt → l.toInt < n.toInt → Fv x) : KE G q (d + 6) zk_X11_needIndex 0 [(0, vi l), (1, vi n)] [] x (rv Fv) X := by
  refine kg_X11_needIndex_0 hq l n ⟨fun _ => kg_X11_needIndex_9 hq hO, fun c => ⟨fun c2 => rv_i (h ?_ ?_), fun _ => kg_X11_needIndex_9 hq hO⟩⟩
  · have k0 : (0 : Int32).toInt = 0 := rfl
    rw [t_lt, k0] at c; omega
  · rw [t_lt] at c2; exact c2
theorem kz_what (hq : kV q) (l n : Int32) (hO : X iOE x) (h : Fv x) : KE G q (d + 6) zk_X11_needWhat 0 [(0, vi l), (1, vi n)] [] x (rv Fv) X :=
  kg_X11_needWhat_0 hq l n ⟨fun _ => kg_X11_needWhat_9 hq hO, fun _ => ⟨fun _ => rv_i h, fun _ => kg_X11_needWhat_9 hq hO⟩⟩
theorem kz_fnd (hq : kV q) (l : Int32) (hA : X iAE x) (h : 0 ≤ l.toInt → l.toInt < 11 → Fv x) : KE G q (d + 6) zk_X11_needFinding 0 [(0, vi l)] [] x (rv Fv) X := by
  refine kg_X11_needFinding_0 hq l ⟨fun _ => kg_X11_needFinding_10 hq hA, fun c => ⟨fun c2 => rv_i (h ?_ ?_), fun _ => kg_X11_needFinding_10 hq hA⟩⟩
  · have k0 : (0 : Int32).toInt = 0 := rfl
    rw [t_lt, k0] at c; omega
  · have k11 : (11 : Int32).toInt = 11 := rfl
    rw [t_lt, k11] at c2; exact c2
theorem way_in {l : Int32} (hw : l = 0 ∨ l = 1) : vp_in l 2 := by
  rw [vp_in_iff]
  rcases hw with e | e <;> rw [e] <;> decide
theorem kz_was (hq : kV q) (hH : HOI x q) (l : Int32) (hw : l = 0 ∨ l = 1) (h0 : F 0 x) (h1 : ∀ o, (kf q).1 7 l.toNatClampNeg = some o → kiT q o → TZ x o → TO x q o → CO x → 0 < (x.1 o 0).toInt → F 1 x) : KT G q d zk_X11_wasTried 0 [(0, vr 0), (1, vi l)] [] x (ri F) := by
  have k0 : (0 : Int32).toInt = 0 := rfl
  have v := way_in hw
  refine kg_X11_wasTried_0 hq l ⟨v, fun u2 e2 => ⟨fun _ => ri_i h0, fun c4 h4 => ⟨v, fun u6 e6 => ⟨c4, by rw [e6, ← e2, h4], k7_T (by rw [← e2, h4]), fun _ => ri_i h0, fun c => ri_i ?_⟩⟩⟩⟩
  have ho : kiT q c4 := k7_T (by rw [← e2, h4])
  rw [t_le, k0] at c
  obtain ⟨⟨t1, t2⟩, -⟩ := hH.2.2.2 c4 (iT_O ho)
  rcases t2 with e | ⟨a, b⟩
  · rw [e, k0] at c; omega
  · exact h1 c4 (by rw [← e2, h4]) ho a t1 b (by omega)
theorem kz_first (hq : kV q) (hH : HOI x q) (l f : Int32) (hw : l = 0 ∨ l = 1) (h0 : 0 ≤ f.toInt) (h11 : f.toInt < 11) (hn : F (-1) x) (h1 : ∀ r o, (kf q).1 7 l.toNatClampNeg = some o → kiT q o → TZ x o → CO x → (r = -1 ∨ (0 ≤ r.toInt ∧ r.toInt < (x.1 o 0).toInt)) → F r x) : KT G q (d + 1) zk_X11_firstState 0 [(0, vr 0), (1, vi l), (2, vi f)] [] x (ri F) := by
  refine kg_X11_firstState_0 hq l f (kz_was hq hH l hw ⟨fun _ => ri_i hn, fun c => absurd rfl c⟩ (fun o e7 ho hz ht hC hp => ⟨fun c => absurd c (by decide), fun _ => ⟨way_in hw, fun u5 e5 => ⟨o, by rw [e5, e7], ho, by rw [vp_in_iff]; omega, ri_i (h1 _ o e7 ho hz hC ?_)⟩⟩⟩))
  exact hz.2.1 _ (by rw [t_cl]; omega)
end KHO
