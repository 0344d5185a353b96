/-! the class: begin() -/
section KBF
variable {G : kG} {q : kP} {d : Nat} {x y : gd} {F : Int32 → gd → Prop} {Fv : gd → Prop} {X : String → gd → Prop} {C : gCo}
/-- how many choices there are at first -/
def bgR (C : gCo) (r : Int32) : Prop := ∃ f, fstS C f ∧ r.toInt = (chN C f C.2.1.length : Nat)
theorem kf_beginRun (hq : kV q) (hC : CO x) (hK : CK x C) (hN : NC C) (w : Int32) (hw : w = 0 ∨ w = 1) (h : ∀ y, fm sRn x y → RUN y → bgR C (y.1 120 13) → Fv y) : KT G q (d + 6) zk_X11_beginRun 0 [(0, vr 0), (1, vi w)] [] x (rv Fv) := by
  have hm : kiM q 120 := Or.inl rfl
  refine kg_X11_beginRun_0 hq w (kf_reset hq hm hC hK hN w hw (fun x1 hM f1 _ hfs => ?_))
  obtain ⟨f, hfs⟩ := hfs
  refine kf_listChoices hq hm hM (CK_f hK (fun c k hc => f1 c k (by unfold sRe; omega))) hN hfs (fun x2 f2 hL h13 => kj_clear hq (fun x3 hJ f3 x4 e4 => rv_i (h x4 ?_ ?_ ?_)))
  · refine fm_tr (fm_tr (fm_tr (fm_w f1 (fun c k q => by unfold sRe at q; unfold sRn; omega)) (fm_w f2 (fun c k q => by unfold sLi at q; unfold sRn; omega))) (fm_w f3 (fun c k q => by unfold sRn; omega))) ?_
    rw [e4]; exact fm_si (fm_rf _ _) (by unfold sRn; omega)
  · have hM2 := MM_Li (Or.inl rfl) f2 hM
    have g : ∀ c k, c < 160 → ¬ (c = 0) → x4.1 c k = x2.1 c k := fun c k a b => by rw [e4, si_get, if_neg (by omega)]; exact f3 c k (by omega)
    have hc : agC x2 x4 := fun c k hc => g c k (by omega) (by omega)
    refine ⟨MM_ag hc (fun k a b => g _ _ (by omega) (by omega)) (fun k hk => g _ _ (by omega) (by omega)) hM2, LSk_ag hM2 hc (fun k a b => g _ _ (by omega) (by omega)) (fun k hk => g _ _ (by omega) (by omega)) (g _ _ (by omega) (by omega)) (fun k => g _ _ (by omega) (by omega)) (fun k => g _ _ (by omega) (by omega)) hL, ?_⟩
    refine JN_o (fun c k a b => ?_) hJ
    rw [e4, si_get, if_neg (by omega)]
  · refine ⟨f, hfs.1, ?_⟩
    rw [e4, si_get, if_neg (by omega), f3 120 13 (by omega)]
    exact h13
theorem kf_comp (hq : kV q) (hH : HOI x q) (hS : x.1 0 9 = 0 → X iSE x) (h : ¬ x.1 0 9 = 0 → CO x → Fv x) : KE G q (d + 6) zk_X11_needCompiled 0 [(0, vr 0)] [] x (rv Fv) X :=
  kg_X11_needCompiled_0 hq ⟨fun c => rv_i (h c (hH.2.1 c)), fun c => hS c⟩
theorem kf_way (hq : kV q) (l : Int32) (hA : ¬ (l = 0 ∨ l = 1) → X iAE x) (h : (l = 0 ∨ l = 1) → Fv x) : KE G q (d + 6) zk_X11_needWay 0 [(0, vi l)] [] x (rv Fv) X := by
  have k0 : (0 : Int32).toInt = 0 := rfl
  have k1 : (1 : Int32).toInt = 1 := rfl
  have k2 : (2 : Int32).toInt = 2 := rfl
  refine kg_X11_needWay_0 hq l ⟨fun c => kg_X11_needWay_9 hq (hA (fun z => ?_)), fun c => ⟨fun c2 => rv_i (h ?_), fun c2 => kg_X11_needWay_9 hq (hA (fun z => ?_))⟩⟩
  · rw [t_lt, k0] at c
    rcases z with z | z <;> rw [z] at c
    · rw [k0] at c; omega
    · rw [k1] at c; omega
  · rw [t_lt, k0] at c
    rw [t_lt, k2] at c2
    rw [t_eq, t_eq, k0, k1]
    omega
  · rw [t_lt, k2] at c2
    rcases z with z | z <;> rw [z] at c2
    · rw [k0] at c2; omega
    · rw [k1] at c2; omega
end KBF
