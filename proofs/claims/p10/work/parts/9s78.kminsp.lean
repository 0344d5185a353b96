/-! the class: which accesses a state has before it, and whether they race -/
def ACx (x : gd) (C : gCo) (w : Nat) (M : gMa) (t : Nat) : Prop := (axM C w M t ∧ x.1 209 t = (lkM C w M t).2.1 ∧ 0 ≤ (x.1 209 t).toInt ∧ x.1 210 t = Int32.ofNat (soM C (M.2.2 t))) ∨ (¬ axM C w M t ∧ x.1 209 t = -1)
/-- all but what is said of a thread's access -/
def sI0 (o c k : Nat) : Prop := sIn o c k ∧ ¬ c = 209 ∧ ¬ c = 210
def sI1 (o T c k : Nat) : Prop := sIn o c k ∧ (c = 209 ∨ c = 210 → k = T)
section KIN
variable {G : kG} {q : kP} {d : Nat} {x y z : gd} {o : Nat} {F : Int32 → gd → Prop} {Fv : gd → Prop} {C : gCo} {M : gMa} {T w : Nat}
theorem lkM_c (h : (M.2.2 T).2.2.2.1 = 0) : (lkM C w M T).2.1 = (lkI C M T).2 := by
  unfold lkM
  rw [if_neg (fun z => z h)]
  split
  · rfl
  · split
    · rfl
    · split
      · rfl
      · rfl
theorem can_ch {t : Nat} (ht : t < C.2.1.length) : canM C w M t ↔ ∃ ch ∈ chM C w M, ch.2.1 = none ∧ ch.1 = t := by
  constructor
  · intro h
    have : ∃ ch ∈ ch1 C w M t, ch.2.1 = none ∧ ch.1 = t := by
      unfold ch1
      rw [if_pos h]
      split
      · next c =>
        obtain ⟨a, l, e⟩ : ∃ a l, waM C M (obM C (M.2.2 t).2.2.1) = a :: l := by
          cases hw : waM C M (obM C (M.2.2 t).2.2.1) with
          | nil => exact absurd hw c.2.2.2
          | cons a l => exact ⟨a, l, rfl⟩
        refine ⟨(t, none, some a), ?_, rfl, rfl⟩
        rw [e]
        exact List.mem_append_left _ (List.mem_map.mpr ⟨a, List.mem_cons_self .., rfl⟩)
      · exact ⟨(t, none, none), List.mem_append_left _ (List.mem_singleton.mpr rfl), rfl, rfl⟩
    obtain ⟨ch, h1, h2⟩ := this
    exact ⟨ch, List.mem_flatMap.mpr ⟨t, List.mem_range.mpr ht, h1⟩, h2⟩
  · rintro ⟨ch, h1, h2, h3⟩
    obtain ⟨u, hu, h1⟩ := List.mem_flatMap.mp h1
    unfold ch1 at h1
    rcases List.mem_append.mp h1 with h1 | h1
    · by_cases c : canM C w M u
      · rw [if_pos c] at h1
        have : ch.1 = u := by
          split at h1
          · obtain ⟨a, -, e⟩ := List.mem_map.mp h1
            rw [← e]
          · rw [List.mem_singleton.mp h1]
        rw [← h3, this]; exact c
      · rw [if_neg c] at h1; cases h1
    · obtain ⟨a, -, e⟩ := List.mem_map.mp h1
      rw [← e] at h2
      cases h2
theorem sI0_In {c k : Nat} (h : sI0 o c k) : sIn o c k := h.1
theorem sI1_In {c k : Nat} (h : sI1 o T c k) : sIn o c k := h.1
theorem sI0_1 {c k : Nat} (h : sI0 o c k) : sI1 o T c k := ⟨h.1, fun c => absurd c (fun c => c.elim h.2.1 h.2.2)⟩
/-- what the machine holds stays -/
theorem KM_In (ho : kiT q o) (hM : MM x 220) (hK : CK x C) (f : fm (sIn o) x y) (g : KMm x 220 C M) : CK y C ∧ KMm y 220 C M := by
  have hO := iT_O ho
  exact ⟨CK_f hK (fun c k hc => f c k (by unfold sIn; omega)), KMm_in hM hK (gm_ag (fun c k hc => f c k (by unfold sIn; omega)) (fun k h1 h2 => f _ _ (by unfold sIn; omega))) (fun k _ => f _ _ (by unfold sIn; omega)) g⟩
theorem kh_inspectAct (hq : kV q) (he : q.ex = true) (ho : kiT q o) (ht : q.et = some o) (hM : MM x 220) (hK : CK x C) (hN : NC C) (hX : NXc C) (hX3 : NX3 C) (g : KMm x 220 C M) (wy : x.1 220 3 = Int32.ofNat w) (w01 : w = 0 ∨ w = 1) (t : Int32) (et : t.toInt = T) (hT : T < C.2.1.length) (hcan : canM C w M T) (h9 : x.1 209 T = -1) (h : ∀ y, fm (sI1 o T) x y → ACx y C w M T → Fv y) : KT G q (d + 4) zk_X2_inspectAct 0 [(0, vr 200), (1, vi t)] [] x (rv Fv) := by
  have hO := iT_O ho
  have hm : kiM q 220 := Or.inr ⟨rfl, he⟩
  have t6 := hM.1.1.2.2.1
  have c24 := hM.1.1.1
  have nT : (x.1 60 10).toInt = C.2.1.length := hK.2.1.1
  have nC : (x.1 60 6).toInt = C.2.2.1.length := hK.2.2.1.1
  have v6 : vp_in t 6 := by rw [vp_in_iff]; omega
  have tT : t.toNatClampNeg = T := by rw [t_cl, et]; rfl
  have k4 : (4 : Int32).toInt = 4 := rfl
  have h1 : (M.2.2 T).1 = 1 := hcan.1
  have hA := (hM.2.2 T (by omega)).1
  obtain ⟨st, s1, s2, s3, s4, s5, kn, ns⟩ := kst_at hM hK hN hT (g.2 T hT)
  have n22 := ns.1.1
  have so22 : soM C (M.2.2 T) < 22 := by
    unfold soM
    split
    · rw [s2]; exact n22
    · omega
  have eso : (Int32.ofNat (soM C (M.2.2 T))).toInt = (soM C (M.2.2 T) : Nat) := Int32.toInt_ofNat_of_lt (by omega)
  have no : ∀ y, fm (sI0 o) x y → ¬ axM C w M T → rv Fv none y := fun y fy hn => rv_i (h y (fm_w fy (fun c k => sI0_1)) (Or.inr ⟨hn, by rw [fy 209 T (fun z => z.2.1 rfl)]; exact h9⟩))
  have p39 : ∀ (ob : Int32) (y : gd), fm (sI0 o) x y → (soM C (M.2.2 T) ≤ 4 → ((lkI C M T).1 = 0 ∧ ob = (lkI C M T).2 ∧ 0 ≤ ob.toInt ∧ ob.toInt < (x.1 60 6).toInt) ∨ (¬ (lkI C M T).1 = 0 ∧ ob = -1)) → KT G q (d + 4) zk_X2_inspectAct 39 [(0, vr 200), (1, vi t), (2, vi (Int32.ofNat (soM C (M.2.2 T)))), (3, vi ob)] [] y (rv Fv) := by
    intro ob y fy hs
    have hMy := sIn_MM ho (fm_w fy (fun c k => sI0_In)) hM
    have wOf : soM C (M.2.2 T) ≤ 4 → (M.2.2 T).2.2.2.1 = 0 := fun c => by
      by_cases w0 : (M.2.2 T).2.2.2.1 = 0
      · exact w0
      · unfold soM at c; rw [if_neg w0] at c; omega
    refine kg_X2_inspectAct_39 hq he _ _ _ ⟨fun c => no y fy (fun z => ?_), fun c => ?_⟩
    · rw [t_lt, k4, eso] at c
      have := z.2.1
      omega
    rw [t_lt, k4, eso] at c
    have so4 : soM C (M.2.2 T) ≤ 4 := by omega
    have w0 := wOf so4
    have sst : soM C (M.2.2 T) = st.1 := by unfold soM; rw [if_pos w0, s2]
    have hs := hs so4
    refine ⟨fun c2 u eu => ?_, fun c2 => no y fy (fun z => ?_)⟩
    rotate_left
    · rcases hs with ⟨-, -, e0, -⟩ | ⟨e, -⟩
      · rw [c2, tm1] at e0; omega
      · have := z.2.2.1
        rw [lkM_i w0 e] at this
        exact e this
    rw [et_r ht] at eu
    obtain ⟨l0, eob, ob0, ob1⟩ : (lkI C M T).1 = 0 ∧ ob = (lkI C M T).2 ∧ 0 ≤ ob.toInt ∧ ob.toInt < (x.1 60 6).toInt := by
      rcases hs with e | e
      · exact e
      · exact absurd e.2 c2
    have vo : vp_in ob 24 := by rw [vp_in_iff]; omega
    refine ⟨o, eu, ho, vo, kp_heldBy hq hm hMy.1 hMy.2.1 _ (fun r => ⟨vo, fun x10 e10 => ⟨vo, ?_⟩⟩)⟩
    have f10 : fm (sI0 o) x x10 := by rw [e10]; exact fm_si fy ⟨by unfold sIn; omega, by omega, by omega⟩
    have g10 := fm_w f10 (fun c k => sI0_In)
    have hM10 := sIn_MM ho g10 hM
    obtain ⟨hK10, gm10⟩ := KM_In ho hM hK g10 g
    have e69 : x10.1 69 ob.toNatClampNeg = if suM C ob.toNatClampNeg = true then 1 else 0 := by
      have hl : ob.toNatClampNeg < C.2.2.1.length := by rw [t_cl]; omega
      have hg := List.getElem?_eq_getElem hl
      rw [(hK10.2.2.1.2 _ _ hg).2]
      unfold suM
      rw [hg]
    have lc : (lkM C w M T).2.1 = ob := by rw [lkM_c w0, eob]
    refine ⟨fun cs => no x10 f10 (fun z => ?_), fun cs => ?_⟩
    · have := z.2.2.2
      rw [lc] at this
      rw [e69, this] at cs
      exact cs rfl
    have su : suM C ob.toNatClampNeg = false := by
      cases hsu : suM C ob.toNatClampNeg with
      | false => rfl
      | true => rw [e69, hsu] at cs; exact absurd cs (by decide)
    refine kh_accessFails hq hm hM10 hK10 hN hX hX3 gm10 (by rw [g10 220 3 (by unfold sIn; omega)]; exact wy) w01 _ et hT h1 w0 (by rw [s2]; omega) (fun r14 w9 fw hr => ?_)
    have fw2 : fm (sI0 o) x w9 := fm_tr f10 (fm_w fw (fun c k q => by unfold sLk at q; unfold sI0 sIn; omega))
    refine ⟨fun rn => no w9 fw2 (fun z => (hr.mp rn) z.2.2.1), fun r0 => ⟨v6, fun x17 e17 => ⟨v6, fun x19 e19 => rv_i (h _ ?_ (Or.inl ?_))⟩⟩⟩
    · rw [e19, e17, tT]
      exact fm_si (fm_si (fm_w fw2 (fun c k => sI0_1)) ⟨by unfold sIn; omega, fun _ => rfl⟩) ⟨by unfold sIn; omega, fun _ => rfl⟩
    · have lk0 : (lkM C w M T).1 = 0 := by
        apply Classical.byContradiction
        intro z
        exact hr.mpr z r0
      have n9 : x19.1 209 T = ob := by rw [e19, si_cell (by omega), e17, si_get, if_pos ⟨rfl, tT.symm⟩]
      refine ⟨⟨hcan, so4, lk0, by rw [lc]; exact su⟩, by rw [n9, lc], by rw [n9]; exact ob0, by rw [e19, si_get, if_pos ⟨rfl, tT.symm⟩]⟩
  have after : ∀ s : Int32, s = Int32.ofNat (soM C (M.2.2 T)) → KT G q (d + 3) zk_X5_objectOf 0 [(0, vr 220), (1, vi t)] [] x (ri (fun r4 x3 => ((¬ (s = (5 : Int32)) → KT G q (d + 4) zk_X2_inspectAct 39 [(0, vr 200), (1, vi t), (2, vi s), (3, vi r4)] [] x3 (rv Fv)) ∧ (s = (5 : Int32) → (∀ u6, u6 = (kf q).1 200 7 → gokv (kf q).2.1 (vo u6) = true ∧ KT G q (d + 3) zk_X5_heldBy 0 [(0, vr 220), (1, vi t)] [] x3 (ri (fun r9 x8 => ∃ c10, u6 = some c10 ∧ kiT q c10 ∧ KT G q (d + 3) zk_X10_addTake 0 [(0, vr c10), (1, vi r9), (2, vi r4)] [] x8 (rv (fun x12 => KT G q (d + 4) zk_X2_inspectAct 39 [(0, vr 200), (1, vi t), (2, vi s), (3, vi r4)] [] x12 (rv Fv)))))))))) := by
    intro s hs
    subst hs
    refine kh_objectOf hq hm hM hK hN g _ et hT h1 (fun ob w9 fw hob _ => ?_)
    have fw2 : fm (sI0 o) x w9 := fm_w fw (fun c k q => by unfold sLk at q; unfold sI0 sIn; omega)
    refine ⟨fun _ => p39 _ _ fw2 hob, fun _ u eu => ?_⟩
    rw [et_r ht] at eu
    have hMw := sIn_MM ho (fm_w fw2 (fun c k => sI0_In)) hM
    refine ⟨?_, kp_heldBy hq hm hMw.1 hMw.2.1 _ (fun r9 => ⟨o, eu, ho, kt_addTake hq ho _ _ (fun v fv => p39 _ v (fm_tr fw2 (fm_w fv (fun c k q => by unfold sI0 sIn; omega))) hob)⟩)⟩
    rw [eu]; exact gkr (kl_T0 hq ho)
  have w3 : rg x 220 T 3 = 0 ↔ (M.2.2 T).2.2.2.1 = 0 := kst_w3 hM hK hN hT (g.2 T hT)
  refine kg_X2_inspectAct_0 hq he _ (kp_sortOf hq hm hM.1 hM.2.1 _ et (by omega) hA (fun h0 => after _ ?_) (fun h0 => after _ ?_))
  · rw [s3, kn.1]
    unfold soM
    rw [if_pos (w3.mp h0), s2]
  · unfold soM
    rw [if_neg (fun z => h0 (w3.mpr z))]
    rfl
end KIN
