section
/-! the class: which accesses a state has before it, and whether they race -/
def ACx (x : gd) (C : gCo) (w : Nat) (M : gMa) (t : Nat) : Prop := (axM C w M t ∧ x.1 209 t = (lkM C w M t).2.1 ∧ 0 ≤ (x.1 209 t).toInt ∧ x.1 210 t = Int32.ofNat (soM C (M.2.2 t))) ∨ (¬ axM C w M t ∧ x.1 209 t = -1)
/-- all but what is said of a thread's access -/
def sI0 (o c k : Nat) : Prop := sIn o c k ∧ ¬ c = 209 ∧ ¬ c = 210
def sI1 (o T c k : Nat) : Prop := sIn o c k ∧ (c = 209 ∨ c = 210 → k = T)
/-- what a thread's act tells of locks held -/
def LTx (x y : gd) (o : Nat) (C : gCo) (w nl : Nat) (M : gMa) (t : Nat) : Prop := (∀ c, c < 24 → y.1 (o + 8) c = caT C w nl M t c (x.1 (o + 8) c)) ∧ (∀ a, a < 6 → y.1 (o + 9) a = tkT C w nl M t a (x.1 (o + 9) a)) ∧ y.1 o 4 = x.1 o 4
section KIN
variable {G : kG} {q : kP} {d : Nat} {x y z : gd} {o : Nat} {F : Int32 → gd → Prop} {Fv : gd → Prop} {C : gCo} {M : gMa} {T w nl : Nat}
theorem lkM_c (h : (M.2.2 T).2.2.2.1 = 0) : (lkM C w M T).2.1 = (lkI C M T).2 := by
  unfold lkM
  rw [if_neg (fun z => z h)]
  split
  · rfl
  · split
    · rfl
    · split
      · rfl
      · rfl
theorem can_ch {t : Nat} (ht : t < C.2.1.length) : canM C w M t ↔ ∃ ch ∈ chM C w M, ch.2.1 = none ∧ ch.1 = t := by
  constructor
  · intro h
    have : ∃ ch ∈ ch1 C w M t, ch.2.1 = none ∧ ch.1 = t := by
      unfold ch1
      rw [if_pos h]
      split
      · next c =>
        obtain ⟨a, l, e⟩ : ∃ a l, waM C M (obM C (M.2.2 t).2.2.1) = a :: l := by
          cases hw : waM C M (obM C (M.2.2 t).2.2.1) with
          | nil => exact absurd hw c.2.2.2
          | cons a l => exact ⟨a, l, rfl⟩
        refine ⟨(t, none, some a), ?_, rfl, rfl⟩
        rw [e]
        exact List.mem_append_left _ (List.mem_map.mpr ⟨a, List.mem_cons_self .., rfl⟩)
      · exact ⟨(t, none, none), List.mem_append_left _ (List.mem_singleton.mpr rfl), rfl, rfl⟩
    obtain ⟨ch, h1, h2⟩ := this
    exact ⟨ch, List.mem_flatMap.mpr ⟨t, List.mem_range.mpr ht, h1⟩, h2⟩
  · rintro ⟨ch, h1, h2, h3⟩
    obtain ⟨u, hu, h1⟩ := List.mem_flatMap.mp h1
    unfold ch1 at h1
    rcases List.mem_append.mp h1 with h1 | h1
    · by_cases c : canM C w M u
      · rw [if_pos c] at h1
        have : ch.1 = u := by
          split at h1
          · obtain ⟨a, -, e⟩ := List.mem_map.mp h1
            rw [← e]
          · rw [List.mem_singleton.mp h1]
        rw [← h3, this]; exact c
      · rw [if_neg c] at h1; cases h1
    · obtain ⟨a, -, e⟩ := List.mem_map.mp h1
      rw [← e] at h2
      cases h2
theorem sI0_In {c k : Nat} (h : sI0 o c k) : sIn o c k := h.1
theorem sI1_In {c k : Nat} (h : sI1 o T c k) : sIn o c k := h.1
theorem sI0_1 {c k : Nat} (h : sI0 o c k) : sI1 o T c k := ⟨h.1, fun c => absurd c (fun c => c.elim h.2.1 h.2.2)⟩
/-- what the machine holds stays -/
theorem KM_In (ho : kiT q o) (hM : MM x 220) (hK : CK x C) (f : fm (sIn o) x y) (g : KMm x 220 C M) : CK y C ∧ KMm y 220 C M := by
  have hO := iT_O ho
  exact ⟨CK_f hK (fun c k hc => f c k (by unfold sIn; omega)), KMm_in hM hK (gm_ag (fun c k hc => f c k (by unfold sIn; omega)) (fun k h1 h2 => f _ _ (by unfold sIn; omega))) (fun k _ => f _ _ (by unfold sIn; omega)) g⟩
theorem LTx_f (e : ∀ c k, c = o + 8 ∨ c = o + 9 ∨ (c = o ∧ k = 4) → z.1 c k = y.1 c k) (h : LTx x y o C w nl M T) : LTx x z o C w nl M T := ⟨fun c hc => by rw [e _ _ (Or.inl rfl)]; exact h.1 c hc, fun a ha => by rw [e _ _ (Or.inr (Or.inl rfl))]; exact h.2.1 a ha, by rw [e _ _ (Or.inr (Or.inr ⟨rfl, rfl⟩))]; exact h.2.2⟩
theorem kh_inspectAct (hq : kV q) (he : q.ex = true) (ho : kiT q o) (ht : q.et = some o) (hM : MM x 220) (hK : CK x C) (hN : NC C) (hX : NXc C) (hX3 : NX3 C) (g : KMm x 220 C M) (wy : x.1 220 3 = Int32.ofNat w) (w01 : w = 0 ∨ w = 1) (t : Int32) (et : t.toInt = T) (hT : T < C.2.1.length) (hcan : canM C w M T) (h9 : x.1 209 T = -1) (en : (x.1 60 9).toInt = (nl : Nat)) (h : ∀ y, fm (sI1 o T) x y → ACx y C w M T → LTx x y o C w nl M T → Fv y) : KT G q (d + 4) zk_X2_inspectAct 0 [(0, vr 200), (1, vi t)] [] x (rv Fv) := by
  have hO := iT_O ho
  have hm : kiM q 220 := Or.inr ⟨rfl, he⟩
  have t6 := hM.1.1.2.2.1
  have c24 := hM.1.1.1
  have nT : (x.1 60 10).toInt = C.2.1.length := hK.2.1.1
  have nC : (x.1 60 6).toInt = C.2.2.1.length := hK.2.2.1.1
  have v6 : vp_in t 6 := by rw [vp_in_iff]; omega
  have tT : t.toNatClampNeg = T := by rw [t_cl, et]; rfl
  have k4 : (4 : Int32).toInt = 4 := rfl
  have h1 : (M.2.2 T).1 = 1 := hcan.1
  have hA := (hM.2.2 T (by omega)).1
  obtain ⟨st, s1, s2, s3, s4, s5, kn, ns⟩ := kst_at hM hK hN hT (g.2 T hT)
  have n22 := ns.1.1
  have so22 : soM C (M.2.2 T) < 22 := by
    unfold soM
    split
    · rw [s2]; exact n22
    · omega
  have eso : (Int32.ofNat (soM C (M.2.2 T))).toInt = (soM C (M.2.2 T) : Nat) := Int32.toInt_ofNat_of_lt (by omega)
  have no : ∀ y, fm (sI0 o) x y → ¬ axM C w M T → LTx x y o C w nl M T → rv Fv none y := fun y fy hn hlt => rv_i (h y (fm_w fy (fun c k => sI0_1)) (Or.inr ⟨hn, by rw [fy 209 T (fun z => z.2.1 rfl)]; exact h9⟩) hlt)
  have c9 := hM.1.1.2.1
  have hcs := (hM.1.2.2.2.1 _ s4).1
  have p39 : ∀ (ob : Int32) (y : gd), fm (sI0 o) x y → (∀ c, c < 24 → y.1 (o + 8) c = x.1 (o + 8) c) → (∀ a, a < 6 → y.1 (o + 9) a = tkT C w nl M T a (x.1 (o + 9) a)) → y.1 o 4 = x.1 o 4 → (soM C (M.2.2 T) ≤ 4 → ((lkI C M T).1 = 0 ∧ ob = (lkI C M T).2 ∧ 0 ≤ ob.toInt ∧ ob.toInt < (x.1 60 6).toInt) ∨ (¬ (lkI C M T).1 = 0 ∧ ob = -1)) → KT G q (d + 4) zk_X2_inspectAct 39 [(0, vr 200), (1, vi t), (2, vi (Int32.ofNat (soM C (M.2.2 T)))), (3, vi ob)] [] y (rv Fv) := by
    intro ob y fy h8 h9t h4t hs
    have nca : ¬ (soM C (M.2.2 T) ≤ 4 ∧ (lkI C M T).1 = 0) → LTx x y o C w nl M T := fun z => ⟨fun c hc => by
      rw [h8 c hc]
      unfold caT
      rw [if_neg (fun z2 => z ⟨z2.2.1, z2.2.2.1⟩)], h9t, h4t⟩
    have hMy := sIn_MM ho (fm_w fy (fun c k => sI0_In)) hM
    have wOf : soM C (M.2.2 T) ≤ 4 → (M.2.2 T).2.2.2.1 = 0 := fun c => by
      by_cases w0 : (M.2.2 T).2.2.2.1 = 0
      · exact w0
      · unfold soM at c; rw [if_neg w0] at c; omega
    refine kg_X2_inspectAct_39 hq he _ _ _ ⟨fun c => no y fy (fun z => ?_) (nca (fun z => ?_)), fun c => ?_⟩
    · rw [t_lt, k4, eso] at c
      have := z.2.1
      omega
    · rw [t_lt, k4, eso] at c
      have := z.1
      omega
    rw [t_lt, k4, eso] at c
    have so4 : soM C (M.2.2 T) ≤ 4 := by omega
    have w0 := wOf so4
    have sst : soM C (M.2.2 T) = st.1 := by unfold soM; rw [if_pos w0, s2]
    have hs := hs so4
    have ln : ob = -1 → ¬ (lkI C M T).1 = 0 := fun c2 => by
      rcases hs with ⟨-, -, e0, -⟩ | ⟨e, -⟩
      · rw [c2, tm1] at e0; omega
      · exact e
    refine ⟨fun c2 u eu => ?_, fun c2 => no y fy (fun z => ?_) (nca (fun z => ln c2 z.2))⟩
    rotate_left
    · rcases hs with ⟨-, -, e0, -⟩ | ⟨e, -⟩
      · rw [c2, tm1] at e0; omega
      · have := z.2.2.1
        rw [lkM_i w0 e] at this
        exact e this
    rw [et_r ht] at eu
    obtain ⟨l0, eob, ob0, ob1⟩ : (lkI C M T).1 = 0 ∧ ob = (lkI C M T).2 ∧ 0 ≤ ob.toInt ∧ ob.toInt < (x.1 60 6).toInt := by
      rcases hs with e | e
      · exact e
      · exact absurd e.2 c2
    have vo : vp_in ob 24 := by rw [vp_in_iff]; omega
    refine ⟨o, eu, ho, vo, kh_heldBy hq hm hMy (KM_In ho hM hK (fm_w fy (fun c k => sI0_In)) g).2 (by rw [fy 60 9 (fun z => by have := z.1; unfold sIn at this; omega)]; exact en) _ et (by omega) ⟨vo, fun x10 e10 => ⟨vo, ?_⟩⟩⟩
    have f10 : fm (sI0 o) x x10 := by rw [e10]; exact fm_si fy ⟨by unfold sIn; omega, by omega, by omega⟩
    have g10 := fm_w f10 (fun c k => sI0_In)
    have lt10 : LTx x x10 o C w nl M T := by
      refine ⟨fun c hc => ?_, fun a ha => by rw [e10, si_cell (by omega)]; exact h9t a ha, by rw [e10, si_cell (by omega)]; exact h4t⟩
      by_cases e : c = ob.toNatClampNeg
      · rw [e10, si_get, if_pos ⟨rfl, e⟩, ← e, h8 c hc]
        unfold caT
        rw [if_pos ⟨hcan, so4, l0, by rw [← eob]; exact e.symm⟩]
      · rw [e10, si_get, if_neg (fun z => e z.2), h8 c hc]
        unfold caT
        rw [if_neg (fun z => e (by rw [eob]; exact z.2.2.2.symm))]
    have hM10 := sIn_MM ho g10 hM
    obtain ⟨hK10, gm10⟩ := KM_In ho hM hK g10 g
    have e69 : x10.1 69 ob.toNatClampNeg = if suM C ob.toNatClampNeg = true then 1 else 0 := by
      have hl : ob.toNatClampNeg < C.2.2.1.length := by rw [t_cl]; omega
      have hg := List.getElem?_eq_getElem hl
      rw [(hK10.2.2.1.2 _ _ hg).2]
      unfold suM
      rw [hg]
    have lc : (lkM C w M T).2.1 = ob := by rw [lkM_c w0, eob]
    refine ⟨fun cs => no x10 f10 (fun z => ?_) lt10, fun cs => ?_⟩
    · have := z.2.2.2
      rw [lc] at this
      rw [e69, this] at cs
      exact cs rfl
    have su : suM C ob.toNatClampNeg = false := by
      cases hsu : suM C ob.toNatClampNeg with
      | false => rfl
      | true => rw [e69, hsu] at cs; exact absurd cs (by decide)
    refine kh_accessFails hq hm hM10 hK10 hN hX hX3 gm10 (by rw [g10 220 3 (by unfold sIn; omega)]; exact wy) w01 _ et hT h1 w0 (by rw [s2]; omega) (fun r14 w9 fw hr => ?_)
    have fw2 : fm (sI0 o) x w9 := fm_tr f10 (fm_w fw (fun c k q => by unfold sLk at q; unfold sI0 sIn; omega))
    have lt9 : LTx x w9 o C w nl M T := LTx_f (fun c k hc => fw c k (by unfold sLk; omega)) lt10
    refine ⟨fun rn => no w9 fw2 (fun z => (hr.mp rn) z.2.2.1) lt9, fun r0 => ⟨v6, fun x17 e17 => ⟨v6, fun x19 e19 => rv_i (h _ ?_ (Or.inl ?_) (LTx_f (fun c k hc => by rw [e19, si_cell (by omega), e17, si_cell (by omega)]) lt9))⟩⟩⟩
    · rw [e19, e17, tT]
      exact fm_si (fm_si (fm_w fw2 (fun c k => sI0_1)) ⟨by unfold sIn; omega, fun _ => rfl⟩) ⟨by unfold sIn; omega, fun _ => rfl⟩
    · have lk0 : (lkM C w M T).1 = 0 := by
        apply Classical.byContradiction
        intro z
        exact hr.mpr z r0
      have n9 : x19.1 209 T = ob := by rw [e19, si_cell (by omega), e17, si_get, if_pos ⟨rfl, tT.symm⟩]
      refine ⟨⟨hcan, so4, lk0, by rw [lc]; exact su⟩, by rw [n9, lc], by rw [n9]; exact ob0, by rw [e19, si_get, if_pos ⟨rfl, tT.symm⟩]⟩
  have after : ∀ s : Int32, s = Int32.ofNat (soM C (M.2.2 T)) → KT G q (d + 3) zk_X5_objectOf 0 [(0, vr 220), (1, vi t)] [] x (ri (fun r4 x3 => ((¬ (s = (5 : Int32)) → KT G q (d + 4) zk_X2_inspectAct 39 [(0, vr 200), (1, vi t), (2, vi s), (3, vi r4)] [] x3 (rv Fv)) ∧ (s = (5 : Int32) → (∀ u6, u6 = (kf q).1 200 7 → gokv (kf q).2.1 (vo u6) = true ∧ KT G q (d + 3) zk_X5_heldBy 0 [(0, vr 220), (1, vi t)] [] x3 (ri (fun r9 x8 => ∃ c10, u6 = some c10 ∧ kiT q c10 ∧ KT G q (d + 3) zk_X10_addTake 0 [(0, vr c10), (1, vi r9), (2, vi r4)] [] x8 (rv (fun x12 => KT G q (d + 4) zk_X2_inspectAct 39 [(0, vr 200), (1, vi t), (2, vi s), (3, vi r4)] [] x12 (rv Fv)))))))))) := by
    intro s hs
    subst hs
    refine kh_objectOf hq hm hM hK hN g _ et hT h1 (fun ob w9 fw hob hob2 => ?_)
    have fw2 : fm (sI0 o) x w9 := fm_w fw (fun c k q => by unfold sLk at q; unfold sI0 sIn; omega)
    have w8 : ∀ c k, c = o + 8 ∨ c = o + 9 ∨ (c = o ∧ k = 4) → w9.1 c k = x.1 c k := fun c k hc => fw c k (by unfold sLk; omega)
    have w4 := w8 o 4 (Or.inr (Or.inr ⟨rfl, rfl⟩))
    have k5 : (5 : Int32).toInt = 5 := rfl
    refine ⟨fun c5 => p39 _ _ fw2 (fun c _ => w8 _ _ (Or.inl rfl)) (fun a _ => ?_) w4 hob, fun c5 u eu => ?_⟩
    · rw [w8 _ _ (Or.inr (Or.inl rfl))]
      unfold tkT
      rw [if_neg (fun z => c5 (by rw [z.2.1]; rfl))]
    rw [et_r ht] at eu
    have so5 : soM C (M.2.2 T) = 5 := by rw [t_eq, eso, k5] at c5; omega
    have w0 : (M.2.2 T).2.2.2.1 = 0 := by
      by_cases w0 : (M.2.2 T).2.2.2.1 = 0
      · exact w0
      · unfold soM at so5; rw [if_neg w0] at so5; omega
    have st5 : st.1 = 5 := by unfold soM at so5; rw [if_pos w0, s2] at so5; exact so5
    have obE : obM C (M.2.2 T).2.2.1 = st.2.2.2.2.1.toNatClampNeg := by unfold obM; rw [s2]
    have lk : st.2.2.2.2.1.toInt = (obM C (M.2.2 T).2.2.1 : Nat) ∧ ((obM C (M.2.2 T).2.2.1 : Nat) : Int) < (x.1 60 9).toInt := by
      have a := hcs.2.1 (by omega) (by omega)
      rw [kn.2.2.2.2.1 (by omega)] at a
      rw [obE, t_cl]
      omega
    have eob : ob = Int32.ofNat (obM C (M.2.2 T).2.2.1) := by
      rcases hob2 (by omega) with e | e
      · rw [e, s2]; exact i32_of lk.1
      · rw [s2] at e; omega
    subst eob
    have hMw := sIn_MM ho (fm_w fw2 (fun c k => sI0_In)) hM
    refine ⟨?_, kh_heldBy hq hm hMw (KM_In ho hM hK (fm_w fw2 (fun c k => sI0_In)) g).2 (by rw [fw 60 9 (by unfold sLk; omega)]; exact en) _ et (by omega) ⟨o, eu, ho, kt_addTake3 hq ho _ (by omega) (fun v fv hv => p39 _ v (fm_tr fw2 (fm_w fv (fun c k q => by unfold sI0 sIn; omega))) (fun c _ => by rw [fv _ _ (by omega), w8 _ _ (Or.inl rfl)]) (fun a ha => ?_) (by rw [fv _ _ (by omega)]; exact w4) hob)⟩⟩
    · rw [eu]; exact gkr (kl_T0 hq ho)
    · rw [hv a ha, w8 _ _ (Or.inr (Or.inl rfl))]
      unfold tkT
      by_cases c : ¬ a = obM C (M.2.2 T).2.2.1 ∧ (hdN M T nl >>> (Int32.ofNat a &&& 31)) &&& 1 = 1
      · rw [if_pos c, if_pos ⟨hcan, so5, c⟩]
      · rw [if_neg c, if_neg (fun z => c z.2.2)]
  have w3 : rg x 220 T 3 = 0 ↔ (M.2.2 T).2.2.2.1 = 0 := kst_w3 hM hK hN hT (g.2 T hT)
  refine kg_X2_inspectAct_0 hq he _ (kp_sortOf hq hm hM.1 hM.2.1 _ et (by omega) hA (fun h0 => after _ ?_) (fun h0 => after _ ?_))
  · rw [s3, kn.1]
    unfold soM
    rw [if_pos (w3.mp h0), s2]
  · unfold soM
    rw [if_neg (fun z => h0 (w3.mpr z))]
    rfl
end KIN
end
section
/-! the class: all threads' accesses; races -/
/-- what all threads' acts tell of locks held, and whether one is idle -/
def LAx (x y : gd) (o : Nat) (C : gCo) (w nl : Nat) (M : gMa) : Prop := (∀ c, c < 24 → y.1 (o + 8) c = cmT C w nl M c C.2.1.length (x.1 (o + 8) c)) ∧ (∀ a, a < 6 → y.1 (o + 9) a = cbT C w nl M a C.2.1.length (x.1 (o + 9) a)) ∧ ((idM C w M ∧ y.1 o 4 = x.1 o 4 + 1) ∨ (¬ idM C w M ∧ y.1 o 4 = x.1 o 4))
/-- the same of the first k -/
def LBx (x y : gd) (o : Nat) (C : gCo) (w nl : Nat) (M : gMa) (k : Nat) (l : Int32) : Prop := (∀ c, c < 24 → y.1 (o + 8) c = cmT C w nl M c k (x.1 (o + 8) c)) ∧ (∀ a, a < 6 → y.1 (o + 9) a = cbT C w nl M a k (x.1 (o + 9) a)) ∧ y.1 o 4 = x.1 o 4 ∧ (¬ l = 0 ↔ ∃ t, t < k ∧ (M.2.2 t).1 = 1 ∧ ¬ canM C w M t)
section KIB
variable {G : kG} {q : kP} {d : Nat} {x y z : gd} {o : Nat} {F : Int32 → gd → Prop} {Fv : gd → Prop} {C : gCo} {M : gMa} {T w nl k : Nat} {l l' : Int32}
theorem AC_f (e9 : y.1 209 T = x.1 209 T) (e10 : y.1 210 T = x.1 210 T) (h : ACx x C w M T) : ACx y C w M T := by
  unfold ACx
  rw [e9, e10]
  exact h
theorem t_and1 (a : Int32) : a &&& 1 = 0 ∨ a &&& 1 = 1 := by
  have e : (a &&& 1).toBitVec.toNat = a.toBitVec.toNat % 2 := by
    rw [Int32.toBitVec_and, BitVec.toNat_and]
    exact Nat.and_two_pow_sub_one_eq_mod _ 1
  rcases Nat.mod_two_eq_zero_or_one a.toBitVec.toNat with h | h
  · exact Or.inl (Int32.toBitVec_inj.mp (BitVec.eq_of_toNat_eq (by rw [e, h]; rfl)))
  · exact Or.inr (Int32.toBitVec_inj.mp (BitVec.eq_of_toNat_eq (by rw [e, h]; rfl)))
theorem bit_or (a : Int32) {u t : Nat} (hu : u < 8) (ht : t < 8) : ((a ||| ((1 : Int32) <<< (Int32.ofNat u &&& 31))) >>> (Int32.ofNat t &&& 31)) &&& 1 = 1 ↔ ((a >>> (Int32.ofNat t &&& 31)) &&& 1 = 1 ∨ t = u) := by
  rw [or_sr, km_1 u hu t ht]
  have b : (a >>> (Int32.ofNat t &&& 31)) &&& 1 = 0 ∨ (a >>> (Int32.ofNat t &&& 31)) &&& 1 = 1 := t_and1 _
  by_cases c : t = u
  · rw [if_pos c]
    refine ⟨fun _ => Or.inr c, fun _ => ?_⟩
    rcases b with b | b <;> rw [b] <;> decide
  · rw [if_neg c]
    rcases b with b | b <;> rw [b]
    · exact ⟨fun z => absurd z (by decide), fun z => z.elim (fun z => absurd z (by decide)) (fun z => absurd z c)⟩
    · exact ⟨fun _ => Or.inl rfl, fun _ => by decide⟩
theorem LBx_f (e : ∀ c k, c = o + 8 ∨ c = o + 9 ∨ (c = o ∧ k = 4) → z.1 c k = y.1 c k) (h : LBx x y o C w nl M k l) : LBx x z o C w nl M k l := ⟨fun c hc => by rw [e _ _ (Or.inl rfl)]; exact h.1 c hc, fun a ha => by rw [e _ _ (Or.inr (Or.inl rfl))]; exact h.2.1 a ha, by rw [e _ _ (Or.inr (Or.inr ⟨rfl, rfl⟩))]; exact h.2.2.1, h.2.2.2⟩
/-- a thread that can do nothing -/
theorem LBx_n (h : LBx x y o C w nl M k l) (hn : ¬ canM C w M k) (hl : ¬ l' = 0 ↔ (¬ l = 0 ∨ (M.2.2 k).1 = 1)) : LBx x y o C w nl M (k + 1) l' := by
  refine ⟨fun c hc => ?_, fun a ha => ?_, h.2.2.1, ?_⟩
  · rw [cmT]
    unfold caT
    rw [if_neg (fun z => hn z.1)]; exact h.1 c hc
  · rw [cbT]
    unfold tkT
    rw [if_neg (fun z => hn z.1)]; exact h.2.1 a ha
  · rw [hl, h.2.2.2]
    constructor
    · rintro (⟨t, t1, t2⟩ | z)
      · exact ⟨t, by omega, t2⟩
      · exact ⟨k, by omega, z, hn⟩
    · rintro ⟨t, t1, t2⟩
      by_cases e : t = k
      · rw [e] at t2; exact Or.inr t2.1
      · exact Or.inl ⟨t, by omega, t2⟩
/-- a thread's act -/
theorem LBx_a (h : LBx x y o C w nl M k l) (hc : canM C w M k) (hl : LTx y z o C w nl M k) : LBx x z o C w nl M (k + 1) l := by
  refine ⟨fun c hc => ?_, fun a ha => ?_, by rw [hl.2.2]; exact h.2.2.1, ?_⟩
  · rw [hl.1 c hc, h.1 c hc, cmT]
  · rw [hl.2.1 a ha, h.2.1 a ha, cbT]
  · rw [h.2.2.2]
    constructor
    · rintro ⟨t, t1, t2⟩
      exact ⟨t, by omega, t2⟩
    · rintro ⟨t, t1, t2⟩
      by_cases e : t = k
      · rw [e] at t2; exact absurd hc t2.2
      · exact ⟨t, by omega, t2⟩
theorem kh_inspectActs (hq : kV q) (he : q.ex = true) (ho : kiT q o) (ht : q.et = some o) (hM : MM x 220) (hK : CK x C) (hN : NC C) (hX : NXc C) (hX3 : NX3 C) (g : KMm x 220 C M) (wy : x.1 220 3 = Int32.ofNat w) (w01 : w = 0 ∨ w = 1) (hL : LSk x 220) (hc : kchL x 220 (chM C w M)) (en : (x.1 60 9).toInt = (nl : Nat)) (h : ∀ y, fm (sIn o) x y → (∀ t, t < C.2.1.length → ACx y C w M t) → LAx x y o C w nl M → Fv y) : KT G q (d + 5) zk_X2_inspectActs 0 [(0, vr 200)] [] x (rv Fv) := by
  have hO := iT_O ho
  have hm : kiM q 220 := Or.inr ⟨rfl, he⟩
  have t6 := hM.1.1.2.2.1
  have nT : (x.1 60 10).toInt = C.2.1.length := hK.2.1.1
  have l84 := hL.1
  obtain ⟨c13, cch⟩ := hc
  have loop2 : ∀ (n k : Nat) (i l1 l2 : Int32) (y : gd), (∀ t, t < C.2.1.length → ((l1 >>> (Int32.ofNat t &&& 31)) &&& 1 = 1 ↔ canM C w M t)) → i.toInt = k → (x.1 60 10).toInt - k ≤ n → k ≤ C.2.1.length → fm (sIn o) x y → (∀ t, t < k → ACx y C w M t) → LBx x y o C w nl M k l2 → KT G q (d + 5) zk_X2_inspectActs 52 [(0, vr 200), (1, vi l1), (2, vi l2), (3, vi i)] [] y (rv Fv) := by
    intro n
    have out : ∀ (k : Nat) (i l2 : Int32) (y : gd), i.toInt = k → x.1 60 10 ≤ i → fm (sIn o) x y → k ≤ C.2.1.length → (∀ t, t < k → ACx y C w M t) → LBx x y o C w nl M k l2 → ((l2 = (0 : Int32) → rv Fv none y) ∧ (¬ (l2 = (0 : Int32)) → (∀ u3, u3 = (kf q).1 200 7 → ∃ c4, u3 = some c4 ∧ kiT q c4 ∧ (∀ x6, x6 = si y c4 4 ((y.1 c4 4) + 1) → rv Fv none x6)))) := by
      intro k i l2 y ei c fy hkl hac hlb
      rw [t_le] at c
      have ek : k = C.2.1.length := by clear hlb; omega
      rw [ek] at hlb
      obtain ⟨b1, b2, b3, b4⟩ := hlb
      have hac : ∀ t, t < C.2.1.length → ACx y C w M t := fun t ht => hac t (by rw [ek]; exact ht)
      refine ⟨fun c0 => rv_i (h y fy hac ⟨b1, b2, Or.inr ⟨fun z => b4.mpr z c0, b3⟩⟩), fun c0 u eu => ?_⟩
      rw [et_r ht] at eu
      exact ⟨o, eu, ho, fun z ez => rv_i (h z (by rw [ez]; exact fm_si fy (by unfold sIn; omega)) (fun t ht => AC_f (by rw [ez, si_cell (by omega)]) (by rw [ez, si_cell (by omega)]) (hac t ht)) ⟨fun c hc => by rw [ez, si_cell (by omega)]; exact b1 c hc, fun a ha => by rw [ez, si_cell (by omega)]; exact b2 a ha, Or.inl ⟨b4.mp c0, by rw [ez, si_get, if_pos ⟨rfl, rfl⟩, b3]⟩⟩)⟩
    induction n with
    | zero =>
      intro k i l1 l2 y hb ei hn hkl fy hac hlb
      refine kg_X2_inspectActs_52 hq he _ _ _ ⟨fun c => out k i l2 y ei (by rw [fy 60 10 (by unfold sIn; omega)] at c; exact c) fy hkl hac hlb, fun c => ?_⟩
      rw [t_le, fy 60 10 (by unfold sIn; omega)] at c; omega
    | succ n ih =>
      intro k i l1 l2 y hb ei hn hkl fy hac hlb
      refine kg_X2_inspectActs_52 hq he _ _ _ ⟨fun c => out k i l2 y ei (by rw [fy 60 10 (by unfold sIn; omega)] at c; exact c) fy hkl hac hlb, fun c => ?_⟩
      rw [t_le, fy 60 10 (by unfold sIn; omega)] at c
      have hk : k < C.2.1.length := by omega
      have e1 : (i + 1).toInt = ((k + 1 : Nat) : Int) := by rw [t_add (by show _ ≤ _ + (1 : Int); omega) (by show _ + (1 : Int) ≤ _; omega), ei]; rfl
      have iK : i.toNatClampNeg = k := by rw [t_cl, ei]; rfl
      have iO : i = Int32.ofNat k := i32_of ei
      refine ⟨by rw [vp_in_iff]; omega, fun z ez => ?_⟩
      rw [iK] at ez
      have fz : fm (sIn o) x z := by rw [ez]; exact fm_si fy (by unfold sIn; omega)
      have hMz := sIn_MM ho fz hM
      obtain ⟨hKz, gz⟩ := KM_In ho hM hK fz g
      have z9 : z.1 209 k = -1 := by rw [ez, si_get, if_pos ⟨rfl, rfl⟩]
      have hbk := hb k hk
      rw [← iO] at hbk
      have zac : ∀ t, t < k → ACx z C w M t := fun t ht => AC_f (by rw [ez, si_get, if_neg (by omega)]) (by rw [ez, si_get, if_neg (by omega)]) (hac t ht)
      have zlb : LBx x z o C w nl M k l2 := LBx_f (fun c k' hc => by rw [ez, si_cell (by omega)]) hlb
      have go : ∀ l2 w9, fm (sIn o) x w9 → (∀ t, t < k → ACx w9 C w M t) → ACx w9 C w M k → LBx x w9 o C w nl M (k + 1) l2 → KT G q (d + 5) zk_X2_inspectActs 52 [(0, vr 200), (1, vi l1), (2, vi l2), (3, vi (i + 1))] [] w9 (rv Fv) := fun l2 w9 fw a1 a2 a3 => ih (k + 1) _ _ _ w9 hb e1 (by push_cast; omega) hk fw (fun t ht => by
        by_cases e : t = k
        · rw [e]; exact a2
        · exact a1 t (by omega)) a3
      refine ⟨fun nb => ?_, fun b => kh_inspectAct hq he ho ht hMz hKz hN hX hX3 gz (by rw [fz 220 3 (by unfold sIn; omega)]; exact wy) w01 _ ei hk (hbk.mp b) z9 (by rw [fz 60 9 (by unfold sIn; omega)]; exact en) (fun w9 fw a2 a4 => go _ _ (fm_tr fz (fm_w fw (fun c k => sI1_In))) (fun t ht => AC_f (fw _ _ (fun q => by have := q.2 (Or.inl rfl); omega)) (fw _ _ (fun q => by have := q.2 (Or.inr rfl); omega)) (zac t ht)) a2 (LBx_a zlb (hbk.mp b) a4))⟩
      have na : ACx z C w M k := Or.inr ⟨fun q => nb (hbk.mpr q.1), z9⟩
      have nb' : ¬ canM C w M k := fun q => nb (hbk.mpr q)
      have k0 := kst0 (n := 1) (gz.2 k hk) (by omega)
      exact kp_isGoing hq hm hMz.1 hMz.2.1 _ ei (by omega) (fun c1 => ⟨fun z => absurd z (by decide), fun _ => go _ _ fz zac na (LBx_n zlb nb' ⟨fun _ => Or.inr (k0.mp c1), fun _ => by decide⟩)⟩) (fun c1 => ⟨fun _ => go _ _ fz zac na (LBx_n zlb nb' ⟨Or.inl, fun z => z.resolve_right (fun z => c1 (k0.mpr z))⟩), fun z => absurd rfl z⟩)
  have bits : ∀ (l1 : Int32), (∀ t, t < C.2.1.length → ((l1 >>> (Int32.ofNat t &&& 31)) &&& 1 = 1 ↔ ∃ i ch, i < (chM C w M).length ∧ (chM C w M)[i]? = some ch ∧ ch.2.1 = none ∧ ch.1 = t)) → ∀ t, t < C.2.1.length → ((l1 >>> (Int32.ofNat t &&& 31)) &&& 1 = 1 ↔ canM C w M t) := by
    intro l1 hb t ht
    rw [hb t ht, can_ch ht]
    constructor
    · rintro ⟨i, ch, -, h1, h2⟩
      exact ⟨ch, List.mem_of_getElem? h1, h2⟩
    · rintro ⟨ch, h1, h2⟩
      obtain ⟨i, hi⟩ := List.mem_iff_getElem?.mp h1
      exact ⟨i, ch, gt_lt hi, hi, h2⟩
  have loop : ∀ (n k : Nat) (i l1 : Int32), i.toInt = k → (x.1 220 13).toInt - k ≤ n → k ≤ (chM C w M).length → (∀ t, t < C.2.1.length → ((l1 >>> (Int32.ofNat t &&& 31)) &&& 1 = 1 ↔ ∃ i ch, i < k ∧ (chM C w M)[i]? = some ch ∧ ch.2.1 = none ∧ ch.1 = t)) → KT G q (d + 5) zk_X2_inspectActs 4 [(0, vr 200), (1, vi l1), (2, vi i)] [] x (rv Fv) := by
    intro n
    have fin : ∀ (k : Nat) (i l1 : Int32), i.toInt = k → k ≤ (chM C w M).length → (∀ t, t < C.2.1.length → ((l1 >>> (Int32.ofNat t &&& 31)) &&& 1 = 1 ↔ ∃ i ch, i < k ∧ (chM C w M)[i]? = some ch ∧ ch.2.1 = none ∧ ch.1 = t)) → x.1 220 13 ≤ i → KT G q (d + 5) zk_X2_inspectActs 52 [(0, vr 200), (1, vi l1), (2, vi 0), (3, vi 0)] [] x (rv Fv) := by
      intro k i l1 ei hkl hb c
      rw [t_le] at c
      have ek : k = (chM C w M).length := by clear hb; omega
      rw [ek] at hb
      exact loop2 6 0 _ _ _ x (bits l1 hb) rfl (by clear hb; omega) (Nat.zero_le _) (fm_rf _ _) (fun t ht => absurd ht (Nat.not_lt_zero _)) ⟨fun _ _ => rfl, fun _ _ => rfl, rfl, ⟨fun z => absurd rfl z, fun ⟨t, z, _⟩ => absurd z (Nat.not_lt_zero _)⟩⟩
    induction n with
    | zero =>
      intro k i l1 ei hn hkl hb
      refine kg_X2_inspectActs_4 hq he _ _ ⟨fun c => fin k i l1 ei hkl hb c, fun c => ?_⟩
      clear hb
      rw [t_le] at c; omega
    | succ n ih =>
      intro k i l1 ei hn hkl hb
      refine kg_X2_inspectActs_4 hq he _ _ ⟨fun c => fin k i l1 ei hkl hb c, fun c => ?_⟩
      rw [t_le] at c
      have hk : k < (chM C w M).length := by clear hb; omega
      have e1 : (i + 1).toInt = ((k + 1 : Nat) : Int) := by clear hb; rw [t_add (by show _ ≤ _ + (1 : Int); omega) (by show _ + (1 : Int) ≤ _; omega), ei]; rfl
      have v84 : vp_in i 84 := by clear hb; rw [vp_in_iff]; omega
      have iK : i.toNatClampNeg = k := by rw [t_cl, ei]; rfl
      obtain ⟨ch, hch⟩ : ∃ ch, (chM C w M)[k]? = some ch := ⟨_, List.getElem?_eq_getElem hk⟩
      obtain ⟨q1, q2, q3, -, -⟩ := cch k ch hch
      have cin := ch_in (List.mem_of_getElem? hch)
      have h6 : ch.1 < 6 := by have := cin.1; clear hb; omega
      have nxt : ∀ t, (∃ i ch', i < k + 1 ∧ (chM C w M)[i]? = some ch' ∧ ch'.2.1 = none ∧ ch'.1 = t) ↔ ((∃ i ch', i < k ∧ (chM C w M)[i]? = some ch' ∧ ch'.2.1 = none ∧ ch'.1 = t) ∨ (ch.2.1 = none ∧ ch.1 = t)) := by
        intro t
        constructor
        · rintro ⟨i, ch', i1, i2, i3⟩
          by_cases e : i = k
          · rw [e, hch] at i2
            rw [Option.some.inj i2]
            exact Or.inr i3
          · exact Or.inl ⟨i, ch', by omega, i2, i3⟩
        · rintro (⟨i, ch', i1, i2, i3⟩ | i3)
          · exact ⟨i, ch', by omega, i2, i3⟩
          · exact ⟨k, ch, by omega, hch, i3⟩
      rw [iK]
      refine ⟨v84, fun cn => ih (k + 1) _ _ e1 (by clear hb nxt; push_cast; omega) hk (fun t ht => ?_), fun cn => ⟨v84, ih (k + 1) _ _ e1 (by clear hb nxt; push_cast; omega) hk (fun t ht => ?_)⟩⟩
      · rw [hb t ht, nxt t]
        exact ⟨Or.inl, fun z => z.elim id (fun z => absurd (q2 z.1) cn)⟩
      · have cn : x.1 (220 + 12) k = -1 := cn
        have q1 : x.1 231 k = Int32.ofNat ch.1 := q1
        have c0 : ch.2.1 = none := by
          cases hz : ch.2.1 with
          | none => rfl
          | some j =>
            have jl := cin.2.2 j hz
            have l7 := (g.2 _ cin.1).2.2.2.2.2.2.1.1
            have l8 := (hM.2.2 ch.1 (by have := cin.1; clear hb nxt; omega)).1.2.1
            have e := q3 j hz
            rw [cn] at e
            have e2 : (Int32.ofNat j).toInt = (j : Nat) := Int32.toInt_ofNat_of_lt (by clear hb nxt; omega)
            rw [← e, tm1] at e2
            clear hb nxt
            omega
        have ht6 : t < 6 := by clear hb nxt; omega
        rw [q1, bit_or _ (by omega) (by omega), hb t ht, nxt t]
        exact or_congr Iff.rfl ⟨fun e => ⟨c0, e.symm⟩, fun e => e.2.symm⟩
  refine kg_X2_inspectActs_0 hq he (loop 84 0 _ _ rfl (by omega) (Nat.zero_le _) (fun t ht => ?_))
  rw [km_0 t (by omega)]
  exact ⟨fun z => absurd z (by decide), fun ⟨i, ch, z, _⟩ => absurd z (Nat.not_lt_zero _)⟩
theorem kh_isRacing (hq : kV q) (he : q.ex = true) (hM : MM x 220) (hK : CK x C) (hN : NC C) (g : KMm x 220 C M) (hac : ∀ t, t < C.2.1.length → ACx x C w M t) (h : ∀ r : Int32, (¬ r = 0 ↔ rcM C w M) → F r x) : KT G q (d + 1) zk_X2_isRacing 0 [(0, vr 200)] [] x (ri F) := by
  have t6 := hM.1.1.2.2.1
  have nT : (x.1 60 10).toInt = C.2.1.length := hK.2.1.1
  have so22 : ∀ t, t < C.2.1.length → soM C (M.2.2 t) < 22 := fun t ht => by
    obtain ⟨st, s1, s2, s3, s4, s5, kn, ns⟩ := kst_at hM hK hN ht (g.2 t ht)
    have n22 := ns.1.1
    unfold soM
    split
    · rw [s2]; exact n22
    · omega
  obtain ⟨P, hP⟩ : ∃ P : Nat → Nat → Prop, ∀ t u, P t u ↔ (axM C w M t ∧ axM C w M u ∧ (lkM C w M t).2.1 = (lkM C w M u).2.1 ∧ srM (soM C (M.2.2 t)) (soM C (M.2.2 u))) := ⟨_, fun t u => Iff.rfl⟩
  have yes : ∀ t u, u < t → t < C.2.1.length → P t u → ri F (some (vi 1)) x := fun t u h1 h2 h3 => ri_i (h _ ⟨fun _ => ⟨t, u, h1, h2, (hP t u).mp h3⟩, fun _ => by decide⟩)
  have outer : ∀ (m j : Nat) (t : Int32), t.toInt = j → (x.1 60 10).toInt - j ≤ m → (∀ t, t < j → ∀ u, u < t → ¬ P t u) → KT G q (d + 1) zk_X2_isRacing 2 [(0, vr 200), (1, vi t)] [] x (ri F) := by
    intro m
    have fin : ∀ (j : Nat) (t : Int32), t.toInt = j → (∀ t, t < j → ∀ u, u < t → ¬ P t u) → x.1 60 10 ≤ t → ri F (some (vi 0)) x := fun j t ej hno c => ri_i (h _ ⟨fun z => absurd rfl z, fun ⟨t9, u, a1, a2, a3⟩ => absurd ((hP t9 u).mpr a3) (hno t9 (by rw [t_le] at c; omega) u a1)⟩)
    induction m with
    | zero =>
      intro j t ej hm hno
      refine kg_X2_isRacing_2 hq he _ ⟨fun c => fin j t ej hno c, fun c => ?_⟩
      rw [t_le] at c; omega
    | succ m ih =>
      intro j t ej hm hno
      refine kg_X2_isRacing_2 hq he _ ⟨fun c => fin j t ej hno c, fun c => ?_⟩
      rw [t_le] at c
      have hj : j < C.2.1.length := by omega
      have e1 : (t + 1).toInt = ((j + 1 : Nat) : Int) := by rw [t_add (by show _ ≤ _ + (1 : Int); omega) (by show _ + (1 : Int) ≤ _; omega), ej]; rfl
      have vt : vp_in t 6 := by rw [vp_in_iff]; omega
      have tJ : t.toNatClampNeg = j := by rw [t_cl, ej]; rfl
      have loop : ∀ (n k : Nat) (u : Int32), u.toInt = k → (j : Int) - k ≤ n → (∀ u, u < k → ¬ P j u) → KT G q (d + 1) zk_X2_isRacing 15 [(0, vr 200), (1, vi t), (2, vi u)] [] x (ri F) := by
        intro n
        have nx : ∀ (k : Nat) (u : Int32), u.toInt = k → (∀ u, u < k → ¬ P j u) → t ≤ u → KT G q (d + 1) zk_X2_isRacing 2 [(0, vr 200), (1, vi (t + 1))] [] x (ri F) := fun k u eu hnu c => ih (j + 1) _ e1 (by push_cast; omega) (fun t9 h9 u9 hu9 => by
          rw [t_le] at c
          by_cases e : t9 = j
          · rw [e]; exact hnu u9 (by omega)
          · exact hno t9 (by omega) u9 hu9)
        induction n with
        | zero =>
          intro k u eu hn hnu
          refine kg_X2_isRacing_15 hq he _ _ ⟨fun c => nx k u eu hnu c, fun c => ?_⟩
          rw [t_le] at c; omega
        | succ n ihn =>
          intro k u eu hn hnu
          refine kg_X2_isRacing_15 hq he _ _ ⟨fun c => nx k u eu hnu c, fun c => ?_⟩
          rw [t_le] at c
          have hk : k < j := by omega
          have eu1 : (u + 1).toInt = ((k + 1 : Nat) : Int) := by rw [t_add (by show _ ≤ _ + (1 : Int); omega) (by show _ + (1 : Int) ≤ _; omega), eu]; rfl
          have vu : vp_in u 6 := by rw [vp_in_iff]; omega
          have uK : u.toNatClampNeg = k := by rw [t_cl, eu]; rfl
          have go : ¬ P j k → KT G q (d + 1) zk_X2_isRacing 15 [(0, vr 200), (1, vi t), (2, vi (u + 1))] [] x (ri F) := fun np => ihn (k + 1) _ eu1 (by push_cast; omega) (fun u9 hu9 => by
            by_cases e : u9 = k
            · rw [e]; exact np
            · exact hnu u9 (by omega))
          rw [tJ, uK]
          have aj := hac j hj
          have ak := hac k (by omega)
          refine ⟨vt, fun cj => go (fun p => ?_), fun cj => ⟨vt, vu, fun ce => go (fun p => ?_), fun ce => ⟨vt, vu, ?_⟩⟩⟩
          · have p := (hP _ _).mp p
            rcases aj with ⟨-, -, a0, -⟩ | ⟨a, -⟩
            · rw [cj, tm1] at a0; omega
            · exact a p.1
          · have p := (hP _ _).mp p
            rcases aj with ⟨-, a1, -⟩ | ⟨a, -⟩
            · rcases ak with ⟨-, b1, -⟩ | ⟨b, -⟩
              · exact ce (by rw [a1, b1]; exact p.2.2.1)
              · exact b p.2.1
            · exact a p.1
          · rcases aj with ⟨a0, a1, a2, a3⟩ | ⟨a, a9⟩
            rotate_left
            · exact absurd a9 cj
            rcases ak with ⟨b0, b1, b2, b3⟩ | ⟨b, b9⟩
            rotate_left
            · rw [b9] at ce; exact absurd ce cj
            rw [a3, b3]
            refine kh_sortsRace hq (so22 j hj) (so22 k (by omega)) (fun r hr => ⟨fun r0 => go (fun p => ?_), fun rn => yes j k hk hj ((hP _ _).mpr ⟨a0, b0, ?_, hr.mp rn⟩)⟩)
            · exact hr.mpr ((hP _ _).mp p).2.2.2 r0
            · rw [← a1, ← b1]; exact ce
      exact loop 6 0 _ rfl (by omega) (fun u hu => absurd hu (Nat.not_lt_zero _))
  exact kg_X2_isRacing_0 hq he (outer 6 0 _ rfl (by omega) (fun t ht => absurd ht (Nat.not_lt_zero _)))
end KIB
end
section
/-! the class: a state is looked at, what it shows is noted -/
/-- findings of D are noted with state s, where none was -/
def FAs (x0 x : gd) (o : Nat) (s : Int32) (D : Nat → Prop) : Prop := ∀ f, f < 11 → (D f ∧ x0.1 (o + 7) f = -1 ∧ x.1 (o + 7) f = s) ∨ (¬ (D f ∧ x0.1 (o + 7) f = -1) ∧ x.1 (o + 7) f = x0.1 (o + 7) f)
def fD (C : gCo) (w : Nat) (M : gMa) (n f : Nat) : Prop := f < n ∧ fnM C w M f
/-- an end is noted -/
def KEx (x y : gd) (o : Nat) (C : gCo) (M : gMa) (L : List (List Int32)) : Prop := y.1 o 2 = x.1 o 2 + 1 ∧ y.1 o 5 = x.1 o 5 ∧ OUk y o (inR (roM C M) L)
/-- choices are added, an end is noted where none is -/
def KIx (x y : gd) (o : Nat) (C : gCo) (w : Nat) (M : gMa) (L : List (List Int32)) : Prop := y.1 o 5 = x.1 o 5 + x.1 220 13 ∧ ((chM C w M = [] ∧ y.1 o 2 = x.1 o 2 + 1 ∧ OUk y o (inR (roM C M) L)) ∨ (¬ chM C w M = [] ∧ y.1 o 2 = x.1 o 2 ∧ OUk y o L))
section KLO
variable {G : kG} {q q1 : kP} {d : Nat} {x x0 y z : gd} {o : Nat} {F : Int32 → gd → Prop} {Fv : gd → Prop} {Fm : gd → kP → Prop} {X : String → gd → kP → Prop} {C : gCo} {M : gMa} {T w n m : Nat} {s : Int32} {D D' : Nat → Prop} {L : List (List Int32)}
theorem OUk_f (e3 : y.1 o 3 = x.1 o 3) (e14 : ∀ k, y.1 (o + 14) k = x.1 (o + 14) k) (er : ∀ c k, 4000 ≤ c → y.1 c k = x.1 c k) (h : OUk x o L) : OUk y o L := by
  refine ⟨by rw [e3]; exact h.1, fun i r hr c v hv => ?_⟩
  rw [e14, er _ _ (orw_ge _)]; exact h.2 i r hr c v hv
theorem KEx_f (e : ∀ c k, (c = o ∧ (k = 2 ∨ k = 3 ∨ k = 5)) ∨ c = o + 14 ∨ 4000 ≤ c → z.1 c k = y.1 c k) (h : KEx x y o C M L) : KEx x z o C M L := ⟨by rw [e _ _ (by omega)]; exact h.1, by rw [e _ _ (by omega)]; exact h.2.1, OUk_f (e _ _ (by omega)) (fun k => e _ _ (by omega)) (fun c k hc => e _ _ (by omega)) h.2.2⟩
theorem KIx_f (e : ∀ c k, (c = o ∧ (k = 2 ∨ k = 3 ∨ k = 5)) ∨ c = o + 14 ∨ 4000 ≤ c → z.1 c k = y.1 c k) (h : KIx x y o C w M L) : KIx x z o C w M L := by
  refine ⟨by rw [e _ _ (by omega)]; exact h.1, ?_⟩
  rcases h.2 with ⟨h1, h2, h3⟩ | ⟨h1, h2, h3⟩
  · exact Or.inl ⟨h1, by rw [e _ _ (by omega)]; exact h2, OUk_f (e _ _ (by omega)) (fun k => e _ _ (by omega)) (fun c k hc => e _ _ (by omega)) h3⟩
  · exact Or.inr ⟨h1, by rw [e _ _ (by omega)]; exact h2, OUk_f (e _ _ (by omega)) (fun k => e _ _ (by omega)) (fun c k hc => e _ _ (by omega)) h3⟩
/-- a row's values are the cells' -/
theorem ro_at {c : Nat} {v : Int32} (h : (roM C M)[c]? = some v) : c < C.2.2.1.length ∧ v = M.1 c := by
  unfold roM at h
  rw [List.getElem?_map] at h
  by_cases hc : c < C.2.2.1.length
  · rw [List.getElem?_range hc] at h
    exact ⟨hc, (Option.some.inj h).symm⟩
  · rw [List.getElem?_eq_none (by rw [List.length_range]; omega)] at h; cases h
theorem FAs_f (e : ∀ f, y.1 (o + 7) f = x.1 (o + 7) f) (h : FAs x0 x o s D) : FAs x0 y o s D := fun f hf => by
  rw [e f]; exact h f hf
theorem FAs_c (e : ∀ f, f < 11 → (D f ↔ D' f)) (h : FAs x0 x o s D) : FAs x0 x o s D' := fun f hf => by
  rw [← e f hf]; exact h f hf
theorem FAs_more (hm : n ≤ m) (hn : ∀ f, n ≤ f → f < m → ¬ fnM C w M f) (h : FAs x0 x o s (fD C w M n)) : FAs x0 x o s (fD C w M m) := FAs_c (fun f _ => ⟨fun z => ⟨by have := z.1; omega, z.2⟩, fun z => ⟨by
  apply Classical.byContradiction
  intro c
  exact hn f (by omega) z.1 z.2, z.2⟩⟩) h
theorem FAs_find (hs : 0 ≤ s.toInt) (hf : fnM C w M n) (e : ∀ k, ¬ k = n → y.1 (o + 7) k = x.1 (o + 7) k) (e1 : x.1 (o + 7) n = -1 → y.1 (o + 7) n = s) (e2 : ¬ x.1 (o + 7) n = -1 → y.1 (o + 7) n = x.1 (o + 7) n) (h : FAs x0 x o s (fD C w M n)) : FAs x0 y o s (fD C w M (n + 1)) := by
  intro f hf9
  by_cases c : f = n
  · rw [c]
    have hD : fD C w M (n + 1) n := ⟨by omega, hf⟩
    have nD : ¬ fD C w M n n := fun z => by have := z.1; omega
    rcases h n (by omega) with ⟨a, -⟩ | ⟨-, a⟩
    · exact absurd a nD
    · by_cases c9 : x0.1 (o + 7) n = -1
      · exact Or.inl ⟨hD, c9, e1 (by rw [a]; exact c9)⟩
      · exact Or.inr ⟨fun z => c9 z.2, by rw [e2 (by rw [a]; exact c9)]; exact a⟩
  · have hD : fD C w M (n + 1) f ↔ fD C w M n f := ⟨fun z => ⟨by have := z.1; omega, z.2⟩, fun z => ⟨by have := z.1; omega, z.2⟩⟩
    rw [hD, e f c]; exact h f hf9
theorem kt_find3 (hq : kV q) (ho : kiT q o) (f s : Int32) {Fn : Nat} (ef : f.toInt = Fn) (hF : Fn < 11) (hz : TZ x o) (hs : 0 ≤ s.toInt ∧ s.toInt < (x.1 o 0).toInt) (h : ∀ y, fm (fun c k => c = o + 7) x y → TZ y o → (∀ k, ¬ k = Fn → y.1 (o + 7) k = x.1 (o + 7) k) → (x.1 (o + 7) Fn = -1 → y.1 (o + 7) Fn = s) → (¬ x.1 (o + 7) Fn = -1 → y.1 (o + 7) Fn = x.1 (o + 7) Fn) → Fv y) : KT G q d zk_X10_find 0 [(0, vr o), (1, vi f), (2, vi s)] [] x (rv Fv) := by
  have vf : vp_in f 11 := by rw [vp_in_iff]; omega
  have eF : f.toNatClampNeg = Fn := by rw [t_cl, ef]; rfl
  refine kg_X10_find_0 hq ho _ _ ⟨vf, fun c => rv_i (h x (fm_rf _ _) hz (fun _ _ => rfl) (fun c2 => absurd (by rw [eF]; exact c2) c) (fun _ => rfl)), fun c => ⟨vf, fun z ez => rv_i (h z ?_ ?_ (fun k hk => ?_) (fun _ => ?_) (fun c2 => absurd (by rw [eF] at c; exact c) c2))⟩⟩
  · rw [ez]; exact fm_si (fm_rf _ _) rfl
  · rw [eF] at ez
    obtain ⟨b, hf, hs2⟩ := hz
    have g : ∀ c k, ¬ c = o + 7 → z.1 c k = x.1 c k := fun c k hc => by rw [ez, si_cell hc]
    unfold TZ
    rw [g o 0 (by omega)]
    refine ⟨b, fun k hk => ?_, fun k hk => ?_⟩
    · by_cases h9 : k = Fn
      · have : z.1 (o + 7) k = s := by rw [ez, h9, si_get, if_pos ⟨rfl, rfl⟩]
        rw [this]; exact Or.inr hs
      · have : z.1 (o + 7) k = x.1 (o + 7) k := by rw [ez, si_get, if_neg (fun q => h9 q.2)]
        rw [this]; exact hf k hk
    · rw [g (o + 12) k (by omega), g (o + 10) k (by omega), g (o + 12) _ (by omega)]; exact hs2 k hk
  · rw [ez, si_get, if_neg (fun q => hk (by rw [← eF]; exact q.2))]
  · rw [ez, si_get, if_pos ⟨rfl, eF.symm⟩]
theorem fn_lt4 (h : n < 4) : fnM C w M n ↔ ∃ Q, C.2.2.2.1[n]? = some Q ∧ badC M Q := by
  unfold fnM
  constructor
  · rintro (z | z | z | z | z)
    · exact z.2
    all_goals (exfalso; have := z.1; omega)
  · intro z; exact Or.inl ⟨h, z⟩
theorem fn_4 (h : n < 4) : fnM C w M (4 + n) ↔ (chM C w M = [] ∧ ¬ goM C M ∧ ∃ Q, C.2.2.2.2[n]? = some Q ∧ badC M Q) := by
  unfold fnM
  rw [show 4 + n - 4 = n by omega]
  constructor
  · rintro (z | z | z | z | z)
    · exfalso; have := z.1; omega
    · exact z.2.2
    all_goals (exfalso; have := z.1; omega)
  · intro z; exact Or.inr (Or.inl ⟨by omega, by omega, z⟩)
theorem fn_8 : fnM C w M 8 ↔ (chM C w M = [] ∧ goM C M) := by
  unfold fnM
  constructor
  · rintro (z | z | z | z | z)
    · exfalso; have := z.1; omega
    · exfalso; have := z.2.1; omega
    · exact z.2
    all_goals (exfalso; have := z.1; omega)
  · intro z; exact Or.inr (Or.inr (Or.inl ⟨rfl, z⟩))
theorem fn_9 : fnM C w M 9 ↔ ∃ t, t < C.2.1.length ∧ (M.2.2 t).1 = 3 := by
  unfold fnM
  constructor
  · rintro (z | z | z | z | z)
    · exfalso; have := z.1; omega
    · exfalso; have := z.2.1; omega
    · exfalso; have := z.1; omega
    · exact z.2
    · exfalso; have := z.1; omega
  · intro z; exact Or.inr (Or.inr (Or.inr (Or.inl ⟨rfl, z⟩)))
theorem fn_10 : fnM C w M 10 ↔ rcM C w M := by
  unfold fnM
  constructor
  · rintro (z | z | z | z | z)
    · exfalso; have := z.1; omega
    · exfalso; have := z.2.1; omega
    · exfalso; have := z.1; omega
    · exfalso; have := z.1; omega
    · exact z.2
  · intro z; exact Or.inr (Or.inr (Or.inr (Or.inr ⟨rfl, z⟩)))
/-- looking at a state keeps the machine -/
theorem KM_Vi (hO : o = 260 ∨ o = 280) (hM : MM x0 220) (hK : CK x0 C) (f : fm (sVi o) x0 x) (g : KMm x0 220 C M) : CK x C ∧ KMm x 220 C M :=
  ⟨CK_f hK (fun c k hc => f c k (by unfold sVi; omega)), KMm_in hM hK (gm_ag (fun c k hc => f c k (by unfold sVi; omega)) (fun k h1 h2 => f _ _ (by unfold sVi; omega))) (fun k _ => f _ _ (by unfold sVi; omega)) g⟩
theorem kh_inspectEnd (hu : kU q) (he : q.ex = true) (ho : kiT q o) (ht : q.et = some o) (hM0 : MM x0 220) (hK0 : CK x0 C) (hN : NC C) (hq2 : NCq C) (g0 : KMm x0 220 C M) (hV : VI x0 x q o) (s : Int32) (hs : 0 ≤ s.toInt ∧ s.toInt < (x.1 o 0).toInt) (he0 : chM C w M = []) (hFA : FAs x0 x o s (fD C w M 4)) (hL : OUk x o L) (hlt : L.length < 3000) (hso : soR L) (hll : ∀ t ∈ L, t.length = C.2.2.1.length) (h : ∀ y q1, kU q1 → kle q q1 → q1.et = q.et → VI x0 y q1 o → FAs x0 y o s (fD C w M 9) → KEx x y o C M L → Fm y q1) : KM G q (d + 4) zk_X2_inspectEnd 0 [(0, vr 200), (1, vi s)] [] x (rm q Fm) X := by
  have hO := iT_O ho
  have k1 : (1 : Int32).toInt = 1 := rfl
  have cl : 0 ≤ (x.1 60 6).toInt ∧ (x.1 60 6).toInt ≤ 24 := hV.2.1.1.1.1
  have cf : 0 ≤ (x.1 60 16).toInt ∧ (x.1 60 16).toInt ≤ 4 := hV.2.1.1.1.2.2.2.2.2
  obtain ⟨hKx, gx⟩ := KM_Vi hO hM0 hK0 hV.1 g0
  have nF : (x.1 60 16).toInt = C.2.2.2.2.length := hKx.2.2.2.2.1
  refine kg_X2_inspectEnd_0 hu he s (fun u1 e1 => ⟨o, by rw [e1, et_r ht], ho, fun x4 e4 u5 e5 => ⟨o, by rw [e5, et_r ht], ho, ?_⟩⟩)
  have f4 : fm (fun c k => (c = o ∧ (k = 2 ∨ k = 5)) ∨ (c = 60 ∧ k = 5) ∨ c = 65) x x4 := by rw [e4]; exact fm_si (fm_rf _ _) (by omega)
  have hV4 := VI_st hO hV f4
  rw [f4 60 6 (by omega)]
  have nC : (x.1 60 6).toInt = (C.2.2.1.length : Nat) := hKx.2.2.1.1
  refine kt_addOutcome3 (r := roM C M) (L := L) hu ho kk_225 (kl_225 hu.1 he) (by omega) (by omega) _ hV4.2.2.2 nC (by omega) (OUk_f (f4 _ _ (by omega)) (fun k => f4 _ _ (by omega)) (fun c k hc => f4 _ _ (by omega)) hL) hlt hso hll (by unfold roM; rw [List.length_map, List.length_range]) (fun c v hv => ?_) (fun x8 q9 hu9 hl9 et9 f8 ht8 ou8 => ?_)
  · obtain ⟨h1, h2⟩ := ro_at hv
    rw [h2, f4 225 c (by omega)]
    exact gx.1.1 c (by omega)
  have ke8 : KEx x x8 o C M L := ⟨by rw [f8 o 2 (by unfold sOu; omega), e4, si_get, if_pos ⟨rfl, rfl⟩], by rw [f8 o 5 (by unfold sOu; omega), e4, si_get, if_neg (by omega)], ou8⟩
  have hV8 := VI_ou hO hV4 f8 ht8
  have ho9 := kle_T hl9 ho
  have he9 := hl9.2.1.2.1 he
  have ht9 : q9.et = some o := by rw [et9]; exact ht
  have e80 : x8.1 o 0 = x.1 o 0 := by rw [f8 o 0 (by unfold sOu; omega), f4 o 0 (by omega)]
  have e86 : x8.1 60 16 = x.1 60 16 := by rw [f8 60 16 (by unfold sOu; omega), f4 60 16 (by omega)]
  have FA8 : FAs x0 x8 o s (fD C w M 4) := FAs_f (fun f => by rw [f8 _ _ (by unfold sOu; omega), f4 _ _ (by omega)]) hFA
  have loop : ¬ goM C M → ∀ (m k : Nat) (i : Int32) (w9 : gd), i.toInt = k → (x.1 60 16).toInt - k ≤ m → (k : Int) ≤ (x.1 60 16).toInt → VI x0 w9 q9 o → w9.1 o 0 = x.1 o 0 → w9.1 60 16 = x.1 60 16 → FAs x0 w9 o s (fD C w M (4 + k)) → KEx x w9 o C M L → KM G q9 (d + 4) zk_X2_inspectEnd 57 [(0, vr 200), (1, vi s), (2, vi i)] [] w9 (rm q Fm) X := by
    intro ngo m
    have fin : ∀ (k : Nat) (i : Int32) (w9 : gd), i.toInt = k → (k : Int) ≤ (x.1 60 16).toInt → VI x0 w9 q9 o → w9.1 60 16 = x.1 60 16 → FAs x0 w9 o s (fD C w M (4 + k)) → KEx x w9 o C M L → w9.1 60 16 ≤ i → rm q Fm none w9 q9 := by
      intro k i w9 ei hk hw ew2 hfa hke c
      rw [t_le, ew2] at c
      have kk : k = C.2.2.2.2.length := by omega
      refine rm_i hu9 hl9 (h w9 q9 hu9 hl9 et9 hw (FAs_more (n := 4 + k) (by omega) (fun f h1 h2 z => ?_) hfa) hke)
      by_cases c8 : f = 8
      · rw [c8, fn_8] at z; exact ngo z.2
      · obtain ⟨f', ef⟩ : ∃ f', f = 4 + f' := ⟨f - 4, by omega⟩
        rw [ef, fn_4 (by omega)] at z
        obtain ⟨-, -, Q, hQ, -⟩ := z
        have := gt_lt hQ
        omega
    induction m with
    | zero =>
      intro k i w9 ei hm hk hw ew ew2 hfa hke
      refine kg_X2_inspectEnd_57 hu9 he9 s i ⟨fun c => fin k i w9 ei hk hw ew2 hfa hke c, fun c => ?_⟩
      rw [t_le, ew2] at c; omega
    | succ m ih =>
      intro k i w9 ei hm hk hw ew ew2 hfa hke
      refine kg_X2_inspectEnd_57 hu9 he9 s i ⟨fun c => fin k i w9 ei hk hw ew2 hfa hke c, fun c => ⟨?_, ?_⟩⟩
      · rw [t_le, ew2] at c; rw [vp_in_iff]; omega
      rw [t_le, ew2] at c
      have e1 : (i + 1).toInt = ((k + 1 : Nat) : Int) := by rw [t_add (by rw [k1]; omega) (by rw [k1]; omega), k1, ei]; rfl
      have e4 : (4 + i).toInt = ((4 + k : Nat) : Int) := by
        have k4 : (4 : Int32).toInt = 4 := rfl
        rw [t_add (by rw [k4]; omega) (by rw [k4]; omega), k4, ei]; push_cast; rfl
      have hkl : k < C.2.2.2.2.length := by omega
      obtain ⟨Q, hQ⟩ : ∃ Q, C.2.2.2.2[k]? = some Q := ⟨_, List.getElem?_eq_getElem hkl⟩
      obtain ⟨hKw, gw⟩ := KM_Vi hO hM0 hK0 hw.1 g0
      have iK : i.toNatClampNeg = k := by rw [t_cl, ei]; rfl
      rw [iK]
      refine kh_isFalse hu9.1 he9 hw.2.1 hKw hN hq2 gw _ (hKw.2.2.2.2.2 k Q hQ) (Or.inr (List.mem_of_getElem? hQ)) (fun r v gr fv hr => ?_)
      have fv2 : fm (fun c k => (c = o ∧ (k = 2 ∨ k = 5)) ∨ (c = 60 ∧ k = 5) ∨ c = 65) w9 v := fm_w fv (fun c k q => by unfold sWk at q; omega)
      have hv := VI_st hO hw fv2
      have ev : v.1 o 0 = x.1 o 0 := by rw [fv2 o 0 (by omega), ew]
      have ev2 : v.1 60 16 = x.1 60 16 := by rw [fv2 60 16 (by omega), ew2]
      have hfv : FAs x0 v o s (fD C w M (4 + k)) := FAs_f (fun f => fv2 _ _ (by omega)) hfa
      have hkv : KEx x v o C M L := KEx_f (fun c k hc => fv _ _ (by unfold sWk; omega)) hke
      have fn : fnM C w M (4 + k) ↔ badC M Q := by
        rw [fn_4 (by omega)]
        refine ⟨fun ⟨_, _, Q9, h9, b⟩ => ?_, fun b => ⟨he0, ngo, Q, hQ, b⟩⟩
        rw [hQ] at h9
        rw [Option.some.inj h9]; exact b
      refine ⟨fun r0 => ih (k + 1) _ v e1 (by push_cast; omega) (by push_cast; omega) hv ev ev2 (FAs_more (n := 4 + k) (by omega) (fun f h1 h2 z => ?_) hfv) hkv, fun rn u6 e6 => ⟨o, by rw [e6, et_r ht9], ho9, kt_find3 hu9.1 ho9 _ _ e4 (by omega) hv.2.2.1 (by rw [ev]; exact hs) (fun t ft hzt t1 t2 t3 => ?_)⟩⟩
      · have : f = 4 + k := by omega
        rw [this] at z
        exact hr.mpr (fn.mp z) r0
      · exact ih (k + 1) _ t e1 (by push_cast; omega) (by push_cast; omega) (VI_fi hO hv ft hzt) (by rw [ft o 0 (by omega), ev]) (by rw [ft 60 16 (by omega), ev2]) (FAs_find hs.1 (fn.mpr (hr.mp rn)) t1 t2 t3 hfv) (KEx_f (fun c k hc => ft _ _ (by omega)) hkv)
  obtain ⟨hK8, g8⟩ := KM_Vi hO hM0 hK0 hV8.1 g0
  refine kh_anyGoing hu9.1 (Or.inr ⟨rfl, he9⟩) hV8.2.1 hK8 g8 (fun r hr => ⟨fun r0 => loop (fun z => hr.mpr z r0) 4 0 _ x8 rfl (by omega) (by omega) hV8 e80 e86 FA8 ke8, fun rn u13 e13 => ⟨o, by rw [e13, et_r ht9], ho9, kt_find3 hu9.1 ho9 _ _ (Fn := 8) rfl (by omega) hV8.2.2.1 (by rw [e80]; exact hs) (fun t ft hzt t1 t2 t3 => rm_i hu9 hl9 (h t q9 hu9 hl9 et9 (VI_fi hO hV8 ft hzt) (FAs_find hs.1 (fn_8.mpr ⟨he0, hr.mp rn⟩) t1 t2 t3 (FAs_more (n := 4) (by omega) (fun f h1 h2 z => ?_) FA8)) (KEx_f (fun c k hc => ft _ _ (by omega)) ke8)))⟩⟩)
  obtain ⟨f', ef⟩ : ∃ f', f = 4 + f' := ⟨f - 4, by omega⟩
  rw [ef, fn_4 (by omega)] at z
  exact z.2.1 (hr.mp rn)
theorem kh_inspect (hu : kU q) (he : q.ex = true) (ho : kiT q o) (ht : q.et = some o) (hM : MM x 220) (hK : CK x C) (hN : NC C) (hq2 : NCq C) (g : KMm x 220 C M) (hc : (x.1 220 13).toInt = ((chM C w M).length : Nat)) (hac : ∀ t, t < C.2.1.length → ACx x C w M t) (hz : TZ x o) (hT : TO x q o) (s : Int32) (hs : 0 ≤ s.toInt ∧ s.toInt < (x.1 o 0).toInt) (hL : OUk x o L) (hlt : L.length < 3000) (hso : soR L) (hll : ∀ t ∈ L, t.length = C.2.2.1.length) (h : ∀ y q1, kU q1 → kle q q1 → q1.et = q.et → VI x y q1 o → FAs x y o s (fD C w M 11) → KIx x y o C w M L → Fm y q1) : KM G q (d + 5) zk_X2_inspect 0 [(0, vr 200), (1, vi s)] [] x (rm q Fm) X := by
  have hO := iT_O ho
  have k1 : (1 : Int32).toInt = 1 := rfl
  have k0 : (0 : Int32).toInt = 0 := rfl
  have hV : VI x x q o := ⟨fm_rf _ _, hM, hz, hT⟩
  have ca : 0 ≤ (x.1 60 14).toInt ∧ (x.1 60 14).toInt ≤ 4 := hM.1.1.2.2.2.2.1
  have nA : (x.1 60 14).toInt = C.2.2.2.1.length := hK.2.2.2.1.1
  have p98 : ∀ (q9 : kP) (w9 : gd), kU q9 → kle q q9 → q9.et = q.et → VI x w9 q9 o → FAs x w9 o s (fD C w M 10) → KIx x w9 o C w M L → KM G q9 (d + 5) zk_X2_inspect 98 [(0, vr 200), (1, vi s)] [] w9 (rm q Fm) X := by
    intro q9 w9 hu9 hl9 et9 hw hfa hki
    have ho9 := kle_T hl9 ho
    have he9 := hl9.2.1.2.1 he
    have ht9 : q9.et = some o := by rw [et9]; exact ht
    obtain ⟨hKw, gw⟩ := KM_Vi hO hM hK hw.1 g
    refine kg_X2_inspect_98 hu9 he9 s (kh_isRacing (w := w) hu9.1 he9 hw.2.1 hKw hN gw (fun t ht => AC_f (hw.1 _ _ (by unfold sVi; omega)) (hw.1 _ _ (by unfold sVi; omega)) (hac t ht)) (fun r hr => ⟨fun r0 => rm_i hu9 hl9 (h w9 q9 hu9 hl9 et9 hw (FAs_more (n := 10) (by omega) (fun f h1 h2 z => ?_) hfa) hki), fun rn u4 e4 => ⟨o, by rw [e4, et_r ht9], ho9, kt_find3 hu9.1 ho9 _ _ (Fn := 10) rfl (by omega) hw.2.2.1 (by rw [(VI_0 hO hw).1]; exact hs) (fun t ft hzt t1 t2 t3 => rm_i hu9 hl9 (h t q9 hu9 hl9 et9 (VI_fi hO hw ft hzt) (FAs_find hs.1 (fn_10.mpr (hr.mp rn)) t1 t2 t3 hfa) (KIx_f (fun c k hc => ft _ _ (by omega)) hki)))⟩⟩))
    have : f = 10 := by omega
    rw [this, fn_10] at z
    exact hr.mpr z r0
  have p78 : ∀ (q9 : kP) (w9 : gd), kU q9 → kle q q9 → q9.et = q.et → VI x w9 q9 o → FAs x w9 o s (fD C w M 9) → KIx x w9 o C w M L → KM G q9 (d + 5) zk_X2_inspect 78 [(0, vr 200), (1, vi s)] [] w9 (rm q Fm) X := by
    intro q9 w9 hu9 hl9 et9 hw hfa hki
    have ho9 := kle_T hl9 ho
    have he9 := hl9.2.1.2.1 he
    have ht9 : q9.et = some o := by rw [et9]; exact ht
    obtain ⟨hKw, gw⟩ := KM_Vi hO hM hK hw.1 g
    refine kg_X2_inspect_78 hu9 he9 s (kh_anyFailed hu9.1 (Or.inr ⟨rfl, he9⟩) hw.2.1 hKw gw (fun r hr => ⟨fun r0 => p98 q9 w9 hu9 hl9 et9 hw (FAs_more (n := 9) (by omega) (fun f h1 h2 z => ?_) hfa) hki, fun rn u4 e4 => ⟨o, by rw [e4, et_r ht9], ho9, kt_find3 hu9.1 ho9 _ _ (Fn := 9) rfl (by omega) hw.2.2.1 (by rw [(VI_0 hO hw).1]; exact hs) (fun t ft hzt t1 t2 t3 => p98 q9 t hu9 hl9 et9 (VI_fi hO hw ft hzt) (FAs_find hs.1 (fn_9.mpr (hr.mp rn)) t1 t2 t3 hfa) (KIx_f (fun c k hc => ft _ _ (by omega)) hki))⟩⟩))
    have : f = 9 := by omega
    rw [this, fn_9] at z
    exact hr.mpr z r0
  have loop : ∀ (m k : Nat) (i : Int32) (w9 : gd), i.toInt = k → (x.1 60 14).toInt - k ≤ m → (k : Int) ≤ (x.1 60 14).toInt → VI x w9 q o → FAs x w9 o s (fD C w M k) → (w9.1 o 5 = x.1 o 5 + x.1 220 13 ∧ w9.1 o 2 = x.1 o 2 ∧ OUk w9 o L) → KM G q (d + 5) zk_X2_inspect 21 [(0, vr 200), (1, vi s), (2, vi i)] [] w9 (rm q Fm) X := by
    intro m
    have out : ∀ (k : Nat) (i : Int32) (w9 : gd), i.toInt = k → (k : Int) ≤ (x.1 60 14).toInt → VI x w9 q o → FAs x w9 o s (fD C w M k) → (w9.1 o 5 = x.1 o 5 + x.1 220 13 ∧ w9.1 o 2 = x.1 o 2 ∧ OUk w9 o L) → w9.1 60 14 ≤ i → ((¬ ((w9.1 220 13) = (0 : Int32)) → KM G q (d + 5) zk_X2_inspect 78 [(0, vr 200), (1, vi s)] [] w9 (rm q Fm) X) ∧ ((w9.1 220 13) = (0 : Int32) → KM G q (d + 4) zk_X2_inspectEnd 0 [(0, vr 200), (1, vi s)] [] w9 (rm q (fun x3 q4 => KM G q4 (d + 5) zk_X2_inspect 78 [(0, vr 200), (1, vi s)] [] x3 (rm q Fm) X)) X)) := by
      intro k i w9 ei hk hw hfa hk0 c
      rw [t_le, (VI_0 hO hw).2 60 14 (by omega) (by omega) (by omega) (by omega)] at c
      have hfa : FAs x w9 o s (fD C w M 4) := FAs_more (n := k) (by omega) (fun f h1 h2 z => by
        rw [fn_lt4 (by omega)] at z
        obtain ⟨Q, hQ, -⟩ := z
        have := gt_lt hQ
        omega) hfa
      have e13 : w9.1 220 13 = x.1 220 13 := hw.1 _ _ (by unfold sVi; omega)
      rw [e13]
      have nil : x.1 220 13 = 0 → chM C w M = [] := fun c0 => by
        rw [c0, k0] at hc
        exact List.eq_nil_of_length_eq_zero (by omega)
      refine ⟨fun c0 => p78 q w9 hu (kle_rf q) rfl hw (FAs_more (n := 4) (by omega) (fun f h1 h2 z => c0 ?_) hfa) ⟨hk0.1, Or.inr ⟨fun z => c0 (by rw [z] at hc; rw [t_eq, k0]; exact hc), hk0.2⟩⟩, fun c0 => kh_inspectEnd hu he ho ht hM hK hN hq2 g hw s (by rw [(VI_0 hO hw).1]; exact hs) (nil c0) hfa hk0.2.2 hlt hso hll (fun y q1 hu1 hl1 et1 hy hfy hke => p78 q1 y hu1 hl1 et1 hy hfy ⟨by rw [hke.2.1]; exact hk0.1, Or.inl ⟨nil c0, by rw [hke.1, hk0.2.1], hke.2.2⟩⟩)⟩
      · have : chM C w M = [] := by
          by_cases c8 : f = 8
          · rw [c8, fn_8] at z; exact z.1
          · obtain ⟨f', ef⟩ : ∃ f', f = 4 + f' := ⟨f - 4, by omega⟩
            rw [ef, fn_4 (by omega)] at z
            exact z.1
        rw [this] at hc
        rw [t_eq, k0]; exact hc
    induction m with
    | zero =>
      intro k i w9 ei hm hk hw hfa hk0
      refine kg_X2_inspect_21 hu he s i ⟨fun c => out k i w9 ei hk hw hfa hk0 c, fun c => ?_⟩
      rw [t_le, (VI_0 hO hw).2 60 14 (by omega) (by omega) (by omega) (by omega)] at c; omega
    | succ m ih =>
      intro k i w9 ei hm hk hw hfa hk0
      refine kg_X2_inspect_21 hu he s i ⟨fun c => out k i w9 ei hk hw hfa hk0 c, fun c => ?_⟩
      rw [t_le, (VI_0 hO hw).2 60 14 (by omega) (by omega) (by omega) (by omega)] at c
      have e1 : (i + 1).toInt = ((k + 1 : Nat) : Int) := by rw [t_add (by rw [k1]; omega) (by rw [k1]; omega), k1, ei]; rfl
      have hkl : k < C.2.2.2.1.length := by omega
      obtain ⟨Q, hQ⟩ : ∃ Q, C.2.2.2.1[k]? = some Q := ⟨_, List.getElem?_eq_getElem hkl⟩
      obtain ⟨hKw, gw⟩ := KM_Vi hO hM hK hw.1 g
      have iK : i.toNatClampNeg = k := by rw [t_cl, ei]; rfl
      rw [iK]
      refine ⟨by rw [vp_in_iff]; omega, kh_isFalse hu.1 he hw.2.1 hKw hN hq2 gw _ (hKw.2.2.2.1.2 k Q hQ) (Or.inl (List.mem_of_getElem? hQ)) (fun r v gr fv hr => ?_)⟩
      have hv := VI_st hO hw (fm_w fv (fun c k q => by unfold sWk at q; omega))
      have hfv : FAs x v o s (fD C w M k) := FAs_f (fun f => fv _ _ (by unfold sWk; omega)) hfa
      have hkv : v.1 o 5 = x.1 o 5 + x.1 220 13 ∧ v.1 o 2 = x.1 o 2 ∧ OUk v o L := ⟨by rw [fv _ _ (by unfold sWk; omega)]; exact hk0.1, by rw [fv _ _ (by unfold sWk; omega)]; exact hk0.2.1, OUk_f (fv _ _ (by unfold sWk; omega)) (fun k => fv _ _ (by unfold sWk; omega)) (fun c k hc => fv _ _ (by unfold sWk; omega)) hk0.2.2⟩
      have fn : fnM C w M k ↔ badC M Q := by
        rw [fn_lt4 (by omega)]
        refine ⟨fun ⟨Q9, h9, b⟩ => ?_, fun b => ⟨Q, hQ, b⟩⟩
        rw [hQ] at h9
        rw [Option.some.inj h9]; exact b
      refine ⟨fun r0 => ih (k + 1) _ v e1 (by push_cast; omega) (by push_cast; omega) hv (FAs_more (n := k) (by omega) (fun f h1 h2 z => ?_) hfv) hkv, fun rn u9 e9 => ⟨o, by rw [e9, et_r ht], ho, kt_find3 hu.1 ho _ _ ei (by omega) hv.2.2.1 (by rw [(VI_0 hO hv).1]; exact hs) (fun t ft hzt t1 t2 t3 => ih (k + 1) _ t e1 (by push_cast; omega) (by push_cast; omega) (VI_fi hO hv ft hzt) (FAs_find hs.1 (fn.mpr (hr.mp rn)) t1 t2 t3 hfv) ⟨by rw [ft _ _ (by omega)]; exact hkv.1, by rw [ft _ _ (by omega)]; exact hkv.2.1, OUk_f (ft _ _ (by omega)) (fun k => ft _ _ (by omega)) (fun c k hc => ft _ _ (by omega)) hkv.2.2⟩)⟩⟩
      have : f = k := by omega
      rw [this] at z
      exact hr.mpr (fn.mp z) r0
  refine kg_X2_inspect_0 hu he s (fun u1 e1 => ⟨o, by rw [e1, et_r ht], ho, fun x4 e4 => loop 4 0 _ x4 rfl (by omega) (by omega) (VI_st hO hV ?_) (fun f _ => Or.inr ⟨fun z => absurd z.1.1 (Nat.not_lt_zero _), ?_⟩) ⟨?_, ?_, ?_⟩⟩)
  · rw [e4]; exact fm_si (fm_rf _ _) (by omega)
  · rw [e4, si_cell (by omega)]
  · rw [e4, si_get, if_pos ⟨rfl, rfl⟩]
  · rw [e4, si_get, if_neg (by omega)]
  · exact OUk_f (by rw [e4, si_get, if_neg (by omega)]) (fun k => by rw [e4, si_cell (by omega)]) (fun c k hc => by rw [e4, si_cell (by omega)]) hL
end KLO
end
