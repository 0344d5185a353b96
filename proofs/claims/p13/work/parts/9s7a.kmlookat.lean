section
/-! the class: a state is looked at, what it shows is noted -/
/-- findings of D are noted with state s, where none was -/
def FAs (x0 x : gd) (o : Nat) (s : Int32) (D : Nat → Prop) : Prop := ∀ f, f < 11 → (D f ∧ x0.1 (o + 7) f = -1 ∧ x.1 (o + 7) f = s) ∨ (¬ (D f ∧ x0.1 (o + 7) f = -1) ∧ x.1 (o + 7) f = x0.1 (o + 7) f)
def fD (C : gCo) (w : Nat) (M : gMa) (n f : Nat) : Prop := f < n ∧ fnM C w M f
section KLO
variable {G : kG} {q q1 : kP} {d : Nat} {x x0 y z : gd} {o : Nat} {F : Int32 → gd → Prop} {Fv : gd → Prop} {Fm : gd → kP → Prop} {X : String → gd → kP → Prop} {C : gCo} {M : gMa} {T w n m : Nat} {s : Int32} {D D' : Nat → Prop}
theorem FAs_f (e : ∀ f, y.1 (o + 7) f = x.1 (o + 7) f) (h : FAs x0 x o s D) : FAs x0 y o s D := fun f hf => by
  rw [e f]; exact h f hf
theorem FAs_c (e : ∀ f, f < 11 → (D f ↔ D' f)) (h : FAs x0 x o s D) : FAs x0 x o s D' := fun f hf => by
  rw [← e f hf]; exact h f hf
theorem FAs_more (hm : n ≤ m) (hn : ∀ f, n ≤ f → f < m → ¬ fnM C w M f) (h : FAs x0 x o s (fD C w M n)) : FAs x0 x o s (fD C w M m) := FAs_c (fun f _ => ⟨fun z => ⟨by have := z.1; omega, z.2⟩, fun z => ⟨by
  apply Classical.byContradiction
  intro c
  exact hn f (by omega) z.1 z.2, z.2⟩⟩) h
theorem FAs_find (hs : 0 ≤ s.toInt) (hf : fnM C w M n) (e : ∀ k, ¬ k = n → y.1 (o + 7) k = x.1 (o + 7) k) (e1 : x.1 (o + 7) n = -1 → y.1 (o + 7) n = s) (e2 : ¬ x.1 (o + 7) n = -1 → y.1 (o + 7) n = x.1 (o + 7) n) (h : FAs x0 x o s (fD C w M n)) : FAs x0 y o s (fD C w M (n + 1)) := by
  intro f hf9
  by_cases c : f = n
  · rw [c]
    have hD : fD C w M (n + 1) n := ⟨by omega, hf⟩
    have nD : ¬ fD C w M n n := fun z => by have := z.1; omega
    rcases h n (by omega) with ⟨a, -⟩ | ⟨-, a⟩
    · exact absurd a nD
    · by_cases c9 : x0.1 (o + 7) n = -1
      · exact Or.inl ⟨hD, c9, e1 (by rw [a]; exact c9)⟩
      · exact Or.inr ⟨fun z => c9 z.2, by rw [e2 (by rw [a]; exact c9)]; exact a⟩
  · have hD : fD C w M (n + 1) f ↔ fD C w M n f := ⟨fun z => ⟨by have := z.1; omega, z.2⟩, fun z => ⟨by have := z.1; omega, z.2⟩⟩
    rw [hD, e f c]; exact h f hf9
theorem kt_find3 (hq : kV q) (ho : kiT q o) (f s : Int32) {Fn : Nat} (ef : f.toInt = Fn) (hF : Fn < 11) (hz : TZ x o) (hs : 0 ≤ s.toInt ∧ s.toInt < (x.1 o 0).toInt) (h : ∀ y, fm (fun c k => c = o + 7) x y → TZ y o → (∀ k, ¬ k = Fn → y.1 (o + 7) k = x.1 (o + 7) k) → (x.1 (o + 7) Fn = -1 → y.1 (o + 7) Fn = s) → (¬ x.1 (o + 7) Fn = -1 → y.1 (o + 7) Fn = x.1 (o + 7) Fn) → Fv y) : KT G q d zk_X10_find 0 [(0, vr o), (1, vi f), (2, vi s)] [] x (rv Fv) := by
  have vf : vp_in f 11 := by rw [vp_in_iff]; omega
  have eF : f.toNatClampNeg = Fn := by rw [t_cl, ef]; rfl
  refine kg_X10_find_0 hq ho _ _ ⟨vf, fun c => rv_i (h x (fm_rf _ _) hz (fun _ _ => rfl) (fun c2 => absurd (by rw [eF]; exact c2) c) (fun _ => rfl)), fun c => ⟨vf, fun z ez => rv_i (h z ?_ ?_ (fun k hk => ?_) (fun _ => ?_) (fun c2 => absurd (by rw [eF] at c; exact c) c2))⟩⟩
  · rw [ez]; exact fm_si (fm_rf _ _) rfl
  · rw [eF] at ez
    obtain ⟨b, hf, hs2⟩ := hz
    have g : ∀ c k, ¬ c = o + 7 → z.1 c k = x.1 c k := fun c k hc => by rw [ez, si_cell hc]
    unfold TZ
    rw [g o 0 (by omega)]
    refine ⟨b, fun k hk => ?_, fun k hk => ?_⟩
    · by_cases h9 : k = Fn
      · have : z.1 (o + 7) k = s := by rw [ez, h9, si_get, if_pos ⟨rfl, rfl⟩]
        rw [this]; exact Or.inr hs
      · have : z.1 (o + 7) k = x.1 (o + 7) k := by rw [ez, si_get, if_neg (fun q => h9 q.2)]
        rw [this]; exact hf k hk
    · rw [g (o + 12) k (by omega), g (o + 10) k (by omega), g (o + 12) _ (by omega)]; exact hs2 k hk
  · rw [ez, si_get, if_neg (fun q => hk (by rw [← eF]; exact q.2))]
  · rw [ez, si_get, if_pos ⟨rfl, eF.symm⟩]
theorem fn_lt4 (h : n < 4) : fnM C w M n ↔ ∃ Q, C.2.2.2.1[n]? = some Q ∧ badC M Q := by
  unfold fnM
  constructor
  · rintro (z | z | z | z | z)
    · exact z.2
    all_goals (exfalso; have := z.1; omega)
  · intro z; exact Or.inl ⟨h, z⟩
theorem fn_4 (h : n < 4) : fnM C w M (4 + n) ↔ (chM C w M = [] ∧ ¬ goM C M ∧ ∃ Q, C.2.2.2.2[n]? = some Q ∧ badC M Q) := by
  unfold fnM
  rw [show 4 + n - 4 = n by omega]
  constructor
  · rintro (z | z | z | z | z)
    · exfalso; have := z.1; omega
    · exact z.2.2
    all_goals (exfalso; have := z.1; omega)
  · intro z; exact Or.inr (Or.inl ⟨by omega, by omega, z⟩)
theorem fn_8 : fnM C w M 8 ↔ (chM C w M = [] ∧ goM C M) := by
  unfold fnM
  constructor
  · rintro (z | z | z | z | z)
    · exfalso; have := z.1; omega
    · exfalso; have := z.2.1; omega
    · exact z.2
    all_goals (exfalso; have := z.1; omega)
  · intro z; exact Or.inr (Or.inr (Or.inl ⟨rfl, z⟩))
theorem fn_9 : fnM C w M 9 ↔ ∃ t, t < C.2.1.length ∧ (M.2.2 t).1 = 3 := by
  unfold fnM
  constructor
  · rintro (z | z | z | z | z)
    · exfalso; have := z.1; omega
    · exfalso; have := z.2.1; omega
    · exfalso; have := z.1; omega
    · exact z.2
    · exfalso; have := z.1; omega
  · intro z; exact Or.inr (Or.inr (Or.inr (Or.inl ⟨rfl, z⟩)))
theorem fn_10 : fnM C w M 10 ↔ rcM C w M := by
  unfold fnM
  constructor
  · rintro (z | z | z | z | z)
    · exfalso; have := z.1; omega
    · exfalso; have := z.2.1; omega
    · exfalso; have := z.1; omega
    · exfalso; have := z.1; omega
    · exact z.2
  · intro z; exact Or.inr (Or.inr (Or.inr (Or.inr ⟨rfl, z⟩)))
/-- looking at a state keeps the machine -/
theorem KM_Vi (hO : o = 260 ∨ o = 280) (hM : MM x0 220) (hK : CK x0 C) (f : fm (sVi o) x0 x) (g : KMm x0 220 C M) : CK x C ∧ KMm x 220 C M :=
  ⟨CK_f hK (fun c k hc => f c k (by unfold sVi; omega)), KMm_in hM hK (gm_ag (fun c k hc => f c k (by unfold sVi; omega)) (fun k h1 h2 => f _ _ (by unfold sVi; omega))) (fun k _ => f _ _ (by unfold sVi; omega)) g⟩
theorem kh_inspectEnd (hu : kU q) (he : q.ex = true) (ho : kiT q o) (ht : q.et = some o) (hM0 : MM x0 220) (hK0 : CK x0 C) (hN : NC C) (hq2 : NCq C) (g0 : KMm x0 220 C M) (hV : VI x0 x q o) (s : Int32) (hs : 0 ≤ s.toInt ∧ s.toInt < (x.1 o 0).toInt) (he0 : chM C w M = []) (hFA : FAs x0 x o s (fD C w M 4)) (h : ∀ y q1, kU q1 → kle q q1 → q1.et = q.et → VI x0 y q1 o → FAs x0 y o s (fD C w M 9) → Fm y q1) : KM G q (d + 4) zk_X2_inspectEnd 0 [(0, vr 200), (1, vi s)] [] x (rm q Fm) X := by
  have hO := iT_O ho
  have k1 : (1 : Int32).toInt = 1 := rfl
  have cl : 0 ≤ (x.1 60 6).toInt ∧ (x.1 60 6).toInt ≤ 24 := hV.2.1.1.1.1
  have cf : 0 ≤ (x.1 60 16).toInt ∧ (x.1 60 16).toInt ≤ 4 := hV.2.1.1.1.2.2.2.2.2
  obtain ⟨hKx, gx⟩ := KM_Vi hO hM0 hK0 hV.1 g0
  have nF : (x.1 60 16).toInt = C.2.2.2.2.length := hKx.2.2.2.2.1
  refine kg_X2_inspectEnd_0 hu he s (fun u1 e1 => ⟨o, by rw [e1, et_r ht], ho, fun x4 e4 u5 e5 => ⟨o, by rw [e5, et_r ht], ho, ?_⟩⟩)
  have f4 : fm (fun c k => (c = o ∧ (k = 2 ∨ k = 5)) ∨ (c = 60 ∧ k = 5) ∨ c = 65) x x4 := by rw [e4]; exact fm_si (fm_rf _ _) (by omega)
  have hV4 := VI_st hO hV f4
  rw [f4 60 6 (by omega)]
  refine kt_addOutcome hu ho kk_225 (kl_225 hu.1 he) (by omega) _ hV4.2.2.2 cl (fun x8 q9 hu9 hl9 et9 f8 ht8 => ?_)
  have hV8 := VI_ou hO hV4 f8 ht8
  have ho9 := kle_T hl9 ho
  have he9 := hl9.2.1.2.1 he
  have ht9 : q9.et = some o := by rw [et9]; exact ht
  have e80 : x8.1 o 0 = x.1 o 0 := by rw [f8 o 0 (by unfold sOu; omega), f4 o 0 (by omega)]
  have e86 : x8.1 60 16 = x.1 60 16 := by rw [f8 60 16 (by unfold sOu; omega), f4 60 16 (by omega)]
  have FA8 : FAs x0 x8 o s (fD C w M 4) := FAs_f (fun f => by rw [f8 _ _ (by unfold sOu; omega), f4 _ _ (by omega)]) hFA
  have loop : ¬ goM C M → ∀ (m k : Nat) (i : Int32) (w9 : gd), i.toInt = k → (x.1 60 16).toInt - k ≤ m → (k : Int) ≤ (x.1 60 16).toInt → VI x0 w9 q9 o → w9.1 o 0 = x.1 o 0 → w9.1 60 16 = x.1 60 16 → FAs x0 w9 o s (fD C w M (4 + k)) → KM G q9 (d + 4) zk_X2_inspectEnd 57 [(0, vr 200), (1, vi s), (2, vi i)] [] w9 (rm q Fm) X := by
    intro ngo m
    have fin : ∀ (k : Nat) (i : Int32) (w9 : gd), i.toInt = k → (k : Int) ≤ (x.1 60 16).toInt → VI x0 w9 q9 o → w9.1 60 16 = x.1 60 16 → FAs x0 w9 o s (fD C w M (4 + k)) → w9.1 60 16 ≤ i → rm q Fm none w9 q9 := by
      intro k i w9 ei hk hw ew2 hfa c
      rw [t_le, ew2] at c
      have kk : k = C.2.2.2.2.length := by omega
      refine rm_i hu9 hl9 (h w9 q9 hu9 hl9 et9 hw (FAs_more (n := 4 + k) (by omega) (fun f h1 h2 z => ?_) hfa))
      by_cases c8 : f = 8
      · rw [c8, fn_8] at z; exact ngo z.2
      · obtain ⟨f', ef⟩ : ∃ f', f = 4 + f' := ⟨f - 4, by omega⟩
        rw [ef, fn_4 (by omega)] at z
        obtain ⟨-, -, Q, hQ, -⟩ := z
        have := gt_lt hQ
        omega
    induction m with
    | zero =>
      intro k i w9 ei hm hk hw ew ew2 hfa
      refine kg_X2_inspectEnd_57 hu9 he9 s i ⟨fun c => fin k i w9 ei hk hw ew2 hfa c, fun c => ?_⟩
      rw [t_le, ew2] at c; omega
    | succ m ih =>
      intro k i w9 ei hm hk hw ew ew2 hfa
      refine kg_X2_inspectEnd_57 hu9 he9 s i ⟨fun c => fin k i w9 ei hk hw ew2 hfa c, fun c => ⟨?_, ?_⟩⟩
      · rw [t_le, ew2] at c; rw [vp_in_iff]; omega
      rw [t_le, ew2] at c
      have e1 : (i + 1).toInt = ((k + 1 : Nat) : Int) := by rw [t_add (by rw [k1]; omega) (by rw [k1]; omega), k1, ei]; rfl
      have e4 : (4 + i).toInt = ((4 + k : Nat) : Int) := by
        have k4 : (4 : Int32).toInt = 4 := rfl
        rw [t_add (by rw [k4]; omega) (by rw [k4]; omega), k4, ei]; push_cast; rfl
      have hkl : k < C.2.2.2.2.length := by omega
      obtain ⟨Q, hQ⟩ : ∃ Q, C.2.2.2.2[k]? = some Q := ⟨_, List.getElem?_eq_getElem hkl⟩
      obtain ⟨hKw, gw⟩ := KM_Vi hO hM0 hK0 hw.1 g0
      have iK : i.toNatClampNeg = k := by rw [t_cl, ei]; rfl
      rw [iK]
      refine kh_isFalse hu9.1 he9 hw.2.1 hKw hN hq2 gw _ (hKw.2.2.2.2.2 k Q hQ) (Or.inr (List.mem_of_getElem? hQ)) (fun r v gr fv hr => ?_)
      have fv2 : fm (fun c k => (c = o ∧ (k = 2 ∨ k = 5)) ∨ (c = 60 ∧ k = 5) ∨ c = 65) w9 v := fm_w fv (fun c k q => by unfold sWk at q; omega)
      have hv := VI_st hO hw fv2
      have ev : v.1 o 0 = x.1 o 0 := by rw [fv2 o 0 (by omega), ew]
      have ev2 : v.1 60 16 = x.1 60 16 := by rw [fv2 60 16 (by omega), ew2]
      have hfv : FAs x0 v o s (fD C w M (4 + k)) := FAs_f (fun f => fv2 _ _ (by omega)) hfa
      have fn : fnM C w M (4 + k) ↔ badC M Q := by
        rw [fn_4 (by omega)]
        refine ⟨fun ⟨_, _, Q9, h9, b⟩ => ?_, fun b => ⟨he0, ngo, Q, hQ, b⟩⟩
        rw [hQ] at h9
        rw [Option.some.inj h9]; exact b
      refine ⟨fun r0 => ih (k + 1) _ v e1 (by push_cast; omega) (by push_cast; omega) hv ev ev2 (FAs_more (n := 4 + k) (by omega) (fun f h1 h2 z => ?_) hfv), fun rn u6 e6 => ⟨o, by rw [e6, et_r ht9], ho9, kt_find3 hu9.1 ho9 _ _ e4 (by omega) hv.2.2.1 (by rw [ev]; exact hs) (fun t ft hzt t1 t2 t3 => ?_)⟩⟩
      · have : f = 4 + k := by omega
        rw [this] at z
        exact hr.mpr (fn.mp z) r0
      · exact ih (k + 1) _ t e1 (by push_cast; omega) (by push_cast; omega) (VI_fi hO hv ft hzt) (by rw [ft o 0 (by omega), ev]) (by rw [ft 60 16 (by omega), ev2]) (FAs_find hs.1 (fn.mpr (hr.mp rn)) t1 t2 t3 hfv)
  obtain ⟨hK8, g8⟩ := KM_Vi hO hM0 hK0 hV8.1 g0
  refine kh_anyGoing hu9.1 (Or.inr ⟨rfl, he9⟩) hV8.2.1 hK8 g8 (fun r hr => ⟨fun r0 => loop (fun z => hr.mpr z r0) 4 0 _ x8 rfl (by omega) (by omega) hV8 e80 e86 FA8, fun rn u13 e13 => ⟨o, by rw [e13, et_r ht9], ho9, kt_find3 hu9.1 ho9 _ _ (Fn := 8) rfl (by omega) hV8.2.2.1 (by rw [e80]; exact hs) (fun t ft hzt t1 t2 t3 => rm_i hu9 hl9 (h t q9 hu9 hl9 et9 (VI_fi hO hV8 ft hzt) (FAs_find hs.1 (fn_8.mpr ⟨he0, hr.mp rn⟩) t1 t2 t3 (FAs_more (n := 4) (by omega) (fun f h1 h2 z => ?_) FA8))))⟩⟩)
  obtain ⟨f', ef⟩ : ∃ f', f = 4 + f' := ⟨f - 4, by omega⟩
  rw [ef, fn_4 (by omega)] at z
  exact z.2.1 (hr.mp rn)
theorem kh_inspect (hu : kU q) (he : q.ex = true) (ho : kiT q o) (ht : q.et = some o) (hM : MM x 220) (hK : CK x C) (hN : NC C) (hq2 : NCq C) (g : KMm x 220 C M) (hc : (x.1 220 13).toInt = ((chM C w M).length : Nat)) (hac : ∀ t, t < C.2.1.length → ACx x C w M t) (hz : TZ x o) (hT : TO x q o) (s : Int32) (hs : 0 ≤ s.toInt ∧ s.toInt < (x.1 o 0).toInt) (h : ∀ y q1, kU q1 → kle q q1 → q1.et = q.et → VI x y q1 o → FAs x y o s (fD C w M 11) → Fm y q1) : KM G q (d + 5) zk_X2_inspect 0 [(0, vr 200), (1, vi s)] [] x (rm q Fm) X := by
  have hO := iT_O ho
  have k1 : (1 : Int32).toInt = 1 := rfl
  have k0 : (0 : Int32).toInt = 0 := rfl
  have hV : VI x x q o := ⟨fm_rf _ _, hM, hz, hT⟩
  have ca : 0 ≤ (x.1 60 14).toInt ∧ (x.1 60 14).toInt ≤ 4 := hM.1.1.2.2.2.2.1
  have nA : (x.1 60 14).toInt = C.2.2.2.1.length := hK.2.2.2.1.1
  have p98 : ∀ (q9 : kP) (w9 : gd), kU q9 → kle q q9 → q9.et = q.et → VI x w9 q9 o → FAs x w9 o s (fD C w M 10) → KM G q9 (d + 5) zk_X2_inspect 98 [(0, vr 200), (1, vi s)] [] w9 (rm q Fm) X := by
    intro q9 w9 hu9 hl9 et9 hw hfa
    have ho9 := kle_T hl9 ho
    have he9 := hl9.2.1.2.1 he
    have ht9 : q9.et = some o := by rw [et9]; exact ht
    obtain ⟨hKw, gw⟩ := KM_Vi hO hM hK hw.1 g
    refine kg_X2_inspect_98 hu9 he9 s (kh_isRacing (w := w) hu9.1 he9 hw.2.1 hKw hN gw (fun t ht => AC_f (hw.1 _ _ (by unfold sVi; omega)) (hw.1 _ _ (by unfold sVi; omega)) (hac t ht)) (fun r hr => ⟨fun r0 => rm_i hu9 hl9 (h w9 q9 hu9 hl9 et9 hw (FAs_more (n := 10) (by omega) (fun f h1 h2 z => ?_) hfa)), fun rn u4 e4 => ⟨o, by rw [e4, et_r ht9], ho9, kt_find3 hu9.1 ho9 _ _ (Fn := 10) rfl (by omega) hw.2.2.1 (by rw [(VI_0 hO hw).1]; exact hs) (fun t ft hzt t1 t2 t3 => rm_i hu9 hl9 (h t q9 hu9 hl9 et9 (VI_fi hO hw ft hzt) (FAs_find hs.1 (fn_10.mpr (hr.mp rn)) t1 t2 t3 hfa)))⟩⟩))
    have : f = 10 := by omega
    rw [this, fn_10] at z
    exact hr.mpr z r0
  have p78 : ∀ (q9 : kP) (w9 : gd), kU q9 → kle q q9 → q9.et = q.et → VI x w9 q9 o → FAs x w9 o s (fD C w M 9) → KM G q9 (d + 5) zk_X2_inspect 78 [(0, vr 200), (1, vi s)] [] w9 (rm q Fm) X := by
    intro q9 w9 hu9 hl9 et9 hw hfa
    have ho9 := kle_T hl9 ho
    have he9 := hl9.2.1.2.1 he
    have ht9 : q9.et = some o := by rw [et9]; exact ht
    obtain ⟨hKw, gw⟩ := KM_Vi hO hM hK hw.1 g
    refine kg_X2_inspect_78 hu9 he9 s (kh_anyFailed hu9.1 (Or.inr ⟨rfl, he9⟩) hw.2.1 hKw gw (fun r hr => ⟨fun r0 => p98 q9 w9 hu9 hl9 et9 hw (FAs_more (n := 9) (by omega) (fun f h1 h2 z => ?_) hfa), fun rn u4 e4 => ⟨o, by rw [e4, et_r ht9], ho9, kt_find3 hu9.1 ho9 _ _ (Fn := 9) rfl (by omega) hw.2.2.1 (by rw [(VI_0 hO hw).1]; exact hs) (fun t ft hzt t1 t2 t3 => p98 q9 t hu9 hl9 et9 (VI_fi hO hw ft hzt) (FAs_find hs.1 (fn_9.mpr (hr.mp rn)) t1 t2 t3 hfa))⟩⟩))
    have : f = 9 := by omega
    rw [this, fn_9] at z
    exact hr.mpr z r0
  have loop : ∀ (m k : Nat) (i : Int32) (w9 : gd), i.toInt = k → (x.1 60 14).toInt - k ≤ m → (k : Int) ≤ (x.1 60 14).toInt → VI x w9 q o → FAs x w9 o s (fD C w M k) → KM G q (d + 5) zk_X2_inspect 21 [(0, vr 200), (1, vi s), (2, vi i)] [] w9 (rm q Fm) X := by
    intro m
    have out : ∀ (k : Nat) (i : Int32) (w9 : gd), i.toInt = k → (k : Int) ≤ (x.1 60 14).toInt → VI x w9 q o → FAs x w9 o s (fD C w M k) → w9.1 60 14 ≤ i → ((¬ ((w9.1 220 13) = (0 : Int32)) → KM G q (d + 5) zk_X2_inspect 78 [(0, vr 200), (1, vi s)] [] w9 (rm q Fm) X) ∧ ((w9.1 220 13) = (0 : Int32) → KM G q (d + 4) zk_X2_inspectEnd 0 [(0, vr 200), (1, vi s)] [] w9 (rm q (fun x3 q4 => KM G q4 (d + 5) zk_X2_inspect 78 [(0, vr 200), (1, vi s)] [] x3 (rm q Fm) X)) X)) := by
      intro k i w9 ei hk hw hfa c
      rw [t_le, (VI_0 hO hw).2 60 14 (by omega) (by omega) (by omega) (by omega)] at c
      have hfa : FAs x w9 o s (fD C w M 4) := FAs_more (n := k) (by omega) (fun f h1 h2 z => by
        rw [fn_lt4 (by omega)] at z
        obtain ⟨Q, hQ, -⟩ := z
        have := gt_lt hQ
        omega) hfa
      have e13 : w9.1 220 13 = x.1 220 13 := hw.1 _ _ (by unfold sVi; omega)
      rw [e13]
      refine ⟨fun c0 => p78 q w9 hu (kle_rf q) rfl hw (FAs_more (n := 4) (by omega) (fun f h1 h2 z => c0 ?_) hfa), fun c0 => kh_inspectEnd hu he ho ht hM hK hN hq2 g hw s (by rw [(VI_0 hO hw).1]; exact hs) ?_ hfa (fun y q1 hu1 hl1 et1 hy hfy => p78 q1 y hu1 hl1 et1 hy hfy)⟩
      · have : chM C w M = [] := by
          by_cases c8 : f = 8
          · rw [c8, fn_8] at z; exact z.1
          · obtain ⟨f', ef⟩ : ∃ f', f = 4 + f' := ⟨f - 4, by omega⟩
            rw [ef, fn_4 (by omega)] at z
            exact z.1
        rw [this] at hc
        rw [t_eq, k0]; exact hc
      · rw [c0, k0] at hc
        exact List.eq_nil_of_length_eq_zero (by omega)
    induction m with
    | zero =>
      intro k i w9 ei hm hk hw hfa
      refine kg_X2_inspect_21 hu he s i ⟨fun c => out k i w9 ei hk hw hfa c, fun c => ?_⟩
      rw [t_le, (VI_0 hO hw).2 60 14 (by omega) (by omega) (by omega) (by omega)] at c; omega
    | succ m ih =>
      intro k i w9 ei hm hk hw hfa
      refine kg_X2_inspect_21 hu he s i ⟨fun c => out k i w9 ei hk hw hfa c, fun c => ?_⟩
      rw [t_le, (VI_0 hO hw).2 60 14 (by omega) (by omega) (by omega) (by omega)] at c
      have e1 : (i + 1).toInt = ((k + 1 : Nat) : Int) := by rw [t_add (by rw [k1]; omega) (by rw [k1]; omega), k1, ei]; rfl
      have hkl : k < C.2.2.2.1.length := by omega
      obtain ⟨Q, hQ⟩ : ∃ Q, C.2.2.2.1[k]? = some Q := ⟨_, List.getElem?_eq_getElem hkl⟩
      obtain ⟨hKw, gw⟩ := KM_Vi hO hM hK hw.1 g
      have iK : i.toNatClampNeg = k := by rw [t_cl, ei]; rfl
      rw [iK]
      refine ⟨by rw [vp_in_iff]; omega, kh_isFalse hu.1 he hw.2.1 hKw hN hq2 gw _ (hKw.2.2.2.1.2 k Q hQ) (Or.inl (List.mem_of_getElem? hQ)) (fun r v gr fv hr => ?_)⟩
      have hv := VI_st hO hw (fm_w fv (fun c k q => by unfold sWk at q; omega))
      have hfv : FAs x v o s (fD C w M k) := FAs_f (fun f => fv _ _ (by unfold sWk; omega)) hfa
      have fn : fnM C w M k ↔ badC M Q := by
        rw [fn_lt4 (by omega)]
        refine ⟨fun ⟨Q9, h9, b⟩ => ?_, fun b => ⟨Q, hQ, b⟩⟩
        rw [hQ] at h9
        rw [Option.some.inj h9]; exact b
      refine ⟨fun r0 => ih (k + 1) _ v e1 (by push_cast; omega) (by push_cast; omega) hv (FAs_more (n := k) (by omega) (fun f h1 h2 z => ?_) hfv), fun rn u9 e9 => ⟨o, by rw [e9, et_r ht], ho, kt_find3 hu.1 ho _ _ ei (by omega) hv.2.2.1 (by rw [(VI_0 hO hv).1]; exact hs) (fun t ft hzt t1 t2 t3 => ih (k + 1) _ t e1 (by push_cast; omega) (by push_cast; omega) (VI_fi hO hv ft hzt) (FAs_find hs.1 (fn.mpr (hr.mp rn)) t1 t2 t3 hfv))⟩⟩
      have : f = k := by omega
      rw [this] at z
      exact hr.mpr (fn.mp z) r0
  refine kg_X2_inspect_0 hu he s (fun u1 e1 => ⟨o, by rw [e1, et_r ht], ho, fun x4 e4 => loop 4 0 _ x4 rfl (by omega) (by omega) (VI_st hO hV ?_) (fun f _ => Or.inr ⟨fun z => absurd z.1.1 (Nat.not_lt_zero _), ?_⟩)⟩)
  · rw [e4]; exact fm_si (fm_rf _ _) (by omega)
  · rw [e4, si_cell (by omega)]
end KLO
end
section
/-! the class: all states, one after another, with what they are -/
/-- of each finding the first state that shows it, of the first k -/
def FN3 (C : gCo) (w : Nat) (x7 : Nat → Int32) (T : gTy) (k : Nat) : Prop := ∀ f, f < 11 → (x7 f = -1 ∧ ∀ s p, s < k → T.1[s]? = some p → ¬ fnM C w p.1 f) ∨ ∃ s p, s < k ∧ (x7 f).toInt = (s : Nat) ∧ T.1[s]? = some p ∧ fnM C w p.1 f ∧ ∀ s' p', s' < s → T.1[s']? = some p' → ¬ fnM C w p'.1 f
def sKX (o c k : Nat) : Prop := c = 225 ∨ (c = 220 ∧ (k = 13 ∨ k = 14)) ∨ (231 ≤ c ∧ c ≤ 233) ∨ c = 209 ∨ c = 210 ∨ c = 240 ∨ (c = o ∧ 2 ≤ k ∧ k ≤ 5) ∨ c = o + 7 ∨ c = o + 8 ∨ c = o + 9 ∨ c = o + 14 ∨ 4000 ≤ c ∨ (c = 60 ∧ k = 5) ∨ c = 65
section PEX
variable {C : gCo} {M : gMa} {T T' : gTy} {w lim s i n m k : Nat} {x7 y7 : Nat → Int32}
theorem adS_pre (h : s < T.1.length) (a b : Nat) : (adS lim a b T M).1[s]? = T.1[s]? ∧ T.1.length ≤ (adS lim a b T M).1.length := by
  by_cases c : ∃ q ∈ T.1, q.1 = M
  · rw [adS_old c]; exact ⟨rfl, Nat.le_refl _⟩
  · by_cases c2 : lim ≤ T.1.length
    · rw [adS_full c c2]; exact ⟨rfl, Nat.le_refl _⟩
    · rw [adS_new c c2]
      refine ⟨List.getElem?_append_left h, ?_⟩
      show _ ≤ (T.1 ++ _).length
      rw [List.length_append]; omega
theorem onS_pre (h : s < T.1.length) (a : Nat) : ∀ n, (onS C w lim a M n T).1[s]? = T.1[s]? ∧ T.1.length ≤ (onS C w lim a M n T).1.length := by
  intro n
  induction n with
  | zero => exact ⟨rfl, Nat.le_refl _⟩
  | succ n ih =>
    rw [onS]
    split
    · exact ih
    · obtain ⟨i1, i2⟩ := ih
      obtain ⟨j1, j2⟩ := adS_pre (lim := lim) (M := doM C w M (((chM C w M)[n]?).getD (0, none, none))) (s := s) (T := onS C w lim a M n T) (by omega) a n
      exact ⟨j1.trans i1, Nat.le_trans i2 j2⟩
theorem onS_stop (h : (onS C w lim k M n T).2 = true) : ∀ m, n ≤ m → onS C w lim k M m T = onS C w lim k M n T := by
  intro m
  induction m with
  | zero => intro hm; rw [show n = 0 by omega]
  | succ m ih =>
    intro hm
    by_cases c : n = m + 1
    · rw [c]
    · have e := ih (by omega)
      rw [onS, e, if_pos h]
theorem onS_go (h : ¬ (onS C w lim k M n T).2 = true) {ch : gCh} (hc : (chM C w M)[n]? = some ch) : onS C w lim k M (n + 1) T = adS lim k n (onS C w lim k M n T) (doM C w M ch) := by
  rw [onS, if_neg h, hc]
  rfl
theorem FN3_T (h : ∀ s, s < k → T'.1[s]? = T.1[s]?) (g : FN3 C w x7 T k) : FN3 C w x7 T' k := by
  intro f hf
  rcases g f hf with ⟨g1, g2⟩ | ⟨s, p, g1, g2, g3, g4, g5⟩
  · exact Or.inl ⟨g1, fun s p hs hp => g2 s p hs (by rw [← h s hs]; exact hp)⟩
  · exact Or.inr ⟨s, p, g1, g2, by rw [h s g1]; exact g3, g4, fun s' p' hs' hp' => g5 s' p' hs' (by rw [← h s' (by omega)]; exact hp')⟩
theorem FN3_next {p : gMa × Nat × Nat} {v : Int32} (ev : v.toInt = (k : Nat)) (hp : T.1[k]? = some p) (g : FN3 C w x7 T k) (h : ∀ f, f < 11 → (fD C w p.1 11 f ∧ x7 f = -1 ∧ y7 f = v) ∨ (¬ (fD C w p.1 11 f ∧ x7 f = -1) ∧ y7 f = x7 f)) : FN3 C w y7 T (k + 1) := by
  intro f hf
  rcases h f hf with ⟨h1, h2, h3⟩ | ⟨h1, h3⟩
  · refine Or.inr ⟨k, p, by omega, by rw [h3]; exact ev, hp, h1.2, fun s' p' hs' hp' => ?_⟩
    rcases g f hf with ⟨-, g2⟩ | ⟨s, p9, -, g2, -⟩
    · exact g2 s' p' hs' hp'
    · rw [h2, tm1] at g2; omega
  · rw [h3]
    rcases g f hf with ⟨g1, g2⟩ | ⟨s, p9, g1, g2⟩
    · refine Or.inl ⟨g1, fun s' p' hs' hp' => ?_⟩
      by_cases e : s' = k
      · rw [e, hp] at hp'
        rw [← Option.some.inj hp']
        exact fun z => h1 ⟨⟨hf, z⟩, g1⟩
      · exact g2 s' p' (by omega) hp'
    · exact Or.inr ⟨s, p9, by omega, g2⟩
end PEX
section KEXP
variable {G : kG} {q q0 q1 : kP} {d : Nat} {x x0 y z : gd} {o : Nat} {F : Int32 → gd → Prop} {Fv : gd → Prop} {Fm : gd → kP → Prop} {X : String → gd → kP → Prop} {C : gCo} {M : gMa} {T : gTy} {nl w lim : Nat} {S : Nat → Nat → Prop}
theorem KX3_S (hO : o = 260 ∨ o = 280) (hK : CK x C) (f : fm S x y) (hs : ∀ c k, S c k → sKX o c k) (h3 : T.1.length ≤ 3000) (h : KX3 C nl w x o T) : KX3 C nl w y o T := by
  have f : fm (sKX o) x y := fm_w f hs
  refine KX3_f hK (fun c k hc => f c k (by unfold sKX; omega)) (fun k h1 h2 => f _ _ (by unfold sKX; omega)) (fun s k hs => f _ _ (by unfold sKX; omega)) (fun k => f _ _ (by unfold sKX; omega)) (fun k => f _ _ (by unfold sKX; omega)) (f _ _ (by unfold sKX; omega)) (f _ _ (by unfold sKX; omega)) (fun k => f _ _ (by unfold sKX; omega)) (fun k => f _ _ (by unfold sKX; omega)) (fun k => f _ _ (by unfold sKX; omega)) h
/-- program, way, locks -/
def J3 (C : gCo) (nl w : Nat) (x : gd) : Prop := CK x C ∧ x.1 220 3 = Int32.ofNat w ∧ (x.1 60 9).toInt = (nl : Nat)
theorem J3_f (hc : agC x y) (hm : agM 220 x y) (h : J3 C nl w x) : J3 C nl w y := ⟨CK_f h.1 hc, by rw [hm 3 (by omega) (by omega)]; exact h.2.1, by rw [hc 60 9 (by omega)]; exact h.2.2⟩
theorem J3_S (hO : o = 260 ∨ o = 280) (f : fm S x y) (hs : ∀ c k, S c k → sKX o c k) (h : J3 C nl w x) : J3 C nl w y := by
  have f : fm (sKX o) x y := fm_w f hs
  exact J3_f (fun c k hc => f c k (by unfold sKX; omega)) (fun k h1 h2 => f _ _ (by unfold sKX; omega)) h
theorem kx_25 {c k : Nat} (h : c = 225) : sKX o c k := Or.inl h
theorem kx_Li {c k : Nat} (h : sLi 220 c k) : sKX o c k := by unfold sLi at h; unfold sKX; omega
theorem kx_In {c k : Nat} (h : sIn o c k) : sKX o c k := by unfold sIn at h; unfold sKX; omega
theorem kx_Vi {c k : Nat} (h : sVi o c k) : sKX o c k := by unfold sVi at h; unfold sKX; omega
theorem kx_Mk {c k : Nat} (h : sMk 220 c k) : sKX o c k := by unfold sMk at h; unfold sKX; omega
theorem kchL_f {l : List gCh} (e13 : y.1 220 13 = x.1 220 13) (e : ∀ c k, 231 ≤ c → c ≤ 233 → y.1 c k = x.1 c k) (h : kchL x 220 l) : kchL y 220 l := by
  obtain ⟨h1, h2⟩ := h
  refine ⟨by rw [e13]; exact h1, fun i ch hi => ?_⟩
  have := h2 i ch hi
  unfold kch at this ⊢
  rw [e (220 + 11) i (by omega) (by omega), e (220 + 12) i (by omega) (by omega), e (220 + 13) i (by omega) (by omega)]
  exact this
/-- the choices of one state -/
theorem kx_inner3 (he : q.ex = true) (ho : kiT q o) (hN : NC C) (hX : NXc C) (hX3 : NX3 C) (hLk : LkN C nl) (w01 : w = 0 ∨ w = 1) (l i : Int32) {k : Nat} (ei : i.toInt = k) (hk3 : k < 3000) (el : l.toInt = (lim : Nat)) (hl3 : lim ≤ 3000) {p : gMa × Nat × Nat} (hp : T.1[k]? = some p) (l84 : (chM C w p.1).length ≤ 84) {x7 : Nat → Int32}
    (again : ∀ (q2 : kP) (t : gd), kU q2 → kle q q2 → q2.et = some o → fm (sEx o) x t → XI t q2 o → J3 C nl w t → KX3 C nl w t o (onS C w lim k p.1 (chM C w p.1).length T) → (∀ f, t.1 (o + 7) f = x7 f) → KM G q2 (d + 6) zk_X2_explore 49 [(0, vr 200), (2, vi l), (4, vi (i + 1))] [] t (rm q Fm) X) :
    ∀ (n j : Nat) (i2 : Int32) (q2 : kP) (t : gd), i2.toInt = j → (chM C w p.1).length - j ≤ n → j ≤ (chM C w p.1).length → kU q2 → kle q q2 → q2.et = some o → fm (sEx o) x t → XI t q2 o → J3 C nl w t → kchL t 220 (chM C w p.1) → KX3 C nl w t o (onS C w lim k p.1 j T) → (∀ f, t.1 (o + 7) f = x7 f) → KM G q2 (d + 6) zk_X2_explore 95 [(0, vr 200), (2, vi l), (4, vi i), (5, vi i2)] [] t (rm q Fm) X := by
  have hO := iT_O ho
  have k1 : (1 : Int32).toInt = 1 := rfl
  have k0 : (0 : Int32).toInt = 0 := rfl
  intro n
  induction n with
  | zero =>
    intro j i2 q2 t ej hn hj hu2 hl2 et2 ft hXt hJ hc hT h7
    have ho2 := kle_T hl2 ho
    have he2 := hl2.2.1.2.1 he
    have jl : j = (chM C w p.1).length := by omega
    have c13 := hc.1
    refine kg_X2_explore_95 hu2 he2 ho2 l i i2 ⟨fun _ => again q2 t hu2 hl2 et2 ft hXt hJ (by rw [← jl]; exact hT) h7, fun c => ?_⟩
    rw [t_le] at c; omega
  | succ n ihn =>
    intro j i2 q2 t ej hn hj hu2 hl2 et2 ft hXt hJ hc hT h7
    have ho2 := kle_T hl2 ho
    have he2 := hl2.2.1.2.1 he
    have hkn2 := hu2.2.2.2.2.1
    have hm2 : kiM q2 220 := Or.inr ⟨rfl, he2⟩
    have c13 := hc.1
    refine kg_X2_explore_95 hu2 he2 ho2 l i i2 ⟨fun c => again q2 t hu2 hl2 et2 ft hXt hJ ?_ h7, fun c2 u2 e2 => ⟨o, by rw [e2, et_r et2], ho2, fun cp => again q2 t hu2 hl2 et2 ft hXt hJ ?_ h7, fun cp => ?_⟩⟩
    · rw [t_le] at c
      have jl : j = (chM C w p.1).length := by omega
      rw [← jl]; exact hT
    · have pt : (onS C w lim k p.1 j T).2 = true := by
        apply Classical.byContradiction
        intro z
        have := hT.1.2
        rw [if_neg z] at this
        exact cp this
      rw [onS_stop pt _ hj]; exact hT
    rw [t_le] at c2
    have pf : ¬ (onS C w lim k p.1 j T).2 = true := fun z => by
      have := hT.1.2
      rw [if_pos z] at this
      rw [this] at cp
      exact absurd cp (by decide)
    have hjl : j < (chM C w p.1).length := by omega
    obtain ⟨ch, hch⟩ : ∃ ch, (chM C w p.1)[j]? = some ch := ⟨_, List.getElem?_eq_getElem hjl⟩
    have hkl := gt_lt hp
    obtain ⟨pr1, pr2⟩ := onS_pre (C := C) (w := w) (lim := lim) (M := p.1) hkl k j
    have hp' : (onS C w lim k p.1 j T).1[k]? = some p := by rw [pr1]; exact hp
    have hkp := hT.2.1 k p hp'
    have hk0 : (k : Int) < (t.1 o 0).toInt := by rw [hT.1.1]; omega
    have hT3 : (onS C w lim k p.1 j T).1.length ≤ 3000 := by have := hT.1.1; have := hXt.2.1.1.1; omega
    have hkr := hXt.2.2.2.1 k hk0
    have hsn : k < q2.kn := by have := hXt.2.2.1; omega
    have ej1 : (i2 + 1).toInt = ((j + 1 : Nat) : Int) := by rw [t_add (by rw [k1]; omega) (by rw [k1]; omega), k1, ej]; rfl
    refine kx_recall hu2.1 he2 hXt.1.1 hXt.1.2 i ei hsn hk3 hkr (fun a2 ea2 hMa2 fa2 => ?_)
    have hXa2 : XI a2 q2 o := XI_q hO (fm_w fa2 (fun c k => qu_25)) hXt hkn2
    have ga2 : KMm a2 220 C p.1 := by rw [ea2]; exact hkp.2.1
    have hJa := J3_S hO fa2 (fun c k => kx_25) hJ
    have hTa := KX3_S hO hJ.1 fa2 (fun c k => kx_25) hT3 hT
    have hca := kchL_f (c13_25 fa2) (fun c k h1 h2 => fa2 _ _ (by omega)) hc
    have e0a := co0_25 hO fa2
    refine kh_perform hu2.1 hm2 hMa2 hJa.1 hN hX hX3 ga2 (WMw_WM hkp.2.2.1.1) hJa.2.1 w01 i2 ej (by omega) (hca.2 j ch hch) (ch_in (List.mem_of_getElem? hch)) (fun b2 hMb2 fb2 hD2 gb2 _ => ?_)
    have hXb2 : XI b2 q2 o := XI_q hO (fm_w fb2 (fun c k => qu_Mk)) hXa2 hkn2
    have hJb := J3_S hO fb2 (fun c k => kx_Mk) hJa
    have hTb := KX3_S hO hJa.1 fb2 (fun c k => kx_Mk) hT3 hTa
    have hcb := kchL_f (c13_Mk fb2) (fun c k h1 h2 => fb2 _ _ (by unfold sMk; omega)) hca
    have l6 : C.2.1.length ≤ 6 := by have := hMb2.1.1.2.2.1; have := hJb.1.2.1.1; omega
    have lb : (C.2.2.1.length : Int) < 2147483648 := by have := hMb2.1.1.1; have := hJb.1.2.2.1.1; omega
    have hmem := List.mem_of_getElem? hch
    refine kx_addState3 (d := d + 1) (A := k) (B := j) hu2 he2 ho2 et2 hXb2 hMb2 hJb.1 hN hJb.2.2 gb2 (MIv_do hX l6 hkp.2.2.1 hmem) (MCn_do hN hX hLk lb l6 hkp.2.2.2.1 hkp.2.2.1 hmem) (NBm_do hkp.2.2.2.2.1) hTb i i2 l (Or.inr ⟨ei, by omega, ej⟩) el hl3 (fun c3 q3 hu3 hl3' et3 f3 hX3' hrow hT3' => ?_)
    obtain ⟨ac3, am3⟩ := sKe_C hO f3
    refine ihn (j + 1) _ q3 c3 ej1 (by omega) hjl hu3 (kle_tr hl2 hl3') (by rw [et3]; exact et2) (fm_tr ft (fm_tr (fm_tr (fm_w fa2 (fun c k => ex_25)) (fm_w fb2 (fun c k => ex_Mk))) (fm_w f3 (fun c k => ex_Ke)))) hX3' (J3_f ac3 am3 hJb) (kchL_f (c13_Ke hO f3) (fun c k h1 h2 => f3 _ _ (by unfold sKe; omega)) hcb) (by rw [onS_go pf hch]; exact hT3') (fun f => ?_)
    rw [f3 _ _ (by unfold sKe; omega), fb2 _ _ (by unfold sMk; omega), fa2 _ _ (by omega)]
    exact h7 f
end KEXP
end
section
/-! the class: explore() tries as the machine does -/
section KALL
variable {G : kG} {q q0 q1 : kP} {d : Nat} {x x0 y z : gd} {o : Nat} {F : Int32 → gd → Prop} {Fv : gd → Prop} {Fm : gd → kP → Prop} {X : String → gd → kP → Prop} {C : gCo} {M : gMa} {T : gTy} {nl w lim : Nat}
theorem kx_outer3 (he : q.ex = true) (ho : kiT q o) (hN : NC C) (hX : NXc C) (hX3 : NX3 C) (hLk : LkN C nl) (hq2 : NCq C) (w01 : w = 0 ∨ w = 1) (l : Int32) (el : l.toInt = (lim : Nat)) (hl3 : lim ≤ 3000) (h : ∀ y q1, kU q1 → kle q q1 → q1.et = some o → fm (sEx o) x y → TZ y o → TO y q1 o → J3 C nl w y → KX3 C nl w y o (tryM C w lim) → FN3 C w (y.1 (o + 7)) (tryM C w lim) (tryM C w lim).1.length → Fm y q1) :
    ∀ (m k : Nat) (i : Int32) (q9 : kP) (v : gd) (T : gTy), i.toInt = k → 3000 - (k : Int) ≤ m → k ≤ T.1.length → kU q9 → kle q q9 → q9.et = some o → fm (sEx o) x v → XI v q9 o → J3 C nl w v → KX3 C nl w v o T → FN3 C w (v.1 (o + 7)) T k → bfS C w lim (3001 - k) k T = tryM C w lim → KM G q9 (d + 6) zk_X2_explore 49 [(0, vr 200), (2, vi l), (4, vi i)] [] v (rm q Fm) X := by
  have hO := iT_O ho
  have k1 : (1 : Int32).toInt = 1 := rfl
  have k3 : (3000 : Int32).toInt = 3000 := rfl
  intro m
  have hend : ∀ (k : Nat) (i : Int32) (q9 : kP) (v : gd) (T : gTy), k = T.1.length → kU q9 → kle q q9 → q9.et = some o → fm (sEx o) x v → XI v q9 o → J3 C nl w v → KX3 C nl w v o T → FN3 C w (v.1 (o + 7)) T k → bfS C w lim (3001 - k) k T = tryM C w lim → rm q Fm none v q9 := by
    intro k i q9 v T hk hu9 hl9 et9 fv hX9 hJ hT hFN hb
    rw [bfS_end (List.getElem?_eq_none (by omega))] at hb
    subst hb
    exact rm_i hu9 hl9 (h v q9 hu9 hl9 et9 fv hX9.2.1.1 hX9.2.1.2 hJ hT (by rw [← hk]; exact hFN))
  induction m with
  | zero =>
    intro k i q9 v T ei hm hkT hu9 hl9 et9 fv hX9 hJ hT hFN hb
    have ho9 := kle_T hl9 ho
    have he9 := hl9.2.1.2.1 he
    have tz := hX9.2.1.1.1
    have t0 := hT.1.1
    have e := hend k i q9 v T (by omega) hu9 hl9 et9 fv hX9 hJ hT hFN hb
    refine kg_X2_explore_49 hu9 he9 ho9 l i (fun u1 e1 => ⟨o, by rw [e1, et_r et9], ho9, fun _ => e, fun _ => ⟨fun _ => e, fun c => ?_⟩⟩)
    rw [t_le, k3] at c; omega
  | succ m ih =>
    intro k i q9 v T ei hm hkT hu9 hl9 et9 fv hX9 hJ hT hFN hb
    have ho9 := kle_T hl9 ho
    have he9 := hl9.2.1.2.1 he
    have hm9 : kiM q9 220 := Or.inr ⟨rfl, he9⟩
    have tz := hX9.2.1.1.1
    have t0 := hT.1.1
    refine kg_X2_explore_49 hu9 he9 ho9 l i (fun u1 e1 => ⟨o, by rw [e1, et_r et9], ho9, fun c => hend k i q9 v T ?_ hu9 hl9 et9 fv hX9 hJ hT hFN hb, fun c0 => ⟨fun c => hend k i q9 v T ?_ hu9 hl9 et9 fv hX9 hJ hT hFN hb, fun c => ?_⟩⟩)
    · rw [t_le, ei] at c; omega
    · rw [t_le, k3, ei] at c; omega
    rw [t_le, ei] at c0
    rw [t_le, k3, ei] at c
    have ei1 : (i + 1).toInt = ((k + 1 : Nat) : Int) := by rw [t_add (by rw [k1]; omega) (by rw [k1]; omega), k1, ei]; rfl
    have hkn9 := hu9.2.2.2.2.1
    have hk0 : (k : Int) < (v.1 o 0).toInt := by omega
    have hk3 : k < 3000 := by omega
    have hkl : k < T.1.length := by omega
    have hT3 : T.1.length ≤ 3000 := by omega
    have hsn : k < q9.kn := by have := hX9.2.2.1; omega
    have hm2 : 3000 - ((k + 1 : Nat) : Int) ≤ m := by push_cast; omega
    clear c c0 hm
    obtain ⟨p, hp⟩ : ∃ p, T.1[k]? = some p := ⟨_, List.getElem?_eq_getElem hkl⟩
    have hkp := hT.2.1 k p hp
    have hkr := hX9.2.2.2.1 k hk0
    rw [show 3001 - k = (3000 - k) + 1 by omega, bfS_go hp] at hb
    refine kx_recall hu9.1 he9 hX9.1.1 hX9.1.2 i ei hsn hk3 hkr (fun a ea hMa fa => ?_)
    have hXa : XI a q9 o := XI_q hO (fm_w fa (fun c k => qu_25)) hX9 hkn9
    have ga : KMm a 220 C p.1 := by rw [ea]; exact hkp.2.1
    have hJa := J3_S hO fa (fun c k => kx_25) hJ
    have hTa := KX3_S hO hJ.1 fa (fun c k => kx_25) hT3 hT
    refine kh_listChoices hu9.1 hm9 hMa hJa.1 hN ga hkp.2.2.1.2 hJa.2.1 w01 (fun b fb hLb hcb => ?_)
    have hMb := MM_Li (Or.inr rfl) fb hMa
    have hXb : XI b q9 o := XI_q hO (fm_w fb (fun c k => qu_Li)) hXa hkn9
    have hJb := J3_S hO fb (fun c k => kx_Li) hJa
    have hTb := KX3_S hO hJa.1 fb (fun c k => kx_Li) hT3 hTa
    have gb := KMm_Li (Or.inr rfl) hMa hJa.1 fb ga
    have e0b : b.1 o 0 = v.1 o 0 := (co0_Li hO fb).trans (co0_25 hO fa)
    refine kh_inspectActs hu9.1 he9 ho9 et9 hMb hJb.1 hN hX hX3 gb hJb.2.1 w01 hLb hcb (fun c1 fc hac => ?_)
    have hXc : XI c1 q9 o := XI_q hO (fm_w fc (fun c k => qu_In)) hXb hkn9
    have hMc := sIn_MM ho9 fc hMb
    have hJc := J3_S hO fc (fun c k => kx_In) hJb
    have hTc := KX3_S hO hJb.1 fc (fun c k => kx_In) hT3 hTb
    obtain ⟨-, gc⟩ := KM_In ho9 hMb hJb.1 fc gb
    have hcc := kchL_f (c13_In hO fc) (fun c k h1 h2 => fc _ _ (by unfold sIn; omega)) hcb
    have e0 : c1.1 o 0 = v.1 o 0 := (co0_In hO fc).trans e0b
    have hs : 0 ≤ i.toInt ∧ i.toInt < (c1.1 o 0).toInt := by rw [e0, ei]; omega
    refine kh_inspect hu9 he9 ho9 et9 hMc hJc.1 hN hq2 gc hcc.1 hac hXc.2.1.1 hXc.2.1.2 i hs (fun y q1 hu1 hl1 et1 hy hfa => ?_)
    have hl1' := kle_tr hl9 hl1
    have et1' : q1.et = some o := by rw [et1]; exact et9
    have fy : fm (sEx o) x y := fm_tr (fm_tr (fm_tr (fm_tr fv (fm_w fa (fun c k => ex_25))) (fm_w fb (fun c k => ex_Li))) (fm_w fc (fun c k => ex_In))) (fm_w hy.1 (fun c k => ex_Vi))
    have hXy : XI y q1 o := XI_w hO (fm_w hy.1 (fun c k => wd_Vi)) hy.2.2.1 hy.2.2.2 hl1.2.2.1.1 hXc hkn9
    have hJy := J3_S hO hy.1 (fun c k => kx_Vi) hJc
    have hTy := KX3_S hO hJc.1 hy.1 (fun c k => kx_Vi) hT3 hTc
    have hcy := kchL_f (c13_Vi hO hy.1) (fun c k h1 h2 => hy.1 _ _ (by unfold sVi; omega)) hcc
    have e7 : ∀ f, c1.1 (o + 7) f = v.1 (o + 7) f := fun f => by rw [fc _ _ (by unfold sIn; omega), fb _ _ (by unfold sLi; omega), fa _ _ (by omega)]
    have hFy : FN3 C w (y.1 (o + 7)) T (k + 1) := FN3_next ei hp hFN (fun f hf => by rw [← e7 f]; exact hfa f hf)
    have l84 : (chM C w p.1).length ≤ 84 := by have := hcb.1; have := hLb.1.2; omega
    refine kx_inner3 he ho hN hX hX3 hLk w01 l i ei hk3 el hl3 hp l84 (x7 := y.1 (o + 7)) (fun q2 t hu2 hl2 et2 ft hXt hJt hTt h7 => ?_) 84 0 _ q1 y rfl (by omega) (Nat.zero_le _) hu1 hl1' et1' fy hXy hJy hcy hTy (fun f => rfl)
    have pre := fun s (hs : s < T.1.length) => onS_pre (C := C) (w := w) (lim := lim) (M := p.1) hs k (chM C w p.1).length
    refine ih (k + 1) _ q2 t _ ei1 hm2 (by have := (pre k hkl).2; omega) hu2 hl2 et2 ft hXt hJt hTt ?_ (by rw [show 3001 - (k + 1) = 3000 - k by omega]; exact hb)
    rw [show t.1 (o + 7) = y.1 (o + 7) from funext h7]
    exact FN3_T (fun s hs => (pre s (by omega)).1) hFy
theorem kx_explore3 (hu : kU q) (he : q.ex = true) (ho : kiT q o) (hC : CO x) (hK : CK x C) (hN : NC C) (hX : NXc C) (hX3 : NX3 C) (hLk : LkN C nl) (hq2 : NCq C) (en : (x.1 60 9).toInt = (nl : Nat)) (w01 : w = 0 ∨ w = 1) (l : Int32) (el : l.toInt = (lim : Nat)) (hl1 : 1 ≤ lim) (hl3 : lim ≤ 3000) (h : ∀ y q1, kU q1 → kle q q1 → q1.et = some o → fm (sEx o) x y → TZ y o → TO y q1 o → J3 C nl w y → KX3 C nl w y o (tryM C w lim) → FN3 C w (y.1 (o + 7)) (tryM C w lim) (tryM C w lim).1.length → Fm y q1) : KM G q (d + 6) zk_X2_explore 0 [(0, vr 200), (1, vi (Int32.ofNat w)), (2, vi l), (3, vr o)] [] x (rm q Fm) X := by
  have hO := iT_O ho
  have k0 : (0 : Int32).toInt = 0 := rfl
  have hw : Int32.ofNat w = 0 ∨ Int32.ofNat w = 1 := by
    rcases w01 with e | e <;> rw [e]
    · exact Or.inl rfl
    · exact Or.inr rfl
  refine kg_X2_explore_0 hu he ho (Int32.ofNat w) l (fun q1 e1 hu1 hl1' u2 e2 => ⟨o, ?_, kle_T hl1' ho, ?_⟩)
  · rw [e2, e1]; exact et_r rfl
  have et1 : q1.et = some o := by rw [e1]; rfl
  have ho1 := kle_T hl1' ho
  have he1 := hl1'.2.1.2.1 he
  have hm1 : kiM q1 220 := Or.inr ⟨rfl, he1⟩
  refine kt_clear (d := d + 4) hu1.1 ho1 (oN_U hu1 o) _ (fun y fy y0 y3 y1 hzy hty x6 e6 => ?_)
  have f6 : fm (fun c k => c = 205) y x6 := by rw [e6]; exact fm_fl (fm_rf _ _) (fun k hk => rfl)
  have ac6 : agC x x6 := fun c k hc => by rw [f6 c k (by omega)]; exact fy c k (by unfold sTr; omega)
  have hC6 : CO x6 := CO_fm hC ac6
  have hK6 : CK x6 C := CK_f hK ac6
  refine kh_reset hu1.1 hm1 hC6 hK6 hN (Int32.ofNat w) hw (fun x7 hM7 f7 e7 g7 => ?_)
  have ac7 : agC x6 x7 := fun c k hc => f7 c k (by unfold sRe; omega)
  have hJ7 : J3 C nl w x7 := ⟨CK_f hK6 ac7, e7, by rw [ac7 60 9 (by omega), ac6 60 9 (by omega)]; exact en⟩
  have e70 : x7.1 o 0 = 0 := by rw [f7 o 0 (by unfold sRe; omega), f6 o 0 (by omega), y0]
  have e71 : x7.1 o 1 = 0 := by rw [f7 o 1 (by unfold sRe; omega), f6 o 1 (by omega), y1]
  have e75 : ∀ j, j < 8192 → x7.1 205 j = 0 := fun j hj => by rw [f7 205 j (by unfold sRe; omega), e6, sfl_get, if_pos ⟨rfl, hj⟩]
  have e77 : ∀ f, f < 11 → x7.1 (o + 7) f = -1 := fun f hf => by
    rw [f7 _ _ (by unfold sRe; omega), f6 _ _ (by omega)]
    rcases hzy.2.1 f hf with e | e
    · exact e
    · rw [y0, k0] at e; omega
  have hX7 : XI x7 q1 o := by
    refine ⟨⟨hM7.1, hM7.2.1⟩, ⟨TZ_fm f7 (by unfold sRe; omega) (fun c k hc => by unfold sRe; omega) (TZ_fm f6 (by omega) (fun c k hc => by omega) hzy), TO_fm f7 (by unfold sRe; omega) (fun k => by unfold sRe; omega) (TO_fm f6 (by omega) (fun k => by omega) hty)⟩, by rw [e70, k0]; omega, fun s hs => by rw [e70, k0] at hs; omega, fun j hj => ?_⟩
    rw [e75 j hj, e70, k0]
    omega
  have hT7 : KX3 C nl w x7 o ([], false) := by
    refine ⟨⟨by rw [e70, k0]; rfl, by rw [e71]; rfl⟩, fun s p hp => (nomatch hp), ⟨fun j hj => by rw [e75 j hj, k0]; exact ⟨Int.le_refl _, Int.le_refl _⟩, fun s hs => absurd hs (Nat.not_lt_zero _), ?_⟩, fun s p hp => (nomatch hp)⟩
    have : (List.range 8192).countP (fun j => decide (¬ x7.1 205 j = 0)) = 0 := List.countP_eq_zero.mpr (fun j hj => by rw [e75 j (List.mem_range.mp hj)]; decide)
    rw [this]; exact Nat.le_refl _
  refine kx_addState3 (d := d + 1) (A := 0) (B := 0) hu1 he1 ho1 et1 hX7 hM7 hJ7.1 hN hJ7.2.2 g7 MIv_fs MCn_fs NBm_fs hT7 _ _ l (Or.inl ⟨rfl, rfl⟩) el hl3 (fun x8 q9 hu9 hl9 et9 f8 hX8 hrow hT8 => ?_)
  have nw : ¬ ∃ p ∈ (([], false) : gTy).1, p.1 = fsM C := fun ⟨p, h1, _⟩ => nomatch h1
  have eT : adS lim 0 0 ([], false) (fsM C) = ([(fsM C, 0, 0)], false) := adS_new nw (by show ¬ lim ≤ 0; omega)
  rw [eT] at hT8
  obtain ⟨ac8, am8⟩ := sKe_C hO f8
  refine kx_outer3 he ho hN hX hX3 hLk hq2 w01 l el hl3 h 3000 0 _ q9 x8 _ rfl (by omega) (Nat.zero_le _) hu9 (kle_tr hl1' hl9) (by rw [et9]; exact et1) ?_ hX8 (J3_f ac8 am8 hJ7) hT8 (fun f hf => Or.inl ⟨by rw [f8 _ _ (by unfold sKe; omega)]; exact e77 f hf, fun s p hs => absurd hs (Nat.not_lt_zero _)⟩) rfl
  exact fm_tr (fm_tr (fm_tr (fm_w fy (fun c k => ex_Tr)) (fm_w f6 (fun c k q => by unfold sEx; omega))) (fm_w f7 (fun c k => ex_Re))) (fm_w f8 (fun c k => ex_Ke))
end KALL
end
section
/-! a trying: each state comes from an earlier one by a choice; the way to it -/
def TW (C : gCo) (w : Nat) (T : gTy) : Prop := ∀ s p, T.1[s]? = some p → (s = 0 → p.1 = fsM C) ∧ (0 < s → p.2.1 < s ∧ ∃ p' ch, T.1[p.2.1]? = some p' ∧ (chM C w p'.1)[p.2.2]? = some ch ∧ p.1 = doM C w p'.1 ch)
/-- the choices that lead to a state -/
def pthF (T : gTy) : Nat → Nat → List Nat
  | 0, _ => []
  | _ + 1, 0 => []
  | f + 1, s + 1 => match T.1[s + 1]? with
    | none => []
    | some p => pthF T f p.2.1 ++ [p.2.2]
def pth (T : gTy) (s : Nat) : List Nat := pthF T s s
section PTW
variable {C : gCo} {M : gMa} {T T' : gTy} {w lim s i n m k f : Nat} {p : gMa × Nat × Nat}
theorem TW_ad (h : TW C w T) (hp : T.1[k]? = some p) {ch : gCh} (hc : (chM C w p.1)[i]? = some ch) : TW C w (adS lim k i T (doM C w p.1 ch)) := by
  by_cases c : ∃ q ∈ T.1, q.1 = doM C w p.1 ch
  · rw [adS_old c]; exact h
  · by_cases c2 : lim ≤ T.1.length
    · rw [adS_full c c2]; exact h
    · rw [adS_new c c2]
      have hk := gt_lt hp
      intro s r hr
      have hr : (T.1 ++ [(doM C w p.1 ch, k, i)])[s]? = some r := hr
      show _ ∧ (0 < s → r.2.1 < s ∧ ∃ p' ch', (T.1 ++ [(doM C w p.1 ch, k, i)])[r.2.1]? = some p' ∧ _)
      by_cases cs : s < T.1.length
      · rw [List.getElem?_append_left cs] at hr
        obtain ⟨h1, h2⟩ := h s r hr
        refine ⟨h1, fun s0 => ?_⟩
        obtain ⟨h3, p', ch', h4, h5⟩ := h2 s0
        exact ⟨h3, p', ch', by rw [List.getElem?_append_left (by omega)]; exact h4, h5⟩
      · have hl := gt_lt hr
        rw [List.length_append, List.length_singleton] at hl
        have es : s = T.1.length := by omega
        rw [es, List.getElem?_append_right (Nat.le_refl _), Nat.sub_self] at hr
        have hr : (doM C w p.1 ch, k, i) = r := Option.some.inj hr
        rw [← hr, es]
        refine ⟨fun z => by omega, fun _ => ⟨hk, p, ch, ?_, hc, rfl⟩⟩
        show (T.1 ++ _)[k]? = _
        rw [List.getElem?_append_left hk]; exact hp
theorem TW_on (h : TW C w T) (hp : T.1[k]? = some p) : ∀ n, n ≤ (chM C w p.1).length → TW C w (onS C w lim k p.1 n T) := by
  intro n
  induction n with
  | zero => intro _; exact h
  | succ n ih =>
    intro hn
    by_cases c : (onS C w lim k p.1 n T).2 = true
    · rw [onS, if_pos c]; exact ih (by omega)
    · have hch := List.getElem?_eq_getElem (show n < (chM C w p.1).length by omega)
      rw [onS_go c hch]
      exact TW_ad (ih (by omega)) (by rw [(onS_pre (gt_lt hp) k n).1]; exact hp) hch
theorem TW_bf : ∀ f s (T : gTy), TW C w T → TW C w (bfS C w lim f s T) := by
  intro f
  induction f with
  | zero => intro s T h; exact h
  | succ f ih =>
    intro s T h
    cases hs : T.1[s]? with
    | none => rw [bfS_end hs]; exact h
    | some p => rw [bfS_go hs]; exact ih _ _ (TW_on h hs _ (Nat.le_refl _))
theorem TW_try : TW C w (tryM C w lim) := TW_bf _ _ _ (fun s p hp => by
  cases s with
  | zero =>
    have hp : (fsM C, 0, 0) = p := Option.some.inj hp
    rw [← hp]
    exact ⟨fun _ => rfl, fun z => absurd z (Nat.lt_irrefl _)⟩
  | succ s => exact nomatch hp)
theorem pthF_eq (h : TW C w T) : ∀ f g s, s ≤ f → s ≤ g → pthF T f s = pthF T g s := by
  intro f
  induction f with
  | zero =>
    intro g s h1 h2
    rw [show s = 0 by omega]
    cases g <;> rfl
  | succ f ih =>
    intro g s h1 h2
    cases s with
    | zero => cases g <;> rfl
    | succ s =>
      cases g with
      | zero => omega
      | succ g =>
        rw [pthF, pthF]
        cases hs : T.1[s + 1]? with
        | none => rfl
        | some p =>
          have := ((h (s + 1) p hs).2 (by omega)).1
          show pthF T f p.2.1 ++ _ = pthF T g p.2.1 ++ _
          rw [ih g p.2.1 (by omega) (by omega)]
theorem pth_0 : pth T 0 = [] := rfl
theorem pth_s (h : TW C w T) (hs : 0 < s) (hp : T.1[s]? = some p) : pth T s = pth T p.2.1 ++ [p.2.2] := by
  have hl := ((h s p hp).2 hs).1
  obtain ⟨r, rfl⟩ : ∃ r, s = r + 1 := ⟨s - 1, by omega⟩
  unfold pth
  rw [pthF, hp]
  show pthF T r p.2.1 ++ _ = _
  rw [pthF_eq h r p.2.1 p.2.1 (by omega) (Nat.le_refl _)]
/-- the choices lead to it -/
theorem pth_run (h : TW C w T) : ∀ n s p, s ≤ n → T.1[s]? = some p → ∀ c : Nat → Nat, (∀ k v, (pth T s)[k]? = some v → c k = v) → runM C w c (pth T s).length = p.1 ∧ ∀ k, k < (pth T s).length → c k < (chM C w (runM C w c k)).length := by
  intro n
  induction n with
  | zero =>
    intro s p hs hp c hc
    have e : s = 0 := by omega
    rw [e] at hp ⊢
    exact ⟨((h 0 p hp).1 rfl).symm, fun k hk => absurd hk (Nat.not_lt_zero _)⟩
  | succ n ih =>
    intro s p hs hp c hc
    by_cases s0 : s = 0
    · rw [s0] at hp ⊢
      exact ⟨((h 0 p hp).1 rfl).symm, fun k hk => absurd hk (Nat.not_lt_zero _)⟩
    · obtain ⟨hl, p', ch, h1, h2, h3⟩ := (h s p hp).2 (by omega)
      have e := pth_s h (by omega) hp
      rw [e] at hc ⊢
      have cl : c (pth T p.2.1).length = p.2.2 := hc _ _ (by rw [List.getElem?_append_right (Nat.le_refl _), Nat.sub_self]; rfl)
      obtain ⟨i1, i2⟩ := ih p.2.1 p' (by omega) h1 c (fun k v hk => hc k v (by rw [List.getElem?_append_left (gt_lt hk)]; exact hk))
      rw [List.length_append, List.length_singleton]
      have hch : (chM C w (runM C w c (pth T p.2.1).length))[c (pth T p.2.1).length]? = some ch := by rw [i1, cl]; exact h2
      refine ⟨by rw [runM_s hch, i1, h3], fun k hk => ?_⟩
      by_cases e9 : k = (pth T p.2.1).length
      · rw [e9]; exact gt_lt hch
      · exact i2 k (by omega)
end PTW
section KPTH
variable {x : gd} {C : gCo} {T : gTy} {w nl o s : Nat} {p : gMa × Nat × Nat}
end KPTH
end
section
/-! the class: show() does the choices that lead to a state -/
def PA3 (x : gd) (o : Nat) (T : gTy) : Prop := ∀ s p, T.1[s]? = some p → (s = 0 → (x.1 (o + 12) 0).toInt = 0) ∧ (0 < s → p.2.1 < s ∧ (x.1 (o + 10) s).toInt = (p.2.1 : Nat) ∧ (x.1 (o + 11) s).toInt = (p.2.2 : Nat) ∧ (x.1 (o + 12) s).toInt = (x.1 (o + 12) p.2.1).toInt + 1)
/-- what a trying has told -/
def TR3 (C : gCo) (w : Nat) (x : gd) (o : Nat) (T : gTy) : Prop := ((x.1 o 0).toInt = (T.1.length : Nat) ∧ x.1 o 1 = if T.2 = true then 1 else 0) ∧ PA3 x o T ∧ FN3 C w (x.1 (o + 7)) T T.1.length
section KSH
variable {G : kG} {q : kP} {d : Nat} {x y z : gd} {o : Nat} {F : Int32 → gd → Prop} {Fv : gd → Prop} {P : Option gv → gd → Prop} {X : String → gd → Prop} {C : gCo} {T : gTy} {nl w n : Nat} {c : Nat → Nat}
theorem TR3_of (h : KX3 C nl w x o T) (g : FN3 C w (x.1 (o + 7)) T T.1.length) : TR3 C w x o T := ⟨h.1, h.2.2.2, g⟩
theorem TR3_f (e0 : y.1 o 0 = x.1 o 0) (e1 : y.1 o 1 = x.1 o 1) (e : ∀ c k, c = o + 7 ∨ c = o + 10 ∨ c = o + 11 ∨ c = o + 12 → y.1 c k = x.1 c k) (h : TR3 C w x o T) : TR3 C w y o T := by
  obtain ⟨h1, h2, h3⟩ := h
  refine ⟨by rw [e0, e1]; exact h1, fun s p hp => ?_, ?_⟩
  · rw [e _ _ (by omega), e _ _ (by omega), e _ _ (by omega), e _ _ (by omega), e _ _ (by omega)]; exact h2 s p hp
  · rw [show y.1 (o + 7) = x.1 (o + 7) from funext (fun k => e _ _ (by omega))]; exact h3
theorem PA_d (h : TW C w T) (g : PA3 x o T) : ∀ n s p, s ≤ n → T.1[s]? = some p → (x.1 (o + 12) s).toInt = ((pth T s).length : Nat) := by
  intro n
  induction n with
  | zero =>
    intro s p hs hp
    have e : s = 0 := by omega
    rw [e] at hp ⊢
    exact (g 0 p hp).1 rfl
  | succ n ih =>
    intro s p hs hp
    by_cases s0 : s = 0
    · rw [s0] at hp ⊢
      exact (g 0 p hp).1 rfl
    · obtain ⟨a1, a2, a3, a4⟩ := (g s p hp).2 (by omega)
      obtain ⟨hl, p', ch, h1, h2, h3⟩ := (h s p hp).2 (by omega)
      rw [a4, ih p.2.1 p' (by omega) h1, pth_s h (by omega) hp, List.length_append, List.length_singleton]
      rfl
theorem kt_pathTo3 (hq : kV q) (ho : kiT q o) {a : Nat} (ka : kK a = .inr (.int, 400)) (ma : a ∈ (kf q).2.1) (hoa : a < o) (s : Int32) {S : Nat} (es : s.toInt = S) {p : gMa × Nat × Nat} (hp : T.1[S]? = some p) (hW : TW C w T) (hA : PA3 x o T) (hT3 : T.1.length ≤ 3000) (h4 : (pth T S).length ≤ 400) (h : ∀ y, fm (fun c k => c = a) x y → (∀ k v, (pth T S)[k]? = some v → (y.1 a k).toInt = (v : Nat)) → Fv y) : KT G q d zk_X10_pathTo 0 [(0, vr o), (1, vi s), (2, vr a)] [] x (rv Fv) := by
  have k1 : (1 : Int32).toInt = 1 := rfl
  have km : (-1 : Int32).toInt = -1 := rfl
  have k0 : (0 : Int32).toInt = 0 := rfl
  have k4 : (Int32.ofNat 400).toInt = 400 := rfl
  have loop : ∀ (n : Nat) (u i : Int32) (U : Nat) (p9 : gMa × Nat × Nat) (r : List Nat) (y : gd), i.toInt = (n : Int) - 1 → u.toInt = U → T.1[U]? = some p9 → (pth T U).length = n → pth T S = pth T U ++ r → fm (fun c k => c = a) x y → (∀ j v, r[j]? = some v → (y.1 a (n + j)).toInt = (v : Nat)) → KT G q d zk_X10_pathTo 12 [(0, vr o), (2, vr a), (3, vi u), (4, vi i)] [] y (rv Fv) := by
    intro n
    induction n with
    | zero =>
      intro u i U p9 r y ei eu hU hl hr fy hy
      have e0 : pth T U = [] := List.eq_nil_of_length_eq_zero hl
      rw [e0, List.nil_append] at hr
      refine kg_X10_pathTo_12 hq ho ka ma _ _ ⟨fun _ => rv_i (h y fy (fun k v hk => ?_)), fun c => ?_⟩
      · rw [hr] at hk
        have := hy k v hk
        rw [Nat.zero_add] at this
        exact this
      · rw [t_lt, k0] at c; omega
    | succ n ih =>
      intro u i U p9 r y ei eu hU hl hr fy hy
      have hlen : (pth T S).length = (n + 1) + r.length := by rw [hr, List.length_append, hl]
      have U0 : 0 < U := by
        apply Classical.byContradiction
        intro c
        rw [show U = 0 by omega, pth_0] at hl
        cases hl
      obtain ⟨a1, a2, a3, a4⟩ := (hA U p9 hU).2 U0
      obtain ⟨hlt, p', ch, g1, g2, g3⟩ := (hW U p9 hU).2 U0
      have ps := pth_s hW U0 hU
      have hUl := gt_lt hU
      have vu : vp_in u 3000 := by rw [vp_in_iff]; omega
      refine kg_X10_pathTo_12 hq ho ka ma _ _ ⟨fun c => ?_, fun c => ⟨fun c2 => ?_, fun c2 => ⟨vu, ?_, fun z ez => ⟨vu, ?_⟩⟩⟩⟩
      · rw [t_lt, k0] at c; push_cast at ei; omega
      · rw [t_le, k4] at c2
        push_cast at ei; omega
      · rw [vp_in_iff]; push_cast at ei; omega
      have eU : u.toNatClampNeg = U := by rw [t_cl, eu]; rfl
      have eI : i.toNatClampNeg = n := by rw [t_cl, ei]; push_cast; omega
      have fz : fm (fun c k => c = a) x z := by rw [ez]; exact fm_si fy rfl
      rw [eU, fz (o + 10) _ (by omega)]
      obtain ⟨i2, hi2⟩ : ∃ i2, i2 = i + -1 := ⟨_, rfl⟩
      rw [← hi2]
      have ei1 : i2.toInt = (n : Int) - 1 := by rw [hi2, t_add (by rw [km]; push_cast at ei; omega) (by rw [km]; push_cast at ei; omega), km, ei]; push_cast; omega
      clear hi2
      have hl' : (pth T p9.2.1).length = n := by rw [ps, List.length_append, List.length_singleton] at hl; omega
      refine ih _ _ p9.2.1 p' (p9.2.2 :: r) z ei1 a2 g1 hl' (by rw [hr, ps, List.append_assoc]; rfl) fz (fun j v hj => ?_)
      cases j with
      | zero =>
        have hj : p9.2.2 = v := Option.some.inj hj
        rw [ez, si_get, if_pos ⟨rfl, by rw [eI]; rfl⟩, eU, fy (o + 11) _ (by omega), ← hj]
        exact a3
      | succ j =>
        have hj : r[j]? = some v := hj
        have := hy j v hj
        rw [ez, si_get, if_neg (fun z => by have := z.2; omega), show n + (j + 1) = n + 1 + j by omega]
        exact this
  have eS : s.toNatClampNeg = S := by rw [t_cl, es]; rfl
  have dd := PA_d hW hA S S p (Nat.le_refl _) hp
  have hSl := gt_lt hp
  refine kg_X10_pathTo_0 hq ho ka ma _ ⟨by rw [vp_in_iff]; omega, ?_⟩
  rw [eS]
  refine loop (pth T S).length _ _ S p [] x ?_ es hp rfl (List.append_nil _).symm (fm_rf _ _) (fun j v hj => nomatch hj)
  rw [t_sub (by rw [k1]; omega) (by rw [k1]; omega), k1, dd]
end KSH
end
section
/-! the class: show() -/
section KSW
variable {G : kG} {q : kP} {d : Nat} {x y z : gd} {o : Nat} {F : Int32 → gd → Prop} {Fv : gd → Prop} {P : Option gv → gd → Prop} {X : String → gd → Prop} {C : gCo} {T : gTy} {nl w n : Nat} {c : Nat → Nat}
theorem k7_w {k : Nat} (h : (kf q).1 7 k = some o) : (k = 0 ∨ k = 1) ∧ o = 260 + 20 * k := by
  have h : kR q 7 k = some o := h
  unfold kR at h
  rw [if_neg (by omega), if_neg (by omega), if_pos rfl] at h
  by_cases e0 : k = 0
  · rw [if_pos e0] at h
    by_cases e : q.t0 = true
    · rw [if_pos e] at h; cases h; exact ⟨Or.inl e0, by omega⟩
    · rw [if_neg e] at h; cases h
  · rw [if_neg e0] at h
    by_cases e1 : k = 1
    · rw [if_pos e1] at h
      by_cases e : q.t1 = true
      · rw [if_pos e] at h; cases h; exact ⟨Or.inr e1, by omega⟩
      · rw [if_neg e] at h; cases h
    · rw [if_neg e1] at h; cases h
theorem w_nat {l : Int32} (hw : l = 0 ∨ l = 1) : ∃ w : Nat, (w = 0 ∨ w = 1) ∧ l = Int32.ofNat w ∧ l.toNatClampNeg = w := by
  rcases hw with e | e
  · exact ⟨0, Or.inl rfl, e, by rw [e]; rfl⟩
  · exact ⟨1, Or.inr rfl, e, by rw [e]; rfl⟩
theorem kh_was (hq : kV q) (hH : HOI x q) (l : Int32) (w01 : w = 0 ∨ w = 1) (el : l = Int32.ofNat w) (h0 : x.1 (260 + 20 * w) 0 = 0 → F 0 x) (h1 : (kf q).1 7 w = some (260 + 20 * w) → kiT q (260 + 20 * w) → TZ x (260 + 20 * w) → CO x → ¬ x.1 (260 + 20 * w) 0 = 0 → F 1 x) : KT G q d zk_X11_wasTried 0 [(0, vr 0), (1, vi l)] [] x (ri F) := by
  have k0 : (0 : Int32).toInt = 0 := rfl
  have hw : l = 0 ∨ l = 1 := by
    rcases w01 with e | e <;> rw [el, e]
    · exact Or.inl rfl
    · exact Or.inr rfl
  have ew : l.toNatClampNeg = w := by rcases w01 with e | e <;> rw [el, e] <;> rfl
  have v := way_in hw
  have hO : 260 + 20 * w = 260 ∨ 260 + 20 * w = 280 := by omega
  refine kg_X11_wasTried_0 hq l ⟨v, fun u2 e2 => ⟨fun hn => ri_i (h0 ?_), fun c4 h4 => ⟨v, fun u6 e6 => ⟨c4, by rw [e6, ← e2, h4], k7_T (by rw [← e2, h4]), ?_⟩⟩⟩⟩
  · refine (hH.2.2.2 _ hO).2 (fun z => ?_)
    rw [ew] at e2
    have : (kf q).1 7 w = some (260 + 20 * w) := by
      show kR q 7 w = _
      unfold kR
      rw [if_neg (by omega), if_neg (by omega), if_pos rfl]
      rcases w01 with e | e
      · rcases z with ⟨-, z⟩ | ⟨z, -⟩
        · rw [if_pos e, if_pos z, e]
        · omega
      · rcases z with ⟨z, -⟩ | ⟨-, z⟩
        · omega
        · rw [if_neg (by omega), if_pos e, if_pos z, e]
    rw [← e2, hn] at this
    cases this
  · rw [h4] at e2
    have e2 : (kf q).1 7 l.toNatClampNeg = some c4 := e2.symm
    rw [ew] at e2
    obtain ⟨-, ec⟩ := k7_w e2
    have ho := k7_T e2
    rw [ec] at e2 ho ⊢
    obtain ⟨⟨t1, t2⟩, -⟩ := hH.2.2.2 _ hO
    have nn : 0 ≤ (x.1 (260 + 20 * w) 0).toInt := by
      rcases t2 with e | ⟨a, b⟩
      · rw [e]; exact Int.le_refl _
      · exact a.1.1
    refine ⟨fun c => ri_i (h0 ?_), fun c => ri_i ?_⟩
    · rw [t_le, k0] at c; rw [t_eq, k0]; omega
    · have nz : ¬ x.1 (260 + 20 * w) 0 = 0 := fun z => c (by rw [z, t_le]; exact Int.le_refl _)
      rcases t2 with e | ⟨a, b⟩
      · exact absurd e nz
      · exact h1 e2 ho a b nz
theorem kh_fnd (hq : kV q) (l : Int32) (hA : ¬ (0 ≤ l.toInt ∧ l.toInt < 11) → X iAE x) (h : 0 ≤ l.toInt → l.toInt < 11 → Fv x) : KE G q (d + 6) zk_X11_needFinding 0 [(0, vi l)] [] x (rv Fv) X := by
  have k0 : (0 : Int32).toInt = 0 := rfl
  have k11 : (11 : Int32).toInt = 11 := rfl
  refine kg_X11_needFinding_0 hq l ⟨fun c => kg_X11_needFinding_10 hq (hA ?_), fun c => ⟨fun c2 => rv_i (h ?_ ?_), fun c2 => kg_X11_needFinding_10 hq (hA ?_)⟩⟩
  · rw [t_lt, k0] at c; omega
  · rw [t_lt, k0] at c; omega
  · rw [t_lt, k11] at c2; exact c2
  · rw [t_lt, k11] at c2; omega
/-- the first state that shows a finding -/
def fsF (C : gCo) (w : Nat) (T : gTy) (f s : Nat) : Prop := ∃ p, T.1[s]? = some p ∧ fnM C w p.1 f ∧ ∀ s' p', s' < s → T.1[s']? = some p' → ¬ fnM C w p'.1 f
theorem kh_show {Tw : Nat → gTy} (hq : kV q) (hH : HOI x q) (l1 l2 : Int32) (hT : ∀ w, (w = 0 ∨ w = 1) → ¬ x.1 (260 + 20 * w) 0 = 0 → (CK x C ∧ GC C ∧ NX3 C) ∧ TR3 C w x (260 + 20 * w) (Tw w) ∧ TW C w (Tw w)) (hA : ¬ ((l1 = 0 ∨ l1 = 1) ∧ 0 ≤ l2.toInt ∧ l2.toInt < 11) → X iAE x) (hS : ∀ w, (w = 0 ∨ w = 1) → l1 = Int32.ofNat w → 0 ≤ l2.toInt → l2.toInt < 11 → (x.1 (260 + 20 * w) 0 = 0 ∨ (¬ x.1 (260 + 20 * w) 0 = 0 ∧ ∀ s, fsF C w (Tw w) l2.toInt.toNat s → 400 < (pth (Tw w) s).length)) → X iSE x) (hP : ∀ w s y, (w = 0 ∨ w = 1) → l1 = Int32.ofNat w → 0 ≤ l2.toInt → l2.toInt < 11 → ¬ x.1 (260 + 20 * w) 0 = 0 → fsF C w (Tw w) l2.toInt.toNat s → (pth (Tw w) s).length ≤ 400 → HOI y q → fm sRn x y → (∀ c, (∀ k v, (pth (Tw w) s)[k]? = some v → c k = v) → KRun C w (pth (Tw w) s).length c y) → y.1 0 10 = 1 → P (some (vi (Int32.ofNat (pth (Tw w) s).length))) y) : KE G q (d + 7) zk_X11_show 0 [(0, vr 0), (1, vi l1), (2, vi l2)] [] x P X := by
  have k1 : (1 : Int32).toInt = 1 := rfl
  have k4 : (400 : Int32).toInt = 400 := rfl
  refine kg_X11_show_0 hq l1 l2 (kf_way hq l1 (fun z => hA (fun z2 => z z2.1)) (fun hw => kh_fnd hq l2 (fun z => hA (fun z2 => z z2.2)) (fun f0 f11 => ?_)))
  obtain ⟨w, w01, ew, ewn⟩ := w_nat hw
  obtain ⟨o, eo⟩ : ∃ o, o = 260 + 20 * w := ⟨_, rfl⟩
  have hO : o = 260 ∨ o = 280 := by omega
  have hS := hS w w01 ew f0 f11
  refine kg_X11_firstState_0 hq l1 l2 (kh_was (w := w) hq hH l1 w01 ew (fun c0 => ⟨fun _ => ?_, fun c => absurd rfl c⟩) (fun e7 ho hz hC nz => ⟨fun c => absurd c (by decide), fun _ => ⟨way_in hw, fun u5 e5 => ⟨o, by rw [e5, ewn, e7, eo], by rw [eo]; exact ho, by rw [vp_in_iff]; omega, ?_⟩⟩⟩))
  · exact ri_i ⟨fun c => absurd rfl c, fun _ => hS (Or.inl c0)⟩
  obtain ⟨⟨hK, gc, hX3⟩, hTR, hTW⟩ := hT w w01 nz
  rw [← eo] at e7 ho hz nz hTR hS
  have hP := hP w
  rw [← eo] at hP
  have F2 : l2.toNatClampNeg = l2.toInt.toNat := rfl
  obtain ⟨⟨t0, -⟩, hPA, hFN⟩ := hTR
  have ff := hFN l2.toInt.toNat (by omega)
  rw [F2]
  refine ri_i ⟨fun c => ?_, fun c => hS (Or.inr ⟨nz, fun s hs => ?_⟩)⟩
  rotate_left
  · rcases ff with ⟨-, g2⟩ | ⟨s9, p9, -, g2, -⟩
    · obtain ⟨p, a1, a2, -⟩ := hs
      exact absurd a2 (g2 s p (gt_lt a1) a1)
    · rw [c, tm1] at g2; omega
  rcases ff with ⟨g1, -⟩ | ⟨s, p, g1, g2, g3, g4, g5⟩
  · exact absurd g1 c
  have hfs : fsF C w (Tw w) l2.toInt.toNat s := ⟨p, g3, g4, g5⟩
  have dd := PA_d hTW hPA s s p (Nat.le_refl _) g3
  have hsl := gt_lt g3
  have b3 := hz.1.2
  obtain ⟨r, er⟩ : ∃ r, r = x.1 (o + 7) l2.toInt.toNat := ⟨_, rfl⟩
  rw [← er] at c g2 ⊢
  have rS : r.toNatClampNeg = s := by rw [t_cl, g2]; rfl
  refine ⟨way_in hw, fun u7 e => ⟨o, by rw [e, ewn, e7], ho, by rw [vp_in_iff]; omega, ?_⟩⟩
  rw [rS]
  refine ⟨fun c4 => ⟨way_in hw, fun u13 e13 => ⟨o, by rw [e13, ewn, e7], ho, ?_⟩⟩, fun c4 => hS (Or.inr ⟨nz, fun s9 hs9 => ?_⟩)⟩
  rotate_left
  · obtain ⟨p9, b1, b2, b3⟩ := hs9
    have : s9 = s := by
      apply Classical.byContradiction
      intro ne
      by_cases lt : s9 < s
      · exact g5 s9 p9 lt b1 b2
      · exact b3 s p (by omega) g3 g4
    rw [this]
    rw [t_le, k4, dd] at c4
    omega
  rw [t_le, k4, dd] at c4
  have l4 : (pth (Tw w) s).length ≤ 400 := by omega
  obtain ⟨c9, hc9⟩ : ∃ c9 : Nat → Nat, ∀ k v, (pth (Tw w) s)[k]? = some v → c9 k = v := ⟨fun k => ((pth (Tw w) s)[k]?).getD 0, fun k v hk => congrArg (fun z : Option Nat => z.getD 0) hk⟩
  obtain ⟨r1, r2⟩ := pth_run hTW s s p (Nat.le_refl _) g3 c9 hc9
  have far : x.1 (o + 12) s = Int32.ofNat (pth (Tw w) s).length := i32_of dd
  refine kt_pathTo3 hq ho kk_162 (kl_162 hq) (by omega) r (S := s) g2 g3 hTW hPA (by omega) l4 (fun y fy hy => ?_)
  rw [far, ew]
  have f1 : fm sRn x y := fm_w fy (fun c k q => by unfold sRn; omega)
  have loop : ∀ (n k : Nat) (i : Int32) (y : gd), i.toInt = k → (pth (Tw w) s).length - k ≤ n → k ≤ (pth (Tw w) s).length → fm sRn x y → KRun C w k c9 y → (∀ j, k ≤ j → j < (pth (Tw w) s).length → (y.1 162 j).toInt = (c9 j : Nat)) → y.1 0 10 = 1 → KE G q (d + 7) zk_X11_show 88 [(0, vr 0), (4, vi (Int32.ofNat (pth (Tw w) s).length)), (5, vi i)] [] y P X := by
    have e4 : (Int32.ofNat (pth (Tw w) s).length).toInt = ((pth (Tw w) s).length : Nat) := by rw [← far]; exact dd
    intro n
    have fin : ∀ (k : Nat) (y : gd), k = (pth (Tw w) s).length → fm sRn x y → KRun C w k c9 y → y.1 0 10 = 1 → P (some (vi (Int32.ofNat (pth (Tw w) s).length))) y := fun k y ek fy hR h10 => by
      rw [ek] at hR
      refine hP s y w01 ew f0 f11 nz hfs l4 (HOI_run fy hR.1 hH) fy (fun c hc => KRun_cg (fun k hk => ?_) hR) h10
      have hg := List.getElem?_eq_getElem hk
      rw [hc9 k _ hg, hc k _ hg]
    induction n with
    | zero =>
      intro k i y ei hn hk fy hR hj h10
      refine kg_X11_show_88 hq _ i ⟨fun _ => fin k y (by omega) fy hR h10, fun cc => ?_⟩
      rw [t_le, e4] at cc; omega
    | succ n ih =>
      intro k i y ei hn hk fy hR hj h10
      refine kg_X11_show_88 hq _ i ⟨fun cc => fin k y ?_ fy hR h10, fun cc => ?_⟩
      · rw [t_le, e4] at cc; omega
      rw [t_le, e4] at cc
      have hkl : k < (pth (Tw w) s).length := by omega
      have iK : i.toNatClampNeg = k := by rw [t_cl, ei]; rfl
      rw [iK]
      refine ⟨by rw [vp_in_iff]; omega, kh_doChoice hq (CK_f hK (fun c k hc => fy c k (by unfold sRn; omega))) gc hX3 hR _ (hj k (Nat.le_refl _) hkl) (r2 k hkl) (by omega) rfl (fun z fz hRz h162 hz10 => ih (k + 1) _ z (by rw [t_add (by rw [k1]; omega) (by rw [k1]; omega), k1, ei]; rfl) (by omega) hkl (fm_tr fy fz) hRz (fun j h1 h2 => by rw [h162 j (by omega)]; exact hj j (by omega) h2) (by rw [hz10]; exact h10))⟩
  exact kh_beginRun hq (CO_fm hC (fun c k hc => fy c k (by omega))) (CK_f hK (fun c k hc => fy c k (by omega))) gc w01 c9 (fun z fz hRz h162 h10 => loop _ 0 _ z rfl (Nat.le_refl _) (Nat.zero_le _) (fm_tr f1 fz) hRz (fun j _ h2 => by
    rw [h162 j]
    have hg := List.getElem?_eq_getElem h2
    rw [hy j _ hg, hc9 j _ hg]) h10)
end KSW
end
section
/-! the model: rows that are the same hold one state, and the other way round -/
section MRW
variable {a b : gd} {C : gCo} {M M' : gMa} {h h' : gTq} {nl t k : Nat}
theorem slN_ex : ∀ {l : List Nat} {k : Nat}, k ∈ l → ∃ p, p < l.length ∧ slN l p = k := by
  intro l
  induction l with
  | nil => intro k h; cases h
  | cons s r ih =>
    intro k h
    by_cases c : k ∈ r
    · obtain ⟨p, p1, p2⟩ := ih c
      refine ⟨p, Nat.lt_succ_of_lt p1, ?_⟩
      rw [slN, if_neg (by omega)]; exact p2
    · rcases List.mem_cons.mp h with e | e
      · exact ⟨r.length, Nat.lt_succ_self _, by rw [slN, if_pos rfl, e]⟩
      · exact absurd e c
theorem stN_8 (hN : NC C) {s : Nat} : ∀ k ∈ (stN C s).2.1, k < 8 := by
  intro k hk
  unfold stN at hk
  cases hs : C.1[s]? with
  | none => rw [hs] at hk; cases hk
  | some st =>
    rw [hs] at hk
    have hk : k ∈ st.2.1 := hk
    obtain ⟨n1, n2, n3⟩ := (hN.1 s st hs).2.2.2.2.1
    have := n2 k hk
    omega
/-- a thread's ints -/
theorem mTq_same (g : mTq a C t h) (g' : mTq b C t h) : a.1 73 t = b.1 73 t ∧ a.1 74 t = b.1 74 t ∧ a.1 75 t = b.1 75 t ∧ a.1 77 t = b.1 77 t ∧ a.1 78 t = b.1 78 t ∧ a.1 79 t = b.1 79 t ∧ a.1 80 t = b.1 80 t ∧ (∀ k, k < 8 → a.1 76 (8 * t + k) = b.1 76 (8 * t + k)) ∧ ∀ k : Nat, (k : Int) < (a.1 80 t).toInt → a.1 81 (10 * t + k) = b.1 81 (10 * t + k) ∧ a.1 82 (10 * t + k) = b.1 82 (10 * t + k) := by
  obtain ⟨q0, q0', q1, q2, q3, q3', q4, q5, ⟨q6, q6'⟩, q7, q7'⟩ := g
  obtain ⟨r0, r0', r1, r2, r3, r3', r4, r5, ⟨r6, r6'⟩, r7, r7'⟩ := g'
  refine ⟨by rw [q0, r0], by rw [t_eq, q2, r2], by rw [q1, r1], by rw [q3, r3], by rw [q4, r4], by rw [q5, r5], by rw [t_eq, q6, r6], fun k hk => ?_, fun k hk => ?_⟩
  · by_cases c : (h.1 = 1 ∨ h.1 = 3) ∧ k ∈ (stN C h.2.2.1).2.1
    · obtain ⟨p, p1, p2⟩ := slN_ex c.2
      have e1 := q7 c.1 p p1
      have e2 := r7 c.1 p p1
      rw [p2] at e1 e2
      rw [e1, e2]
    · rw [q7' k hk c, r7' k hk c]
  · rw [q6] at hk
    have hg := List.getElem?_eq_getElem (show k < h.2.2.2.2.2.2.1.length by omega)
    obtain ⟨a1, a2, -⟩ := q6' k _ hg
    obtain ⟨b1, b2, -⟩ := r6' k _ hg
    exact ⟨by rw [a1, b1], by rw [a2, b2]⟩
/-- the places of a row -/
theorem row_at {i : Nat} (hi : i < 222) : i < 24 ∨ (∃ l, l < 6 ∧ (i = 24 + 2 * l ∨ i = 25 + 2 * l)) ∨ ∃ t, t < 6 ∧ ((∃ r, r < 7 ∧ i = 36 + 31 * t + r) ∨ (∃ k, k < 8 ∧ i = 43 + 31 * t + k) ∨ ∃ k, k < 8 ∧ (i = 51 + 31 * t + 2 * k ∨ i = 52 + 31 * t + 2 * k)) := by
  by_cases c1 : i < 24
  · exact Or.inl c1
  · by_cases c2 : i < 36
    · exact Or.inr (Or.inl ⟨(i - 24) / 2, by omega, by omega⟩)
    · refine Or.inr (Or.inr ⟨(i - 36) / 31, by omega, ?_⟩)
      by_cases c3 : (i - 36) % 31 < 7
      · exact Or.inl ⟨(i - 36) % 31, c3, by omega⟩
      · by_cases c4 : (i - 36) % 31 < 15
        · exact Or.inr (Or.inl ⟨(i - 36) % 31 - 7, by omega, by omega⟩)
        · exact Or.inr (Or.inr ⟨((i - 36) % 31 - 15) / 2, by omega, by omega⟩)
theorem pv_t {t r : Nat} (ht : t < 6) (hr : r < 7) : pv a (36 + 31 * t + r) = a.1 (if r = 0 then 73 else if r = 1 then 74 else if r = 2 then 75 else if r = 3 then 77 else if r = 4 then 78 else if r = 5 then 79 else 80) t := by
  rw [pv_n (Or.inr (by omega)), tg_t ht hr]
theorem pv_lo {t k : Nat} (ht : t < 6) (hk : k < 8) : pv a (43 + 31 * t + k) = a.1 76 (8 * t + k) := by
  rw [pv_n (Or.inr (by omega)), tg_lo ht hk]
theorem pv_l0 {l : Nat} (hl : l < 6) : pv a (24 + 2 * l) = a.1 71 l := by rw [pv_n (Or.inl (by omega)), tg_l0 hl]
theorem pv_l1 {l : Nat} (hl : l < 6) : pv a (25 + 2 * l) = a.1 72 l := by rw [pv_n (Or.inl (by omega)), tg_l1 hl]
theorem pv_c {c : Nat} (hc : c < 24) : pv a c = a.1 70 c := by rw [pv_n (Or.inl (by omega)), tg_c hc]
/-- one state, one row -/
theorem rows_same (g : MM1 a C M) (g' : MM1 b C M) : ∀ i, i < 222 → pv a i = pv b i := by
  obtain ⟨g1, g2, g3⟩ := g
  obtain ⟨h1, h2, h3⟩ := g'
  intro i hi
  rcases row_at hi with c | ⟨l, hl, e | e⟩ | ⟨t, ht, ⟨r, hr, e⟩ | ⟨k, hk, e⟩ | ⟨k, hk, e | e⟩⟩
  · rw [pv_c c, pv_c c, g1 i c, h1 i c]
  · rw [e, pv_l0 hl, pv_l0 hl, (g2 l hl).1, (h2 l hl).1]
  · rw [e, pv_l1 hl, pv_l1 hl, (g2 l hl).2.2, (h2 l hl).2.2]
  · obtain ⟨s0, s1, s2, s3, s4, s5, s6, -, -⟩ := mTq_same (g3 t ht) (h3 t ht)
    rw [e, pv_t ht hr, pv_t ht hr]
    have : r = 0 ∨ r = 1 ∨ r = 2 ∨ r = 3 ∨ r = 4 ∨ r = 5 ∨ r = 6 := by omega
    rcases this with c | c | c | c | c | c | c <;> rw [c]
    · exact s0
    · exact s1
    · exact s2
    · exact s3
    · exact s4
    · exact s5
    · exact s6
  · obtain ⟨-, -, -, -, -, -, -, s7, -⟩ := mTq_same (g3 t ht) (h3 t ht)
    rw [e, pv_lo ht hk, pv_lo ht hk]; exact s7 k hk
  · obtain ⟨-, -, -, -, -, -, s6, -, s8⟩ := mTq_same (g3 t ht) (h3 t ht)
    rw [e, pv_a ht hk, pv_a ht hk, ← s6]
    by_cases c : (k : Int) < (a.1 80 t).toInt
    · rw [if_pos c, if_pos c]; exact (s8 k c).1
    · rw [if_neg c, if_neg c]
  · obtain ⟨-, -, -, -, -, -, s6, -, s8⟩ := mTq_same (g3 t ht) (h3 t ht)
    rw [e, pv_b ht hk, pv_b ht hk, ← s6]
    by_cases c : (k : Int) < (a.1 80 t).toInt
    · rw [if_pos c, if_pos c]; exact (s8 k c).2
    · rw [if_neg c, if_neg c]
theorem hol_in {n m : Nat} (hn : n ≤ 9) (hm : m ≤ 9) (e : Int32.ofNat n - 1 = Int32.ofNat m - 1) : n = m := by
  have s : ∀ n, n < 10 → ∀ m, m < 10 → Int32.ofNat n - 1 = Int32.ofNat m - 1 → n = m := by decide +kernel
  exact s n (by omega) m (by omega) e
/-- one row, one state -/
theorem rows_one (hN : NC C) (l24 : C.2.2.1.length ≤ 24) (l6 : C.2.1.length ≤ 6) (n6 : nl ≤ 6) (g : MM1 a C M) (g' : MM1 b C M') (q : MCn C nl M) (q' : MCn C nl M') (n9 : NBm M) (n9' : NBm M') (l8 : ∀ t, t < 6 → (a.1 80 t).toInt ≤ 8) (hr : ∀ i, i < 222 → pv a i = pv b i) : M = M' := by
  obtain ⟨g1, g2, g3⟩ := g
  obtain ⟨h1, h2, h3⟩ := g'
  refine MCn_eq q q' (fun c hc => ?_) (fun l hl => ?_) (fun t ht => ?_)
  · have := hr c (by omega)
    rw [pv_c (by omega), pv_c (by omega), g1 c (by omega), h1 c (by omega)] at this
    exact this
  · obtain ⟨a1, a2, a3⟩ := g2 l (by omega)
    obtain ⟨b1, b2, b3⟩ := h2 l (by omega)
    have k1 := hr (24 + 2 * l) (by omega)
    have k2 := hr (25 + 2 * l) (by omega)
    rw [pv_l0 (by omega), pv_l0 (by omega), a1, b1] at k1
    rw [pv_l1 (by omega), pv_l1 (by omega), a3, b3] at k2
    exact Prod.ext (hol_in (by omega) (by omega) k1) k2
  · have t6 : t < 6 := by omega
    have rr := fun (r : Nat) (h7 : r < 7) => (pv_t (a := a) t6 h7).symm.trans ((hr (36 + 31 * t + r) (by omega)).trans (pv_t (a := b) t6 h7))
    have m9 := n9 t
    have m9' := n9' t
    have c1 := (q.2.2 t).2.1
    have c2 := (q'.2.2 t).2.1
    have le := l8 t t6
    obtain ⟨q0, q0', q1, q2, q3, q3', q4, q5, ⟨q6, q6'⟩, q7, q7'⟩ := g3 t t6
    obtain ⟨r0, r0', r1, r2, r3, r3', r4, r5, ⟨r6, r6'⟩, r7, r7'⟩ := h3 t t6
    have k0 : a.1 73 t = b.1 73 t := rr 0 (by omega)
    have k1 : a.1 74 t = b.1 74 t := rr 1 (by omega)
    have k2 : a.1 75 t = b.1 75 t := rr 2 (by omega)
    have k3 : a.1 77 t = b.1 77 t := rr 3 (by omega)
    have k4 : a.1 78 t = b.1 78 t := rr 4 (by omega)
    have k5 : a.1 79 t = b.1 79 t := rr 5 (by omega)
    have k6 : a.1 80 t = b.1 80 t := rr 6 (by omega)
    have e0 : (M.2.2 t).1 = (M'.2.2 t).1 := ofN_in9 (by omega) (by omega) (by rw [← q0, ← r0, k0])
    have e1 : (M.2.2 t).2.1 = (M'.2.2 t).2.1 := ofN_in9 (by omega) (by omega) (by rw [← q1, ← r1, k2])
    have e2 : (M.2.2 t).2.2.1 = (M'.2.2 t).2.2.1 := by rw [k1, r2] at q2; omega
    have e3 : (M.2.2 t).2.2.2.1 = (M'.2.2 t).2.2.2.1 := ofN_in9 (by omega) (by omega) (by rw [← q3, ← r3, k3])
    have e4 : (M.2.2 t).2.2.2.2.1 = (M'.2.2 t).2.2.2.2.1 := by rw [← q4, ← r4, k4]
    have e5 : (M.2.2 t).2.2.2.2.2.1 = (M'.2.2 t).2.2.2.2.2.1 := by rw [← q5, ← r5, k5]
    have len : (M.2.2 t).2.2.2.2.2.2.1.length = (M'.2.2 t).2.2.2.2.2.2.1.length := by rw [k6, r6] at q6; omega
    have e6 : (M.2.2 t).2.2.2.2.2.2.1 = (M'.2.2 t).2.2.2.2.2.2.1 := by
      refine List.ext_getElem? (fun i => ?_)
      by_cases ci : i < (M.2.2 t).2.2.2.2.2.2.1.length
      · obtain ⟨p, hp⟩ : ∃ p, (M.2.2 t).2.2.2.2.2.2.1[i]? = some p := ⟨_, List.getElem?_eq_getElem ci⟩
        obtain ⟨p', hp'⟩ : ∃ p', (M'.2.2 t).2.2.2.2.2.2.1[i]? = some p' := ⟨_, List.getElem?_eq_getElem (by omega)⟩
        obtain ⟨a1, a2, a3⟩ := q6' i p hp
        obtain ⟨b1, b2, b3⟩ := r6' i p' hp'
        have i8 : i < 8 := by omega
        have u1 := hr (51 + 31 * t + 2 * i) (by omega)
        have u2 := hr (52 + 31 * t + 2 * i) (by omega)
        rw [pv_a t6 i8, pv_a t6 i8, if_pos (by omega), if_pos (by omega), a1, b1] at u1
        rw [pv_b t6 i8, pv_b t6 i8, if_pos (by omega), if_pos (by omega), a2, b2] at u2
        have v1 : (Int32.ofNat p.1).toInt = (p.1 : Nat) := Int32.toInt_ofNat_of_lt (by omega)
        have v2 : (Int32.ofNat p'.1).toInt = (p'.1 : Nat) := Int32.toInt_ofNat_of_lt (by omega)
        rw [hp, hp']
        exact congrArg some (Prod.ext (by rw [u1, v2] at v1; omega) u2)
      · rw [List.getElem?_eq_none_iff.mpr (by omega), List.getElem?_eq_none_iff.mpr (by omega)]
    have e7 : (M.2.2 t).2.2.2.2.2.2.2 = (M'.2.2 t).2.2.2.2.2.2.2 := by
      funext p
      rw [← e0, ← e2] at r7 c2
      by_cases cp : ((M.2.2 t).1 = 1 ∨ (M.2.2 t).1 = 3) ∧ p < (stN C (M.2.2 t).2.2.1).2.1.length
      · have s8 := stN_8 hN _ (slN_mem cp.2)
        have := hr (43 + 31 * t + slN (stN C (M.2.2 t).2.2.1).2.1 p) (by omega)
        rw [pv_lo t6 s8, pv_lo t6 s8, q7 cp.1 p cp.2, r7 cp.1 p cp.2] at this
        exact this
      · rw [c1 p cp, c2 p cp]
    exact Prod.ext e0 (Prod.ext e1 (Prod.ext e2 (Prod.ext e3 (Prod.ext e4 (Prod.ext e5 (Prod.ext e6 e7))))))
end MRW
end
section
/-! the model: a state is sought among those kept -/
def rwZ (z : gd) (s : Nat) : Nat → Int32 := fun i => z.1 133 (240 * s + i)
def hsF (S : Int32 → Int32 → Int32) (r : Nat → Int32) : Nat → Int32
  | 0 => 0
  | k + 1 => S (hsF S r k) (r k)
def hs31 (a b : Int32) : Int32 := (a * 31) + b
def hsE (v : Int32) : Int32 := ((v ^^^ (((v : Int32).toUInt32 >>> ((12 : Int32).toUInt32 &&& Int32.toUInt32 31)).toInt32)) ^^^ (((v : Int32).toUInt32 >>> ((22 : Int32).toUInt32 &&& Int32.toUInt32 31)).toInt32)) &&& 4095
def hsO (r : Nat → Int32) : Nat := (hsE (hsF hs31 r 222)).toNatClampNeg
/-- s stands on the chain from v on -/
def pCf (nx : Nat → Int32) : Nat → Int32 → Nat → Prop
  | 0, _, _ => False
  | f + 1, v, s => ¬ v = -1 ∧ (v.toInt = (s : Nat) ∨ pCf nx f (nx v.toNatClampNeg) s)
/-- each of the first n stands on its chain -/
def chC (z : gd) (n : Nat) : Prop := ∀ s, s < n → ∃ f, pCf (z.1 134) f (z.1 135 (hsO (rwZ z s))) s
section SK3
variable {G : mG} {d D : Nat} {x z a : gd} {F : Int32 → gd → Prop} {Fv : gd → Prop}
theorem hsF_cg {S : Int32 → Int32 → Int32} {r r' : Nat → Int32} : ∀ {n : Nat}, (∀ i, i < n → r i = r' i) → hsF S r n = hsF S r' n := by
  intro n
  induction n with
  | zero => intro _; rfl
  | succ n ih =>
    intro h
    rw [hsF, hsF, ih (fun i hi => h i (by omega)), h n (by omega)]
theorem hsO_cg {r r' : Nat → Int32} (h : ∀ i, i < 222 → r i = r' i) : hsO r = hsO r' := by
  unfold hsO; rw [hsF_cg h]
theorem pCf_up {nx nx' : Nat → Int32} {m s : Nat} (e : ∀ j, j < m → nx' j = nx j) (hs : ∀ j, j < m → nx j = -1 ∨ (0 ≤ (nx j).toInt ∧ (nx j).toInt < j)) : ∀ (f : Nat) (v : Int32), (v = -1 ∨ (0 ≤ v.toInt ∧ v.toInt < m)) → pCf nx f v s → pCf nx' f v s := by
  intro f
  induction f with
  | zero => intro v _ h; exact h
  | succ f ih =>
    intro v hv h
    obtain ⟨h1, h2⟩ := h
    obtain ⟨v0, v1⟩ := hv.resolve_left h1
    have cv := cl_i v0
    refine ⟨h1, h2.imp id (fun h3 => ?_)⟩
    rw [e _ (by omega)]
    refine ih _ ?_ h3
    exact (hs _ (by omega)).imp id (fun w => by omega)
theorem sp_seek3 (w : Int32) (wv : vp_in w 2) {m : Nat} (em : (z.1 120 w.toNatClampNeg).toInt = (m : Nat)) (m1 : m ≤ 3000) (hs : hsR z (m : Nat)) (hc : chC z m) (h80 : ∀ t : Nat, t < 6 → (z.1 80 t).toInt ≤ 8) (h : ∀ r z', md [136] [133, 134, 135] z z' → (∀ j : Nat, j < 240 * m → z'.1 133 j = z.1 133 j) → ((r = z.1 120 w.toNatClampNeg ∧ (∀ i : Nat, i < 222 → z'.1 133 (240 * m + i) = pv z i) ∧ hsR z' ((m : Int) + 1) ∧ chC z' (m + 1) ∧ ∀ s, s < m → ¬ ∀ i, i < 222 → z.1 133 (240 * s + i) = pv z i) ∨ (∃ s : Nat, s < m ∧ r.toInt = (s : Nat) ∧ hsR z' (m : Nat) ∧ chC z' m ∧ ∀ i, i < 222 → z.1 133 (240 * s + i) = pv z i)) → F r z') : MT G (D + 1) z_seek 0 [(0, vr 0), (1, vi w)] [] z (ri F) := by
  have k0 : (0 : Int32).toInt = 0 := rfl
  have k1 : (1 : Int32).toInt = 1 := rfl
  have k24 : (240 : Int32).toInt = 240 := rfl
  obtain ⟨M, eM⟩ : ∃ M, M = z.1 120 w.toNatClampNeg := ⟨_, rfl⟩
  rw [← eM] at em h
  have b1 : (240 * M).toInt = 240 * M.toInt := by rw [t_mul (by rw [k24]; omega) (by rw [k24]; omega), k24]
  have cM : M.toNatClampNeg = m := by rw [t_cl, em]; rfl
  have cb : (240 * M).toNatClampNeg = 240 * m := by have := cl_i (a := 240 * M) (by omega); omega
  refine sg_seek_0 _ ⟨wv, ?_⟩
  rw [← eM]
  refine sp_pack (Or.inl rfl) mk_133 ml_133 (240 * M) (by omega) (by omega) (by omega) h80 (fun y my y136 yr yo => ?_)
  rw [cb] at yr yo
  have y120 : y.1 120 w.toNatClampNeg = M := by rw [my.2.1 120 (by decide) (by decide), eM]
  have y134 : y.1 134 = z.1 134 := my.2.1 134 (by decide) (by decide)
  have y135 : y.1 135 = z.1 135 := my.2.1 135 (by decide) (by decide)
  have ylo : ∀ s i, s < m → i < 222 → y.1 133 (240 * s + i) = z.1 133 (240 * s + i) := fun s i hs hi => yo _ (Or.inl (by omega))
  obtain ⟨HV, eHV⟩ : ∃ HV, HV = hsE (hsF hs31 (fun i => pv z i) 222) := ⟨_, rfl⟩
  have hHV : vp_in HV 4096 := by rw [eHV]; exact t_and4 _
  have HVb := vp_lt hHV
  have hsame : ∀ s, s < m → (∀ i, i < 222 → z.1 133 (240 * s + i) = pv z i) → hsO (rwZ z s) = HV.toNatClampNeg := fun s hs9 he => by
    rw [eHV]
    exact hsO_cg (fun i hi => he i hi)
  have hs2 : ∀ j, j < m → z.1 134 j = -1 ∨ (0 ≤ (z.1 134 j).toInt ∧ (z.1 134 j).toInt < j) := fun j hj => hs.2 j (by omega)
  have new : (∀ s, s < m → ¬ ∀ i, i < 222 → z.1 133 (240 * s + i) = pv z i) → vp_in w 2 ∧ vp_in HV 4096 ∧ vp_in (y.1 120 w.toNatClampNeg) 3001 ∧ (∀ x5 : gd, x5 = si y 134 (y.1 120 w.toNatClampNeg : Int32).toNatClampNeg (y.1 135 HV.toNatClampNeg) → vp_in w 2 ∧ vp_in HV 4096 ∧ (∀ x8 : gd, x8 = si x5 135 HV.toNatClampNeg (x5.1 120 w.toNatClampNeg) → vp_in w 2 ∧ ri F (some (vi (x8.1 120 w.toNatClampNeg))) x8)) := by
    intro hnone
    rw [y120, cM]
    refine ⟨wv, hHV, by rw [vp_in_iff]; omega, fun y5 e5 => ⟨wv, hHV, fun y8 e8 => ⟨wv, ?_⟩⟩⟩
    have m5 := md_a y 134 m (y.1 135 HV.toNatClampNeg) (by decide)
    rw [← e5] at m5
    have f5 : y5.1 120 w.toNatClampNeg = M := by rw [m5.2.1 120 (by decide) (by decide), y120]
    rw [f5] at e8
    have m8 := md_a y5 135 HV.toNatClampNeg M (by decide)
    rw [← e8] at m8
    have mm : md [136] [133, 134, 135] z y8 := md_tr (md_tr (L3 := [136]) (A3 := [133, 134]) my m5 rfl rfl) m8 rfl rfl
    have f8 : y8.1 120 w.toNatClampNeg = M := by rw [m8.2.1 120 (by decide) (by decide), f5]
    have f133 : y8.1 133 = y.1 133 := by rw [m8.2.1 133 (by decide) (by decide), m5.2.1 133 (by decide) (by decide)]
    have n134 : ∀ j, y8.1 134 j = if j = m then z.1 135 HV.toNatClampNeg else z.1 134 j := fun j => by
      rw [m8.2.1 134 (by decide) (by decide), e5, si_get]
      by_cases q : j = m
      · rw [if_pos ⟨rfl, q⟩, if_pos q, y135]
      · rw [if_neg (fun w => q w.2), if_neg q, y134]
    have n135 : ∀ j, y8.1 135 j = if j = HV.toNatClampNeg then M else z.1 135 j := fun j => by
      rw [e8, si_get]
      by_cases q : j = HV.toNatClampNeg
      · rw [if_pos ⟨rfl, q⟩, if_pos q]
      · rw [if_neg (fun w => q w.2), if_neg q, m5.2.1 135 (by decide) (by decide), y135]
    have nM : ¬ M = -1 := fun e => by rw [e, tm1] at em; omega
    rw [f8]
    refine ri_i (h M y8 mm (fun j hj => by rw [f133]; exact yo j (Or.inl hj)) (Or.inl ⟨rfl, by rw [f133]; exact yr, ⟨fun k hk => ?_, fun s hs9 => ?_⟩, fun s hs9 => ?_, hnone⟩))
    · rw [n135]
      by_cases q : k = HV.toNatClampNeg
      · rw [if_pos q]; exact Or.inr (by omega)
      · rw [if_neg q]; exact (hs.1 k hk).imp id (fun w => by omega)
    · rw [n134]
      by_cases q : s = m
      · rw [if_pos q]
        exact (hs.1 _ HVb).imp id (fun w => by omega)
      · rw [if_neg q]; exact hs.2 s (by omega)
    · by_cases q : s = m
      · refine ⟨1, ?_⟩
        have eO : hsO (rwZ y8 s) = HV.toNatClampNeg := by
          rw [eHV]
          exact hsO_cg (fun i hi => by show y8.1 133 (240 * s + i) = _; rw [f133, q]; exact yr i hi)
        rw [eO, n135, if_pos rfl]
        exact ⟨nM, Or.inl (by rw [q]; exact em)⟩
      · have sm : s < m := by omega
        obtain ⟨f, hf⟩ := hc s sm
        have eO : hsO (rwZ y8 s) = hsO (rwZ z s) := hsO_cg (fun i hi => by show y8.1 133 (240 * s + i) = _; rw [f133]; exact ylo s i sm hi)
        have hb : hsO (rwZ z s) < 4096 := vp_lt (t_and4 _)
        have hd := hs.1 _ hb
        have up := pCf_up (nx := z.1 134) (nx' := y8.1 134) (m := m) (s := s) (fun j hj => by rw [n134, if_neg (by omega)]) hs2 f _ hd hf
        rw [eO, n135]
        by_cases q2 : hsO (rwZ z s) = HV.toNatClampNeg
        · rw [if_pos q2]
          refine ⟨f + 1, nM, Or.inr ?_⟩
          rw [cM, n134, if_pos rfl, ← q2]; exact up
        · rw [if_neg q2]; exact ⟨f, up⟩
  have old : ∀ s9 : Nat, s9 < m → ∀ s : Int32, s.toInt = (s9 : Nat) → (∀ i, i < 222 → y.1 133 (240 * s9 + i) = pv z i) → ri F (some (vi s)) y := fun s9 h9 s es he => ri_i (h s y (md_w my (by decide) (by decide)) (fun j hj => yo j (Or.inl hj)) (Or.inr ⟨s9, h9, es, ⟨fun k hk => by rw [y135]; exact hs.1 k hk, fun k hk => by rw [y134]; exact hs.2 k hk⟩, fun s hs9 => by
    rw [y134, y135, show hsO (rwZ y s) = hsO (rwZ z s) from hsO_cg (fun i hi => ylo s i hs9 hi)]
    exact hc s hs9, fun i hi => by rw [← ylo s9 i h9 hi]; exact he i hi⟩))
  -- the chain
  have p79 : ∀ (n : Nat) (s : Int32), (s = -1 ∨ (0 ≤ s.toInt ∧ s.toInt < m)) → s.toInt + 1 ≤ n → (∀ s9, s9 < m → (∀ i, i < 222 → z.1 133 (240 * s9 + i) = pv z i) → ∃ f, pCf (z.1 134) f s s9) → MT G (D + 1) z_seek 79 [(0, vr 0), (1, vi w), (2, vi (240 * M)), (3, vi HV), (4, vi s)] [] y (ri F) := by
    intro n
    have fin : ∀ s : Int32, (∀ s9, s9 < m → (∀ i, i < 222 → z.1 133 (240 * s9 + i) = pv z i) → ∃ f, pCf (z.1 134) f s s9) → s = -1 → ∀ s9, s9 < m → ¬ ∀ i, i < 222 → z.1 133 (240 * s9 + i) = pv z i := by
      intro s hm e s9 h9 he
      obtain ⟨f, hf⟩ := hm s9 h9 he
      cases f with
      | zero => exact hf
      | succ f => exact hf.1 e
    induction n with
    | zero =>
      intro s h1 hn hm
      have s1 : s = -1 := h1.resolve_right (fun q => by omega)
      exact sg_seek_79 _ _ _ _ ⟨fun _ => new (fin s hm s1), fun c => absurd s1 c⟩
    | succ n ih =>
      intro s h1 hn hm
      refine sg_seek_79 _ _ _ _ ⟨fun c => new (fin s hm c), fun c => ?_⟩
      obtain ⟨s0, sM⟩ := h1.resolve_left c
      have cs := cl_i s0
      obtain ⟨S, eS⟩ : ∃ S, S = s.toNatClampNeg := ⟨_, rfl⟩
      rw [← eS] at cs
      have sb : (240 * s).toInt = 240 * s.toInt := by rw [t_mul (by rw [k24]; omega) (by rw [k24]; omega), k24]
      have Sm : S < m := by omega
      have p144 : ∀ v : Int32, ((v = 1 ∧ ∀ i, i < 222 → y.1 133 (240 * S + i) = pv z i) ∨ (v = 0 ∧ ¬ ∀ i, i < 222 → y.1 133 (240 * S + i) = pv z i)) → MT G (D + 1) z_seek 144 [(0, vr 0), (1, vi w), (2, vi (240 * M)), (3, vi HV), (4, vi s), (5, vi v)] [] y (ri F) := by
        intro v hv
        refine sg_seek_144 _ _ _ _ _ ⟨fun cv => ⟨by rw [vp_in_iff]; omega, ?_⟩, fun cv => ?_⟩
        · have ne : ¬ ∀ i, i < 222 → y.1 133 (240 * S + i) = pv z i := by
            rcases hv with ⟨e, -⟩ | ⟨-, e⟩
            · rw [e] at cv; exact absurd cv (by decide)
            · exact e
          rw [y134, ← eS]
          have nh : ∀ s9, s9 < m → (∀ i, i < 222 → z.1 133 (240 * s9 + i) = pv z i) → ∃ f, pCf (z.1 134) f (z.1 134 S) s9 := by
            intro s9 h9 he
            obtain ⟨f, hf⟩ := hm s9 h9 he
            cases f with
            | zero => exact absurd hf (fun z => z)
            | succ f =>
              rcases hf.2 with e | e
              · exfalso
                have : s9 = S := by omega
                rw [this] at he
                exact ne (fun i hi => by rw [ylo S i Sm hi]; exact he i hi)
              · rw [← eS] at e; exact ⟨f, e⟩
          rcases hs.2 S (by omega) with q | q
          · rw [q] at nh ⊢; exact ih (-1) (Or.inl rfl) (by show (-1 : Int) + 1 ≤ _; omega) nh
          · exact ih _ (Or.inr ⟨q.1, by omega⟩) (by omega) nh
        · rcases hv with ⟨-, e⟩ | ⟨e, -⟩
          · exact old S Sm s (by omega) e
          · exact absurd e cv
      have p91 : ∀ (m9 k : Nat) (v i : Int32), i.toInt = (k : Nat) → 222 - k ≤ m9 → k ≤ 222 → ((v = 1 ∧ ∀ i, i < k → y.1 133 (240 * S + i) = pv z i) ∨ (v = 0 ∧ ¬ ∀ i, i < 222 → y.1 133 (240 * S + i) = pv z i)) → MT G (D + 1) z_seek 91 [(0, vr 0), (1, vi w), (2, vi (240 * M)), (3, vi HV), (4, vi s), (5, vi v), (6, vi i)] [] y (ri F) := by
        intro m9
        have go : ∀ (k : Nat) (v : Int32), k = 222 → ((v = 1 ∧ ∀ i, i < k → y.1 133 (240 * S + i) = pv z i) ∨ (v = 0 ∧ ¬ ∀ i, i < 222 → y.1 133 (240 * S + i) = pv z i)) → MT G (D + 1) z_seek 144 [(0, vr 0), (1, vi w), (2, vi (240 * M)), (3, vi HV), (4, vi s), (5, vi v)] [] y (ri F) := fun k v ek hv => p144 v (by rw [ek] at hv; exact hv)
        induction m9 with
        | zero =>
          intro k v i ei hn hk hv
          exact sg_seek_91 _ _ _ _ _ _ ⟨fun _ => go k v (by omega) hv, fun c => absurd (t_le.mpr (by rw [y136]; omega)) c⟩
        | succ m9 ihm =>
          intro k v i ei hn hk hv
          refine sg_seek_91 _ _ _ _ _ _ ⟨fun c2 => go k v (by rw [t_le, y136] at c2; omega) hv, fun c2 => ⟨fun v0 => p144 v (Or.inr ⟨v0, ?_⟩), fun vn => ?_⟩⟩
          · rcases hv with ⟨e, -⟩ | ⟨-, e⟩
            · rw [e] at v0; exact absurd v0 (by decide)
            · exact e
          rw [t_le, y136] at c2
          have hv1 : ∀ i, i < k → y.1 133 (240 * S + i) = pv z i := by
            rcases hv with ⟨-, e⟩ | ⟨e, -⟩
            · exact e
            · exact absurd e vn
          have ii : (i + 1).toInt = ((k + 1 : Nat) : Int) := by rw [t_add (by omega) (by omega), k1, ei]; rfl
          have x1 : (240 * s + i).toInt = 240 * s.toInt + i.toInt := by rw [t_add (by omega) (by omega), sb]
          have x2 : (240 * M + i).toInt = 240 * M.toInt + i.toInt := by rw [t_add (by omega) (by omega), b1]
          have c1 : (240 * s + i).toNatClampNeg = 240 * S + k := by rw [t_cl, x1]; omega
          have c3 : (240 * M + i).toNatClampNeg = 240 * m + k := by rw [t_cl, x2]; omega
          rw [c1, c3, yr k (by omega)]
          refine ⟨by rw [vp_in_iff]; omega, by rw [vp_in_iff]; omega, fun ne => ihm (k + 1) _ _ ii (by omega) (by omega) (Or.inr ⟨rfl, fun z9 => ne (z9 k (by omega))⟩), fun e => ihm (k + 1) _ _ ii (by omega) (by omega) (Or.inl ⟨rfl, fun i9 h9 => ?_⟩)⟩
          by_cases q : i9 = k
          · rw [q]; exact e
          · exact hv1 i9 (by omega)
      exact p91 222 0 1 0 rfl (by omega) (by omega) (Or.inl ⟨rfl, fun i hi => absurd hi (Nat.not_lt_zero _)⟩)
  have p25 : ∀ (n k : Nat) (hh i : Int32), i.toInt = (k : Nat) → 222 - k ≤ n → k ≤ 222 → hh = hsF hs31 (fun i => pv z i) k → MT G (D + 1) z_seek 25 [(0, vr 0), (1, vi w), (2, vi (240 * M)), (3, vi hh), (4, vi i)] [] y (ri F) := by
    have last : ∀ (k : Nat) (hh : Int32), k = 222 → hh = hsF hs31 (fun i => pv z i) k → vp_in (hsE hh) 4096 ∧ MT G (D + 1) z_seek 79 [(0, vr 0), (1, vi w), (2, vi (240 * M)), (3, vi (hsE hh)), (4, vi (y.1 135 (hsE hh).toNatClampNeg))] [] y (ri F) := by
      intro k hh ek eh
      rw [ek] at eh
      rw [eh, ← eHV, y135]
      have hd := hs.1 _ HVb
      refine ⟨hHV, p79 3001 _ (hd.imp id (fun q => by omega)) ?_ (fun s9 h9 he => ?_)⟩
      · rcases hd with q | q
        · rw [q]; decide
        · omega
      · rw [← hsame s9 h9 he]; exact hc s9 h9
    intro n
    induction n with
    | zero =>
      intro k hh i ei hn hk eh
      exact sg_seek_25 _ _ _ _ ⟨fun _ => last k hh (by omega) eh, fun c => absurd (t_le.mpr (by rw [y136]; omega)) c⟩
    | succ n ih =>
      intro k hh i ei hn hk eh
      refine sg_seek_25 _ _ _ _ ⟨fun c => last k hh (by rw [t_le, y136] at c; omega) eh, fun c => ?_⟩
      rw [t_le, y136] at c
      have ii : (i + 1).toInt = ((k + 1 : Nat) : Int) := by rw [t_add (by omega) (by omega), k1, ei]; rfl
      have x2 : (240 * M + i).toInt = 240 * M.toInt + i.toInt := by rw [t_add (by omega) (by omega), b1]
      have c3 : (240 * M + i).toNatClampNeg = 240 * m + k := by rw [t_cl, x2]; omega
      rw [c3, yr k (by omega)]
      refine ⟨by rw [vp_in_iff]; omega, ih (k + 1) _ _ ii (by omega) (by omega) ?_⟩
      rw [hsF, ← eh]
      rfl
  exact p25 222 0 0 0 rfl (by omega) (by omega) rfl
end SK3
end
section
/-! the model: what looking at a state asks -/
section MLH
variable {G : mG} {d D : Nat} {x z a y : gd} {F : Int32 → gd → Prop} {Fv : gd → Prop} {C : gCo} {M : gMa} {w : Nat}
theorem evQ_me {lv : Nat → Int32} {cv : Int32 → Int32} {m m' : Int32} : ∀ {Q : List gQ}, (∀ p ∈ Q, ¬ p.1 = 3) → ∀ s, evQ lv cv m Q s = evQ lv cv m' Q s := by
  intro Q
  induction Q with
  | nil => intro _ s; rfl
  | cons q Q ih =>
    intro h s
    have ih := ih (fun p hp => h p (List.mem_cons_of_mem _ hp))
    have h3 := h q (List.mem_cons_self ..)
    rw [evQ, evQ]
    by_cases c1 : q.1 = 1
    · rw [if_pos c1, if_pos c1, ih]
    · rw [if_neg c1, if_neg c1]
      by_cases c2 : q.1 = 2
      · rw [if_pos c2, if_pos c2, ih]
      · rw [if_neg c2, if_neg c2, if_neg h3, if_neg h3]
        by_cases c4 : q.1 = 4
        · rw [if_pos c4, if_pos c4, ih]
        · rw [if_neg c4, if_neg c4]
          by_cases c5 : q.1 = 5
          · rw [if_pos c5, if_pos c5, ih]
          · rw [if_neg c5, if_neg c5]
            cases biQ q.2.2 (s.tail.headD 0) (s.headD 0) with
            | none => rfl
            | some r => exact ih _
theorem sp_hasAct3 (hN : NC C) (hX : NXc C) (w01 : w = 0 ∨ w = 1) (am : AM C w M a) (e : eqS (Sm a) a y) (t : Int32) (tv : vp_in t 6) (hD : 2 ≤ D) (h0 : ¬ canM C w M t.toNatClampNeg → ∀ y', md rL rA y y' → eqS (Sm a) a y' → F 0 y') (h1 : a.1 73 t.toNatClampNeg = 1 → ¬ a.1 77 t.toNatClampNeg = 1 → canM C w M t.toNatClampNeg → ∀ y', md rL rA y y' → eqS (Sm a) a y' → F 1 y') : MT G D z_hasAct 0 [(0, vr 0), (1, vi t)] [] y (ri F) := by
  obtain ⟨av, hK, hM, hI, wy, -⟩ := am
  refine MD_top (ds_hasAct3 (d := 1) (S := Sm a) (x := a) (C := C) (M := M) (F := fun r y S1 => y = a ∧ S1 = Sm a ∧ ((r = 0 ∧ ¬ canM C w M t.toNatClampNeg) ∨ (r = 1 ∧ a.1 73 t.toNatClampNeg = 1 ∧ ¬ a.1 77 t.toNatClampNeg = 1 ∧ canM C w M t.toNatClampNeg))) t tv (RI_sub (Sl_Sm a) av.1) hK hN hX hM wy w01 (fun w0 t' ht' => (hI.1 t' ht').2.2.2 w0) (fun c => ⟨rfl, rfl, Or.inl ⟨rfl, c⟩⟩) (fun c1 c2 c3 => ⟨rfl, rfl, Or.inr ⟨rfl, c1, c2, c3⟩⟩)) e (by omega) (fun o x' S' y' q eq m => ?_)
  obtain ⟨r, eo, ex, eS, hr⟩ := q
  rw [ex, eS] at eq
  rw [eo]
  rcases hr with ⟨hr, c⟩ | ⟨hr, c1, c2, c3⟩
  · rw [hr]; exact ri_i (h0 c y' m eq)
  · rw [hr]; exact ri_i (h1 c1 c2 c3 y' m eq)
theorem sp_lookAt3 (hN : NC C) (hX : NXc C) (w01 : w = 0 ∨ w = 1) (am : AM C w M a) (e : eqS (Sm a) a z) (t : Int32) (tv : vp_in t 6) (h1 : a.1 73 t.toNatClampNeg = 1) (h2 : ¬ a.1 77 t.toNatClampNeg = 1) (hD : 3 ≤ D) (h : ∀ z' x', eqS (Sm a) a z' → md rL rA z z' → lkP a x' t.toNatClampNeg → z'.1 0 88 = x'.1 0 88 → z'.1 0 89 = x'.1 0 89 → z'.1 0 89 = Int32.ofNat (lkM C w M t.toNatClampNeg).1 → z'.1 0 88 = (lkM C w M t.toNatClampNeg).2.1 → Fv z') : MT G D z_lookAt 0 [(0, vr 0), (1, vi t)] [] z (rv Fv) := by
  obtain ⟨av, hK, hM, hI, wy, -⟩ := am
  refine MD_top (ds_look3 (d := 0) (S := Sm a) (C := C) (M := M) (w := w) (Fv := fun y S1 => md [82, 88, 89, 90, 91] [84] a y ∧ ssub (Sm a) S1 ∧ lkS S1 ∧ lkP a y t.toNatClampNeg ∧ lkQ y (lkM C w M t.toNatClampNeg)) t tv (RI_sub (Sl_Sm a) av.1) h1 h2 hK hN hX hM wy w01 (fun y S1 q1 q2 q3 q4 q5 => ⟨q1, q2, q3, q4, q5⟩)) e (by omega) (fun o x' S' z' q eq mz => ?_)
  obtain ⟨eo, mx, ss, ls, lp, lq⟩ := q
  rw [eo]
  have e88 := eq 0 88 (Or.inr ls.1)
  have e89 := eq 0 89 (Or.inr ls.2.1)
  refine rv_i (h z' x' (fun c j hc => ?_) mz lp e88 e89 (by rw [e89]; exact lq.1) (by rw [e88]; exact lq.2.1))
  have hx : eqS (Sm a) a x' := eqS_mi (eqS_rf _ _) (mi_of mx) rfl rfl (ssub_rf _)
  rw [eq c j (hc.imp id (ss c j)), hx c j hc]
/-- a claim's sum -/
theorem sp_claim (hN : NC C) (hq2 : NCq C) (l24 : C.2.2.1.length ≤ 24) (am : AM C w M a) (e : eqS (Sm a) a y) (r : Int32) {Q : List gQ} (hQ : Q ∈ C.2.2.2.1 ∨ Q ∈ C.2.2.2.2) (hS : SUm a r (Q.map (mQp []))) (hD : 2 ≤ D) (h : ∀ v y', md rL rA y y' → eqS (Sm a) a y' → ((v = 0 ∨ ¬ y'.1 0 82 = 0) ↔ badC M Q) → (y'.1 0 82 = 0 ∨ y'.1 0 82 = 1) → F v y') : MT G D z_worked 0 [(0, vr 0), (1, vi r), (2, vi (-1))] [] y (ri F) := by
  obtain ⟨av, hK, hM, hI, wy, -⟩ := am
  have w6 : (a.1 0 49).toInt ≤ 6000 := by have := av.1.1.2.1.2.2.2.1; omega
  obtain ⟨n1, n2⟩ := hN.2.2 Q hQ
  have k1 : ¬ (1 : Int32) = 0 := by decide
  refine MD_top (ds_workedf (d := 0) (S := Sm a) (x := a) (t := -1) (sl := []) (lv := fun _ => 0) (cv := fun c => M.1 c.toNatClampNeg) (F := fun v y S1 => md [82] [84] a y ∧ ssub (Sm a) S1 ∧ S1 0 82 ∧ wkM y (wkQ (fun _ => 0) (fun c => M.1 c.toNatClampNeg) (-1) Q) v) hS w6 n1 (fun p hp => ⟨(n2 p hp).1, fun c => absurd c (n2 p hp).2, fun c => ?_⟩) (fun v y S1 h1 h2 h3 h4 => ⟨h1, h2, h3, h4⟩)) e (by omega) (fun o x' S' y' q eq m => ?_)
  · obtain ⟨c0, c1⟩ := (hq2 Q hQ p hp).2 c
    exact ⟨by rw [vp_in_iff]; omega, hM.1 _ (by rw [t_cl]; omega)⟩
  · obtain ⟨v, eo, mx, ss, s82, wk⟩ := q
    rw [eo]
    have e82 := eq 0 82 (Or.inr s82)
    have ev : wkQ (fun _ => 0) (fun c => M.1 c.toNatClampNeg) (-1) Q = evC M Q := by
      unfold evC wkQ
      rw [evQ_me (m' := 0) (fun p hp => (hq2 Q hQ p hp).1)]
    rw [ev] at wk
    refine ri_i (h v y' m (fun c j hc => ?_) ?_ ?_)
    · have hx : eqS (Sm a) a x' := eqS_mi (eqS_rf _ _) (mi_of mx) rfl rfl (ssub_rf _)
      rw [eq c j (hc.imp id (ss c j)), hx c j hc]
    · rw [e82]
      rcases wk with ⟨u, hu, er, y5⟩ | ⟨hu, y5⟩
      · rw [er, y5]
        constructor
        · rintro (z | z)
          · exact Or.inr (by rw [hu, z])
          · exact absurd rfl z
        · rintro (z | z)
          · rw [hu] at z; cases z
          · rw [hu] at z; exact Or.inl (Option.some.inj z)
      · rw [y5]
        exact ⟨fun _ => Or.inl hu, fun _ => Or.inr k1⟩
    · rw [e82]
      rcases wk with ⟨u, hu, er, y5⟩ | ⟨hu, y5⟩
      · exact Or.inl y5
      · exact Or.inr y5
end MLH
end
section
/-! the model: sorts, races, findings noted -/
def FAm (z y : gd) (W : Nat) (s : Int32) (D : Nat → Prop) : Prop := ∀ f, f < 11 → (D f ∧ z.1 126 (11 * W + f) = -1 ∧ y.1 126 (11 * W + f) = s) ∨ (¬ (D f ∧ z.1 126 (11 * W + f) = -1) ∧ y.1 126 (11 * W + f) = z.1 126 (11 * W + f))
section MRC
variable {G : mG} {d D : Nat} {x z a y y' : gd} {F : Int32 → gd → Prop} {Fv : gd → Prop} {C : gCo} {M : gMa} {w W n m : Nat} {s : Int32} {E E' : Nat → Prop}
theorem FAm_f (e : y'.1 126 = y.1 126) (h : FAm z y W s E) : FAm z y' W s E := fun f hf => by rw [e]; exact h f hf
theorem FAm_c (e : ∀ f, f < 11 → (E f ↔ E' f)) (h : FAm z y W s E) : FAm z y W s E' := fun f hf => by rw [← e f hf]; exact h f hf
theorem FAm_more (hm : n ≤ m) (hn : ∀ f, n ≤ f → f < m → ¬ fnM C w M f) (h : FAm z y W s (fD C w M n)) : FAm z y W s (fD C w M m) := FAm_c (fun f _ => ⟨fun z => ⟨by have := z.1; omega, z.2⟩, fun z => ⟨by
  apply Classical.byContradiction
  intro c
  exact hn f (by omega) z.1 z.2, z.2⟩⟩) h
/-- a finding is noted, whether it was before or not -/
theorem FAm_find (hs : 0 ≤ s.toInt) (hn : n < 11) (e : ∀ k, ¬ k = 11 * W + n → y'.1 126 k = y.1 126 k) (e1 : y.1 126 (11 * W + n) = -1 → y'.1 126 (11 * W + n) = s) (e2 : ¬ y.1 126 (11 * W + n) = -1 → y'.1 126 (11 * W + n) = y.1 126 (11 * W + n)) (h : FAm z y W s E) : FAm z y' W s (fun f => E f ∨ f = n) := by
  intro f hf9
  by_cases c : f = n
  · rw [c]
    rcases h n hn with ⟨a1, a2, a3⟩ | ⟨a1, a2⟩
    · refine Or.inl ⟨Or.inr rfl, a2, ?_⟩
      rw [e2 (fun q => by rw [a3] at q; rw [q, tm1] at hs; omega)]; exact a3
    · by_cases c9 : z.1 126 (11 * W + n) = -1
      · exact Or.inl ⟨Or.inr rfl, c9, e1 (by rw [a2]; exact c9)⟩
      · exact Or.inr ⟨fun q => c9 q.2, by rw [e2 (by rw [a2]; exact c9)]; exact a2⟩
  · rw [e _ (by omega)]
    have hD : (fun f => E f ∨ f = n) f ↔ E f := ⟨fun q => q.resolve_right c, Or.inl⟩
    rw [hD]; exact h f hf9
theorem fD_up (hf : fnM C w M n) (f : Nat) : (fD C w M n f ∨ f = n) ↔ fD C w M (n + 1) f := by
  constructor
  · rintro (q | q)
    · exact ⟨by have := q.1; omega, q.2⟩
    · exact ⟨by omega, by rw [q]; exact hf⟩
  · intro q
    by_cases c : f = n
    · exact Or.inr c
    · exact Or.inl ⟨by have := q.1; omega, q.2⟩
theorem sp_find3 (w f s : Int32) (wv : vp_in w 2) {f9 : Nat} (ef : f.toInt = (f9 : Nat)) (f1 : f9 < 11) {M : Int} (s0 : 0 ≤ s.toInt) (s1 : s.toInt < M) (hf : fnd z w.toNatClampNeg M) (h : ∀ z', md [] [126] z z' → ow w.toNatClampNeg z z' → fnd z' w.toNatClampNeg M → (∀ k, ¬ k = 11 * w.toNatClampNeg + f9 → z'.1 126 k = z.1 126 k) → (z.1 126 (11 * w.toNatClampNeg + f9) = -1 → z'.1 126 (11 * w.toNatClampNeg + f9) = s) → (¬ z.1 126 (11 * w.toNatClampNeg + f9) = -1 → z'.1 126 (11 * w.toNatClampNeg + f9) = z.1 126 (11 * w.toNatClampNeg + f9)) → Fv z') : MT G d z_find 0 [(0, vr 0), (1, vi w), (2, vi f), (3, vi s)] [] z (rv Fv) := by
  obtain ⟨v, e⟩ := t11 wv (f := f) (by omega) (by omega)
  have cf : f.toNatClampNeg = f9 := by rw [t_cl, ef]; rfl
  rw [cf] at e
  refine sg_find_0 _ _ _ ⟨v, fun c => rv_i (h z (md_w (md_rf z) (by decide) (by decide)) (ow_mi (L := []) (A := []) ⟨fun _ _ => rfl, fun _ _ _ => rfl, fun _ => rfl⟩ rfl) hf (fun _ _ => rfl) (fun c2 => absurd (by rw [e]; exact c2) c) (fun _ => rfl)), fun c => ⟨v, fun y ey => ?_⟩⟩
  rw [e] at ey c
  have m := md_a z 126 (11 * w.toNatClampNeg + f9) s (by decide)
  rw [← ey] at m
  refine rv_i (h y m ?_ (fun g hg => ?_) (fun k hk => by rw [ey, si_get, if_neg (fun q => hk q.2)]) (fun _ => by rw [ey, si_get, if_pos ⟨rfl, rfl⟩]) (fun c2 => absurd c c2))
  · rw [ey]
    exact ow_si (vp_lt wv) (Or.inr (Or.inl ⟨rfl, _, f1, rfl⟩))
  · rw [ey, si_get]
    by_cases q : (126 : Nat) = 126 ∧ 11 * w.toNatClampNeg + g = 11 * w.toNatClampNeg + f9
    · rw [if_pos q]; exact Or.inr ⟨s0, s1⟩
    · rw [if_neg q]; exact hf g hg
theorem sp_isAtomic3 {k : Nat} (hk : k < 22) (h : ∀ r : Int32, (¬ r = 0 ↔ 2 ≤ k ∧ k ≤ 4) → F r x) : MT G d z_isAtomic 0 [(0, vr 0), (1, vi (Int32.ofNat k))] [] x (ri F) := by
  have k1 : ¬ (1 : Int32) = 0 := by decide
  have e : ∀ n, n < 22 → ((Int32.ofNat n = 2 ↔ n = 2) ∧ (Int32.ofNat n = 3 ↔ n = 3) ∧ (Int32.ofNat n = 4 ↔ n = 4)) := by decide +kernel
  obtain ⟨e2, e3, e4⟩ := e k hk
  refine sg_isAtomic_0 _ ⟨fun c => ri_i (h _ ⟨fun _ => by have := e2.mp c; omega, fun _ => k1⟩), fun c2 => ⟨fun c => ri_i (h _ ⟨fun _ => by have := e3.mp c; omega, fun _ => k1⟩), fun c3 => ⟨fun c4 => ri_i (h _ ⟨fun q => absurd rfl q, fun q => ?_⟩), fun c => ri_i (h _ ⟨fun _ => by have := e4.mp c; omega, fun _ => k1⟩)⟩⟩⟩
  exfalso
  rw [e2] at c2
  rw [e3] at c3
  rw [e4] at c4
  omega
theorem sp_mayRace3 {k l : Nat} (hk : k < 22) (hl : l < 22) (h : ∀ r : Int32, (¬ r = 0 ↔ k ≤ 4 ∧ l ≤ 4 ∧ srM k l) → F r x) : MT G (d + 1) z_mayRace 0 [(0, vr 0), (1, vi (Int32.ofNat k)), (2, vi (Int32.ofNat l))] [] x (ri F) := by
  have k1 : ¬ (1 : Int32) = 0 := by decide
  have ek : (Int32.ofNat k).toInt = (k : Nat) := Int32.toInt_ofNat_of_lt (by omega)
  have el : (Int32.ofNat l).toInt = (l : Nat) := Int32.toInt_ofNat_of_lt (by omega)
  have z0 : ∀ n, n < 22 → (Int32.ofNat n = 0 ↔ n = 0) := by decide +kernel
  have p24 : k ≤ 4 → l ≤ 4 → ¬ (k = 0 ∧ l = 0) → MT G (d + 1) z_mayRace 24 [(0, vr 0), (1, vi (Int32.ofNat k)), (2, vi (Int32.ofNat l))] [] x (ri F) := fun a1 a2 a3 => sg_mayRace_24 _ _ (sp_isAtomic3 hk (fun r hr => ⟨fun r0 => ri_i (h _ ⟨fun _ => ⟨a1, a2, a3, fun q => hr.mpr ⟨q.1, a1⟩ r0⟩, fun _ => k1⟩), fun rn => sp_isAtomic3 hl (fun r2 hr2 => ⟨fun n2 => ri_i (h _ ⟨fun q => absurd rfl q, fun q => absurd ⟨(hr.mp rn).1, (hr2.mp n2).1⟩ q.2.2.2⟩), fun e2 => ri_i (h _ ⟨fun _ => ⟨a1, a2, a3, fun q => hr2.mpr ⟨q.2, a2⟩ e2⟩, fun _ => k1⟩)⟩)⟩))
  refine sg_mayRace_0 _ _ (sp_isAccess _ (fun c => ⟨fun _ => ri_i (h _ ⟨fun q => absurd rfl q, fun q => absurd q.1 (fun q2 => c (by omega))⟩), fun q => absurd rfl q⟩) (fun c1 => ⟨fun q => absurd q (by decide), fun _ => sp_isAccess _ (fun c => ⟨fun _ => ri_i (h _ ⟨fun q => absurd rfl q, fun q => absurd q.2.1 (fun q2 => c (by omega))⟩), fun q => absurd rfl q⟩) (fun c2 => ⟨fun q => absurd q (by decide), fun _ => ⟨fun n0 => p24 (by omega) (by omega) (fun q => n0 ((z0 k hk).mpr q.1)), fun e0 => ⟨fun e3 => ri_i (h _ ⟨fun q => absurd rfl q, fun q => absurd ⟨(z0 k hk).mp e0, (z0 l hl).mp e3⟩ q.2.2.1⟩), fun n3 => p24 (by omega) (by omega) (fun q => n3 ((z0 l hl).mpr q.2))⟩⟩⟩)⟩))
theorem srt_so {t : Nat} (hN : NC C) (am : AM C w M a) (ht : t < 6) (h1 : a.1 73 t = 1) (h2 : ¬ a.1 77 t = 1) : srt a t = Int32.ofNat (soM C (M.2.2 t)) ∧ soM C (M.2.2 t) < 22 := by
  obtain ⟨av, hK, hM, hI, wy, -⟩ := am
  obtain ⟨kv, kn, so, -⟩ := RI_step av.1 ht h1
  obtain ⟨m73, l73, m75, m74, m77, l77, -⟩ := hM.2.2 t ht
  have kK : (a.1 74 t).toNatClampNeg = (M.2.2 t).2.2.1 := by rw [t_cl, m74]; rfl
  have l52 : (a.1 0 52).toInt = C.1.length := hK.1.1
  obtain ⟨st, hst⟩ : ∃ st, C.1[(M.2.2 t).2.2.1]? = some st := ⟨_, List.getElem?_eq_getElem (by omega)⟩
  have esN := stN_is hst
  obtain ⟨k54, k55, -⟩ := hK.1.2 _ st hst
  have ns := hN.1 _ st hst
  have o16 : st.1 < 16 := by
    have b := ((av.1.2 t ht).1.2.2 h1).2
    rw [kK, k54] at b
    exact (mWh_i st.1 ns.1.1).1.mp b
  obtain ⟨w2, w1', w0'⟩ := wai_2 _ (show (M.2.2 t).2.2.2.1 < 3 by omega)
  rw [← m77] at w2 w1' w0'
  unfold srt soM
  rw [esN]
  by_cases c9 : a.1 77 t = 2
  · rw [if_pos c9, if_neg (by have := w2.mp c9; omega)]
    exact ⟨rfl, by decide⟩
  · have z0 : (M.2.2 t).2.2.2.1 = 0 := by
      have a1 : ¬ (M.2.2 t).2.2.2.1 = 2 := fun z => c9 (w2.mpr z)
      have a2 : ¬ (M.2.2 t).2.2.2.1 = 1 := fun z => h2 (w1'.mpr z)
      omega
    rw [if_neg c9, if_pos z0, kK]
    exact ⟨k55 o16, by omega⟩
end MRC
end
section
/-! the model: a state looked at while trying, what it shows is noted -/
section LO3
variable {G : mG} {d D : Nat} {x z a : gd} {F : Int32 → gd → Prop} {Fv : gd → Prop} {C : gCo} {Ma : gMa} {wn : Nat}
/-- two threads' accesses race -/
def prR (C : gCo) (w : Nat) (M : gMa) (t o : Nat) : Prop := axM C w M t ∧ axM C w M o ∧ (lkM C w M t).2.1 = (lkM C w M o).2.1 ∧ srM (soM C (M.2.2 t)) (soM C (M.2.2 o))
theorem prR_rc {t o : Nat} (h : t < o) (ho : o < C.2.1.length) (p : prR C wn Ma t o) : rcM C wn Ma := ⟨o, t, h, ho, p.2.1, p.1, p.2.2.1.symm, fun q => p.2.2.2.1 ⟨q.2, q.1⟩, fun q => p.2.2.2.2 ⟨q.2, q.1⟩⟩
theorem lkI_n9 {T : Nat} (hX : NXc C) {st : gNs} (s1 : C.1[(Ma.2.2 T).2.2.1]? = some st) (s2 : stN C (Ma.2.2 T).2.2.1 = st) (o4 : st.1 ≤ 4) (c24 : C.2.2.1.length ≤ 24) (l0 : (lkI C Ma T).1 = 0) : 0 ≤ (lkI C Ma T).2.toInt ∧ (lkI C Ma T).2.toInt < C.2.2.1.length := by
  obtain ⟨x1, x2, x3, -, x5, x6⟩ := hX _ st s1
  obtain ⟨z1, z2, z3⟩ := x6 o4
  cases hix : st.2.2.2.2.2.2.2.1 with
  | none =>
    rw [lkI_n (by rw [s2]; exact hix), s2]
    exact ⟨z1, z2⟩
  | some Q =>
    have hix' : (stN C (Ma.2.2 T).2.2.1).2.2.2.2.2.2.2.1 = some Q := by rw [s2]; exact hix
    cases hwk : wkQ (Ma.2.2 T).2.2.2.2.2.2.2 (fun _ => 0) (Int32.ofNat T) Q with
    | none => rw [lkI_1 hix' hwk] at l0; exact absurd l0 (by decide)
    | some v =>
      by_cases cv : v < 0 ∨ (stN C (Ma.2.2 T).2.2.1).2.2.2.2.2.1 ≤ v
      · rw [lkI_2 hix' hwk cv] at l0; exact absurd l0 (by decide)
      · rw [lkI_0 hix' hwk cv, s2]
        rw [s2] at cv
        have v0 : 0 ≤ v.toInt := by
          have : ¬ v < 0 := fun z => cv (Or.inl z)
          rw [t_lt] at this
          have k0 : (0 : Int32).toInt = 0 := rfl
          omega
        have v1 : v.toInt < st.2.2.2.2.2.1.toInt := by
          have : ¬ st.2.2.2.2.2.1 ≤ v := fun z => cv (Or.inr z)
          rw [t_le] at this
          omega
        have z3 := z3 (by rw [hix]; exact fun z => nomatch z)
        have e5 : (st.2.2.2.2.1 + v).toInt = st.2.2.2.2.1.toInt + v.toInt := t_add (by omega) (by omega)
        show 0 ≤ (st.2.2.2.2.1 + v).toInt ∧ (st.2.2.2.2.1 + v).toInt < _
        omega
/-- a cell that is accessed is one of those that there are -/
theorem lkM_in {T : Nat} (hN : NC C) (hX : NXc C) (am : AM C wn Ma a) (ht : T < 6) (h1 : a.1 73 T = 1) (so4 : soM C (Ma.2.2 T) ≤ 4) (l0 : (lkM C wn Ma T).1 = 0) : 0 ≤ (lkM C wn Ma T).2.1.toInt ∧ (lkM C wn Ma T).2.1.toInt < C.2.2.1.length := by
  obtain ⟨av, hK, hM, hI, wy, -⟩ := am
  obtain ⟨kv, kn, -, -⟩ := RI_step av.1 ht h1
  obtain ⟨m73, l73, m75, m74, -⟩ := hM.2.2 T ht
  have l52 : (a.1 0 52).toInt = C.1.length := hK.1.1
  have nC : (a.1 0 23).toInt = C.2.2.1.length := hK.2.2.1.1
  have c24 : (a.1 0 23).toInt ≤ 24 := av.1.1.1.2.1
  obtain ⟨st, hst⟩ : ∃ st, C.1[(Ma.2.2 T).2.2.1]? = some st := ⟨_, List.getElem?_eq_getElem (by omega)⟩
  have esN := stN_is hst
  have w0 : (Ma.2.2 T).2.2.2.1 = 0 := by
    by_cases w0 : (Ma.2.2 T).2.2.2.1 = 0
    · exact w0
    · unfold soM at so4; rw [if_neg w0] at so4; omega
  have o4 : st.1 ≤ 4 := by unfold soM at so4; rw [if_pos w0, esN] at so4; exact so4
  rw [lkM_c w0]
  refine lkI_n9 hX hst esN o4 (by omega) ?_
  apply Classical.byContradiction
  intro c
  rw [lkM_i w0 c] at l0
  exact c l0
theorem sp_mayRace4 {s o : Int32} {k l : Nat} (es : s = Int32.ofNat k) (eo : o = Int32.ofNat l) (hk : k < 22) (hl : l < 22) (h : ∀ r : Int32, (¬ r = 0 ↔ k ≤ 4 ∧ l ≤ 4 ∧ srM k l) → F r x) : MT G (d + 1) z_mayRace 0 [(0, vr 0), (1, vi s), (2, vi o)] [] x (ri F) := by
  subst es
  subst eo
  exact sp_mayRace3 hk hl h
theorem sp_look3 {M : Int} (hN : NC C) (hX : NXc C) (hq2 : NCq C) (w01 : wn = 0 ∨ wn = 1) (w s : Int32) (wv : vp_in w 2) (am : AM C wn Ma a) (l26 : (a.1 0 26).toInt = (C.2.2.2.1.length : Nat)) (l27 : (a.1 0 27).toInt = (C.2.2.2.2.length : Nat)) (e : eqS (Sl a) a z) (s0 : 0 ≤ s.toInt) (s1 : s.toInt < M) (hf : fnd z w.toNatClampNeg M) (o0 : 0 ≤ (z.1 123 w.toNatClampNeg).toInt) (o1 : (z.1 123 w.toNatClampNeg).toInt < 3000) (hD : 5 ≤ D) (h : ∀ z', LKI z a w.toNatClampNeg M ((z.1 123 w.toNatClampNeg).toInt + 1) z' → FAm z z' w.toNatClampNeg s (fD C wn Ma 11) → Fv z') : MT G D z_look 0 [(0, vr 0), (1, vi w), (2, vi s)] [] z (rv Fv) := by
  obtain ⟨D, rfl⟩ : ∃ D', D = D' + 2 := ⟨D - 2, by omega⟩
  have k0 : (0 : Int32).toInt = 0 := rfl
  have k1 : (1 : Int32).toInt = 1 := rfl
  have k4 : (4 : Int32).toInt = 4 := rfl
  have n1 : ¬ (1 : Int32) = 0 := by decide
  obtain ⟨W, eW⟩ : ∃ W, W = w.toNatClampNeg := ⟨_, rfl⟩
  have W2 : W < 2 := by rw [eW]; exact vp_lt wv
  rw [← eW] at hf o0 o1 h
  obtain ⟨O, eO⟩ : ∃ O, O = (z.1 123 W).toInt := ⟨_, rfl⟩
  rw [← eO] at o0 o1 h
  have av := am.1
  obtain ⟨ri, wy, ch, c0, c84, fa⟩ := id av
  obtain ⟨g1, g2, g3, g4, g5, g6, g7, g8, g9, g10, _⟩ := id ri.1.1
  have wk1 := ri.1.2.2.1
  have wk2 := ri.1.2.2.2
  obtain ⟨-, hK, hM, hI, wyw, chE9⟩ := id am
  have nT : (a.1 0 25).toInt = C.2.1.length := hK.2.1.1
  have nC : (a.1 0 23).toInt = C.2.2.1.length := hK.2.2.1.1
  have n84 : (a.1 0 84).toInt = ((chM C wn Ma).length : Nat) := AM_n am
  have f25 : ∀ {y : gd}, eqS (Sm a) a y → y.1 0 25 = a.1 0 25 := fun e => cF e (by decide)
  have f24 : ∀ {y : gd}, eqS (Sm a) a y → y.1 0 24 = a.1 0 24 := fun e => cF e (by decide)
  have f73 : ∀ {y : gd}, eqS (Sm a) a y → ∀ t, t < 6 → y.1 73 t = Int32.ofNat (Ma.2.2 t).1 := fun e t ht => by rw [cA e (c := 73) (n := 6) (by decide) ht]; exact (hM.2.2 t ht).1
  have LKf : ∀ {B : Int} {y y' : gd}, md rL rA y y' → y'.1 126 = y.1 126 := fun m => m.2.1 126 (by decide) (by decide)
  -- threads: their acts
  obtain ⟨RB, hRB⟩ : ∃ RB : gd → (Nat → Nat → Prop) → Prop, ∀ y K, RB y K ↔ (LKI z a W M (O + 1) y ∧ ∃ b : Prop, (b → rcM C wn Ma) ∧ (∀ t o, t < o → o < C.2.1.length → K t o → prR C wn Ma t o → b) ∧ FAm z y W s (fun f => fD C wn Ma 10 f ∨ (f = 10 ∧ b))) := ⟨_, fun y K => Iff.rfl⟩
  have RBmd : ∀ {y y' : gd} {K : Nat → Nat → Prop}, RB y K → md rL rA y y' → eqS (Sm a) a y' → RB y' K := fun q m e' => by
    obtain ⟨q1, b, q2, q3, q4⟩ := (hRB _ _).mp q
    exact (hRB _ _).mpr ⟨LKI_md q1 m e', b, q2, q3, FAm_f (m.2.1 126 (by decide) (by decide)) q4⟩
  have RBc : ∀ {y y' : gd} {K : Nat → Nat → Prop}, RB y K → md [] [122, 124, 125, 127, 128] y y' → RB y' K := fun q m => by
    obtain ⟨q1, b, q2, q3, q4⟩ := (hRB _ _).mp q
    exact (hRB _ _).mpr ⟨LKI_c q1 m, b, q2, q3, FAm_f (m.2.1 126 (by decide) (by decide)) q4⟩
  have RBk : ∀ {y : gd} {K K' : Nat → Nat → Prop}, (∀ t o, t < o → o < C.2.1.length → K' t o → prR C wn Ma t o → K t o) → RB y K → RB y K' := fun hk q => by
    obtain ⟨q1, b, q2, q3, q4⟩ := (hRB _ _).mp q
    exact (hRB _ _).mpr ⟨q1, b, q2, fun t o h1 h2 h3 h4 => q3 t o h1 h2 (hk t o h1 h2 h3 h4) h4, q4⟩
  have RBe : ∀ {y : gd} {K : Nat → Nat → Prop}, RB y K → LKI z a W M (O + 1) y := fun q => ((hRB _ _).mp q).1
  have p292 : ∀ (n : Nat) (y : gd) (t : Int32), 0 ≤ t.toInt → (a.1 0 25).toInt - t.toInt ≤ n → RB y (fun t' _ => (t' : Int) < t.toInt) → MT G (D + 2) z_look 292 [(0, vr 0), (1, vi w), (2, vi s), (6, vi t)] [] y (rv Fv) := by
    intro n
    have fin : ∀ (y : gd) (t : Int32), (a.1 0 25).toInt ≤ t.toInt → RB y (fun t' _ => (t' : Int) < t.toInt) → rv Fv none y := by
      intro y t ht q
      obtain ⟨q1, b, q2, q3, q4⟩ := (hRB _ _).mp q
      refine rv_i (h y q1 (FAm_c (fun f hf9 => ?_) q4))
      constructor
      · rintro (c | ⟨c, cb⟩)
        · exact ⟨by have := c.1; omega, c.2⟩
        · exact ⟨by omega, by rw [c, fn_10]; exact q2 cb⟩
      · intro c
        by_cases c10 : f = 10
        · refine Or.inr ⟨c10, ?_⟩
          have rc := c.2
          rw [c10, fn_10] at rc
          obtain ⟨o, t', r1, r2, r3, r4, r5, r6⟩ := rc
          exact q3 t' o r1 r2 (by omega) ⟨r4, r3, r5.symm, fun q => r6.1 ⟨q.2, q.1⟩, fun q => r6.2 ⟨q.2, q.1⟩⟩
        · exact Or.inl ⟨by have := c.1; omega, c.2⟩
    induction n with
    | zero =>
      intro y t t0 hn ky
      exact sg_look_292 _ _ _ ⟨fun c => fin y t (by rw [t_le, f25 (RBe ky).2.1] at c; exact c) ky, fun c => absurd (t_le.mpr (by rw [f25 (RBe ky).2.1]; omega)) c⟩
    | succ n ih =>
      intro y t t0 hn ky
      refine sg_look_292 _ _ _ ⟨fun c => fin y t (by rw [t_le, f25 (RBe ky).2.1] at c; exact c) ky, fun c => ?_⟩
      rw [t_le, f25 (RBe ky).2.1] at c
      have tv : vp_in t 6 := by rw [vp_in_iff]; omega
      have ti : (t + 1).toInt = t.toInt + 1 := by rw [t_add (by omega) (by omega), k1]
      obtain ⟨T, eT⟩ : ∃ T, T = t.toNatClampNeg := ⟨_, rfl⟩
      have cT : t.toInt = (T : Nat) := by rw [eT]; exact (cl_i t0).symm
      have T6 : T < 6 := by omega
      have Tn : T < C.2.1.length := by omega
      have nx : ∀ y, RB y (fun t' _ => (t' : Int) < t.toInt ∨ t' = T) → MT G (D + 2) z_look 292 [(0, vr 0), (1, vi w), (2, vi s), (6, vi (t + 1))] [] y (rv Fv) := fun y ky => ih y (t + 1) (by omega) (by omega) (RBk (fun t' o h1 h2 h3 _ => by omega) ky)
      have nx0 : ¬ axM C wn Ma T → ∀ {y : gd} {K : Nat → Nat → Prop}, (∀ t' o : Nat, (t' : Int) < t.toInt → K t' o) → RB y K → MT G (D + 2) z_look 292 [(0, vr 0), (1, vi w), (2, vi s), (6, vi (t + 1))] [] y (rv Fv) := fun na y K hk ky => nx y (RBk (fun t' o h1 h2 h3 h4 => by
        rcases h3 with h3 | h3
        · exact hk t' o h3
        · rw [h3] at h4; exact absurd h4.1 na) ky)
      refine sp_hasAct3 hN hX w01 am (RBe ky).2.1 t tv (by omega) (fun nc y' m e' => ⟨fun q => absurd rfl q, fun _ => nx0 (fun q => nc (by rw [← eT]; exact q.1)) (fun _ _ q => q) (RBmd ky m e')⟩) (fun st st7 hcan y' m e' => ⟨fun _ => ?_, fun q => absurd q (by decide)⟩)
      rw [← eT] at hcan
      have ky' := RBmd ky m e'
      refine sp_locksOf t (by rw [f24 e']; exact g4) (fun mine => sp_lookAt3 hN hX w01 am e' t tv st st7 (by omega) (fun y7 x7 e7 m7 lp e88 e89 q89 q88 => ?_))
      have ky7 := RBmd ky' m7 e7
      obtain ⟨kv, kn, so, avv⟩ := RI_step ri (vt tv) st
      obtain ⟨r1, r2, r3⟩ := srt_of ri (vt tv) st
      have k74 : y7.1 74 t.toNatClampNeg = a.1 74 t.toNatClampNeg := cA e7 (n := 6) (by decide) (vt tv)
      have esl : eqS (Sl a) a y7 := eqS_w (Sl_Sm a) e7
      have es := srt_eq esl ri (vt tv)
      refine sp_sortOf t tv (by rw [k74]; exact kv) ?_
      rw [es]
      obtain ⟨ss, s22⟩ := srt_so hN am (vt tv) st st7
      obtain ⟨so', eso⟩ : ∃ q, q = srt a t.toNatClampNeg := ⟨_, rfl⟩
      obtain ⟨cc, ecc⟩ : ∃ q, q = y7.1 0 88 := ⟨_, rfl⟩
      unfold lkP at lp
      rw [← eso] at lp r1 r2 r3 ss ⊢
      rw [← e88, ← ecc] at lp
      rw [← e89] at lp
      rw [← eT] at q89 q88 ss s22
      rw [← ecc] at q88
      obtain ⟨l1, l2, l3⟩ := lp
      have eso4 : so'.toInt = (soM C (Ma.2.2 T) : Nat) := by rw [ss]; exact Int32.toInt_ofNat_of_lt (by omega)
      have fl : (y7.1 0 89 = 0) ↔ (lkM C wn Ma T).1 = 0 := by
        have z0 : ∀ n, n < 10 → (Int32.ofNat n = 0 ↔ n = 0) := by decide +kernel
        rw [q89]; exact z0 _ (by have := lkM_le (C := C) (w := wn) (M := Ma) (t := T); omega)
      -- races with the other threads
      have p464 : ∀ v : Int32, (¬ v = 0 ↔ y7.1 0 89 = 0) → ∀ (m : Nat) (u : gd) (o : Int32), t.toInt < o.toInt → (a.1 0 25).toInt - o.toInt ≤ m → RB u (fun t' o' => (t' : Int) < t.toInt ∨ (t' = T ∧ (o' : Int) < o.toInt)) → MT G (D + 2) z_look 464 [(0, vr 0), (1, vi w), (2, vi s), (6, vi t), (8, vi so'), (9, vi cc), (10, vi v), (11, vi o)] [] u (rv Fv) := by
        intro v hv m
        have full : ∀ (u : gd) (o : Int32), (a.1 0 25).toInt ≤ o.toInt → RB u (fun t' o' => (t' : Int) < t.toInt ∨ (t' = T ∧ (o' : Int) < o.toInt)) → MT G (D + 2) z_look 292 [(0, vr 0), (1, vi w), (2, vi s), (6, vi (t + 1))] [] u (rv Fv) := fun u o ho ku => nx u (RBk (fun t' o' h1 h2 h3 _ => by
          rcases h3 with h3 | h3
          · exact Or.inl h3
          · exact Or.inr ⟨h3, by omega⟩) ku)
        induction m with
        | zero =>
          intro u o o0' hm ku
          exact sg_look_464 _ _ _ _ _ _ _ ⟨fun c2 => full u o (by rw [t_le, f25 (RBe ku).2.1] at c2; exact c2) ku, fun c2 => absurd (t_le.mpr (by rw [f25 (RBe ku).2.1]; omega)) c2⟩
        | succ m ihm =>
          intro u o o0' hm ku
          refine sg_look_464 _ _ _ _ _ _ _ ⟨fun c2 => full u o (by rw [t_le, f25 (RBe ku).2.1] at c2; exact c2) ku, fun c2 => ?_⟩
          rw [t_le, f25 (RBe ku).2.1] at c2
          have ov : vp_in o 6 := by rw [vp_in_iff]; omega
          have oi : (o + 1).toInt = o.toInt + 1 := by rw [t_add (by omega) (by omega), k1]
          obtain ⟨Q, eQ⟩ : ∃ Q, Q = o.toNatClampNeg := ⟨_, rfl⟩
          have cQ : o.toInt = (Q : Nat) := by rw [eQ]; exact (cl_i (by omega)).symm
          have Qn : Q < C.2.1.length := by omega
          have TQ : T < Q := by omega
          have go : ¬ prR C wn Ma T Q → ∀ {u : gd}, RB u (fun t' o' => (t' : Int) < t.toInt ∨ (t' = T ∧ (o' : Int) < o.toInt)) → MT G (D + 2) z_look 464 [(0, vr 0), (1, vi w), (2, vi s), (6, vi t), (8, vi so'), (9, vi cc), (10, vi v), (11, vi (o + 1))] [] u (rv Fv) := fun np u ku => ihm u (o + 1) (by omega) (by omega) (RBk (fun t' o' h1 h2 h3 h4 => by
            rcases h3 with h3 | ⟨h3, h5⟩
            · exact Or.inl h3
            · by_cases eo : o' = Q
              · rw [h3, eo] at h4; exact absurd h4 np
              · exact Or.inr ⟨h3, by omega⟩) ku)
          refine sp_isAccess _ (fun sa => ⟨fun _ => nx0 (fun q => sa (by have := q.2.1; omega)) (fun _ _ q => Or.inl q) ku, fun q => absurd rfl q⟩) (fun sa => ⟨fun q => absurd q (by decide), fun _ => ⟨fun v0 => nx0 (fun q => hv.mpr (fl.mpr q.2.2.1) v0) (fun _ _ q => Or.inl q) ku, fun nv => ?_⟩⟩)
          have y89 := hv.mp nv
          have cr' := (l3 (by rw [y89, k0]; omega)).1 sa
          have cv : vp_in cc 24 := by rw [vp_in_iff]; exact cr'
          refine sp_hasAct3 hN hX w01 am (RBe ku).2.1 o ov (by omega) (fun nc u' mu eu => ⟨fun _ => go (fun q => nc (by rw [← eQ]; exact q.2.1.1)) (RBmd ku mu eu), fun q => absurd rfl q⟩) (fun so2 so7 hcan2 u' mu eu => ⟨fun q => absurd q (by decide), fun _ => ?_⟩)
          rw [← eQ] at hcan2
          have ku' := RBmd ku mu eu
          refine sp_lookAt3 hN hX w01 am eu o ov so2 so7 (by omega) (fun u9 x9 e9 m9 _ _ _ w89 w88 => ?_)
          have ku9 := RBmd ku' m9 e9
          rw [← eQ] at w89 w88
          have fl2 : (u9.1 0 89 = 0) ↔ (lkM C wn Ma Q).1 = 0 := by
            have z0 : ∀ n, n < 10 → (Int32.ofNat n = 0 ↔ n = 0) := by decide +kernel
            rw [w89]; exact z0 _ (by have := lkM_le (C := C) (w := wn) (M := Ma) (t := Q); omega)
          refine ⟨fun nf => go (fun q => nf (fl2.mpr q.2.1.2.2.1)) ku9, fun zf => ?_⟩
          obtain ⟨kv2, _, _, _⟩ := RI_step ri (vt ov) so2
          obtain ⟨ss2, s222⟩ := srt_so hN am (vt ov) so2 so7
          rw [← eQ] at ss2 s222
          refine sp_sortOf o ov (by rw [cA e9 (c := 74) (n := 6) (by decide) (vt ov)]; exact kv2) ?_
          rw [srt_eq (eqS_w (Sl_Sm a) e9) ri (vt ov), ← eQ]
          refine sp_mayRace4 ss ss2 s22 s222 (fun r hr => ⟨fun r0 => go (fun q => hr.mpr ⟨q.1.2.1, q.2.1.2.1, q.2.2.2⟩ r0) ku9, fun rn => ⟨fun ne => go (fun q => ne (by rw [w88, q88]; exact q.2.2.1.symm)) ku9, fun ee => ⟨cv, ?_⟩⟩⟩)
          have e37 : u9.1 37 cc.toNatClampNeg = if suM C cc.toNatClampNeg = true then 1 else 0 := by
            have hl : cc.toNatClampNeg < C.2.2.1.length := by
              have := lkM_in hN hX am T6 (by rw [eT]; exact st) (by omega) (fl.mp y89)
              rw [q88, t_cl]; omega
            rw [cA e9 (c := 37) (n := 24) (by decide) (vp_lt cv)]
            have hg := List.getElem?_eq_getElem hl
            rw [(hK.2.2.1.2 _ _ hg).2]
            unfold suM
            rw [hg]
          have ax1 : suM C cc.toNatClampNeg = false → prR C wn Ma T Q := fun su => ⟨⟨hcan, by omega, fl.mp y89, by rw [← q88]; exact su⟩, ⟨hcan2, (hr.mp rn).2.1, fl2.mp zf, by rw [← w88, ee]; exact su⟩, by rw [← q88, ← w88, ee], (hr.mp rn).2.2⟩
          refine ⟨fun sn => go (fun q => sn ?_) ku9, fun sz => ?_⟩
          · have := q.1.2.2.2
            rw [← q88] at this
            rw [e37, this]; rfl
          · have su : suM C cc.toNatClampNeg = false := by
              cases hsu : suM C cc.toNatClampNeg with
              | false => rfl
              | true => rw [e37, hsu] at sz; exact absurd sz (by decide)
            have pr := ax1 su
            refine sp_find3 w 10 s wv (f9 := 10) rfl (by omega) s0 s1 (by rw [← eW]; exact (RBe ku9).2.2.2.1) (fun u10 m10 o10 f10 t1 t2 t3 => ihm u10 (o + 1) (by omega) (by omega) ?_)
            rw [← eW] at o10 f10 t1 t2 t3
            obtain ⟨q1, b, q2, q3, q4⟩ := (hRB _ _).mp ku9
            refine (hRB _ _).mpr ⟨LKI_f q1 m10 o10 f10, True, fun _ => prR_rc TQ Qn pr, fun _ _ _ _ _ _ => trivial, FAm_c (fun f _ => ?_) (FAm_find s0 (by omega) t1 t2 t3 q4)⟩
            constructor
            · rintro ((c | c) | c)
              · exact Or.inl c
              · exact Or.inr ⟨c.1, trivial⟩
              · exact Or.inr ⟨c, trivial⟩
            · rintro (c | c)
              · exact Or.inl (Or.inl c)
              · exact Or.inr c.1
      -- locks that it holds
      have p400 : ∀ v : Int32, (¬ v = 0 ↔ y7.1 0 89 = 0) → ∀ (m : Nat) (u : gd) (l : Int32), 0 ≤ l.toInt → (a.1 0 24).toInt - l.toInt ≤ m → RB u (fun t' _ => (t' : Int) < t.toInt) → MT G (D + 2) z_look 400 [(0, vr 0), (1, vi w), (2, vi s), (6, vi t), (7, vi mine), (8, vi so'), (9, vi cc), (10, vi v), (11, vi l)] [] u (rv Fv) := by
        intro v hv m
        have last : ∀ u, RB u (fun t' _ => (t' : Int) < t.toInt) → MT G (D + 2) z_look 464 [(0, vr 0), (1, vi w), (2, vi s), (6, vi t), (8, vi so'), (9, vi cc), (10, vi v), (11, vi (t + 1))] [] u (rv Fv) := fun u ku => p464 v hv 6 u (t + 1) (by omega) (by omega) (RBk (fun t' o' h1 h2 h3 _ => by
          rcases h3 with h3 | h3
          · exact h3
          · omega) ku)
        induction m with
        | zero =>
          intro u l l0 hm ku
          exact sg_look_400 _ _ _ _ _ _ _ _ ⟨fun _ => last u ku, fun c2 => absurd (t_le.mpr (by rw [f24 (RBe ku).2.1]; omega)) c2⟩
        | succ m ihm =>
          intro u l l0 hm ku
          refine sg_look_400 _ _ _ _ _ _ _ _ ⟨fun _ => last u ku, fun c2 => ⟨fun _ => last u ku, fun e5 => ?_⟩⟩
          rw [t_le, f24 (RBe ku).2.1] at c2
          have li : (l + 1).toInt = l.toInt + 1 := by rw [t_add (by omega) (by omega), k1]
          have o := r2 (Or.inl (by rw [e5]; decide))
          have ccv : cc.toInt = (a.1 56 (a.1 74 t.toNatClampNeg).toNatClampNeg).toInt := by rw [l2 (Or.inl (by rw [e5]; decide))]
          have k6 : (6 : Int32).toInt = 6 := rfl
          have k36 : (36 : Int32).toInt = 36 := rfl
          have wb := vp_in_iff.mp wv
          have a1 : (36 * w).toInt = 36 * w.toInt := by rw [t_mul (by rw [k36]; omega) (by rw [k36]; omega), k36]
          have a2 : (6 * l).toInt = 6 * l.toInt := by rw [t_mul (by rw [k6]; omega) (by rw [k6]; omega), k6]
          have a3 : (36 * w + 6 * l).toInt = 36 * w.toInt + 6 * l.toInt := by rw [t_add (by omega) (by omega), a1, a2]
          refine ⟨fun _ => ihm u (l + 1) (by omega) (by omega) ku, fun _ => ⟨fun _ => ihm u (l + 1) (by omega) (by omega) ku, fun _ => ⟨?_, fun u6 e6 => ?_⟩⟩⟩
          · rw [vp_in_iff, t_add (by omega) (by omega), a3]; omega
          · have m6 := md_a u 128 (36 * w + 6 * l + cc).toNatClampNeg (vp_nar .boolean 1) (by decide)
            rw [← e6] at m6
            exact ihm u6 (l + 1) (by omega) (by omega) (RBc ku (md_w m6 (by decide) (by decide)))
      have p353 : ∀ v : Int32, (¬ v = 0 ↔ y7.1 0 89 = 0) → MT G (D + 2) z_look 353 [(0, vr 0), (1, vi w), (2, vi s), (6, vi t), (7, vi mine), (8, vi so'), (9, vi cc)] [vi v] y7 (rv Fv) := by
        intro v hv
        have q400 : ∀ u, RB u (fun t' _ => (t' : Int) < t.toInt) → MT G (D + 2) z_look 400 [(0, vr 0), (1, vi w), (2, vi s), (6, vi t), (7, vi mine), (8, vi so'), (9, vi cc), (10, vi v), (11, vi 0)] [] u (rv Fv) := fun u ku => p400 v hv 6 u 0 (by decide) (by rw [k0]; omega) ku
        refine sg_look_353 _ _ _ _ _ _ _ (sp_isAccess _ (fun _ => ⟨fun _ => q400 y7 ky7, fun q => absurd rfl q⟩) (fun sa => ⟨fun q => absurd q (by decide), fun _ => ⟨fun _ => q400 y7 ky7, fun ne => ?_⟩⟩))
        have cr' := (l1 sa).resolve_left ne
        have vv := (tmul (k := 24) (K := 24) (N := 48) (n := 24) rfl wv cr'.1 (by omega) (by omega) (by omega) (by omega)).1
        refine ⟨vv, vv, fun u7 e7' => ?_⟩
        have m7' := md_a y7 127 (24 * w + cc).toNatClampNeg (y7.1 127 (24 * w + cc).toNatClampNeg &&& mine) (by decide)
        rw [← e7'] at m7'
        exact q400 u7 (RBc ky7 (md_w m7' (by decide) (by decide)))
      rw [← ecc]
      exact ⟨fun c9 => p353 0 ⟨fun q => absurd rfl q, fun q => absurd q c9⟩, fun c9 => p353 1 ⟨fun _ => c9, fun _ => n1⟩⟩
  -- quiet
  obtain ⟨LF, hLF⟩ : ∃ LF : gd → Int → Nat → Prop, ∀ y B n, LF y B n ↔ (LKI z a W M B y ∧ FAm z y W s (fD C wn Ma n)) := ⟨_, fun y B n => Iff.rfl⟩
  have LFe : ∀ {y : gd} {B : Int} {n : Nat}, LF y B n → eqS (Sm a) a y := fun q => ((hLF _ _ _).mp q).1.2.1
  have LFmd : ∀ {y y' : gd} {B : Int} {n : Nat}, LF y B n → md rL rA y y' → eqS (Sm a) a y' → LF y' B n := fun q m e' => by
    obtain ⟨q1, q2⟩ := (hLF _ _ _).mp q
    exact (hLF _ _ _).mpr ⟨LKI_md q1 m e', FAm_f (m.2.1 126 (by decide) (by decide)) q2⟩
  have LFm : ∀ {y : gd} {B : Int} {n m : Nat}, n ≤ m → (∀ f, n ≤ f → f < m → ¬ fnM C wn Ma f) → LF y B n → LF y B m := fun hm hn q => by
    obtain ⟨q1, q2⟩ := (hLF _ _ _).mp q
    exact (hLF _ _ _).mpr ⟨q1, FAm_more hm hn q2⟩
  have fi : ∀ (y : gd) (f : Int32) (B : Int) (n : Nat), f.toInt = (n : Nat) → n < 11 → fnM C wn Ma n → LF y B n → ∀ Fq : gd → Prop, (∀ y', LF y' B (n + 1) → Fq y') → MT G (D + 1) z_find 0 [(0, vr 0), (1, vi w), (2, vi f), (3, vi s)] [] y (rv Fq) := by
    intro y f B n ef n11 fn ky Fq hq
    obtain ⟨q1, q2⟩ := (hLF _ _ _).mp ky
    refine sp_find3 w f s wv ef n11 s0 s1 (by rw [← eW]; exact q1.2.2.2.1) (fun u m o f' t1 t2 t3 => hq u ?_)
    rw [← eW] at o f' t1 t2 t3
    exact (hLF _ _ _).mpr ⟨LKI_f q1 m o f', FAm_c (fun f _ => fD_up fn f) (FAm_find s0 n11 t1 t2 t3 q2)⟩
  have p275 : ∀ (y : gd) (v : Int32), LF y (O + 1) 10 → MT G (D + 2) z_look 275 [(0, vr 0), (1, vi w), (2, vi s), (5, vi v)] [] y (rv Fv) := by
    intro y v ky
    obtain ⟨q1, q2⟩ := (hLF _ _ _).mp ky
    refine sg_look_275 _ _ _ ⟨wv, sp_one _ (fun r => ⟨wv, fun y5 e5 => ?_⟩)⟩
    have m5 := md_a y 124 w.toNatClampNeg (y.1 124 w.toNatClampNeg + r) (by decide)
    rw [← e5] at m5
    refine p292 6 y5 0 (by decide) (by rw [k0]; omega) (RBc ((hRB _ _).mpr ⟨q1, False, fun q => absurd q (fun q => q), fun t' o' _ _ h3 _ => by rw [k0] at h3; omega, FAm_c (fun f _ => ⟨Or.inl, fun q => q.elim id (fun q => absurd q.2 (fun q => q))⟩) q2⟩) (md_w m5 (by decide) (by decide)))
  have p262 : ∀ (y : gd) (v4 v5 : Int32), (¬ v4 = 0 ↔ fnM C wn Ma 9) → LF y (O + 1) 9 → MT G (D + 2) z_look 262 [(0, vr 0), (1, vi w), (2, vi s), (4, vi v4), (5, vi v5)] [] y (rv Fv) := fun y v4 v5 h9 ky => sg_look_262 _ _ _ _ ⟨fun z4 => p275 y v5 (LFm (n := 9) (by omega) (fun f h1 h2 q => h9.mpr (by rw [show f = 9 by omega] at q; exact q) z4) ky), fun n4 => fi y 9 (O + 1) 9 rfl (by omega) (h9.mp n4) ky _ (fun y' ky' => p275 y' v5 ky')⟩
  have up : ∀ {y : gd} {n : Nat}, LF y O n → LF y (O + 1) n := fun q => by
    obtain ⟨q, q2⟩ := (hLF _ _ _).mp q
    exact (hLF _ _ _).mpr ⟨⟨q.1, q.2.1, q.2.2.1, q.2.2.2.1, q.2.2.2.2.1, by have := q.2.2.2.2.2; omega⟩, q2⟩
  have f84 : ∀ {y : gd} {B : Int} {n : Nat}, LF y B n → (y.1 0 84 = 0 ↔ chM C wn Ma = []) := fun q => by
    have e84 : _ = a.1 0 84 := LFe q 0 84 (Or.inr (Or.inl ⟨rfl, rfl⟩))
    rw [e84, t_eq, k0, n84]
    constructor
    · intro q; exact List.eq_nil_of_length_eq_zero (by omega)
    · intro q; rw [q]; rfl
  have p228 : ∀ (y : gd) (v3 v4 v5 : Int32), (¬ v3 = 0 ↔ goM C Ma) → (¬ v4 = 0 ↔ fnM C wn Ma 9) → LF y O 8 → MT G (D + 2) z_look 228 [(0, vr 0), (1, vi w), (2, vi s), (3, vi v3), (4, vi v4), (5, vi v5)] [] y (rv Fv) := by
    intro y v3 v4 v5 h3 h9 ky
    refine sg_look_228 _ _ _ _ _ ⟨fun nz => p262 y v4 v5 h9 (LFm (n := 8) (by omega) (fun f h1 h2 q => nz ((f84 ky).mpr (by rw [show f = 8 by omega, fn_8] at q; exact q.1))) (up ky)), fun z84 => ⟨wv, wv, fun y4 e4 => ?_⟩⟩
    have ce := (f84 ky).mp z84
    obtain ⟨q1, q2⟩ := (hLF _ _ _).mp ky
    have m4 := md_a y 122 w.toNatClampNeg (y.1 122 w.toNatClampNeg + 1) (by decide)
    rw [← e4] at m4
    have k4' := LKI_c q1 (md_w m4 (by decide) (by decide))
    have b1 := k4'.2.2.2.2.1
    have b2 := k4'.2.2.2.2.2
    refine sp_addOutcome w wv (by rw [← eW]; exact b1) (by rw [← eW]; omega) (by rw [cF k4'.2.1 (by decide)]; exact g2) (fun y5 m5 o5 q0 q1 => ?_)
    rw [← eW] at o5 q0 q1
    have k5 : LF y5 (O + 1) 8 := by
      obtain ⟨q1', q2', q3', q4', q5', q6'⟩ := k4'
      refine (hLF _ _ _).mpr ⟨⟨mi_tr q1' (mi_of m5) rfl rfl, eqS_mi q2' (mi_of m5) rfl rfl (ssub_rf _), ow_tr q3' o5, ?_, q0, by omega⟩, FAm_f (by rw [m5.2.1 126 (by decide) (by decide), m4.2.1 126 (by decide) (by decide)]) q2⟩
      unfold fnd
      rw [m5.2.1 126 (by decide) (by decide)]
      exact q4'
    exact ⟨fun z3 => p262 y5 v4 v5 h9 (LFm (n := 8) (by omega) (fun f h1 h2 q => h3.mpr (by rw [show f = 8 by omega, fn_8] at q; exact q.2) z3) k5), fun n3 => fi y5 8 (O + 1) 8 rfl (by omega) (fn_8.mpr ⟨ce, h3.mp n3⟩) k5 _ (fun y' ky' => p262 y' v4 v5 h9 ky')⟩
  -- finals
  have no47 : ∀ {y : gd} {n : Nat}, (¬ (chM C wn Ma = [] ∧ ¬ goM C Ma)) → 4 ≤ n → n ≤ 8 → LF y O n → LF y O 8 := fun hno h4 h8 q => LFm h8 (fun f h1 h2 q => by
    obtain ⟨f', ef⟩ : ∃ f', f = 4 + f' := ⟨f - 4, by omega⟩
    rw [ef, fn_4 (by omega)] at q
    exact hno ⟨q.1, q.2.1⟩) q
  have p170 : ∀ (n k : Nat) (y : gd) (v3 v4 v5 i : Int32), (¬ v3 = 0 ↔ goM C Ma) → (¬ v4 = 0 ↔ fnM C wn Ma 9) → i.toInt = (k : Nat) → C.2.2.2.2.length - k ≤ n → k ≤ C.2.2.2.2.length → LF y O (4 + k) → MT G (D + 2) z_look 170 [(0, vr 0), (1, vi w), (2, vi s), (3, vi v3), (4, vi v4), (5, vi v5), (6, vi i)] [] y (rv Fv) := by
    intro n
    have fin : ∀ (k : Nat) (y : gd) (v3 v4 v5 : Int32), (¬ v3 = 0 ↔ goM C Ma) → (¬ v4 = 0 ↔ fnM C wn Ma 9) → k = C.2.2.2.2.length → LF y O (4 + k) → MT G (D + 2) z_look 228 [(0, vr 0), (1, vi w), (2, vi s), (3, vi v3), (4, vi v4), (5, vi v5)] [] y (rv Fv) := fun k y v3 v4 v5 h3 h9 ek ky => p228 y v3 v4 v5 h3 h9 (LFm (n := 4 + k) (by omega) (fun f h1 h2 q => by
      obtain ⟨f', ef⟩ : ∃ f', f = 4 + f' := ⟨f - 4, by omega⟩
      rw [ef, fn_4 (by omega)] at q
      obtain ⟨-, -, Q, hQ, -⟩ := q
      have := gt_lt hQ
      omega) ky)
    induction n with
    | zero =>
      intro k y v3 v4 v5 i h3 h9 ei hn hk ky
      exact sg_look_170 _ _ _ _ _ _ ⟨fun _ => fin k y v3 v4 v5 h3 h9 (by omega) ky, fun c => absurd (t_le.mpr (by rw [cF (LFe ky) (by decide)]; omega)) c⟩
    | succ n ih =>
      intro k y v3 v4 v5 i h3 h9 ei hn hk ky
      refine sg_look_170 _ _ _ _ _ _ ⟨fun c => fin k y v3 v4 v5 h3 h9 (by rw [t_le, cF (LFe ky) (by decide)] at c; omega) ky, fun c => ⟨fun nz => p228 y v3 v4 v5 h3 h9 (no47 (fun q => nz ((f84 ky).mpr q.1)) (by omega) (by omega) ky), fun z84 => ⟨fun n3 => p228 y v3 v4 v5 h3 h9 (no47 (fun q => q.2 (h3.mp n3)) (by omega) (by omega) ky), fun z3 => ?_⟩⟩⟩
      have ce := (f84 ky).mp z84
      have ng : ¬ goM C Ma := fun q => h3.mpr q z3
      rw [t_le, cF (LFe ky) (by decide)] at c
      have iv : vp_in i 4 := by rw [vp_in_iff]; omega
      have ii : (i + 1).toInt = ((k + 1 : Nat) : Int) := by rw [t_add (by omega) (by omega), k1, ei]; rfl
      have iK : i.toNatClampNeg = k := by rw [t_cl, ei]; rfl
      refine ⟨iv, ?_⟩
      rw [cA (LFe ky) (c := 66) (n := 4) (by decide) (vp_lt iv), iK]
      have hkl : k < C.2.2.2.2.length := by omega
      obtain ⟨Q, hQ⟩ : ∃ Q, C.2.2.2.2[k]? = some Q := ⟨_, List.getElem?_eq_getElem hkl⟩
      refine sp_claim hN hq2 (by omega) am (LFe ky) _ (Or.inr (List.mem_of_getElem? hQ)) (hK.2.2.2.2 k Q hQ) (by omega) (fun v y' m e' hb h01 => ?_)
      have ky' := LFmd ky m e'
      have fn : fnM C wn Ma (4 + k) ↔ badC Ma Q := by
        rw [fn_4 (by omega)]
        refine ⟨fun ⟨_, _, Q9, h9, b⟩ => ?_, fun b => ⟨ce, ng, Q, hQ, b⟩⟩
        rw [hQ] at h9
        rw [Option.some.inj h9]; exact b
      have p212 : badC Ma Q → MT G (D + 2) z_look 212 [(0, vr 0), (1, vi w), (2, vi s), (3, vi v3), (4, vi v4), (5, vi v5), (6, vi i)] [] y' (rv Fv) := fun b => sg_look_212 _ _ _ _ _ _ (fi y' (4 + i) O (4 + k) (by rw [t_add (by omega) (by omega), k4, ei]; push_cast; rfl) (by omega) (fn.mpr b) ky' _ (fun u ku => ih (k + 1) u _ _ _ _ h3 h9 ii (by omega) hkl ku))
      refine ⟨fun v0 => p212 (hb.mp (Or.inl v0)), fun vn => ⟨fun c82 => ih (k + 1) y' _ _ _ _ h3 h9 ii (by omega) hkl (LFm (n := 4 + k) (by omega) (fun f h1 h2 q => ?_) ky'), fun c82 => p212 (hb.mp (Or.inr (fun q => c82 (by rw [q, t_le]; exact Int.le_refl _))))⟩⟩
      rw [show f = 4 + k by omega] at q
      rcases hb.mpr (fn.mp q) with q | q
      · exact vn q
      · rcases h01 with e | e
        · exact q e
        · rw [e, t_le, k1, k0] at c82; omega
  -- always
  have p122 : ∀ (n k : Nat) (y : gd) (v3 v4 v5 i : Int32), (¬ v3 = 0 ↔ goM C Ma) → (¬ v4 = 0 ↔ fnM C wn Ma 9) → i.toInt = (k : Nat) → C.2.2.2.1.length - k ≤ n → k ≤ C.2.2.2.1.length → LF y O k → MT G (D + 2) z_look 122 [(0, vr 0), (1, vi w), (2, vi s), (3, vi v3), (4, vi v4), (5, vi v5), (6, vi i)] [] y (rv Fv) := by
    intro n
    have fin : ∀ (k : Nat) (y : gd) (v3 v4 v5 : Int32), (¬ v3 = 0 ↔ goM C Ma) → (¬ v4 = 0 ↔ fnM C wn Ma 9) → k = C.2.2.2.1.length → LF y O k → MT G (D + 2) z_look 170 [(0, vr 0), (1, vi w), (2, vi s), (3, vi v3), (4, vi v4), (5, vi v5), (6, vi 0)] [] y (rv Fv) := fun k y v3 v4 v5 h3 h9 ek ky => p170 _ 0 y v3 v4 v5 0 h3 h9 rfl (Nat.le_refl _) (Nat.zero_le _) (LFm (n := k) (by omega) (fun f h1 h2 q => by
      rw [fn_lt4 (by omega)] at q
      obtain ⟨Q, hQ, -⟩ := q
      have := gt_lt hQ
      omega) ky)
    induction n with
    | zero =>
      intro k y v3 v4 v5 i h3 h9 ei hn hk ky
      exact sg_look_122 _ _ _ _ _ _ ⟨fun _ => fin k y v3 v4 v5 h3 h9 (by omega) ky, fun c => absurd (t_le.mpr (by rw [cF (LFe ky) (by decide)]; omega)) c⟩
    | succ n ih =>
      intro k y v3 v4 v5 i h3 h9 ei hn hk ky
      refine sg_look_122 _ _ _ _ _ _ ⟨fun c => fin k y v3 v4 v5 h3 h9 (by rw [t_le, cF (LFe ky) (by decide)] at c; omega) ky, fun c => ?_⟩
      rw [t_le, cF (LFe ky) (by decide)] at c
      have iv : vp_in i 4 := by rw [vp_in_iff]; omega
      have ii : (i + 1).toInt = ((k + 1 : Nat) : Int) := by rw [t_add (by omega) (by omega), k1, ei]; rfl
      have iK : i.toNatClampNeg = k := by rw [t_cl, ei]; rfl
      refine ⟨iv, ?_⟩
      rw [cA (LFe ky) (c := 65) (n := 4) (by decide) (vp_lt iv), iK]
      have hkl : k < C.2.2.2.1.length := by omega
      obtain ⟨Q, hQ⟩ : ∃ Q, C.2.2.2.1[k]? = some Q := ⟨_, List.getElem?_eq_getElem hkl⟩
      refine sp_claim hN hq2 (by omega) am (LFe ky) _ (Or.inl (List.mem_of_getElem? hQ)) (hK.2.2.2.1 k Q hQ) (by omega) (fun v y' m e' hb h01 => ?_)
      have ky' := LFmd ky m e'
      have fn : fnM C wn Ma k ↔ badC Ma Q := by
        rw [fn_lt4 (by omega)]
        refine ⟨fun ⟨Q9, h9, b⟩ => ?_, fun b => ⟨Q, hQ, b⟩⟩
        rw [hQ] at h9
        rw [Option.some.inj h9]; exact b
      have p153 : badC Ma Q → MT G (D + 2) z_look 153 [(0, vr 0), (1, vi w), (2, vi s), (3, vi v3), (4, vi v4), (5, vi v5), (6, vi i)] [] y' (rv Fv) := fun b => sg_look_153 _ _ _ _ _ _ (fi y' i O k ei (by omega) (fn.mpr b) ky' _ (fun u ku => ih (k + 1) u _ _ _ _ h3 h9 ii (by omega) hkl ku))
      refine ⟨fun v0 => p153 (hb.mp (Or.inl v0)), fun vn => ⟨fun c82 => ih (k + 1) y' _ _ _ _ h3 h9 ii (by omega) hkl (LFm (n := k) (by omega) (fun f h1 h2 q => ?_) ky'), fun c82 => p153 (hb.mp (Or.inr (fun q => c82 (by rw [q, t_le]; exact Int.le_refl _))))⟩⟩
      rw [show f = k by omega] at q
      rcases hb.mpr (fn.mp q) with q | q
      · exact vn q
      · rcases h01 with e | e
        · exact q e
        · rw [e, t_le, k1, k0] at c82; omega
  -- going, failed, idle
  have p28 : ∀ (n k : Nat) (y : gd) (v3 v4 v5 i : Int32), i.toInt = (k : Nat) → C.2.1.length - k ≤ n → k ≤ C.2.1.length → (¬ v3 = 0 ↔ ∃ t, t < k ∧ (Ma.2.2 t).1 = 1) → (¬ v4 = 0 ↔ ∃ t, t < k ∧ (Ma.2.2 t).1 = 3) → LF y O 0 → MT G (D + 2) z_look 28 [(0, vr 0), (1, vi w), (2, vi s), (3, vi v3), (4, vi v4), (5, vi v5), (6, vi i)] [] y (rv Fv) := by
    intro n
    have fin : ∀ (k : Nat) (y : gd) (v3 v4 v5 : Int32), k = C.2.1.length → (¬ v3 = 0 ↔ ∃ t, t < k ∧ (Ma.2.2 t).1 = 1) → (¬ v4 = 0 ↔ ∃ t, t < k ∧ (Ma.2.2 t).1 = 3) → LF y O 0 → MT G (D + 2) z_look 122 [(0, vr 0), (1, vi w), (2, vi s), (3, vi v3), (4, vi v4), (5, vi v5), (6, vi 0)] [] y (rv Fv) := fun k y v3 v4 v5 ek h3 h4 ky => p122 _ 0 y v3 v4 v5 0 (by rw [h3, ek]; exact Iff.rfl) (by rw [h4, ek, fn_9]) rfl (Nat.le_refl _) (Nat.zero_le _) ky
    have st4 : ∀ k m : Nat, k < 4 → m < 4 → ((Int32.ofNat k = Int32.ofNat m) ↔ k = m) := fun k m hk hm => by
      have s : ∀ a, a < 4 → ∀ b, b < 4 → ((Int32.ofNat a = Int32.ofNat b) ↔ a = b) := by decide +kernel
      exact s k hk m hm
    induction n with
    | zero =>
      intro k y v3 v4 v5 i ei hn hk h3 h4 ky
      exact sg_look_28 _ _ _ _ _ _ ⟨fun _ => fin k y v3 v4 v5 (by clear h3 h4; omega) h3 h4 ky, fun c => absurd (t_le.mpr (by clear h3 h4; rw [f25 (LFe ky)]; omega)) c⟩
    | succ n ih =>
      intro k y v3 v4 v5 i ei hn hk h3 h4 ky
      refine sg_look_28 _ _ _ _ _ _ ⟨fun c => fin k y v3 v4 v5 (by clear h3 h4; rw [t_le, f25 (LFe ky)] at c; omega) h3 h4 ky, fun c => ?_⟩
      rw [t_le, f25 (LFe ky)] at c
      have hkl : k < C.2.1.length := by clear h3 h4; omega
      have k6 : k < 6 := by clear h3 h4; omega
      have iv : vp_in i 6 := by clear h3 h4; rw [vp_in_iff]; omega
      have ii : (i + 1).toInt = ((k + 1 : Nat) : Int) := by clear h3 h4; rw [t_add (by omega) (by omega), k1, ei]; rfl
      have iK : i.toNatClampNeg = k := by rw [t_cl, ei]; rfl
      have l3 : (Ma.2.2 k).1 ≤ 3 := (hM.2.2 k k6).2.1
      have y73 := f73 (LFe ky) k k6
      have mor : ∀ c : Nat, (∃ t, t < k + 1 ∧ (Ma.2.2 t).1 = c) ↔ ((∃ t, t < k ∧ (Ma.2.2 t).1 = c) ∨ (Ma.2.2 k).1 = c) := fun c => ⟨fun ⟨t, t1, t2⟩ => by
        by_cases e : t = k
        · rw [e] at t2; exact Or.inr t2
        · exact Or.inl ⟨t, by omega, t2⟩, fun q => q.elim (fun ⟨t, t1, t2⟩ => ⟨t, by omega, t2⟩) (fun q => ⟨k, by omega, q⟩)⟩
      have nx : ∀ (y : gd) (v3 v4 v5 : Int32), (¬ v3 = 0 ↔ ∃ t, t < k + 1 ∧ (Ma.2.2 t).1 = 1) → (¬ v4 = 0 ↔ ∃ t, t < k + 1 ∧ (Ma.2.2 t).1 = 3) → LF y O 0 → MT G (D + 2) z_look 28 [(0, vr 0), (1, vi w), (2, vi s), (3, vi v3), (4, vi v4), (5, vi v5), (6, vi (i + 1))] [] y (rv Fv) := fun y v3 v4 v5 a3 a4 ky => ih (k + 1) y v3 v4 v5 (i + 1) ii (by clear a3 a4 h3 h4 mor; omega) hkl a3 a4 ky
      have p79 : ∀ u v : Int32, (¬ u = 0 ↔ ∃ t, t < k + 1 ∧ (Ma.2.2 t).1 = 1) → (¬ v = 0 ↔ ∃ t, t < k + 1 ∧ (Ma.2.2 t).1 = 3) → MT G (D + 2) z_look 79 [(0, vr 0), (1, vi w), (2, vi s), (3, vi u), (5, vi v5), (6, vi i)] [vi v] y (rv Fv) := fun u v hu hv => sg_look_79 _ _ _ _ _ _ ⟨fun _ => nx _ _ _ _ hu hv ky, fun _ => ⟨iv, fun _ => nx _ _ _ _ hu hv ky, fun _ => sp_hasAct av (LFe ky) i iv (by clear h3 h4 hu hv mor; omega) (fun y' m e' => ⟨fun q => absurd rfl q, fun _ => nx _ _ _ _ hu hv (LFmd ky m e')⟩) (fun _ y' m e' => ⟨fun _ => nx _ _ _ _ hu hv (LFmd ky m e'), fun q => absurd q (by decide)⟩)⟩⟩
      have p57 : ∀ u : Int32, (¬ u = 0 ↔ ∃ t, t < k + 1 ∧ (Ma.2.2 t).1 = 1) → MT G (D + 2) z_look 57 [(0, vr 0), (1, vi w), (2, vi s), (4, vi v4), (5, vi v5), (6, vi i)] [vi u] y (rv Fv) := fun u hu => by
        refine sg_look_57 _ _ _ _ _ _ ⟨fun n4 => p79 _ _ hu ⟨fun _ => (mor 3).mpr (Or.inl (h4.mp n4)), fun _ => n1⟩, fun z4 => ⟨iv, ?_⟩⟩
        rw [iK, y73]
        refine ⟨fun nq => p79 _ _ hu ⟨fun q => absurd rfl q, fun q => ?_⟩, fun eq => p79 _ _ hu ⟨fun _ => (mor 3).mpr (Or.inr ((st4 _ 3 (by omega) (by decide)).mp eq)), fun _ => n1⟩⟩
        rcases (mor 3).mp q with q | q
        · exact absurd z4 (h4.mpr q)
        · exact absurd (by rw [q]; rfl) nq
      refine ⟨fun n3 => p57 _ ⟨fun _ => (mor 1).mpr (Or.inl (h3.mp n3)), fun _ => n1⟩, fun z3 => ⟨iv, ?_⟩⟩
      rw [iK, y73]
      refine ⟨fun nq => p57 _ ⟨fun q => absurd rfl q, fun q => ?_⟩, fun eq => p57 _ ⟨fun _ => (mor 1).mpr (Or.inr ((st4 _ 1 (by omega) (by decide)).mp eq)), fun _ => n1⟩⟩
      rcases (mor 1).mp q with q | q
      · exact absurd z3 (h3.mpr q)
      · exact absurd (by rw [q]; rfl) nq
  refine sg_look_0 _ _ (MT_up (by omega) (MTv_mono (fa G z e) (fun y q => ⟨wv, wv, fun y4 e4 => ?_⟩)))
  have m4 := md_a y 125 w.toNatClampNeg (y.1 125 w.toNatClampNeg + y.1 0 84) (by decide)
  rw [← e4] at m4
  have ky : LKI z a W M O y := by
    refine ⟨mi_w (mi_of q.2) (by decide) (by decide), q.1, ow_mi (mi_of q.2) rfl, ?_, by rw [q.2.2.1 123 (by decide) (by decide)]; omega, by rw [q.2.2.1 123 (by decide) (by decide)]; omega⟩
    unfold fnd
    rw [q.2.2.1 126 (by decide) (by decide)]
    exact hf
  refine p28 _ 0 y4 0 0 0 0 rfl (Nat.le_refl _) (Nat.zero_le _) ⟨fun q => absurd rfl q, fun ⟨t, t1, _⟩ => absurd t1 (Nat.not_lt_zero _)⟩ ⟨fun q => absurd rfl q, fun ⟨t, t1, _⟩ => absurd t1 (Nat.not_lt_zero _)⟩ ((hLF _ _ _).mpr ⟨LKI_c ky (md_w m4 (by decide) (by decide)), fun f _ => Or.inr ⟨fun q => absurd q.1.1 (Nat.not_lt_zero _), ?_⟩⟩)
  rw [m4.2.1 126 (by decide) (by decide), q.2.2.1 126 (by decide) (by decide)]
end LO3
end
section
/-! what else a compiled program is like -/
section PCD
variable {x : gd} {C : gCo} {nl : Nat}
theorem so_of (hK : CK x C) (hN : NC C) {s : Nat} {st : gNs} (hs : C.1[s]? = some st) : (s : Int) < ssm x ∧ sop x s = (st.1 : Nat) := by
  have n22 := (hN.1 s st hs).1.1
  obtain ⟨k81, -⟩ := hK.1.2 s st hs
  refine ⟨?_, ?_⟩
  · have := gt_lt hs
    have e : (x.1 80 9).toInt = C.1.length := hK.1.1
    show (s : Int) < (x.1 80 9).toInt
    omega
  · show (x.1 81 s).toInt = _
    rw [k81]
    exact Int32.toInt_ofNat_of_lt (by omega)
/-- locks that there are -/
theorem LkN_of (hC : CO x) (hK : CK x C) (hN : NC C) (en : (x.1 60 9).toInt = (nl : Nat)) : LkN C nl := by
  intro s st hs h5 h8
  obtain ⟨l, so⟩ := so_of hK hN hs
  obtain ⟨k81, -, -, -, k85, -⟩ := hK.1.2 s st hs
  have a := (hC.2.2.2.1 s l).1.2.1 (by omega) (by omega)
  rw [k85 (by omega)] at a
  rw [t_cl]
  omega
theorem NXc_of (hC : CO x) (hK : CK x C) (hN : NC C) (h2 : NX2 C) : NXc C := by
  intro s st hs
  obtain ⟨a1, a2, a3, a4, a5⟩ := h2 s st hs
  refine ⟨a1, a2, a3, a4, a5, fun h4 => ?_⟩
  obtain ⟨l, so⟩ := so_of hK hN hs
  obtain ⟨k81, -, -, -, k85, k86, -⟩ := hK.1.2 s st hs
  have nC : (x.1 60 6).toInt = C.2.2.1.length := hK.2.2.1.1
  have b := (hC.2.2.2.1 s l).1.1 (by omega)
  rw [k85 (by omega)] at b
  refine ⟨by omega, by omega, fun hx => ?_⟩
  rw [k86 h4 hx] at b
  omega
end PCD
end
section
/-! the code: jumps, starts, cells -/
theorem JUf_of {x : gd} {C : gCo} (hC : CO x) (hK : CK x C) (hN : NC C) : JUf C := by
  have nC : (x.1 60 6).toInt = C.2.2.1.length := hK.2.2.1.1
  have nT : (x.1 60 10).toInt = C.2.1.length := hK.2.1.1
  have c6 := hC.1.1
  refine ⟨fun s st hs h20 => ?_, fun s st hs h9 => ?_, by omega⟩
  · obtain ⟨l, so⟩ := so_of hK hN hs
    obtain ⟨-, -, k84, -⟩ := hK.1.2 s st hs
    obtain ⟨n, st', g1, g2, -⟩ := (hN.1 s st hs).2.2.1 (Or.inr h20)
    have k84 := k84 (by omega)
    rw [g1] at k84
    have k84 : (x.1 84 s).toInt = (n : Nat) := k84
    obtain ⟨b1, b2, b3⟩ := (hC.2.2.2.1 s l).2.2.2.2.1 (Or.inr (by omega))
    refine ⟨n, g1, ?_⟩
    have e : stg x s = (n : Nat) := k84
    rcases b3 (by omega) with b | b
    · exact Or.inl (by omega)
    · refine Or.inr ⟨st', g2, ?_⟩
      rw [e] at b
      obtain ⟨l', so'⟩ := so_of hK hN g2
      have b : sop x n = 17 := b
      omega
  · obtain ⟨l, so⟩ := so_of hK hN hs
    obtain ⟨-, -, -, -, k85, -⟩ := hK.1.2 s st hs
    have b := (hC.2.2.2.1 s l).1.2.2 (by omega) (by omega)
    rw [k85 (by omega)] at b
    rw [t_cl]
    omega
end
section
/-! the model: a state's next, before and behind the finding of its choices -/
theorem st_exM {C : gCo} {w i : Nat} {M : gMa} {a : gd} {ch : gCh} (gc : GC C) (w01 : w = 0 ∨ w = 1) (h : AM C w M a) (hch : (chM C w M)[i]? = some ch) : ∃ b a', RI b (Sl b) ∧ wy01 b ∧ MM1 b C (doM C w M ch) ∧ Tr a i b ∧ AM C w (doM C w M ch) a' ∧ fcA b a' ∧ md [84] [86, 87, 88] b a' := by
  obtain ⟨hN, hX, l6, -⟩ := gc
  obtain ⟨⟨ri, wy, chv, c0, c84, fa⟩, hK, hM, hI, w68, hE⟩ := h
  have hi : (i : Int) < (a.1 0 84).toInt := by have := gt_lt hch; rw [hE.1]; omega
  obtain ⟨_, _, _, ⟨t0, t6⟩, co⟩ := chv i hi
  have tv : vp_in (a.1 86 i) 6 := by rw [vp_in_iff]; exact ⟨t0, t6⟩
  obtain ⟨e86, e87, e88⟩ := hE.2 i ch hch
  have cm := List.mem_of_getElem? hch
  obtain ⟨i1, i2, i3⟩ := ch_in cm
  have hI' := MIv_do hX l6 hI cm
  have ct : (a.1 86 i).toNatClampNeg = ch.1 := by
    rw [e86, t_cl, Int32.toInt_ofNat_of_lt (by omega)]; rfl
  have st : ∃ b, RI b (Sl b) ∧ wy01 b ∧ MK b C ∧ MM1 b C (doM C w M ch) ∧ b.1 0 68 = Int32.ofNat w ∧ Tr a i b := by
    by_cases c : a.1 87 i = -1
    · have g := co.resolve_right (fun z => by rw [c] at z; exact absurd z.1 (by decide))
      have cn : ch.2.1 = none := by
        cases h9 : ch.2.1 with
        | none => rfl
        | some j =>
          have j8 : j < 9 := by
            have := i3 j h9
            have q := (ri.2 ch.1 (by omega)).2.2.2.1
            have := (hM.2.2 ch.1 (by omega)).2.2.2.2.2.2.2.2.1.1
            omega
          rw [h9] at e87
          rw [e87] at c
          have c : Int32.ofNat j = -1 := c
          have : ∀ n, n < 9 → ¬ Int32.ofNat n = -1 := by decide +kernel
          exact absurd c (this j j8)
      have dE : doM C w M ch = acM C w M ch.1 ch.2.2 := by unfold doM; rw [cn]
      obtain ⟨o, b, S', ⟨eo, rb, ss, as', ap, mb⟩, m, q⟩ := ds_doAct3 (d := 0) (wk := ch.2.2) (Fv := fun y S1 => RI y S1 ∧ ssub (Sl a) S1 ∧ acS S1 ∧ acP (srt a (a.1 86 i).toNatClampNeg) y ∧ MM1 y C (acM C w M (a.1 86 i).toNatClampNeg ch.2.2)) (a.1 86 i) (a.1 88 i) tv ri g.2.1 g.2.2 hK hN hX hM (WMw_WM hI.1) w68 w01 (by
        cases h9 : ch.2.2 with
        | none => rw [h9] at e88; exact Or.inl ⟨rfl, e88⟩
        | some k =>
          rw [h9] at e88
          have k6 := (i2 cn).2.2 k h9
          unfold waM at k6
          have := List.mem_range.mp (List.mem_filter.mp k6).1
          exact Or.inr ⟨k, rfl, by omega, e88⟩) (fun y S1 h1 h2 h3 h4 _ h5 => ⟨h1, h2, h3, h4, h5⟩)
      rw [ct] at mb
      refine ⟨b, RI_Sl rb, by unfold wy01; rw [m.1 68 (by decide)]; exact wy, MK_md m rfl rfl hK, by rw [dE]; exact mb, by rw [m.1 68 (by decide)]; exact w68, fun _ G z e => MT_mono (q G z e) (fun o2 z' w => ?_), fun n => absurd c n⟩
      rw [w.1, eo]
      refine rv_i ⟨eqS_w (Sl_in rb) w.2.1, w.2.2, ?_⟩
      unfold acP
      rw [w.2.1 0 88 (Or.inr as'.1), w.2.1 0 89 (Or.inr as'.2.1)]
      exact ap
    · have g := co.resolve_left (fun z => c z.1)
      obtain ⟨j, hj⟩ : ∃ j, ch.2.1 = some j := by
        cases h9 : ch.2.1 with
        | none => rw [h9] at e87; exact absurd e87 c
        | some j => exact ⟨j, rfl⟩
      rw [hj] at e87
      have e87 : a.1 87 i = Int32.ofNat j := e87
      have dE : doM C w M ch = laM M ch.1 j := by unfold doM; rw [hj]
      have j8 : j < 9 := by
        have := i3 j hj
        have q := (ri.2 ch.1 (by omega)).2.2.2.1
        have := (hM.2.2 ch.1 (by omega)).2.2.2.2.2.2.2.2.1.1
        omega
      have ej : (a.1 87 i).toInt.toNat = j := by rw [e87, Int32.toInt_ofNat_of_lt (by omega)]; rfl
      obtain ⟨o, b, S', ⟨eo, rb, ss, mb, mm⟩, m, q⟩ := ds_doLate3 (d := 4) (C := C) (M := M) (Fv := fun y S1 => RI y S1 ∧ ssub (Sl a) S1 ∧ md [] [70, 80, 81, 82] a y ∧ MM1 y C (laM M (a.1 86 i).toNatClampNeg (a.1 87 i).toInt.toNat)) (a.1 86 i) (a.1 87 i) tv ri g.1 g.2 hM (fun y S1 h1 h2 h3 h4 => ⟨h1, h2, h3, h4⟩)
      rw [ct, ej] at mm
      refine ⟨b, RI_Sl rb, by unfold wy01; rw [m.1 68 (by decide)]; exact wy, MK_md m rfl rfl hK, by rw [dE]; exact mm, by rw [m.1 68 (by decide)]; exact w68, fun n => absurd n c, fun _ G z e => MT_mono (q G z e) (fun o2 z' w => ?_)⟩
      rw [w.1, eo]
      exact rv_i ⟨eqS_w (Sl_in rb) w.2.1, w.2.2⟩
  obtain ⟨b, h1, h2, hKb, hMb, wb, h3⟩ := st
  obtain ⟨a', g1, g2, g3, g4⟩ := fc_exM h1 h2 hKb hN hX hMb wb w01 (fun z t ht => (hI'.1 t ht).2.2.2 z)
  exact ⟨b, a', h1, h2, hMb, h3, ⟨g1, MK_md g3 rfl rfl hKb, MM1_md g3 rfl hMb, hI', by rw [g3.1 68 (by decide)]; exact wb, g4⟩, g2, g3⟩
end
section
/-! the model: a row is kept just where the state is -/
section MKP
variable {y b : gd} {A : Nat → gd} {C : gCo} {M : gMa} {T : gTy} {nl s : Nat}
theorem row_kept (hN : NC C) (l24 : C.2.2.1.length ≤ 24) (l6 : C.2.1.length ≤ 6) (n6 : nl ≤ 6) (hA : ∀ s p, T.1[s]? = some p → MM1 (A s) C p.1 ∧ MCn C nl p.1 ∧ NBm p.1) (hrow : ∀ s, s < T.1.length → ∀ i, i < 222 → y.1 133 (240 * s + i) = pv (A s) i) (hb : MM1 b C M) (mc : MCn C nl M) (nb : NBm M) (l8 : ∀ t, t < 6 → (b.1 80 t).toInt ≤ 8) (hs : s < T.1.length) : (∀ i, i < 222 → y.1 133 (240 * s + i) = pv b i) ↔ ∃ p, T.1[s]? = some p ∧ p.1 = M := by
  have hg := List.getElem?_eq_getElem hs
  obtain ⟨a1, a2, a3⟩ := hA s _ hg
  constructor
  · intro h
    exact ⟨_, hg, (rows_one hN l24 l6 n6 hb a1 mc a2 nb a3 l8 (fun i hi => by rw [← h i hi, hrow s hs i hi])).symm⟩
  · rintro ⟨p, h1, h2⟩ i hi
    rw [hrow s hs i hi]
    rw [hg] at h1
    have e := Option.some.inj h1
    rw [e, h2] at a1
    exact rows_same a1 hb i hi
/-- sought and not found: it is new; found: it is not -/
theorem kept_new (h : ∀ s, s < T.1.length → ((∀ i, i < 222 → y.1 133 (240 * s + i) = pv b i) ↔ ∃ p, T.1[s]? = some p ∧ p.1 = M)) (hn : ∀ s, s < T.1.length → ¬ ∀ i, i < 222 → y.1 133 (240 * s + i) = pv b i) : ¬ ∃ q ∈ T.1, q.1 = M := by
  rintro ⟨q, q1, q2⟩
  obtain ⟨s, hs⟩ := List.mem_iff_getElem?.mp q1
  exact hn s (gt_lt hs) ((h s (gt_lt hs)).mpr ⟨q, hs, q2⟩)
theorem kept_old (h : ∀ s, s < T.1.length → ((∀ i, i < 222 → y.1 133 (240 * s + i) = pv b i) ↔ ∃ p, T.1[s]? = some p ∧ p.1 = M)) (hs : s < T.1.length) (hr : ∀ i, i < 222 → y.1 133 (240 * s + i) = pv b i) : ∃ q ∈ T.1, q.1 = M := by
  obtain ⟨p, h1, h2⟩ := (h s hs).mp hr
  exact ⟨p, List.mem_of_getElem? h1, h2⟩
end MKP
end
