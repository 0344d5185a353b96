/-! the class: a state is looked at, what it shows is noted -/
/-- findings of D are noted with state s, where none was -/
def FAs (x0 x : gd) (o : Nat) (s : Int32) (D : Nat → Prop) : Prop := ∀ f, f < 11 → (D f ∧ x0.1 (o + 7) f = -1 ∧ x.1 (o + 7) f = s) ∨ (¬ (D f ∧ x0.1 (o + 7) f = -1) ∧ x.1 (o + 7) f = x0.1 (o + 7) f)
def fD (C : gCo) (w : Nat) (M : gMa) (n f : Nat) : Prop := f < n ∧ fnM C w M f
section KLO
variable {G : kG} {q q1 : kP} {d : Nat} {x x0 y z : gd} {o : Nat} {F : Int32 → gd → Prop} {Fv : gd → Prop} {Fm : gd → kP → Prop} {X : String → gd → kP → Prop} {C : gCo} {M : gMa} {T w n m : Nat} {s : Int32} {D D' : Nat → Prop}
theorem FAs_f (e : ∀ f, y.1 (o + 7) f = x.1 (o + 7) f) (h : FAs x0 x o s D) : FAs x0 y o s D := fun f hf => by
  rw [e f]; exact h f hf
theorem FAs_c (e : ∀ f, f < 11 → (D f ↔ D' f)) (h : FAs x0 x o s D) : FAs x0 x o s D' := fun f hf => by
  rw [← e f hf]; exact h f hf
theorem FAs_more (hm : n ≤ m) (hn : ∀ f, n ≤ f → f < m → ¬ fnM C w M f) (h : FAs x0 x o s (fD C w M n)) : FAs x0 x o s (fD C w M m) := FAs_c (fun f _ => ⟨fun z => ⟨by have := z.1; omega, z.2⟩, fun z => ⟨by
  apply Classical.byContradiction
  intro c
  exact hn f (by omega) z.1 z.2, z.2⟩⟩) h
theorem FAs_find (hs : 0 ≤ s.toInt) (hf : fnM C w M n) (e : ∀ k, ¬ k = n → y.1 (o + 7) k = x.1 (o + 7) k) (e1 : x.1 (o + 7) n = -1 → y.1 (o + 7) n = s) (e2 : ¬ x.1 (o + 7) n = -1 → y.1 (o + 7) n = x.1 (o + 7) n) (h : FAs x0 x o s (fD C w M n)) : FAs x0 y o s (fD C w M (n + 1)) := by
  intro f hf9
  by_cases c : f = n
  · rw [c]
    have hD : fD C w M (n + 1) n := ⟨by omega, hf⟩
    have nD : ¬ fD C w M n n := fun z => by have := z.1; omega
    rcases h n (by omega) with ⟨a, -⟩ | ⟨-, a⟩
    · exact absurd a nD
    · by_cases c9 : x0.1 (o + 7) n = -1
      · exact Or.inl ⟨hD, c9, e1 (by rw [a]; exact c9)⟩
      · exact Or.inr ⟨fun z => c9 z.2, by rw [e2 (by rw [a]; exact c9)]; exact a⟩
  · have hD : fD C w M (n + 1) f ↔ fD C w M n f := ⟨fun z => ⟨by have := z.1; omega, z.2⟩, fun z => ⟨by have := z.1; omega, z.2⟩⟩
    rw [hD, e f c]; exact h f hf9
theorem kt_find3 (hq : kV q) (ho : kiT q o) (f s : Int32) {Fn : Nat} (ef : f.toInt = Fn) (hF : Fn < 11) (hz : TZ x o) (hs : 0 ≤ s.toInt ∧ s.toInt < (x.1 o 0).toInt) (h : ∀ y, fm (fun c k => c = o + 7) x y → TZ y o → (∀ k, ¬ k = Fn → y.1 (o + 7) k = x.1 (o + 7) k) → (x.1 (o + 7) Fn = -1 → y.1 (o + 7) Fn = s) → (¬ x.1 (o + 7) Fn = -1 → y.1 (o + 7) Fn = x.1 (o + 7) Fn) → Fv y) : KT G q d zk_X10_find 0 [(0, vr o), (1, vi f), (2, vi s)] [] x (rv Fv) := by
  have vf : vp_in f 11 := by rw [vp_in_iff]; omega
  have eF : f.toNatClampNeg = Fn := by rw [t_cl, ef]; rfl
  refine kg_X10_find_0 hq ho _ _ ⟨vf, fun c => rv_i (h x (fm_rf _ _) hz (fun _ _ => rfl) (fun c2 => absurd (by rw [eF]; exact c2) c) (fun _ => rfl)), fun c => ⟨vf, fun z ez => rv_i (h z ?_ ?_ (fun k hk => ?_) (fun _ => ?_) (fun c2 => absurd (by rw [eF] at c; exact c) c2))⟩⟩
  · rw [ez]; exact fm_si (fm_rf _ _) rfl
  · rw [eF] at ez
    obtain ⟨b, hf, hs2⟩ := hz
    have g : ∀ c k, ¬ c = o + 7 → z.1 c k = x.1 c k := fun c k hc => by rw [ez, si_cell hc]
    unfold TZ
    rw [g o 0 (by omega)]
    refine ⟨b, fun k hk => ?_, fun k hk => ?_⟩
    · by_cases h9 : k = Fn
      · have : z.1 (o + 7) k = s := by rw [ez, h9, si_get, if_pos ⟨rfl, rfl⟩]
        rw [this]; exact Or.inr hs
      · have : z.1 (o + 7) k = x.1 (o + 7) k := by rw [ez, si_get, if_neg (fun q => h9 q.2)]
        rw [this]; exact hf k hk
    · rw [g (o + 12) k (by omega), g (o + 10) k (by omega), g (o + 12) _ (by omega)]; exact hs2 k hk
  · rw [ez, si_get, if_neg (fun q => hk (by rw [← eF]; exact q.2))]
  · rw [ez, si_get, if_pos ⟨rfl, eF.symm⟩]
theorem fn_lt4 (h : n < 4) : fnM C w M n ↔ ∃ Q, C.2.2.2.1[n]? = some Q ∧ badC M Q := by
  unfold fnM
  constructor
  · rintro (z | z | z | z | z)
    · exact z.2
    all_goals (exfalso; have := z.1; omega)
  · intro z; exact Or.inl ⟨h, z⟩
theorem fn_4 (h : n < 4) : fnM C w M (4 + n) ↔ (chM C w M = [] ∧ ¬ goM C M ∧ ∃ Q, C.2.2.2.2[n]? = some Q ∧ badC M Q) := by
  unfold fnM
  rw [show 4 + n - 4 = n by omega]
  constructor
  · rintro (z | z | z | z | z)
    · exfalso; have := z.1; omega
    · exact z.2.2
    all_goals (exfalso; have := z.1; omega)
  · intro z; exact Or.inr (Or.inl ⟨by omega, by omega, z⟩)
theorem fn_8 : fnM C w M 8 ↔ (chM C w M = [] ∧ goM C M) := by
  unfold fnM
  constructor
  · rintro (z | z | z | z | z)
    · exfalso; have := z.1; omega
    · exfalso; have := z.2.1; omega
    · exact z.2
    all_goals (exfalso; have := z.1; omega)
  · intro z; exact Or.inr (Or.inr (Or.inl ⟨rfl, z⟩))
theorem fn_9 : fnM C w M 9 ↔ ∃ t, t < C.2.1.length ∧ (M.2.2 t).1 = 3 := by
  unfold fnM
  constructor
  · rintro (z | z | z | z | z)
    · exfalso; have := z.1; omega
    · exfalso; have := z.2.1; omega
    · exfalso; have := z.1; omega
    · exact z.2
    · exfalso; have := z.1; omega
  · intro z; exact Or.inr (Or.inr (Or.inr (Or.inl ⟨rfl, z⟩)))
theorem fn_10 : fnM C w M 10 ↔ rcM C w M := by
  unfold fnM
  constructor
  · rintro (z | z | z | z | z)
    · exfalso; have := z.1; omega
    · exfalso; have := z.2.1; omega
    · exfalso; have := z.1; omega
    · exfalso; have := z.1; omega
    · exact z.2
  · intro z; exact Or.inr (Or.inr (Or.inr (Or.inr ⟨rfl, z⟩)))
/-- looking at a state keeps the machine -/
theorem KM_Vi (hO : o = 260 ∨ o = 280) (hM : MM x0 220) (hK : CK x0 C) (f : fm (sVi o) x0 x) (g : KMm x0 220 C M) : CK x C ∧ KMm x 220 C M :=
  ⟨CK_f hK (fun c k hc => f c k (by unfold sVi; omega)), KMm_in hM hK (gm_ag (fun c k hc => f c k (by unfold sVi; omega)) (fun k h1 h2 => f _ _ (by unfold sVi; omega))) (fun k _ => f _ _ (by unfold sVi; omega)) g⟩
theorem kh_inspectEnd (hu : kU q) (he : q.ex = true) (ho : kiT q o) (ht : q.et = some o) (hM0 : MM x0 220) (hK0 : CK x0 C) (hN : NC C) (hq2 : NCq C) (g0 : KMm x0 220 C M) (hV : VI x0 x q o) (s : Int32) (hs : 0 ≤ s.toInt ∧ s.toInt < (x.1 o 0).toInt) (he0 : chM C w M = []) (hFA : FAs x0 x o s (fD C w M 4)) (h : ∀ y q1, kU q1 → kle q q1 → q1.et = q.et → VI x0 y q1 o → FAs x0 y o s (fD C w M 9) → Fm y q1) : KM G q (d + 4) zk_X2_inspectEnd 0 [(0, vr 200), (1, vi s)] [] x (rm q Fm) X := by
  have hO := iT_O ho
  have k1 : (1 : Int32).toInt = 1 := rfl
  have cl : 0 ≤ (x.1 60 6).toInt ∧ (x.1 60 6).toInt ≤ 24 := hV.2.1.1.1.1
  have cf : 0 ≤ (x.1 60 16).toInt ∧ (x.1 60 16).toInt ≤ 4 := hV.2.1.1.1.2.2.2.2.2
  obtain ⟨hKx, gx⟩ := KM_Vi hO hM0 hK0 hV.1 g0
  have nF : (x.1 60 16).toInt = C.2.2.2.2.length := hKx.2.2.2.2.1
  refine kg_X2_inspectEnd_0 hu he s (fun u1 e1 => ⟨o, by rw [e1, et_r ht], ho, fun x4 e4 u5 e5 => ⟨o, by rw [e5, et_r ht], ho, ?_⟩⟩)
  have f4 : fm (fun c k => (c = o ∧ (k = 2 ∨ k = 5)) ∨ (c = 60 ∧ k = 5) ∨ c = 65) x x4 := by rw [e4]; exact fm_si (fm_rf _ _) (by omega)
  have hV4 := VI_st hO hV f4
  rw [f4 60 6 (by omega)]
  refine kt_addOutcome hu ho kk_225 (kl_225 hu.1 he) (by omega) _ hV4.2.2.2 cl (fun x8 q9 hu9 hl9 et9 f8 ht8 => ?_)
  have hV8 := VI_ou hO hV4 f8 ht8
  have ho9 := kle_T hl9 ho
  have he9 := hl9.2.1.2.1 he
  have ht9 : q9.et = some o := by rw [et9]; exact ht
  have e80 : x8.1 o 0 = x.1 o 0 := by rw [f8 o 0 (by unfold sOu; omega), f4 o 0 (by omega)]
  have e86 : x8.1 60 16 = x.1 60 16 := by rw [f8 60 16 (by unfold sOu; omega), f4 60 16 (by omega)]
  have FA8 : FAs x0 x8 o s (fD C w M 4) := FAs_f (fun f => by rw [f8 _ _ (by unfold sOu; omega), f4 _ _ (by omega)]) hFA
  have loop : ¬ goM C M → ∀ (m k : Nat) (i : Int32) (w9 : gd), i.toInt = k → (x.1 60 16).toInt - k ≤ m → (k : Int) ≤ (x.1 60 16).toInt → VI x0 w9 q9 o → w9.1 o 0 = x.1 o 0 → w9.1 60 16 = x.1 60 16 → FAs x0 w9 o s (fD C w M (4 + k)) → KM G q9 (d + 4) zk_X2_inspectEnd 57 [(0, vr 200), (1, vi s), (2, vi i)] [] w9 (rm q Fm) X := by
    intro ngo m
    have fin : ∀ (k : Nat) (i : Int32) (w9 : gd), i.toInt = k → (k : Int) ≤ (x.1 60 16).toInt → VI x0 w9 q9 o → w9.1 60 16 = x.1 60 16 → FAs x0 w9 o s (fD C w M (4 + k)) → w9.1 60 16 ≤ i → rm q Fm none w9 q9 := by
      intro k i w9 ei hk hw ew2 hfa c
      rw [t_le, ew2] at c
      have kk : k = C.2.2.2.2.length := by omega
      refine rm_i hu9 hl9 (h w9 q9 hu9 hl9 et9 hw (FAs_more (n := 4 + k) (by omega) (fun f h1 h2 z => ?_) hfa))
      by_cases c8 : f = 8
      · rw [c8, fn_8] at z; exact ngo z.2
      · obtain ⟨f', ef⟩ : ∃ f', f = 4 + f' := ⟨f - 4, by omega⟩
        rw [ef, fn_4 (by omega)] at z
        obtain ⟨-, -, Q, hQ, -⟩ := z
        have := gt_lt hQ
        omega
    induction m with
    | zero =>
      intro k i w9 ei hm hk hw ew ew2 hfa
      refine kg_X2_inspectEnd_57 hu9 he9 s i ⟨fun c => fin k i w9 ei hk hw ew2 hfa c, fun c => ?_⟩
      rw [t_le, ew2] at c; omega
    | succ m ih =>
      intro k i w9 ei hm hk hw ew ew2 hfa
      refine kg_X2_inspectEnd_57 hu9 he9 s i ⟨fun c => fin k i w9 ei hk hw ew2 hfa c, fun c => ⟨?_, ?_⟩⟩
      · rw [t_le, ew2] at c; rw [vp_in_iff]; omega
      rw [t_le, ew2] at c
      have e1 : (i + 1).toInt = ((k + 1 : Nat) : Int) := by rw [t_add (by rw [k1]; omega) (by rw [k1]; omega), k1, ei]; rfl
      have e4 : (4 + i).toInt = ((4 + k : Nat) : Int) := by
        have k4 : (4 : Int32).toInt = 4 := rfl
        rw [t_add (by rw [k4]; omega) (by rw [k4]; omega), k4, ei]; push_cast; rfl
      have hkl : k < C.2.2.2.2.length := by omega
      obtain ⟨Q, hQ⟩ : ∃ Q, C.2.2.2.2[k]? = some Q := ⟨_, List.getElem?_eq_getElem hkl⟩
      obtain ⟨hKw, gw⟩ := KM_Vi hO hM0 hK0 hw.1 g0
      have iK : i.toNatClampNeg = k := by rw [t_cl, ei]; rfl
      rw [iK]
      refine kh_isFalse hu9.1 he9 hw.2.1 hKw hN hq2 gw _ (hKw.2.2.2.2.2 k Q hQ) (Or.inr (List.mem_of_getElem? hQ)) (fun r v gr fv hr => ?_)
      have fv2 : fm (fun c k => (c = o ∧ (k = 2 ∨ k = 5)) ∨ (c = 60 ∧ k = 5) ∨ c = 65) w9 v := fm_w fv (fun c k q => by unfold sWk at q; omega)
      have hv := VI_st hO hw fv2
      have ev : v.1 o 0 = x.1 o 0 := by rw [fv2 o 0 (by omega), ew]
      have ev2 : v.1 60 16 = x.1 60 16 := by rw [fv2 60 16 (by omega), ew2]
      have hfv : FAs x0 v o s (fD C w M (4 + k)) := FAs_f (fun f => fv2 _ _ (by omega)) hfa
      have fn : fnM C w M (4 + k) ↔ badC M Q := by
        rw [fn_4 (by omega)]
        refine ⟨fun ⟨_, _, Q9, h9, b⟩ => ?_, fun b => ⟨he0, ngo, Q, hQ, b⟩⟩
        rw [hQ] at h9
        rw [Option.some.inj h9]; exact b
      refine ⟨fun r0 => ih (k + 1) _ v e1 (by push_cast; omega) (by push_cast; omega) hv ev ev2 (FAs_more (n := 4 + k) (by omega) (fun f h1 h2 z => ?_) hfv), fun rn u6 e6 => ⟨o, by rw [e6, et_r ht9], ho9, kt_find3 hu9.1 ho9 _ _ e4 (by omega) hv.2.2.1 (by rw [ev]; exact hs) (fun t ft hzt t1 t2 t3 => ?_)⟩⟩
      · have : f = 4 + k := by omega
        rw [this] at z
        exact hr.mpr (fn.mp z) r0
      · exact ih (k + 1) _ t e1 (by push_cast; omega) (by push_cast; omega) (VI_fi hO hv ft hzt) (by rw [ft o 0 (by omega), ev]) (by rw [ft 60 16 (by omega), ev2]) (FAs_find hs.1 (fn.mpr (hr.mp rn)) t1 t2 t3 hfv)
  obtain ⟨hK8, g8⟩ := KM_Vi hO hM0 hK0 hV8.1 g0
  refine kh_anyGoing hu9.1 (Or.inr ⟨rfl, he9⟩) hV8.2.1 hK8 g8 (fun r hr => ⟨fun r0 => loop (fun z => hr.mpr z r0) 4 0 _ x8 rfl (by omega) (by omega) hV8 e80 e86 FA8, fun rn u13 e13 => ⟨o, by rw [e13, et_r ht9], ho9, kt_find3 hu9.1 ho9 _ _ (Fn := 8) rfl (by omega) hV8.2.2.1 (by rw [e80]; exact hs) (fun t ft hzt t1 t2 t3 => rm_i hu9 hl9 (h t q9 hu9 hl9 et9 (VI_fi hO hV8 ft hzt) (FAs_find hs.1 (fn_8.mpr ⟨he0, hr.mp rn⟩) t1 t2 t3 (FAs_more (n := 4) (by omega) (fun f h1 h2 z => ?_) FA8))))⟩⟩)
  obtain ⟨f', ef⟩ : ∃ f', f = 4 + f' := ⟨f - 4, by omega⟩
  rw [ef, fn_4 (by omega)] at z
  exact z.2.1 (hr.mp rn)
theorem kh_inspect (hu : kU q) (he : q.ex = true) (ho : kiT q o) (ht : q.et = some o) (hM : MM x 220) (hK : CK x C) (hN : NC C) (hq2 : NCq C) (g : KMm x 220 C M) (hc : (x.1 220 13).toInt = ((chM C w M).length : Nat)) (hac : ∀ t, t < C.2.1.length → ACx x C w M t) (hz : TZ x o) (hT : TO x q o) (s : Int32) (hs : 0 ≤ s.toInt ∧ s.toInt < (x.1 o 0).toInt) (h : ∀ y q1, kU q1 → kle q q1 → q1.et = q.et → VI x y q1 o → FAs x y o s (fD C w M 11) → Fm y q1) : KM G q (d + 5) zk_X2_inspect 0 [(0, vr 200), (1, vi s)] [] x (rm q Fm) X := by
  have hO := iT_O ho
  have k1 : (1 : Int32).toInt = 1 := rfl
  have k0 : (0 : Int32).toInt = 0 := rfl
  have hV : VI x x q o := ⟨fm_rf _ _, hM, hz, hT⟩
  have ca : 0 ≤ (x.1 60 14).toInt ∧ (x.1 60 14).toInt ≤ 4 := hM.1.1.2.2.2.2.1
  have nA : (x.1 60 14).toInt = C.2.2.2.1.length := hK.2.2.2.1.1
  have p98 : ∀ (q9 : kP) (w9 : gd), kU q9 → kle q q9 → q9.et = q.et → VI x w9 q9 o → FAs x w9 o s (fD C w M 10) → KM G q9 (d + 5) zk_X2_inspect 98 [(0, vr 200), (1, vi s)] [] w9 (rm q Fm) X := by
    intro q9 w9 hu9 hl9 et9 hw hfa
    have ho9 := kle_T hl9 ho
    have he9 := hl9.2.1.2.1 he
    have ht9 : q9.et = some o := by rw [et9]; exact ht
    obtain ⟨hKw, gw⟩ := KM_Vi hO hM hK hw.1 g
    refine kg_X2_inspect_98 hu9 he9 s (kh_isRacing (w := w) hu9.1 he9 hw.2.1 hKw hN gw (fun t ht => AC_f (hw.1 _ _ (by unfold sVi; omega)) (hw.1 _ _ (by unfold sVi; omega)) (hac t ht)) (fun r hr => ⟨fun r0 => rm_i hu9 hl9 (h w9 q9 hu9 hl9 et9 hw (FAs_more (n := 10) (by omega) (fun f h1 h2 z => ?_) hfa)), fun rn u4 e4 => ⟨o, by rw [e4, et_r ht9], ho9, kt_find3 hu9.1 ho9 _ _ (Fn := 10) rfl (by omega) hw.2.2.1 (by rw [(VI_0 hO hw).1]; exact hs) (fun t ft hzt t1 t2 t3 => rm_i hu9 hl9 (h t q9 hu9 hl9 et9 (VI_fi hO hw ft hzt) (FAs_find hs.1 (fn_10.mpr (hr.mp rn)) t1 t2 t3 hfa)))⟩⟩))
    have : f = 10 := by omega
    rw [this, fn_10] at z
    exact hr.mpr z r0
  have p78 : ∀ (q9 : kP) (w9 : gd), kU q9 → kle q q9 → q9.et = q.et → VI x w9 q9 o → FAs x w9 o s (fD C w M 9) → KM G q9 (d + 5) zk_X2_inspect 78 [(0, vr 200), (1, vi s)] [] w9 (rm q Fm) X := by
    intro q9 w9 hu9 hl9 et9 hw hfa
    have ho9 := kle_T hl9 ho
    have he9 := hl9.2.1.2.1 he
    have ht9 : q9.et = some o := by rw [et9]; exact ht
    obtain ⟨hKw, gw⟩ := KM_Vi hO hM hK hw.1 g
    refine kg_X2_inspect_78 hu9 he9 s (kh_anyFailed hu9.1 (Or.inr ⟨rfl, he9⟩) hw.2.1 hKw gw (fun r hr => ⟨fun r0 => p98 q9 w9 hu9 hl9 et9 hw (FAs_more (n := 9) (by omega) (fun f h1 h2 z => ?_) hfa), fun rn u4 e4 => ⟨o, by rw [e4, et_r ht9], ho9, kt_find3 hu9.1 ho9 _ _ (Fn := 9) rfl (by omega) hw.2.2.1 (by rw [(VI_0 hO hw).1]; exact hs) (fun t ft hzt t1 t2 t3 => p98 q9 t hu9 hl9 et9 (VI_fi hO hw ft hzt) (FAs_find hs.1 (fn_9.mpr (hr.mp rn)) t1 t2 t3 hfa))⟩⟩))
    have : f = 9 := by omega
    rw [this, fn_9] at z
    exact hr.mpr z r0
  have loop : ∀ (m k : Nat) (i : Int32) (w9 : gd), i.toInt = k → (x.1 60 14).toInt - k ≤ m → (k : Int) ≤ (x.1 60 14).toInt → VI x w9 q o → FAs x w9 o s (fD C w M k) → KM G q (d + 5) zk_X2_inspect 21 [(0, vr 200), (1, vi s), (2, vi i)] [] w9 (rm q Fm) X := by
    intro m
    have out : ∀ (k : Nat) (i : Int32) (w9 : gd), i.toInt = k → (k : Int) ≤ (x.1 60 14).toInt → VI x w9 q o → FAs x w9 o s (fD C w M k) → w9.1 60 14 ≤ i → ((¬ ((w9.1 220 13) = (0 : Int32)) → KM G q (d + 5) zk_X2_inspect 78 [(0, vr 200), (1, vi s)] [] w9 (rm q Fm) X) ∧ ((w9.1 220 13) = (0 : Int32) → KM G q (d + 4) zk_X2_inspectEnd 0 [(0, vr 200), (1, vi s)] [] w9 (rm q (fun x3 q4 => KM G q4 (d + 5) zk_X2_inspect 78 [(0, vr 200), (1, vi s)] [] x3 (rm q Fm) X)) X)) := by
      intro k i w9 ei hk hw hfa c
      rw [t_le, (VI_0 hO hw).2 60 14 (by omega) (by omega) (by omega) (by omega)] at c
      have hfa : FAs x w9 o s (fD C w M 4) := FAs_more (n := k) (by omega) (fun f h1 h2 z => by
        rw [fn_lt4 (by omega)] at z
        obtain ⟨Q, hQ, -⟩ := z
        have := gt_lt hQ
        omega) hfa
      have e13 : w9.1 220 13 = x.1 220 13 := hw.1 _ _ (by unfold sVi; omega)
      rw [e13]
      refine ⟨fun c0 => p78 q w9 hu (kle_rf q) rfl hw (FAs_more (n := 4) (by omega) (fun f h1 h2 z => c0 ?_) hfa), fun c0 => kh_inspectEnd hu he ho ht hM hK hN hq2 g hw s (by rw [(VI_0 hO hw).1]; exact hs) ?_ hfa (fun y q1 hu1 hl1 et1 hy hfy => p78 q1 y hu1 hl1 et1 hy hfy)⟩
      · have : chM C w M = [] := by
          by_cases c8 : f = 8
          · rw [c8, fn_8] at z; exact z.1
          · obtain ⟨f', ef⟩ : ∃ f', f = 4 + f' := ⟨f - 4, by omega⟩
            rw [ef, fn_4 (by omega)] at z
            exact z.1
        rw [this] at hc
        rw [t_eq, k0]; exact hc
      · rw [c0, k0] at hc
        exact List.eq_nil_of_length_eq_zero (by omega)
    induction m with
    | zero =>
      intro k i w9 ei hm hk hw hfa
      refine kg_X2_inspect_21 hu he s i ⟨fun c => out k i w9 ei hk hw hfa c, fun c => ?_⟩
      rw [t_le, (VI_0 hO hw).2 60 14 (by omega) (by omega) (by omega) (by omega)] at c; omega
    | succ m ih =>
      intro k i w9 ei hm hk hw hfa
      refine kg_X2_inspect_21 hu he s i ⟨fun c => out k i w9 ei hk hw hfa c, fun c => ?_⟩
      rw [t_le, (VI_0 hO hw).2 60 14 (by omega) (by omega) (by omega) (by omega)] at c
      have e1 : (i + 1).toInt = ((k + 1 : Nat) : Int) := by rw [t_add (by rw [k1]; omega) (by rw [k1]; omega), k1, ei]; rfl
      have hkl : k < C.2.2.2.1.length := by omega
      obtain ⟨Q, hQ⟩ : ∃ Q, C.2.2.2.1[k]? = some Q := ⟨_, List.getElem?_eq_getElem hkl⟩
      obtain ⟨hKw, gw⟩ := KM_Vi hO hM hK hw.1 g
      have iK : i.toNatClampNeg = k := by rw [t_cl, ei]; rfl
      rw [iK]
      refine ⟨by rw [vp_in_iff]; omega, kh_isFalse hu.1 he hw.2.1 hKw hN hq2 gw _ (hKw.2.2.2.1.2 k Q hQ) (Or.inl (List.mem_of_getElem? hQ)) (fun r v gr fv hr => ?_)⟩
      have hv := VI_st hO hw (fm_w fv (fun c k q => by unfold sWk at q; omega))
      have hfv : FAs x v o s (fD C w M k) := FAs_f (fun f => fv _ _ (by unfold sWk; omega)) hfa
      have fn : fnM C w M k ↔ badC M Q := by
        rw [fn_lt4 (by omega)]
        refine ⟨fun ⟨Q9, h9, b⟩ => ?_, fun b => ⟨Q, hQ, b⟩⟩
        rw [hQ] at h9
        rw [Option.some.inj h9]; exact b
      refine ⟨fun r0 => ih (k + 1) _ v e1 (by push_cast; omega) (by push_cast; omega) hv (FAs_more (n := k) (by omega) (fun f h1 h2 z => ?_) hfv), fun rn u9 e9 => ⟨o, by rw [e9, et_r ht], ho, kt_find3 hu.1 ho _ _ ei (by omega) hv.2.2.1 (by rw [(VI_0 hO hv).1]; exact hs) (fun t ft hzt t1 t2 t3 => ih (k + 1) _ t e1 (by push_cast; omega) (by push_cast; omega) (VI_fi hO hv ft hzt) (FAs_find hs.1 (fn.mpr (hr.mp rn)) t1 t2 t3 hfv))⟩⟩
      have : f = k := by omega
      rw [this] at z
      exact hr.mpr (fn.mp z) r0
  refine kg_X2_inspect_0 hu he s (fun u1 e1 => ⟨o, by rw [e1, et_r ht], ho, fun x4 e4 => loop 4 0 _ x4 rfl (by omega) (by omega) (VI_st hO hV ?_) (fun f _ => Or.inr ⟨fun z => absurd z.1.1 (Nat.not_lt_zero _), ?_⟩)⟩)
  · rw [e4]; exact fm_si (fm_rf _ _) (by omega)
  · rw [e4, si_cell (by omega)]
end KLO
