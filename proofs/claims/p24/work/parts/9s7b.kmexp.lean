section
/-! the class: all states, one after another, with what they are -/
/-- of each finding the first state that shows it, of the first k -/
def FN3 (C : gCo) (w : Nat) (x7 : Nat → Int32) (T : gTy) (k : Nat) : Prop := ∀ f, f < 11 → (x7 f = -1 ∧ ∀ s p, s < k → T.1[s]? = some p → ¬ fnM C w p.1 f) ∨ ∃ s p, s < k ∧ (x7 f).toInt = (s : Nat) ∧ T.1[s]? = some p ∧ fnM C w p.1 f ∧ ∀ s' p', s' < s → T.1[s']? = some p' → ¬ fnM C w p'.1 f
def sKX (o c k : Nat) : Prop := c = 225 ∨ (c = 220 ∧ (k = 13 ∨ k = 14)) ∨ (231 ≤ c ∧ c ≤ 233) ∨ c = 209 ∨ c = 210 ∨ c = 240 ∨ (c = o ∧ 2 ≤ k ∧ k ≤ 5) ∨ c = o + 7 ∨ c = o + 8 ∨ c = o + 9 ∨ c = o + 14 ∨ 4000 ≤ c ∨ (c = 60 ∧ k = 5) ∨ c = 65
section PEX
variable {C : gCo} {M : gMa} {T T' : gTy} {w lim s i n m k : Nat} {x7 y7 : Nat → Int32}
theorem adS_pre (h : s < T.1.length) (a b : Nat) : (adS lim a b T M).1[s]? = T.1[s]? ∧ T.1.length ≤ (adS lim a b T M).1.length := by
  by_cases c : ∃ q ∈ T.1, q.1 = M
  · rw [adS_old c]; exact ⟨rfl, Nat.le_refl _⟩
  · by_cases c2 : lim ≤ T.1.length
    · rw [adS_full c c2]; exact ⟨rfl, Nat.le_refl _⟩
    · rw [adS_new c c2]
      refine ⟨List.getElem?_append_left h, ?_⟩
      show _ ≤ (T.1 ++ _).length
      rw [List.length_append]; omega
theorem onS_pre (h : s < T.1.length) (a : Nat) : ∀ n, (onS C w lim a M n T).1[s]? = T.1[s]? ∧ T.1.length ≤ (onS C w lim a M n T).1.length := by
  intro n
  induction n with
  | zero => exact ⟨rfl, Nat.le_refl _⟩
  | succ n ih =>
    rw [onS]
    split
    · exact ih
    · obtain ⟨i1, i2⟩ := ih
      obtain ⟨j1, j2⟩ := adS_pre (lim := lim) (M := doM C w M (((chM C w M)[n]?).getD (0, none, none))) (s := s) (T := onS C w lim a M n T) (by omega) a n
      exact ⟨j1.trans i1, Nat.le_trans i2 j2⟩
theorem onS_stop (h : (onS C w lim k M n T).2 = true) : ∀ m, n ≤ m → onS C w lim k M m T = onS C w lim k M n T := by
  intro m
  induction m with
  | zero => intro hm; rw [show n = 0 by omega]
  | succ m ih =>
    intro hm
    by_cases c : n = m + 1
    · rw [c]
    · have e := ih (by omega)
      rw [onS, e, if_pos h]
theorem onS_go (h : ¬ (onS C w lim k M n T).2 = true) {ch : gCh} (hc : (chM C w M)[n]? = some ch) : onS C w lim k M (n + 1) T = adS lim k n (onS C w lim k M n T) (doM C w M ch) := by
  rw [onS, if_neg h, hc]
  rfl
theorem FN3_T (h : ∀ s, s < k → T'.1[s]? = T.1[s]?) (g : FN3 C w x7 T k) : FN3 C w x7 T' k := by
  intro f hf
  rcases g f hf with ⟨g1, g2⟩ | ⟨s, p, g1, g2, g3, g4, g5⟩
  · exact Or.inl ⟨g1, fun s p hs hp => g2 s p hs (by rw [← h s hs]; exact hp)⟩
  · exact Or.inr ⟨s, p, g1, g2, by rw [h s g1]; exact g3, g4, fun s' p' hs' hp' => g5 s' p' hs' (by rw [← h s' (by omega)]; exact hp')⟩
theorem FN3_next {p : gMa × Nat × Nat} {v : Int32} (ev : v.toInt = (k : Nat)) (hp : T.1[k]? = some p) (g : FN3 C w x7 T k) (h : ∀ f, f < 11 → (fD C w p.1 11 f ∧ x7 f = -1 ∧ y7 f = v) ∨ (¬ (fD C w p.1 11 f ∧ x7 f = -1) ∧ y7 f = x7 f)) : FN3 C w y7 T (k + 1) := by
  intro f hf
  rcases h f hf with ⟨h1, h2, h3⟩ | ⟨h1, h3⟩
  · refine Or.inr ⟨k, p, by omega, by rw [h3]; exact ev, hp, h1.2, fun s' p' hs' hp' => ?_⟩
    rcases g f hf with ⟨-, g2⟩ | ⟨s, p9, -, g2, -⟩
    · exact g2 s' p' hs' hp'
    · rw [h2, tm1] at g2; omega
  · rw [h3]
    rcases g f hf with ⟨g1, g2⟩ | ⟨s, p9, g1, g2⟩
    · refine Or.inl ⟨g1, fun s' p' hs' hp' => ?_⟩
      by_cases e : s' = k
      · rw [e, hp] at hp'
        rw [← Option.some.inj hp']
        exact fun z => h1 ⟨⟨hf, z⟩, g1⟩
      · exact g2 s' p' (by omega) hp'
    · exact Or.inr ⟨s, p9, by omega, g2⟩
end PEX
/-- where what is told of all states lies -/
def sOv (o c k : Nat) : Prop := (c = o ∧ 2 ≤ k ∧ k ≤ 5) ∨ c = o + 7 ∨ c = o + 8 ∨ c = o + 9 ∨ c = o + 14 ∨ 4000 ≤ c
def SOv (o : Nat) (x y : gd) : Prop := ∀ c k, sOv o c k → y.1 c k = x.1 c k
def KLo (x : gd) (o : Nat) (l : gLo) : Prop := (x.1 o 2).toInt = (l.1 : Nat) ∧ (x.1 o 4).toInt = (l.2.1 : Nat) ∧ (x.1 o 5).toInt = (l.2.2.1 : Nat) ∧ (∀ c, c < 24 → x.1 (o + 8) c = l.2.2.2.1 c) ∧ (∀ a, a < 6 → x.1 (o + 9) a = l.2.2.2.2.1 a) ∧ OUk x o l.2.2.2.2.2
/-- how many they may be -/
def BLo (l : gLo) (k : Nat) : Prop := l.1 ≤ k ∧ l.2.1 ≤ k ∧ l.2.2.1 ≤ 84 * k ∧ l.2.2.2.2.2.length ≤ k
section KLOX
variable {G : kG} {q : kP} {d : Nat} {x y z : gd} {o k : Nat} {Fv : gd → Prop} {C : gCo} {M : gMa} {nl w : Nat} {l : gLo}
theorem kt_clear3 (hq : kV q) (ho : kiT q o) (hN : oN q o ≤ 3000) (l : Int32) (h : ∀ y, fm (sTr o) x y → y.1 o 0 = 0 → y.1 o 3 = 0 → y.1 o 1 = 0 → TZ y o → TO y q o → (∀ k, k < 6 → y.1 o k = 0) → (∀ c, c < 24 → y.1 (o + 8) c = l) → (∀ a, a < 6 → y.1 (o + 9) a = 0) → Fv y) : KT G q (d + 1) zk_X10_clear 0 [(0, vr o), (1, vi l)] [] x (rv Fv) := by
  have k0 : (0 : Int32).toInt = 0 := rfl
  refine kg_X10_clear_0 hq ho _ (fun x1 e1 x2 e2 x3 e3 x4 e4 x5 e5 x6 e6 x7 e7 x8 e8 z ez => ?_)
  have c0 : ∀ k, k < 6 → z.1 o k = 0 := by
    intro k hk
    have g : z.1 o k = x6.1 o k := by rw [ez, sfl_get, if_neg (by omega), e8, sfl_get, if_neg (by omega), e7, sfl_get, if_neg (by omega)]
    rw [g, e6, si_get]
    split
    · rfl
    rw [e5, si_get]
    split
    · rfl
    rw [e4, si_get]
    split
    · rfl
    rw [e3, si_get]
    split
    · rfl
    rw [e2, si_get]
    split
    · rfl
    rw [e1, si_get]
    split
    · rfl
    omega
  have z0 := c0 0 (by omega)
  have z3 := c0 3 (by omega)
  refine rv_i (h z ?_ z0 z3 (c0 1 (by omega)) ?_ ?_ c0 (fun c hc => by rw [ez, sfl_get, if_neg (by omega), e8, sfl_get, if_pos ⟨rfl, hc⟩]) (fun a ha => by rw [ez, sfl_get, if_pos ⟨rfl, ha⟩]))
  · rw [ez, e8, e7, e6, e5, e4, e3, e2, e1]
    refine fm_fl (fm_fl (fm_fl (fm_si (fm_si (fm_si (fm_si (fm_si (fm_si (fm_rf _ _) ?_) ?_) ?_) ?_) ?_) ?_) ?_) ?_) ?_ <;> (try intro k _) <;> unfold sTr <;> omega
  · unfold TZ; rw [z0, k0]
    refine ⟨by omega, fun g hg => Or.inl ?_, fun s hs => by omega⟩
    rw [ez, sfl_get, if_neg (by omega), e8, sfl_get, if_neg (by omega), e7, sfl_get, if_pos ⟨rfl, hg⟩]
  · unfold TO; rw [z3, k0]
    exact ⟨by omega, fun i hi => by omega⟩
theorem KLo_f (e : SOv o x y) (h : KLo x o l) : KLo y o l := by
  obtain ⟨h1, h2, h3, h4, h5, h6⟩ := h
  refine ⟨by rw [e _ _ (by unfold sOv; omega)]; exact h1, by rw [e _ _ (by unfold sOv; omega)]; exact h2, by rw [e _ _ (by unfold sOv; omega)]; exact h3, fun c hc => by rw [e _ _ (by unfold sOv; omega)]; exact h4 c hc, fun a ha => by rw [e _ _ (by unfold sOv; omega)]; exact h5 a ha, OUk_f (e _ _ (by unfold sOv; omega)) (fun k => e _ _ (by unfold sOv; omega)) (fun c k hc => e _ _ (by unfold sOv; omega)) h6⟩
theorem BLo_next (h : BLo l k) (h84 : (chM C w M).length ≤ 84) : BLo (loM C w nl M l) (k + 1) := by
  obtain ⟨i1, i2, i3, i4⟩ := h
  refine ⟨?_, ?_, ?_, ?_⟩
  · show l.1 + (if _ then 1 else 0) ≤ _
    split <;> omega
  · show l.2.1 + (@ite Nat (idM C w M) (Classical.propDecidable _) 1 0) ≤ _
    split <;> omega
  · show l.2.2.1 + _ ≤ _
    omega
  · show (if chM C w M = [] then inR (roM C M) l.2.2.2.2.2 else l.2.2.2.2.2).length ≤ _
    split
    · have := inR_n (r := roM C M) l.2.2.2.2.2
      omega
    · omega
/-- a state is looked at: its acts, then the rest -/
theorem KLo_next (hk : k < 3000) (hb : BLo l k) (h84 : (chM C w M).length ≤ 84) (h : KLo x o l) (ha : LAx x y o C w nl M) (e2 : y.1 o 2 = x.1 o 2) (e5 : y.1 o 5 = x.1 o 5) (n13 : (y.1 220 13).toInt = ((chM C w M).length : Nat)) (hi : KIx y z o C w M l.2.2.2.2.2) (e4 : z.1 o 4 = y.1 o 4) (e8 : ∀ k, z.1 (o + 8) k = y.1 (o + 8) k) (e9 : ∀ k, z.1 (o + 9) k = y.1 (o + 9) k) : KLo z o (loM C w nl M l) := by
  obtain ⟨h1, h2, h3, h4, h5, h6⟩ := h
  obtain ⟨a1, a2, a3⟩ := ha
  obtain ⟨i1, i2⟩ := hi
  obtain ⟨b1, b2, b3, b4⟩ := hb
  have k1 : (1 : Int32).toInt = 1 := rfl
  refine ⟨?_, ?_, ?_, fun c hc => ?_, fun a ha => ?_, ?_⟩
  · show _ = ((l.1 + (if chM C w M = [] then 1 else 0) : Nat) : Int)
    rcases i2 with ⟨i3, i4, -⟩ | ⟨i3, i4, -⟩
    · rw [if_pos i3, i4, e2, t_add (by rw [k1]; omega) (by rw [k1]; omega), k1, h1]; push_cast; rfl
    · rw [if_neg i3, i4, e2, h1]; rfl
  · show _ = ((l.2.1 + (@ite Nat (idM C w M) (Classical.propDecidable _) 1 0) : Nat) : Int)
    rw [e4]
    rcases a3 with ⟨i3, i4⟩ | ⟨i3, i4⟩
    · rw [if_pos i3, i4, t_add (by rw [k1]; omega) (by rw [k1]; omega), k1, h2]; push_cast; rfl
    · rw [if_neg i3, i4, h2]; rfl
  · show _ = ((l.2.2.1 + (chM C w M).length : Nat) : Int)
    rw [i1, e5, t_add (by omega) (by omega), h3, n13]; push_cast; rfl
  · rw [e8, a1 c hc, h4 c hc]; rfl
  · rw [e9, a2 a ha, h5 a ha]; rfl
  · show OUk z o (if chM C w M = [] then inR (roM C M) l.2.2.2.2.2 else l.2.2.2.2.2)
    rcases i2 with ⟨i3, -, i5⟩ | ⟨i3, -, i5⟩
    · rw [if_pos i3]; exact i5
    · rw [if_neg i3]; exact i5
end KLOX
section KEXP
variable {G : kG} {q q0 q1 : kP} {d : Nat} {x x0 y z : gd} {o : Nat} {F : Int32 → gd → Prop} {Fv : gd → Prop} {Fm : gd → kP → Prop} {X : String → gd → kP → Prop} {C : gCo} {M : gMa} {T : gTy} {nl w lim : Nat} {S : Nat → Nat → Prop}
theorem KX3_S (hO : o = 260 ∨ o = 280) (hK : CK x C) (f : fm S x y) (hs : ∀ c k, S c k → sKX o c k) (h3 : T.1.length ≤ 3000) (h : KX3 C nl w x o T) : KX3 C nl w y o T := by
  have f : fm (sKX o) x y := fm_w f hs
  refine KX3_f hK (fun c k hc => f c k (by unfold sKX; omega)) (fun k h1 h2 => f _ _ (by unfold sKX; omega)) (fun s k hs => f _ _ (by unfold sKX; omega)) (fun k => f _ _ (by unfold sKX; omega)) (fun k => f _ _ (by unfold sKX; omega)) (f _ _ (by unfold sKX; omega)) (f _ _ (by unfold sKX; omega)) (fun k => f _ _ (by unfold sKX; omega)) (fun k => f _ _ (by unfold sKX; omega)) (fun k => f _ _ (by unfold sKX; omega)) h
/-- program, way, locks -/
def J3 (C : gCo) (nl w : Nat) (x : gd) : Prop := CK x C ∧ x.1 220 3 = Int32.ofNat w ∧ (x.1 60 9).toInt = (nl : Nat)
theorem J3_f (hc : agC x y) (hm : agM 220 x y) (h : J3 C nl w x) : J3 C nl w y := ⟨CK_f h.1 hc, by rw [hm 3 (by omega) (by omega)]; exact h.2.1, by rw [hc 60 9 (by omega)]; exact h.2.2⟩
theorem J3_S (hO : o = 260 ∨ o = 280) (f : fm S x y) (hs : ∀ c k, S c k → sKX o c k) (h : J3 C nl w x) : J3 C nl w y := by
  have f : fm (sKX o) x y := fm_w f hs
  exact J3_f (fun c k hc => f c k (by unfold sKX; omega)) (fun k h1 h2 => f _ _ (by unfold sKX; omega)) h
theorem kx_25 {c k : Nat} (h : c = 225) : sKX o c k := Or.inl h
theorem kx_Li {c k : Nat} (h : sLi 220 c k) : sKX o c k := by unfold sLi at h; unfold sKX; omega
theorem kx_In {c k : Nat} (h : sIn o c k) : sKX o c k := by unfold sIn at h; unfold sKX; omega
theorem kx_Vi {c k : Nat} (h : sVi o c k) : sKX o c k := by unfold sVi at h; unfold sKX; omega
theorem kx_Mk {c k : Nat} (h : sMk 220 c k) : sKX o c k := by unfold sMk at h; unfold sKX; omega
theorem kchL_f {l : List gCh} (e13 : y.1 220 13 = x.1 220 13) (e : ∀ c k, 231 ≤ c → c ≤ 233 → y.1 c k = x.1 c k) (h : kchL x 220 l) : kchL y 220 l := by
  obtain ⟨h1, h2⟩ := h
  refine ⟨by rw [e13]; exact h1, fun i ch hi => ?_⟩
  have := h2 i ch hi
  unfold kch at this ⊢
  rw [e (220 + 11) i (by omega) (by omega), e (220 + 12) i (by omega) (by omega), e (220 + 13) i (by omega) (by omega)]
  exact this
/-- the choices of one state -/
theorem kx_inner3 (he : q.ex = true) (ho : kiT q o) (hN : NC C) (hX : NXc C) (hX3 : NX3 C) (hLk : LkN C nl) (w01 : w = 0 ∨ w = 1) (l i : Int32) {k : Nat} (ei : i.toInt = k) (hk3 : k < 3000) (el : l.toInt = (lim : Nat)) (hl3 : lim ≤ 3000) {p : gMa × Nat × Nat} (hp : T.1[k]? = some p) (l84 : (chM C w p.1).length ≤ 84) {x7 : gd}
    (again : ∀ (q2 : kP) (t : gd), kU q2 → kle q q2 → q2.et = some o → fm (sEx o) x t → XI t q2 o → J3 C nl w t → KX3 C nl w t o (onS C w lim k p.1 (chM C w p.1).length T) → SOv o x7 t → KM G q2 (d + 6) zk_X2_explore 49 [(0, vr 200), (2, vi l), (4, vi (i + 1))] [] t (rm q Fm) X) :
    ∀ (n j : Nat) (i2 : Int32) (q2 : kP) (t : gd), i2.toInt = j → (chM C w p.1).length - j ≤ n → j ≤ (chM C w p.1).length → kU q2 → kle q q2 → q2.et = some o → fm (sEx o) x t → XI t q2 o → J3 C nl w t → kchL t 220 (chM C w p.1) → KX3 C nl w t o (onS C w lim k p.1 j T) → SOv o x7 t → KM G q2 (d + 6) zk_X2_explore 95 [(0, vr 200), (2, vi l), (4, vi i), (5, vi i2)] [] t (rm q Fm) X := by
  have hO := iT_O ho
  have k1 : (1 : Int32).toInt = 1 := rfl
  have k0 : (0 : Int32).toInt = 0 := rfl
  intro n
  induction n with
  | zero =>
    intro j i2 q2 t ej hn hj hu2 hl2 et2 ft hXt hJ hc hT h7
    have ho2 := kle_T hl2 ho
    have he2 := hl2.2.1.2.1 he
    have jl : j = (chM C w p.1).length := by omega
    have c13 := hc.1
    refine kg_X2_explore_95 hu2 he2 ho2 l i i2 ⟨fun _ => again q2 t hu2 hl2 et2 ft hXt hJ (by rw [← jl]; exact hT) h7, fun c => ?_⟩
    rw [t_le] at c; omega
  | succ n ihn =>
    intro j i2 q2 t ej hn hj hu2 hl2 et2 ft hXt hJ hc hT h7
    have ho2 := kle_T hl2 ho
    have he2 := hl2.2.1.2.1 he
    have hkn2 := hu2.2.2.2.2.1
    have hm2 : kiM q2 220 := Or.inr ⟨rfl, he2⟩
    have c13 := hc.1
    refine kg_X2_explore_95 hu2 he2 ho2 l i i2 ⟨fun c => again q2 t hu2 hl2 et2 ft hXt hJ ?_ h7, fun c2 u2 e2 => ⟨o, by rw [e2, et_r et2], ho2, fun cp => again q2 t hu2 hl2 et2 ft hXt hJ ?_ h7, fun cp => ?_⟩⟩
    · rw [t_le] at c
      have jl : j = (chM C w p.1).length := by omega
      rw [← jl]; exact hT
    · have pt : (onS C w lim k p.1 j T).2 = true := by
        apply Classical.byContradiction
        intro z
        have := hT.1.2
        rw [if_neg z] at this
        exact cp this
      rw [onS_stop pt _ hj]; exact hT
    rw [t_le] at c2
    have pf : ¬ (onS C w lim k p.1 j T).2 = true := fun z => by
      have := hT.1.2
      rw [if_pos z] at this
      rw [this] at cp
      exact absurd cp (by decide)
    have hjl : j < (chM C w p.1).length := by omega
    obtain ⟨ch, hch⟩ : ∃ ch, (chM C w p.1)[j]? = some ch := ⟨_, List.getElem?_eq_getElem hjl⟩
    have hkl := gt_lt hp
    obtain ⟨pr1, pr2⟩ := onS_pre (C := C) (w := w) (lim := lim) (M := p.1) hkl k j
    have hp' : (onS C w lim k p.1 j T).1[k]? = some p := by rw [pr1]; exact hp
    have hkp := hT.2.1 k p hp'
    have hk0 : (k : Int) < (t.1 o 0).toInt := by rw [hT.1.1]; omega
    have hT3 : (onS C w lim k p.1 j T).1.length ≤ 3000 := by have := hT.1.1; have := hXt.2.1.1.1; omega
    have hkr := hXt.2.2.2.1 k hk0
    have hsn : k < q2.kn := by have := hXt.2.2.1; omega
    have ej1 : (i2 + 1).toInt = ((j + 1 : Nat) : Int) := by rw [t_add (by rw [k1]; omega) (by rw [k1]; omega), k1, ej]; rfl
    refine kx_recall hu2.1 he2 hXt.1.1 hXt.1.2 i ei hsn hk3 hkr (fun a2 ea2 hMa2 fa2 => ?_)
    have hXa2 : XI a2 q2 o := XI_q hO (fm_w fa2 (fun c k => qu_25)) hXt hkn2
    have ga2 : KMm a2 220 C p.1 := by rw [ea2]; exact hkp.2.1
    have hJa := J3_S hO fa2 (fun c k => kx_25) hJ
    have hTa := KX3_S hO hJ.1 fa2 (fun c k => kx_25) hT3 hT
    have hca := kchL_f (c13_25 fa2) (fun c k h1 h2 => fa2 _ _ (by omega)) hc
    have e0a := co0_25 hO fa2
    refine kh_perform hu2.1 hm2 hMa2 hJa.1 hN hX hX3 ga2 (WMw_WM hkp.2.2.1.1) hJa.2.1 w01 i2 ej (by omega) (hca.2 j ch hch) (ch_in (List.mem_of_getElem? hch)) (fun b2 hMb2 fb2 hD2 gb2 => ?_)
    have hXb2 : XI b2 q2 o := XI_q hO (fm_w fb2 (fun c k => qu_Mk)) hXa2 hkn2
    have hJb := J3_S hO fb2 (fun c k => kx_Mk) hJa
    have hTb := KX3_S hO hJa.1 fb2 (fun c k => kx_Mk) hT3 hTa
    have hcb := kchL_f (c13_Mk fb2) (fun c k h1 h2 => fb2 _ _ (by unfold sMk; omega)) hca
    have l6 : C.2.1.length ≤ 6 := by have := hMb2.1.1.2.2.1; have := hJb.1.2.1.1; omega
    have lb : (C.2.2.1.length : Int) < 2147483648 := by have := hMb2.1.1.1; have := hJb.1.2.2.1.1; omega
    have hmem := List.mem_of_getElem? hch
    refine kx_addState3 (d := d + 1) (A := k) (B := j) hu2 he2 ho2 et2 hXb2 hMb2 hJb.1 hN hJb.2.2 gb2 (MIv_do hX l6 hkp.2.2.1 hmem) (MCn_do hN hX hLk lb l6 hkp.2.2.2.1 hkp.2.2.1 hmem) (NBm_do hkp.2.2.2.2.1) hTb i i2 l (Or.inr ⟨ei, by omega, ej⟩) el hl3 (fun c3 q3 hu3 hl3' et3 f3 hX3' hrow hT3' => ?_)
    obtain ⟨ac3, am3⟩ := sKe_C hO f3
    refine ihn (j + 1) _ q3 c3 ej1 (by omega) hjl hu3 (kle_tr hl2 hl3') (by rw [et3]; exact et2) (fm_tr ft (fm_tr (fm_tr (fm_w fa2 (fun c k => ex_25)) (fm_w fb2 (fun c k => ex_Mk))) (fm_w f3 (fun c k => ex_Ke)))) hX3' (J3_f ac3 am3 hJb) (kchL_f (c13_Ke hO f3) (fun c k h1 h2 => f3 _ _ (by unfold sKe; omega)) hcb) (by rw [onS_go pf hch]; exact hT3') (fun c k hc => ?_)
    unfold sOv at hc
    rw [f3 _ _ (by unfold sKe; omega), fb2 _ _ (by unfold sMk; omega), fa2 _ _ (by omega)]
    exact h7 c k (by unfold sOv; exact hc)
end KEXP
end
section
/-! the class: explore() tries as the machine does -/
section KALL
variable {G : kG} {q q0 q1 : kP} {d : Nat} {x x0 y z : gd} {o : Nat} {F : Int32 → gd → Prop} {Fv : gd → Prop} {Fm : gd → kP → Prop} {X : String → gd → kP → Prop} {C : gCo} {M : gMa} {T : gTy} {nl w lim : Nat}
theorem kx_outer3 (he : q.ex = true) (ho : kiT q o) (hN : NC C) (hX : NXc C) (hX3 : NX3 C) (hLk : LkN C nl) (hq2 : NCq C) (w01 : w = 0 ∨ w = 1) (l : Int32) (el : l.toInt = (lim : Nat)) (hl3 : lim ≤ 3000) (h : ∀ y q1, kU q1 → kle q q1 → q1.et = some o → fm (sEx o) x y → TZ y o → TO y q1 o → J3 C nl w y → KX3 C nl w y o (tryM C w lim) → FN3 C w (y.1 (o + 7)) (tryM C w lim) (tryM C w lim).1.length → KLo y o (loS C w nl (tryM C w lim) (tryM C w lim).1.length) → Fm y q1) :
    ∀ (m k : Nat) (i : Int32) (q9 : kP) (v : gd) (T : gTy), i.toInt = k → 3000 - (k : Int) ≤ m → k ≤ T.1.length → kU q9 → kle q q9 → q9.et = some o → fm (sEx o) x v → XI v q9 o → J3 C nl w v → KX3 C nl w v o T → FN3 C w (v.1 (o + 7)) T k → KLo v o (loS C w nl T k) → BLo (loS C w nl T k) k → bfS C w lim (3001 - k) k T = tryM C w lim → KM G q9 (d + 6) zk_X2_explore 49 [(0, vr 200), (2, vi l), (4, vi i)] [] v (rm q Fm) X := by
  have hO := iT_O ho
  have k1 : (1 : Int32).toInt = 1 := rfl
  have k3 : (3000 : Int32).toInt = 3000 := rfl
  intro m
  have hend : ∀ (k : Nat) (i : Int32) (q9 : kP) (v : gd) (T : gTy), k = T.1.length → kU q9 → kle q q9 → q9.et = some o → fm (sEx o) x v → XI v q9 o → J3 C nl w v → KX3 C nl w v o T → FN3 C w (v.1 (o + 7)) T k → KLo v o (loS C w nl T k) → BLo (loS C w nl T k) k → bfS C w lim (3001 - k) k T = tryM C w lim → rm q Fm none v q9 := by
    intro k i q9 v T hk hu9 hl9 et9 fv hX9 hJ hT hFN hLo hBl hb
    rw [bfS_end (List.getElem?_eq_none (by omega))] at hb
    subst hb
    exact rm_i hu9 hl9 (h v q9 hu9 hl9 et9 fv hX9.2.1.1 hX9.2.1.2 hJ hT (by rw [← hk]; exact hFN) (by rw [← hk]; exact hLo))
  induction m with
  | zero =>
    intro k i q9 v T ei hm hkT hu9 hl9 et9 fv hX9 hJ hT hFN hLo hBl hb
    have ho9 := kle_T hl9 ho
    have he9 := hl9.2.1.2.1 he
    have tz := hX9.2.1.1.1
    have t0 := hT.1.1
    have e := hend k i q9 v T (by omega) hu9 hl9 et9 fv hX9 hJ hT hFN hLo hBl hb
    refine kg_X2_explore_49 hu9 he9 ho9 l i (fun u1 e1 => ⟨o, by rw [e1, et_r et9], ho9, fun _ => e, fun _ => ⟨fun _ => e, fun c => ?_⟩⟩)
    rw [t_le, k3] at c; omega
  | succ m ih =>
    intro k i q9 v T ei hm hkT hu9 hl9 et9 fv hX9 hJ hT hFN hLo hBl hb
    have ho9 := kle_T hl9 ho
    have he9 := hl9.2.1.2.1 he
    have hm9 : kiM q9 220 := Or.inr ⟨rfl, he9⟩
    have tz := hX9.2.1.1.1
    have t0 := hT.1.1
    refine kg_X2_explore_49 hu9 he9 ho9 l i (fun u1 e1 => ⟨o, by rw [e1, et_r et9], ho9, fun c => hend k i q9 v T ?_ hu9 hl9 et9 fv hX9 hJ hT hFN hLo hBl hb, fun c0 => ⟨fun c => hend k i q9 v T ?_ hu9 hl9 et9 fv hX9 hJ hT hFN hLo hBl hb, fun c => ?_⟩⟩)
    · rw [t_le, ei] at c; omega
    · rw [t_le, k3, ei] at c; omega
    rw [t_le, ei] at c0
    rw [t_le, k3, ei] at c
    have ei1 : (i + 1).toInt = ((k + 1 : Nat) : Int) := by rw [t_add (by rw [k1]; omega) (by rw [k1]; omega), k1, ei]; rfl
    have hkn9 := hu9.2.2.2.2.1
    have hk0 : (k : Int) < (v.1 o 0).toInt := by omega
    have hk3 : k < 3000 := by omega
    have hkl : k < T.1.length := by omega
    have hT3 : T.1.length ≤ 3000 := by omega
    have hsn : k < q9.kn := by have := hX9.2.2.1; omega
    have hm2 : 3000 - ((k + 1 : Nat) : Int) ≤ m := by push_cast; omega
    clear c c0 hm
    obtain ⟨p, hp⟩ : ∃ p, T.1[k]? = some p := ⟨_, List.getElem?_eq_getElem hkl⟩
    have hkp := hT.2.1 k p hp
    have hkr := hX9.2.2.2.1 k hk0
    rw [show 3001 - k = (3000 - k) + 1 by omega, bfS_go hp] at hb
    refine kx_recall hu9.1 he9 hX9.1.1 hX9.1.2 i ei hsn hk3 hkr (fun a ea hMa fa => ?_)
    have hXa : XI a q9 o := XI_q hO (fm_w fa (fun c k => qu_25)) hX9 hkn9
    have ga : KMm a 220 C p.1 := by rw [ea]; exact hkp.2.1
    have hJa := J3_S hO fa (fun c k => kx_25) hJ
    have hTa := KX3_S hO hJ.1 fa (fun c k => kx_25) hT3 hT
    refine kh_listChoices hu9.1 hm9 hMa hJa.1 hN ga hkp.2.2.1.2 hJa.2.1 w01 (fun b fb hLb hcb => ?_)
    have hMb := MM_Li (Or.inr rfl) fb hMa
    have hXb : XI b q9 o := XI_q hO (fm_w fb (fun c k => qu_Li)) hXa hkn9
    have hJb := J3_S hO fb (fun c k => kx_Li) hJa
    have hTb := KX3_S hO hJa.1 fb (fun c k => kx_Li) hT3 hTa
    have gb := KMm_Li (Or.inr rfl) hMa hJa.1 fb ga
    have hLb2 : KLo b o (loS C w nl T k) := KLo_f (fun c j hc => by unfold sOv at hc; rw [fb _ _ (by unfold sLi; omega), fa _ _ (by omega)]) hLo
    have e0b : b.1 o 0 = v.1 o 0 := (co0_Li hO fb).trans (co0_25 hO fa)
    refine kh_inspectActs hu9.1 he9 ho9 et9 hMb hJb.1 hN hX hX3 gb hJb.2.1 w01 hLb hcb hJb.2.2 (fun c1 fc hac hla => ?_)
    have hXc : XI c1 q9 o := XI_q hO (fm_w fc (fun c k => qu_In)) hXb hkn9
    have hMc := sIn_MM ho9 fc hMb
    have hJc := J3_S hO fc (fun c k => kx_In) hJb
    have hTc := KX3_S hO hJb.1 fc (fun c k => kx_In) hT3 hTb
    obtain ⟨-, gc⟩ := KM_In ho9 hMb hJb.1 fc gb
    have hcc := kchL_f (c13_In hO fc) (fun c k h1 h2 => fc _ _ (by unfold sIn; omega)) hcb
    have e0 : c1.1 o 0 = v.1 o 0 := (co0_In hO fc).trans e0b
    have hs : 0 ≤ i.toInt ∧ i.toInt < (c1.1 o 0).toInt := by rw [e0, ei]; omega
    refine kh_inspect hu9 he9 ho9 et9 hMc hJc.1 hN hq2 gc hcc.1 hac hXc.2.1.1 hXc.2.1.2 i hs (L := (loS C w nl T k).2.2.2.2.2) (OUk_f (fc _ _ (by unfold sIn; omega)) (fun j => fc _ _ (by unfold sIn; omega)) (fun c j hc => fc _ _ (by unfold sIn; omega)) hLb2.2.2.2.2.2) (by have := hBl.2.2.2; omega) (loS_so k).1 (loS_so k).2 (fun y q1 hu1 hl1 et1 hy hfa hki => ?_)
    have hl1' := kle_tr hl9 hl1
    have et1' : q1.et = some o := by rw [et1]; exact et9
    have fy : fm (sEx o) x y := fm_tr (fm_tr (fm_tr (fm_tr fv (fm_w fa (fun c k => ex_25))) (fm_w fb (fun c k => ex_Li))) (fm_w fc (fun c k => ex_In))) (fm_w hy.1 (fun c k => ex_Vi))
    have hXy : XI y q1 o := XI_w hO (fm_w hy.1 (fun c k => wd_Vi)) hy.2.2.1 hy.2.2.2 hl1.2.2.1.1 hXc hkn9
    have hJy := J3_S hO hy.1 (fun c k => kx_Vi) hJc
    have hTy := KX3_S hO hJc.1 hy.1 (fun c k => kx_Vi) hT3 hTc
    have hcy := kchL_f (c13_Vi hO hy.1) (fun c k h1 h2 => hy.1 _ _ (by unfold sVi; omega)) hcc
    have e7 : ∀ f, c1.1 (o + 7) f = v.1 (o + 7) f := fun f => by rw [fc _ _ (by unfold sIn; omega), fb _ _ (by unfold sLi; omega), fa _ _ (by omega)]
    have hFy : FN3 C w (y.1 (o + 7)) T (k + 1) := FN3_next ei hp hFN (fun f hf => by rw [← e7 f]; exact hfa f hf)
    have l84' : (chM C w p.1).length ≤ 84 := by have := hcb.1; have := hLb.1.2; omega
    have hLy : KLo y o (loS C w nl T (k + 1)) := by
      rw [loS_go hp]
      exact KLo_next hk3 hBl l84' hLb2 hla (fc _ _ (by unfold sIn; omega)) (fc _ _ (by unfold sIn; omega)) hcc.1 hki (hy.1 _ _ (by unfold sVi; omega)) (fun j => hy.1 _ _ (by unfold sVi; omega)) (fun j => hy.1 _ _ (by unfold sVi; omega))
    have hBy : BLo (loS C w nl T (k + 1)) (k + 1) := by
      rw [loS_go hp]
      exact BLo_next hBl l84'
    have l84 : (chM C w p.1).length ≤ 84 := by have := hcb.1; have := hLb.1.2; omega
    refine kx_inner3 he ho hN hX hX3 hLk w01 l i ei hk3 el hl3 hp l84 (x7 := y) (fun q2 t hu2 hl2 et2 ft hXt hJt hTt h7 => ?_) 84 0 _ q1 y rfl (by omega) (Nat.zero_le _) hu1 hl1' et1' fy hXy hJy hcy hTy (fun c j _ => rfl)
    have pre := fun s (hs : s < T.1.length) => onS_pre (C := C) (w := w) (lim := lim) (M := p.1) hs k (chM C w p.1).length
    refine ih (k + 1) _ q2 t _ ei1 hm2 (by have := (pre k hkl).2; omega) hu2 hl2 et2 ft hXt hJt hTt ?_ ?_ ?_ (by rw [show 3001 - (k + 1) = 3000 - k by omega]; exact hb)
    · rw [show t.1 (o + 7) = y.1 (o + 7) from funext (fun f => h7 _ _ (by unfold sOv; omega))]
      exact FN3_T (fun s hs => (pre s (by omega)).1) hFy
    · rw [loS_T (fun s hs => (pre s (by omega)).1)]
      exact KLo_f h7 hLy
    · rw [loS_T (fun s hs => (pre s (by omega)).1)]
      exact hBy
theorem kx_explore3 (hu : kU q) (he : q.ex = true) (ho : kiT q o) (hC : CO x) (hK : CK x C) (hN : NC C) (hX : NXc C) (hX3 : NX3 C) (hLk : LkN C nl) (hq2 : NCq C) (en : (x.1 60 9).toInt = (nl : Nat)) (w01 : w = 0 ∨ w = 1) (l : Int32) (el : l.toInt = (lim : Nat)) (hl1 : 1 ≤ lim) (hl3 : lim ≤ 3000) (h : ∀ y q1, kU q1 → kle q q1 → q1.et = some o → fm (sEx o) x y → TZ y o → TO y q1 o → J3 C nl w y → KX3 C nl w y o (tryM C w lim) → FN3 C w (y.1 (o + 7)) (tryM C w lim) (tryM C w lim).1.length → KLo y o (loS C w nl (tryM C w lim) (tryM C w lim).1.length) → Fm y q1) : KM G q (d + 6) zk_X2_explore 0 [(0, vr 200), (1, vi (Int32.ofNat w)), (2, vi l), (3, vr o)] [] x (rm q Fm) X := by
  have hO := iT_O ho
  have k0 : (0 : Int32).toInt = 0 := rfl
  have hw : Int32.ofNat w = 0 ∨ Int32.ofNat w = 1 := by
    rcases w01 with e | e <;> rw [e]
    · exact Or.inl rfl
    · exact Or.inr rfl
  refine kg_X2_explore_0 hu he ho (Int32.ofNat w) l (fun q1 e1 hu1 hl1' u2 e2 => ⟨o, ?_, kle_T hl1' ho, ?_⟩)
  · rw [e2, e1]; exact et_r rfl
  have et1 : q1.et = some o := by rw [e1]; rfl
  have ho1 := kle_T hl1' ho
  have he1 := hl1'.2.1.2.1 he
  have hm1 : kiM q1 220 := Or.inr ⟨rfl, he1⟩
  refine kt_clear3 (d := d + 4) hu1.1 ho1 (oN_U hu1 o) _ (fun y fy y0 y3 y1 hzy hty yk y8 y9 x6 e6 => ?_)
  have f6 : fm (fun c k => c = 205) y x6 := by rw [e6]; exact fm_fl (fm_rf _ _) (fun k hk => rfl)
  have ac6 : agC x x6 := fun c k hc => by rw [f6 c k (by omega)]; exact fy c k (by unfold sTr; omega)
  have hC6 : CO x6 := CO_fm hC ac6
  have hK6 : CK x6 C := CK_f hK ac6
  refine kh_reset hu1.1 hm1 hC6 hK6 hN (Int32.ofNat w) hw (fun x7 hM7 f7 e7 g7 => ?_)
  have ac7 : agC x6 x7 := fun c k hc => f7 c k (by unfold sRe; omega)
  have hJ7 : J3 C nl w x7 := ⟨CK_f hK6 ac7, e7, by rw [ac7 60 9 (by omega), ac6 60 9 (by omega)]; exact en⟩
  have e70 : x7.1 o 0 = 0 := by rw [f7 o 0 (by unfold sRe; omega), f6 o 0 (by omega), y0]
  have e71 : x7.1 o 1 = 0 := by rw [f7 o 1 (by unfold sRe; omega), f6 o 1 (by omega), y1]
  have e75 : ∀ j, j < 8192 → x7.1 205 j = 0 := fun j hj => by rw [f7 205 j (by unfold sRe; omega), e6, sfl_get, if_pos ⟨rfl, hj⟩]
  have e77 : ∀ f, f < 11 → x7.1 (o + 7) f = -1 := fun f hf => by
    rw [f7 _ _ (by unfold sRe; omega), f6 _ _ (by omega)]
    rcases hzy.2.1 f hf with e | e
    · exact e
    · rw [y0, k0] at e; omega
  have hX7 : XI x7 q1 o := by
    refine ⟨⟨hM7.1, hM7.2.1⟩, ⟨TZ_fm f7 (by unfold sRe; omega) (fun c k hc => by unfold sRe; omega) (TZ_fm f6 (by omega) (fun c k hc => by omega) hzy), TO_fm f7 (by unfold sRe; omega) (fun k => by unfold sRe; omega) (TO_fm f6 (by omega) (fun k => by omega) hty)⟩, by rw [e70, k0]; omega, fun s hs => by rw [e70, k0] at hs; omega, fun j hj => ?_⟩
    rw [e75 j hj, e70, k0]
    omega
  have hT7 : KX3 C nl w x7 o ([], false) := by
    refine ⟨⟨by rw [e70, k0]; rfl, by rw [e71]; rfl⟩, fun s p hp => (nomatch hp), ⟨fun j hj => by rw [e75 j hj, k0]; exact ⟨Int.le_refl _, Int.le_refl _⟩, fun s hs => absurd hs (Nat.not_lt_zero _), ?_⟩, fun s p hp => (nomatch hp)⟩
    have : (List.range 8192).countP (fun j => decide (¬ x7.1 205 j = 0)) = 0 := List.countP_eq_zero.mpr (fun j hj => by rw [e75 j (List.mem_range.mp hj)]; decide)
    rw [this]; exact Nat.le_refl _
  refine kx_addState3 (d := d + 1) (A := 0) (B := 0) hu1 he1 ho1 et1 hX7 hM7 hJ7.1 hN hJ7.2.2 g7 MIv_fs MCn_fs NBm_fs hT7 _ _ l (Or.inl ⟨rfl, rfl⟩) el hl3 (fun x8 q9 hu9 hl9 et9 f8 hX8 hrow hT8 => ?_)
  have nw : ¬ ∃ p ∈ (([], false) : gTy).1, p.1 = fsM C := fun ⟨p, h1, _⟩ => nomatch h1
  have eT : adS lim 0 0 ([], false) (fsM C) = ([(fsM C, 0, 0)], false) := adS_new nw (by show ¬ lim ≤ 0; omega)
  rw [eT] at hT8
  obtain ⟨ac8, am8⟩ := sKe_C hO f8
  refine kx_outer3 he ho hN hX hX3 hLk hq2 w01 l el hl3 h 3000 0 _ q9 x8 _ rfl (by omega) (Nat.zero_le _) hu9 (kle_tr hl1' hl9) (by rw [et9]; exact et1) ?_ hX8 (J3_f ac8 am8 hJ7) hT8 (fun f hf => Or.inl ⟨by rw [f8 _ _ (by unfold sKe; omega)]; exact e77 f hf, fun s p hs => absurd hs (Nat.not_lt_zero _)⟩) ?_ ⟨Nat.le_refl _, Nat.le_refl _, Nat.le_refl _, Nat.le_refl _⟩ rfl
  rotate_left
  · have eL : ∀ c k, sOv o c k → x8.1 c k = y.1 c k := fun c k hc => by
      unfold sOv at hc
      rw [f8 _ _ (by unfold sKe; omega), f7 _ _ (by unfold sRe; omega), f6 _ _ (by omega)]
    refine KLo_f eL ⟨by rw [yk 2 (by omega)]; rfl, by rw [yk 4 (by omega)]; rfl, by rw [yk 5 (by omega)]; rfl, fun c hc => ?_, fun a ha => by rw [y9 a ha]; rfl, by rw [yk 3 (by omega)]; rfl, fun i r hr => by cases hr⟩
    rw [y8 c hc, i32_of en]; rfl
  exact fm_tr (fm_tr (fm_tr (fm_w fy (fun c k => ex_Tr)) (fm_w f6 (fun c k q => by unfold sEx; omega))) (fm_w f7 (fun c k => ex_Re))) (fm_w f8 (fun c k => ex_Ke))
end KALL
end
section
/-! a trying: each state comes from an earlier one by a choice; the way to it -/
def TW (C : gCo) (w : Nat) (T : gTy) : Prop := ∀ s p, T.1[s]? = some p → (s = 0 → p.1 = fsM C) ∧ (0 < s → p.2.1 < s ∧ ∃ p' ch, T.1[p.2.1]? = some p' ∧ (chM C w p'.1)[p.2.2]? = some ch ∧ p.1 = doM C w p'.1 ch)
/-- the choices that lead to a state -/
def pthF (T : gTy) : Nat → Nat → List Nat
  | 0, _ => []
  | _ + 1, 0 => []
  | f + 1, s + 1 => match T.1[s + 1]? with
    | none => []
    | some p => pthF T f p.2.1 ++ [p.2.2]
def pth (T : gTy) (s : Nat) : List Nat := pthF T s s
section PTW
variable {C : gCo} {M : gMa} {T T' : gTy} {w lim s i n m k f : Nat} {p : gMa × Nat × Nat}
theorem TW_ad (h : TW C w T) (hp : T.1[k]? = some p) {ch : gCh} (hc : (chM C w p.1)[i]? = some ch) : TW C w (adS lim k i T (doM C w p.1 ch)) := by
  by_cases c : ∃ q ∈ T.1, q.1 = doM C w p.1 ch
  · rw [adS_old c]; exact h
  · by_cases c2 : lim ≤ T.1.length
    · rw [adS_full c c2]; exact h
    · rw [adS_new c c2]
      have hk := gt_lt hp
      intro s r hr
      have hr : (T.1 ++ [(doM C w p.1 ch, k, i)])[s]? = some r := hr
      show _ ∧ (0 < s → r.2.1 < s ∧ ∃ p' ch', (T.1 ++ [(doM C w p.1 ch, k, i)])[r.2.1]? = some p' ∧ _)
      by_cases cs : s < T.1.length
      · rw [List.getElem?_append_left cs] at hr
        obtain ⟨h1, h2⟩ := h s r hr
        refine ⟨h1, fun s0 => ?_⟩
        obtain ⟨h3, p', ch', h4, h5⟩ := h2 s0
        exact ⟨h3, p', ch', by rw [List.getElem?_append_left (by omega)]; exact h4, h5⟩
      · have hl := gt_lt hr
        rw [List.length_append, List.length_singleton] at hl
        have es : s = T.1.length := by omega
        rw [es, List.getElem?_append_right (Nat.le_refl _), Nat.sub_self] at hr
        have hr : (doM C w p.1 ch, k, i) = r := Option.some.inj hr
        rw [← hr, es]
        refine ⟨fun z => by omega, fun _ => ⟨hk, p, ch, ?_, hc, rfl⟩⟩
        show (T.1 ++ _)[k]? = _
        rw [List.getElem?_append_left hk]; exact hp
theorem TW_on (h : TW C w T) (hp : T.1[k]? = some p) : ∀ n, n ≤ (chM C w p.1).length → TW C w (onS C w lim k p.1 n T) := by
  intro n
  induction n with
  | zero => intro _; exact h
  | succ n ih =>
    intro hn
    by_cases c : (onS C w lim k p.1 n T).2 = true
    · rw [onS, if_pos c]; exact ih (by omega)
    · have hch := List.getElem?_eq_getElem (show n < (chM C w p.1).length by omega)
      rw [onS_go c hch]
      exact TW_ad (ih (by omega)) (by rw [(onS_pre (gt_lt hp) k n).1]; exact hp) hch
theorem TW_bf : ∀ f s (T : gTy), TW C w T → TW C w (bfS C w lim f s T) := by
  intro f
  induction f with
  | zero => intro s T h; exact h
  | succ f ih =>
    intro s T h
    cases hs : T.1[s]? with
    | none => rw [bfS_end hs]; exact h
    | some p => rw [bfS_go hs]; exact ih _ _ (TW_on h hs _ (Nat.le_refl _))
theorem TW_try : TW C w (tryM C w lim) := TW_bf _ _ _ (fun s p hp => by
  cases s with
  | zero =>
    have hp : (fsM C, 0, 0) = p := Option.some.inj hp
    rw [← hp]
    exact ⟨fun _ => rfl, fun z => absurd z (Nat.lt_irrefl _)⟩
  | succ s => exact nomatch hp)
theorem pthF_eq (h : TW C w T) : ∀ f g s, s ≤ f → s ≤ g → pthF T f s = pthF T g s := by
  intro f
  induction f with
  | zero =>
    intro g s h1 h2
    rw [show s = 0 by omega]
    cases g <;> rfl
  | succ f ih =>
    intro g s h1 h2
    cases s with
    | zero => cases g <;> rfl
    | succ s =>
      cases g with
      | zero => omega
      | succ g =>
        rw [pthF, pthF]
        cases hs : T.1[s + 1]? with
        | none => rfl
        | some p =>
          have := ((h (s + 1) p hs).2 (by omega)).1
          show pthF T f p.2.1 ++ _ = pthF T g p.2.1 ++ _
          rw [ih g p.2.1 (by omega) (by omega)]
theorem pth_0 : pth T 0 = [] := rfl
theorem pth_s (h : TW C w T) (hs : 0 < s) (hp : T.1[s]? = some p) : pth T s = pth T p.2.1 ++ [p.2.2] := by
  have hl := ((h s p hp).2 hs).1
  obtain ⟨r, rfl⟩ : ∃ r, s = r + 1 := ⟨s - 1, by omega⟩
  unfold pth
  rw [pthF, hp]
  show pthF T r p.2.1 ++ _ = _
  rw [pthF_eq h r p.2.1 p.2.1 (by omega) (Nat.le_refl _)]
/-- the choices lead to it -/
theorem pth_run (h : TW C w T) : ∀ n s p, s ≤ n → T.1[s]? = some p → ∀ c : Nat → Nat, (∀ k v, (pth T s)[k]? = some v → c k = v) → runM C w c (pth T s).length = p.1 ∧ ∀ k, k < (pth T s).length → c k < (chM C w (runM C w c k)).length := by
  intro n
  induction n with
  | zero =>
    intro s p hs hp c hc
    have e : s = 0 := by omega
    rw [e] at hp ⊢
    exact ⟨((h 0 p hp).1 rfl).symm, fun k hk => absurd hk (Nat.not_lt_zero _)⟩
  | succ n ih =>
    intro s p hs hp c hc
    by_cases s0 : s = 0
    · rw [s0] at hp ⊢
      exact ⟨((h 0 p hp).1 rfl).symm, fun k hk => absurd hk (Nat.not_lt_zero _)⟩
    · obtain ⟨hl, p', ch, h1, h2, h3⟩ := (h s p hp).2 (by omega)
      have e := pth_s h (by omega) hp
      rw [e] at hc ⊢
      have cl : c (pth T p.2.1).length = p.2.2 := hc _ _ (by rw [List.getElem?_append_right (Nat.le_refl _), Nat.sub_self]; rfl)
      obtain ⟨i1, i2⟩ := ih p.2.1 p' (by omega) h1 c (fun k v hk => hc k v (by rw [List.getElem?_append_left (gt_lt hk)]; exact hk))
      rw [List.length_append, List.length_singleton]
      have hch : (chM C w (runM C w c (pth T p.2.1).length))[c (pth T p.2.1).length]? = some ch := by rw [i1, cl]; exact h2
      refine ⟨by rw [runM_s hch, i1, h3], fun k hk => ?_⟩
      by_cases e9 : k = (pth T p.2.1).length
      · rw [e9]; exact gt_lt hch
      · exact i2 k (by omega)
end PTW
section KPTH
variable {x : gd} {C : gCo} {T : gTy} {w nl o s : Nat} {p : gMa × Nat × Nat}
end KPTH
end
section
/-! the class: show() does the choices that lead to a state -/
def PA3 (x : gd) (o : Nat) (T : gTy) : Prop := ∀ s p, T.1[s]? = some p → (s = 0 → (x.1 (o + 12) 0).toInt = 0) ∧ (0 < s → p.2.1 < s ∧ (x.1 (o + 10) s).toInt = (p.2.1 : Nat) ∧ (x.1 (o + 11) s).toInt = (p.2.2 : Nat) ∧ (x.1 (o + 12) s).toInt = (x.1 (o + 12) p.2.1).toInt + 1)
/-- what a trying has told -/
def TRo (C : gCo) (w : Nat) (x : gd) (o : Nat) (T : gTy) : Prop := ((x.1 o 0).toInt = (T.1.length : Nat) ∧ x.1 o 1 = if T.2 = true then 1 else 0) ∧ PA3 x o T ∧ FN3 C w (x.1 (o + 7)) T T.1.length
section KSH
variable {G : kG} {q : kP} {d : Nat} {x y z : gd} {o : Nat} {F : Int32 → gd → Prop} {Fv : gd → Prop} {P : Option gv → gd → Prop} {X : String → gd → Prop} {C : gCo} {T : gTy} {nl w n : Nat} {c : Nat → Nat}
theorem TRo_of (h : KX3 C nl w x o T) (g : FN3 C w (x.1 (o + 7)) T T.1.length) : TRo C w x o T := ⟨h.1, h.2.2.2, g⟩
theorem TRo_f (e0 : y.1 o 0 = x.1 o 0) (e1 : y.1 o 1 = x.1 o 1) (e : ∀ c k, c = o + 7 ∨ c = o + 10 ∨ c = o + 11 ∨ c = o + 12 → y.1 c k = x.1 c k) (h : TRo C w x o T) : TRo C w y o T := by
  obtain ⟨h1, h2, h3⟩ := h
  refine ⟨by rw [e0, e1]; exact h1, fun s p hp => ?_, ?_⟩
  · rw [e _ _ (by omega), e _ _ (by omega), e _ _ (by omega), e _ _ (by omega), e _ _ (by omega)]; exact h2 s p hp
  · rw [show y.1 (o + 7) = x.1 (o + 7) from funext (fun k => e _ _ (by omega))]; exact h3
theorem PA_d (h : TW C w T) (g : PA3 x o T) : ∀ n s p, s ≤ n → T.1[s]? = some p → (x.1 (o + 12) s).toInt = ((pth T s).length : Nat) := by
  intro n
  induction n with
  | zero =>
    intro s p hs hp
    have e : s = 0 := by omega
    rw [e] at hp ⊢
    exact (g 0 p hp).1 rfl
  | succ n ih =>
    intro s p hs hp
    by_cases s0 : s = 0
    · rw [s0] at hp ⊢
      exact (g 0 p hp).1 rfl
    · obtain ⟨a1, a2, a3, a4⟩ := (g s p hp).2 (by omega)
      obtain ⟨hl, p', ch, h1, h2, h3⟩ := (h s p hp).2 (by omega)
      rw [a4, ih p.2.1 p' (by omega) h1, pth_s h (by omega) hp, List.length_append, List.length_singleton]
      rfl
theorem kt_pathTo3 (hq : kV q) (ho : kiT q o) {a : Nat} (ka : kK a = .inr (.int, 400)) (ma : a ∈ (kf q).2.1) (hoa : a < o) (s : Int32) {S : Nat} (es : s.toInt = S) {p : gMa × Nat × Nat} (hp : T.1[S]? = some p) (hW : TW C w T) (hA : PA3 x o T) (hT3 : T.1.length ≤ 3000) (h4 : (pth T S).length ≤ 400) (h : ∀ y, fm (fun c k => c = a) x y → (∀ k v, (pth T S)[k]? = some v → (y.1 a k).toInt = (v : Nat)) → Fv y) : KT G q d zk_X10_pathTo 0 [(0, vr o), (1, vi s), (2, vr a)] [] x (rv Fv) := by
  have k1 : (1 : Int32).toInt = 1 := rfl
  have km : (-1 : Int32).toInt = -1 := rfl
  have k0 : (0 : Int32).toInt = 0 := rfl
  have k4 : (Int32.ofNat 400).toInt = 400 := rfl
  have loop : ∀ (n : Nat) (u i : Int32) (U : Nat) (p9 : gMa × Nat × Nat) (r : List Nat) (y : gd), i.toInt = (n : Int) - 1 → u.toInt = U → T.1[U]? = some p9 → (pth T U).length = n → pth T S = pth T U ++ r → fm (fun c k => c = a) x y → (∀ j v, r[j]? = some v → (y.1 a (n + j)).toInt = (v : Nat)) → KT G q d zk_X10_pathTo 12 [(0, vr o), (2, vr a), (3, vi u), (4, vi i)] [] y (rv Fv) := by
    intro n
    induction n with
    | zero =>
      intro u i U p9 r y ei eu hU hl hr fy hy
      have e0 : pth T U = [] := List.eq_nil_of_length_eq_zero hl
      rw [e0, List.nil_append] at hr
      refine kg_X10_pathTo_12 hq ho ka ma _ _ ⟨fun _ => rv_i (h y fy (fun k v hk => ?_)), fun c => ?_⟩
      · rw [hr] at hk
        have := hy k v hk
        rw [Nat.zero_add] at this
        exact this
      · rw [t_lt, k0] at c; omega
    | succ n ih =>
      intro u i U p9 r y ei eu hU hl hr fy hy
      have hlen : (pth T S).length = (n + 1) + r.length := by rw [hr, List.length_append, hl]
      have U0 : 0 < U := by
        apply Classical.byContradiction
        intro c
        rw [show U = 0 by omega, pth_0] at hl
        cases hl
      obtain ⟨a1, a2, a3, a4⟩ := (hA U p9 hU).2 U0
      obtain ⟨hlt, p', ch, g1, g2, g3⟩ := (hW U p9 hU).2 U0
      have ps := pth_s hW U0 hU
      have hUl := gt_lt hU
      have vu : vp_in u 3000 := by rw [vp_in_iff]; omega
      refine kg_X10_pathTo_12 hq ho ka ma _ _ ⟨fun c => ?_, fun c => ⟨fun c2 => ?_, fun c2 => ⟨vu, ?_, fun z ez => ⟨vu, ?_⟩⟩⟩⟩
      · rw [t_lt, k0] at c; push_cast at ei; omega
      · rw [t_le, k4] at c2
        push_cast at ei; omega
      · rw [vp_in_iff]; push_cast at ei; omega
      have eU : u.toNatClampNeg = U := by rw [t_cl, eu]; rfl
      have eI : i.toNatClampNeg = n := by rw [t_cl, ei]; push_cast; omega
      have fz : fm (fun c k => c = a) x z := by rw [ez]; exact fm_si fy rfl
      rw [eU, fz (o + 10) _ (by omega)]
      obtain ⟨i2, hi2⟩ : ∃ i2, i2 = i + -1 := ⟨_, rfl⟩
      rw [← hi2]
      have ei1 : i2.toInt = (n : Int) - 1 := by rw [hi2, t_add (by rw [km]; push_cast at ei; omega) (by rw [km]; push_cast at ei; omega), km, ei]; push_cast; omega
      clear hi2
      have hl' : (pth T p9.2.1).length = n := by rw [ps, List.length_append, List.length_singleton] at hl; omega
      refine ih _ _ p9.2.1 p' (p9.2.2 :: r) z ei1 a2 g1 hl' (by rw [hr, ps, List.append_assoc]; rfl) fz (fun j v hj => ?_)
      cases j with
      | zero =>
        have hj : p9.2.2 = v := Option.some.inj hj
        rw [ez, si_get, if_pos ⟨rfl, by rw [eI]; rfl⟩, eU, fy (o + 11) _ (by omega), ← hj]
        exact a3
      | succ j =>
        have hj : r[j]? = some v := hj
        have := hy j v hj
        rw [ez, si_get, if_neg (fun z => by have := z.2; omega), show n + (j + 1) = n + 1 + j by omega]
        exact this
  have eS : s.toNatClampNeg = S := by rw [t_cl, es]; rfl
  have dd := PA_d hW hA S S p (Nat.le_refl _) hp
  have hSl := gt_lt hp
  refine kg_X10_pathTo_0 hq ho ka ma _ ⟨by rw [vp_in_iff]; omega, ?_⟩
  rw [eS]
  refine loop (pth T S).length _ _ S p [] x ?_ es hp rfl (List.append_nil _).symm (fm_rf _ _) (fun j v hj => nomatch hj)
  rw [t_sub (by rw [k1]; omega) (by rw [k1]; omega), k1, dd]
end KSH
end
section
/-! the class: show() -/
section KSW
variable {G : kG} {q : kP} {d : Nat} {x y z : gd} {o : Nat} {F : Int32 → gd → Prop} {Fv : gd → Prop} {P : Option gv → gd → Prop} {X : String → gd → Prop} {C : gCo} {T : gTy} {nl w n : Nat} {c : Nat → Nat}
theorem k7_w {k : Nat} (h : (kf q).1 7 k = some o) : (k = 0 ∨ k = 1) ∧ o = 260 + 20 * k := by
  have h : kR q 7 k = some o := h
  unfold kR at h
  rw [if_neg (by omega), if_neg (by omega), if_pos rfl] at h
  by_cases e0 : k = 0
  · rw [if_pos e0] at h
    by_cases e : q.t0 = true
    · rw [if_pos e] at h; cases h; exact ⟨Or.inl e0, by omega⟩
    · rw [if_neg e] at h; cases h
  · rw [if_neg e0] at h
    by_cases e1 : k = 1
    · rw [if_pos e1] at h
      by_cases e : q.t1 = true
      · rw [if_pos e] at h; cases h; exact ⟨Or.inr e1, by omega⟩
      · rw [if_neg e] at h; cases h
    · rw [if_neg e1] at h; cases h
theorem w_nat {l : Int32} (hw : l = 0 ∨ l = 1) : ∃ w : Nat, (w = 0 ∨ w = 1) ∧ l = Int32.ofNat w ∧ l.toNatClampNeg = w := by
  rcases hw with e | e
  · exact ⟨0, Or.inl rfl, e, by rw [e]; rfl⟩
  · exact ⟨1, Or.inr rfl, e, by rw [e]; rfl⟩
theorem kh_was (hq : kV q) (hH : HOI x q) (l : Int32) (w01 : w = 0 ∨ w = 1) (el : l = Int32.ofNat w) (h0 : x.1 (260 + 20 * w) 0 = 0 → F 0 x) (h1 : (kf q).1 7 w = some (260 + 20 * w) → kiT q (260 + 20 * w) → TZ x (260 + 20 * w) → CO x → ¬ x.1 (260 + 20 * w) 0 = 0 → F 1 x) : KT G q d zk_X11_wasTried 0 [(0, vr 0), (1, vi l)] [] x (ri F) := by
  have k0 : (0 : Int32).toInt = 0 := rfl
  have hw : l = 0 ∨ l = 1 := by
    rcases w01 with e | e <;> rw [el, e]
    · exact Or.inl rfl
    · exact Or.inr rfl
  have ew : l.toNatClampNeg = w := by rcases w01 with e | e <;> rw [el, e] <;> rfl
  have v := way_in hw
  have hO : 260 + 20 * w = 260 ∨ 260 + 20 * w = 280 := by omega
  refine kg_X11_wasTried_0 hq l ⟨v, fun u2 e2 => ⟨fun hn => ri_i (h0 ?_), fun c4 h4 => ⟨v, fun u6 e6 => ⟨c4, by rw [e6, ← e2, h4], k7_T (by rw [← e2, h4]), ?_⟩⟩⟩⟩
  · refine (hH.2.2.2 _ hO).2 (fun z => ?_)
    rw [ew] at e2
    have : (kf q).1 7 w = some (260 + 20 * w) := by
      show kR q 7 w = _
      unfold kR
      rw [if_neg (by omega), if_neg (by omega), if_pos rfl]
      rcases w01 with e | e
      · rcases z with ⟨-, z⟩ | ⟨z, -⟩
        · rw [if_pos e, if_pos z, e]
        · omega
      · rcases z with ⟨z, -⟩ | ⟨-, z⟩
        · omega
        · rw [if_neg (by omega), if_pos e, if_pos z, e]
    rw [← e2, hn] at this
    cases this
  · rw [h4] at e2
    have e2 : (kf q).1 7 l.toNatClampNeg = some c4 := e2.symm
    rw [ew] at e2
    obtain ⟨-, ec⟩ := k7_w e2
    have ho := k7_T e2
    rw [ec] at e2 ho ⊢
    obtain ⟨⟨t1, t2⟩, -⟩ := hH.2.2.2 _ hO
    have nn : 0 ≤ (x.1 (260 + 20 * w) 0).toInt := by
      rcases t2 with e | ⟨a, b⟩
      · rw [e]; exact Int.le_refl _
      · exact a.1.1
    refine ⟨fun c => ri_i (h0 ?_), fun c => ri_i ?_⟩
    · rw [t_le, k0] at c; rw [t_eq, k0]; omega
    · have nz : ¬ x.1 (260 + 20 * w) 0 = 0 := fun z => c (by rw [z, t_le]; exact Int.le_refl _)
      rcases t2 with e | ⟨a, b⟩
      · exact absurd e nz
      · exact h1 e2 ho a b nz
theorem kh_fnd (hq : kV q) (l : Int32) (hA : ¬ (0 ≤ l.toInt ∧ l.toInt < 11) → X iAE x) (h : 0 ≤ l.toInt → l.toInt < 11 → Fv x) : KE G q (d + 6) zk_X11_needFinding 0 [(0, vi l)] [] x (rv Fv) X := by
  have k0 : (0 : Int32).toInt = 0 := rfl
  have k11 : (11 : Int32).toInt = 11 := rfl
  refine kg_X11_needFinding_0 hq l ⟨fun c => kg_X11_needFinding_10 hq (hA ?_), fun c => ⟨fun c2 => rv_i (h ?_ ?_), fun c2 => kg_X11_needFinding_10 hq (hA ?_)⟩⟩
  · rw [t_lt, k0] at c; omega
  · rw [t_lt, k0] at c; omega
  · rw [t_lt, k11] at c2; exact c2
  · rw [t_lt, k11] at c2; omega
/-- the first state that shows a finding -/
def fsF (C : gCo) (w : Nat) (T : gTy) (f s : Nat) : Prop := ∃ p, T.1[s]? = some p ∧ fnM C w p.1 f ∧ ∀ s' p', s' < s → T.1[s']? = some p' → ¬ fnM C w p'.1 f
theorem kh_show {Tw : Nat → gTy} (hq : kV q) (hH : HOI x q) (l1 l2 : Int32) (hT : ∀ w, (w = 0 ∨ w = 1) → ¬ x.1 (260 + 20 * w) 0 = 0 → (CK x C ∧ GC C ∧ NX3 C) ∧ TRo C w x (260 + 20 * w) (Tw w) ∧ TW C w (Tw w)) (hA : ¬ ((l1 = 0 ∨ l1 = 1) ∧ 0 ≤ l2.toInt ∧ l2.toInt < 11) → X iAE x) (hS : ∀ w, (w = 0 ∨ w = 1) → l1 = Int32.ofNat w → 0 ≤ l2.toInt → l2.toInt < 11 → (x.1 (260 + 20 * w) 0 = 0 ∨ (¬ x.1 (260 + 20 * w) 0 = 0 ∧ ∀ s, fsF C w (Tw w) l2.toInt.toNat s → 400 < (pth (Tw w) s).length)) → X iSE x) (hP : ∀ w s y, (w = 0 ∨ w = 1) → l1 = Int32.ofNat w → 0 ≤ l2.toInt → l2.toInt < 11 → ¬ x.1 (260 + 20 * w) 0 = 0 → fsF C w (Tw w) l2.toInt.toNat s → (pth (Tw w) s).length ≤ 400 → HOI y q → fm sRn x y → (∀ c, (∀ k v, (pth (Tw w) s)[k]? = some v → c k = v) → KRun C w (pth (Tw w) s).length c y) → y.1 0 10 = 1 → P (some (vi (Int32.ofNat (pth (Tw w) s).length))) y) : KE G q (d + 7) zk_X11_show 0 [(0, vr 0), (1, vi l1), (2, vi l2)] [] x P X := by
  have k1 : (1 : Int32).toInt = 1 := rfl
  have k4 : (400 : Int32).toInt = 400 := rfl
  refine kg_X11_show_0 hq l1 l2 (kf_way hq l1 (fun z => hA (fun z2 => z z2.1)) (fun hw => kh_fnd hq l2 (fun z => hA (fun z2 => z z2.2)) (fun f0 f11 => ?_)))
  obtain ⟨w, w01, ew, ewn⟩ := w_nat hw
  obtain ⟨o, eo⟩ : ∃ o, o = 260 + 20 * w := ⟨_, rfl⟩
  have hO : o = 260 ∨ o = 280 := by omega
  have hS := hS w w01 ew f0 f11
  refine kg_X11_firstState_0 hq l1 l2 (kh_was (w := w) hq hH l1 w01 ew (fun c0 => ⟨fun _ => ?_, fun c => absurd rfl c⟩) (fun e7 ho hz hC nz => ⟨fun c => absurd c (by decide), fun _ => ⟨way_in hw, fun u5 e5 => ⟨o, by rw [e5, ewn, e7, eo], by rw [eo]; exact ho, by rw [vp_in_iff]; omega, ?_⟩⟩⟩))
  · exact ri_i ⟨fun c => absurd rfl c, fun _ => hS (Or.inl c0)⟩
  obtain ⟨⟨hK, gc, hX3⟩, hTR, hTW⟩ := hT w w01 nz
  rw [← eo] at e7 ho hz nz hTR hS
  have hP := hP w
  rw [← eo] at hP
  have F2 : l2.toNatClampNeg = l2.toInt.toNat := rfl
  obtain ⟨⟨t0, -⟩, hPA, hFN⟩ := hTR
  have ff := hFN l2.toInt.toNat (by omega)
  rw [F2]
  refine ri_i ⟨fun c => ?_, fun c => hS (Or.inr ⟨nz, fun s hs => ?_⟩)⟩
  rotate_left
  · rcases ff with ⟨-, g2⟩ | ⟨s9, p9, -, g2, -⟩
    · obtain ⟨p, a1, a2, -⟩ := hs
      exact absurd a2 (g2 s p (gt_lt a1) a1)
    · rw [c, tm1] at g2; omega
  rcases ff with ⟨g1, -⟩ | ⟨s, p, g1, g2, g3, g4, g5⟩
  · exact absurd g1 c
  have hfs : fsF C w (Tw w) l2.toInt.toNat s := ⟨p, g3, g4, g5⟩
  have dd := PA_d hTW hPA s s p (Nat.le_refl _) g3
  have hsl := gt_lt g3
  have b3 := hz.1.2
  obtain ⟨r, er⟩ : ∃ r, r = x.1 (o + 7) l2.toInt.toNat := ⟨_, rfl⟩
  rw [← er] at c g2 ⊢
  have rS : r.toNatClampNeg = s := by rw [t_cl, g2]; rfl
  refine ⟨way_in hw, fun u7 e => ⟨o, by rw [e, ewn, e7], ho, by rw [vp_in_iff]; omega, ?_⟩⟩
  rw [rS]
  refine ⟨fun c4 => ⟨way_in hw, fun u13 e13 => ⟨o, by rw [e13, ewn, e7], ho, ?_⟩⟩, fun c4 => hS (Or.inr ⟨nz, fun s9 hs9 => ?_⟩)⟩
  rotate_left
  · obtain ⟨p9, b1, b2, b3⟩ := hs9
    have : s9 = s := by
      apply Classical.byContradiction
      intro ne
      by_cases lt : s9 < s
      · exact g5 s9 p9 lt b1 b2
      · exact b3 s p (by omega) g3 g4
    rw [this]
    rw [t_le, k4, dd] at c4
    omega
  rw [t_le, k4, dd] at c4
  have l4 : (pth (Tw w) s).length ≤ 400 := by omega
  obtain ⟨c9, hc9⟩ : ∃ c9 : Nat → Nat, ∀ k v, (pth (Tw w) s)[k]? = some v → c9 k = v := ⟨fun k => ((pth (Tw w) s)[k]?).getD 0, fun k v hk => congrArg (fun z : Option Nat => z.getD 0) hk⟩
  obtain ⟨r1, r2⟩ := pth_run hTW s s p (Nat.le_refl _) g3 c9 hc9
  have far : x.1 (o + 12) s = Int32.ofNat (pth (Tw w) s).length := i32_of dd
  refine kt_pathTo3 hq ho kk_162 (kl_162 hq) (by omega) r (S := s) g2 g3 hTW hPA (by omega) l4 (fun y fy hy => ?_)
  rw [far, ew]
  have f1 : fm sRn x y := fm_w fy (fun c k q => by unfold sRn; omega)
  have loop : ∀ (n k : Nat) (i : Int32) (y : gd), i.toInt = k → (pth (Tw w) s).length - k ≤ n → k ≤ (pth (Tw w) s).length → fm sRn x y → KRun C w k c9 y → (∀ j, k ≤ j → j < (pth (Tw w) s).length → (y.1 162 j).toInt = (c9 j : Nat)) → y.1 0 10 = 1 → KE G q (d + 7) zk_X11_show 88 [(0, vr 0), (4, vi (Int32.ofNat (pth (Tw w) s).length)), (5, vi i)] [] y P X := by
    have e4 : (Int32.ofNat (pth (Tw w) s).length).toInt = ((pth (Tw w) s).length : Nat) := by rw [← far]; exact dd
    intro n
    have fin : ∀ (k : Nat) (y : gd), k = (pth (Tw w) s).length → fm sRn x y → KRun C w k c9 y → y.1 0 10 = 1 → P (some (vi (Int32.ofNat (pth (Tw w) s).length))) y := fun k y ek fy hR h10 => by
      rw [ek] at hR
      refine hP s y w01 ew f0 f11 nz hfs l4 (HOI_run fy hR.1 hH) fy (fun c hc => KRun_cg (fun k hk => ?_) hR) h10
      have hg := List.getElem?_eq_getElem hk
      rw [hc9 k _ hg, hc k _ hg]
    induction n with
    | zero =>
      intro k i y ei hn hk fy hR hj h10
      refine kg_X11_show_88 hq _ i ⟨fun _ => fin k y (by omega) fy hR h10, fun cc => ?_⟩
      rw [t_le, e4] at cc; omega
    | succ n ih =>
      intro k i y ei hn hk fy hR hj h10
      refine kg_X11_show_88 hq _ i ⟨fun cc => fin k y ?_ fy hR h10, fun cc => ?_⟩
      · rw [t_le, e4] at cc; omega
      rw [t_le, e4] at cc
      have hkl : k < (pth (Tw w) s).length := by omega
      have iK : i.toNatClampNeg = k := by rw [t_cl, ei]; rfl
      rw [iK]
      refine ⟨by rw [vp_in_iff]; omega, kh_doChoice hq (CK_f hK (fun c k hc => fy c k (by unfold sRn; omega))) gc hX3 hR _ (hj k (Nat.le_refl _) hkl) (r2 k hkl) (by omega) rfl (fun z fz hRz h162 hz10 => ih (k + 1) _ z (by rw [t_add (by rw [k1]; omega) (by rw [k1]; omega), k1, ei]; rfl) (by omega) hkl (fm_tr fy fz) hRz (fun j h1 h2 => by rw [h162 j (by omega)]; exact hj j (by omega) h2) (by rw [hz10]; exact h10))⟩
  exact kh_beginRun hq (CO_fm hC (fun c k hc => fy c k (by omega))) (CK_f hK (fun c k hc => fy c k (by omega))) gc w01 c9 (fun z fz hRz h162 h10 => loop _ 0 _ z rfl (Nat.le_refl _) (Nat.zero_le _) (fm_tr f1 fz) hRz (fun j _ h2 => by
    rw [h162 j]
    have hg := List.getElem?_eq_getElem h2
    rw [hy j _ hg, hc9 j _ hg]) h10)
end KSW
end
