section
/-! the class: all states, one after another, with what they are -/
/-- of each finding the first state that shows it, of the first k -/
def FN3 (C : gCo) (w : Nat) (x7 : Nat → Int32) (T : gTy) (k : Nat) : Prop := ∀ f, f < 11 → (x7 f = -1 ∧ ∀ s p, s < k → T.1[s]? = some p → ¬ fnM C w p.1 f) ∨ ∃ s p, s < k ∧ (x7 f).toInt = (s : Nat) ∧ T.1[s]? = some p ∧ fnM C w p.1 f ∧ ∀ s' p', s' < s → T.1[s']? = some p' → ¬ fnM C w p'.1 f
def sKX (o c k : Nat) : Prop := c = 225 ∨ (c = 220 ∧ (k = 13 ∨ k = 14)) ∨ (231 ≤ c ∧ c ≤ 233) ∨ c = 209 ∨ c = 210 ∨ c = 240 ∨ (c = o ∧ 2 ≤ k ∧ k ≤ 5) ∨ c = o + 7 ∨ c = o + 8 ∨ c = o + 9 ∨ c = o + 14 ∨ ((o = 260 ∧ 4000 ≤ c ∧ c < 7000) ∨ (o = 280 ∧ 7000 ≤ c)) ∨ (c = 60 ∧ k = 5) ∨ c = 65
section PEX
variable {C : gCo} {M : gMa} {T T' : gTy} {w lim s i n m k : Nat} {x7 y7 : Nat → Int32}
theorem adS_pre (h : s < T.1.length) (a b : Nat) : (adS lim a b T M).1[s]? = T.1[s]? ∧ T.1.length ≤ (adS lim a b T M).1.length := by
  by_cases c : ∃ q ∈ T.1, q.1 = M
  · rw [adS_old c]; exact ⟨rfl, Nat.le_refl _⟩
  · by_cases c2 : lim ≤ T.1.length
    · rw [adS_full c c2]; exact ⟨rfl, Nat.le_refl _⟩
    · rw [adS_new c c2]
      refine ⟨List.getElem?_append_left h, ?_⟩
      show _ ≤ (T.1 ++ _).length
      rw [List.length_append]; omega
theorem onS_pre (h : s < T.1.length) (a : Nat) : ∀ n, (onS C w lim a M n T).1[s]? = T.1[s]? ∧ T.1.length ≤ (onS C w lim a M n T).1.length := by
  intro n
  induction n with
  | zero => exact ⟨rfl, Nat.le_refl _⟩
  | succ n ih =>
    rw [onS]
    split
    · exact ih
    · obtain ⟨i1, i2⟩ := ih
      obtain ⟨j1, j2⟩ := adS_pre (lim := lim) (M := doM C w M (((chM C w M)[n]?).getD (0, none, none))) (s := s) (T := onS C w lim a M n T) (by omega) a n
      exact ⟨j1.trans i1, Nat.le_trans i2 j2⟩
theorem onS_stop (h : (onS C w lim k M n T).2 = true) : ∀ m, n ≤ m → onS C w lim k M m T = onS C w lim k M n T := by
  intro m
  induction m with
  | zero => intro hm; rw [show n = 0 by omega]
  | succ m ih =>
    intro hm
    by_cases c : n = m + 1
    · rw [c]
    · have e := ih (by omega)
      rw [onS, e, if_pos h]
theorem onS_go (h : ¬ (onS C w lim k M n T).2 = true) {ch : gCh} (hc : (chM C w M)[n]? = some ch) : onS C w lim k M (n + 1) T = adS lim k n (onS C w lim k M n T) (doM C w M ch) := by
  rw [onS, if_neg h, hc]
  rfl
theorem FN3_T (h : ∀ s, s < k → T'.1[s]? = T.1[s]?) (g : FN3 C w x7 T k) : FN3 C w x7 T' k := by
  intro f hf
  rcases g f hf with ⟨g1, g2⟩ | ⟨s, p, g1, g2, g3, g4, g5⟩
  · exact Or.inl ⟨g1, fun s p hs hp => g2 s p hs (by rw [← h s hs]; exact hp)⟩
  · exact Or.inr ⟨s, p, g1, g2, by rw [h s g1]; exact g3, g4, fun s' p' hs' hp' => g5 s' p' hs' (by rw [← h s' (by omega)]; exact hp')⟩
theorem FN3_next {p : gMa × Nat × Nat} {v : Int32} (ev : v.toInt = (k : Nat)) (hp : T.1[k]? = some p) (g : FN3 C w x7 T k) (h : ∀ f, f < 11 → (fD C w p.1 11 f ∧ x7 f = -1 ∧ y7 f = v) ∨ (¬ (fD C w p.1 11 f ∧ x7 f = -1) ∧ y7 f = x7 f)) : FN3 C w y7 T (k + 1) := by
  intro f hf
  rcases h f hf with ⟨h1, h2, h3⟩ | ⟨h1, h3⟩
  · refine Or.inr ⟨k, p, by omega, by rw [h3]; exact ev, hp, h1.2, fun s' p' hs' hp' => ?_⟩
    rcases g f hf with ⟨-, g2⟩ | ⟨s, p9, -, g2, -⟩
    · exact g2 s' p' hs' hp'
    · rw [h2, tm1] at g2; omega
  · rw [h3]
    rcases g f hf with ⟨g1, g2⟩ | ⟨s, p9, g1, g2⟩
    · refine Or.inl ⟨g1, fun s' p' hs' hp' => ?_⟩
      by_cases e : s' = k
      · rw [e, hp] at hp'
        rw [← Option.some.inj hp']
        exact fun z => h1 ⟨⟨hf, z⟩, g1⟩
      · exact g2 s' p' (by omega) hp'
    · exact Or.inr ⟨s, p9, by omega, g2⟩
end PEX
/-- where what is told of all states lies -/
def sOv (o c k : Nat) : Prop := (c = o ∧ 2 ≤ k ∧ k ≤ 5) ∨ c = o + 7 ∨ c = o + 8 ∨ c = o + 9 ∨ c = o + 14 ∨ 4000 ≤ c
def SOv (o : Nat) (x y : gd) : Prop := ∀ c k, sOv o c k → y.1 c k = x.1 c k
def KLo (x : gd) (o : Nat) (l : gLo) : Prop := (x.1 o 2).toInt = (l.1 : Nat) ∧ (x.1 o 4).toInt = (l.2.1 : Nat) ∧ (x.1 o 5).toInt = (l.2.2.1 : Nat) ∧ (∀ c, c < 24 → x.1 (o + 8) c = l.2.2.2.1 c) ∧ (∀ a, a < 6 → x.1 (o + 9) a = l.2.2.2.2.1 a) ∧ OUk x o l.2.2.2.2.2
/-- how many they may be -/
def BLo (l : gLo) (k : Nat) : Prop := l.1 ≤ k ∧ l.2.1 ≤ k ∧ l.2.2.1 ≤ 84 * k ∧ l.2.2.2.2.2.length ≤ k
section KLOX
variable {G : kG} {q : kP} {d : Nat} {x y z : gd} {o k : Nat} {Fv : gd → Prop} {C : gCo} {M : gMa} {nl w : Nat} {l : gLo}
theorem kt_clear3 (hq : kV q) (ho : kiT q o) (hN : oN q o ≤ 3000) (l : Int32) (h : ∀ y, fm (sTr o) x y → y.1 o 0 = 0 → y.1 o 3 = 0 → y.1 o 1 = 0 → TZ y o → TO y q o → (∀ k, k < 6 → y.1 o k = 0) → (∀ c, c < 24 → y.1 (o + 8) c = l) → (∀ a, a < 6 → y.1 (o + 9) a = 0) → Fv y) : KT G q (d + 1) zk_X10_clear 0 [(0, vr o), (1, vi l)] [] x (rv Fv) := by
  have k0 : (0 : Int32).toInt = 0 := rfl
  refine kg_X10_clear_0 hq ho _ (fun x1 e1 x2 e2 x3 e3 x4 e4 x5 e5 x6 e6 x7 e7 x8 e8 z ez => ?_)
  have c0 : ∀ k, k < 6 → z.1 o k = 0 := by
    intro k hk
    have g : z.1 o k = x6.1 o k := by rw [ez, sfl_get, if_neg (by omega), e8, sfl_get, if_neg (by omega), e7, sfl_get, if_neg (by omega)]
    rw [g, e6, si_get]
    split
    · rfl
    rw [e5, si_get]
    split
    · rfl
    rw [e4, si_get]
    split
    · rfl
    rw [e3, si_get]
    split
    · rfl
    rw [e2, si_get]
    split
    · rfl
    rw [e1, si_get]
    split
    · rfl
    omega
  have z0 := c0 0 (by omega)
  have z3 := c0 3 (by omega)
  refine rv_i (h z ?_ z0 z3 (c0 1 (by omega)) ?_ ?_ c0 (fun c hc => by rw [ez, sfl_get, if_neg (by omega), e8, sfl_get, if_pos ⟨rfl, hc⟩]) (fun a ha => by rw [ez, sfl_get, if_pos ⟨rfl, ha⟩]))
  · rw [ez, e8, e7, e6, e5, e4, e3, e2, e1]
    refine fm_fl (fm_fl (fm_fl (fm_si (fm_si (fm_si (fm_si (fm_si (fm_si (fm_rf _ _) ?_) ?_) ?_) ?_) ?_) ?_) ?_) ?_) ?_ <;> (try intro k _) <;> unfold sTr <;> omega
  · unfold TZ; rw [z0, k0]
    refine ⟨by omega, fun g hg => Or.inl ?_, fun s hs => by omega⟩
    rw [ez, sfl_get, if_neg (by omega), e8, sfl_get, if_neg (by omega), e7, sfl_get, if_pos ⟨rfl, hg⟩]
  · unfold TO; rw [z3, k0]
    exact ⟨by omega, fun i hi => by omega⟩
theorem KLo_f (e : SOv o x y) (h : KLo x o l) : KLo y o l := by
  obtain ⟨h1, h2, h3, h4, h5, h6⟩ := h
  refine ⟨by rw [e _ _ (by unfold sOv; omega)]; exact h1, by rw [e _ _ (by unfold sOv; omega)]; exact h2, by rw [e _ _ (by unfold sOv; omega)]; exact h3, fun c hc => by rw [e _ _ (by unfold sOv; omega)]; exact h4 c hc, fun a ha => by rw [e _ _ (by unfold sOv; omega)]; exact h5 a ha, OUk_f (e _ _ (by unfold sOv; omega)) (fun k => e _ _ (by unfold sOv; omega)) (fun c k hc => e _ _ (by unfold sOv; omega)) h6⟩
theorem BLo_next (h : BLo l k) (h84 : (chM C w M).length ≤ 84) : BLo (loM C w nl M l) (k + 1) := by
  obtain ⟨i1, i2, i3, i4⟩ := h
  refine ⟨?_, ?_, ?_, ?_⟩
  · show l.1 + (if _ then 1 else 0) ≤ _
    split <;> omega
  · show l.2.1 + (@ite Nat (idM C w M) (Classical.propDecidable _) 1 0) ≤ _
    split <;> omega
  · show l.2.2.1 + _ ≤ _
    omega
  · show (if chM C w M = [] then inR (roM C M) l.2.2.2.2.2 else l.2.2.2.2.2).length ≤ _
    split
    · have := inR_n (r := roM C M) l.2.2.2.2.2
      omega
    · omega
/-- a state is looked at: its acts, then the rest -/
theorem KLo_next (hk : k < 3000) (hb : BLo l k) (h84 : (chM C w M).length ≤ 84) (h : KLo x o l) (ha : LAx x y o C w nl M) (e2 : y.1 o 2 = x.1 o 2) (e5 : y.1 o 5 = x.1 o 5) (n13 : (y.1 220 13).toInt = ((chM C w M).length : Nat)) (hi : KIx y z o C w M l.2.2.2.2.2) (e4 : z.1 o 4 = y.1 o 4) (e8 : ∀ k, z.1 (o + 8) k = y.1 (o + 8) k) (e9 : ∀ k, z.1 (o + 9) k = y.1 (o + 9) k) : KLo z o (loM C w nl M l) := by
  obtain ⟨h1, h2, h3, h4, h5, h6⟩ := h
  obtain ⟨a1, a2, a3⟩ := ha
  obtain ⟨i1, i2⟩ := hi
  obtain ⟨b1, b2, b3, b4⟩ := hb
  have k1 : (1 : Int32).toInt = 1 := rfl
  refine ⟨?_, ?_, ?_, fun c hc => ?_, fun a ha => ?_, ?_⟩
  · show _ = ((l.1 + (if chM C w M = [] then 1 else 0) : Nat) : Int)
    rcases i2 with ⟨i3, i4, -⟩ | ⟨i3, i4, -⟩
    · rw [if_pos i3, i4, e2, t_add (by rw [k1]; omega) (by rw [k1]; omega), k1, h1]; push_cast; rfl
    · rw [if_neg i3, i4, e2, h1]; rfl
  · show _ = ((l.2.1 + (@ite Nat (idM C w M) (Classical.propDecidable _) 1 0) : Nat) : Int)
    rw [e4]
    rcases a3 with ⟨i3, i4⟩ | ⟨i3, i4⟩
    · rw [if_pos i3, i4, t_add (by rw [k1]; omega) (by rw [k1]; omega), k1, h2]; push_cast; rfl
    · rw [if_neg i3, i4, h2]; rfl
  · show _ = ((l.2.2.1 + (chM C w M).length : Nat) : Int)
    rw [i1, e5, t_add (by omega) (by omega), h3, n13]; push_cast; rfl
  · rw [e8, a1 c hc, h4 c hc]; rfl
  · rw [e9, a2 a ha, h5 a ha]; rfl
  · show OUk z o (if chM C w M = [] then inR (roM C M) l.2.2.2.2.2 else l.2.2.2.2.2)
    rcases i2 with ⟨i3, -, i5⟩ | ⟨i3, -, i5⟩
    · rw [if_pos i3]; exact i5
    · rw [if_neg i3]; exact i5
end KLOX
section KEXP
variable {G : kG} {q q0 q1 : kP} {d : Nat} {x x0 y z : gd} {o : Nat} {F : Int32 → gd → Prop} {Fv : gd → Prop} {Fm : gd → kP → Prop} {X : String → gd → kP → Prop} {C : gCo} {M : gMa} {T : gTy} {nl w lim : Nat} {S : Nat → Nat → Prop}
theorem KX3_S (hO : o = 260 ∨ o = 280) (hK : CK x C) (f : fm S x y) (hs : ∀ c k, S c k → sKX o c k) (h3 : T.1.length ≤ 3000) (h : KX3 C nl w x o T) : KX3 C nl w y o T := by
  have f : fm (sKX o) x y := fm_w f hs
  refine KX3_f hK (fun c k hc => f c k (by unfold sKX; omega)) (fun k h1 h2 => f _ _ (by unfold sKX; omega)) (fun s k hs => f _ _ (by unfold sKX; omega)) (fun k => f _ _ (by unfold sKX; omega)) (fun k => f _ _ (by unfold sKX; omega)) (f _ _ (by unfold sKX; omega)) (f _ _ (by unfold sKX; omega)) (fun k => f _ _ (by unfold sKX; omega)) (fun k => f _ _ (by unfold sKX; omega)) (fun k => f _ _ (by unfold sKX; omega)) h
/-- program, way, locks -/
def J3 (C : gCo) (nl w : Nat) (x : gd) : Prop := CK x C ∧ x.1 220 3 = Int32.ofNat w ∧ (x.1 60 9).toInt = (nl : Nat)
theorem J3_f (hc : agC x y) (hm : agM 220 x y) (h : J3 C nl w x) : J3 C nl w y := ⟨CK_f h.1 hc, by rw [hm 3 (by omega) (by omega)]; exact h.2.1, by rw [hc 60 9 (by omega)]; exact h.2.2⟩
theorem J3_S (hO : o = 260 ∨ o = 280) (f : fm S x y) (hs : ∀ c k, S c k → sKX o c k) (h : J3 C nl w x) : J3 C nl w y := by
  have f : fm (sKX o) x y := fm_w f hs
  exact J3_f (fun c k hc => f c k (by unfold sKX; omega)) (fun k h1 h2 => f _ _ (by unfold sKX; omega)) h
theorem kx_25 {c k : Nat} (h : c = 225) : sKX o c k := Or.inl h
theorem kx_Li {c k : Nat} (h : sLi 220 c k) : sKX o c k := by unfold sLi at h; unfold sKX; omega
theorem kx_In {c k : Nat} (h : sIn o c k) : sKX o c k := by unfold sIn at h; unfold sKX; omega
theorem kx_Vi {c k : Nat} (h : sVi o c k) : sKX o c k := by unfold sVi at h; unfold sKX; omega
theorem kx_Mk {c k : Nat} (h : sMk 220 c k) : sKX o c k := by unfold sMk at h; unfold sKX; omega
theorem kchL_f {l : List gCh} (e13 : y.1 220 13 = x.1 220 13) (e : ∀ c k, 231 ≤ c → c ≤ 233 → y.1 c k = x.1 c k) (h : kchL x 220 l) : kchL y 220 l := by
  obtain ⟨h1, h2⟩ := h
  refine ⟨by rw [e13]; exact h1, fun i ch hi => ?_⟩
  have := h2 i ch hi
  unfold kch at this ⊢
  rw [e (220 + 11) i (by omega) (by omega), e (220 + 12) i (by omega) (by omega), e (220 + 13) i (by omega) (by omega)]
  exact this
/-- the choices of one state -/
theorem kx_inner3 (he : q.ex = true) (ho : kiT q o) (hN : NC C) (hX : NXc C) (hX3 : NX3 C) (hLk : LkN C nl) (w01 : w = 0 ∨ w = 1) (l i : Int32) {k : Nat} (ei : i.toInt = k) (hk3 : k < 3000) (el : l.toInt = (lim : Nat)) (hl3 : lim ≤ 3000) {p : gMa × Nat × Nat} (hp : T.1[k]? = some p) (l84 : (chM C w p.1).length ≤ 84) {x7 : gd}
    (again : ∀ (q2 : kP) (t : gd), kU q2 → kle q q2 → q2.et = some o → fm (sEx o) x t → XI t q2 o → J3 C nl w t → KX3 C nl w t o (onS C w lim k p.1 (chM C w p.1).length T) → SOv o x7 t → KM G q2 (d + 6) zk_X2_explore 49 [(0, vr 200), (2, vi l), (4, vi (i + 1))] [] t (rm q Fm) X) :
    ∀ (n j : Nat) (i2 : Int32) (q2 : kP) (t : gd), i2.toInt = j → (chM C w p.1).length - j ≤ n → j ≤ (chM C w p.1).length → kU q2 → kle q q2 → q2.et = some o → fm (sEx o) x t → XI t q2 o → J3 C nl w t → kchL t 220 (chM C w p.1) → KX3 C nl w t o (onS C w lim k p.1 j T) → SOv o x7 t → KM G q2 (d + 6) zk_X2_explore 95 [(0, vr 200), (2, vi l), (4, vi i), (5, vi i2)] [] t (rm q Fm) X := by
  have hO := iT_O ho
  have k1 : (1 : Int32).toInt = 1 := rfl
  have k0 : (0 : Int32).toInt = 0 := rfl
  intro n
  induction n with
  | zero =>
    intro j i2 q2 t ej hn hj hu2 hl2 et2 ft hXt hJ hc hT h7
    have ho2 := kle_T hl2 ho
    have he2 := hl2.2.1.2.1 he
    have jl : j = (chM C w p.1).length := by omega
    have c13 := hc.1
    refine kg_X2_explore_95 hu2 he2 ho2 l i i2 ⟨fun _ => again q2 t hu2 hl2 et2 ft hXt hJ (by rw [← jl]; exact hT) h7, fun c => ?_⟩
    rw [t_le] at c; omega
  | succ n ihn =>
    intro j i2 q2 t ej hn hj hu2 hl2 et2 ft hXt hJ hc hT h7
    have ho2 := kle_T hl2 ho
    have he2 := hl2.2.1.2.1 he
    have hkn2 := hu2.2.2.2.2.1
    have hm2 : kiM q2 220 := Or.inr ⟨rfl, he2⟩
    have c13 := hc.1
    refine kg_X2_explore_95 hu2 he2 ho2 l i i2 ⟨fun c => again q2 t hu2 hl2 et2 ft hXt hJ ?_ h7, fun c2 u2 e2 => ⟨o, by rw [e2, et_r et2], ho2, fun cp => again q2 t hu2 hl2 et2 ft hXt hJ ?_ h7, fun cp => ?_⟩⟩
    · rw [t_le] at c
      have jl : j = (chM C w p.1).length := by omega
      rw [← jl]; exact hT
    · have pt : (onS C w lim k p.1 j T).2 = true := by
        apply Classical.byContradiction
        intro z
        have := hT.1.2
        rw [if_neg z] at this
        exact cp this
      rw [onS_stop pt _ hj]; exact hT
    rw [t_le] at c2
    have pf : ¬ (onS C w lim k p.1 j T).2 = true := fun z => by
      have := hT.1.2
      rw [if_pos z] at this
      rw [this] at cp
      exact absurd cp (by decide)
    have hjl : j < (chM C w p.1).length := by omega
    obtain ⟨ch, hch⟩ : ∃ ch, (chM C w p.1)[j]? = some ch := ⟨_, List.getElem?_eq_getElem hjl⟩
    have hkl := gt_lt hp
    obtain ⟨pr1, pr2⟩ := onS_pre (C := C) (w := w) (lim := lim) (M := p.1) hkl k j
    have hp' : (onS C w lim k p.1 j T).1[k]? = some p := by rw [pr1]; exact hp
    have hkp := hT.2.1 k p hp'
    have hk0 : (k : Int) < (t.1 o 0).toInt := by rw [hT.1.1]; omega
    have hT3 : (onS C w lim k p.1 j T).1.length ≤ 3000 := by have := hT.1.1; have := hXt.2.1.1.1; omega
    have hkr := hXt.2.2.2.1 k hk0
    have hsn : k < q2.kn := by have := hXt.2.2.1; omega
    have ej1 : (i2 + 1).toInt = ((j + 1 : Nat) : Int) := by rw [t_add (by rw [k1]; omega) (by rw [k1]; omega), k1, ej]; rfl
    refine kx_recall hu2.1 he2 hXt.1.1 hXt.1.2 i ei hsn hk3 hkr (fun a2 ea2 hMa2 fa2 => ?_)
    have hXa2 : XI a2 q2 o := XI_q hO (fm_w fa2 (fun c k => qu_25)) hXt hkn2
    have ga2 : KMm a2 220 C p.1 := by rw [ea2]; exact hkp.2.1
    have hJa := J3_S hO fa2 (fun c k => kx_25) hJ
    have hTa := KX3_S hO hJ.1 fa2 (fun c k => kx_25) hT3 hT
    have hca := kchL_f (c13_25 fa2) (fun c k h1 h2 => fa2 _ _ (by omega)) hc
    have e0a := co0_25 hO fa2
    refine kh_perform hu2.1 hm2 hMa2 hJa.1 hN hX hX3 ga2 (WMw_WM hkp.2.2.1.1) hJa.2.1 w01 i2 ej (by omega) (hca.2 j ch hch) (ch_in (List.mem_of_getElem? hch)) (fun b2 hMb2 fb2 hD2 gb2 => ?_)
    have hXb2 : XI b2 q2 o := XI_q hO (fm_w fb2 (fun c k => qu_Mk)) hXa2 hkn2
    have hJb := J3_S hO fb2 (fun c k => kx_Mk) hJa
    have hTb := KX3_S hO hJa.1 fb2 (fun c k => kx_Mk) hT3 hTa
    have hcb := kchL_f (c13_Mk fb2) (fun c k h1 h2 => fb2 _ _ (by unfold sMk; omega)) hca
    have l6 : C.2.1.length ≤ 6 := by have := hMb2.1.1.2.2.1; have := hJb.1.2.1.1; omega
    have lb : (C.2.2.1.length : Int) < 2147483648 := by have := hMb2.1.1.1; have := hJb.1.2.2.1.1; omega
    have hmem := List.mem_of_getElem? hch
    refine kx_addState3 (d := d + 1) (A := k) (B := j) hu2 he2 ho2 et2 hXb2 hMb2 hJb.1 hN hJb.2.2 gb2 (MIv_do hX l6 hkp.2.2.1 hmem) (MCn_do hN hX hLk lb l6 hkp.2.2.2.1 hkp.2.2.1 hmem) (NBm_do hkp.2.2.2.2.1) hTb i i2 l (Or.inr ⟨ei, by omega, ej⟩) el hl3 (fun c3 q3 hu3 hl3' et3 f3 hX3' hrow hT3' => ?_)
    obtain ⟨ac3, am3⟩ := sKe_C hO f3
    refine ihn (j + 1) _ q3 c3 ej1 (by omega) hjl hu3 (kle_tr hl2 hl3') (by rw [et3]; exact et2) (fm_tr ft (fm_tr (fm_tr (fm_w fa2 (fun c k => ex_25)) (fm_w fb2 (fun c k => ex_Mk))) (fm_w f3 (fun c k => ex_Ke)))) hX3' (J3_f ac3 am3 hJb) (kchL_f (c13_Ke hO f3) (fun c k h1 h2 => f3 _ _ (by unfold sKe; omega)) hcb) (by rw [onS_go pf hch]; exact hT3') (fun c k hc => ?_)
    unfold sOv at hc
    rw [f3 _ _ (by unfold sKe; omega), fb2 _ _ (by unfold sMk; omega), fa2 _ _ (by omega)]
    exact h7 c k (by unfold sOv; exact hc)
end KEXP
end
section
/-! the class: explore() tries as the machine does -/
section KALL
variable {G : kG} {q q0 q1 : kP} {d : Nat} {x x0 y z : gd} {o : Nat} {F : Int32 → gd → Prop} {Fv : gd → Prop} {Fm : gd → kP → Prop} {X : String → gd → kP → Prop} {C : gCo} {M : gMa} {T : gTy} {nl w lim : Nat}
theorem kx_outer3 (he : q.ex = true) (ho : kiT q o) (hN : NC C) (hX : NXc C) (hX3 : NX3 C) (hLk : LkN C nl) (hq2 : NCq C) (w01 : w = 0 ∨ w = 1) (l : Int32) (el : l.toInt = (lim : Nat)) (hl3 : lim ≤ 3000) (h : ∀ y q1, kU q1 → kle q q1 → q1.et = some o → fm (sEx o) x y → TZ y o → TO y q1 o → J3 C nl w y → KX3 C nl w y o (tryM C w lim) → FN3 C w (y.1 (o + 7)) (tryM C w lim) (tryM C w lim).1.length → KLo y o (loS C w nl (tryM C w lim) (tryM C w lim).1.length) → Fm y q1) :
    ∀ (m k : Nat) (i : Int32) (q9 : kP) (v : gd) (T : gTy), i.toInt = k → 3000 - (k : Int) ≤ m → k ≤ T.1.length → kU q9 → kle q q9 → q9.et = some o → fm (sEx o) x v → XI v q9 o → J3 C nl w v → KX3 C nl w v o T → FN3 C w (v.1 (o + 7)) T k → KLo v o (loS C w nl T k) → BLo (loS C w nl T k) k → bfS C w lim (3001 - k) k T = tryM C w lim → KM G q9 (d + 6) zk_X2_explore 49 [(0, vr 200), (2, vi l), (4, vi i)] [] v (rm q Fm) X := by
  have hO := iT_O ho
  have k1 : (1 : Int32).toInt = 1 := rfl
  have k3 : (3000 : Int32).toInt = 3000 := rfl
  intro m
  have hend : ∀ (k : Nat) (i : Int32) (q9 : kP) (v : gd) (T : gTy), k = T.1.length → kU q9 → kle q q9 → q9.et = some o → fm (sEx o) x v → XI v q9 o → J3 C nl w v → KX3 C nl w v o T → FN3 C w (v.1 (o + 7)) T k → KLo v o (loS C w nl T k) → BLo (loS C w nl T k) k → bfS C w lim (3001 - k) k T = tryM C w lim → rm q Fm none v q9 := by
    intro k i q9 v T hk hu9 hl9 et9 fv hX9 hJ hT hFN hLo hBl hb
    rw [bfS_end (List.getElem?_eq_none (by omega))] at hb
    subst hb
    exact rm_i hu9 hl9 (h v q9 hu9 hl9 et9 fv hX9.2.1.1 hX9.2.1.2 hJ hT (by rw [← hk]; exact hFN) (by rw [← hk]; exact hLo))
  induction m with
  | zero =>
    intro k i q9 v T ei hm hkT hu9 hl9 et9 fv hX9 hJ hT hFN hLo hBl hb
    have ho9 := kle_T hl9 ho
    have he9 := hl9.2.1.2.1 he
    have tz := hX9.2.1.1.1
    have t0 := hT.1.1
    have e := hend k i q9 v T (by omega) hu9 hl9 et9 fv hX9 hJ hT hFN hLo hBl hb
    refine kg_X2_explore_49 hu9 he9 ho9 l i (fun u1 e1 => ⟨o, by rw [e1, et_r et9], ho9, fun _ => e, fun _ => ⟨fun _ => e, fun c => ?_⟩⟩)
    rw [t_le, k3] at c; omega
  | succ m ih =>
    intro k i q9 v T ei hm hkT hu9 hl9 et9 fv hX9 hJ hT hFN hLo hBl hb
    have ho9 := kle_T hl9 ho
    have he9 := hl9.2.1.2.1 he
    have hm9 : kiM q9 220 := Or.inr ⟨rfl, he9⟩
    have tz := hX9.2.1.1.1
    have t0 := hT.1.1
    refine kg_X2_explore_49 hu9 he9 ho9 l i (fun u1 e1 => ⟨o, by rw [e1, et_r et9], ho9, fun c => hend k i q9 v T ?_ hu9 hl9 et9 fv hX9 hJ hT hFN hLo hBl hb, fun c0 => ⟨fun c => hend k i q9 v T ?_ hu9 hl9 et9 fv hX9 hJ hT hFN hLo hBl hb, fun c => ?_⟩⟩)
    · rw [t_le, ei] at c; omega
    · rw [t_le, k3, ei] at c; omega
    rw [t_le, ei] at c0
    rw [t_le, k3, ei] at c
    have ei1 : (i + 1).toInt = ((k + 1 : Nat) : Int) := by rw [t_add (by rw [k1]; omega) (by rw [k1]; omega), k1, ei]; rfl
    have hkn9 := hu9.2.2.2.2.1
    have hk0 : (k : Int) < (v.1 o 0).toInt := by omega
    have hk3 : k < 3000 := by omega
    have hkl : k < T.1.length := by omega
    have hT3 : T.1.length ≤ 3000 := by omega
    have hsn : k < q9.kn := by have := hX9.2.2.1; omega
    have hm2 : 3000 - ((k + 1 : Nat) : Int) ≤ m := by push_cast; omega
    clear c c0 hm
    obtain ⟨p, hp⟩ : ∃ p, T.1[k]? = some p := ⟨_, List.getElem?_eq_getElem hkl⟩
    have hkp := hT.2.1 k p hp
    have hkr := hX9.2.2.2.1 k hk0
    rw [show 3001 - k = (3000 - k) + 1 by omega, bfS_go hp] at hb
    refine kx_recall hu9.1 he9 hX9.1.1 hX9.1.2 i ei hsn hk3 hkr (fun a ea hMa fa => ?_)
    have hXa : XI a q9 o := XI_q hO (fm_w fa (fun c k => qu_25)) hX9 hkn9
    have ga : KMm a 220 C p.1 := by rw [ea]; exact hkp.2.1
    have hJa := J3_S hO fa (fun c k => kx_25) hJ
    have hTa := KX3_S hO hJ.1 fa (fun c k => kx_25) hT3 hT
    refine kh_listChoices hu9.1 hm9 hMa hJa.1 hN ga hkp.2.2.1.2 hJa.2.1 w01 (fun b fb hLb hcb => ?_)
    have hMb := MM_Li (Or.inr rfl) fb hMa
    have hXb : XI b q9 o := XI_q hO (fm_w fb (fun c k => qu_Li)) hXa hkn9
    have hJb := J3_S hO fb (fun c k => kx_Li) hJa
    have hTb := KX3_S hO hJa.1 fb (fun c k => kx_Li) hT3 hTa
    have gb := KMm_Li (Or.inr rfl) hMa hJa.1 fb ga
    have hLb2 : KLo b o (loS C w nl T k) := KLo_f (fun c j hc => by unfold sOv at hc; rw [fb _ _ (by unfold sLi; omega), fa _ _ (by omega)]) hLo
    have e0b : b.1 o 0 = v.1 o 0 := (co0_Li hO fb).trans (co0_25 hO fa)
    refine kh_inspectActs hu9.1 he9 ho9 et9 hMb hJb.1 hN hX hX3 gb hJb.2.1 w01 hLb hcb hJb.2.2 (fun c1 fc hac hla => ?_)
    have hXc : XI c1 q9 o := XI_q hO (fm_w fc (fun c k => qu_In)) hXb hkn9
    have hMc := sIn_MM ho9 fc hMb
    have hJc := J3_S hO fc (fun c k => kx_In) hJb
    have hTc := KX3_S hO hJb.1 fc (fun c k => kx_In) hT3 hTb
    obtain ⟨-, gc⟩ := KM_In ho9 hMb hJb.1 fc gb
    have hcc := kchL_f (c13_In hO fc) (fun c k h1 h2 => fc _ _ (by unfold sIn; omega)) hcb
    have e0 : c1.1 o 0 = v.1 o 0 := (co0_In hO fc).trans e0b
    have hs : 0 ≤ i.toInt ∧ i.toInt < (c1.1 o 0).toInt := by rw [e0, ei]; omega
    refine kh_inspect hu9 he9 ho9 et9 hMc hJc.1 hN hq2 gc hcc.1 hac hXc.2.1.1 hXc.2.1.2 i hs (L := (loS C w nl T k).2.2.2.2.2) (OUk_f (fc _ _ (by unfold sIn; omega)) (fun j => fc _ _ (by unfold sIn; omega)) (fun c j hc => fc _ _ (by unfold sIn; omega)) hLb2.2.2.2.2.2) (by have := hBl.2.2.2; omega) (loS_so k).1 (loS_so k).2 (fun y q1 hu1 hl1 et1 hy hfa hki => ?_)
    have hl1' := kle_tr hl9 hl1
    have et1' : q1.et = some o := by rw [et1]; exact et9
    have fy : fm (sEx o) x y := fm_tr (fm_tr (fm_tr (fm_tr fv (fm_w fa (fun c k => ex_25))) (fm_w fb (fun c k => ex_Li))) (fm_w fc (fun c k => ex_In))) (fm_w hy.1 (fun c k => ex_Vi))
    have hXy : XI y q1 o := XI_w hO (fm_w hy.1 (fun c k => wd_Vi)) hy.2.2.1 hy.2.2.2 hl1.2.2.1.1 hXc hkn9
    have hJy := J3_S hO hy.1 (fun c k => kx_Vi) hJc
    have hTy := KX3_S hO hJc.1 hy.1 (fun c k => kx_Vi) hT3 hTc
    have hcy := kchL_f (c13_Vi hO hy.1) (fun c k h1 h2 => hy.1 _ _ (by unfold sVi; omega)) hcc
    have e7 : ∀ f, c1.1 (o + 7) f = v.1 (o + 7) f := fun f => by rw [fc _ _ (by unfold sIn; omega), fb _ _ (by unfold sLi; omega), fa _ _ (by omega)]
    have hFy : FN3 C w (y.1 (o + 7)) T (k + 1) := FN3_next ei hp hFN (fun f hf => by rw [← e7 f]; exact hfa f hf)
    have l84' : (chM C w p.1).length ≤ 84 := by have := hcb.1; have := hLb.1.2; omega
    have hLy : KLo y o (loS C w nl T (k + 1)) := by
      rw [loS_go hp]
      exact KLo_next hk3 hBl l84' hLb2 hla (fc _ _ (by unfold sIn; omega)) (fc _ _ (by unfold sIn; omega)) hcc.1 hki (hy.1 _ _ (by unfold sVi; omega)) (fun j => hy.1 _ _ (by unfold sVi; omega)) (fun j => hy.1 _ _ (by unfold sVi; omega))
    have hBy : BLo (loS C w nl T (k + 1)) (k + 1) := by
      rw [loS_go hp]
      exact BLo_next hBl l84'
    have l84 : (chM C w p.1).length ≤ 84 := by have := hcb.1; have := hLb.1.2; omega
    refine kx_inner3 he ho hN hX hX3 hLk w01 l i ei hk3 el hl3 hp l84 (x7 := y) (fun q2 t hu2 hl2 et2 ft hXt hJt hTt h7 => ?_) 84 0 _ q1 y rfl (by omega) (Nat.zero_le _) hu1 hl1' et1' fy hXy hJy hcy hTy (fun c j _ => rfl)
    have pre := fun s (hs : s < T.1.length) => onS_pre (C := C) (w := w) (lim := lim) (M := p.1) hs k (chM C w p.1).length
    refine ih (k + 1) _ q2 t _ ei1 hm2 (by have := (pre k hkl).2; omega) hu2 hl2 et2 ft hXt hJt hTt ?_ ?_ ?_ (by rw [show 3001 - (k + 1) = 3000 - k by omega]; exact hb)
    · rw [show t.1 (o + 7) = y.1 (o + 7) from funext (fun f => h7 _ _ (by unfold sOv; omega))]
      exact FN3_T (fun s hs => (pre s (by omega)).1) hFy
    · rw [loS_T (fun s hs => (pre s (by omega)).1)]
      exact KLo_f h7 hLy
    · rw [loS_T (fun s hs => (pre s (by omega)).1)]
      exact hBy
theorem kx_explore3 (hu : kU q) (he : q.ex = true) (ho : kiT q o) (hC : CO x) (hK : CK x C) (hN : NC C) (hX : NXc C) (hX3 : NX3 C) (hLk : LkN C nl) (hq2 : NCq C) (en : (x.1 60 9).toInt = (nl : Nat)) (w01 : w = 0 ∨ w = 1) (l : Int32) (el : l.toInt = (lim : Nat)) (hl1 : 1 ≤ lim) (hl3 : lim ≤ 3000) (h : ∀ y q1, kU q1 → kle q q1 → q1.et = some o → fm (sEx o) x y → TZ y o → TO y q1 o → J3 C nl w y → KX3 C nl w y o (tryM C w lim) → FN3 C w (y.1 (o + 7)) (tryM C w lim) (tryM C w lim).1.length → KLo y o (loS C w nl (tryM C w lim) (tryM C w lim).1.length) → Fm y q1) : KM G q (d + 6) zk_X2_explore 0 [(0, vr 200), (1, vi (Int32.ofNat w)), (2, vi l), (3, vr o)] [] x (rm q Fm) X := by
  have hO := iT_O ho
  have k0 : (0 : Int32).toInt = 0 := rfl
  have hw : Int32.ofNat w = 0 ∨ Int32.ofNat w = 1 := by
    rcases w01 with e | e <;> rw [e]
    · exact Or.inl rfl
    · exact Or.inr rfl
  refine kg_X2_explore_0 hu he ho (Int32.ofNat w) l (fun q1 e1 hu1 hl1' u2 e2 => ⟨o, ?_, kle_T hl1' ho, ?_⟩)
  · rw [e2, e1]; exact et_r rfl
  have et1 : q1.et = some o := by rw [e1]; rfl
  have ho1 := kle_T hl1' ho
  have he1 := hl1'.2.1.2.1 he
  have hm1 : kiM q1 220 := Or.inr ⟨rfl, he1⟩
  refine kt_clear3 (d := d + 4) hu1.1 ho1 (oN_U hu1 o) _ (fun y fy y0 y3 y1 hzy hty yk y8 y9 x6 e6 => ?_)
  have f6 : fm (fun c k => c = 205) y x6 := by rw [e6]; exact fm_fl (fm_rf _ _) (fun k hk => rfl)
  have ac6 : agC x x6 := fun c k hc => by rw [f6 c k (by omega)]; exact fy c k (by unfold sTr; omega)
  have hC6 : CO x6 := CO_fm hC ac6
  have hK6 : CK x6 C := CK_f hK ac6
  refine kh_reset hu1.1 hm1 hC6 hK6 hN (Int32.ofNat w) hw (fun x7 hM7 f7 e7 g7 => ?_)
  have ac7 : agC x6 x7 := fun c k hc => f7 c k (by unfold sRe; omega)
  have hJ7 : J3 C nl w x7 := ⟨CK_f hK6 ac7, e7, by rw [ac7 60 9 (by omega), ac6 60 9 (by omega)]; exact en⟩
  have e70 : x7.1 o 0 = 0 := by rw [f7 o 0 (by unfold sRe; omega), f6 o 0 (by omega), y0]
  have e71 : x7.1 o 1 = 0 := by rw [f7 o 1 (by unfold sRe; omega), f6 o 1 (by omega), y1]
  have e75 : ∀ j, j < 8192 → x7.1 205 j = 0 := fun j hj => by rw [f7 205 j (by unfold sRe; omega), e6, sfl_get, if_pos ⟨rfl, hj⟩]
  have e77 : ∀ f, f < 11 → x7.1 (o + 7) f = -1 := fun f hf => by
    rw [f7 _ _ (by unfold sRe; omega), f6 _ _ (by omega)]
    rcases hzy.2.1 f hf with e | e
    · exact e
    · rw [y0, k0] at e; omega
  have hX7 : XI x7 q1 o := by
    refine ⟨⟨hM7.1, hM7.2.1⟩, ⟨TZ_fm f7 (by unfold sRe; omega) (fun c k hc => by unfold sRe; omega) (TZ_fm f6 (by omega) (fun c k hc => by omega) hzy), TO_fm f7 (by unfold sRe; omega) (fun k => by unfold sRe; omega) (TO_fm f6 (by omega) (fun k => by omega) hty)⟩, by rw [e70, k0]; omega, fun s hs => by rw [e70, k0] at hs; omega, fun j hj => ?_⟩
    rw [e75 j hj, e70, k0]
    omega
  have hT7 : KX3 C nl w x7 o ([], false) := by
    refine ⟨⟨by rw [e70, k0]; rfl, by rw [e71]; rfl⟩, fun s p hp => (nomatch hp), ⟨fun j hj => by rw [e75 j hj, k0]; exact ⟨Int.le_refl _, Int.le_refl _⟩, fun s hs => absurd hs (Nat.not_lt_zero _), ?_⟩, fun s p hp => (nomatch hp)⟩
    have : (List.range 8192).countP (fun j => decide (¬ x7.1 205 j = 0)) = 0 := List.countP_eq_zero.mpr (fun j hj => by rw [e75 j (List.mem_range.mp hj)]; decide)
    rw [this]; exact Nat.le_refl _
  refine kx_addState3 (d := d + 1) (A := 0) (B := 0) hu1 he1 ho1 et1 hX7 hM7 hJ7.1 hN hJ7.2.2 g7 MIv_fs MCn_fs NBm_fs hT7 _ _ l (Or.inl ⟨rfl, rfl⟩) el hl3 (fun x8 q9 hu9 hl9 et9 f8 hX8 hrow hT8 => ?_)
  have nw : ¬ ∃ p ∈ (([], false) : gTy).1, p.1 = fsM C := fun ⟨p, h1, _⟩ => nomatch h1
  have eT : adS lim 0 0 ([], false) (fsM C) = ([(fsM C, 0, 0)], false) := adS_new nw (by show ¬ lim ≤ 0; omega)
  rw [eT] at hT8
  obtain ⟨ac8, am8⟩ := sKe_C hO f8
  refine kx_outer3 he ho hN hX hX3 hLk hq2 w01 l el hl3 h 3000 0 _ q9 x8 _ rfl (by omega) (Nat.zero_le _) hu9 (kle_tr hl1' hl9) (by rw [et9]; exact et1) ?_ hX8 (J3_f ac8 am8 hJ7) hT8 (fun f hf => Or.inl ⟨by rw [f8 _ _ (by unfold sKe; omega)]; exact e77 f hf, fun s p hs => absurd hs (Nat.not_lt_zero _)⟩) ?_ ⟨Nat.le_refl _, Nat.le_refl _, Nat.le_refl _, Nat.le_refl _⟩ rfl
  rotate_left
  · have eL : ∀ c k, sOv o c k → x8.1 c k = y.1 c k := fun c k hc => by
      unfold sOv at hc
      rw [f8 _ _ (by unfold sKe; omega), f7 _ _ (by unfold sRe; omega), f6 _ _ (by omega)]
    refine KLo_f eL ⟨by rw [yk 2 (by omega)]; rfl, by rw [yk 4 (by omega)]; rfl, by rw [yk 5 (by omega)]; rfl, fun c hc => ?_, fun a ha => by rw [y9 a ha]; rfl, ⟨by rw [yk 3 (by omega)]; rfl, fun i r hr => by cases hr⟩, fun i hi => absurd hi (Nat.not_lt_zero _)⟩
    rw [y8 c hc, i32_of en]; rfl
  exact fm_tr (fm_tr (fm_tr (fm_w fy (fun c k => ex_Tr)) (fm_w f6 (fun c k q => by unfold sEx; omega))) (fm_w f7 (fun c k => ex_Re))) (fm_w f8 (fun c k => ex_Ke))
end KALL
end
section
/-! a trying: each state comes from an earlier one by a choice; the way to it -/
def TW (C : gCo) (w : Nat) (T : gTy) : Prop := ∀ s p, T.1[s]? = some p → (s = 0 → p.1 = fsM C) ∧ (0 < s → p.2.1 < s ∧ ∃ p' ch, T.1[p.2.1]? = some p' ∧ (chM C w p'.1)[p.2.2]? = some ch ∧ p.1 = doM C w p'.1 ch)
/-- the choices that lead to a state -/
def pthF (T : gTy) : Nat → Nat → List Nat
  | 0, _ => []
  | _ + 1, 0 => []
  | f + 1, s + 1 => match T.1[s + 1]? with
    | none => []
    | some p => pthF T f p.2.1 ++ [p.2.2]
def pth (T : gTy) (s : Nat) : List Nat := pthF T s s
section PTW
variable {C : gCo} {M : gMa} {T T' : gTy} {w lim s i n m k f : Nat} {p : gMa × Nat × Nat}
theorem TW_ad (h : TW C w T) (hp : T.1[k]? = some p) {ch : gCh} (hc : (chM C w p.1)[i]? = some ch) : TW C w (adS lim k i T (doM C w p.1 ch)) := by
  by_cases c : ∃ q ∈ T.1, q.1 = doM C w p.1 ch
  · rw [adS_old c]; exact h
  · by_cases c2 : lim ≤ T.1.length
    · rw [adS_full c c2]; exact h
    · rw [adS_new c c2]
      have hk := gt_lt hp
      intro s r hr
      have hr : (T.1 ++ [(doM C w p.1 ch, k, i)])[s]? = some r := hr
      show _ ∧ (0 < s → r.2.1 < s ∧ ∃ p' ch', (T.1 ++ [(doM C w p.1 ch, k, i)])[r.2.1]? = some p' ∧ _)
      by_cases cs : s < T.1.length
      · rw [List.getElem?_append_left cs] at hr
        obtain ⟨h1, h2⟩ := h s r hr
        refine ⟨h1, fun s0 => ?_⟩
        obtain ⟨h3, p', ch', h4, h5⟩ := h2 s0
        exact ⟨h3, p', ch', by rw [List.getElem?_append_left (by omega)]; exact h4, h5⟩
      · have hl := gt_lt hr
        rw [List.length_append, List.length_singleton] at hl
        have es : s = T.1.length := by omega
        rw [es, List.getElem?_append_right (Nat.le_refl _), Nat.sub_self] at hr
        have hr : (doM C w p.1 ch, k, i) = r := Option.some.inj hr
        rw [← hr, es]
        refine ⟨fun z => by omega, fun _ => ⟨hk, p, ch, ?_, hc, rfl⟩⟩
        show (T.1 ++ _)[k]? = _
        rw [List.getElem?_append_left hk]; exact hp
theorem TW_on (h : TW C w T) (hp : T.1[k]? = some p) : ∀ n, n ≤ (chM C w p.1).length → TW C w (onS C w lim k p.1 n T) := by
  intro n
  induction n with
  | zero => intro _; exact h
  | succ n ih =>
    intro hn
    by_cases c : (onS C w lim k p.1 n T).2 = true
    · rw [onS, if_pos c]; exact ih (by omega)
    · have hch := List.getElem?_eq_getElem (show n < (chM C w p.1).length by omega)
      rw [onS_go c hch]
      exact TW_ad (ih (by omega)) (by rw [(onS_pre (gt_lt hp) k n).1]; exact hp) hch
theorem TW_bf : ∀ f s (T : gTy), TW C w T → TW C w (bfS C w lim f s T) := by
  intro f
  induction f with
  | zero => intro s T h; exact h
  | succ f ih =>
    intro s T h
    cases hs : T.1[s]? with
    | none => rw [bfS_end hs]; exact h
    | some p => rw [bfS_go hs]; exact ih _ _ (TW_on h hs _ (Nat.le_refl _))
theorem TW_try : TW C w (tryM C w lim) := TW_bf _ _ _ (fun s p hp => by
  cases s with
  | zero =>
    have hp : (fsM C, 0, 0) = p := Option.some.inj hp
    rw [← hp]
    exact ⟨fun _ => rfl, fun z => absurd z (Nat.lt_irrefl _)⟩
  | succ s => exact nomatch hp)
theorem pthF_eq (h : TW C w T) : ∀ f g s, s ≤ f → s ≤ g → pthF T f s = pthF T g s := by
  intro f
  induction f with
  | zero =>
    intro g s h1 h2
    rw [show s = 0 by omega]
    cases g <;> rfl
  | succ f ih =>
    intro g s h1 h2
    cases s with
    | zero => cases g <;> rfl
    | succ s =>
      cases g with
      | zero => omega
      | succ g =>
        rw [pthF, pthF]
        cases hs : T.1[s + 1]? with
        | none => rfl
        | some p =>
          have := ((h (s + 1) p hs).2 (by omega)).1
          show pthF T f p.2.1 ++ _ = pthF T g p.2.1 ++ _
          rw [ih g p.2.1 (by omega) (by omega)]
theorem pth_0 : pth T 0 = [] := rfl
theorem pth_s (h : TW C w T) (hs : 0 < s) (hp : T.1[s]? = some p) : pth T s = pth T p.2.1 ++ [p.2.2] := by
  have hl := ((h s p hp).2 hs).1
  obtain ⟨r, rfl⟩ : ∃ r, s = r + 1 := ⟨s - 1, by omega⟩
  unfold pth
  rw [pthF, hp]
  show pthF T r p.2.1 ++ _ = _
  rw [pthF_eq h r p.2.1 p.2.1 (by omega) (Nat.le_refl _)]
/-- the choices lead to it -/
theorem pth_run (h : TW C w T) : ∀ n s p, s ≤ n → T.1[s]? = some p → ∀ c : Nat → Nat, (∀ k v, (pth T s)[k]? = some v → c k = v) → runM C w c (pth T s).length = p.1 ∧ ∀ k, k < (pth T s).length → c k < (chM C w (runM C w c k)).length := by
  intro n
  induction n with
  | zero =>
    intro s p hs hp c hc
    have e : s = 0 := by omega
    rw [e] at hp ⊢
    exact ⟨((h 0 p hp).1 rfl).symm, fun k hk => absurd hk (Nat.not_lt_zero _)⟩
  | succ n ih =>
    intro s p hs hp c hc
    by_cases s0 : s = 0
    · rw [s0] at hp ⊢
      exact ⟨((h 0 p hp).1 rfl).symm, fun k hk => absurd hk (Nat.not_lt_zero _)⟩
    · obtain ⟨hl, p', ch, h1, h2, h3⟩ := (h s p hp).2 (by omega)
      have e := pth_s h (by omega) hp
      rw [e] at hc ⊢
      have cl : c (pth T p.2.1).length = p.2.2 := hc _ _ (by rw [List.getElem?_append_right (Nat.le_refl _), Nat.sub_self]; rfl)
      obtain ⟨i1, i2⟩ := ih p.2.1 p' (by omega) h1 c (fun k v hk => hc k v (by rw [List.getElem?_append_left (gt_lt hk)]; exact hk))
      rw [List.length_append, List.length_singleton]
      have hch : (chM C w (runM C w c (pth T p.2.1).length))[c (pth T p.2.1).length]? = some ch := by rw [i1, cl]; exact h2
      refine ⟨by rw [runM_s hch, i1, h3], fun k hk => ?_⟩
      by_cases e9 : k = (pth T p.2.1).length
      · rw [e9]; exact gt_lt hch
      · exact i2 k (by omega)
end PTW
section KPTH
variable {x : gd} {C : gCo} {T : gTy} {w nl o s : Nat} {p : gMa × Nat × Nat}
end KPTH
end
section
/-! the class: show() does the choices that lead to a state -/
def PA3 (x : gd) (o : Nat) (T : gTy) : Prop := ∀ s p, T.1[s]? = some p → (s = 0 → (x.1 (o + 12) 0).toInt = 0) ∧ (0 < s → p.2.1 < s ∧ (x.1 (o + 10) s).toInt = (p.2.1 : Nat) ∧ (x.1 (o + 11) s).toInt = (p.2.2 : Nat) ∧ (x.1 (o + 12) s).toInt = (x.1 (o + 12) p.2.1).toInt + 1)
/-- what a trying has told -/
def TRo (C : gCo) (w : Nat) (x : gd) (o : Nat) (T : gTy) : Prop := ((x.1 o 0).toInt = (T.1.length : Nat) ∧ x.1 o 1 = if T.2 = true then 1 else 0) ∧ PA3 x o T ∧ FN3 C w (x.1 (o + 7)) T T.1.length
section KSH
variable {G : kG} {q : kP} {d : Nat} {x y z : gd} {o : Nat} {F : Int32 → gd → Prop} {Fv : gd → Prop} {P : Option gv → gd → Prop} {X : String → gd → Prop} {C : gCo} {T : gTy} {nl w n : Nat} {c : Nat → Nat}
theorem TRo_of (h : KX3 C nl w x o T) (g : FN3 C w (x.1 (o + 7)) T T.1.length) : TRo C w x o T := ⟨h.1, h.2.2.2, g⟩
theorem TRo_f (e0 : y.1 o 0 = x.1 o 0) (e1 : y.1 o 1 = x.1 o 1) (e : ∀ c k, c = o + 7 ∨ c = o + 10 ∨ c = o + 11 ∨ c = o + 12 → y.1 c k = x.1 c k) (h : TRo C w x o T) : TRo C w y o T := by
  obtain ⟨h1, h2, h3⟩ := h
  refine ⟨by rw [e0, e1]; exact h1, fun s p hp => ?_, ?_⟩
  · rw [e _ _ (by omega), e _ _ (by omega), e _ _ (by omega), e _ _ (by omega), e _ _ (by omega)]; exact h2 s p hp
  · rw [show y.1 (o + 7) = x.1 (o + 7) from funext (fun k => e _ _ (by omega))]; exact h3
theorem PA_d (h : TW C w T) (g : PA3 x o T) : ∀ n s p, s ≤ n → T.1[s]? = some p → (x.1 (o + 12) s).toInt = ((pth T s).length : Nat) := by
  intro n
  induction n with
  | zero =>
    intro s p hs hp
    have e : s = 0 := by omega
    rw [e] at hp ⊢
    exact (g 0 p hp).1 rfl
  | succ n ih =>
    intro s p hs hp
    by_cases s0 : s = 0
    · rw [s0] at hp ⊢
      exact (g 0 p hp).1 rfl
    · obtain ⟨a1, a2, a3, a4⟩ := (g s p hp).2 (by omega)
      obtain ⟨hl, p', ch, h1, h2, h3⟩ := (h s p hp).2 (by omega)
      rw [a4, ih p.2.1 p' (by omega) h1, pth_s h (by omega) hp, List.length_append, List.length_singleton]
      rfl
theorem kt_pathTo3 (hq : kV q) (ho : kiT q o) {a : Nat} (ka : kK a = .inr (.int, 400)) (ma : a ∈ (kf q).2.1) (hoa : a < o) (s : Int32) {S : Nat} (es : s.toInt = S) {p : gMa × Nat × Nat} (hp : T.1[S]? = some p) (hW : TW C w T) (hA : PA3 x o T) (hT3 : T.1.length ≤ 3000) (h4 : (pth T S).length ≤ 400) (h : ∀ y, fm (fun c k => c = a) x y → (∀ k v, (pth T S)[k]? = some v → (y.1 a k).toInt = (v : Nat)) → Fv y) : KT G q d zk_X10_pathTo 0 [(0, vr o), (1, vi s), (2, vr a)] [] x (rv Fv) := by
  have k1 : (1 : Int32).toInt = 1 := rfl
  have km : (-1 : Int32).toInt = -1 := rfl
  have k0 : (0 : Int32).toInt = 0 := rfl
  have k4 : (Int32.ofNat 400).toInt = 400 := rfl
  have loop : ∀ (n : Nat) (u i : Int32) (U : Nat) (p9 : gMa × Nat × Nat) (r : List Nat) (y : gd), i.toInt = (n : Int) - 1 → u.toInt = U → T.1[U]? = some p9 → (pth T U).length = n → pth T S = pth T U ++ r → fm (fun c k => c = a) x y → (∀ j v, r[j]? = some v → (y.1 a (n + j)).toInt = (v : Nat)) → KT G q d zk_X10_pathTo 12 [(0, vr o), (2, vr a), (3, vi u), (4, vi i)] [] y (rv Fv) := by
    intro n
    induction n with
    | zero =>
      intro u i U p9 r y ei eu hU hl hr fy hy
      have e0 : pth T U = [] := List.eq_nil_of_length_eq_zero hl
      rw [e0, List.nil_append] at hr
      refine kg_X10_pathTo_12 hq ho ka ma _ _ ⟨fun _ => rv_i (h y fy (fun k v hk => ?_)), fun c => ?_⟩
      · rw [hr] at hk
        have := hy k v hk
        rw [Nat.zero_add] at this
        exact this
      · rw [t_lt, k0] at c; omega
    | succ n ih =>
      intro u i U p9 r y ei eu hU hl hr fy hy
      have hlen : (pth T S).length = (n + 1) + r.length := by rw [hr, List.length_append, hl]
      have U0 : 0 < U := by
        apply Classical.byContradiction
        intro c
        rw [show U = 0 by omega, pth_0] at hl
        cases hl
      obtain ⟨a1, a2, a3, a4⟩ := (hA U p9 hU).2 U0
      obtain ⟨hlt, p', ch, g1, g2, g3⟩ := (hW U p9 hU).2 U0
      have ps := pth_s hW U0 hU
      have hUl := gt_lt hU
      have vu : vp_in u 3000 := by rw [vp_in_iff]; omega
      refine kg_X10_pathTo_12 hq ho ka ma _ _ ⟨fun c => ?_, fun c => ⟨fun c2 => ?_, fun c2 => ⟨vu, ?_, fun z ez => ⟨vu, ?_⟩⟩⟩⟩
      · rw [t_lt, k0] at c; push_cast at ei; omega
      · rw [t_le, k4] at c2
        push_cast at ei; omega
      · rw [vp_in_iff]; push_cast at ei; omega
      have eU : u.toNatClampNeg = U := by rw [t_cl, eu]; rfl
      have eI : i.toNatClampNeg = n := by rw [t_cl, ei]; push_cast; omega
      have fz : fm (fun c k => c = a) x z := by rw [ez]; exact fm_si fy rfl
      rw [eU, fz (o + 10) _ (by omega)]
      obtain ⟨i2, hi2⟩ : ∃ i2, i2 = i + -1 := ⟨_, rfl⟩
      rw [← hi2]
      have ei1 : i2.toInt = (n : Int) - 1 := by rw [hi2, t_add (by rw [km]; push_cast at ei; omega) (by rw [km]; push_cast at ei; omega), km, ei]; push_cast; omega
      clear hi2
      have hl' : (pth T p9.2.1).length = n := by rw [ps, List.length_append, List.length_singleton] at hl; omega
      refine ih _ _ p9.2.1 p' (p9.2.2 :: r) z ei1 a2 g1 hl' (by rw [hr, ps, List.append_assoc]; rfl) fz (fun j v hj => ?_)
      cases j with
      | zero =>
        have hj : p9.2.2 = v := Option.some.inj hj
        rw [ez, si_get, if_pos ⟨rfl, by rw [eI]; rfl⟩, eU, fy (o + 11) _ (by omega), ← hj]
        exact a3
      | succ j =>
        have hj : r[j]? = some v := hj
        have := hy j v hj
        rw [ez, si_get, if_neg (fun z => by have := z.2; omega), show n + (j + 1) = n + 1 + j by omega]
        exact this
  have eS : s.toNatClampNeg = S := by rw [t_cl, es]; rfl
  have dd := PA_d hW hA S S p (Nat.le_refl _) hp
  have hSl := gt_lt hp
  refine kg_X10_pathTo_0 hq ho ka ma _ ⟨by rw [vp_in_iff]; omega, ?_⟩
  rw [eS]
  refine loop (pth T S).length _ _ S p [] x ?_ es hp rfl (List.append_nil _).symm (fm_rf _ _) (fun j v hj => nomatch hj)
  rw [t_sub (by rw [k1]; omega) (by rw [k1]; omega), k1, dd]
end KSH
end
section
/-! the class: show() -/
section KSW
variable {G : kG} {q : kP} {d : Nat} {x y z : gd} {o : Nat} {F : Int32 → gd → Prop} {Fv : gd → Prop} {P : Option gv → gd → Prop} {X : String → gd → Prop} {C : gCo} {T : gTy} {nl w n : Nat} {c : Nat → Nat}
theorem k7_w {k : Nat} (h : (kf q).1 7 k = some o) : (k = 0 ∨ k = 1) ∧ o = 260 + 20 * k := by
  have h : kR q 7 k = some o := h
  unfold kR at h
  rw [if_neg (by omega), if_neg (by omega), if_pos rfl] at h
  by_cases e0 : k = 0
  · rw [if_pos e0] at h
    by_cases e : q.t0 = true
    · rw [if_pos e] at h; cases h; exact ⟨Or.inl e0, by omega⟩
    · rw [if_neg e] at h; cases h
  · rw [if_neg e0] at h
    by_cases e1 : k = 1
    · rw [if_pos e1] at h
      by_cases e : q.t1 = true
      · rw [if_pos e] at h; cases h; exact ⟨Or.inr e1, by omega⟩
      · rw [if_neg e] at h; cases h
    · rw [if_neg e1] at h; cases h
theorem w_nat {l : Int32} (hw : l = 0 ∨ l = 1) : ∃ w : Nat, (w = 0 ∨ w = 1) ∧ l = Int32.ofNat w ∧ l.toNatClampNeg = w := by
  rcases hw with e | e
  · exact ⟨0, Or.inl rfl, e, by rw [e]; rfl⟩
  · exact ⟨1, Or.inr rfl, e, by rw [e]; rfl⟩
theorem kh_was (hq : kV q) (hH : HOI x q) (l : Int32) (w01 : w = 0 ∨ w = 1) (el : l = Int32.ofNat w) (h0 : x.1 (260 + 20 * w) 0 = 0 → F 0 x) (h1 : (kf q).1 7 w = some (260 + 20 * w) → kiT q (260 + 20 * w) → TZ x (260 + 20 * w) → CO x → ¬ x.1 (260 + 20 * w) 0 = 0 → F 1 x) : KT G q d zk_X11_wasTried 0 [(0, vr 0), (1, vi l)] [] x (ri F) := by
  have k0 : (0 : Int32).toInt = 0 := rfl
  have hw : l = 0 ∨ l = 1 := by
    rcases w01 with e | e <;> rw [el, e]
    · exact Or.inl rfl
    · exact Or.inr rfl
  have ew : l.toNatClampNeg = w := by rcases w01 with e | e <;> rw [el, e] <;> rfl
  have v := way_in hw
  have hO : 260 + 20 * w = 260 ∨ 260 + 20 * w = 280 := by omega
  refine kg_X11_wasTried_0 hq l ⟨v, fun u2 e2 => ⟨fun hn => ri_i (h0 ?_), fun c4 h4 => ⟨v, fun u6 e6 => ⟨c4, by rw [e6, ← e2, h4], k7_T (by rw [← e2, h4]), ?_⟩⟩⟩⟩
  · refine (hH.2.2.2 _ hO).2 (fun z => ?_)
    rw [ew] at e2
    have : (kf q).1 7 w = some (260 + 20 * w) := by
      show kR q 7 w = _
      unfold kR
      rw [if_neg (by omega), if_neg (by omega), if_pos rfl]
      rcases w01 with e | e
      · rcases z with ⟨-, z⟩ | ⟨z, -⟩
        · rw [if_pos e, if_pos z, e]
        · omega
      · rcases z with ⟨z, -⟩ | ⟨-, z⟩
        · omega
        · rw [if_neg (by omega), if_pos e, if_pos z, e]
    rw [← e2, hn] at this
    cases this
  · rw [h4] at e2
    have e2 : (kf q).1 7 l.toNatClampNeg = some c4 := e2.symm
    rw [ew] at e2
    obtain ⟨-, ec⟩ := k7_w e2
    have ho := k7_T e2
    rw [ec] at e2 ho ⊢
    obtain ⟨⟨t1, t2⟩, -⟩ := hH.2.2.2 _ hO
    have nn : 0 ≤ (x.1 (260 + 20 * w) 0).toInt := by
      rcases t2 with e | ⟨a, b⟩
      · rw [e]; exact Int.le_refl _
      · exact a.1.1
    refine ⟨fun c => ri_i (h0 ?_), fun c => ri_i ?_⟩
    · rw [t_le, k0] at c; rw [t_eq, k0]; omega
    · have nz : ¬ x.1 (260 + 20 * w) 0 = 0 := fun z => c (by rw [z, t_le]; exact Int.le_refl _)
      rcases t2 with e | ⟨a, b⟩
      · exact absurd e nz
      · exact h1 e2 ho a b nz
theorem kh_fnd (hq : kV q) (l : Int32) (hA : ¬ (0 ≤ l.toInt ∧ l.toInt < 11) → X iAE x) (h : 0 ≤ l.toInt → l.toInt < 11 → Fv x) : KE G q (d + 6) zk_X11_needFinding 0 [(0, vi l)] [] x (rv Fv) X := by
  have k0 : (0 : Int32).toInt = 0 := rfl
  have k11 : (11 : Int32).toInt = 11 := rfl
  refine kg_X11_needFinding_0 hq l ⟨fun c => kg_X11_needFinding_10 hq (hA ?_), fun c => ⟨fun c2 => rv_i (h ?_ ?_), fun c2 => kg_X11_needFinding_10 hq (hA ?_)⟩⟩
  · rw [t_lt, k0] at c; omega
  · rw [t_lt, k0] at c; omega
  · rw [t_lt, k11] at c2; exact c2
  · rw [t_lt, k11] at c2; omega
/-- the first state that shows a finding -/
def fsF (C : gCo) (w : Nat) (T : gTy) (f s : Nat) : Prop := ∃ p, T.1[s]? = some p ∧ fnM C w p.1 f ∧ ∀ s' p', s' < s → T.1[s']? = some p' → ¬ fnM C w p'.1 f
theorem kh_show {Tw : Nat → gTy} (hq : kV q) (hH : HOI x q) (l1 l2 : Int32) (hT : ∀ w, (w = 0 ∨ w = 1) → ¬ x.1 (260 + 20 * w) 0 = 0 → (CK x C ∧ GC C ∧ NX3 C) ∧ TRo C w x (260 + 20 * w) (Tw w) ∧ TW C w (Tw w)) (hA : ¬ ((l1 = 0 ∨ l1 = 1) ∧ 0 ≤ l2.toInt ∧ l2.toInt < 11) → X iAE x) (hS : ∀ w, (w = 0 ∨ w = 1) → l1 = Int32.ofNat w → 0 ≤ l2.toInt → l2.toInt < 11 → (x.1 (260 + 20 * w) 0 = 0 ∨ (¬ x.1 (260 + 20 * w) 0 = 0 ∧ ∀ s, fsF C w (Tw w) l2.toInt.toNat s → 400 < (pth (Tw w) s).length)) → X iSE x) (hP : ∀ w s y, (w = 0 ∨ w = 1) → l1 = Int32.ofNat w → 0 ≤ l2.toInt → l2.toInt < 11 → ¬ x.1 (260 + 20 * w) 0 = 0 → fsF C w (Tw w) l2.toInt.toNat s → (pth (Tw w) s).length ≤ 400 → HOI y q → fm sRn x y → (∀ c, (∀ k v, (pth (Tw w) s)[k]? = some v → c k = v) → KRun C w (pth (Tw w) s).length c y) → y.1 0 10 = 1 → P (some (vi (Int32.ofNat (pth (Tw w) s).length))) y) : KE G q (d + 7) zk_X11_show 0 [(0, vr 0), (1, vi l1), (2, vi l2)] [] x P X := by
  have k1 : (1 : Int32).toInt = 1 := rfl
  have k4 : (400 : Int32).toInt = 400 := rfl
  refine kg_X11_show_0 hq l1 l2 (kf_way hq l1 (fun z => hA (fun z2 => z z2.1)) (fun hw => kh_fnd hq l2 (fun z => hA (fun z2 => z z2.2)) (fun f0 f11 => ?_)))
  obtain ⟨w, w01, ew, ewn⟩ := w_nat hw
  obtain ⟨o, eo⟩ : ∃ o, o = 260 + 20 * w := ⟨_, rfl⟩
  have hO : o = 260 ∨ o = 280 := by omega
  have hS := hS w w01 ew f0 f11
  refine kg_X11_firstState_0 hq l1 l2 (kh_was (w := w) hq hH l1 w01 ew (fun c0 => ⟨fun _ => ?_, fun c => absurd rfl c⟩) (fun e7 ho hz hC nz => ⟨fun c => absurd c (by decide), fun _ => ⟨way_in hw, fun u5 e5 => ⟨o, by rw [e5, ewn, e7, eo], by rw [eo]; exact ho, by rw [vp_in_iff]; omega, ?_⟩⟩⟩))
  · exact ri_i ⟨fun c => absurd rfl c, fun _ => hS (Or.inl c0)⟩
  obtain ⟨⟨hK, gc, hX3⟩, hTR, hTW⟩ := hT w w01 nz
  rw [← eo] at e7 ho hz nz hTR hS
  have hP := hP w
  rw [← eo] at hP
  have F2 : l2.toNatClampNeg = l2.toInt.toNat := rfl
  obtain ⟨⟨t0, -⟩, hPA, hFN⟩ := hTR
  have ff := hFN l2.toInt.toNat (by omega)
  rw [F2]
  refine ri_i ⟨fun c => ?_, fun c => hS (Or.inr ⟨nz, fun s hs => ?_⟩)⟩
  rotate_left
  · rcases ff with ⟨-, g2⟩ | ⟨s9, p9, -, g2, -⟩
    · obtain ⟨p, a1, a2, -⟩ := hs
      exact absurd a2 (g2 s p (gt_lt a1) a1)
    · rw [c, tm1] at g2; omega
  rcases ff with ⟨g1, -⟩ | ⟨s, p, g1, g2, g3, g4, g5⟩
  · exact absurd g1 c
  have hfs : fsF C w (Tw w) l2.toInt.toNat s := ⟨p, g3, g4, g5⟩
  have dd := PA_d hTW hPA s s p (Nat.le_refl _) g3
  have hsl := gt_lt g3
  have b3 := hz.1.2
  obtain ⟨r, er⟩ : ∃ r, r = x.1 (o + 7) l2.toInt.toNat := ⟨_, rfl⟩
  rw [← er] at c g2 ⊢
  have rS : r.toNatClampNeg = s := by rw [t_cl, g2]; rfl
  refine ⟨way_in hw, fun u7 e => ⟨o, by rw [e, ewn, e7], ho, by rw [vp_in_iff]; omega, ?_⟩⟩
  rw [rS]
  refine ⟨fun c4 => ⟨way_in hw, fun u13 e13 => ⟨o, by rw [e13, ewn, e7], ho, ?_⟩⟩, fun c4 => hS (Or.inr ⟨nz, fun s9 hs9 => ?_⟩)⟩
  rotate_left
  · obtain ⟨p9, b1, b2, b3⟩ := hs9
    have : s9 = s := by
      apply Classical.byContradiction
      intro ne
      by_cases lt : s9 < s
      · exact g5 s9 p9 lt b1 b2
      · exact b3 s p (by omega) g3 g4
    rw [this]
    rw [t_le, k4, dd] at c4
    omega
  rw [t_le, k4, dd] at c4
  have l4 : (pth (Tw w) s).length ≤ 400 := by omega
  obtain ⟨c9, hc9⟩ : ∃ c9 : Nat → Nat, ∀ k v, (pth (Tw w) s)[k]? = some v → c9 k = v := ⟨fun k => ((pth (Tw w) s)[k]?).getD 0, fun k v hk => congrArg (fun z : Option Nat => z.getD 0) hk⟩
  obtain ⟨r1, r2⟩ := pth_run hTW s s p (Nat.le_refl _) g3 c9 hc9
  have far : x.1 (o + 12) s = Int32.ofNat (pth (Tw w) s).length := i32_of dd
  refine kt_pathTo3 hq ho kk_162 (kl_162 hq) (by omega) r (S := s) g2 g3 hTW hPA (by omega) l4 (fun y fy hy => ?_)
  rw [far, ew]
  have f1 : fm sRn x y := fm_w fy (fun c k q => by unfold sRn; omega)
  have loop : ∀ (n k : Nat) (i : Int32) (y : gd), i.toInt = k → (pth (Tw w) s).length - k ≤ n → k ≤ (pth (Tw w) s).length → fm sRn x y → KRun C w k c9 y → (∀ j, k ≤ j → j < (pth (Tw w) s).length → (y.1 162 j).toInt = (c9 j : Nat)) → y.1 0 10 = 1 → KE G q (d + 7) zk_X11_show 88 [(0, vr 0), (4, vi (Int32.ofNat (pth (Tw w) s).length)), (5, vi i)] [] y P X := by
    have e4 : (Int32.ofNat (pth (Tw w) s).length).toInt = ((pth (Tw w) s).length : Nat) := by rw [← far]; exact dd
    intro n
    have fin : ∀ (k : Nat) (y : gd), k = (pth (Tw w) s).length → fm sRn x y → KRun C w k c9 y → y.1 0 10 = 1 → P (some (vi (Int32.ofNat (pth (Tw w) s).length))) y := fun k y ek fy hR h10 => by
      rw [ek] at hR
      refine hP s y w01 ew f0 f11 nz hfs l4 (HOI_run fy hR.1 hH) fy (fun c hc => KRun_cg (fun k hk => ?_) hR) h10
      have hg := List.getElem?_eq_getElem hk
      rw [hc9 k _ hg, hc k _ hg]
    induction n with
    | zero =>
      intro k i y ei hn hk fy hR hj h10
      refine kg_X11_show_88 hq _ i ⟨fun _ => fin k y (by omega) fy hR h10, fun cc => ?_⟩
      rw [t_le, e4] at cc; omega
    | succ n ih =>
      intro k i y ei hn hk fy hR hj h10
      refine kg_X11_show_88 hq _ i ⟨fun cc => fin k y ?_ fy hR h10, fun cc => ?_⟩
      · rw [t_le, e4] at cc; omega
      rw [t_le, e4] at cc
      have hkl : k < (pth (Tw w) s).length := by omega
      have iK : i.toNatClampNeg = k := by rw [t_cl, ei]; rfl
      rw [iK]
      refine ⟨by rw [vp_in_iff]; omega, kh_doChoice hq (CK_f hK (fun c k hc => fy c k (by unfold sRn; omega))) gc hX3 hR _ (hj k (Nat.le_refl _) hkl) (r2 k hkl) (by omega) rfl (fun z fz hRz h162 hz10 => ih (k + 1) _ z (by rw [t_add (by rw [k1]; omega) (by rw [k1]; omega), k1, ei]; rfl) (by omega) hkl (fm_tr fy fz) hRz (fun j h1 h2 => by rw [h162 j (by omega)]; exact hj j (by omega) h2) (by rw [hz10]; exact h10))⟩
  exact kh_beginRun hq (CO_fm hC (fun c k hc => fy c k (by omega))) (CK_f hK (fun c k hc => fy c k (by omega))) gc w01 c9 (fun z fz hRz h162 h10 => loop _ 0 _ z rfl (Nat.le_refl _) (Nat.zero_le _) (fm_tr f1 fz) hRz (fun j _ h2 => by
    rw [h162 j]
    have hg := List.getElem?_eq_getElem h2
    rw [hy j _ hg, hc9 j _ hg]) h10)
end KSW
end
section
/-! the model: rows that are the same hold one state, and the other way round -/
section MRW
variable {a b : gd} {C : gCo} {M M' : gMa} {h h' : gTq} {nl t k : Nat}
theorem slN_ex : ∀ {l : List Nat} {k : Nat}, k ∈ l → ∃ p, p < l.length ∧ slN l p = k := by
  intro l
  induction l with
  | nil => intro k h; cases h
  | cons s r ih =>
    intro k h
    by_cases c : k ∈ r
    · obtain ⟨p, p1, p2⟩ := ih c
      refine ⟨p, Nat.lt_succ_of_lt p1, ?_⟩
      rw [slN, if_neg (by omega)]; exact p2
    · rcases List.mem_cons.mp h with e | e
      · exact ⟨r.length, Nat.lt_succ_self _, by rw [slN, if_pos rfl, e]⟩
      · exact absurd e c
theorem stN_8 (hN : NC C) {s : Nat} : ∀ k ∈ (stN C s).2.1, k < 8 := by
  intro k hk
  unfold stN at hk
  cases hs : C.1[s]? with
  | none => rw [hs] at hk; cases hk
  | some st =>
    rw [hs] at hk
    have hk : k ∈ st.2.1 := hk
    obtain ⟨n1, n2, n3⟩ := (hN.1 s st hs).2.2.2.2.1
    have := n2 k hk
    omega
/-- a thread's ints -/
theorem mTq_same (g : mTq a C t h) (g' : mTq b C t h) : a.1 73 t = b.1 73 t ∧ a.1 74 t = b.1 74 t ∧ a.1 75 t = b.1 75 t ∧ a.1 77 t = b.1 77 t ∧ a.1 78 t = b.1 78 t ∧ a.1 79 t = b.1 79 t ∧ a.1 80 t = b.1 80 t ∧ (∀ k, k < 8 → a.1 76 (8 * t + k) = b.1 76 (8 * t + k)) ∧ ∀ k : Nat, (k : Int) < (a.1 80 t).toInt → a.1 81 (10 * t + k) = b.1 81 (10 * t + k) ∧ a.1 82 (10 * t + k) = b.1 82 (10 * t + k) := by
  obtain ⟨q0, q0', q1, q2, q3, q3', q4, q5, ⟨q6, q6'⟩, q7, q7'⟩ := g
  obtain ⟨r0, r0', r1, r2, r3, r3', r4, r5, ⟨r6, r6'⟩, r7, r7'⟩ := g'
  refine ⟨by rw [q0, r0], by rw [t_eq, q2, r2], by rw [q1, r1], by rw [q3, r3], by rw [q4, r4], by rw [q5, r5], by rw [t_eq, q6, r6], fun k hk => ?_, fun k hk => ?_⟩
  · by_cases c : (h.1 = 1 ∨ h.1 = 3) ∧ k ∈ (stN C h.2.2.1).2.1
    · obtain ⟨p, p1, p2⟩ := slN_ex c.2
      have e1 := q7 c.1 p p1
      have e2 := r7 c.1 p p1
      rw [p2] at e1 e2
      rw [e1, e2]
    · rw [q7' k hk c, r7' k hk c]
  · rw [q6] at hk
    have hg := List.getElem?_eq_getElem (show k < h.2.2.2.2.2.2.1.length by omega)
    obtain ⟨a1, a2, -⟩ := q6' k _ hg
    obtain ⟨b1, b2, -⟩ := r6' k _ hg
    exact ⟨by rw [a1, b1], by rw [a2, b2]⟩
/-- the places of a row -/
theorem row_at {i : Nat} (hi : i < 222) : i < 24 ∨ (∃ l, l < 6 ∧ (i = 24 + 2 * l ∨ i = 25 + 2 * l)) ∨ ∃ t, t < 6 ∧ ((∃ r, r < 7 ∧ i = 36 + 31 * t + r) ∨ (∃ k, k < 8 ∧ i = 43 + 31 * t + k) ∨ ∃ k, k < 8 ∧ (i = 51 + 31 * t + 2 * k ∨ i = 52 + 31 * t + 2 * k)) := by
  by_cases c1 : i < 24
  · exact Or.inl c1
  · by_cases c2 : i < 36
    · exact Or.inr (Or.inl ⟨(i - 24) / 2, by omega, by omega⟩)
    · refine Or.inr (Or.inr ⟨(i - 36) / 31, by omega, ?_⟩)
      by_cases c3 : (i - 36) % 31 < 7
      · exact Or.inl ⟨(i - 36) % 31, c3, by omega⟩
      · by_cases c4 : (i - 36) % 31 < 15
        · exact Or.inr (Or.inl ⟨(i - 36) % 31 - 7, by omega, by omega⟩)
        · exact Or.inr (Or.inr ⟨((i - 36) % 31 - 15) / 2, by omega, by omega⟩)
theorem pv_t {t r : Nat} (ht : t < 6) (hr : r < 7) : pv a (36 + 31 * t + r) = a.1 (if r = 0 then 73 else if r = 1 then 74 else if r = 2 then 75 else if r = 3 then 77 else if r = 4 then 78 else if r = 5 then 79 else 80) t := by
  rw [pv_n (Or.inr (by omega)), tg_t ht hr]
theorem pv_lo {t k : Nat} (ht : t < 6) (hk : k < 8) : pv a (43 + 31 * t + k) = a.1 76 (8 * t + k) := by
  rw [pv_n (Or.inr (by omega)), tg_lo ht hk]
theorem pv_l0 {l : Nat} (hl : l < 6) : pv a (24 + 2 * l) = a.1 71 l := by rw [pv_n (Or.inl (by omega)), tg_l0 hl]
theorem pv_l1 {l : Nat} (hl : l < 6) : pv a (25 + 2 * l) = a.1 72 l := by rw [pv_n (Or.inl (by omega)), tg_l1 hl]
theorem pv_c {c : Nat} (hc : c < 24) : pv a c = a.1 70 c := by rw [pv_n (Or.inl (by omega)), tg_c hc]
/-- one state, one row -/
theorem rows_same (g : MM1 a C M) (g' : MM1 b C M) : ∀ i, i < 222 → pv a i = pv b i := by
  obtain ⟨g1, g2, g3⟩ := g
  obtain ⟨h1, h2, h3⟩ := g'
  intro i hi
  rcases row_at hi with c | ⟨l, hl, e | e⟩ | ⟨t, ht, ⟨r, hr, e⟩ | ⟨k, hk, e⟩ | ⟨k, hk, e | e⟩⟩
  · rw [pv_c c, pv_c c, g1 i c, h1 i c]
  · rw [e, pv_l0 hl, pv_l0 hl, (g2 l hl).1, (h2 l hl).1]
  · rw [e, pv_l1 hl, pv_l1 hl, (g2 l hl).2.2, (h2 l hl).2.2]
  · obtain ⟨s0, s1, s2, s3, s4, s5, s6, -, -⟩ := mTq_same (g3 t ht) (h3 t ht)
    rw [e, pv_t ht hr, pv_t ht hr]
    have : r = 0 ∨ r = 1 ∨ r = 2 ∨ r = 3 ∨ r = 4 ∨ r = 5 ∨ r = 6 := by omega
    rcases this with c | c | c | c | c | c | c <;> rw [c]
    · exact s0
    · exact s1
    · exact s2
    · exact s3
    · exact s4
    · exact s5
    · exact s6
  · obtain ⟨-, -, -, -, -, -, -, s7, -⟩ := mTq_same (g3 t ht) (h3 t ht)
    rw [e, pv_lo ht hk, pv_lo ht hk]; exact s7 k hk
  · obtain ⟨-, -, -, -, -, -, s6, -, s8⟩ := mTq_same (g3 t ht) (h3 t ht)
    rw [e, pv_a ht hk, pv_a ht hk, ← s6]
    by_cases c : (k : Int) < (a.1 80 t).toInt
    · rw [if_pos c, if_pos c]; exact (s8 k c).1
    · rw [if_neg c, if_neg c]
  · obtain ⟨-, -, -, -, -, -, s6, -, s8⟩ := mTq_same (g3 t ht) (h3 t ht)
    rw [e, pv_b ht hk, pv_b ht hk, ← s6]
    by_cases c : (k : Int) < (a.1 80 t).toInt
    · rw [if_pos c, if_pos c]; exact (s8 k c).2
    · rw [if_neg c, if_neg c]
theorem hol_in {n m : Nat} (hn : n ≤ 9) (hm : m ≤ 9) (e : Int32.ofNat n - 1 = Int32.ofNat m - 1) : n = m := by
  have s : ∀ n, n < 10 → ∀ m, m < 10 → Int32.ofNat n - 1 = Int32.ofNat m - 1 → n = m := by decide +kernel
  exact s n (by omega) m (by omega) e
/-- one row, one state -/
theorem rows_one (hN : NC C) (l24 : C.2.2.1.length ≤ 24) (l6 : C.2.1.length ≤ 6) (n6 : nl ≤ 6) (g : MM1 a C M) (g' : MM1 b C M') (q : MCn C nl M) (q' : MCn C nl M') (n9 : NBm M) (n9' : NBm M') (l8 : ∀ t, t < 6 → (a.1 80 t).toInt ≤ 8) (hr : ∀ i, i < 222 → pv a i = pv b i) : M = M' := by
  obtain ⟨g1, g2, g3⟩ := g
  obtain ⟨h1, h2, h3⟩ := g'
  refine MCn_eq q q' (fun c hc => ?_) (fun l hl => ?_) (fun t ht => ?_)
  · have := hr c (by omega)
    rw [pv_c (by omega), pv_c (by omega), g1 c (by omega), h1 c (by omega)] at this
    exact this
  · obtain ⟨a1, a2, a3⟩ := g2 l (by omega)
    obtain ⟨b1, b2, b3⟩ := h2 l (by omega)
    have k1 := hr (24 + 2 * l) (by omega)
    have k2 := hr (25 + 2 * l) (by omega)
    rw [pv_l0 (by omega), pv_l0 (by omega), a1, b1] at k1
    rw [pv_l1 (by omega), pv_l1 (by omega), a3, b3] at k2
    exact Prod.ext (hol_in (by omega) (by omega) k1) k2
  · have t6 : t < 6 := by omega
    have rr := fun (r : Nat) (h7 : r < 7) => (pv_t (a := a) t6 h7).symm.trans ((hr (36 + 31 * t + r) (by omega)).trans (pv_t (a := b) t6 h7))
    have m9 := n9 t
    have m9' := n9' t
    have c1 := (q.2.2 t).2.1
    have c2 := (q'.2.2 t).2.1
    have le := l8 t t6
    obtain ⟨q0, q0', q1, q2, q3, q3', q4, q5, ⟨q6, q6'⟩, q7, q7'⟩ := g3 t t6
    obtain ⟨r0, r0', r1, r2, r3, r3', r4, r5, ⟨r6, r6'⟩, r7, r7'⟩ := h3 t t6
    have k0 : a.1 73 t = b.1 73 t := rr 0 (by omega)
    have k1 : a.1 74 t = b.1 74 t := rr 1 (by omega)
    have k2 : a.1 75 t = b.1 75 t := rr 2 (by omega)
    have k3 : a.1 77 t = b.1 77 t := rr 3 (by omega)
    have k4 : a.1 78 t = b.1 78 t := rr 4 (by omega)
    have k5 : a.1 79 t = b.1 79 t := rr 5 (by omega)
    have k6 : a.1 80 t = b.1 80 t := rr 6 (by omega)
    have e0 : (M.2.2 t).1 = (M'.2.2 t).1 := ofN_in9 (by omega) (by omega) (by rw [← q0, ← r0, k0])
    have e1 : (M.2.2 t).2.1 = (M'.2.2 t).2.1 := ofN_in9 (by omega) (by omega) (by rw [← q1, ← r1, k2])
    have e2 : (M.2.2 t).2.2.1 = (M'.2.2 t).2.2.1 := by rw [k1, r2] at q2; omega
    have e3 : (M.2.2 t).2.2.2.1 = (M'.2.2 t).2.2.2.1 := ofN_in9 (by omega) (by omega) (by rw [← q3, ← r3, k3])
    have e4 : (M.2.2 t).2.2.2.2.1 = (M'.2.2 t).2.2.2.2.1 := by rw [← q4, ← r4, k4]
    have e5 : (M.2.2 t).2.2.2.2.2.1 = (M'.2.2 t).2.2.2.2.2.1 := by rw [← q5, ← r5, k5]
    have len : (M.2.2 t).2.2.2.2.2.2.1.length = (M'.2.2 t).2.2.2.2.2.2.1.length := by rw [k6, r6] at q6; omega
    have e6 : (M.2.2 t).2.2.2.2.2.2.1 = (M'.2.2 t).2.2.2.2.2.2.1 := by
      refine List.ext_getElem? (fun i => ?_)
      by_cases ci : i < (M.2.2 t).2.2.2.2.2.2.1.length
      · obtain ⟨p, hp⟩ : ∃ p, (M.2.2 t).2.2.2.2.2.2.1[i]? = some p := ⟨_, List.getElem?_eq_getElem ci⟩
        obtain ⟨p', hp'⟩ : ∃ p', (M'.2.2 t).2.2.2.2.2.2.1[i]? = some p' := ⟨_, List.getElem?_eq_getElem (by omega)⟩
        obtain ⟨a1, a2, a3⟩ := q6' i p hp
        obtain ⟨b1, b2, b3⟩ := r6' i p' hp'
        have i8 : i < 8 := by omega
        have u1 := hr (51 + 31 * t + 2 * i) (by omega)
        have u2 := hr (52 + 31 * t + 2 * i) (by omega)
        rw [pv_a t6 i8, pv_a t6 i8, if_pos (by omega), if_pos (by omega), a1, b1] at u1
        rw [pv_b t6 i8, pv_b t6 i8, if_pos (by omega), if_pos (by omega), a2, b2] at u2
        have v1 : (Int32.ofNat p.1).toInt = (p.1 : Nat) := Int32.toInt_ofNat_of_lt (by omega)
        have v2 : (Int32.ofNat p'.1).toInt = (p'.1 : Nat) := Int32.toInt_ofNat_of_lt (by omega)
        rw [hp, hp']
        exact congrArg some (Prod.ext (by rw [u1, v2] at v1; omega) u2)
      · rw [List.getElem?_eq_none_iff.mpr (by omega), List.getElem?_eq_none_iff.mpr (by omega)]
    have e7 : (M.2.2 t).2.2.2.2.2.2.2 = (M'.2.2 t).2.2.2.2.2.2.2 := by
      funext p
      rw [← e0, ← e2] at r7 c2
      by_cases cp : ((M.2.2 t).1 = 1 ∨ (M.2.2 t).1 = 3) ∧ p < (stN C (M.2.2 t).2.2.1).2.1.length
      · have s8 := stN_8 hN _ (slN_mem cp.2)
        have := hr (43 + 31 * t + slN (stN C (M.2.2 t).2.2.1).2.1 p) (by omega)
        rw [pv_lo t6 s8, pv_lo t6 s8, q7 cp.1 p cp.2, r7 cp.1 p cp.2] at this
        exact this
      · rw [c1 p cp, c2 p cp]
    exact Prod.ext e0 (Prod.ext e1 (Prod.ext e2 (Prod.ext e3 (Prod.ext e4 (Prod.ext e5 (Prod.ext e6 e7))))))
end MRW
end
section
/-! the model: a state is sought among those kept -/
def rwZ (z : gd) (s : Nat) : Nat → Int32 := fun i => z.1 133 (240 * s + i)
def hsF (S : Int32 → Int32 → Int32) (r : Nat → Int32) : Nat → Int32
  | 0 => 0
  | k + 1 => S (hsF S r k) (r k)
def hs31 (a b : Int32) : Int32 := (a * 31) + b
def hsE (v : Int32) : Int32 := ((v ^^^ (((v : Int32).toUInt32 >>> ((12 : Int32).toUInt32 &&& Int32.toUInt32 31)).toInt32)) ^^^ (((v : Int32).toUInt32 >>> ((22 : Int32).toUInt32 &&& Int32.toUInt32 31)).toInt32)) &&& 4095
def hsO (r : Nat → Int32) : Nat := (hsE (hsF hs31 r 222)).toNatClampNeg
/-- s stands on the chain from v on -/
def pCf (nx : Nat → Int32) : Nat → Int32 → Nat → Prop
  | 0, _, _ => False
  | f + 1, v, s => ¬ v = -1 ∧ (v.toInt = (s : Nat) ∨ pCf nx f (nx v.toNatClampNeg) s)
/-- each of the first n stands on its chain -/
def chC (z : gd) (n : Nat) : Prop := ∀ s, s < n → ∃ f, pCf (z.1 134) f (z.1 135 (hsO (rwZ z s))) s
section SK3
variable {G : mG} {d D : Nat} {x z a : gd} {F : Int32 → gd → Prop} {Fv : gd → Prop}
theorem hsF_cg {S : Int32 → Int32 → Int32} {r r' : Nat → Int32} : ∀ {n : Nat}, (∀ i, i < n → r i = r' i) → hsF S r n = hsF S r' n := by
  intro n
  induction n with
  | zero => intro _; rfl
  | succ n ih =>
    intro h
    rw [hsF, hsF, ih (fun i hi => h i (by omega)), h n (by omega)]
theorem hsO_cg {r r' : Nat → Int32} (h : ∀ i, i < 222 → r i = r' i) : hsO r = hsO r' := by
  unfold hsO; rw [hsF_cg h]
theorem pCf_up {nx nx' : Nat → Int32} {m s : Nat} (e : ∀ j, j < m → nx' j = nx j) (hs : ∀ j, j < m → nx j = -1 ∨ (0 ≤ (nx j).toInt ∧ (nx j).toInt < j)) : ∀ (f : Nat) (v : Int32), (v = -1 ∨ (0 ≤ v.toInt ∧ v.toInt < m)) → pCf nx f v s → pCf nx' f v s := by
  intro f
  induction f with
  | zero => intro v _ h; exact h
  | succ f ih =>
    intro v hv h
    obtain ⟨h1, h2⟩ := h
    obtain ⟨v0, v1⟩ := hv.resolve_left h1
    have cv := cl_i v0
    refine ⟨h1, h2.imp id (fun h3 => ?_)⟩
    rw [e _ (by omega)]
    refine ih _ ?_ h3
    exact (hs _ (by omega)).imp id (fun w => by omega)
theorem sp_seek3 (w : Int32) (wv : vp_in w 2) {m : Nat} (em : (z.1 120 w.toNatClampNeg).toInt = (m : Nat)) (m1 : m ≤ 3000) (hs : hsR z (m : Nat)) (hc : chC z m) (h80 : ∀ t : Nat, t < 6 → (z.1 80 t).toInt ≤ 8) (h : ∀ r z', md [136] [133, 134, 135] z z' → (∀ j : Nat, j < 240 * m → z'.1 133 j = z.1 133 j) → ((r = z.1 120 w.toNatClampNeg ∧ (∀ i : Nat, i < 222 → z'.1 133 (240 * m + i) = pv z i) ∧ hsR z' ((m : Int) + 1) ∧ chC z' (m + 1) ∧ ∀ s, s < m → ¬ ∀ i, i < 222 → z.1 133 (240 * s + i) = pv z i) ∨ (∃ s : Nat, s < m ∧ r.toInt = (s : Nat) ∧ hsR z' (m : Nat) ∧ chC z' m ∧ ∀ i, i < 222 → z.1 133 (240 * s + i) = pv z i)) → F r z') : MT G (D + 1) z_seek 0 [(0, vr 0), (1, vi w)] [] z (ri F) := by
  have k0 : (0 : Int32).toInt = 0 := rfl
  have k1 : (1 : Int32).toInt = 1 := rfl
  have k24 : (240 : Int32).toInt = 240 := rfl
  obtain ⟨M, eM⟩ : ∃ M, M = z.1 120 w.toNatClampNeg := ⟨_, rfl⟩
  rw [← eM] at em h
  have b1 : (240 * M).toInt = 240 * M.toInt := by rw [t_mul (by rw [k24]; omega) (by rw [k24]; omega), k24]
  have cM : M.toNatClampNeg = m := by rw [t_cl, em]; rfl
  have cb : (240 * M).toNatClampNeg = 240 * m := by have := cl_i (a := 240 * M) (by omega); omega
  refine sg_seek_0 _ ⟨wv, ?_⟩
  rw [← eM]
  refine sp_pack (Or.inl rfl) mk_133 ml_133 (240 * M) (by omega) (by omega) (by omega) h80 (fun y my y136 yr yo => ?_)
  rw [cb] at yr yo
  have y120 : y.1 120 w.toNatClampNeg = M := by rw [my.2.1 120 (by decide) (by decide), eM]
  have y134 : y.1 134 = z.1 134 := my.2.1 134 (by decide) (by decide)
  have y135 : y.1 135 = z.1 135 := my.2.1 135 (by decide) (by decide)
  have ylo : ∀ s i, s < m → i < 222 → y.1 133 (240 * s + i) = z.1 133 (240 * s + i) := fun s i hs hi => yo _ (Or.inl (by omega))
  obtain ⟨HV, eHV⟩ : ∃ HV, HV = hsE (hsF hs31 (fun i => pv z i) 222) := ⟨_, rfl⟩
  have hHV : vp_in HV 4096 := by rw [eHV]; exact t_and4 _
  have HVb := vp_lt hHV
  have hsame : ∀ s, s < m → (∀ i, i < 222 → z.1 133 (240 * s + i) = pv z i) → hsO (rwZ z s) = HV.toNatClampNeg := fun s hs9 he => by
    rw [eHV]
    exact hsO_cg (fun i hi => he i hi)
  have hs2 : ∀ j, j < m → z.1 134 j = -1 ∨ (0 ≤ (z.1 134 j).toInt ∧ (z.1 134 j).toInt < j) := fun j hj => hs.2 j (by omega)
  have new : (∀ s, s < m → ¬ ∀ i, i < 222 → z.1 133 (240 * s + i) = pv z i) → vp_in w 2 ∧ vp_in HV 4096 ∧ vp_in (y.1 120 w.toNatClampNeg) 3001 ∧ (∀ x5 : gd, x5 = si y 134 (y.1 120 w.toNatClampNeg : Int32).toNatClampNeg (y.1 135 HV.toNatClampNeg) → vp_in w 2 ∧ vp_in HV 4096 ∧ (∀ x8 : gd, x8 = si x5 135 HV.toNatClampNeg (x5.1 120 w.toNatClampNeg) → vp_in w 2 ∧ ri F (some (vi (x8.1 120 w.toNatClampNeg))) x8)) := by
    intro hnone
    rw [y120, cM]
    refine ⟨wv, hHV, by rw [vp_in_iff]; omega, fun y5 e5 => ⟨wv, hHV, fun y8 e8 => ⟨wv, ?_⟩⟩⟩
    have m5 := md_a y 134 m (y.1 135 HV.toNatClampNeg) (by decide)
    rw [← e5] at m5
    have f5 : y5.1 120 w.toNatClampNeg = M := by rw [m5.2.1 120 (by decide) (by decide), y120]
    rw [f5] at e8
    have m8 := md_a y5 135 HV.toNatClampNeg M (by decide)
    rw [← e8] at m8
    have mm : md [136] [133, 134, 135] z y8 := md_tr (md_tr (L3 := [136]) (A3 := [133, 134]) my m5 rfl rfl) m8 rfl rfl
    have f8 : y8.1 120 w.toNatClampNeg = M := by rw [m8.2.1 120 (by decide) (by decide), f5]
    have f133 : y8.1 133 = y.1 133 := by rw [m8.2.1 133 (by decide) (by decide), m5.2.1 133 (by decide) (by decide)]
    have n134 : ∀ j, y8.1 134 j = if j = m then z.1 135 HV.toNatClampNeg else z.1 134 j := fun j => by
      rw [m8.2.1 134 (by decide) (by decide), e5, si_get]
      by_cases q : j = m
      · rw [if_pos ⟨rfl, q⟩, if_pos q, y135]
      · rw [if_neg (fun w => q w.2), if_neg q, y134]
    have n135 : ∀ j, y8.1 135 j = if j = HV.toNatClampNeg then M else z.1 135 j := fun j => by
      rw [e8, si_get]
      by_cases q : j = HV.toNatClampNeg
      · rw [if_pos ⟨rfl, q⟩, if_pos q]
      · rw [if_neg (fun w => q w.2), if_neg q, m5.2.1 135 (by decide) (by decide), y135]
    have nM : ¬ M = -1 := fun e => by rw [e, tm1] at em; omega
    rw [f8]
    refine ri_i (h M y8 mm (fun j hj => by rw [f133]; exact yo j (Or.inl hj)) (Or.inl ⟨rfl, by rw [f133]; exact yr, ⟨fun k hk => ?_, fun s hs9 => ?_⟩, fun s hs9 => ?_, hnone⟩))
    · rw [n135]
      by_cases q : k = HV.toNatClampNeg
      · rw [if_pos q]; exact Or.inr (by omega)
      · rw [if_neg q]; exact (hs.1 k hk).imp id (fun w => by omega)
    · rw [n134]
      by_cases q : s = m
      · rw [if_pos q]
        exact (hs.1 _ HVb).imp id (fun w => by omega)
      · rw [if_neg q]; exact hs.2 s (by omega)
    · by_cases q : s = m
      · refine ⟨1, ?_⟩
        have eO : hsO (rwZ y8 s) = HV.toNatClampNeg := by
          rw [eHV]
          exact hsO_cg (fun i hi => by show y8.1 133 (240 * s + i) = _; rw [f133, q]; exact yr i hi)
        rw [eO, n135, if_pos rfl]
        exact ⟨nM, Or.inl (by rw [q]; exact em)⟩
      · have sm : s < m := by omega
        obtain ⟨f, hf⟩ := hc s sm
        have eO : hsO (rwZ y8 s) = hsO (rwZ z s) := hsO_cg (fun i hi => by show y8.1 133 (240 * s + i) = _; rw [f133]; exact ylo s i sm hi)
        have hb : hsO (rwZ z s) < 4096 := vp_lt (t_and4 _)
        have hd := hs.1 _ hb
        have up := pCf_up (nx := z.1 134) (nx' := y8.1 134) (m := m) (s := s) (fun j hj => by rw [n134, if_neg (by omega)]) hs2 f _ hd hf
        rw [eO, n135]
        by_cases q2 : hsO (rwZ z s) = HV.toNatClampNeg
        · rw [if_pos q2]
          refine ⟨f + 1, nM, Or.inr ?_⟩
          rw [cM, n134, if_pos rfl, ← q2]; exact up
        · rw [if_neg q2]; exact ⟨f, up⟩
  have old : ∀ s9 : Nat, s9 < m → ∀ s : Int32, s.toInt = (s9 : Nat) → (∀ i, i < 222 → y.1 133 (240 * s9 + i) = pv z i) → ri F (some (vi s)) y := fun s9 h9 s es he => ri_i (h s y (md_w my (by decide) (by decide)) (fun j hj => yo j (Or.inl hj)) (Or.inr ⟨s9, h9, es, ⟨fun k hk => by rw [y135]; exact hs.1 k hk, fun k hk => by rw [y134]; exact hs.2 k hk⟩, fun s hs9 => by
    rw [y134, y135, show hsO (rwZ y s) = hsO (rwZ z s) from hsO_cg (fun i hi => ylo s i hs9 hi)]
    exact hc s hs9, fun i hi => by rw [← ylo s9 i h9 hi]; exact he i hi⟩))
  -- the chain
  have p79 : ∀ (n : Nat) (s : Int32), (s = -1 ∨ (0 ≤ s.toInt ∧ s.toInt < m)) → s.toInt + 1 ≤ n → (∀ s9, s9 < m → (∀ i, i < 222 → z.1 133 (240 * s9 + i) = pv z i) → ∃ f, pCf (z.1 134) f s s9) → MT G (D + 1) z_seek 79 [(0, vr 0), (1, vi w), (2, vi (240 * M)), (3, vi HV), (4, vi s)] [] y (ri F) := by
    intro n
    have fin : ∀ s : Int32, (∀ s9, s9 < m → (∀ i, i < 222 → z.1 133 (240 * s9 + i) = pv z i) → ∃ f, pCf (z.1 134) f s s9) → s = -1 → ∀ s9, s9 < m → ¬ ∀ i, i < 222 → z.1 133 (240 * s9 + i) = pv z i := by
      intro s hm e s9 h9 he
      obtain ⟨f, hf⟩ := hm s9 h9 he
      cases f with
      | zero => exact hf
      | succ f => exact hf.1 e
    induction n with
    | zero =>
      intro s h1 hn hm
      have s1 : s = -1 := h1.resolve_right (fun q => by omega)
      exact sg_seek_79 _ _ _ _ ⟨fun _ => new (fin s hm s1), fun c => absurd s1 c⟩
    | succ n ih =>
      intro s h1 hn hm
      refine sg_seek_79 _ _ _ _ ⟨fun c => new (fin s hm c), fun c => ?_⟩
      obtain ⟨s0, sM⟩ := h1.resolve_left c
      have cs := cl_i s0
      obtain ⟨S, eS⟩ : ∃ S, S = s.toNatClampNeg := ⟨_, rfl⟩
      rw [← eS] at cs
      have sb : (240 * s).toInt = 240 * s.toInt := by rw [t_mul (by rw [k24]; omega) (by rw [k24]; omega), k24]
      have Sm : S < m := by omega
      have p144 : ∀ v : Int32, ((v = 1 ∧ ∀ i, i < 222 → y.1 133 (240 * S + i) = pv z i) ∨ (v = 0 ∧ ¬ ∀ i, i < 222 → y.1 133 (240 * S + i) = pv z i)) → MT G (D + 1) z_seek 144 [(0, vr 0), (1, vi w), (2, vi (240 * M)), (3, vi HV), (4, vi s), (5, vi v)] [] y (ri F) := by
        intro v hv
        refine sg_seek_144 _ _ _ _ _ ⟨fun cv => ⟨by rw [vp_in_iff]; omega, ?_⟩, fun cv => ?_⟩
        · have ne : ¬ ∀ i, i < 222 → y.1 133 (240 * S + i) = pv z i := by
            rcases hv with ⟨e, -⟩ | ⟨-, e⟩
            · rw [e] at cv; exact absurd cv (by decide)
            · exact e
          rw [y134, ← eS]
          have nh : ∀ s9, s9 < m → (∀ i, i < 222 → z.1 133 (240 * s9 + i) = pv z i) → ∃ f, pCf (z.1 134) f (z.1 134 S) s9 := by
            intro s9 h9 he
            obtain ⟨f, hf⟩ := hm s9 h9 he
            cases f with
            | zero => exact absurd hf (fun z => z)
            | succ f =>
              rcases hf.2 with e | e
              · exfalso
                have : s9 = S := by omega
                rw [this] at he
                exact ne (fun i hi => by rw [ylo S i Sm hi]; exact he i hi)
              · rw [← eS] at e; exact ⟨f, e⟩
          rcases hs.2 S (by omega) with q | q
          · rw [q] at nh ⊢; exact ih (-1) (Or.inl rfl) (by show (-1 : Int) + 1 ≤ _; omega) nh
          · exact ih _ (Or.inr ⟨q.1, by omega⟩) (by omega) nh
        · rcases hv with ⟨-, e⟩ | ⟨e, -⟩
          · exact old S Sm s (by omega) e
          · exact absurd e cv
      have p91 : ∀ (m9 k : Nat) (v i : Int32), i.toInt = (k : Nat) → 222 - k ≤ m9 → k ≤ 222 → ((v = 1 ∧ ∀ i, i < k → y.1 133 (240 * S + i) = pv z i) ∨ (v = 0 ∧ ¬ ∀ i, i < 222 → y.1 133 (240 * S + i) = pv z i)) → MT G (D + 1) z_seek 91 [(0, vr 0), (1, vi w), (2, vi (240 * M)), (3, vi HV), (4, vi s), (5, vi v), (6, vi i)] [] y (ri F) := by
        intro m9
        have go : ∀ (k : Nat) (v : Int32), k = 222 → ((v = 1 ∧ ∀ i, i < k → y.1 133 (240 * S + i) = pv z i) ∨ (v = 0 ∧ ¬ ∀ i, i < 222 → y.1 133 (240 * S + i) = pv z i)) → MT G (D + 1) z_seek 144 [(0, vr 0), (1, vi w), (2, vi (240 * M)), (3, vi HV), (4, vi s), (5, vi v)] [] y (ri F) := fun k v ek hv => p144 v (by rw [ek] at hv; exact hv)
        induction m9 with
        | zero =>
          intro k v i ei hn hk hv
          exact sg_seek_91 _ _ _ _ _ _ ⟨fun _ => go k v (by omega) hv, fun c => absurd (t_le.mpr (by rw [y136]; omega)) c⟩
        | succ m9 ihm =>
          intro k v i ei hn hk hv
          refine sg_seek_91 _ _ _ _ _ _ ⟨fun c2 => go k v (by rw [t_le, y136] at c2; omega) hv, fun c2 => ⟨fun v0 => p144 v (Or.inr ⟨v0, ?_⟩), fun vn => ?_⟩⟩
          · rcases hv with ⟨e, -⟩ | ⟨-, e⟩
            · rw [e] at v0; exact absurd v0 (by decide)
            · exact e
          rw [t_le, y136] at c2
          have hv1 : ∀ i, i < k → y.1 133 (240 * S + i) = pv z i := by
            rcases hv with ⟨-, e⟩ | ⟨e, -⟩
            · exact e
            · exact absurd e vn
          have ii : (i + 1).toInt = ((k + 1 : Nat) : Int) := by rw [t_add (by omega) (by omega), k1, ei]; rfl
          have x1 : (240 * s + i).toInt = 240 * s.toInt + i.toInt := by rw [t_add (by omega) (by omega), sb]
          have x2 : (240 * M + i).toInt = 240 * M.toInt + i.toInt := by rw [t_add (by omega) (by omega), b1]
          have c1 : (240 * s + i).toNatClampNeg = 240 * S + k := by rw [t_cl, x1]; omega
          have c3 : (240 * M + i).toNatClampNeg = 240 * m + k := by rw [t_cl, x2]; omega
          rw [c1, c3, yr k (by omega)]
          refine ⟨by rw [vp_in_iff]; omega, by rw [vp_in_iff]; omega, fun ne => ihm (k + 1) _ _ ii (by omega) (by omega) (Or.inr ⟨rfl, fun z9 => ne (z9 k (by omega))⟩), fun e => ihm (k + 1) _ _ ii (by omega) (by omega) (Or.inl ⟨rfl, fun i9 h9 => ?_⟩)⟩
          by_cases q : i9 = k
          · rw [q]; exact e
          · exact hv1 i9 (by omega)
      exact p91 222 0 1 0 rfl (by omega) (by omega) (Or.inl ⟨rfl, fun i hi => absurd hi (Nat.not_lt_zero _)⟩)
  have p25 : ∀ (n k : Nat) (hh i : Int32), i.toInt = (k : Nat) → 222 - k ≤ n → k ≤ 222 → hh = hsF hs31 (fun i => pv z i) k → MT G (D + 1) z_seek 25 [(0, vr 0), (1, vi w), (2, vi (240 * M)), (3, vi hh), (4, vi i)] [] y (ri F) := by
    have last : ∀ (k : Nat) (hh : Int32), k = 222 → hh = hsF hs31 (fun i => pv z i) k → vp_in (hsE hh) 4096 ∧ MT G (D + 1) z_seek 79 [(0, vr 0), (1, vi w), (2, vi (240 * M)), (3, vi (hsE hh)), (4, vi (y.1 135 (hsE hh).toNatClampNeg))] [] y (ri F) := by
      intro k hh ek eh
      rw [ek] at eh
      rw [eh, ← eHV, y135]
      have hd := hs.1 _ HVb
      refine ⟨hHV, p79 3001 _ (hd.imp id (fun q => by omega)) ?_ (fun s9 h9 he => ?_)⟩
      · rcases hd with q | q
        · rw [q]; decide
        · omega
      · rw [← hsame s9 h9 he]; exact hc s9 h9
    intro n
    induction n with
    | zero =>
      intro k hh i ei hn hk eh
      exact sg_seek_25 _ _ _ _ ⟨fun _ => last k hh (by omega) eh, fun c => absurd (t_le.mpr (by rw [y136]; omega)) c⟩
    | succ n ih =>
      intro k hh i ei hn hk eh
      refine sg_seek_25 _ _ _ _ ⟨fun c => last k hh (by rw [t_le, y136] at c; omega) eh, fun c => ?_⟩
      rw [t_le, y136] at c
      have ii : (i + 1).toInt = ((k + 1 : Nat) : Int) := by rw [t_add (by omega) (by omega), k1, ei]; rfl
      have x2 : (240 * M + i).toInt = 240 * M.toInt + i.toInt := by rw [t_add (by omega) (by omega), b1]
      have c3 : (240 * M + i).toNatClampNeg = 240 * m + k := by rw [t_cl, x2]; omega
      rw [c3, yr k (by omega)]
      refine ⟨by rw [vp_in_iff]; omega, ih (k + 1) _ _ ii (by omega) (by omega) ?_⟩
      rw [hsF, ← eh]
      rfl
  exact p25 222 0 0 0 rfl (by omega) (by omega) rfl
end SK3
end
section
/-! the model: what looking at a state asks -/
section MLH
variable {G : mG} {d D : Nat} {x z a y : gd} {F : Int32 → gd → Prop} {Fv : gd → Prop} {C : gCo} {M : gMa} {w : Nat}
theorem evQ_me {lv : Nat → Int32} {cv : Int32 → Int32} {m m' : Int32} : ∀ {Q : List gQ}, (∀ p ∈ Q, ¬ p.1 = 3) → ∀ s, evQ lv cv m Q s = evQ lv cv m' Q s := by
  intro Q
  induction Q with
  | nil => intro _ s; rfl
  | cons q Q ih =>
    intro h s
    have ih := ih (fun p hp => h p (List.mem_cons_of_mem _ hp))
    have h3 := h q (List.mem_cons_self ..)
    rw [evQ, evQ]
    by_cases c1 : q.1 = 1
    · rw [if_pos c1, if_pos c1, ih]
    · rw [if_neg c1, if_neg c1]
      by_cases c2 : q.1 = 2
      · rw [if_pos c2, if_pos c2, ih]
      · rw [if_neg c2, if_neg c2, if_neg h3, if_neg h3]
        by_cases c4 : q.1 = 4
        · rw [if_pos c4, if_pos c4, ih]
        · rw [if_neg c4, if_neg c4]
          by_cases c5 : q.1 = 5
          · rw [if_pos c5, if_pos c5, ih]
          · rw [if_neg c5, if_neg c5]
            cases biQ q.2.2 (s.tail.headD 0) (s.headD 0) with
            | none => rfl
            | some r => exact ih _
theorem sp_hasAct3 (hN : NC C) (hX : NXc C) (w01 : w = 0 ∨ w = 1) (am : AM C w M a) (e : eqS (Sm a) a y) (t : Int32) (tv : vp_in t 6) (hD : 2 ≤ D) (h0 : ¬ canM C w M t.toNatClampNeg → ∀ y', md rL rA y y' → eqS (Sm a) a y' → F 0 y') (h1 : a.1 73 t.toNatClampNeg = 1 → ¬ a.1 77 t.toNatClampNeg = 1 → canM C w M t.toNatClampNeg → ∀ y', md rL rA y y' → eqS (Sm a) a y' → F 1 y') : MT G D z_hasAct 0 [(0, vr 0), (1, vi t)] [] y (ri F) := by
  obtain ⟨av, hK, hM, hI, wy, -⟩ := am
  refine MD_top (ds_hasAct3 (d := 1) (S := Sm a) (x := a) (C := C) (M := M) (F := fun r y S1 => y = a ∧ S1 = Sm a ∧ ((r = 0 ∧ ¬ canM C w M t.toNatClampNeg) ∨ (r = 1 ∧ a.1 73 t.toNatClampNeg = 1 ∧ ¬ a.1 77 t.toNatClampNeg = 1 ∧ canM C w M t.toNatClampNeg))) t tv (RI_sub (Sl_Sm a) av.1) hK hN hX hM wy w01 (fun w0 t' ht' => (hI.1 t' ht').2.2.2 w0) (fun c => ⟨rfl, rfl, Or.inl ⟨rfl, c⟩⟩) (fun c1 c2 c3 => ⟨rfl, rfl, Or.inr ⟨rfl, c1, c2, c3⟩⟩)) e (by omega) (fun o x' S' y' q eq m => ?_)
  obtain ⟨r, eo, ex, eS, hr⟩ := q
  rw [ex, eS] at eq
  rw [eo]
  rcases hr with ⟨hr, c⟩ | ⟨hr, c1, c2, c3⟩
  · rw [hr]; exact ri_i (h0 c y' m eq)
  · rw [hr]; exact ri_i (h1 c1 c2 c3 y' m eq)
theorem sp_lookAt3 (hN : NC C) (hX : NXc C) (w01 : w = 0 ∨ w = 1) (am : AM C w M a) (e : eqS (Sm a) a z) (t : Int32) (tv : vp_in t 6) (h1 : a.1 73 t.toNatClampNeg = 1) (h2 : ¬ a.1 77 t.toNatClampNeg = 1) (hD : 3 ≤ D) (h : ∀ z' x', eqS (Sm a) a z' → md rL rA z z' → lkP a x' t.toNatClampNeg → z'.1 0 88 = x'.1 0 88 → z'.1 0 89 = x'.1 0 89 → z'.1 0 89 = Int32.ofNat (lkM C w M t.toNatClampNeg).1 → z'.1 0 88 = (lkM C w M t.toNatClampNeg).2.1 → Fv z') : MT G D z_lookAt 0 [(0, vr 0), (1, vi t)] [] z (rv Fv) := by
  obtain ⟨av, hK, hM, hI, wy, -⟩ := am
  refine MD_top (ds_look3 (d := 0) (S := Sm a) (C := C) (M := M) (w := w) (Fv := fun y S1 => md [82, 88, 89, 90, 91] [84] a y ∧ ssub (Sm a) S1 ∧ lkS S1 ∧ lkP a y t.toNatClampNeg ∧ lkQ y (lkM C w M t.toNatClampNeg)) t tv (RI_sub (Sl_Sm a) av.1) h1 h2 hK hN hX hM wy w01 (fun y S1 q1 q2 q3 q4 q5 => ⟨q1, q2, q3, q4, q5⟩)) e (by omega) (fun o x' S' z' q eq mz => ?_)
  obtain ⟨eo, mx, ss, ls, lp, lq⟩ := q
  rw [eo]
  have e88 := eq 0 88 (Or.inr ls.1)
  have e89 := eq 0 89 (Or.inr ls.2.1)
  refine rv_i (h z' x' (fun c j hc => ?_) mz lp e88 e89 (by rw [e89]; exact lq.1) (by rw [e88]; exact lq.2.1))
  have hx : eqS (Sm a) a x' := eqS_mi (eqS_rf _ _) (mi_of mx) rfl rfl (ssub_rf _)
  rw [eq c j (hc.imp id (ss c j)), hx c j hc]
/-- a claim's sum -/
theorem sp_claim (hN : NC C) (hq2 : NCq C) (l24 : C.2.2.1.length ≤ 24) (am : AM C w M a) (e : eqS (Sm a) a y) (r : Int32) {Q : List gQ} (hQ : Q ∈ C.2.2.2.1 ∨ Q ∈ C.2.2.2.2) (hS : SUm a r (Q.map (mQp []))) (hD : 2 ≤ D) (h : ∀ v y', md rL rA y y' → eqS (Sm a) a y' → ((v = 0 ∨ ¬ y'.1 0 82 = 0) ↔ badC M Q) → (y'.1 0 82 = 0 ∨ y'.1 0 82 = 1) → F v y') : MT G D z_worked 0 [(0, vr 0), (1, vi r), (2, vi (-1))] [] y (ri F) := by
  obtain ⟨av, hK, hM, hI, wy, -⟩ := am
  have w6 : (a.1 0 49).toInt ≤ 6000 := by have := av.1.1.2.1.2.2.2.1; omega
  obtain ⟨n1, n2⟩ := hN.2.2 Q hQ
  have k1 : ¬ (1 : Int32) = 0 := by decide
  refine MD_top (ds_workedf (d := 0) (S := Sm a) (x := a) (t := -1) (sl := []) (lv := fun _ => 0) (cv := fun c => M.1 c.toNatClampNeg) (F := fun v y S1 => md [82] [84] a y ∧ ssub (Sm a) S1 ∧ S1 0 82 ∧ wkM y (wkQ (fun _ => 0) (fun c => M.1 c.toNatClampNeg) (-1) Q) v) hS w6 n1 (fun p hp => ⟨(n2 p hp).1, fun c => absurd c (n2 p hp).2, fun c => ?_⟩) (fun v y S1 h1 h2 h3 h4 => ⟨h1, h2, h3, h4⟩)) e (by omega) (fun o x' S' y' q eq m => ?_)
  · obtain ⟨c0, c1⟩ := (hq2 Q hQ p hp).2 c
    exact ⟨by rw [vp_in_iff]; omega, hM.1 _ (by rw [t_cl]; omega)⟩
  · obtain ⟨v, eo, mx, ss, s82, wk⟩ := q
    rw [eo]
    have e82 := eq 0 82 (Or.inr s82)
    have ev : wkQ (fun _ => 0) (fun c => M.1 c.toNatClampNeg) (-1) Q = evC M Q := by
      unfold evC wkQ
      rw [evQ_me (m' := 0) (fun p hp => (hq2 Q hQ p hp).1)]
    rw [ev] at wk
    refine ri_i (h v y' m (fun c j hc => ?_) ?_ ?_)
    · have hx : eqS (Sm a) a x' := eqS_mi (eqS_rf _ _) (mi_of mx) rfl rfl (ssub_rf _)
      rw [eq c j (hc.imp id (ss c j)), hx c j hc]
    · rw [e82]
      rcases wk with ⟨u, hu, er, y5⟩ | ⟨hu, y5⟩
      · rw [er, y5]
        constructor
        · rintro (z | z)
          · exact Or.inr (by rw [hu, z])
          · exact absurd rfl z
        · rintro (z | z)
          · rw [hu] at z; cases z
          · rw [hu] at z; exact Or.inl (Option.some.inj z)
      · rw [y5]
        exact ⟨fun _ => Or.inl hu, fun _ => Or.inr k1⟩
    · rw [e82]
      rcases wk with ⟨u, hu, er, y5⟩ | ⟨hu, y5⟩
      · exact Or.inl y5
      · exact Or.inr y5
end MLH
end
section
/-! the model: locks held, outcomes kept -/
/-- the outcomes that are kept, in any order -/
def OUm (y : gd) (W : Nat) (L : List (List Int32)) : Prop := ∃ K : List (List Int32), (y.1 123 W).toInt = (K.length : Nat) ∧ K.length = L.length ∧ (∀ r, r ∈ K ↔ r ∈ L) ∧ (∀ i r, K[i]? = some r → ∀ c v, r[c]? = some v → y.1 129 (72000 * W + 24 * i + c) = v) ∧ (∀ i r, K[i]? = some r → ∀ c, r.length ≤ c → c < 24 → y.1 129 (72000 * W + 24 * i + c) = 0) ∧ K.Pairwise (fun a b => ¬ a = b)
/-- the outcomes as they are told -/
def OUs (y : gd) (W : Nat) (L : List (List Int32)) : Prop := (y.1 123 W).toInt = (L.length : Nat) ∧ L.length ≤ 3000 ∧ ∀ i r, L[i]? = some r → r.length ≤ 24 ∧ (∀ c v, r[c]? = some v → y.1 129 (72000 * W + 24 * i + c) = v) ∧ ∀ c, r.length ≤ c → c < 24 → y.1 129 (72000 * W + 24 * i + c) = 0
section MOU
variable {G : mG} {d D : Nat} {x z a y : gd} {F : Int32 → gd → Prop} {Fv : gd → Prop} {C : gCo} {M : gMa} {w T nl : Nat} {L : List (List Int32)} {r : List Int32}
theorem OUm_f {W : Nat} (e3 : y.1 123 = x.1 123) (e9 : y.1 129 = x.1 129) (h : OUm x W L) : OUm y W L := by
  obtain ⟨K, h1, h2, h3, h4, h5, h6⟩ := h
  exact ⟨K, by rw [e3]; exact h1, h2, h3, fun i r hr c v hv => by rw [e9]; exact h4 i r hr c v hv, fun i r hr c c1 c2 => by rw [e9]; exact h5 i r hr c c1 c2, h6⟩
theorem sp_locksOf3 (t : Int32) (et : t.toInt = T) (hT : T < 6) (en : (z.1 0 24).toInt = (nl : Nat)) (n6 : nl ≤ 6) (e71 : ∀ l, l < nl → z.1 71 l = Int32.ofNat (M.2.1 l).1 - 1 ∧ (M.2.1 l).1 ≤ 6) (h : F (hdN M T nl) z) : MT G d z_locksOf 0 [(0, vr 0), (1, vi t)] [] z (ri F) := by
  have k0 : (0 : Int32).toInt = 0 := rfl
  have k1 : (1 : Int32).toInt = 1 := rfl
  have tT : t = Int32.ofNat T := i32_of et
  have loop : ∀ (n k : Nat) (m i : Int32), i.toInt = k → nl - k ≤ n → k ≤ nl → m = hdN M T k → MT G d z_locksOf 4 [(0, vr 0), (1, vi t), (2, vi m), (3, vi i)] [] z (ri F) := by
    intro n
    have fin : ∀ (k : Nat) (m i : Int32), i.toInt = k → k ≤ nl → m = hdN M T k → z.1 0 24 ≤ i → ri F (some (vi m)) z := by
      intro k m i ei hk em c
      rw [t_le] at c
      have ek : k = nl := by omega
      rw [em, ek]; exact ri_i h
    induction n with
    | zero =>
      intro k m i ei hn hk em
      exact sg_locksOf_4 _ _ _ ⟨fun c => fin k m i ei hk em c, fun c => absurd (t_le.mpr (by omega)) c⟩
    | succ n ih =>
      intro k m i ei hn hk em
      refine sg_locksOf_4 _ _ _ ⟨fun c => fin k m i ei hk em c, fun c => ?_⟩
      rw [t_le] at c
      have ii : (i + 1).toInt = ((k + 1 : Nat) : Int) := by rw [t_add (by omega) (by omega), k1, ei]; rfl
      have iK : i.toNatClampNeg = k := by rw [t_cl, ei]; rfl
      have hk2 : k < nl := by omega
      obtain ⟨q1, q2⟩ := e71 k hk2
      have hh := hol_t (M.2.1 k).1 (by omega) T hT
      rw [iK, q1, tT, hh]
      refine ⟨by rw [vp_in_iff]; omega, fun c => ?_, fun c => ?_⟩
      · rw [← tT]
        exact ih (k + 1) _ _ ii (by omega) (by omega) (by rw [hdN, if_neg c]; exact em)
      · rw [← tT]
        exact ih (k + 1) _ _ ii (by omega) (by omega) (by rw [hdN, if_pos c, ← em, i32_of ei])
  exact sg_locksOf_0 _ (loop nl 0 0 0 rfl (by omega) (Nat.zero_le _) rfl)
theorem t72e {w i c : Int32} {W I c' : Nat} (wv : vp_in w 2) (eW : w.toNatClampNeg = W) (ei : i.toInt = I) (i1 : I < 3000) (ec : c.toInt = c') (c1 : c' < 24) : (72000 * w + 24 * i + c).toNatClampNeg = 72000 * W + 24 * I + c' := by
  have k : (72000 : Int32).toInt = 72000 := rfl
  have k2 : (24 : Int32).toInt = 24 := rfl
  have tv := vp_in_iff.mp wv
  have m : (72000 * w).toInt = 72000 * w.toInt := by rw [t_mul (by rw [k]; omega) (by rw [k]; omega), k]
  have m2 : (24 * i).toInt = 24 * i.toInt := by rw [t_mul (by rw [k2]; omega) (by rw [k2]; omega), k2]
  have e : (72000 * w + 24 * i).toInt = 72000 * w.toInt + 24 * i.toInt := by rw [t_add (by omega) (by omega), m, m2]
  rw [t_cl] at eW
  rw [t_cl, t_add (by omega) (by omega), e]; omega
theorem inR_new (h : soR L) (hl : ∀ s ∈ L, s.length = r.length) (n : ¬ r ∈ L) : (inR r L).length = L.length + 1 := by
  induction L with
  | nil => rfl
  | cons s L ih =>
    have ne : ¬ s = r := fun z => n (by rw [z]; exact List.mem_cons_self ..)
    rw [inR, if_neg ne]
    by_cases c : ltR r s = true
    · rw [if_pos c]; rfl
    · rw [if_neg c]
      show (inR r L).length + 1 = _
      rw [ih (List.pairwise_cons.mp h).2 (fun s hs => hl s (List.mem_cons_of_mem _ hs)) (fun z => n (List.mem_cons_of_mem _ z))]
      rfl
theorem sp_addOutcome3 (w : Int32) (wv : vp_in w 2) {W N : Nat} (eW : w.toNatClampNeg = W) (o1 : L.length < 3000) (h23 : (z.1 0 23).toInt = (N : Nat)) (hN : N ≤ 24) (hso : soR L) (hll : ∀ t ∈ L, t.length = N) (lr : r.length = N) (hr : ∀ c v, r[c]? = some v → z.1 70 c = v) (hr0 : ∀ c, N ≤ c → c < 24 → z.1 70 c = 0) (hL : OUm z W L) (h : ∀ z', md [] [123, 129] z z' → ow W z z' → 0 ≤ (z'.1 123 W).toInt → (z'.1 123 W).toInt ≤ (z.1 123 W).toInt + 1 → OUm z' W (inR r L) → (∀ v, ¬ v = W → v < 2 → ∀ j, j < 72000 → z'.1 129 (72000 * v + j) = z.1 129 (72000 * v + j)) → Fv z') : MT G d z_addOutcome 0 [(0, vr 0), (1, vi w)] [] z (rv Fv) := by
  have k0 : (0 : Int32).toInt = 0 := rfl
  have k1 : (1 : Int32).toInt = 1 := rfl
  have k24 : (24 : Int32).toInt = 24 := rfl
  have W2 : W < 2 := by rw [← eW]; exact vp_lt wv
  obtain ⟨K, K1, K2, K3, K4, K5, K6⟩ := id hL
  have Kl : ∀ t ∈ K, t.length = N := fun t ht => hll t ((K3 t).mp ht)
  obtain ⟨O, eO⟩ : ∃ O, O = z.1 123 W := ⟨_, rfl⟩
  rw [← eO] at K1 h
  have p83 : ¬ r ∈ K → ∀ (n c' : Nat) (y : gd) (c : Int32), c.toInt = c' → 24 - c' ≤ n → c' ≤ 24 → md [] [129] z y → (∀ j, (j < 72000 * W + 24 * K.length ∨ 72000 * W + 72000 ≤ j) → y.1 129 j = z.1 129 j) → (∀ j, j < c' → y.1 129 (72000 * W + 24 * K.length + j) = z.1 70 j) → MT G d z_addOutcome 83 [(0, vr 0), (1, vi w), (2, vi c)] [] y (rv Fv) := by
    intro nr
    have last : ∀ (c' : Nat) (y : gd) (c : Int32), c.toInt = c' → c' ≤ 24 → (24 : Int32) ≤ c → md [] [129] z y → (∀ j, (j < 72000 * W + 24 * K.length ∨ 72000 * W + 72000 ≤ j) → y.1 129 j = z.1 129 j) → (∀ j, j < c' → y.1 129 (72000 * W + 24 * K.length + j) = z.1 70 j) → vp_in w 2 ∧ vp_in w 2 ∧ (∀ x4 : gd, x4 = si y 123 w.toNatClampNeg ((y.1 123 w.toNatClampNeg) + 1) → rv Fv none x4) := by
      intro c' y c ec hc' hc my y1 y2
      refine ⟨wv, wv, fun y4 e4 => ?_⟩
      rw [eW] at e4
      have f : y.1 123 W = O := by rw [my.2.1 123 (by decide) (by decide), eO]
      rw [f] at e4
      have m4 := md_a y 123 W (O + 1) (by decide)
      rw [← e4] at m4
      have g : (y4.1 123 W).toInt = O.toInt + 1 := by clear y1 y2; rw [e4, si_get, if_pos ⟨rfl, rfl⟩, t_add (by omega) (by omega), k1]
      have e129 : y4.1 129 = y.1 129 := by rw [e4, si_cell (by decide)]
      rw [t_le, k24] at hc
      have c24 : c' = 24 := by clear y1 y2; omega
      refine rv_i (h y4 (md_tr my m4 rfl rfl) (ow_tr (ow_mi (mi_of my) rfl) (by rw [e4]; exact ow_si W2 (Or.inl ⟨Or.inr rfl, rfl⟩))) (by clear y1 y2; omega) (by clear y1 y2; omega) ⟨K ++ [r], ?_, ?_, fun t => ?_, fun i t ht c v hv => ?_, fun i t ht c c1 c2 => ?_, ?_⟩ (fun v v1 v2 j hj => ?_))
      · rw [g, K1, List.length_append]; rfl
      · rw [inR_new hso (fun s hs => by rw [hll s hs, lr]) (fun z => nr ((K3 r).mpr z)), List.length_append, K2]; rfl
      · rw [List.mem_append, inR_in, K3 t, List.mem_singleton]
        exact ⟨fun z => z.elim Or.inr Or.inl, fun z => z.elim Or.inr Or.inl⟩
      · rw [e129]
        by_cases ei : i < K.length
        · rw [List.getElem?_append_left ei] at ht
          have hc := gt_lt hv
          have := Kl t (List.mem_of_getElem? ht)
          rw [y1 _ (Or.inl (by clear y1 y2; omega))]
          exact K4 i t ht c v hv
        · have hi := gt_lt ht
          rw [List.length_append] at hi
          have hi : i < K.length + 1 := hi
          have ei2 : i = K.length := by clear y1 y2; omega
          rw [ei2, List.getElem?_append_right (Nat.le_refl _), Nat.sub_self] at ht
          have et : r = t := Option.some.inj ht
          rw [← et] at hv
          have hc := gt_lt hv
          rw [ei2, y2 c (by clear y1 y2; omega)]
          exact hr c v hv
      · rw [e129]
        by_cases ei : i < K.length
        · rw [List.getElem?_append_left ei] at ht
          rw [y1 _ (Or.inl (by clear y1 y2; omega))]
          exact K5 i t ht c c1 c2
        · have hi := gt_lt ht
          rw [List.length_append] at hi
          have hi : i < K.length + 1 := hi
          have ei2 : i = K.length := by clear y1 y2; omega
          rw [ei2, List.getElem?_append_right (Nat.le_refl _), Nat.sub_self] at ht
          have et : r = t := Option.some.inj ht
          rw [← et, lr] at c1
          rw [ei2, y2 c (by clear y1 y2; omega)]
          exact hr0 c c1 c2
      · refine List.pairwise_append.mpr ⟨K6, List.pairwise_singleton _ _, fun a ha b hb e => nr ?_⟩
        rw [List.mem_singleton.mp hb] at e
        rw [← e]; exact ha
      · rw [e129]; exact y1 _ (by clear y1 y2; omega)
    intro n
    induction n with
    | zero =>
      intro c' y c ec hn hc my y1 y2
      exact sg_addOutcome_83 _ _ ⟨fun q => last c' y c ec hc q my y1 y2, fun q => absurd (t_le.mpr (by clear y1 y2; rw [k24]; omega)) q⟩
    | succ n ih =>
      intro c' y c ec hn hc my y1 y2
      refine sg_addOutcome_83 _ _ ⟨fun q => last c' y c ec hc q my y1 y2, fun q => ?_⟩
      rw [t_le, k24] at q
      have hc2 : c' < 24 := by clear y1 y2; omega
      have ci : (c + 1).toInt = ((c' + 1 : Nat) : Int) := by clear y1 y2; rw [t_add (by omega) (by omega), k1, ec]; rfl
      have f : y.1 123 w.toNatClampNeg = O := by rw [my.2.1 123 (by decide) (by decide), eW, eO]
      rw [f]
      refine ⟨wv, by clear y1 y2; rw [vp_in_iff]; omega, t72 wv (by clear y1 y2; omega) (by clear y1 y2; omega) (by clear y1 y2; omega) (by clear y1 y2; omega), fun y8 e8 => ?_⟩
      have eI := t72e wv eW (i := O) (I := K.length) (c := c) (c' := c') (by clear y1 y2; omega) (by clear y1 y2; omega) ec hc2
      have cK : c.toNatClampNeg = c' := by rw [t_cl, ec]; rfl
      rw [eI, cK, my.2.1 70 (by decide) (by decide)] at e8
      have m8 := md_a y 129 (72000 * W + 24 * K.length + c') (z.1 70 c') (by decide)
      rw [← e8] at m8
      refine ih (c' + 1) y8 (c + 1) ci (by clear y1 y2; omega) hc2 (md_tr my m8 rfl rfl) (fun j hj => ?_) (fun j hj => ?_)
      · rw [e8, si_get, if_neg (by clear y1 y2; omega)]; exact y1 j hj
      · by_cases e : j = c'
        · rw [e, e8, si_get, if_pos ⟨rfl, rfl⟩]
        · rw [e8, si_get, if_neg (by clear y1 y2; omega)]
          exact y2 j (by clear y1 y2; omega)
  have q83 : ¬ r ∈ K → MT G d z_addOutcome 83 [(0, vr 0), (1, vi w), (2, vi 0)] [] z (rv Fv) := fun nr => p83 nr 24 0 z 0 rfl (by omega) (by omega) (md_w (md_rf z) (by decide) (by decide)) (fun _ _ => rfl) (fun j hj => absurd hj (Nat.not_lt_zero _))
  have same : r ∈ K → rv Fv none z := fun hm => rv_i (h z (md_w (md_rf z) (by decide) (by decide)) (ow_mi (L := []) (A := []) ⟨fun _ _ => rfl, fun _ _ _ => rfl⟩ rfl) (by rw [← eO]; omega) (by rw [← eO]; omega) (by rw [inR_mem hso ((K3 r).mp hm)]; exact hL) (fun _ _ _ _ _ => rfl))
  have p2 : ∀ (n I : Nat) (i : Int32), i.toInt = I → K.length - I ≤ n → I ≤ K.length → (∀ j t, j < I → K[j]? = some t → ¬ t = r) → MT G d z_addOutcome 2 [(0, vr 0), (1, vi w), (2, vi i)] [] z (rv Fv) := by
    intro n
    have fin : ∀ (I : Nat) (i : Int32), i.toInt = I → I ≤ K.length → (∀ j t, j < I → K[j]? = some t → ¬ t = r) → O ≤ i → MT G d z_addOutcome 83 [(0, vr 0), (1, vi w), (2, vi 0)] [] z (rv Fv) := by
      intro I i ei hI hno c
      rw [t_le] at c
      refine q83 (fun hm => ?_)
      obtain ⟨j, hj⟩ := List.mem_iff_getElem?.mp hm
      have := gt_lt hj
      exact hno j r (by clear hno; omega) hj rfl
    induction n with
    | zero =>
      intro I i ei hn hI hno
      refine sg_addOutcome_2 _ _ ⟨wv, ?_⟩
      rw [eW, ← eO]
      exact ⟨fun c => fin I i ei hI hno c, fun c => absurd (t_le.mpr (by clear hno; omega)) c⟩
    | succ n ih =>
      intro I i ei hn hI hno
      refine sg_addOutcome_2 _ _ ⟨wv, ?_⟩
      rw [eW, ← eO]
      refine ⟨fun c => fin I i ei hI hno c, fun c => ?_⟩
      rw [t_le] at c
      have hI2 : I < K.length := by clear hno; omega
      have ii : (i + 1).toInt = ((I + 1 : Nat) : Int) := by clear hno; rw [t_add (by omega) (by omega), k1, ei]; rfl
      obtain ⟨t, ht⟩ : ∃ t, K[I]? = some t := ⟨_, List.getElem?_eq_getElem hI2⟩
      have tl := Kl t (List.mem_of_getElem? ht)
      have p70 : ∀ v : Int32, (v = 0 ↔ ¬ t = r) → MT G d z_addOutcome 70 [(0, vr 0), (1, vi w), (2, vi i), (3, vi v)] [] z (rv Fv) := fun v hv => sg_addOutcome_70 _ _ _ ⟨fun v0 => ih (I + 1) (i + 1) ii (by clear hno; omega) hI2 (fun j u hj hu => by
        by_cases e : j = I
        · rw [e, ht] at hu
          rw [← Option.some.inj hu]; exact hv.mp v0
        · exact hno j u (by clear hno; omega) hu), fun vn => same (by
        have : t = r := by
          apply Classical.byContradiction
          intro z; exact vn (hv.mpr z)
        rw [← this]; exact List.mem_of_getElem? ht)⟩
      have p17 : ∀ (m c' : Nat) (v c : Int32), c.toInt = c' → N - c' ≤ m → c' ≤ N → ((v = 1 ∧ t.take c' = r.take c') ∨ (v = 0 ∧ ¬ t = r)) → MT G d z_addOutcome 17 [(0, vr 0), (1, vi w), (2, vi i), (3, vi v), (4, vi c)] [] z (rv Fv) := by
        intro m
        have n1 : ¬ (1 : Int32) = 0 := by decide
        have fin7 : ∀ (c' : Nat) (v c : Int32), c.toInt = c' → c' ≤ N → ((v = 1 ∧ t.take c' = r.take c') ∨ (v = 0 ∧ ¬ t = r)) → z.1 0 23 ≤ c → MT G d z_addOutcome 70 [(0, vr 0), (1, vi w), (2, vi i), (3, vi v)] [] z (rv Fv) := by
          intro c' v c ec hc hv q
          rw [t_le] at q
          have ec2 : c' = N := by clear hno; omega
          refine p70 v ?_
          rcases hv with ⟨h1, h2⟩ | ⟨h1, h2⟩
          · rw [ec2, List.take_of_length_le (by omega), List.take_of_length_le (by omega)] at h2
            exact ⟨fun z => absurd (h1.symm.trans z) n1, fun z => absurd h2 z⟩
          · exact ⟨fun _ => h2, fun _ => h1⟩
        induction m with
        | zero =>
          intro c' v c ec hm hc hv
          exact sg_addOutcome_17 _ _ _ _ ⟨fun q => fin7 c' v c ec hc hv q, fun q => absurd (t_le.mpr (by clear hno; omega)) q⟩
        | succ m ihm =>
          intro c' v c ec hm hc hv
          refine sg_addOutcome_17 _ _ _ _ ⟨fun q => fin7 c' v c ec hc hv q, fun q => ⟨fun v0 => p70 v ?_, fun vn => ?_⟩⟩
          · rcases hv with ⟨h1, h2⟩ | ⟨h1, h2⟩
            · exact absurd (h1.symm.trans v0) n1
            · exact ⟨fun _ => h2, fun _ => h1⟩
          rw [t_le] at q
          have hc2 : c' < N := by clear hno; omega
          have ci : (c + 1).toInt = ((c' + 1 : Nat) : Int) := by clear hno; rw [t_add (by omega) (by omega), k1, ec]; rfl
          have ht2 : t.take c' = r.take c' := by
            rcases hv with ⟨h1, h2⟩ | ⟨h1, h2⟩
            · exact h2
            · exact absurd h1 vn
          obtain ⟨u, hu⟩ : ∃ u, t[c']? = some u := ⟨_, List.getElem?_eq_getElem (by omega)⟩
          obtain ⟨u2, hu2⟩ : ∃ u, r[c']? = some u := ⟨_, List.getElem?_eq_getElem (by omega)⟩
          have eI := t72e wv eW (i := i) (I := I) (c := c) (c' := c') ei (by clear hno; omega) ec (by clear hno; omega)
          have cK : c.toNatClampNeg = c' := by rw [t_cl, ec]; rfl
          rw [eI, cK, K4 I t ht c' u hu, hr c' u2 hu2]
          refine ⟨t72 wv (by clear hno; omega) (by clear hno; omega) (by clear hno; omega) (by clear hno; omega), by clear hno; rw [vp_in_iff]; omega, fun ne => ihm (c' + 1) _ _ ci (by clear hno; omega) hc2 (Or.inr ⟨rfl, fun z => ne ?_⟩), fun e => ihm (c' + 1) _ _ ci (by clear hno; omega) hc2 (Or.inl ⟨rfl, ?_⟩)⟩
          · rw [z, hu2] at hu
            exact (Option.some.inj hu).symm
          · rw [List.take_succ, List.take_succ, ht2, hu, hu2, e]
      exact p17 N 0 1 0 rfl (by omega) (Nat.zero_le _) (Or.inl ⟨rfl, rfl⟩)
  exact sg_addOutcome_0 _ (p2 K.length 0 0 rfl (by omega) (Nat.zero_le _) (fun j t hj => absurd hj (Nat.not_lt_zero _)))
end MOU
end
section
/-! the model: sorts, races, findings noted -/
def FAm (z y : gd) (W : Nat) (s : Int32) (D : Nat → Prop) : Prop := ∀ f, f < 11 → (D f ∧ z.1 126 (11 * W + f) = -1 ∧ y.1 126 (11 * W + f) = s) ∨ (¬ (D f ∧ z.1 126 (11 * W + f) = -1) ∧ y.1 126 (11 * W + f) = z.1 126 (11 * W + f))
section MRC
variable {G : mG} {d D : Nat} {x z a y y' : gd} {F : Int32 → gd → Prop} {Fv : gd → Prop} {C : gCo} {M : gMa} {w W n m : Nat} {s : Int32} {E E' : Nat → Prop}
theorem FAm_f (e : y'.1 126 = y.1 126) (h : FAm z y W s E) : FAm z y' W s E := fun f hf => by rw [e]; exact h f hf
theorem FAm_c (e : ∀ f, f < 11 → (E f ↔ E' f)) (h : FAm z y W s E) : FAm z y W s E' := fun f hf => by rw [← e f hf]; exact h f hf
theorem FAm_more (hm : n ≤ m) (hn : ∀ f, n ≤ f → f < m → ¬ fnM C w M f) (h : FAm z y W s (fD C w M n)) : FAm z y W s (fD C w M m) := FAm_c (fun f _ => ⟨fun z => ⟨by have := z.1; omega, z.2⟩, fun z => ⟨by
  apply Classical.byContradiction
  intro c
  exact hn f (by omega) z.1 z.2, z.2⟩⟩) h
/-- a finding is noted, whether it was before or not -/
theorem FAm_find (hs : 0 ≤ s.toInt) (hn : n < 11) (e : ∀ k, ¬ k = 11 * W + n → y'.1 126 k = y.1 126 k) (e1 : y.1 126 (11 * W + n) = -1 → y'.1 126 (11 * W + n) = s) (e2 : ¬ y.1 126 (11 * W + n) = -1 → y'.1 126 (11 * W + n) = y.1 126 (11 * W + n)) (h : FAm z y W s E) : FAm z y' W s (fun f => E f ∨ f = n) := by
  intro f hf9
  by_cases c : f = n
  · rw [c]
    rcases h n hn with ⟨a1, a2, a3⟩ | ⟨a1, a2⟩
    · refine Or.inl ⟨Or.inr rfl, a2, ?_⟩
      rw [e2 (fun q => by rw [a3] at q; rw [q, tm1] at hs; omega)]; exact a3
    · by_cases c9 : z.1 126 (11 * W + n) = -1
      · exact Or.inl ⟨Or.inr rfl, c9, e1 (by rw [a2]; exact c9)⟩
      · exact Or.inr ⟨fun q => c9 q.2, by rw [e2 (by rw [a2]; exact c9)]; exact a2⟩
  · rw [e _ (by omega)]
    have hD : (fun f => E f ∨ f = n) f ↔ E f := ⟨fun q => q.resolve_right c, Or.inl⟩
    rw [hD]; exact h f hf9
theorem fD_up (hf : fnM C w M n) (f : Nat) : (fD C w M n f ∨ f = n) ↔ fD C w M (n + 1) f := by
  constructor
  · rintro (q | q)
    · exact ⟨by have := q.1; omega, q.2⟩
    · exact ⟨by omega, by rw [q]; exact hf⟩
  · intro q
    by_cases c : f = n
    · exact Or.inr c
    · exact Or.inl ⟨by have := q.1; omega, q.2⟩
theorem sp_find3 (w f s : Int32) (wv : vp_in w 2) {f9 : Nat} (ef : f.toInt = (f9 : Nat)) (f1 : f9 < 11) {M : Int} (s0 : 0 ≤ s.toInt) (s1 : s.toInt < M) (hf : fnd z w.toNatClampNeg M) (h : ∀ z', md [] [126] z z' → ow w.toNatClampNeg z z' → fnd z' w.toNatClampNeg M → (∀ k, ¬ k = 11 * w.toNatClampNeg + f9 → z'.1 126 k = z.1 126 k) → (z.1 126 (11 * w.toNatClampNeg + f9) = -1 → z'.1 126 (11 * w.toNatClampNeg + f9) = s) → (¬ z.1 126 (11 * w.toNatClampNeg + f9) = -1 → z'.1 126 (11 * w.toNatClampNeg + f9) = z.1 126 (11 * w.toNatClampNeg + f9)) → Fv z') : MT G d z_find 0 [(0, vr 0), (1, vi w), (2, vi f), (3, vi s)] [] z (rv Fv) := by
  obtain ⟨v, e⟩ := t11 wv (f := f) (by omega) (by omega)
  have cf : f.toNatClampNeg = f9 := by rw [t_cl, ef]; rfl
  rw [cf] at e
  refine sg_find_0 _ _ _ ⟨v, fun c => rv_i (h z (md_w (md_rf z) (by decide) (by decide)) (ow_mi (L := []) (A := []) ⟨fun _ _ => rfl, fun _ _ _ => rfl⟩ rfl) hf (fun _ _ => rfl) (fun c2 => absurd (by rw [e]; exact c2) c) (fun _ => rfl)), fun c => ⟨v, fun y ey => ?_⟩⟩
  rw [e] at ey c
  have m := md_a z 126 (11 * w.toNatClampNeg + f9) s (by decide)
  rw [← ey] at m
  refine rv_i (h y m ?_ (fun g hg => ?_) (fun k hk => by rw [ey, si_get, if_neg (fun q => hk q.2)]) (fun _ => by rw [ey, si_get, if_pos ⟨rfl, rfl⟩]) (fun c2 => absurd c c2))
  · rw [ey]
    exact ow_si (vp_lt wv) (Or.inr (Or.inl ⟨rfl, _, f1, rfl⟩))
  · rw [ey, si_get]
    by_cases q : (126 : Nat) = 126 ∧ 11 * w.toNatClampNeg + g = 11 * w.toNatClampNeg + f9
    · rw [if_pos q]; exact Or.inr ⟨s0, s1⟩
    · rw [if_neg q]; exact hf g hg
theorem sp_isAtomic3 {k : Nat} (hk : k < 22) (h : ∀ r : Int32, (¬ r = 0 ↔ 2 ≤ k ∧ k ≤ 4) → F r x) : MT G d z_isAtomic 0 [(0, vr 0), (1, vi (Int32.ofNat k))] [] x (ri F) := by
  have k1 : ¬ (1 : Int32) = 0 := by decide
  have e : ∀ n, n < 22 → ((Int32.ofNat n = 2 ↔ n = 2) ∧ (Int32.ofNat n = 3 ↔ n = 3) ∧ (Int32.ofNat n = 4 ↔ n = 4)) := by decide +kernel
  obtain ⟨e2, e3, e4⟩ := e k hk
  refine sg_isAtomic_0 _ ⟨fun c => ri_i (h _ ⟨fun _ => by have := e2.mp c; omega, fun _ => k1⟩), fun c2 => ⟨fun c => ri_i (h _ ⟨fun _ => by have := e3.mp c; omega, fun _ => k1⟩), fun c3 => ⟨fun c4 => ri_i (h _ ⟨fun q => absurd rfl q, fun q => ?_⟩), fun c => ri_i (h _ ⟨fun _ => by have := e4.mp c; omega, fun _ => k1⟩)⟩⟩⟩
  exfalso
  rw [e2] at c2
  rw [e3] at c3
  rw [e4] at c4
  omega
theorem sp_mayRace3 {k l : Nat} (hk : k < 22) (hl : l < 22) (h : ∀ r : Int32, (¬ r = 0 ↔ k ≤ 4 ∧ l ≤ 4 ∧ srM k l) → F r x) : MT G (d + 1) z_mayRace 0 [(0, vr 0), (1, vi (Int32.ofNat k)), (2, vi (Int32.ofNat l))] [] x (ri F) := by
  have k1 : ¬ (1 : Int32) = 0 := by decide
  have ek : (Int32.ofNat k).toInt = (k : Nat) := Int32.toInt_ofNat_of_lt (by omega)
  have el : (Int32.ofNat l).toInt = (l : Nat) := Int32.toInt_ofNat_of_lt (by omega)
  have z0 : ∀ n, n < 22 → (Int32.ofNat n = 0 ↔ n = 0) := by decide +kernel
  have p24 : k ≤ 4 → l ≤ 4 → ¬ (k = 0 ∧ l = 0) → MT G (d + 1) z_mayRace 24 [(0, vr 0), (1, vi (Int32.ofNat k)), (2, vi (Int32.ofNat l))] [] x (ri F) := fun a1 a2 a3 => sg_mayRace_24 _ _ (sp_isAtomic3 hk (fun r hr => ⟨fun r0 => ri_i (h _ ⟨fun _ => ⟨a1, a2, a3, fun q => hr.mpr ⟨q.1, a1⟩ r0⟩, fun _ => k1⟩), fun rn => sp_isAtomic3 hl (fun r2 hr2 => ⟨fun n2 => ri_i (h _ ⟨fun q => absurd rfl q, fun q => absurd ⟨(hr.mp rn).1, (hr2.mp n2).1⟩ q.2.2.2⟩), fun e2 => ri_i (h _ ⟨fun _ => ⟨a1, a2, a3, fun q => hr2.mpr ⟨q.2, a2⟩ e2⟩, fun _ => k1⟩)⟩)⟩))
  refine sg_mayRace_0 _ _ (sp_isAccess _ (fun c => ⟨fun _ => ri_i (h _ ⟨fun q => absurd rfl q, fun q => absurd q.1 (fun q2 => c (by omega))⟩), fun q => absurd rfl q⟩) (fun c1 => ⟨fun q => absurd q (by decide), fun _ => sp_isAccess _ (fun c => ⟨fun _ => ri_i (h _ ⟨fun q => absurd rfl q, fun q => absurd q.2.1 (fun q2 => c (by omega))⟩), fun q => absurd rfl q⟩) (fun c2 => ⟨fun q => absurd q (by decide), fun _ => ⟨fun n0 => p24 (by omega) (by omega) (fun q => n0 ((z0 k hk).mpr q.1)), fun e0 => ⟨fun e3 => ri_i (h _ ⟨fun q => absurd rfl q, fun q => absurd ⟨(z0 k hk).mp e0, (z0 l hl).mp e3⟩ q.2.2.1⟩), fun n3 => p24 (by omega) (by omega) (fun q => n3 ((z0 l hl).mpr q.2))⟩⟩⟩)⟩))
theorem srt_so {t : Nat} (hN : NC C) (am : AM C w M a) (ht : t < 6) (h1 : a.1 73 t = 1) (h2 : ¬ a.1 77 t = 1) : srt a t = Int32.ofNat (soM C (M.2.2 t)) ∧ soM C (M.2.2 t) < 22 := by
  obtain ⟨av, hK, hM, hI, wy, -⟩ := am
  obtain ⟨kv, kn, so, -⟩ := RI_step av.1 ht h1
  obtain ⟨m73, l73, m75, m74, m77, l77, -⟩ := hM.2.2 t ht
  have kK : (a.1 74 t).toNatClampNeg = (M.2.2 t).2.2.1 := by rw [t_cl, m74]; rfl
  have l52 : (a.1 0 52).toInt = C.1.length := hK.1.1
  obtain ⟨st, hst⟩ : ∃ st, C.1[(M.2.2 t).2.2.1]? = some st := ⟨_, List.getElem?_eq_getElem (by omega)⟩
  have esN := stN_is hst
  obtain ⟨k54, k55, -⟩ := hK.1.2 _ st hst
  have ns := hN.1 _ st hst
  have o16 : st.1 < 16 := by
    have b := ((av.1.2 t ht).1.2.2 h1).2
    rw [kK, k54] at b
    exact (mWh_i st.1 ns.1.1).1.mp b
  obtain ⟨w2, w1', w0'⟩ := wai_2 _ (show (M.2.2 t).2.2.2.1 < 3 by omega)
  rw [← m77] at w2 w1' w0'
  unfold srt soM
  rw [esN]
  by_cases c9 : a.1 77 t = 2
  · rw [if_pos c9, if_neg (by have := w2.mp c9; omega)]
    exact ⟨rfl, by decide⟩
  · have z0 : (M.2.2 t).2.2.2.1 = 0 := by
      have a1 : ¬ (M.2.2 t).2.2.2.1 = 2 := fun z => c9 (w2.mpr z)
      have a2 : ¬ (M.2.2 t).2.2.2.1 = 1 := fun z => h2 (w1'.mpr z)
      omega
    rw [if_neg c9, if_pos z0, kK]
    exact ⟨k55 o16, by omega⟩
end MRC
end
section
/-! the model: what looking at a state adds to what is told of all -/
/-- a thread's take of lock b behind lock a -/
def tkP (C : gCo) (w nl : Nat) (M : gMa) (t a b : Nat) : Prop := canM C w M t ∧ soM C (M.2.2 t) = 5 ∧ ¬ a = obM C (M.2.2 t).2.2.1 ∧ (hdN M t nl >>> (Int32.ofNat a &&& 31)) &&& 1 = 1 ∧ b = obM C (M.2.2 t).2.2.1
def tkE (C : gCo) (w nl : Nat) (M : gMa) (k a b : Nat) : Prop := ∃ t, t < k ∧ tkP C w nl M t a b
def LE1 (C : gCo) (w : Nat) (M : gMa) (L : List (List Int32)) (z y : gd) (W : Nat) : Prop := (chM C w M = [] ∧ y.1 122 W = z.1 122 W + 1 ∧ OUm y W (inR (roM C M) L)) ∨ (¬ chM C w M = [] ∧ y.1 122 W = z.1 122 W ∧ OUm y W L)
/-- the other way's are left -/
def LW2 (z y : gd) (W : Nat) : Prop := ∀ v, v < 2 → ¬ v = W → y.1 122 v = z.1 122 v ∧ y.1 124 v = z.1 124 v ∧ y.1 125 v = z.1 125 v ∧ (∀ c, c < 24 → y.1 127 (24 * v + c) = z.1 127 (24 * v + c)) ∧ (∀ k, k < 36 → y.1 128 (36 * v + k) = z.1 128 (36 * v + k)) ∧ ∀ j, j < 72000 → y.1 129 (72000 * v + j) = z.1 129 (72000 * v + j)
def LZ0 (L : List (List Int32)) (n : Int32) (z y : gd) (W : Nat) : Prop := y.1 122 W = z.1 122 W ∧ y.1 124 W = z.1 124 W ∧ y.1 125 W = z.1 125 W + n ∧ y.1 127 = z.1 127 ∧ y.1 128 = z.1 128 ∧ OUm y W L ∧ LW2 z y W
def LZ1 (C : gCo) (w : Nat) (M : gMa) (L : List (List Int32)) (n : Int32) (z y : gd) (W : Nat) : Prop := LE1 C w M L z y W ∧ y.1 124 W = z.1 124 W ∧ y.1 125 W = z.1 125 W + n ∧ y.1 127 = z.1 127 ∧ y.1 128 = z.1 128 ∧ LW2 z y W
def LZd (C : gCo) (w : Nat) (M : gMa) (L : List (List Int32)) (n : Int32) (z y : gd) (W : Nat) : Prop := LE1 C w M L z y W ∧ ((idM C w M ∧ y.1 124 W = z.1 124 W + 1) ∨ (¬ idM C w M ∧ y.1 124 W = z.1 124 W)) ∧ y.1 125 W = z.1 125 W + n ∧ LW2 z y W
/-- k threads' acts are seen, of the next one commons if c, and takes behind the first j locks -/
def LZ3 (C : gCo) (w nl : Nat) (M : gMa) (L : List (List Int32)) (n : Int32) (z y : gd) (W k k' j : Nat) : Prop := LZd C w M L n z y W ∧ (∀ c, c < 24 → y.1 127 (24 * W + c) = cmT C w nl M c k' (z.1 127 (24 * W + c))) ∧ ∀ a, a < 6 → ∀ b, b < 6 → (¬ y.1 128 (36 * W + 6 * a + b) = 0 ↔ (¬ z.1 128 (36 * W + 6 * a + b) = 0 ∨ tkE C w nl M (if a < j then k + 1 else k) a b))
def LZ2 (C : gCo) (w nl : Nat) (M : gMa) (L : List (List Int32)) (n : Int32) (z y : gd) (W k : Nat) : Prop := LZ3 C w nl M L n z y W k k 0
/-- nothing of it is touched -/
def eqL (y y' : gd) : Prop := ∀ c, c = 122 ∨ c = 123 ∨ c = 124 ∨ c = 125 ∨ c = 127 ∨ c = 128 ∨ c = 129 → y'.1 c = y.1 c
section MLS
variable {C : gCo} {w nl : Nat} {M : gMa} {L : List (List Int32)} {n : Int32} {z y y' : gd} {W k k' j : Nat}
theorem eqL_r (m : md rL rA y y') : eqL y y' := fun c hc => by
  rcases hc with e | e | e | e | e | e | e <;> rw [e] <;> exact m.2.1 _ (by decide) (by decide)
theorem eqL_6 (m : md [] [126] y y') : eqL y y' := fun c hc => by
  rcases hc with e | e | e | e | e | e | e <;> rw [e] <;> exact m.2.1 _ (by decide) (by decide)
theorem LW2_f (e : eqL y y') (h : LW2 z y W) : LW2 z y' W := fun v h1 h2 => by
  obtain ⟨a1, a2, a3, a4, a5, a6⟩ := h v h1 h2
  exact ⟨by rw [e 122 (by omega)]; exact a1, by rw [e 124 (by omega)]; exact a2, by rw [e 125 (by omega)]; exact a3, fun c hc => by rw [e 127 (by omega)]; exact a4 c hc, fun k hk => by rw [e 128 (by omega)]; exact a5 k hk, fun j hj => by rw [e 129 (by omega)]; exact a6 j hj⟩
theorem LE1_f (e : eqL y y') (h : LE1 C w M L z y W) : LE1 C w M L z y' W := by
  rcases h with ⟨h1, h2, h3⟩ | ⟨h1, h2, h3⟩
  · exact Or.inl ⟨h1, by rw [e 122 (by omega)]; exact h2, OUm_f (e 123 (by omega)) (e 129 (by omega)) h3⟩
  · exact Or.inr ⟨h1, by rw [e 122 (by omega)]; exact h2, OUm_f (e 123 (by omega)) (e 129 (by omega)) h3⟩
theorem LZ0_f (e : eqL y y') (h : LZ0 L n z y W) : LZ0 L n z y' W := by
  obtain ⟨h1, h2, h3, h4, h5, h6, h7⟩ := h
  exact ⟨by rw [e 122 (by omega)]; exact h1, by rw [e 124 (by omega)]; exact h2, by rw [e 125 (by omega)]; exact h3, by rw [e 127 (by omega)]; exact h4, by rw [e 128 (by omega)]; exact h5, OUm_f (e 123 (by omega)) (e 129 (by omega)) h6, LW2_f e h7⟩
theorem LZ1_f (e : eqL y y') (h : LZ1 C w M L n z y W) : LZ1 C w M L n z y' W := by
  obtain ⟨h1, h2, h3, h4, h5, h6⟩ := h
  exact ⟨LE1_f e h1, by rw [e 124 (by omega)]; exact h2, by rw [e 125 (by omega)]; exact h3, by rw [e 127 (by omega)]; exact h4, by rw [e 128 (by omega)]; exact h5, LW2_f e h6⟩
theorem LZ3_f (e : eqL y y') (h : LZ3 C w nl M L n z y W k k' j) : LZ3 C w nl M L n z y' W k k' j := by
  obtain ⟨⟨h1, h2, h3, h4⟩, h5, h6⟩ := h
  exact ⟨⟨LE1_f e h1, by rw [e 124 (by omega)]; exact h2, by rw [e 125 (by omega)]; exact h3, LW2_f e h4⟩, fun c hc => by rw [e 127 (by omega)]; exact h5 c hc, fun a ha b hb => by rw [e 128 (by omega)]; exact h6 a ha b hb⟩
/-- a state with choices -/
theorem LZ0_1 (hc : ¬ chM C w M = []) (h : LZ0 L n z y W) : LZ1 C w M L n z y W := ⟨Or.inr ⟨hc, h.1, h.2.2.2.2.2.1⟩, h.2.1, h.2.2.1, h.2.2.2.1, h.2.2.2.2.1, h.2.2.2.2.2.2⟩
theorem tkE_up {a b : Nat} : tkE C w nl M (k + 1) a b ↔ tkE C w nl M k a b ∨ tkP C w nl M k a b := by
  constructor
  · rintro ⟨t, h1, h2⟩
    by_cases e : t = k
    · rw [e] at h2; exact Or.inr h2
    · exact Or.inl ⟨t, by omega, h2⟩
  · rintro (⟨t, h1, h2⟩ | h)
    · exact ⟨t, by omega, h2⟩
    · exact ⟨k, by omega, h⟩
/-- locks beyond those that there are aren't held -/
theorem hd_hi {t a : Nat} (ha : a < 6) : ∀ n, n ≤ a → (hdN M t n >>> (Int32.ofNat a &&& 31)) &&& 1 = 0 := by
  intro n
  induction n with
  | zero => intro _; exact km_0 a (by omega)
  | succ n ih =>
    intro hn
    have ih := ih (by omega)
    rw [hdN]
    split
    · have := (bit_or (hdN M t n) (u := n) (t := a) (by omega) (by omega))
      rcases t_and1 ((hdN M t n ||| ((1 : Int32) <<< (Int32.ofNat n &&& 31))) >>> (Int32.ofNat a &&& 31)) with e | e
      · exact e
      · rcases this.mp e with q | q
        · rw [ih] at q; exact absurd q (by decide)
        · omega
    · exact ih
/-- a thread without an act adds nothing -/
theorem LZ2_n (hn : ¬ canM C w M k) (h : LZ2 C w nl M L n z y W k) : LZ2 C w nl M L n z y W (k + 1) := by
  obtain ⟨h1, h5, h6⟩ := h
  refine ⟨h1, fun c hc => ?_, fun a ha b hb => ?_⟩
  · rw [cmT]
    unfold caT
    rw [if_neg (fun q => hn q.1)]; exact h5 c hc
  · rw [h6 a ha b hb, if_neg (Nat.not_lt_zero _), if_neg (Nat.not_lt_zero _), tkE_up]
    exact ⟨fun q => q.imp id Or.inl, fun q => q.imp id (fun q => q.resolve_right (fun q => hn q.1))⟩
/-- no more takes: the thread is done -/
theorem LZ3_end (h : LZ3 C w nl M L n z y W k (k + 1) j) (hj : ∀ a b, j ≤ a → a < 6 → b < 6 → ¬ tkP C w nl M k a b) : LZ2 C w nl M L n z y W (k + 1) := by
  obtain ⟨h1, h5, h6⟩ := h
  refine ⟨h1, h5, fun a ha b hb => ?_⟩
  rw [h6 a ha b hb, if_neg (Nat.not_lt_zero _)]
  by_cases c : a < j
  · rw [if_pos c]
  · rw [if_neg c, tkE_up]
    exact ⟨fun q => q.imp id Or.inl, fun q => q.imp id (fun q => q.resolve_right (hj a b (by omega) ha hb))⟩
/-- the next lock: nothing is taken behind it -/
theorem LZ3_no (h : LZ3 C w nl M L n z y W k k' j) (hj : ∀ b, b < 6 → ¬ tkP C w nl M k j b) : LZ3 C w nl M L n z y W k k' (j + 1) := by
  obtain ⟨h1, h5, h6⟩ := h
  refine ⟨h1, h5, fun a ha b hb => ?_⟩
  rw [h6 a ha b hb]
  by_cases e : a = j
  · rw [if_neg (by omega), if_pos (by omega), tkE_up]
    exact ⟨fun q => q.imp id Or.inl, fun q => q.imp id (fun q => q.resolve_right (by rw [e]; exact hj b hb))⟩
  · by_cases c : a < j
    · rw [if_pos c, if_pos (by omega)]
    · rw [if_neg c, if_neg (by omega)]
/-- the next lock: one is taken behind it -/
theorem LZ3_yes {B : Nat} (W2 : W < 2) (hj6 : j < 6) (hB : B < 6) (ey : y' = si y 128 (36 * W + 6 * j + B) 1) (h : LZ3 C w nl M L n z y W k k' j) (hj : ∀ b, b < 6 → (tkP C w nl M k j b ↔ b = B)) : LZ3 C w nl M L n z y' W k k' (j + 1) := by
  obtain ⟨⟨h1, h2, h3, h4⟩, h5, h6⟩ := h
  have e : ∀ c, ¬ c = 128 → y'.1 c = y.1 c := fun c hc => by rw [ey, si_cell hc]
  refine ⟨⟨?_, by rw [e 124 (by omega)]; exact h2, by rw [e 125 (by omega)]; exact h3, fun v v1 v2 => ?_⟩, fun c hc => by rw [e 127 (by omega)]; exact h5 c hc, fun a ha b hb => ?_⟩
  · rcases h1 with ⟨q1, q2, q3⟩ | ⟨q1, q2, q3⟩
    · exact Or.inl ⟨q1, by rw [e 122 (by omega)]; exact q2, OUm_f (e 123 (by omega)) (e 129 (by omega)) q3⟩
    · exact Or.inr ⟨q1, by rw [e 122 (by omega)]; exact q2, OUm_f (e 123 (by omega)) (e 129 (by omega)) q3⟩
  · obtain ⟨a1, a2, a3, a4, a5, a6⟩ := h4 v v1 v2
    exact ⟨by rw [e 122 (by omega)]; exact a1, by rw [e 124 (by omega)]; exact a2, by rw [e 125 (by omega)]; exact a3, fun c hc => by rw [e 127 (by omega)]; exact a4 c hc, fun k hk => by rw [ey, si_get, if_neg (by omega)]; exact a5 k hk, fun j hj => by rw [e 129 (by omega)]; exact a6 j hj⟩
  · rw [ey, si_get]
    by_cases c9 : a = j ∧ b = B
    · rw [if_pos ⟨rfl, by omega⟩]
      refine ⟨fun _ => Or.inr ?_, fun _ => by decide⟩
      rw [if_pos (by omega), tkE_up, c9.1]
      exact Or.inr ((hj b hb).mpr c9.2)
    · rw [if_neg (by omega), h6 a ha b hb]
      by_cases e9 : a = j
      · rw [if_neg (by omega), if_pos (by omega), tkE_up]
        exact ⟨fun q => q.imp id Or.inl, fun q => q.imp id (fun q => q.resolve_right (fun q => c9 ⟨e9, (hj b hb).mp (by rw [← e9]; exact q)⟩))⟩
      · by_cases c : a < j
        · rw [if_pos c, if_pos (by omega)]
        · rw [if_neg c, if_neg (by omega)]
/-- a thread's access, or none -/
theorem LZ2_c (h : LZ2 C w nl M L n z y W k) (W2 : W < 2) (e : ∀ c, ¬ c = 127 → y'.1 c = y.1 c) (e7 : ∀ j, (∀ c, c < 24 → ¬ j = 24 * W + c) → y'.1 127 j = y.1 127 j) (hc : ∀ c, c < 24 → y'.1 127 (24 * W + c) = caT C w nl M k c (y.1 127 (24 * W + c))) : LZ3 C w nl M L n z y' W k (k + 1) 0 := by
  obtain ⟨⟨h1, h2, h3, h4⟩, h5, h6⟩ := h
  refine ⟨⟨?_, by rw [e 124 (by omega)]; exact h2, by rw [e 125 (by omega)]; exact h3, fun v v1 v2 => ?_⟩, fun c hc9 => by rw [hc c hc9, h5 c hc9, cmT], fun a ha b hb => by rw [e 128 (by omega)]; exact h6 a ha b hb⟩
  · rcases h1 with ⟨q1, q2, q3⟩ | ⟨q1, q2, q3⟩
    · exact Or.inl ⟨q1, by rw [e 122 (by omega)]; exact q2, OUm_f (e 123 (by omega)) (e 129 (by omega)) q3⟩
    · exact Or.inr ⟨q1, by rw [e 122 (by omega)]; exact q2, OUm_f (e 123 (by omega)) (e 129 (by omega)) q3⟩
  · obtain ⟨a1, a2, a3, a4, a5, a6⟩ := h4 v v1 v2
    exact ⟨by rw [e 122 (by omega)]; exact a1, by rw [e 124 (by omega)]; exact a2, by rw [e 125 (by omega)]; exact a3, fun c hc => by rw [e7 _ (fun c' hc' => by omega)]; exact a4 c hc, fun k hk => by rw [e 128 (by omega)]; exact a5 k hk, fun j hj => by rw [e 129 (by omega)]; exact a6 j hj⟩
/-- what the model holds of all states -/
def MLo (y : gd) (W : Nat) (l : gLo) : Prop := (y.1 122 W).toInt = (l.1 : Nat) ∧ (y.1 124 W).toInt = (l.2.1 : Nat) ∧ (y.1 125 W).toInt = (l.2.2.1 : Nat) ∧ (∀ c, c < 24 → y.1 127 (24 * W + c) = l.2.2.2.1 c) ∧ (∀ a, a < 6 → ∀ b, b < 6 → (¬ y.1 128 (36 * W + 6 * a + b) = 0 ↔ (l.2.2.2.2.1 a >>> (Int32.ofNat b &&& 31)) &&& 1 = 1)) ∧ OUm y W l.2.2.2.2.2
theorem cb_bit {a b : Nat} {v : Int32} (hb : b < 6) (ho : ∀ t, soM C (M.2.2 t) = 5 → canM C w M t → obM C (M.2.2 t).2.2.1 < 6) : ∀ k, ((cbT C w nl M a k v >>> (Int32.ofNat b &&& 31)) &&& 1 = 1 ↔ ((v >>> (Int32.ofNat b &&& 31)) &&& 1 = 1 ∨ tkE C w nl M k a b)) := by
  intro k
  induction k with
  | zero => exact ⟨Or.inl, fun q => q.elim id (fun ⟨t, q, _⟩ => absurd q (Nat.not_lt_zero _))⟩
  | succ k ih =>
    rw [cbT, tkE_up]
    unfold tkT
    by_cases c : canM C w M k ∧ soM C (M.2.2 k) = 5 ∧ ¬ a = obM C (M.2.2 k).2.2.1 ∧ (hdN M k nl >>> (Int32.ofNat a &&& 31)) &&& 1 = 1
    · rw [if_pos c, bit_or _ (by have := ho k c.2.1 c.1; omega) (by omega), ih]
      constructor
      · rintro ((q | q) | q)
        · exact Or.inl q
        · exact Or.inr (Or.inl q)
        · exact Or.inr (Or.inr ⟨c.1, c.2.1, c.2.2.1, c.2.2.2, q⟩)
      · rintro (q | q | q)
        · exact Or.inl (Or.inl q)
        · exact Or.inl (Or.inr q)
        · exact Or.inr q.2.2.2.2
    · rw [if_neg c, ih]
      exact ⟨fun q => q.imp id Or.inl, fun q => q.imp id (fun q => q.resolve_right (fun q => c ⟨q.1, q.2.1, q.2.2.1, q.2.2.2.1⟩))⟩
theorem MLo_next {l : gLo} (hk : k < 3000) (hb : BLo l k) (h84 : (chM C w M).length ≤ 84) (ho : ∀ t, soM C (M.2.2 t) = 5 → canM C w M t → obM C (M.2.2 t).2.2.1 < 6) (n84 : n.toInt = ((chM C w M).length : Nat)) (h : MLo z W l) (g : LZ2 C w nl M l.2.2.2.2.2 n z y W C.2.1.length) : MLo y W (loM C w nl M l) := by
  obtain ⟨h1, h2, h3, h4, h5, h6⟩ := h
  obtain ⟨⟨g1, g2, g3, g4⟩, g5, g6⟩ := g
  obtain ⟨b1, b2, b3, b4⟩ := hb
  have k1 : (1 : Int32).toInt = 1 := rfl
  refine ⟨?_, ?_, ?_, fun c hc => ?_, fun a ha b hb => ?_, ?_⟩
  · show _ = ((l.1 + (if chM C w M = [] then 1 else 0) : Nat) : Int)
    rcases g1 with ⟨i3, i4, -⟩ | ⟨i3, i4, -⟩
    · rw [if_pos i3, i4, t_add (by rw [k1]; omega) (by rw [k1]; omega), k1, h1]; push_cast; rfl
    · rw [if_neg i3, i4, h1]; rfl
  · show _ = ((l.2.1 + (@ite Nat (idM C w M) (Classical.propDecidable _) 1 0) : Nat) : Int)
    rcases g2 with ⟨i3, i4⟩ | ⟨i3, i4⟩
    · rw [if_pos i3, i4, t_add (by rw [k1]; omega) (by rw [k1]; omega), k1, h2]; push_cast; rfl
    · rw [if_neg i3, i4, h2]; rfl
  · show _ = ((l.2.2.1 + (chM C w M).length : Nat) : Int)
    rw [g3, t_add (by omega) (by omega), h3, n84]; push_cast; rfl
  · rw [g5 c hc, h4 c hc]; rfl
  · show _ ↔ (cbT C w nl M a C.2.1.length (l.2.2.2.2.1 a) >>> (Int32.ofNat b &&& 31)) &&& 1 = 1
    rw [g6 a ha b hb, if_neg (Nat.not_lt_zero _), cb_bit hb ho, h5 a ha b hb]
  · show OUm y W (if chM C w M = [] then inR (roM C M) l.2.2.2.2.2 else l.2.2.2.2.2)
    rcases g1 with ⟨i3, -, i5⟩ | ⟨i3, -, i5⟩
    · rw [if_pos i3]; exact i5
    · rw [if_neg i3]; exact i5
end MLS
end
