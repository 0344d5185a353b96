/-! the class: all states, one after another, with what they are -/
/-- of each finding the first state that shows it, of the first k -/
def FN3 (C : gCo) (w : Nat) (x7 : Nat → Int32) (T : gTy) (k : Nat) : Prop := ∀ f, f < 11 → (x7 f = -1 ∧ ∀ s p, s < k → T.1[s]? = some p → ¬ fnM C w p.1 f) ∨ ∃ s p, s < k ∧ (x7 f).toInt = (s : Nat) ∧ T.1[s]? = some p ∧ fnM C w p.1 f ∧ ∀ s' p', s' < s → T.1[s']? = some p' → ¬ fnM C w p'.1 f
def sKX (o c k : Nat) : Prop := c = 225 ∨ (c = 220 ∧ (k = 13 ∨ k = 14)) ∨ (231 ≤ c ∧ c ≤ 233) ∨ c = 209 ∨ c = 210 ∨ c = 240 ∨ (c = o ∧ 2 ≤ k ∧ k ≤ 5) ∨ c = o + 7 ∨ c = o + 8 ∨ c = o + 9 ∨ c = o + 14 ∨ 4000 ≤ c ∨ (c = 60 ∧ k = 5) ∨ c = 65
section PEX
variable {C : gCo} {M : gMa} {T T' : gTy} {w lim s i n m k : Nat} {x7 y7 : Nat → Int32}
theorem adS_pre (h : s < T.1.length) (a b : Nat) : (adS lim a b T M).1[s]? = T.1[s]? ∧ T.1.length ≤ (adS lim a b T M).1.length := by
  by_cases c : ∃ q ∈ T.1, q.1 = M
  · rw [adS_old c]; exact ⟨rfl, Nat.le_refl _⟩
  · by_cases c2 : lim ≤ T.1.length
    · rw [adS_full c c2]; exact ⟨rfl, Nat.le_refl _⟩
    · rw [adS_new c c2]
      refine ⟨List.getElem?_append_left h, ?_⟩
      show _ ≤ (T.1 ++ _).length
      rw [List.length_append]; omega
theorem onS_pre (h : s < T.1.length) (a : Nat) : ∀ n, (onS C w lim a M n T).1[s]? = T.1[s]? ∧ T.1.length ≤ (onS C w lim a M n T).1.length := by
  intro n
  induction n with
  | zero => exact ⟨rfl, Nat.le_refl _⟩
  | succ n ih =>
    rw [onS]
    split
    · exact ih
    · obtain ⟨i1, i2⟩ := ih
      obtain ⟨j1, j2⟩ := adS_pre (lim := lim) (M := doM C w M (((chM C w M)[n]?).getD (0, none, none))) (s := s) (T := onS C w lim a M n T) (by omega) a n
      exact ⟨j1.trans i1, Nat.le_trans i2 j2⟩
theorem onS_stop (h : (onS C w lim k M n T).2 = true) : ∀ m, n ≤ m → onS C w lim k M m T = onS C w lim k M n T := by
  intro m
  induction m with
  | zero => intro hm; rw [show n = 0 by omega]
  | succ m ih =>
    intro hm
    by_cases c : n = m + 1
    · rw [c]
    · have e := ih (by omega)
      rw [onS, e, if_pos h]
theorem onS_go (h : ¬ (onS C w lim k M n T).2 = true) {ch : gCh} (hc : (chM C w M)[n]? = some ch) : onS C w lim k M (n + 1) T = adS lim k n (onS C w lim k M n T) (doM C w M ch) := by
  rw [onS, if_neg h, hc]
  rfl
theorem FN3_T (h : ∀ s, s < k → T'.1[s]? = T.1[s]?) (g : FN3 C w x7 T k) : FN3 C w x7 T' k := by
  intro f hf
  rcases g f hf with ⟨g1, g2⟩ | ⟨s, p, g1, g2, g3, g4, g5⟩
  · exact Or.inl ⟨g1, fun s p hs hp => g2 s p hs (by rw [← h s hs]; exact hp)⟩
  · exact Or.inr ⟨s, p, g1, g2, by rw [h s g1]; exact g3, g4, fun s' p' hs' hp' => g5 s' p' hs' (by rw [← h s' (by omega)]; exact hp')⟩
theorem FN3_next {p : gMa × Nat × Nat} {v : Int32} (ev : v.toInt = (k : Nat)) (hp : T.1[k]? = some p) (g : FN3 C w x7 T k) (h : ∀ f, f < 11 → (fD C w p.1 11 f ∧ x7 f = -1 ∧ y7 f = v) ∨ (¬ (fD C w p.1 11 f ∧ x7 f = -1) ∧ y7 f = x7 f)) : FN3 C w y7 T (k + 1) := by
  intro f hf
  rcases h f hf with ⟨h1, h2, h3⟩ | ⟨h1, h3⟩
  · refine Or.inr ⟨k, p, by omega, by rw [h3]; exact ev, hp, h1.2, fun s' p' hs' hp' => ?_⟩
    rcases g f hf with ⟨-, g2⟩ | ⟨s, p9, -, g2, -⟩
    · exact g2 s' p' hs' hp'
    · rw [h2, tm1] at g2; omega
  · rw [h3]
    rcases g f hf with ⟨g1, g2⟩ | ⟨s, p9, g1, g2⟩
    · refine Or.inl ⟨g1, fun s' p' hs' hp' => ?_⟩
      by_cases e : s' = k
      · rw [e, hp] at hp'
        rw [← Option.some.inj hp']
        exact fun z => h1 ⟨⟨hf, z⟩, g1⟩
      · exact g2 s' p' (by omega) hp'
    · exact Or.inr ⟨s, p9, by omega, g2⟩
end PEX
section KEXP
variable {G : kG} {q q0 q1 : kP} {d : Nat} {x x0 y z : gd} {o : Nat} {F : Int32 → gd → Prop} {Fv : gd → Prop} {Fm : gd → kP → Prop} {X : String → gd → kP → Prop} {C : gCo} {M : gMa} {T : gTy} {nl w lim : Nat} {S : Nat → Nat → Prop}
theorem KX3_S (hO : o = 260 ∨ o = 280) (hK : CK x C) (f : fm S x y) (hs : ∀ c k, S c k → sKX o c k) (h3 : T.1.length ≤ 3000) (h : KX3 C nl w x o T) : KX3 C nl w y o T := by
  have f : fm (sKX o) x y := fm_w f hs
  refine KX3_f hK (fun c k hc => f c k (by unfold sKX; omega)) (fun k h1 h2 => f _ _ (by unfold sKX; omega)) (fun s k hs => f _ _ (by unfold sKX; omega)) (fun k => f _ _ (by unfold sKX; omega)) (fun k => f _ _ (by unfold sKX; omega)) (f _ _ (by unfold sKX; omega)) (f _ _ (by unfold sKX; omega)) (fun k => f _ _ (by unfold sKX; omega)) (fun k => f _ _ (by unfold sKX; omega)) (fun k => f _ _ (by unfold sKX; omega)) h
/-- program, way, locks -/
def J3 (C : gCo) (nl w : Nat) (x : gd) : Prop := CK x C ∧ x.1 220 3 = Int32.ofNat w ∧ (x.1 60 9).toInt = (nl : Nat)
theorem J3_f (hc : agC x y) (hm : agM 220 x y) (h : J3 C nl w x) : J3 C nl w y := ⟨CK_f h.1 hc, by rw [hm 3 (by omega) (by omega)]; exact h.2.1, by rw [hc 60 9 (by omega)]; exact h.2.2⟩
theorem J3_S (hO : o = 260 ∨ o = 280) (f : fm S x y) (hs : ∀ c k, S c k → sKX o c k) (h : J3 C nl w x) : J3 C nl w y := by
  have f : fm (sKX o) x y := fm_w f hs
  exact J3_f (fun c k hc => f c k (by unfold sKX; omega)) (fun k h1 h2 => f _ _ (by unfold sKX; omega)) h
theorem kx_25 {c k : Nat} (h : c = 225) : sKX o c k := Or.inl h
theorem kx_Li {c k : Nat} (h : sLi 220 c k) : sKX o c k := by unfold sLi at h; unfold sKX; omega
theorem kx_In {c k : Nat} (h : sIn o c k) : sKX o c k := by unfold sIn at h; unfold sKX; omega
theorem kx_Vi {c k : Nat} (h : sVi o c k) : sKX o c k := by unfold sVi at h; unfold sKX; omega
theorem kx_Mk {c k : Nat} (h : sMk 220 c k) : sKX o c k := by unfold sMk at h; unfold sKX; omega
theorem kchL_f {l : List gCh} (e13 : y.1 220 13 = x.1 220 13) (e : ∀ c k, 231 ≤ c → c ≤ 233 → y.1 c k = x.1 c k) (h : kchL x 220 l) : kchL y 220 l := by
  obtain ⟨h1, h2⟩ := h
  refine ⟨by rw [e13]; exact h1, fun i ch hi => ?_⟩
  have := h2 i ch hi
  unfold kch at this ⊢
  rw [e (220 + 11) i (by omega) (by omega), e (220 + 12) i (by omega) (by omega), e (220 + 13) i (by omega) (by omega)]
  exact this
/-- the choices of one state -/
theorem kx_inner3 (he : q.ex = true) (ho : kiT q o) (hN : NC C) (hX : NXc C) (hX3 : NX3 C) (hLk : LkN C nl) (w01 : w = 0 ∨ w = 1) (l i : Int32) {k : Nat} (ei : i.toInt = k) (hk3 : k < 3000) (el : l.toInt = (lim : Nat)) (hl3 : lim ≤ 3000) {p : gMa × Nat × Nat} (hp : T.1[k]? = some p) (l84 : (chM C w p.1).length ≤ 84) {x7 : Nat → Int32}
    (again : ∀ (q2 : kP) (t : gd), kU q2 → kle q q2 → q2.et = some o → fm (sEx o) x t → XI t q2 o → J3 C nl w t → KX3 C nl w t o (onS C w lim k p.1 (chM C w p.1).length T) → (∀ f, t.1 (o + 7) f = x7 f) → KM G q2 (d + 6) zk_X2_explore 49 [(0, vr 200), (2, vi l), (4, vi (i + 1))] [] t (rm q Fm) X) :
    ∀ (n j : Nat) (i2 : Int32) (q2 : kP) (t : gd), i2.toInt = j → (chM C w p.1).length - j ≤ n → j ≤ (chM C w p.1).length → kU q2 → kle q q2 → q2.et = some o → fm (sEx o) x t → XI t q2 o → J3 C nl w t → kchL t 220 (chM C w p.1) → KX3 C nl w t o (onS C w lim k p.1 j T) → (∀ f, t.1 (o + 7) f = x7 f) → KM G q2 (d + 6) zk_X2_explore 95 [(0, vr 200), (2, vi l), (4, vi i), (5, vi i2)] [] t (rm q Fm) X := by
  have hO := iT_O ho
  have k1 : (1 : Int32).toInt = 1 := rfl
  have k0 : (0 : Int32).toInt = 0 := rfl
  intro n
  induction n with
  | zero =>
    intro j i2 q2 t ej hn hj hu2 hl2 et2 ft hXt hJ hc hT h7
    have ho2 := kle_T hl2 ho
    have he2 := hl2.2.1.2.1 he
    have jl : j = (chM C w p.1).length := by omega
    have c13 := hc.1
    refine kg_X2_explore_95 hu2 he2 ho2 l i i2 ⟨fun _ => again q2 t hu2 hl2 et2 ft hXt hJ (by rw [← jl]; exact hT) h7, fun c => ?_⟩
    rw [t_le] at c; omega
  | succ n ihn =>
    intro j i2 q2 t ej hn hj hu2 hl2 et2 ft hXt hJ hc hT h7
    have ho2 := kle_T hl2 ho
    have he2 := hl2.2.1.2.1 he
    have hkn2 := hu2.2.2.2.2.1
    have hm2 : kiM q2 220 := Or.inr ⟨rfl, he2⟩
    have c13 := hc.1
    refine kg_X2_explore_95 hu2 he2 ho2 l i i2 ⟨fun c => again q2 t hu2 hl2 et2 ft hXt hJ ?_ h7, fun c2 u2 e2 => ⟨o, by rw [e2, et_r et2], ho2, fun cp => again q2 t hu2 hl2 et2 ft hXt hJ ?_ h7, fun cp => ?_⟩⟩
    · rw [t_le] at c
      have jl : j = (chM C w p.1).length := by omega
      rw [← jl]; exact hT
    · have pt : (onS C w lim k p.1 j T).2 = true := by
        apply Classical.byContradiction
        intro z
        have := hT.1.2
        rw [if_neg z] at this
        exact cp this
      rw [onS_stop pt _ hj]; exact hT
    rw [t_le] at c2
    have pf : ¬ (onS C w lim k p.1 j T).2 = true := fun z => by
      have := hT.1.2
      rw [if_pos z] at this
      rw [this] at cp
      exact absurd cp (by decide)
    have hjl : j < (chM C w p.1).length := by omega
    obtain ⟨ch, hch⟩ : ∃ ch, (chM C w p.1)[j]? = some ch := ⟨_, List.getElem?_eq_getElem hjl⟩
    have hkl := gt_lt hp
    obtain ⟨pr1, pr2⟩ := onS_pre (C := C) (w := w) (lim := lim) (M := p.1) hkl k j
    have hp' : (onS C w lim k p.1 j T).1[k]? = some p := by rw [pr1]; exact hp
    have hkp := hT.2.1 k p hp'
    have hk0 : (k : Int) < (t.1 o 0).toInt := by rw [hT.1.1]; omega
    have hT3 : (onS C w lim k p.1 j T).1.length ≤ 3000 := by have := hT.1.1; have := hXt.2.1.1.1; omega
    have hkr := hXt.2.2.2.1 k hk0
    have hsn : k < q2.kn := by have := hXt.2.2.1; omega
    have ej1 : (i2 + 1).toInt = ((j + 1 : Nat) : Int) := by rw [t_add (by rw [k1]; omega) (by rw [k1]; omega), k1, ej]; rfl
    refine kx_recall hu2.1 he2 hXt.1.1 hXt.1.2 i ei hsn hk3 hkr (fun a2 ea2 hMa2 fa2 => ?_)
    have hXa2 : XI a2 q2 o := XI_q hO (fm_w fa2 (fun c k => qu_25)) hXt hkn2
    have ga2 : KMm a2 220 C p.1 := by rw [ea2]; exact hkp.2.1
    have hJa := J3_S hO fa2 (fun c k => kx_25) hJ
    have hTa := KX3_S hO hJ.1 fa2 (fun c k => kx_25) hT3 hT
    have hca := kchL_f (c13_25 fa2) (fun c k h1 h2 => fa2 _ _ (by omega)) hc
    have e0a := co0_25 hO fa2
    refine kh_perform hu2.1 hm2 hMa2 hJa.1 hN hX hX3 ga2 (WMw_WM hkp.2.2.1.1) hJa.2.1 w01 i2 ej (by omega) (hca.2 j ch hch) (ch_in (List.mem_of_getElem? hch)) (fun b2 hMb2 fb2 hD2 gb2 => ?_)
    have hXb2 : XI b2 q2 o := XI_q hO (fm_w fb2 (fun c k => qu_Mk)) hXa2 hkn2
    have hJb := J3_S hO fb2 (fun c k => kx_Mk) hJa
    have hTb := KX3_S hO hJa.1 fb2 (fun c k => kx_Mk) hT3 hTa
    have hcb := kchL_f (c13_Mk fb2) (fun c k h1 h2 => fb2 _ _ (by unfold sMk; omega)) hca
    have l6 : C.2.1.length ≤ 6 := by have := hMb2.1.1.2.2.1; have := hJb.1.2.1.1; omega
    have lb : (C.2.2.1.length : Int) < 2147483648 := by have := hMb2.1.1.1; have := hJb.1.2.2.1.1; omega
    have hmem := List.mem_of_getElem? hch
    refine kx_addState3 (d := d + 1) (A := k) (B := j) hu2 he2 ho2 et2 hXb2 hMb2 hJb.1 hN hJb.2.2 gb2 (MIv_do hX l6 hkp.2.2.1 hmem) (MCn_do hN hX hLk lb l6 hkp.2.2.2.1 hkp.2.2.1 hmem) (NBm_do hkp.2.2.2.2.1) hTb i i2 l (Or.inr ⟨ei, by omega, ej⟩) el hl3 (fun c3 q3 hu3 hl3' et3 f3 hX3' hrow hT3' => ?_)
    obtain ⟨ac3, am3⟩ := sKe_C hO f3
    refine ihn (j + 1) _ q3 c3 ej1 (by omega) hjl hu3 (kle_tr hl2 hl3') (by rw [et3]; exact et2) (fm_tr ft (fm_tr (fm_tr (fm_w fa2 (fun c k => ex_25)) (fm_w fb2 (fun c k => ex_Mk))) (fm_w f3 (fun c k => ex_Ke)))) hX3' (J3_f ac3 am3 hJb) (kchL_f (c13_Ke hO f3) (fun c k h1 h2 => f3 _ _ (by unfold sKe; omega)) hcb) (by rw [onS_go pf hch]; exact hT3') (fun f => ?_)
    rw [f3 _ _ (by unfold sKe; omega), fb2 _ _ (by unfold sMk; omega), fa2 _ _ (by omega)]
    exact h7 f
end KEXP
