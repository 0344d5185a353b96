section
/-! the class: its run, with the machine's states that it goes through -/
/-- the run stands behind n choices of the row c, by the way w -/
def KRun (C : gCo) (w n : Nat) (c : Nat → Nat) (x : gd) : Prop := RUN x ∧ (KMm x 120 C (runM C w c n) ∧ MIv C w (runM C w c n) ∧ kchL x 120 (chM C w (runM C w c n))) ∧ ((w = 0 ∨ w = 1) ∧ x.1 120 3 = Int32.ofNat w) ∧ (x.1 160 2).toInt = (n : Nat) ∧ ∀ k, k < n → c k < (chM C w (runM C w c k)).length ∧ (x.1 162 k).toInt = (c k : Nat)
section KRU
variable {G : kG} {q : kP} {d : Nat} {x x0 y z : gd} {F : Int32 → gd → Prop} {Fv : gd → Prop} {P : Option gv → gd → Prop} {X : String → gd → Prop} {C : gCo} {M : gMa} {w n : Nat} {c : Nat → Nat}
/-- what the machine holds, where all that it reaches stays -/
theorem KMm_ag {o : Nat} (hO : o = 120 ∨ o = 220) (hM : MM x o) (hK : CK x C) (f6 : y.1 60 6 = x.1 60 6) (f9 : y.1 60 9 = x.1 60 9) (e13 : y.1 60 13 = x.1 60 13) (ho : ∀ k, k = 7 ∨ k = 8 ∨ k = 9 → y.1 o k = x.1 o k) (hr : ∀ k, y.1 (o + 5) k = x.1 (o + 5) k) (g : KMm x o C M) : KMm y o C M :=
  KMm_fr hO hM hK f6 f9 e13 (ho 9 (by omega)) (fun j _ => hr j) (fun t k => by unfold rg pa; rw [ho 7 (by omega), ho 8 (by omega), hr]) g
theorem kchL_ag {o : Nat} {l : List gCh} (h13 : y.1 o 13 = x.1 o 13) (h : ∀ c k, (o + 11 ≤ c ∧ c ≤ o + 13) → y.1 c k = x.1 c k) (g : kchL x o l) : kchL y o l := by
  refine ⟨by rw [h13]; exact g.1, fun i ch hi => ?_⟩
  unfold kch
  rw [h (o + 11) i (by omega), h (o + 12) i (by omega), h (o + 13) i (by omega)]
  exact g.2 i ch hi
theorem kj_clear3 (hq : kV q) (h : ∀ y, JN y → fm (fun c k => (c = 160 ∧ 2 ≤ k ∧ k ≤ 4) ∨ (174 ≤ c ∧ c ≤ 178)) x y → y.1 160 2 = 0 → Fv y) : KT G q (d + 1) zk_X4_clear 0 [(0, vr 160)] [] x (rv Fv) := by
  refine kg_X4_clear_0 hq (fun x1 e1 x2 e2 x3 e3 x4 e4 x5 e5 x6 e6 x7 e7 z ez => rv_i (h z ?_ ?_ ?_))
  · have z2 : z.1 160 2 = 0 := by rw [ez, e7, e6, e5, e4, e3, e2, e1]; (simp only [si_get, sfl_get, Nat.reduceEqDiff, eq_self, and_false, false_and, and_true, true_and, if_true, if_false, reduceIte, reduceCtorEq])
    have z3 : z.1 160 3 = 0 := by rw [ez, e7, e6, e5, e4, e3, e2, e1]; (simp only [si_get, sfl_get, Nat.reduceEqDiff, eq_self, and_false, false_and, and_true, true_and, if_true, if_false, reduceIte, reduceCtorEq])
    have k0 : (0 : Int32).toInt = 0 := rfl
    unfold JN
    rw [z2, z3, k0]
    refine ⟨by omega, fun a ha => by omega, fun t ht => Or.inl ?_⟩
    rw [ez, e7, e6, e5, sfl_get, if_neg (by omega), sfl_get, if_neg (by omega), sfl_get, if_neg (by omega), sfl_get, if_neg (by omega), e4, sfl_get, if_pos ⟨rfl, ht⟩]
  · rw [ez, e7, e6, e5, e4, e3, e2, e1]
    exact fm_fl (fm_fl (fm_fl (fm_fl (fm_fl (fm_si (fm_si (fm_si (fm_rf _ _) (by omega)) (by omega)) (by omega)) (fun k _ => by omega)) (fun k _ => by omega)) (fun k _ => by omega)) (fun k _ => by omega)) (fun k _ => by omega)
  · rw [ez, e7, e6, e5, e4, e3, e2, e1]; (simp only [si_get, sfl_get, Nat.reduceEqDiff, eq_self, and_false, false_and, and_true, true_and, if_true, if_false, reduceIte, reduceCtorEq])
theorem kj_note3 (hq : kV q) (hJ : JN x) (hC : CO x) (hD : DE x 120) (h400 : (x.1 160 2).toInt < 400) (i : Int32) (h : ∀ y, JN y → fm (fun c k => 160 ≤ c ∧ c < 180) x y → (y.1 160 2).toInt = (x.1 160 2).toInt + 1 → (∀ k, y.1 162 k = if k = (x.1 160 2).toInt.toNat then i else x.1 162 k) → Fv y) : KT G q (d + 4) zk_X4_note 0 [(0, vr 160), (1, vi i), (2, vr 140)] [] x (rv Fv) := by
  have k400 : (400 : Int32).toInt = 400 := rfl
  have k1 : (1 : Int32).toInt = 1 := rfl
  have k0 : (0 : Int32).toInt = 0 := rfl
  obtain ⟨⟨b1, b2, b3⟩, hA, hT⟩ := id hJ
  obtain ⟨⟨c1, c2, c3, -⟩, -⟩ := hC
  refine kg_X4_note_0 hq _ ⟨fun c => ?_, fun c => absurd (t_lt.mpr (by rw [k400]; exact h400)) c⟩
  rw [t_lt, k400] at c
  refine ⟨by rw [vp_in_iff]; omega, fun x3 e3 x4 e4 => ?_⟩
  have q3 : x3.1 160 2 = x.1 160 2 := by rw [e3]; (simp only [si_get, sfl_get, Nat.reduceEqDiff, eq_self, and_false, false_and, and_true, true_and, if_true, if_false, reduceIte, reduceCtorEq])
  have f4 : fm (fun c k => c = 162 ∨ (c = 160 ∧ k = 2)) x x4 := by rw [e4, e3]; exact fm_si (fm_si (fm_rf _ _) (Or.inl rfl)) (Or.inr ⟨rfl, rfl⟩)
  have d4 : (x4.1 160 2).toInt = (x.1 160 2).toInt + 1 := by
    have : x4.1 160 2 = x.1 160 2 + 1 := by rw [e4, q3]; (simp only [si_get, sfl_get, Nat.reduceEqDiff, eq_self, and_false, false_and, and_true, true_and, if_true, if_false, reduceIte, reduceCtorEq])
    rw [this, t_add (by rw [k1]; omega) (by rw [k1]; omega), k1]
  have a4 : x4.1 160 3 = x.1 160 3 := f4 _ _ (by omega)
  have c4 : ∀ k, x4.1 162 k = if k = (x.1 160 2).toInt.toNat then i else x.1 162 k := fun k => by
    rw [e4, si_cell (by decide), e3, si_get]
    by_cases ck : k = (x.1 160 2).toInt.toNat
    · rw [if_pos ⟨rfl, ck⟩, if_pos ck]
    · rw [if_neg (fun z => ck z.2), if_neg ck]
  have hJ4 : JN x4 := by
    unfold JN
    rw [d4, a4]
    refine ⟨by omega, fun a ha => JA_eq (fun c k hc => f4 c k (by omega)) (hA a ha), fun t ht => ?_⟩
    rw [f4 174 t (by omega)]; exact hT t ht
  refine ⟨fun cn => ?_, fun _ => rv_i (h x4 hJ4 (fm_w f4 (fun c k q => by omega)) d4 c4)⟩
  intro x6 e6
  have va : vp_in (x4.1 160 3) 400 := by rw [a4, vp_in_iff]; omega
  have eN : (x4.1 160 3).toNatClampNeg = (x.1 160 3).toInt.toNat := by rw [a4]; rfl
  refine ⟨va, fun x8 e8 => ⟨va, fun x10 e10 => ⟨va, fun x12 e12 => ⟨va, fun x14 e14 => ⟨va, fun x16 e16 => ⟨va, fun x18 e18 => ?_⟩⟩⟩⟩⟩⟩
  rw [eN] at e8 e10 e12 e14 e16 e18
  have f18 : fm (fun c k => c = 162 ∨ (c = 160 ∧ (k = 2 ∨ k = 3)) ∨ (166 ≤ c ∧ c ≤ 171 ∧ k = (x.1 160 3).toInt.toNat)) x x18 := by
    rw [e18, e16, e14, e12, e10, e8, e6]
    exact fm_si (fm_si (fm_si (fm_si (fm_si (fm_si (fm_si (fm_w f4 (fun c k q => by omega)) (by omega)) (by omega)) (by omega)) (by omega)) (by omega)) (by omega)) (by omega)
  have de : ∀ k, x18.1 140 k = x.1 140 k := fun k => f18 _ _ (by omega)
  have d6 : ∀ k, x6.1 140 k = x.1 140 k := fun k => by rw [e6, si_cell (by decide), f4 _ _ (by omega)]
  have d8 : ∀ k, x8.1 140 k = x.1 140 k := fun k => by rw [e8, si_cell (by decide)]; exact d6 k
  have d10 : ∀ k, x10.1 140 k = x.1 140 k := fun k => by rw [e10, si_cell (by decide)]; exact d8 k
  have d12 : ∀ k, x12.1 140 k = x.1 140 k := fun k => by rw [e12, si_cell (by decide)]; exact d10 k
  have d14 : ∀ k, x14.1 140 k = x.1 140 k := fun k => by rw [e14, si_cell (by decide)]; exact d12 k
  have d16 : ∀ k, x16.1 140 k = x.1 140 k := fun k => by rw [e16, si_cell (by decide)]; exact d14 k
  rw [d6] at e8
  rw [d8] at e10
  rw [d10] at e12
  rw [d16, nar_b hD.1] at e18
  have s3 : (x18.1 160 3).toInt = (x.1 160 3).toInt + 1 := by
    have : x18.1 160 3 = x.1 160 3 + 1 := by rw [e18, e16, e14, e12, e10, e8, e6, a4]; (simp only [si_get, sfl_get, Nat.reduceEqDiff, eq_self, and_false, false_and, and_true, true_and, if_true, if_false, reduceIte, reduceCtorEq])
    rw [this, t_add (by rw [k1]; omega) (by rw [k1]; omega), k1]
  have s2 : (x18.1 160 2).toInt = (x.1 160 2).toInt + 1 := by
    have : x18.1 160 2 = x4.1 160 2 := by rw [e18, e16, e14, e12, e10, e8, e6]; (simp only [si_get, sfl_get, Nat.reduceEqDiff, eq_self, and_false, false_and, and_true, true_and, if_true, if_false, reduceIte, reduceCtorEq])
    rw [this]; exact d4
  have g6 : x18.1 166 (x.1 160 3).toInt.toNat = x.1 140 0 := by rw [e18, e16, e14, e12, e10, e8]; (simp only [si_get, sfl_get, Nat.reduceEqDiff, eq_self, and_false, false_and, and_true, true_and, if_true, if_false, reduceIte, reduceCtorEq])
  have g7 : x18.1 167 (x.1 160 3).toInt.toNat = x.1 140 1 := by rw [e18, e16, e14, e12, e10]; (simp only [si_get, sfl_get, Nat.reduceEqDiff, eq_self, and_false, false_and, and_true, true_and, if_true, if_false, reduceIte, reduceCtorEq])
  have g8 : x18.1 168 (x.1 160 3).toInt.toNat = x.1 140 2 := by rw [e18, e16, e14, e12]; (simp only [si_get, sfl_get, Nat.reduceEqDiff, eq_self, and_false, false_and, and_true, true_and, if_true, if_false, reduceIte, reduceCtorEq])
  have g11 : x18.1 171 (x.1 160 3).toInt.toNat = x.1 140 5 := by rw [e18]; (simp only [si_get, sfl_get, Nat.reduceEqDiff, eq_self, and_false, false_and, and_true, true_and, if_true, if_false, reduceIte, reduceCtorEq])
  have hde : (0 ≤ (x.1 140 0).toInt ∧ (x.1 140 0).toInt < (x.1 60 10).toInt) ∧ 0 ≤ (x.1 140 1).toInt ∧ (x.1 140 5 = 0 → ((x.1 140 1).toInt ≤ 4 → 0 ≤ (x.1 140 2).toInt ∧ (x.1 140 2).toInt < (x.1 60 6).toInt) ∧ ((5 ≤ (x.1 140 1).toInt ∧ (x.1 140 1).toInt ≤ 8) ∨ (x.1 140 1).toInt = 15 → 0 ≤ (x.1 140 2).toInt ∧ (x.1 140 2).toInt < (x.1 60 9).toInt) ∧ ((x.1 140 1).toInt = 9 ∨ (x.1 140 1).toInt = 10 → 0 ≤ (x.1 140 2).toInt ∧ (x.1 140 2).toInt < (x.1 60 10).toInt)) := by
    rcases hD.2 with e | e
    · rw [f4 140 0 (by omega)] at cn; exact absurd e cn
    · exact e
  have hJ18 : JN x18 := by
    unfold JN
    rw [s3, s2]
    refine ⟨by omega, fun a ha => ?_, fun t ht => ?_⟩
    · by_cases h9 : a = (x.1 160 3).toInt.toNat
      · rw [h9]
        unfold JA
        rw [g6, g7, g8, g11]
        obtain ⟨p1, p2, p3⟩ := hde
        refine ⟨by omega, p2, fun c5 => ?_⟩
        obtain ⟨r1, r2, r3⟩ := p3 c5
        exact ⟨fun z => by have := r1 z; omega, fun z => by have := r2 z; omega, fun z => by have := r3 z; omega⟩
      · have := hA a (by omega)
        unfold JA at this ⊢
        rw [f18 166 a (by omega), f18 167 a (by omega), f18 168 a (by omega), f18 171 a (by omega)]; exact this
    · rw [f18 174 t (by omega)]
      rcases hT t ht with e | e
      · exact Or.inl e
      · exact Or.inr ⟨e.1, by omega⟩
  have ea : (x4.1 160 3).toInt = (((x.1 160 3).toInt.toNat : Nat) : Int) := by rw [a4]; omega
  have n18 : x18.1 160 2 = x4.1 160 2 ∧ ∀ k, x18.1 162 k = x4.1 162 k := ⟨by rw [e18, e16, e14, e12, e10, e8, e6]; (simp only [si_get, sfl_get, Nat.reduceEqDiff, eq_self, and_false, false_and, and_true, true_and, if_true, if_false, reduceIte, reduceCtorEq]), fun k => by rw [e18, si_cell (by decide), e16, si_cell (by decide), e14, si_cell (by decide), e12, si_cell (by decide), e10, si_cell (by decide), e8, si_cell (by decide), e6, si_cell (by decide)]⟩
  have p183 : ∀ (y : gd) (s : Int32), JN y → fm (fun c k => 160 ≤ c ∧ c < 180) x y → (y.1 160 3).toInt = (x.1 160 3).toInt + 1 → (y.1 160 2 = x4.1 160 2 ∧ ∀ k, y.1 162 k = x4.1 162 k) → KT G q (d + 4) zk_X4_note 183 [(0, vr 160), (3, vi (x4.1 160 3))] [vi s, vi (x4.1 160 3), vr 172] y (rv Fv) := by
    intro y s hy fy y3 hn
    exact kg_X4_note_183 hq _ _ _ (kj_racesOf hq hy _ ea (by omega) (fun r => ⟨va, fun z ez => rv_i (h z (JN_ck (by rw [ez]; exact fm_si (fm_rf _ _) (Or.inl rfl)) hy) (by rw [ez]; exact fm_si fy (by omega)) (by rw [ez, si_cell (by decide), hn.1]; exact d4) (fun k => by rw [ez, si_cell (by decide), hn.2]; exact c4 k))⟩))
  have p162 : ∀ y, JN y → fm (fun c k => 160 ≤ c ∧ c < 180) x y → (y.1 160 3).toInt = (x.1 160 3).toInt + 1 → (y.1 160 2 = x4.1 160 2 ∧ ∀ k, y.1 162 k = x4.1 162 k) → KT G q (d + 4) zk_X4_note 162 [(0, vr 160), (3, vi (x4.1 160 3))] [] y (rv Fv) := by
    intro y hy fy y3 hn
    refine kg_X4_note_162 hq _ ⟨fun c9 => ⟨?_, p183 y _ hy fy y3 hn⟩, fun _ => p183 y _ hy fy y3 hn⟩
    rw [t_eq, k0, a4] at c9
    rw [a4, vp_in_iff, t_sub (by rw [k1]; omega) (by rw [k1]; omega), k1]; omega
  have p141 : ∀ y, JN y → fm (fun c k => c = 160 ∧ k = 4) x18 y → KT G q (d + 4) zk_X4_note 141 [(0, vr 160), (2, vr 140), (3, vi (x4.1 160 3))] [] y (rv Fv) := by
    intro y hy fy
    have fxy : fm (fun c k => 160 ≤ c ∧ c < 180) x y := fm_tr (fm_w f18 (fun c k q => by omega)) (fm_w fy (fun c k q => by omega))
    have y3 : (y.1 160 3).toInt = (x.1 160 3).toInt + 1 := by rw [fy 160 3 (by omega)]; exact s3
    refine kg_X4_note_141 hq _ (kj_setClock hq hy _ ea (by omega) (fun z hz fz => ?_))
    have hn : z.1 160 2 = x4.1 160 2 ∧ ∀ k, z.1 162 k = x4.1 162 k := ⟨by rw [fz 160 2 (by omega), fy 160 2 (by omega)]; exact n18.1, fun k => by rw [fz 162 k (by omega), fy 162 k (by omega)]; exact n18.2 k⟩
    have z3 : (z.1 160 3).toInt = (x.1 160 3).toInt + 1 := by rw [fz 160 3 (by omega)]; exact y3
    have fxz := fm_tr fxy (fm_w fz (fun c k q => by show 160 ≤ c ∧ c < 180; omega))
    refine ⟨fun _ => p162 z hz fxz z3 hn, fun c5 => kj_handOn hq hz _ _ ea (by omega) ?_ (fun w fw => p162 w (JN_ck fw hz) (fm_tr fxz (fm_w fw (fun c k q => by unfold sCk at q; omega))) (by rw [fw 160 3 (by unfold sCk; omega)]; exact z3) ⟨by rw [fw 160 2 (by unfold sCk; omega)]; exact hn.1, fun k => by rw [fw 162 k (by unfold sCk; omega)]; exact hn.2 k⟩)⟩
    rw [fz 171 _ (by omega), fy 171 _ (by omega), g11]
    rw [fz 140 5 (by omega), fy 140 5 (by omega), de] at c5
    exact c5
  refine ⟨fun _ => p141 x18 hJ18 (fm_rf _ _), fun _ => ⟨fun _ => p141 x18 hJ18 (fm_rf _ _), fun _ x21 e21 => p141 x21 ?_ (by rw [e21]; exact fm_si (fm_rf _ _) ⟨rfl, rfl⟩)⟩⟩
  have f21 : fm (fun c k => c = 160 ∧ k = 4) x18 x21 := by rw [e21]; exact fm_si (fm_rf _ _) ⟨rfl, rfl⟩
  unfold JN at hJ18 ⊢
  rw [f21 160 3 (by omega), f21 160 2 (by omega)]
  refine ⟨hJ18.1, fun a ha => JA_eq (fun c k hc => f21 c k (by omega)) (hJ18.2.1 a ha), fun t ht => ?_⟩
  rw [f21 174 t (by omega)]; exact hJ18.2.2 t ht
theorem kh_beginRun (hq : kV q) (hC : CO x) (hK : CK x C) (gc : GC C) (w01 : w = 0 ∨ w = 1) (c : Nat → Nat) (h : ∀ y, fm sRn x y → KRun C w 0 c y → (∀ k, y.1 162 k = x.1 162 k) → y.1 0 10 = 1 → Fv y) : KT G q (d + 6) zk_X11_beginRun 0 [(0, vr 0), (1, vi (Int32.ofNat w))] [] x (rv Fv) := by
  have hm : kiM q 120 := Or.inl rfl
  have hw : Int32.ofNat w = 0 ∨ Int32.ofNat w = 1 := by
    rcases w01 with e | e <;> rw [e]
    · exact Or.inl rfl
    · exact Or.inr rfl
  refine kg_X11_beginRun_0 hq _ (kh_reset hq hm hC hK gc.1 _ hw (fun x1 hM f1 h3 g1 => ?_))
  have hK1 : CK x1 C := CK_f hK (fun c k hc => f1 c k (by unfold sRe; omega))
  refine kh_listChoices hq hm hM hK1 gc.1 g1 WLk_fs h3 w01 (fun x2 f2 hL hch => kj_clear3 hq (fun x3 hJ f3 z2 x4 e4 => rv_i ?_))
  have hM2 := MM_Li (Or.inl rfl) f2 hM
  have g : ∀ c k, c < 160 → ¬ (c = 0) → x4.1 c k = x2.1 c k := fun c k a b => by rw [e4, si_get, if_neg (by omega)]; exact f3 c k (by omega)
  have hc : agC x2 x4 := fun c k hc => g c k (by omega) (by omega)
  have fA : fm sRn x x4 := by
    refine fm_tr (fm_tr (fm_tr (fm_w f1 (fun c k q => by unfold sRe at q; unfold sRn; omega)) (fm_w f2 (fun c k q => by unfold sLi at q; unfold sRn; omega))) (fm_w f3 (fun c k q => by unfold sRn; omega))) ?_
    rw [e4]; exact fm_si (fm_rf _ _) (by unfold sRn; omega)
  refine h x4 fA ⟨⟨MM_ag hc (fun k a b => g _ _ (by omega) (by omega)) (fun k hk => g _ _ (by omega) (by omega)) hM2, LSk_ag hM2 hc (fun k a b => g _ _ (by omega) (by omega)) (fun k hk => g _ _ (by omega) (by omega)) (g _ _ (by omega) (by omega)) (fun k => g _ _ (by omega) (by omega)) (fun k => g _ _ (by omega) (by omega)) hL, ?_⟩, ⟨?_, MIv_fs, ?_⟩, ⟨w01, ?_⟩, ?_, fun k hk => absurd hk (Nat.not_lt_zero _)⟩ (fun k => ?_) (by rw [e4, si_get, if_pos ⟨rfl, rfl⟩])
  · refine JN_o (fun c k a b => ?_) hJ
    rw [e4, si_get, if_neg (by omega)]
  · exact KMm_ag (Or.inl rfl) hM2 (CK_Li (Or.inl rfl) hK1 f2) (g _ _ (by omega) (by omega)) (g _ _ (by omega) (by omega)) (g _ _ (by omega) (by omega)) (fun k hk => g _ _ (by omega) (by omega)) (fun k => g _ _ (by omega) (by omega)) (KMm_Li (Or.inl rfl) hM hK1 f2 g1)
  · exact kchL_ag (g _ _ (by omega) (by omega)) (fun c k hc => g c k (by omega) (by omega)) hch
  · rw [g _ _ (by omega) (by omega), f2 _ _ (by unfold sLi; omega)]; exact h3
  · rw [e4, si_get, if_neg (by omega), z2]; rfl
  · rw [e4, si_get, if_neg (by omega), f3 _ _ (by omega), f2 _ _ (by unfold sLi; omega), f1 _ _ (by unfold sRe; omega)]
/-- a choice is done -/
theorem kh_doChoice (hq : kV q) (hK : CK x C) (gc : GC C) (hX3 : NX3 C) (hR : KRun C w n c x) (i : Int32) {I : Nat} (ei : i.toInt = (I : Nat)) (hi : I < (chM C w (runM C w c n)).length) (n400 : n < 400) (eI : c n = I) (h : ∀ y, fm sRn x y → KRun C w (n + 1) c y → (∀ k, ¬ k = n → y.1 162 k = x.1 162 k) → y.1 0 10 = x.1 0 10 → Fv y) : KT G q (d + 6) zk_X11_doChoice 0 [(0, vr 0), (1, vi i)] [] x (rv Fv) := by
  have hm : kiM q 120 := Or.inl rfl
  have k0 : (0 : Int32).toInt = 0 := rfl
  have k400 : (400 : Int32).toInt = 400 := rfl
  obtain ⟨⟨hM, hL, hJ⟩, ⟨gM, hI, hch⟩, ⟨w01, wy⟩, hn, hcs⟩ := hR
  obtain ⟨hN, hX, l6⟩ := gc
  have e13 : (x.1 120 13).toInt = ((chM C w (runM C w c n)).length : Nat) := hch.1
  obtain ⟨ch, hci⟩ : ∃ ch, (chM C w (runM C w c n))[I]? = some ch := ⟨_, List.getElem?_eq_getElem hi⟩
  have cm := List.mem_of_getElem? hci
  have l84 := hL.1.2
  refine kg_X11_doChoice_0 hq i ⟨fun cc => ?_, fun c0 => ⟨fun cc => ?_, fun c1 => ⟨fun _ => ?_, fun cc => ?_⟩⟩⟩
  · exfalso; rw [t_lt, k0] at cc; omega
  · exfalso; rw [t_le] at cc; omega
  · refine kh_perform hq hm hM hK hN hX hX3 gM (WMw_WM hI.1) wy w01 i ei (by omega) (hch.2 I ch hci) (ch_in cm) (fun x4 hM4 f4 hD4 g4 => ?_)
    have hK4 := CK_M (Or.inl rfl) hK f4
    have hJ4 : JN x4 := JN_o (fun c k a b => f4 c k (by unfold sMk; omega)) hJ
    have n4 : x4.1 160 2 = x.1 160 2 := f4 _ _ (by unfold sMk; omega)
    refine kj_note3 hq hJ4 hM4.1 hD4 (by rw [n4, hn]; omega) i (fun x5 hJ5 f5 d5 c5 => ?_)
    rw [n4, hn] at d5
    rw [n4, hn] at c5
    have hc5 : agC x4 x5 := fun c k hc => f5 c k (by omega)
    have hM5 : MM x5 120 := MM_ag hc5 (fun k a b => f5 _ _ (by omega)) (fun k hk => f5 _ _ (by omega)) hM4
    have hK5 : CK x5 C := CK_f hK4 (fun c k hc => f5 c k (by omega))
    have g5 : KMm x5 120 C (doM C w (runM C w c n) ch) := KMm_ag (Or.inl rfl) hM4 hK4 (f5 _ _ (by omega)) (f5 _ _ (by omega)) (f5 _ _ (by omega)) (fun k hk => f5 _ _ (by omega)) (fun k => f5 _ _ (by omega)) g4
    have hI' := MIv_do hX l6 hI cm
    have rE : runM C w c (n + 1) = doM C w (runM C w c n) ch := runM_s (by rw [eI]; exact hci)
    have w5 : x5.1 120 3 = Int32.ofNat w := by rw [f5 _ _ (by omega), f4 _ _ (by unfold sMk; omega)]; exact wy
    refine kh_listChoices hq hm hM5 hK5 hN g5 hI'.2 w5 w01 (fun x6 f6 hL6 hch6 => rv_i (h x6 ?_ ⟨⟨MM_Li (Or.inl rfl) f6 hM5, hL6, JN_o (fun c k a b => f6 c k (by unfold sLi; omega)) hJ5⟩, ⟨?_, ?_, ?_⟩, ⟨w01, ?_⟩, ?_, fun k hk => ?_⟩ (fun k hk => ?_) (by rw [f6 _ _ (by unfold sLi; omega), f5 _ _ (by omega), f4 _ _ (by unfold sMk; omega)])))
    · exact fm_tr (fm_tr (fm_w f4 (fun c k q => by unfold sMk at q; unfold sRn; omega)) (fm_w f5 (fun c k q => by unfold sRn; omega))) (fm_w f6 (fun c k q => by unfold sLi at q; unfold sRn; omega))
    · rw [rE]; exact KMm_Li (Or.inl rfl) hM5 hK5 f6 g5
    · rw [rE]; exact hI'
    · rw [rE]; exact hch6
    · rw [f6 _ _ (by unfold sLi; omega)]; exact w5
    · rw [f6 _ _ (by unfold sLi; omega), d5]; push_cast; rfl
    · have e6 : x6.1 162 k = if k = n then i else x.1 162 k := by
        rw [f6 _ _ (by unfold sLi; omega), c5 k, f4 _ _ (by unfold sMk; omega)]
        rfl
      rw [e6]
      by_cases ck : k = n
      · rw [if_pos ck, ck, eI]; exact ⟨hi, ei⟩
      · rw [if_neg ck]; exact hcs k (by omega)
    · rw [f6 _ _ (by unfold sLi; omega), c5 k, f4 _ _ (by unfold sMk; omega)]
      show (if k = n then i else x.1 162 k) = _
      rw [if_neg hk]
  · exfalso; exact cc (t_lt.mpr (by rw [k400, hn]; omega))
end KRU
end
section
/-! the machine: what lies beyond the program stays as it was, so that states are the same where all that there is is the same -/
/-- locks that there are -/
def LkN (C : gCo) (nl : Nat) : Prop := ∀ (j : Nat) (st : gNs), C.1[j]? = some st → 5 ≤ st.1 → st.1 ≤ 8 → st.2.2.2.2.1.toNatClampNeg < nl
def tCn (C : gCo) (h : gTq) : Prop := (∀ p, ¬ ((h.1 = 1 ∨ h.1 = 3) ∧ p < (stN C h.2.2.1).2.1.length) → h.2.2.2.2.2.2.2 p = 0) ∧ (¬ h.2.2.2.1 = 0 → (stN C h.2.2.1).1 = 7) ∧ ∀ q ∈ h.2.2.2.2.2.2.1, q.1 < C.2.2.1.length
def MCn (C : gCo) (nl : Nat) (M : gMa) : Prop := (∀ c, C.2.2.1.length ≤ c → M.1 c = 0) ∧ (∀ l, nl ≤ l → M.2.1 l = (0, 0)) ∧ ∀ t, (C.2.1.length ≤ t → M.2.2 t = th0) ∧ tCn C (M.2.2 t)
section PCN
variable {C : gCo} {M : gMa} {w t s c i nl : Nat} {e f : Int32} {wk : Option Nat} {ch : gCh} {h : gTq} {lv : Nat → Int32}
theorem tCn_0 : tCn C th0 := ⟨fun _ _ => rfl, fun z => absurd rfl z, fun q hq => by cases hq⟩
theorem tCn_N (hw : h.2.2.2.1 = 0) (hl : ∀ q ∈ h.2.2.2.2.2.2.1, q.1 < C.2.2.1.length) : tCn C (thN C t h s lv) := by
  refine ⟨fun p hp => ?_, fun z => absurd hw z, hl⟩
  show kvL C _ _ _ p = 0
  unfold kvL
  exact if_neg hp
theorem MCn_fs : MCn C nl (fsM C) := by
  refine ⟨fun c hc => ?_, fun _ _ => rfl, fun t => ?_⟩
  · show (match C.2.2.1[c]? with | some q => q.1 | none => 0) = 0
    rw [List.getElem?_eq_none_iff.mpr hc]
  · by_cases q : t < C.2.1.length
    · obtain ⟨q9, hq⟩ : ∃ q9, C.2.1[t]? = some q9 := ⟨_, List.getElem?_eq_getElem q⟩
      refine ⟨fun z => absurd q (by omega), ?_⟩
      by_cases c1 : q9.2 = 1
      · rw [fs_idle hq c1]; exact tCn_0
      · rw [fs_go hq c1]; exact tCn_N rfl (fun q hq => by cases hq)
    · rw [fs_out (by omega)]; exact ⟨fun _ => rfl, tCn_0⟩
theorem stN_in (h : 1 ≤ (stN C s).1) : ∃ st, C.1[s]? = some st ∧ stN C s = st := by
  unfold stN at h ⊢
  cases hs : C.1[s]? with
  | none => rw [hs] at h; exact absurd h (by decide)
  | some st => exact ⟨st, rfl, rfl⟩
theorem MCn_up (q : MCn C nl M) (ht : t < C.2.1.length) (hh : tCn C h) : MCn C nl (upT M t h) := by
  refine ⟨q.1, q.2.1, fun t' => ?_⟩
  show (_ → upf M.2.2 t h t' = th0) ∧ tCn C (upf M.2.2 t h t')
  by_cases z : t' = t
  · rw [z, upf_eq]; exact ⟨fun z => absurd ht (by omega), hh⟩
  · rw [upf_ne z]; exact q.2.2 t'
theorem MCn_C (q : MCn C nl M) {v : Int32} (hc : c < C.2.2.1.length) : MCn C nl (upC M c v) := by
  refine ⟨fun c' hc' => ?_, q.2⟩
  show upf M.1 c v c' = 0
  rw [upf_ne (by omega)]; exact q.1 c' hc'
theorem MCn_L (q : MCn C nl M) {v : Nat × Int32} (hc : c < nl ∨ v = (0, 0)) : MCn C nl (upL M c v) := by
  refine ⟨q.1, fun l hl => ?_, q.2.2⟩
  show upf M.2.1 c v l = (0, 0)
  by_cases z : l = c
  · rw [z, upf_eq]
    rcases hc with hc | hc
    · omega
    · exact hc
  · rw [upf_ne z]; exact q.2.1 l hl
theorem MCn_ef (hN : NC C) (hX : NXc C) (hL : LkN C nl) (lb : (C.2.2.1.length : Int) < 2147483648) (q : MCn C nl M) (qw : WMw w M) (t6 : t < 6) (tl : t < C.2.1.length) (l6 : C.2.1.length ≤ 6) (h1 : (M.2.2 t).1 = 1) (L0 : (lkM C w M t).1 = 0) : MCn C nl (efM C w M t (soM C (M.2.2 t)) (lkM C w M t).2.1.toNatClampNeg (lkM C w M t).2.2.1 (lkM C w M t).2.2.2 wk).1 := by
  obtain ⟨s, es⟩ : ∃ s, s = soM C (M.2.2 t) := ⟨_, rfl⟩
  obtain ⟨c, ec⟩ : ∃ c, c = (lkM C w M t).2.1.toNatClampNeg := ⟨_, rfl⟩
  have qt := (q.2.2 t).2
  rw [← es, ← ec]
  by_cases c15 : s = 15
  · rw [c15, ef_15]
    have w0 : ¬ (M.2.2 t).2.2.2.1 = 0 := fun z => by
      have so : soM C (M.2.2 t) = (stN C (M.2.2 t).2.2.1).1 := by unfold soM; rw [if_pos z]
      obtain ⟨st, hst, e⟩ := stN_in (C := C) (s := (M.2.2 t).2.2.1) (by omega)
      exact (hN.1 _ st hst).1.2 (by rw [← e]; omega)
    have o7 := qt.2.1 w0
    obtain ⟨st, hst, e⟩ := stN_in (C := C) (s := (M.2.2 t).2.2.1) (by omega)
    have cE : c = st.2.2.2.2.1.toNatClampNeg := by rw [ec, lkM_15 w0, e]
    refine MCn_up (MCn_L q (Or.inl (by rw [cE]; rw [e] at o7; exact hL _ st hst (by omega) (by omega)))) tl ?_
    exact ⟨qt.1, fun z => absurd rfl z, qt.2.2⟩
  · obtain ⟨w0, so⟩ := so_0 (C := C) (M := M) (t := t) (by rw [← es]; exact c15)
    have cl : 1 ≤ s → s ≤ 4 → c < C.2.2.1.length := fun a b => by
      obtain ⟨st, hst, e⟩ := stN_in (C := C) (s := (M.2.2 t).2.2.1) (by omega)
      obtain ⟨p1, p2⟩ := lkM_pl w0 L0
      rw [ec, p2]
      exact lkI_in hX hst (by rw [← e]; omega) lb p1
    have lk : 5 ≤ s → s ≤ 8 → c < nl := fun a b => by
      obtain ⟨st, hst, e⟩ := stN_in (C := C) (s := (M.2.2 t).2.2.1) (by omega)
      have cE : c = st.2.2.2.2.1.toNatClampNeg := by
        rw [ec, (lkM_pl w0 L0).2, lkI_n (ix_no hX (by omega)), e]
      rw [cE]
      exact hL _ st hst (by rw [← e]; omega) (by rw [← e]; omega)
    have self : ∀ hh : gTq, hh.1 = (M.2.2 t).1 → hh.2.2.1 = (M.2.2 t).2.2.1 → hh.2.2.2.1 = (M.2.2 t).2.2.2.1 → hh.2.2.2.2.2.2.2 = (M.2.2 t).2.2.2.2.2.2.2 → (∀ q ∈ hh.2.2.2.2.2.2.1, q.1 < C.2.2.1.length) → MCn C nl (upT M t hh) := fun hh a1 a2 a3 a4 a5 => by
      refine MCn_up q tl ⟨?_, ?_, a5⟩
      · rw [a1, a2, a4]; exact qt.1
      · rw [a2, a3]; exact qt.2.1
    by_cases c0 : s = 0
    · rw [c0, ef_0]; exact q
    by_cases c1 : s = 1
    · rw [c1, ef_1]
      by_cases z : w = 0 ∨ suM C c = true
      · rw [if_pos z]; exact MCn_C q (cl (by omega) (by omega))
      · rw [if_neg z]
        refine self _ rfl rfl rfl rfl (fun r hr => ?_)
        rcases List.mem_append.mp hr with hr | hr
        · exact qt.2.2 r hr
        · rw [List.mem_singleton.mp hr]; exact cl (by omega) (by omega)
    by_cases c2 : s = 2
    · rw [c2, ef_2]; exact MCn_C q (cl (by omega) (by omega))
    by_cases c3 : s = 3
    · rw [c3, ef_3]; exact MCn_C q (cl (by omega) (by omega))
    by_cases c4 : s = 4
    · rw [c4, ef_4]; exact MCn_C q (cl (by omega) (by omega))
    by_cases c5 : s = 5
    · rw [c5, ef_5]; exact MCn_L q (Or.inl (lk (by omega) (by omega)))
    by_cases c6 : s = 6
    · rw [c6, ef_6]; exact MCn_L q (Or.inl (lk (by omega) (by omega)))
    by_cases c7 : s = 7
    · rw [c7, ef_7]
      refine MCn_up (MCn_L q (Or.inr rfl)) tl ⟨qt.1, fun _ => ?_, qt.2.2⟩
      show (stN C (M.2.2 t).2.2.1).1 = 7
      omega
    by_cases c8 : s = 8
    · rw [c8, ef_8]
      refine ⟨q.1, q.2.1, fun t' => ?_⟩
      show (_ → wkT C M t c wk t' = th0) ∧ tCn C (wkT C M t c wk t')
      have q' := q.2.2 t'
      unfold wkT
      split
      · next z =>
        refine ⟨fun z9 => absurd z.1 (by omega), q'.2.1, fun _ => ?_, q'.2.2.2⟩
        exact q'.2.2.1 (by rw [z.2.1]; decide)
      · exact q'
    by_cases c9 : s = 9
    · cases hq : C.2.1[c]? with
      | none =>
        have a : efM C w M t 9 c (lkM C w M t).2.2.1 (lkM C w M t).2.2.2 wk = (match C.2.1[c]? with | some q => upT M c (thN C c (M.2.2 c) q.1 (M.2.2 c).2.2.2.2.2.2.2) | none => M, 0) := by unfold efM; rfl
        rw [c9, a, hq]; exact q
      | some q9 =>
        rw [c9, ef_9 hq]
        have lc := gt_lt hq
        have rs := lkM_rs w0 L0
        rw [← so, ← es, c9, ← ec, rsF_9] at rs
        have z0 : (M.2.2 c).1 = 0 := Classical.byContradiction (fun n => by rw [if_neg n] at rs; exact nomatch rs)
        exact MCn_up q lc (tCn_N ((qw c (by omega)).2.2.1 (by omega)) (q.2.2 c).2.2.2)
    by_cases c13 : s = 13
    · rw [c13, ef_13]; exact self _ rfl rfl rfl rfl qt.2.2
    by_cases c14 : s = 14
    · rw [c14, ef_14]; exact self _ rfl rfl rfl rfl qt.2.2
    · have a : efM C w M t s c (lkM C w M t).2.2.1 (lkM C w M t).2.2.2 wk = (M, 0) := by
        unfold efM
        rw [if_neg c0, if_neg c1, if_neg c2, if_neg c3, if_neg c4, if_neg c5, if_neg c6, if_neg c7, if_neg c8, if_neg c9, if_neg c13, if_neg c14, if_neg c15]
      rw [a]; exact q
theorem MCn_ac (hN : NC C) (hX : NXc C) (hL : LkN C nl) (lb : (C.2.2.1.length : Int) < 2147483648) (q : MCn C nl M) (qw : WMw w M) (tl : t < C.2.1.length) (l6 : C.2.1.length ≤ 6) (h1 : (M.2.2 t).1 = 1) : MCn C nl (acM C w M t wk) := by
  have qt := (q.2.2 t).2
  by_cases L0 : (lkM C w M t).1 = 0
  · have me := MCn_ef (wk := wk) hN hX hL lb q qw (by omega) tl l6 h1 L0
    by_cases c7 : soM C (M.2.2 t) = 7
    · rw [c7] at me
      rw [acM_7 L0 c7, ef_7]
      rw [ef_7] at me
      exact me
    · have st9 : soM C (M.2.2 t) = 9 → (M.2.2 (lkM C w M t).2.1.toNatClampNeg).1 = 0 := fun e9 => by
        obtain ⟨w0, es⟩ := so_0 (C := C) (M := M) (t := t) (by omega)
        have rs := lkM_rs w0 L0
        rw [← es, e9, rsF_9] at rs
        exact Classical.byContradiction (fun n => by rw [if_neg n] at rs; exact nomatch rs)
      obtain ⟨-, b1, -, -⟩ := WMw_ef (C := C) (s := soM C (M.2.2 t)) (c := (lkM C w M t).2.1.toNatClampNeg) (e := (lkM C w M t).2.2.1) (f := (lkM C w M t).2.2.2) (wk := wk) qw (by omega) h1 (Classical.byCases Or.inl (fun n => Or.inr (so_0 n).1)) (fun e9 _ => st9 e9) (fun e9 z => by have := st9 e9; rw [z] at this; omega) c7
      rw [acM_is (E := (efM C w M t (soM C (M.2.2 t)) (lkM C w M t).2.1.toNatClampNeg (lkM C w M t).2.2.1 (lkM C w M t).2.2.2 wk).1) (v := (efM C w M t (soM C (M.2.2 t)) (lkM C w M t).2.1.toNatClampNeg (lkM C w M t).2.2.1 (lkM C w M t).2.2.2 wk).2) L0 c7 rfl]
      exact MCn_up me tl (tCn_N b1 (me.2.2 t).2.2.2)
  · have w0 : (M.2.2 t).2.2.2.1 = 0 := Classical.byContradiction (fun n0 => L0 (by rw [lkM_15 n0]))
    rw [acM_F L0]
    refine MCn_up q tl ⟨fun p hp => qt.1 p (fun z => hp ⟨Or.inr rfl, z.2⟩), qt.2.1, qt.2.2⟩
theorem MCn_la (q : MCn C nl M) (tl : t < C.2.1.length) : MCn C nl (laM M t i) := by
  unfold laM
  cases hq : (M.2.2 t).2.2.2.2.2.2.1[i]? with
  | none => exact q
  | some z9 =>
    have qt := (q.2.2 t).2
    refine MCn_up (MCn_C q (qt.2.2 z9 (List.mem_of_getElem? hq))) tl ⟨qt.1, qt.2.1, fun r hr => qt.2.2 r (List.mem_of_mem_eraseIdx hr)⟩
theorem MCn_do (hN : NC C) (hX : NXc C) (hL : LkN C nl) (lb : (C.2.2.1.length : Int) < 2147483648) (l6 : C.2.1.length ≤ 6) (q : MCn C nl M) (qi : MIv C w M) (h : ch ∈ chM C w M) : MCn C nl (doM C w M ch) := by
  obtain ⟨i1, i2, i3⟩ := ch_in h
  obtain ⟨t, lt9, wk⟩ := ch
  unfold doM
  cases lt9 with
  | none => exact MCn_ac hN hX hL lb q qi.1 i1 l6 (i2 rfl).1
  | some j => exact MCn_la q i1
/-- two states are one, where all that there is is the same -/
theorem MCn_eq {M' : gMa} (q : MCn C nl M) (q' : MCn C nl M') (hc : ∀ c, c < C.2.2.1.length → M.1 c = M'.1 c) (hl : ∀ l, l < nl → M.2.1 l = M'.2.1 l) (ht : ∀ t, t < C.2.1.length → M.2.2 t = M'.2.2 t) : M = M' := by
  refine Prod.ext (funext fun c => ?_) (Prod.ext (funext fun l => ?_) (funext fun t => ?_))
  · by_cases z : c < C.2.2.1.length
    · exact hc c z
    · rw [q.1 c (by omega), q'.1 c (by omega)]
  · by_cases z : l < nl
    · exact hl l z
    · rw [q.2.1 l (by omega), q'.2.1 l (by omega)]
  · by_cases z : t < C.2.1.length
    · exact ht t z
    · rw [(q.2.2 t).1 (by omega), (q'.2.2 t).1 (by omega)]
end PCN
end
section
/-! the machine: all that a program can do, state by state -/
/-- a trying: its states with whence and by which choice; whether it is partly -/
abbrev gTy := List (gMa × Nat × Nat) × Bool
/-- a state is added, if it is new -/
noncomputable def adS (lim s i : Nat) (T : gTy) (M : gMa) : gTy := @ite gTy (∃ q ∈ T.1, q.1 = M) (Classical.propDecidable _) T (if lim ≤ T.1.length then (T.1, true) else (T.1 ++ [(M, s, i)], T.2))
/-- the first n choices of a state are tried -/
noncomputable def onS (C : gCo) (w lim s : Nat) (M : gMa) : Nat → gTy → gTy
  | 0, T => T
  | n + 1, T => if (onS C w lim s M n T).2 = true then onS C w lim s M n T else adS lim s n (onS C w lim s M n T) (doM C w M (((chM C w M)[n]?).getD (0, none, none)))
/-- the states from s on are tried -/
noncomputable def bfS (C : gCo) (w lim : Nat) : Nat → Nat → gTy → gTy
  | 0, _, T => T
  | f + 1, s, T => match T.1[s]? with
    | none => T
    | some q => bfS C w lim f (s + 1) (onS C w lim s q.1 (chM C w q.1).length T)
noncomputable def tryM (C : gCo) (w lim : Nat) : gTy := bfS C w lim 3001 0 ([(fsM C, 0, 0)], false)
section PTR
variable {C : gCo} {w lim s i n f : Nat} {T : gTy} {M : gMa}
theorem adS_old (h : ∃ q ∈ T.1, q.1 = M) : adS lim s i T M = T := if_pos h
theorem adS_full (h : ¬ ∃ q ∈ T.1, q.1 = M) (hl : lim ≤ T.1.length) : adS lim s i T M = (T.1, true) := (if_neg h).trans (if_pos hl)
theorem adS_new (h : ¬ ∃ q ∈ T.1, q.1 = M) (hl : ¬ lim ≤ T.1.length) : adS lim s i T M = (T.1 ++ [(M, s, i)], T.2) := (if_neg h).trans (if_neg hl)
theorem onS_p (h : T.2 = true) : ∀ n, onS C w lim s M n T = T := by
  intro n
  induction n with
  | zero => rfl
  | succ n ih => rw [onS, ih, if_pos h]
theorem bfS_p (h : T.2 = true) : ∀ f s, bfS C w lim f s T = T := by
  intro f
  induction f with
  | zero => intro s; rfl
  | succ f ih =>
    intro s
    rw [bfS]
    cases hs : T.1[s]? with
    | none => rfl
    | some q =>
      simp only []
      rw [onS_p h, ih]
theorem bfS_end (h : T.1[s]? = none) : bfS C w lim f s T = T := by
  cases f with
  | zero => rfl
  | succ f => rw [bfS, h]
theorem bfS_go {q : gMa × Nat × Nat} (h : T.1[s]? = some q) : bfS C w lim (f + 1) s T = bfS C w lim f (s + 1) (onS C w lim s q.1 (chM C w q.1).length T) := by
  rw [bfS, h]
end PTR
end
section
/-! the model: begin, choices, go, draw, again, with the machine's states -/
def drV (v : Int32) : Int32 := v * 1103515245 + 12345
def drI (v : Int32) (n : Nat) : Nat := ((v >>> (16 &&& 31 : Int32)) &&& 32767).toNatClampNeg % n
/-- choices drawn: the row, and how many are done -/
noncomputable def drS (C : gCo) (w : Nat) : Nat → Int32 → (Nat → Nat) → Nat → (Nat → Nat) × Nat
  | 0, _, c, n => (c, n)
  | k + 1, v, c, n => if (chM C w (runM C w c n)).length = 0 ∨ 400 ≤ n then (c, n) else drS C w k (drV v) (upf c n (drI (drV v) (chM C w (runM C w c n)).length)) (n + 1)
theorem t_rem2 {v c : Int32} (hv : 0 ≤ v.toInt) (hc : 0 < c.toInt) : (v - v / c * c).toInt = ((v.toNatClampNeg % c.toInt.toNat : Nat) : Int) := by
  have r := t_rg v
  have e1 := t_div hv hc
  have p0 : 0 ≤ v.toInt / c.toInt * c.toInt := Int.mul_nonneg (Int.ediv_nonneg hv (by omega)) (by omega)
  have p1 : v.toInt / c.toInt * c.toInt ≤ v.toInt := Int.ediv_mul_le _ (by omega)
  have e2 : (v / c * c).toInt = v.toInt / c.toInt * c.toInt := by rw [t_mul (by rw [e1]; omega) (by rw [e1]; omega), e1]
  have e3 : (v - v / c * c).toInt = v.toInt - v.toInt / c.toInt * c.toInt := by rw [t_sub (by rw [e2]; omega) (by rw [e2]; omega), e2]
  have m := Int.emod_def v.toInt c.toInt
  rw [Int.mul_comm] at m
  have a : ((v.toNatClampNeg : Nat) : Int) = v.toInt := by rw [t_cl]; omega
  have b : ((c.toInt.toNat : Nat) : Int) = c.toInt := by omega
  rw [e3, Int.natCast_emod, a, b, m]
section MFC
variable {G : mG} {d D : Nat} {x z a : gd} {F : Int32 → gd → Prop} {Fv : gd → Prop} {C : gCo} {w : Nat}
/-- a new run, or the same one further: what changes -/
abbrev rnL : List Nat := 0 :: 67 :: 68 :: dL
abbrev rnA : List Nat := dA
theorem PM_run {z' : gd} (q : MI z) (hc : ¬ z.1 0 66 = 0) (m : mi rnL rnA z z') (hh : Hist z') : PM z z' := MI_new m rfl rfl hc hh q
/-- the row below n -/
def rwE (c c' : Nat → Nat) (n : Nat) : Prop := ∀ k, k < n → c k = c' k
theorem HistC_0 {y : gd} (m : mi [0] [] z y) (h : HistC C w z) : HistC C w y := HistC_mi m rfl rfl h
theorem HistC_b (h : HistC C w z) : (0 ≤ (z.1 0 84).toInt ∧ (z.1 0 84).toInt ≤ 84) ∧ 0 ≤ (z.1 0 94).toInt ∧ (z.1 0 94).toInt ≤ 400 := by
  obtain ⟨s, n, q1, q2, q3, q4, q5, q6, q7⟩ := h
  have e84 : z.1 0 84 = (s n).1 0 84 := q4 0 84 (Or.inr (Or.inl ⟨rfl, rfl⟩))
  have av := (q2 n (Nat.le_refl _)).1
  rw [e84]
  exact ⟨⟨av.2.2.2.1, av.2.2.2.2.1⟩, by omega, q7.2.2.1⟩
end MFC
end
