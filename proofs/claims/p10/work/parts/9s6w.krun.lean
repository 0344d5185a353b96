/-! the class: its run, with the machine's states that it goes through -/
/-- the run stands behind n choices of the row c, by the way w -/
def KRun (C : gCo) (w n : Nat) (c : Nat → Nat) (x : gd) : Prop := RUN x ∧ (KMm x 120 C (runM C w c n) ∧ MIv C w (runM C w c n) ∧ kchL x 120 (chM C w (runM C w c n))) ∧ ((w = 0 ∨ w = 1) ∧ x.1 120 3 = Int32.ofNat w) ∧ (x.1 160 2).toInt = (n : Nat) ∧ ∀ k, k < n → c k < (chM C w (runM C w c k)).length ∧ (x.1 162 k).toInt = (c k : Nat)
section KRU
variable {G : kG} {q : kP} {d : Nat} {x x0 y z : gd} {F : Int32 → gd → Prop} {Fv : gd → Prop} {P : Option gv → gd → Prop} {X : String → gd → Prop} {C : gCo} {M : gMa} {w n : Nat} {c : Nat → Nat}
/-- what the machine holds, where all that it reaches stays -/
theorem KMm_ag {o : Nat} (hO : o = 120 ∨ o = 220) (hM : MM x o) (hK : CK x C) (f6 : y.1 60 6 = x.1 60 6) (f9 : y.1 60 9 = x.1 60 9) (e13 : y.1 60 13 = x.1 60 13) (ho : ∀ k, k = 7 ∨ k = 8 ∨ k = 9 → y.1 o k = x.1 o k) (hr : ∀ k, y.1 (o + 5) k = x.1 (o + 5) k) (g : KMm x o C M) : KMm y o C M :=
  KMm_fr hO hM hK f6 f9 e13 (ho 9 (by omega)) (fun j _ => hr j) (fun t k => by unfold rg pa; rw [ho 7 (by omega), ho 8 (by omega), hr]) g
theorem kchL_ag {o : Nat} {l : List gCh} (h13 : y.1 o 13 = x.1 o 13) (h : ∀ c k, (o + 11 ≤ c ∧ c ≤ o + 13) → y.1 c k = x.1 c k) (g : kchL x o l) : kchL y o l := by
  refine ⟨by rw [h13]; exact g.1, fun i ch hi => ?_⟩
  unfold kch
  rw [h (o + 11) i (by omega), h (o + 12) i (by omega), h (o + 13) i (by omega)]
  exact g.2 i ch hi
theorem kj_clear3 (hq : kV q) (h : ∀ y, JN y → fm (fun c k => (c = 160 ∧ 2 ≤ k ∧ k ≤ 4) ∨ (174 ≤ c ∧ c ≤ 178)) x y → y.1 160 2 = 0 → Fv y) : KT G q (d + 1) zk_X4_clear 0 [(0, vr 160)] [] x (rv Fv) := by
  refine kg_X4_clear_0 hq (fun x1 e1 x2 e2 x3 e3 x4 e4 x5 e5 x6 e6 x7 e7 z ez => rv_i (h z ?_ ?_ ?_))
  · have z2 : z.1 160 2 = 0 := by rw [ez, e7, e6, e5, e4, e3, e2, e1]; (simp only [si_get, sfl_get, Nat.reduceEqDiff, eq_self, and_false, false_and, and_true, true_and, if_true, if_false, reduceIte, reduceCtorEq])
    have z3 : z.1 160 3 = 0 := by rw [ez, e7, e6, e5, e4, e3, e2, e1]; (simp only [si_get, sfl_get, Nat.reduceEqDiff, eq_self, and_false, false_and, and_true, true_and, if_true, if_false, reduceIte, reduceCtorEq])
    have k0 : (0 : Int32).toInt = 0 := rfl
    unfold JN
    rw [z2, z3, k0]
    refine ⟨by omega, fun a ha => by omega, fun t ht => Or.inl ?_⟩
    rw [ez, e7, e6, e5, sfl_get, if_neg (by omega), sfl_get, if_neg (by omega), sfl_get, if_neg (by omega), sfl_get, if_neg (by omega), e4, sfl_get, if_pos ⟨rfl, ht⟩]
  · rw [ez, e7, e6, e5, e4, e3, e2, e1]
    exact fm_fl (fm_fl (fm_fl (fm_fl (fm_fl (fm_si (fm_si (fm_si (fm_rf _ _) (by omega)) (by omega)) (by omega)) (fun k _ => by omega)) (fun k _ => by omega)) (fun k _ => by omega)) (fun k _ => by omega)) (fun k _ => by omega)
  · rw [ez, e7, e6, e5, e4, e3, e2, e1]; (simp only [si_get, sfl_get, Nat.reduceEqDiff, eq_self, and_false, false_and, and_true, true_and, if_true, if_false, reduceIte, reduceCtorEq])
theorem kj_note3 (hq : kV q) (hJ : JN x) (hC : CO x) (hD : DE x 120) (h400 : (x.1 160 2).toInt < 400) (i : Int32) (h : ∀ y, JN y → fm (fun c k => 160 ≤ c ∧ c < 180) x y → (y.1 160 2).toInt = (x.1 160 2).toInt + 1 → (∀ k, y.1 162 k = if k = (x.1 160 2).toInt.toNat then i else x.1 162 k) → Fv y) : KT G q (d + 4) zk_X4_note 0 [(0, vr 160), (1, vi i), (2, vr 140)] [] x (rv Fv) := by
  have k400 : (400 : Int32).toInt = 400 := rfl
  have k1 : (1 : Int32).toInt = 1 := rfl
  have k0 : (0 : Int32).toInt = 0 := rfl
  obtain ⟨⟨b1, b2, b3⟩, hA, hT⟩ := id hJ
  obtain ⟨⟨c1, c2, c3, -⟩, -⟩ := hC
  refine kg_X4_note_0 hq _ ⟨fun c => ?_, fun c => absurd (t_lt.mpr (by rw [k400]; exact h400)) c⟩
  rw [t_lt, k400] at c
  refine ⟨by rw [vp_in_iff]; omega, fun x3 e3 x4 e4 => ?_⟩
  have q3 : x3.1 160 2 = x.1 160 2 := by rw [e3]; (simp only [si_get, sfl_get, Nat.reduceEqDiff, eq_self, and_false, false_and, and_true, true_and, if_true, if_false, reduceIte, reduceCtorEq])
  have f4 : fm (fun c k => c = 162 ∨ (c = 160 ∧ k = 2)) x x4 := by rw [e4, e3]; exact fm_si (fm_si (fm_rf _ _) (Or.inl rfl)) (Or.inr ⟨rfl, rfl⟩)
  have d4 : (x4.1 160 2).toInt = (x.1 160 2).toInt + 1 := by
    have : x4.1 160 2 = x.1 160 2 + 1 := by rw [e4, q3]; (simp only [si_get, sfl_get, Nat.reduceEqDiff, eq_self, and_false, false_and, and_true, true_and, if_true, if_false, reduceIte, reduceCtorEq])
    rw [this, t_add (by rw [k1]; omega) (by rw [k1]; omega), k1]
  have a4 : x4.1 160 3 = x.1 160 3 := f4 _ _ (by omega)
  have c4 : ∀ k, x4.1 162 k = if k = (x.1 160 2).toInt.toNat then i else x.1 162 k := fun k => by
    rw [e4, si_cell (by decide), e3, si_get]
    by_cases ck : k = (x.1 160 2).toInt.toNat
    · rw [if_pos ⟨rfl, ck⟩, if_pos ck]
    · rw [if_neg (fun z => ck z.2), if_neg ck]
  have hJ4 : JN x4 := by
    unfold JN
    rw [d4, a4]
    refine ⟨by omega, fun a ha => JA_eq (fun c k hc => f4 c k (by omega)) (hA a ha), fun t ht => ?_⟩
    rw [f4 174 t (by omega)]; exact hT t ht
  refine ⟨fun cn => ?_, fun _ => rv_i (h x4 hJ4 (fm_w f4 (fun c k q => by omega)) d4 c4)⟩
  intro x6 e6
  have va : vp_in (x4.1 160 3) 400 := by rw [a4, vp_in_iff]; omega
  have eN : (x4.1 160 3).toNatClampNeg = (x.1 160 3).toInt.toNat := by rw [a4]; rfl
  refine ⟨va, fun x8 e8 => ⟨va, fun x10 e10 => ⟨va, fun x12 e12 => ⟨va, fun x14 e14 => ⟨va, fun x16 e16 => ⟨va, fun x18 e18 => ?_⟩⟩⟩⟩⟩⟩
  rw [eN] at e8 e10 e12 e14 e16 e18
  have f18 : fm (fun c k => c = 162 ∨ (c = 160 ∧ (k = 2 ∨ k = 3)) ∨ (166 ≤ c ∧ c ≤ 171 ∧ k = (x.1 160 3).toInt.toNat)) x x18 := by
    rw [e18, e16, e14, e12, e10, e8, e6]
    exact fm_si (fm_si (fm_si (fm_si (fm_si (fm_si (fm_si (fm_w f4 (fun c k q => by omega)) (by omega)) (by omega)) (by omega)) (by omega)) (by omega)) (by omega)) (by omega)
  have de : ∀ k, x18.1 140 k = x.1 140 k := fun k => f18 _ _ (by omega)
  have d6 : ∀ k, x6.1 140 k = x.1 140 k := fun k => by rw [e6, si_cell (by decide), f4 _ _ (by omega)]
  have d8 : ∀ k, x8.1 140 k = x.1 140 k := fun k => by rw [e8, si_cell (by decide)]; exact d6 k
  have d10 : ∀ k, x10.1 140 k = x.1 140 k := fun k => by rw [e10, si_cell (by decide)]; exact d8 k
  have d12 : ∀ k, x12.1 140 k = x.1 140 k := fun k => by rw [e12, si_cell (by decide)]; exact d10 k
  have d14 : ∀ k, x14.1 140 k = x.1 140 k := fun k => by rw [e14, si_cell (by decide)]; exact d12 k
  have d16 : ∀ k, x16.1 140 k = x.1 140 k := fun k => by rw [e16, si_cell (by decide)]; exact d14 k
  rw [d6] at e8
  rw [d8] at e10
  rw [d10] at e12
  rw [d16, nar_b hD.1] at e18
  have s3 : (x18.1 160 3).toInt = (x.1 160 3).toInt + 1 := by
    have : x18.1 160 3 = x.1 160 3 + 1 := by rw [e18, e16, e14, e12, e10, e8, e6, a4]; (simp only [si_get, sfl_get, Nat.reduceEqDiff, eq_self, and_false, false_and, and_true, true_and, if_true, if_false, reduceIte, reduceCtorEq])
    rw [this, t_add (by rw [k1]; omega) (by rw [k1]; omega), k1]
  have s2 : (x18.1 160 2).toInt = (x.1 160 2).toInt + 1 := by
    have : x18.1 160 2 = x4.1 160 2 := by rw [e18, e16, e14, e12, e10, e8, e6]; (simp only [si_get, sfl_get, Nat.reduceEqDiff, eq_self, and_false, false_and, and_true, true_and, if_true, if_false, reduceIte, reduceCtorEq])
    rw [this]; exact d4
  have g6 : x18.1 166 (x.1 160 3).toInt.toNat = x.1 140 0 := by rw [e18, e16, e14, e12, e10, e8]; (simp only [si_get, sfl_get, Nat.reduceEqDiff, eq_self, and_false, false_and, and_true, true_and, if_true, if_false, reduceIte, reduceCtorEq])
  have g7 : x18.1 167 (x.1 160 3).toInt.toNat = x.1 140 1 := by rw [e18, e16, e14, e12, e10]; (simp only [si_get, sfl_get, Nat.reduceEqDiff, eq_self, and_false, false_and, and_true, true_and, if_true, if_false, reduceIte, reduceCtorEq])
  have g8 : x18.1 168 (x.1 160 3).toInt.toNat = x.1 140 2 := by rw [e18, e16, e14, e12]; (simp only [si_get, sfl_get, Nat.reduceEqDiff, eq_self, and_false, false_and, and_true, true_and, if_true, if_false, reduceIte, reduceCtorEq])
  have g11 : x18.1 171 (x.1 160 3).toInt.toNat = x.1 140 5 := by rw [e18]; (simp only [si_get, sfl_get, Nat.reduceEqDiff, eq_self, and_false, false_and, and_true, true_and, if_true, if_false, reduceIte, reduceCtorEq])
  have hde : (0 ≤ (x.1 140 0).toInt ∧ (x.1 140 0).toInt < (x.1 60 10).toInt) ∧ 0 ≤ (x.1 140 1).toInt ∧ (x.1 140 5 = 0 → ((x.1 140 1).toInt ≤ 4 → 0 ≤ (x.1 140 2).toInt ∧ (x.1 140 2).toInt < (x.1 60 6).toInt) ∧ ((5 ≤ (x.1 140 1).toInt ∧ (x.1 140 1).toInt ≤ 8) ∨ (x.1 140 1).toInt = 15 → 0 ≤ (x.1 140 2).toInt ∧ (x.1 140 2).toInt < (x.1 60 9).toInt) ∧ ((x.1 140 1).toInt = 9 ∨ (x.1 140 1).toInt = 10 → 0 ≤ (x.1 140 2).toInt ∧ (x.1 140 2).toInt < (x.1 60 10).toInt)) := by
    rcases hD.2 with e | e
    · rw [f4 140 0 (by omega)] at cn; exact absurd e cn
    · exact e
  have hJ18 : JN x18 := by
    unfold JN
    rw [s3, s2]
    refine ⟨by omega, fun a ha => ?_, fun t ht => ?_⟩
    · by_cases h9 : a = (x.1 160 3).toInt.toNat
      · rw [h9]
        unfold JA
        rw [g6, g7, g8, g11]
        obtain ⟨p1, p2, p3⟩ := hde
        refine ⟨by omega, p2, fun c5 => ?_⟩
        obtain ⟨r1, r2, r3⟩ := p3 c5
        exact ⟨fun z => by have := r1 z; omega, fun z => by have := r2 z; omega, fun z => by have := r3 z; omega⟩
      · have := hA a (by omega)
        unfold JA at this ⊢
        rw [f18 166 a (by omega), f18 167 a (by omega), f18 168 a (by omega), f18 171 a (by omega)]; exact this
    · rw [f18 174 t (by omega)]
      rcases hT t ht with e | e
      · exact Or.inl e
      · exact Or.inr ⟨e.1, by omega⟩
  have ea : (x4.1 160 3).toInt = (((x.1 160 3).toInt.toNat : Nat) : Int) := by rw [a4]; omega
  have n18 : x18.1 160 2 = x4.1 160 2 ∧ ∀ k, x18.1 162 k = x4.1 162 k := ⟨by rw [e18, e16, e14, e12, e10, e8, e6]; (simp only [si_get, sfl_get, Nat.reduceEqDiff, eq_self, and_false, false_and, and_true, true_and, if_true, if_false, reduceIte, reduceCtorEq]), fun k => by rw [e18, si_cell (by decide), e16, si_cell (by decide), e14, si_cell (by decide), e12, si_cell (by decide), e10, si_cell (by decide), e8, si_cell (by decide), e6, si_cell (by decide)]⟩
  have p183 : ∀ (y : gd) (s : Int32), JN y → fm (fun c k => 160 ≤ c ∧ c < 180) x y → (y.1 160 3).toInt = (x.1 160 3).toInt + 1 → (y.1 160 2 = x4.1 160 2 ∧ ∀ k, y.1 162 k = x4.1 162 k) → KT G q (d + 4) zk_X4_note 183 [(0, vr 160), (3, vi (x4.1 160 3))] [vi s, vi (x4.1 160 3), vr 172] y (rv Fv) := by
    intro y s hy fy y3 hn
    exact kg_X4_note_183 hq _ _ _ (kj_racesOf hq hy _ ea (by omega) (fun r => ⟨va, fun z ez => rv_i (h z (JN_ck (by rw [ez]; exact fm_si (fm_rf _ _) (Or.inl rfl)) hy) (by rw [ez]; exact fm_si fy (by omega)) (by rw [ez, si_cell (by decide), hn.1]; exact d4) (fun k => by rw [ez, si_cell (by decide), hn.2]; exact c4 k))⟩))
  have p162 : ∀ y, JN y → fm (fun c k => 160 ≤ c ∧ c < 180) x y → (y.1 160 3).toInt = (x.1 160 3).toInt + 1 → (y.1 160 2 = x4.1 160 2 ∧ ∀ k, y.1 162 k = x4.1 162 k) → KT G q (d + 4) zk_X4_note 162 [(0, vr 160), (3, vi (x4.1 160 3))] [] y (rv Fv) := by
    intro y hy fy y3 hn
    refine kg_X4_note_162 hq _ ⟨fun c9 => ⟨?_, p183 y _ hy fy y3 hn⟩, fun _ => p183 y _ hy fy y3 hn⟩
    rw [t_eq, k0, a4] at c9
    rw [a4, vp_in_iff, t_sub (by rw [k1]; omega) (by rw [k1]; omega), k1]; omega
  have p141 : ∀ y, JN y → fm (fun c k => c = 160 ∧ k = 4) x18 y → KT G q (d + 4) zk_X4_note 141 [(0, vr 160), (2, vr 140), (3, vi (x4.1 160 3))] [] y (rv Fv) := by
    intro y hy fy
    have fxy : fm (fun c k => 160 ≤ c ∧ c < 180) x y := fm_tr (fm_w f18 (fun c k q => by omega)) (fm_w fy (fun c k q => by omega))
    have y3 : (y.1 160 3).toInt = (x.1 160 3).toInt + 1 := by rw [fy 160 3 (by omega)]; exact s3
    refine kg_X4_note_141 hq _ (kj_setClock hq hy _ ea (by omega) (fun z hz fz => ?_))
    have hn : z.1 160 2 = x4.1 160 2 ∧ ∀ k, z.1 162 k = x4.1 162 k := ⟨by rw [fz 160 2 (by omega), fy 160 2 (by omega)]; exact n18.1, fun k => by rw [fz 162 k (by omega), fy 162 k (by omega)]; exact n18.2 k⟩
    have z3 : (z.1 160 3).toInt = (x.1 160 3).toInt + 1 := by rw [fz 160 3 (by omega)]; exact y3
    have fxz := fm_tr fxy (fm_w fz (fun c k q => by show 160 ≤ c ∧ c < 180; omega))
    refine ⟨fun _ => p162 z hz fxz z3 hn, fun c5 => kj_handOn hq hz _ _ ea (by omega) ?_ (fun w fw => p162 w (JN_ck fw hz) (fm_tr fxz (fm_w fw (fun c k q => by unfold sCk at q; omega))) (by rw [fw 160 3 (by unfold sCk; omega)]; exact z3) ⟨by rw [fw 160 2 (by unfold sCk; omega)]; exact hn.1, fun k => by rw [fw 162 k (by unfold sCk; omega)]; exact hn.2 k⟩)⟩
    rw [fz 171 _ (by omega), fy 171 _ (by omega), g11]
    rw [fz 140 5 (by omega), fy 140 5 (by omega), de] at c5
    exact c5
  refine ⟨fun _ => p141 x18 hJ18 (fm_rf _ _), fun _ => ⟨fun _ => p141 x18 hJ18 (fm_rf _ _), fun _ x21 e21 => p141 x21 ?_ (by rw [e21]; exact fm_si (fm_rf _ _) ⟨rfl, rfl⟩)⟩⟩
  have f21 : fm (fun c k => c = 160 ∧ k = 4) x18 x21 := by rw [e21]; exact fm_si (fm_rf _ _) ⟨rfl, rfl⟩
  unfold JN at hJ18 ⊢
  rw [f21 160 3 (by omega), f21 160 2 (by omega)]
  refine ⟨hJ18.1, fun a ha => JA_eq (fun c k hc => f21 c k (by omega)) (hJ18.2.1 a ha), fun t ht => ?_⟩
  rw [f21 174 t (by omega)]; exact hJ18.2.2 t ht
theorem kh_beginRun (hq : kV q) (hC : CO x) (hK : CK x C) (gc : GC C) (w01 : w = 0 ∨ w = 1) (c : Nat → Nat) (h : ∀ y, fm sRn x y → KRun C w 0 c y → (∀ k, y.1 162 k = x.1 162 k) → y.1 0 10 = 1 → Fv y) : KT G q (d + 6) zk_X11_beginRun 0 [(0, vr 0), (1, vi (Int32.ofNat w))] [] x (rv Fv) := by
  have hm : kiM q 120 := Or.inl rfl
  have hw : Int32.ofNat w = 0 ∨ Int32.ofNat w = 1 := by
    rcases w01 with e | e <;> rw [e]
    · exact Or.inl rfl
    · exact Or.inr rfl
  refine kg_X11_beginRun_0 hq _ (kh_reset hq hm hC hK gc.1 _ hw (fun x1 hM f1 h3 g1 => ?_))
  have hK1 : CK x1 C := CK_f hK (fun c k hc => f1 c k (by unfold sRe; omega))
  refine kh_listChoices hq hm hM hK1 gc.1 g1 WLk_fs h3 w01 (fun x2 f2 hL hch => kj_clear3 hq (fun x3 hJ f3 z2 x4 e4 => rv_i ?_))
  have hM2 := MM_Li (Or.inl rfl) f2 hM
  have g : ∀ c k, c < 160 → ¬ (c = 0) → x4.1 c k = x2.1 c k := fun c k a b => by rw [e4, si_get, if_neg (by omega)]; exact f3 c k (by omega)
  have hc : agC x2 x4 := fun c k hc => g c k (by omega) (by omega)
  have fA : fm sRn x x4 := by
    refine fm_tr (fm_tr (fm_tr (fm_w f1 (fun c k q => by unfold sRe at q; unfold sRn; omega)) (fm_w f2 (fun c k q => by unfold sLi at q; unfold sRn; omega))) (fm_w f3 (fun c k q => by unfold sRn; omega))) ?_
    rw [e4]; exact fm_si (fm_rf _ _) (by unfold sRn; omega)
  refine h x4 fA ⟨⟨MM_ag hc (fun k a b => g _ _ (by omega) (by omega)) (fun k hk => g _ _ (by omega) (by omega)) hM2, LSk_ag hM2 hc (fun k a b => g _ _ (by omega) (by omega)) (fun k hk => g _ _ (by omega) (by omega)) (g _ _ (by omega) (by omega)) (fun k => g _ _ (by omega) (by omega)) (fun k => g _ _ (by omega) (by omega)) hL, ?_⟩, ⟨?_, MIv_fs, ?_⟩, ⟨w01, ?_⟩, ?_, fun k hk => absurd hk (Nat.not_lt_zero _)⟩ (fun k => ?_) (by rw [e4, si_get, if_pos ⟨rfl, rfl⟩])
  · refine JN_o (fun c k a b => ?_) hJ
    rw [e4, si_get, if_neg (by omega)]
  · exact KMm_ag (Or.inl rfl) hM2 (CK_Li (Or.inl rfl) hK1 f2) (g _ _ (by omega) (by omega)) (g _ _ (by omega) (by omega)) (g _ _ (by omega) (by omega)) (fun k hk => g _ _ (by omega) (by omega)) (fun k => g _ _ (by omega) (by omega)) (KMm_Li (Or.inl rfl) hM hK1 f2 g1)
  · exact kchL_ag (g _ _ (by omega) (by omega)) (fun c k hc => g c k (by omega) (by omega)) hch
  · rw [g _ _ (by omega) (by omega), f2 _ _ (by unfold sLi; omega)]; exact h3
  · rw [e4, si_get, if_neg (by omega), z2]; rfl
  · rw [e4, si_get, if_neg (by omega), f3 _ _ (by omega), f2 _ _ (by unfold sLi; omega), f1 _ _ (by unfold sRe; omega)]
/-- a choice is done -/
theorem kh_doChoice (hq : kV q) (hK : CK x C) (gc : GC C) (hX3 : NX3 C) (hR : KRun C w n c x) (i : Int32) {I : Nat} (ei : i.toInt = (I : Nat)) (hi : I < (chM C w (runM C w c n)).length) (n400 : n < 400) (eI : c n = I) (h : ∀ y, fm sRn x y → KRun C w (n + 1) c y → (∀ k, ¬ k = n → y.1 162 k = x.1 162 k) → y.1 0 10 = x.1 0 10 → Fv y) : KT G q (d + 6) zk_X11_doChoice 0 [(0, vr 0), (1, vi i)] [] x (rv Fv) := by
  have hm : kiM q 120 := Or.inl rfl
  have k0 : (0 : Int32).toInt = 0 := rfl
  have k400 : (400 : Int32).toInt = 400 := rfl
  obtain ⟨⟨hM, hL, hJ⟩, ⟨gM, hI, hch⟩, ⟨w01, wy⟩, hn, hcs⟩ := hR
  obtain ⟨hN, hX, l6⟩ := gc
  have e13 : (x.1 120 13).toInt = ((chM C w (runM C w c n)).length : Nat) := hch.1
  obtain ⟨ch, hci⟩ : ∃ ch, (chM C w (runM C w c n))[I]? = some ch := ⟨_, List.getElem?_eq_getElem hi⟩
  have cm := List.mem_of_getElem? hci
  have l84 := hL.1.2
  refine kg_X11_doChoice_0 hq i ⟨fun cc => ?_, fun c0 => ⟨fun cc => ?_, fun c1 => ⟨fun _ => ?_, fun cc => ?_⟩⟩⟩
  · exfalso; rw [t_lt, k0] at cc; omega
  · exfalso; rw [t_le] at cc; omega
  · refine kh_perform hq hm hM hK hN hX hX3 gM (WMw_WM hI.1) wy w01 i ei (by omega) (hch.2 I ch hci) (ch_in cm) (fun x4 hM4 f4 hD4 g4 => ?_)
    have hK4 := CK_M (Or.inl rfl) hK f4
    have hJ4 : JN x4 := JN_o (fun c k a b => f4 c k (by unfold sMk; omega)) hJ
    have n4 : x4.1 160 2 = x.1 160 2 := f4 _ _ (by unfold sMk; omega)
    refine kj_note3 hq hJ4 hM4.1 hD4 (by rw [n4, hn]; omega) i (fun x5 hJ5 f5 d5 c5 => ?_)
    rw [n4, hn] at d5
    rw [n4, hn] at c5
    have hc5 : agC x4 x5 := fun c k hc => f5 c k (by omega)
    have hM5 : MM x5 120 := MM_ag hc5 (fun k a b => f5 _ _ (by omega)) (fun k hk => f5 _ _ (by omega)) hM4
    have hK5 : CK x5 C := CK_f hK4 (fun c k hc => f5 c k (by omega))
    have g5 : KMm x5 120 C (doM C w (runM C w c n) ch) := KMm_ag (Or.inl rfl) hM4 hK4 (f5 _ _ (by omega)) (f5 _ _ (by omega)) (f5 _ _ (by omega)) (fun k hk => f5 _ _ (by omega)) (fun k => f5 _ _ (by omega)) g4
    have hI' := MIv_do hX l6 hI cm
    have rE : runM C w c (n + 1) = doM C w (runM C w c n) ch := runM_s (by rw [eI]; exact hci)
    have w5 : x5.1 120 3 = Int32.ofNat w := by rw [f5 _ _ (by omega), f4 _ _ (by unfold sMk; omega)]; exact wy
    refine kh_listChoices hq hm hM5 hK5 hN g5 hI'.2 w5 w01 (fun x6 f6 hL6 hch6 => rv_i (h x6 ?_ ⟨⟨MM_Li (Or.inl rfl) f6 hM5, hL6, JN_o (fun c k a b => f6 c k (by unfold sLi; omega)) hJ5⟩, ⟨?_, ?_, ?_⟩, ⟨w01, ?_⟩, ?_, fun k hk => ?_⟩ (fun k hk => ?_) (by rw [f6 _ _ (by unfold sLi; omega), f5 _ _ (by omega), f4 _ _ (by unfold sMk; omega)])))
    · exact fm_tr (fm_tr (fm_w f4 (fun c k q => by unfold sMk at q; unfold sRn; omega)) (fm_w f5 (fun c k q => by unfold sRn; omega))) (fm_w f6 (fun c k q => by unfold sLi at q; unfold sRn; omega))
    · rw [rE]; exact KMm_Li (Or.inl rfl) hM5 hK5 f6 g5
    · rw [rE]; exact hI'
    · rw [rE]; exact hch6
    · rw [f6 _ _ (by unfold sLi; omega)]; exact w5
    · rw [f6 _ _ (by unfold sLi; omega), d5]; push_cast; rfl
    · have e6 : x6.1 162 k = if k = n then i else x.1 162 k := by
        rw [f6 _ _ (by unfold sLi; omega), c5 k, f4 _ _ (by unfold sMk; omega)]
        rfl
      rw [e6]
      by_cases ck : k = n
      · rw [if_pos ck, ck, eI]; exact ⟨hi, ei⟩
      · rw [if_neg ck]; exact hcs k (by omega)
    · rw [f6 _ _ (by unfold sLi; omega), c5 k, f4 _ _ (by unfold sMk; omega)]
      show (if k = n then i else x.1 162 k) = _
      rw [if_neg hk]
  · exfalso; exact cc (t_lt.mpr (by rw [k400, hn]; omega))
end KRU
