/-! the model: an act done is what the machine does -/
/-- what holds of every state of the machine -/
def WM (M : gMa) : Prop := ∀ t, t < 6 → (¬ (M.2.2 t).1 = 3 → (M.2.2 t).2.1 = 0) ∧ ((M.2.2 t).2.2.2.1 = 0 → (M.2.2 t).2.2.2.2.1 = 0) ∧ (¬ (M.2.2 t).1 = 1 → (M.2.2 t).2.2.2.1 = 0)
section DAD
variable {d : Nat} {S : gS} {x y z : gd} {F : Int32 → gd → gS → Prop} {Fv : gd → gS → Prop} {C : gCo} {M : gMa}
theorem mTq_md {L A : List Nat} {t : Nat} {h : gTq} (m : md L A x y) (hA : [73, 74, 75, 76, 77, 78, 79, 80, 81, 82].all (fun k => !A.elem k) = true) (q : mTq x C t h) : mTq y C t h := by
  have f : ∀ k ∈ [73, 74, 75, 76, 77, 78, 79, 80, 81, 82], y.1 k = x.1 k := fun k hk => m.2.1 k (fun e => by rw [e] at hk; exact absurd hk (by decide)) (all_no hA k hk)
  unfold mTq mLt mLv at q ⊢
  rw [f 73 (by decide), f 74 (by decide), f 75 (by decide), f 76 (by decide), f 77 (by decide), f 78 (by decide), f 79 (by decide), f 80 (by decide), f 81 (by decide), f 82 (by decide)]
  exact q
theorem MMc_C {c : Nat} {v : Int32} (h : MMc x M) (e0 : ∀ j, z.1 70 j = if j = c then v else x.1 70 j) (e1 : z.1 71 = x.1 71) (e2 : z.1 72 = x.1 72) : MMc z (upC M c v) := by
  refine ⟨fun j hj => ?_, fun l hl => ?_⟩
  · rw [e0 j]
    show _ = upf M.1 c v j
    unfold upf
    by_cases q : j = c
    · rw [if_pos q, if_pos q]
    · rw [if_neg q, if_neg q]; exact h.1 j hj
  · rw [e1, e2]; exact h.2 l hl
theorem MMc_L {c n : Nat} {a b : Int32} (h : MMc x M) (e0 : z.1 70 = x.1 70) (e1 : ∀ j, z.1 71 j = if j = c then a else x.1 71 j) (e2 : ∀ j, z.1 72 j = if j = c then b else x.1 72 j) (ha : a = Int32.ofNat n - 1) (hn : n ≤ 6) : MMc z (upL M c (n, b)) := by
  refine ⟨fun j hj => by rw [e0]; exact h.1 j hj, fun l hl => ?_⟩
  rw [e1 l, e2 l]
  show _ = Int32.ofNat (upf M.2.1 c (n, b) l).1 - 1 ∧ (upf M.2.1 c (n, b) l).1 ≤ 6 ∧ _ = (upf M.2.1 c (n, b) l).2
  unfold upf
  by_cases q : l = c
  · rw [if_pos q, if_pos q, if_pos q]; exact ⟨ha, hn, rfl⟩
  · rw [if_neg q, if_neg q, if_neg q]; exact h.2 l hl
theorem si_at {c n c' : Nat} {v : Int32} (h : c' = c) (j : Nat) : (si x c n v).1 c' j = if j = n then v else x.1 c' j := by
  rw [si_get]
  by_cases q : j = n
  · rw [if_pos ⟨h, q⟩, if_pos q]
  · rw [if_neg (fun z => q z.2), if_neg q]
/-- an act that fails -/
theorem ds_actF (t n : Int32) (ht : vp_in t 6) {T k : Nat} (eT : T = t.toNatClampNeg) (ri : RI y S) (hK : MK y C) (hN : NC C) (hM : MM1 y C M) (hW : WM M) (h1 : y.1 73 T = 1) (w0 : (M.2.2 T).2.2.2.1 = 0) (en : n = Int32.ofNat k) (h : ∀ x' S', RI x' S' → ssub S S' → md hL hA y x' → MM1 x' C (upT M T (thF (M.2.2 T) k)) → Fv x' S') : MD (d + 1) z_failThread 0 [(0, vr 0), (1, vi t), (2, vi n)] [] S y (Dv (fun z S1 => MD (d + 1) z_clean 0 [(0, vr 0), (1, vi t)] [] S1 z (Dv Fv))) := by
  have T6 : T < 6 := by rw [eT]; exact vt ht
  obtain ⟨a1, a2, a3, a4, a5, a6, a7, a8, a9, b1, b2⟩ := hM.2.2 T T6
  have kk := (ri.2 T T6).1
  have l52 : (y.1 0 52).toInt = C.1.length := hK.1.1
  have sta1 : (M.2.2 T).1 = 1 := by
    have : Int32.ofNat (M.2.2 T).1 = 1 := by rw [← a1]; exact h1
    rcases (show (M.2.2 T).1 = 0 ∨ (M.2.2 T).1 = 1 ∨ (M.2.2 T).1 = 2 ∨ (M.2.2 T).1 = 3 by omega) with e | e | e | e <;> rw [e] at this ⊢ <;> first | rfl | exact absurd this (by decide)
  obtain ⟨st, hst⟩ : ∃ st, C.1[(M.2.2 T).2.2.1]? = some st := ⟨_, List.getElem?_eq_getElem (by have := (kk.2.2 h1).1; omega)⟩
  have es := stN_is hst
  obtain ⟨-, -, -, -, -, -, -, -, g62⟩ := hK.1.2 _ st hst
  have cK : (y.1 74 T).toNatClampNeg = (M.2.2 T).2.2.1 := by rw [t_cl, a4]; rfl
  refine ds_fail3 t n ht (fun z tz e3 e4 e7 e5 e8 e6 => ?_)
  rw [← eT] at tz e3 e4 e7 e5 e8
  have z62 : z.1 62 = y.1 62 := tz.1.2.1 62 (by decide) (by decide)
  refine ds_clean3 t ht (by rw [← eT, e4]; exact ⟨kk.1, kk.2.1⟩) (sl := st.2.1) (fun k hk => kn_8 hN (M.2.2 T).2.2.1 k (by rw [es]; exact hk)) (fun _ => by rw [← eT, e4, cK, z62]; exact g62) (fun u tu f73 f75 f77 f78 f74 _ f76 => h u S ⟨CP_th (th3_th tu) (CP_th (th3_th tz) ri.1), fun t' ht' => ?_⟩ (ssub_rf _) (md_tr tz.1 tu.1 rfl rfl) ⟨(MMc_th (MMc_th (M := M) ⟨hM.1, hM.2.1⟩ tz) tu).1, (MMc_th (MMc_th (M := M) ⟨hM.1, hM.2.1⟩ tz) tu).2, fun t' ht' => ?_⟩)
  · rw [← eT] at tu f74
    have g74 := f74 (by rw [e3]; decide)
    by_cases q : t' = T
    · rw [q]
      refine ⟨⟨by rw [g74, e4]; exact kk.1, by rw [g74, e4]; exact kk.2.1, fun z9 => by rw [f73, e3] at z9; exact absurd z9 (by decide)⟩, Or.inl (by rw [f77]; exact e7), rl_th (th3_th tu) (ssub_rf _) (rl_th (th3_th tz) (ssub_rf _) (ri.2 T T6).2.2)⟩
    · exact rT_th (th3_th tu) (ssub_rf _) q (rT_th (th3_th tz) (ssub_rf _) q (ri.2 t' ht'))
  · rw [← eT] at tu f74 f76
    have g74 := f74 (by rw [e3]; decide)
    show mTq u C t' (upf M.2.2 T _ t')
    by_cases q : t' = T
    · rw [q, upf_eq]
      have f := fun q (h0 : q ≠ 0) hq => (tu.1.2.1 q h0 hq).trans (tz.1.2.1 q h0 hq)
      refine ⟨by rw [f73, e3]; rfl, Nat.le_refl _, by rw [f75, e5, en]; rfl, by rw [g74, e4]; exact a4, ?_, a6, ?_, by rw [f 79 (by decide) (by decide)]; exact a8, mLt_eq a9 (f 80 (by decide) (by decide)) (f 81 (by decide) (by decide)) (f 82 (by decide) (by decide)), fun _ p hp => ?_, fun k' hk' c9 => ?_⟩
      · show u.1 77 T = Int32.ofNat (M.2.2 T).2.2.2.1
        rw [f77, e7, w0]; rfl
      · show u.1 78 T = (M.2.2 T).2.2.2.2.1
        rw [f78, e8, (hW T T6).2.1 w0]
      · have hp : p < (stN C (M.2.2 T).2.2.1).2.1.length := hp
        show u.1 76 (8 * T + slN (stN C (M.2.2 T).2.2.1).2.1 p) = (M.2.2 T).2.2.2.2.2.2.2 p
        have hm := slN_mem hp
        rw [f76 _ (kn_8 hN _ _ hm), if_pos ⟨Or.inr e3, by rw [← es]; exact hm⟩, e6]
        exact b1 (Or.inl sta1) p hp
      · have c9 : ¬ ((3 = 1 ∨ 3 = 3) ∧ k' ∈ (stN C (M.2.2 T).2.2.1).2.1) := c9
        rw [f76 k' hk', if_neg (fun z9 => c9 ⟨Or.inr rfl, by rw [es]; exact z9.2⟩)]
    · rw [upf_ne q]
      exact mTq_th hN tu q (mTq_th hN tz q (hM.2.2 t' ht'))
end DAD
