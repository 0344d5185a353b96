/-! the class: the name before = -/
section KTG
variable {G : kG} {q : kP} {d : Nat} {x x0 y z xs : gd} {F : Int32 → gd → Prop} {Fv : gd → Prop} {X : String → gd → Prop} {P : Option gv → gd → Prop} {M : Int} {E : Nat → Prop} {K V : Nat → Int32} {sN : Nat → Nat → Bool} {e : Nat} {Ev : gV} {Ml N : gU}
theorem kd_setTarget (hq : kV q) (hx : ¬ ((K (nn x) = 1 ∧ nn x < 700) ∧ K (nn x + 1) = 50 ∧ nn x + 1 < 700) → RX x0 X) (hA : KA K V sN e x) (hn : nn x ≤ e) (hE : KV' K e x Ev) (hB : BB x0 x M E) (hM : (x.1 100 9).toInt ≤ M) (h : ∀ t y, BB x0 y M E → nx y = nx x + 2 → om y = om x → ssm y = ssm x → vp_in t 702 → ((y.1 43 t.toNatClampNeg = -1 ∧ PLc y t) ∨ (¬ y.1 43 t.toNatClampNeg = -1 ∧ 0 ≤ (y.1 43 t.toNatClampNeg).toInt ∧ (y.1 43 t.toNatClampNeg).toInt < M)) → y.1 60 13 = x.1 60 13 → t = x.1 100 4 → ((K (nn x) = 1 ∧ nn x < 700) ∧ K (nn x + 1) = 50 ∧ nn x + 1 < 700) → nn y = nn x + 2 → La x y → KA K V sN e y → nn y ≤ e → KV' K e y Ev → y.1 42 (nn x + 1) = 0 → ((y.1 43 (nn x) = -1 ∧ kfi sN Ev.1 (nn x) = none ∧ y.1 42 (nn x) = 6) ∨ (¬ y.1 43 (nn x) = -1 ∧ ¬ kfi sN Ev.1 (nn x) = none ∧ y.1 42 (nn x) = 0)) → OPe x y → TGc sN Ev (some (nn x)) (y.1 43 (nn x)) t → (∀ c k, ccS c k → y.1 c k = x.1 c k) → F t y) : KE G q (d + 8) zk_X7_setTarget 0 [(0, vr 100)] [] x (ri F) X := by
  refine kg_X7_setTarget_0 hq (kd_needFor hq 2 0 1 (by decide) (by decide) (by decide) (by decide) (fun no => hx (fun z => no z.1)) hB hA hn (fun kk c7 y hBy ny gy en hAy hny eu ht hcy => ?_))
  have eu : y.1 42 (x.1 100 4).toNatClampNeg = 0 := eu
  have bx0 := hB.1.1.2.1
  have cx := nn_is bx0
  obtain ⟨ky, oy, cy⟩ := BB_k hBy
  have vt := (kT_at hBy.1.1.1 ht).1
  have k0 : (0 : Int32).toInt = 0 := rfl
  have y9 : y.1 100 9 = x.1 100 9 := GS_at gy _ _ (by unfold sSum; omega)
  have eN := BB_N hB
  refine kf_knownFrom hq hBy.1.1.1 ky hAy (KV_GS gy hE) _ _ (by decide) ht hn kk (fun r hr9 => ⟨vt, fun z ez => ?_⟩)
  have e9 := hE.1
  have hr : (r = -1 ∧ kfi sN Ev.1 (nn x) = none) ∨ ((0 ≤ r.toInt ∧ r.toInt < (y.1 100 9).toInt) ∧ ¬ kfi sN Ev.1 (nn x) = none) := by
    rcases hr9 with ⟨e1, e2⟩ | ⟨n, e1, e2, e3, e4, -⟩
    · exact Or.inl ⟨e1, kfi_of e2⟩
    · exact Or.inr ⟨by rw [y9]; omega, by rw [show nn x = (x.1 100 4).toNatClampNeg from rfl, e4]; simp⟩
  have hTr : TGc sN Ev (some (nn x)) r (x.1 100 4) := by
    rcases hr9 with ⟨e1, e2⟩ | ⟨n, e1, e2, e3, e4, -⟩
    · exact Or.inl ⟨kfi_of e2, e1, nn x, rfl, cx.symm⟩
    · exact Or.inr ⟨n, e4, fun q => by rw [q, tm1] at e1; omega, e1⟩
  have z43 : z.1 43 (x.1 100 4).toNatClampNeg = r := by rw [ez]; (simp only [si_get, sfl_get, Nat.reduceEqDiff, eq_self, and_false, false_and, and_true, true_and, if_true, if_false, reduceIte, reduceCtorEq])
  have fz : fm (fun c k => c = 43) y z := by rw [ez]; exact fm_si (fm_rf _ _) rfl
  have fin : ∀ v, TGc sN Ev (some (nn x)) (v.1 43 (nn x)) (x.1 100 4) → ((v.1 43 (nn x) = -1 ∧ kfi sN Ev.1 (nn x) = none ∧ v.1 42 (nn x) = 6) ∨ (¬ v.1 43 (nn x) = -1 ∧ ¬ kfi sN Ev.1 (nn x) = none ∧ v.1 42 (nn x) = 0)) → (∀ j, ¬ j = nn x → v.1 42 j = y.1 42 j) → BB x0 v M E → fm (fun c k => c = 42 ∨ c = 43) y v → ((v.1 43 (x.1 100 4).toNatClampNeg = -1 ∧ PLc v (x.1 100 4)) ∨ (¬ v.1 43 (x.1 100 4).toNatClampNeg = -1 ∧ 0 ≤ (v.1 43 (x.1 100 4).toNatClampNeg).toInt ∧ (v.1 43 (x.1 100 4).toNatClampNeg).toInt < M)) → KE G q (d + 8) zk_X7_setTarget 46 [(0, vr 100), (1, vi (x.1 100 4))] [] v (ri F) X := by
    intro v hTv hm hj hBv fv hv
    have nv : nn v = nn x + 1 := by rw [← en]; unfold nn; rw [fv 100 4 (by omega)]
    have lav : La x v := ⟨fun c k q1 q2 => by rw [fv c k (by omega), gy.1.1 c k q1 q2], by unfold nx; rw [fv 100 4 (by omega)]; exact gy.1.2.1, fun j hjx => by rw [hj j (by omega), gy.1.2.2 j hjx]⟩
    have bv0 := hBv.1.1.2.1
    refine kg_X7_setTarget_46 hq _ (kd_need (xs := v) (Ml := []) (Ev := Ev) (V := V) (sN := sN) (e := e) hq 10 50 (by decide) (by decide) (by decide) (fun no => hx (fun z => no (by rw [nv]; exact z.2))) hBv ⟨KA_fm hA lav.1, by rw [nv, ← en]; exact hny, UR_0 rfl⟩ (fun kk2 c72 u hBu nu gu enu hRu u0 hcu => ri_i (h _ u hBu ?_ ?_ ?_ vt ?_ (by rw [GS_at gu 60 13 (by unfold sSum; omega), fv 60 13 (by omega), GS_at gy 60 13 (by unfold sSum; omega)]) rfl ⟨⟨kk, c7⟩, by rw [← nv]; exact kk2, by omega⟩ (by omega) (La_tr lav gu.1) hRu.1 hRu.2.1 (KV_GS gu (KV_fm (KV_GS gy hE) (fv _ _ (by omega)) (fun k => fv _ _ (by omega)))) (by rw [← nv]; exact u0) ?_ ⟨⟨La_tr lav gu.1, fun c k q => by rw [GS_at gu c k (by unfold Tc at q; unfold sSum; omega), fv c k (by unfold Tc at q; omega), GS_at gy c k (by unfold Tc at q; unfold sSum; omega)]⟩, fun c k q1 q2 => by rw [GS_at gu _ _ (by unfold sSum; omega), fv _ _ (by omega), GS_at gy _ _ (by unfold sSum; omega)], by rw [GS_at gu _ _ (by unfold sSum; omega), fv _ _ (by omega), GS_at gy _ _ (by unfold sSum; omega)]⟩ (by rw [GS_at gu 43 _ (by unfold sSum; omega)]; exact hTv) (fun c k q => (hcu c k q).trans ((fv c k (by unfold ccS at q; omega)).trans (hcy c k q))))))
    · have : nx v = nx y := by unfold nx; rw [fv 100 4 (by omega)]
      omega
    · rw [GS_om gu, ← GS_om gy]; unfold om; rw [fv 100 13 (by omega)]
    · rw [GS_sm gu, ← GS_sm gy]; unfold ssm; rw [fv 80 9 (by omega)]
    · rw [GS_at gu 43 _ (by unfold sSum; omega)]
      exact hv.imp (fun e => ⟨e.1, PLc_La gu.1 e.2⟩) id
    · obtain ⟨-, la⟩ := La_nn bv0 gu.1
      rw [GS_at gu 43 _ (by unfold sSum; omega), la _ (by omega)]
      exact hm
  have hBz : BB x0 z M E := BB_use hBy (t := (x.1 100 4).toNatClampNeg) (by omega) eu (by rw [fz 42 _ (by omega), eu]; decide) (fm_w fz (fun c k q => Or.inl q))
  refine ⟨vt, fun c => fin z (by rw [show z.1 43 (nn x) = r from z43]; exact hTr) (Or.inr ⟨c, ?_, by rw [fz 42 _ (by omega)]; exact eu⟩) (fun j _ => fz _ _ (by omega)) hBz (fm_w fz (fun c k q => Or.inr q)) (Or.inr ?_), fun c => ⟨vt, fun v ev => ?_⟩⟩
  · rw [z43] at c
    rcases hr with ⟨e, -⟩ | ⟨-, e⟩
    · exact absurd e c
    · exact e
  · rw [z43] at c ⊢
    rcases hr with ⟨e, -⟩ | ⟨⟨e1, e2⟩, -⟩
    · exact absurd e c
    · rw [y9] at e2
      exact ⟨c, e1, by omega⟩
  · have fv : fm (fun c k => c = 43 ∨ (86 ≤ c ∧ c ≤ 89) ∨ (c = 42 ∧ k = (x.1 100 4).toNatClampNeg)) y v := by rw [ev]; exact fm_si (fm_w fz (fun c k q => Or.inl q)) (Or.inr (Or.inr ⟨rfl, rfl⟩))
    have u6 : v.1 42 (x.1 100 4).toNatClampNeg = 6 := by rw [ev]; (simp only [si_get, sfl_get, Nat.reduceEqDiff, eq_self, and_false, false_and, and_true, true_and, if_true, if_false, reduceIte, reduceCtorEq])
    have c9 : r = -1 := by rw [z43] at c; exact c
    refine fin v (by rw [show v.1 43 (nn x) = r by rw [ev, si_cell (by decide)]; exact z43]; exact hTr) (Or.inl ⟨by rw [ev, si_cell (by decide)]; exact c, ?_, u6⟩) (fun j hj => by rw [ev, si_get, if_neg (fun q => hj q.2)]; exact fz _ _ (by omega)) (BB_use hBy (t := (x.1 100 4).toNatClampNeg) (by omega) eu (by rw [u6]; decide) fv) (by rw [ev]; exact fm_si (fm_w fz (fun c k q => Or.inr q)) (Or.inl rfl)) (Or.inl ⟨?_, (x.1 100 4).toNatClampNeg, eN.symm, ?_, Or.inl u6⟩)
    · rcases hr with ⟨-, e⟩ | ⟨⟨e, -⟩, -⟩
      · exact e
      · rw [c9, tm1] at e; omega
    · rw [ev, si_cell (by decide)]; exact c
    · have : nx v = nx y := by unfold nx; rw [fv 100 4 (by omega)]
      omega
end KTG
