/-! the class: blocks are closed -/
section KCLF
variable {G : kG} {q : kP} {d : Nat} {x x0 y z xs : gd} {F : Int32 → gd → Prop} {Fv : gd → Prop} {X : String → gd → Prop} {P : Option gv → gd → Prop} {M : Int} {E : Nat → Prop} {K V : Nat → Int32} {sN : Nat → Nat → Bool} {e : Nat} {Ev : gV} {Ml N : gU} {W : gTs}
theorem RI_on (h0 : 0 ≤ nx y) (h : RIw K V sN e Ev x y Ml) (l : La y z) (g : RIw K V sN e (exs Ml Ev) y z N) : RIw K V sN e Ev x z (Ml ++ N) := ⟨g.1, g.2.1, UR_app h0 h.2.2 l g.2.2⟩
theorem RI_dull {v : Nat × Nat × Nat} (h : RIw K V sN e Ev x y Ml) (hv : dull v) : RIw K V sN e Ev x y (Ml ++ [v]) := ⟨h.1, h.2.1, UR_dull h.2.2 hv⟩
theorem RI_63 (h : RIw K V sN e Ev x y Ml) (hv : n63 N) : RIw K V sN e Ev x y (Ml ++ N) := ⟨h.1, h.2.1, UR_63 h.2.2 hv⟩
theorem eC_12 {z c j : Nat} {s : List Nat} {L : gU} (hz : z = 1 ∨ z = 2) : eC K z s c j L = eS K s c j L := by
  rw [eC, if_neg (by omega), if_neg (by omega), if_neg (by omega)]
theorem eC_4 {c j : Nat} {s : List Nat} {L : gU} : eC K 4 s c j L = eS K s c j (L ++ [(63, 0, 0)]) := by
  rw [eC, if_neg (by decide), if_neg (by decide), if_pos rfl]
theorem eC_0 {c j : Nat} {s : List Nat} {L : gU} : eC K 0 s c j L = some (c, j, L) := by
  rw [eC, if_pos rfl]
theorem exV_21 {a b : Nat} : exV Ev (21, a, b) = (Ev.1.drop (Ev.1.length - Ev.2.1.headD 0), Ev.2.1.tail, Ev.2.2) := rfl
theorem exV_20 {a b : Nat} : exV Ev (20, a, b) = (Ev.1, Ev.1.length :: Ev.2.1, Ev.2.2) := rfl
/-- the outermost block has no locals before it -/
def LBo (B : List Nat) : Prop := ∃ B', B = B' ++ [0]
theorem LBo_push {b : Nat} {B : List Nat} (h : LBo B) : LBo (b :: B) := by
  obtain ⟨B', e⟩ := h
  exact ⟨b :: B', by rw [e]; rfl⟩
theorem LBo_pop {B : List Nat} (h : LBo B) (h2 : ¬ B.tail = []) : LBo B.tail := by
  obtain ⟨B', e⟩ := h
  cases B' with
  | nil => rw [e] at h2; exact absurd rfl h2
  | cons b B' => exact ⟨B', by rw [e]; rfl⟩
theorem LBo_end {B : List Nat} (h : LBo B) (h2 : B.tail = []) : B.headD 0 = 0 := by
  obtain ⟨B', e⟩ := h
  cases B' with
  | nil => rw [e]; rfl
  | cons b B' => rw [e] at h2; exact absurd h2 (by simp)
/-- within a thread: what is known and open -/
def EN (K : Nat → Int32) (e : Nat) (x : gd) (u : List Nat) (Ev : gV) : Prop := KV' K e x Ev ∧ SKs x (om x).toNat u Ev.2.1 ∧ LBo Ev.2.1
theorem SKs_B0 : ∀ {n : Nat} {u B : List Nat}, SKs x n u B → (∀ k, k < n → 0 < k ∨ ¬ x.1 111 k = 5) → 1 ≤ n → ¬ B = [] := by
  intro n
  induction n with
  | zero => intro u B _ _ h; omega
  | succ n ih =>
    intro u B h g _
    obtain ⟨z, u', h1, h2, h3⟩ := h
    rcases h3 with ⟨a, b⟩ | ⟨a, b, B', c1, c2, c3⟩
    · by_cases hn : n = 0
      · rcases g n (Nat.lt_succ_self _) with g1 | g1
        · omega
        · exfalso
          apply g1
          have k5 : (5 : Int32).toInt = 5 := rfl
          rw [t_eq, k5]; omega
      · exact ih b (fun k hk => g k (Nat.lt_succ_of_lt hk)) (by omega)
    · rw [c1]; exact fun q => by cases q
theorem kd_openElse (hq : kV q) (c9 : Nat) (L : gU) {u : List Nat} (hx : W = none → RX x0 X) (eW : W = eC K 3 u c9 (nn x) L) (hul : (u.length : Int) = om x) (hA : KA K V sN e x) (hn0 : nn x ≤ e) (hN9 : EN K e x u Ev) (hB : BB x0 x M E) (s : Int32) {n : Nat} (es : s.toInt = n) (hn : (n : Int) < ssm x) (h1 : 1 ≤ om x) (ho : om x ≤ 16) (ha : 2 * ssm x + om x ≤ nx x) (hop : sop x n = 17) (hE : ∀ i : Nat, (i : Int) < ssm x → E i → i = n) (hs : x.1 23 (x.1 100 4).toNatClampNeg = 48) (h : ∀ y N u9, (BB x0 y M E0 ∧ W = eS K u9 c9 (nn y) (L ++ N) ∨ (BB x0 y M E1 ∧ y.1 23 (y.1 100 4).toNatClampNeg = 54) ∧ W = eX K u9 c9 (nn y) (L ++ N)) → RIw K V sN e Ev x y N → EN K e y u9 (exs N Ev) → Lb x y → y.1 100 7 = x.1 100 7 → nx x < nx y → ssm y = ssm x + 1 → om y = om x + 1 → 2 * ssm y + om y ≤ nx y + 2 → y.1 60 13 = x.1 60 13 → CGn sN V K n Ev x y N → Fv y) : KE G q (d + 9) zk_X7_openElse 0 [(0, vr 100), (1, vi s)] [] x (rv Fv) X := by
  have eN : s.toNatClampNeg = n := by rw [t_cl, es]; rfl
  have bx0 := hB.1.1.2.1
  have kk18 : K (nn x) = 18 := by rw [← hA.1 _ hn0, show x.1 23 (nn x) = 48 from hs]; decide
  obtain ⟨a1, a2, a3, a4, a5⟩ := BB_400 hB (by omega)
  have vs : vp_in s 400 := by rw [vp_in_iff]; omega
  refine kg_X7_openElse_0 hq _ ⟨vs, kf_add hq _ _ _ a1 a2 (fun w hAd vin hF9 => ⟨vs, fun z ez => ?_⟩)⟩
  obtain ⟨f1, f2, f3, f4, f5⟩ := hAd
  have hst : stK x w 20 (x.1 100 9) (-1) (-1) (-1) (-1) (-1) := ⟨fun c k q q1 q2 => f1 c k (fun z => z.elim q1 q2), f2, f3, f4, f5, hF9.1, hF9.2.1, hF9.2.2.1, hF9.2.2.2⟩
  rw [eN] at ez
  have k20 : (20 : Int32).toInt = 20 := rfl
  have hSA : SA w M (x.1 80 9).toNatClampNeg := by
    unfold SA sop stg
    rw [f3, f4, k20]
    exact ⟨by omega, ⟨a4, a5⟩, fun c => by omega, fun c => by omega⟩
  have hBw := BB_add hB (n := (x.1 80 9).toNatClampNeg) (by omega) f1 f2 hSA
  have pn : sop w n = 17 := by unfold sop at hop ⊢; rw [f1 81 n (by omega)]; exact hop
  have h8 : ¬ w.1 81 n = 8 := fun q => by
    unfold sop at pn
    rw [q] at pn
    exact absurd pn (by decide)
  have hBz := BB_tg hBw (by omega) (n := n) (by omega) (Or.inl pn) ez ⟨by show 0 ≤ ssm w; omega, Int.le_refl _, fun c => by omega⟩
  have fz : fm (fun c k => c = 84) w z := by rw [ez]; exact fm_si (fm_rf _ _) rfl
  have nz : nx z = nx x := by unfold nx; rw [fz 100 4 (by omega), f1 100 4 (by omega)]
  have sz : ssm z = ssm x + 1 := by
    have : ssm z = ssm w := by unfold ssm; rw [fz 80 9 (by omega)]
    omega
  have oz : om z = om x := by unfold om; rw [fz 100 13 (by omega), f1 100 13 (by omega)]
  have z4 : z.1 100 4 = x.1 100 4 := by rw [fz 100 4 (by omega), f1 100 4 (by omega)]
  have t84 : ¬ (x.1 80 9).toNatClampNeg = n := by omega
  have z84 : z.1 84 (x.1 80 9).toNatClampNeg = -1 := by rw [ez, si_get, if_neg (fun q => t84 q.2)]; exact f5
  have z81 : z.1 81 (x.1 80 9).toNatClampNeg = 20 := by rw [ez, si_cell (by decide)]; exact f3
  have nnz : nn z = nn x := by unfold nn; rw [z4]
  have hRz : RIw K V sN e Ev x z [] := RI_st ⟨hA, hn0, UR_0 rfl⟩ z4 (fun j => by rw [fz 42 j (by omega), f1 42 j (by omega)]) (fun c k q1 q2 => by rw [fz c k (by omega), f1 c k (by omega)])
  refine kd_pass (xs := x) (Ml := []) (Ev := Ev) hq (fun c7 => hx (by rw [eW]; exact eC_else7 kk18 (by omega))) hBz hRz (by rw [nnz, kk18]; decide) (by rw [nnz, kk18]; decide) (fun c7 y hBy ny gy eny hRy u0 hcy => kp_sort hq hBy.1.1 ?_)
  have ey := GS_om gy
  have sy := GS_sm gy
  have y81 : y.1 81 (x.1 80 9).toNatClampNeg = 20 := by rw [GS_at gy _ _ (by unfold sSum; omega)]; exact z81
  have y84 : y.1 84 (x.1 80 9).toNatClampNeg = -1 := by rw [GS_at gy _ _ (by unfold sSum; omega)]; exact z84
  have y13 : y.1 60 13 = x.1 60 13 := by rw [GS_at gy _ _ (by unfold sSum; omega), fz 60 13 (by omega), f1 60 13 (by omega)]
  have hEE : ∀ i : Nat, (i : Int) < ssm y → (E i ∨ i = (x.1 80 9).toNatClampNeg) ∧ i ≠ n → (i : Int) = ssm x ∧ stg y i = -1 := by
    rintro i hi ⟨e | e, e2⟩
    · by_cases hi3 : (i : Int) < ssm x
      · exact absurd (hE i hi3 e) e2
      · have : i = (x.1 80 9).toNatClampNeg := by omega
        rw [this]; exact ⟨a3, by unfold stg; rw [y84]; rfl⟩
    · rw [e]; exact ⟨a3, by unfold stg; rw [y84]; rfl⟩
  have nb : ∀ k : Int32, (k = 4 ∨ k = 5) → NB y k (x.1 80 9) := by
    intro k hk
    have hk' : (1 ≤ k.toInt ∧ k.toInt ≤ 5) ∧ ¬ k = 1 ∧ ¬ k = 3 ∧ ¬ k = 2 := by rcases hk with rfl | rfl <;> decide
    refine ⟨fun c => by omega, fun _ => ⟨hk'.1, (x.1 80 9).toNatClampNeg, a3.symm, by omega, fun c => ?_, fun c => absurd c hk'.2.2.2, fun _ => by unfold sop; rw [y81]; rfl⟩⟩
    rcases c with c | c
    · exact absurd c hk'.2.1
    · exact absurd c hk'.2.2.1
  rw [nnz] at c7 eny
  have hVy : KV' K e y Ev := KV_GS gy (KV_fm hN9.1 (by rw [fz _ _ (by omega), f1 _ _ (by omega)]) (fun k => by rw [fz _ _ (by omega), f1 _ _ (by omega)]))
  have hSy : SKs y (om y).toNat u Ev.2.1 := by
    rw [ey, oz]
    exact SKs_eq (fun k _ => ⟨by rw [GS_at gy 111 k (by unfold sSum; omega), fz 111 k (by omega), f1 111 k (by omega)], by rw [GS_at gy 113 k (by unfold sSum; omega), fz 113 k (by omega), f1 113 k (by omega)]⟩) hN9.2.1
  have lay : Lb x y := Lb_tr (Lb_tr (Lb_fm f1 (fun c k q => by unfold Tc; omega)) (Lb_fm fz (fun c k q => by unfold Tc; omega))) (Lb_GS gy)
  have y7 : y.1 100 7 = x.1 100 7 := by rw [GS_at gy 100 7 (by unfold sSum; omega), fz 100 7 (by omega), f1 100 7 (by omega)]
  have hRy2 : RIw K V sN e Ev x y [(62, nn x, 0)] := RI_dull hRy (dull_k (by decide))
  have st62 : still [(62, nn x, 0)] := stl_k (by decide)
  have y9c : (y.1 100 9).toNatClampNeg = Ev.1.length := by rw [t_cl, hVy.1]; rfl
  have k24 : y.1 23 (nn y) = 54 ↔ K (nn y) = 24 := KA_k hRy.1 hRy.2.1 54 (by decide)
  have hfu : 16 - u.length = 16 - u.length := rfl
  refine ⟨fun cne => ?_, fun c => ?_⟩
  · have hW4 : W = (pBk (pS K (16 - u.length)) K 4 c9 (nn y) (L ++ [(62, nn x, 0)])).bind (fun q => eC K 4 u q.1 q.2.1 q.2.2) := by
      rw [eW, eny]
      exact eC_else kk18 c7 (fun q => cne (k24.mpr (by rw [eny]; exact q)))
    refine kd_openBlock hq 4 _ (fun no => hx (by rw [hW4, pBk, if_neg no]; rfl)) hRy2 hVy (z9 := 4) (by decide) hSy hBy (by omega) (by omega) (by decide) (Or.inr (by decide)) (nb 4 (Or.inl rfl)) (fun i hi he => Or.inr (hEE i hi he)) (fun w9 hBu nu su ou u13 kk c79 enu lau hRu hVu hSu u7 hpu => rv_i (h w9 ([(62, nn x, 0)] ++ [(20, 4, 0)]) (4 :: u) (Or.inl ⟨hBu, ?_⟩) (RI_dull hRu (dull_k (by decide))) ?_ (Lb_tr lay lau) (by rw [u7, y7]) (by omega) (by omega) (by omega) (by omega) (by rw [u13]; exact y13) (hpu.elim (fun w0 q0 => CGn_20 (CG_62 hN9.1 hst ez h8 (fun c k q9 => (q0.1 c k q9).trans (hcy c k q9)) q0.2 (by decide))))))
    · rw [hW4, eS_block (by decide) rfl kk c79, enu, List.append_assoc]
    · have ex : exs ([(62, nn x, 0)] ++ [(20, 4, 0)]) Ev = (Ev.1, Ev.1.length :: Ev.2.1, Ev.2.2) := by
        rw [exs_app, exs_still st62]; rfl
      rw [ex]
      rw [y9c] at hSu
      exact ⟨hVu, hSu, LBo_push hN9.2.2⟩
  · have c24 := k24.mp c
    refine kd_enter hq hBy (by omega) (by omega) 5 _ (Or.inr (by decide)) (nb 5 (Or.inr rfl)) (fun i hi he _ => (hEE i hi he).2) (fun w9 hBu nu su ou fu u4 ff t1 t3 hpu => rv_i (h w9 [(62, nn x, 0)] (5 :: u) (Or.inr ⟨⟨BB_E hBu (fun _ => rfl) (fun i hi he hne => ?_), ?_⟩, ?_⟩) (RI_st hRy2 u4 (fun j => fu _ _ (by omega)) (fun c k q1 q2 => fu _ _ (by omega))) ?_ (Lb_tr lay (Lb_fm ff (fun c k q => by unfold Tc; omega))) (by rw [ff 100 7 (by omega), y7]) (by omega) (by omega) (by omega) (by omega) (by rw [fu 60 13 (by omega)]; exact y13) (CG_62 hN9.1 hst ez h8 hcy hpu (by decide))))
    rotate_left 2
    · have en9 : nn w9 = nn x + 1 := by rw [← eny]; unfold nn; rw [u4]
      rw [eW, en9]
      exact eC_elif kk18 c7 (by rw [← eny]; exact c24)
    · rw [exs_still st62]
      refine ⟨KV_fm hVy (ff _ _ (by omega)) (fun k => ff _ _ (by omega)), ?_, hN9.2.2⟩
      have o0 := (BB_om hBy).1.1
      have ey9 : (y.1 100 13).toNatClampNeg = (om y).toNat := by rw [t_cl]
      have ez : (om w9).toNat = (om y).toNat + 1 := by omega
      rw [ey9] at t1 t3 ff
      rw [ez]
      exact ⟨5, u, rfl, by rw [t1]; rfl, Or.inl ⟨rfl, SKs_eq (fun k hk => ⟨ff 111 k (by omega), ff 113 k (by omega)⟩) hSy⟩⟩
    · rcases he with ⟨e, -⟩ | ⟨-, e, e2⟩
      · exact absurd e hne
      · exact absurd (hEE i (by omega) e).1 e2
    · rw [u4, fu 23 _ (by omega)]; exact c
theorem kd_endThread (hq : kV q) (hB : BB x0 x M E) (ho : om x = 0) (hM : M ≤ (x.1 60 13).toInt) (hE : ∀ i : Nat, (i : Int) < ssm x → ¬ E i) (ha : 2 * ssm x + 2 ≤ nx x) (h : ∀ y, OT x0 y → nx y = nx x → fm (fun c k => (81 ≤ c ∧ c ≤ 89 ∧ k = (x.1 80 9).toNatClampNeg) ∨ (c = 80 ∧ k = 9) ∨ (c = 100 ∧ k = 5)) x y → (∃ w, stK x w 21 0 (-1) (-1) (-1) (-1) (-1) ∧ (∀ c k, ¬ (c = 100 ∧ k = 5) → y.1 c k = w.1 c k) ∧ y.1 100 5 = 0) → Fv y) : KT G q (d + 1) zk_X7_endThread 0 [(0, vr 100)] [] x (rv Fv) := by
  obtain ⟨a1, a2, a3, a4, a5⟩ := BB_400 hB (by omega)
  refine kg_X7_endThread_0 hq (kf_add hq _ _ _ a1 a2 (fun w hA vin hF9 z ez => rv_i ?_))
  obtain ⟨f1, f2, f3, f4, f5⟩ := hA
  obtain ⟨hS, hF, ⟨r1, r2, r3, ⟨r4, r6⟩, r7⟩, hC, r5, r0, hI⟩ := hB
  have f : fm (fun c k => (81 ≤ c ∧ c ≤ 89 ∧ k = (x.1 80 9).toNatClampNeg) ∨ (c = 80 ∧ k = 9) ∨ (c = 100 ∧ k = 5)) x z := by rw [ez]; exact fm_si (fm_w f1 (fun c k q => by omega)) (Or.inr (Or.inr ⟨rfl, rfl⟩))
  have z5 : z.1 100 5 = 0 := by rw [ez]; (simp only [si_get, sfl_get, Nat.reduceEqDiff, eq_self, and_false, false_and, and_true, true_and, if_true, if_false, reduceIte, reduceCtorEq])
  have es : ssm z = ssm x + 1 := by
    have : z.1 80 9 = w.1 80 9 := by rw [ez]; (simp only [si_get, sfl_get, Nat.reduceEqDiff, eq_self, and_false, false_and, and_true, true_and, if_true, if_false, reduceIte, reduceCtorEq])
    unfold ssm at *; rw [this]; exact f2
  have z81 : z.1 81 (x.1 80 9).toNatClampNeg = 21 := by rw [ez]; (simp only [si_get, sfl_get, Nat.reduceEqDiff, eq_self, and_false, false_and, and_true, true_and, if_true, if_false, reduceIte, reduceCtorEq]); exact f3
  have z83 : z.1 83 (x.1 80 9).toNatClampNeg = 0 := by rw [ez]; (simp only [si_get, sfl_get, Nat.reduceEqDiff, eq_self, and_false, false_and, and_true, true_and, if_true, if_false, reduceIte, reduceCtorEq]); exact f4
  have e4 : nx z = nx x := by unfold nx; rw [f 100 4 (by omega)]
  have la : La x z := ⟨fun c k q1 q2 => f c k (by omega), by omega, fun j _ => f 42 j (by omega)⟩
  have k21 : (21 : Int32).toInt = 21 := rfl
  have k0 : (0 : Int32).toInt = 0 := rfl
  have z13 : z.1 60 13 = x.1 60 13 := f _ _ (by omega)
  refine h z ⟨?_, ?_, ⟨fun c => absurd z5 c, NM_fm r2 (fun c k q1 q2 q3 q4 => f c k (by omega)) (f _ _ (by omega)) (f _ _ (by omega)), ?_, ⟨by omega, fun i hi => ?_⟩, ?_⟩, fun i hi _ => ?_, z5, fm_tr r0 (fm_w f (fun c k q => by unfold sR; omega)), by omega⟩ e4 f ⟨w, ⟨fun c k q q1 q2 => f1 c k (fun z => z.elim q1 q2), f2, f3, f4, f5, hF9.1, hF9.2.1, hF9.2.2.1, hF9.2.2.2⟩, fun c k q => by rw [ez, si_get, if_neg q], z5⟩
  · obtain ⟨⟨hT, b1, b2, b3⟩, ⟨u1, u2⟩, hp, hP⟩ := hS
    unfold SU SV US RB mt
    rw [f 20 7 (by omega), f 60 3 (by omega), e4]
    refine ⟨⟨kT_fm hT la.1, b1, b2, b3⟩, ⟨fun j h1 h2 => ?_, fun j h1 h2 => ?_⟩, hp, fun i hi => La_PQ la (f _ _ (by omega)) (f _ _ (by omega)) (hP i hi)⟩
    · rw [f 42 j (by omega)]; exact u1 j h1 h2
    · rw [f 42 j (by omega)] at h2; rw [f 42 _ (by omega)]; exact u2 j h1 h2
  · unfold FR at hF ⊢
    rw [f 100 4 (by omega), f 42 _ (by omega)]; exact hF
  · unfold CD at r3 ⊢
    rw [f 60 6 (by omega), f 60 9 (by omega), f 60 10 (by omega), f 60 14 (by omega), f 60 16 (by omega), z13, f 40 8 (by omega), f 40 10 (by omega)]
    exact ⟨r3.1, r3.2.1, r3.2.2.1, r3.2.2.2.1, r3.2.2.2.2.1, r3.2.2.2.2.2.1, fun c => absurd z5 c⟩
  · by_cases hi2 : i = (x.1 80 9).toNatClampNeg
    · rw [hi2]
      unfold SA sop stg
      rw [z81, z83, k21, k0]
      exact ⟨by omega, by omega, fun c => by omega, fun c => by omega⟩
    · exact SA_La la (f _ _ (by omega)) (f _ _ (by omega)) (f _ _ (by omega)) (f _ _ (by omega)) (by rw [z13]; exact hM) (r6 i (by omega))
  · unfold TS at r7 ⊢
    rw [f 60 10 (by omega)]
    refine ⟨fun t ht => ?_, fun _ => Or.inr ?_⟩
    · rw [f 72 t (by omega)]
      obtain ⟨p1, p2, -⟩ := r7.1 t ht
      exact ⟨p1, by omega, fun _ => by omega⟩
    · have : (ssm z).toNat - 1 = (x.1 80 9).toNatClampNeg := by omega
      rw [this]; exact z81
  · by_cases hi2 : i = (x.1 80 9).toNatClampNeg
    · rw [hi2]
      refine SC_no ?_ ?_ <;> (unfold sop; rw [z81]; decide)
    · have := hC i (by omega) (hE i (by omega))
      unfold SC at this ⊢
      have ep : sop z i = sop x i := by unfold sop; rw [f 81 i (by omega)]
      have et : stg z i = stg x i := by unfold stg; rw [f 84 i (by omega)]
      rw [ep, et]
      intro c
      rcases this c with ⟨p1, p2, j, p3, p4⟩ | ⟨p1, p2, p3, p4⟩
      · omega
      · refine Or.inr ⟨p1, by omega, fun _ => by omega, fun c20 => ?_⟩
        rcases p4 c20 with g1 | g1
        · exact Or.inl g1
        · by_cases hlt : (i : Int) < stg x i
          · exact Or.inl hlt
          · refine Or.inr ?_
            unfold sop at g1 ⊢
            rw [f 81 _ (by omega)]; exact g1
end KCLF
