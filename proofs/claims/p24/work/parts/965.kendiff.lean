section
/-! the class: an if ends -/
def n63 (N : gU) : Prop := ∀ v ∈ N, v = (63, 0, 0)
theorem n63_still {N : gU} (h : n63 N) : still N := fun v hv => by rw [h v hv]; decide
theorem n63_dull {v : Nat × Nat × Nat} (h : v = (63, 0, 0)) : dull v := by
  intro k hk c
  rw [h] at c
  have c : 63 = k := c
  rw [← c] at hk
  exact absurd hk (by decide)
theorem UR_63 {sN : Nat → Nat → Bool} {E : gV} {x y : gd} : ∀ {N M : gU}, UR sN E x y M → n63 N → UR sN E x y (M ++ N) := by
  intro N
  induction N with
  | nil => intro M h _; rw [List.append_nil]; exact h
  | cons v N ih =>
    intro M h g
    have := ih (UR_dull h (n63_dull (g v List.mem_cons_self))) (fun w hw => g w (List.mem_cons_of_mem _ hw))
    rw [List.append_assoc] at this
    exact this
section KEF
variable {G : kG} {q : kP} {d : Nat} {x x0 y z : gd} {F : Int32 → gd → Prop} {Fv : gd → Prop} {X : String → gd → Prop} {P : Option gv → gd → Prop} {M : Int} {E : Nat → Prop} {sN : Nat → Nat → Bool} {V : Nat → Int32}
theorem kd_endIf (hq : kV q) (K : Nat → Int32) (u B : List Nat) (c9 j9 : Nat) (L : gU) (hS : SKs x (om x).toNat u B) (hB : BB x0 x M E) (s : Int32) {n : Nat} (es : s.toInt = n) (hn : (n : Int) < ssm x) (hsm : ssm x < 400) (hop : sop x n = 17 ∨ sop x n = 20) (hE : ∀ i : Nat, (i : Int) < ssm x → E i → i = n) (h : ∀ y, BB x0 y M E0 → nx y = nx x → ssm y = ssm x → om y ≤ om x → (1 ≤ om x → 1 ≤ om y) → y.1 60 13 = x.1 60 13 → fm (fun c k => c = 84 ∨ (c = 100 ∧ k = 13)) x y → ∀ uy N, SKs y (om y).toNat uy B → n63 N → eS K u c9 j9 L = eS K uy c9 j9 (L ++ N) → CE sN V K n x y N → Fv y) : KT G q d zk_X7_endIf 0 [(0, vr 100), (1, vi s)] [] x (rv Fv) := by
  have eN : s.toNatClampNeg = n := by rw [t_cl, es]; rfl
  have k0 : (0 : Int32).toInt = 0 := rfl
  have k20 : (20 : Int32).toInt = 20 := rfl
  refine kg_X7_endIf_0 hq _ ⟨by rw [vp_in_iff]; omega, fun x2 e2 => ?_⟩
  rw [eN] at e2
  have hB2 : BB x0 x2 M E1 := BB_E (BB_tg hB (by omega) hn hop e2 ⟨hB.2.2.1.2.2.2.1.1, Int.le_refl _, fun _ => Or.inl hn⟩) (fun _ => rfl) (fun i hi he _ => by
    have : ssm x2 = ssm x := by unfold ssm; rw [e2, si_cell (by decide)]
    exact absurd (hE i (by omega) he.1) he.2)
  have h8 : ∀ (g : gd) (i : Nat), (sop g i = 17 ∨ sop g i = 20) → ¬ g.1 81 i = 8 := fun g i hg q => by
    unfold sop at hg
    rw [q] at hg
    exact absurd hg (by decide)
  have f2 : fm (fun c k => c = 84) x x2 := by rw [e2]; exact fm_si (fm_rf _ _) rfl
  have loop : ∀ (m : Nat) (k : Int32) (y : gd) (uy : List Nat) (N : gU), SKs y (om y).toNat uy B → n63 N → eS K u c9 j9 L = eS K uy c9 j9 (L ++ N) → CE sN V K n x y N → BB x0 y M E1 → fm (fun c k => c = 84 ∨ (c = 100 ∧ k = 13)) x y → om y ≤ om x → (1 ≤ om x → 1 ≤ om y) → 0 ≤ k.toInt → k.toInt + om y ≤ 18 → om y ≤ m → KT G q d zk_X7_endIf 18 [(0, vr 100), (2, vi k)] [] y (rv Fv) := by
    intro m
    induction m with
    | zero =>
      intro k y uy N hSy hN hWy hCy hBy fy o1 o2 hk0 hk hm
      have o0 := (BB_om hBy).1.1
      refine kg_X7_endIf_18 hq _ ⟨fun c => ?_, fun c => ⟨fun c2 => rv_i (h y ?_ ?_ ?_ o1 o2 (fy _ _ (by omega)) fy uy N hSy hN hWy hCy), fun c2 => ?_⟩⟩
      · exfalso; rw [t_le, k20] at c; omega
      · refine ⟨hBy.1, hBy.2.1, hBy.2.2.1, fun i hi he => hBy.2.2.2.1 i hi (fun e => ?_), hBy.2.2.2.2.1, hBy.2.2.2.2.2.1, fun _ k hk2 => by omega, hBy.2.2.2.2.2.2.2⟩
        have : ssm y = ssm x := by unfold ssm; rw [fy 80 9 (by omega)]
        have e' : i = 1000000 := e
        omega
      · unfold nx; rw [fy 100 4 (by omega)]
      · unfold ssm; rw [fy 80 9 (by omega)]
      · exfalso; rw [t_le, k0] at c2; unfold om at *; omega
    | succ m ih =>
      intro k y uy N hSy hN hWy hCy hBy fy o1 o2 hk0 hk hm
      have o0 := (BB_om hBy).1.1
      have esm : ssm y = ssm x := by unfold ssm; rw [fy 80 9 (by omega)]
      have out : (TIk y) → Fv y := fun hT => by
        refine h y ⟨hBy.1, hBy.2.1, hBy.2.2.1, fun i hi he => hBy.2.2.2.1 i hi (fun e => ?_), hBy.2.2.2.2.1, hBy.2.2.2.2.2.1, fun _ => hT, hBy.2.2.2.2.2.2.2⟩ ?_ esm o1 o2 (fy _ _ (by omega)) fy uy N hSy hN hWy hCy
        · have e' : i = 1000000 := e
          omega
        · unfold nx; rw [fy 100 4 (by omega)]
      refine kg_X7_endIf_18 hq _ ⟨fun c => ?_, fun c => ⟨fun c2 => rv_i (out (fun k hk2 => ?_)), fun c2 => ?_⟩⟩
      · exfalso; rw [t_le, k20] at c; omega
      · rw [t_le, k0] at c2; unfold om at *; omega
      rw [t_le, k0] at c2
      have o1' : 1 ≤ om y := by unfold om at *; omega
      have e13 : (y.1 100 13 - 1).toInt = om y - 1 := t_sub (by show _ ≤ _ - (1 : Int); unfold om at *; omega) (by show _ - (1 : Int) ≤ _; unfold om at *; omega)
      have n13 : (y.1 100 13 - 1).toNatClampNeg = (om y).toNat - 1 := by rw [t_cl, e13]; omega
      refine ⟨by rw [vp_in_iff, e13]; omega, fun c3 => rv_i (out (fun k hk2 => ?_)), fun c3 x5 e5 => ?_⟩
      · rw [n13] at c3
        have : k = (om y).toNat - 1 := by omega
        rw [this]; exact c3
      rw [n13] at c3
      obtain ⟨ky, oy, cy⟩ := BB_k hBy
      have hop1 := oy.2.1 ((om y).toNat - 1) (by omega)
      have hpos : 0 < (om y).toNat - 1 := by
        refine Nat.pos_of_ne_zero (fun e => ?_)
        have := (hop1.1 e).1
        rw [c3] at this
        exact absurd this (by decide)
      obtain ⟨-, t, t1, t2, -, -, t5⟩ := hop1.2.1 hpos
      have t20 := t5 (Or.inr c3)
      have f5 : fm (fun c k => c = 100 ∧ k = 13) y x5 := by rw [e5]; exact fm_si (fm_rf _ _) ⟨rfl, rfl⟩
      have q5 : om x5 = om y - 1 := by
        have : x5.1 100 13 = y.1 100 13 - 1 := by rw [e5]; (simp only [si_get, sfl_get, Nat.reduceEqDiff, eq_self, and_false, false_and, and_true, true_and, if_true, if_false, reduceIte, reduceCtorEq])
        unfold om at *; rw [this]; exact e13
      have hB5 := BB_pop hBy o1' (fm_w f5 (fun c k q => ⟨q.1, Or.inr q.2⟩)) q5 (by rw [f5 100 9 (by omega)]; exact ⟨ky.1.1, Int.le_refl _⟩) (fun j hj => by rw [f5 100 9 (by omega)]; exact (oy.2.1 j (by omega)).2.2.2)
      have m5 : (x5.1 100 13).toNatClampNeg = (om y).toNat - 1 := by
        rw [t_cl]; show (om x5).toNat = _; omega
      have s5 : x5.1 112 ((om y).toNat - 1) = y.1 112 ((om y).toNat - 1) := f5 _ _ (by omega)
      have tN : (y.1 112 ((om y).toNat - 1)).toNatClampNeg = t := by rw [t_cl, t1]; rfl
      have sm5 : ssm x5 = ssm y := by unfold ssm; rw [f5 80 9 (by omega)]
      refine ⟨by rw [vp_in_iff]; show 0 ≤ om x5 ∧ om x5 < _; omega, ?_⟩
      rw [m5, s5]
      refine ⟨by rw [vp_in_iff]; omega, fun x8 e8 => ?_⟩
      rw [tN] at e8
      have p5 : sop x5 t = 20 := by unfold sop at t20 ⊢; rw [f5 81 t (by omega)]; exact t20
      have hB8 : BB x0 x8 M E1 := BB_E (BB_tg hB5 (by omega) (n := t) (by omega) (Or.inr p5) e8 ⟨hB5.2.2.1.2.2.2.1.1, Int.le_refl _, fun _ => Or.inl (by show (t : Int) < ssm x5; omega)⟩) (fun _ => rfl) (fun i hi he hne => by
        rcases he with ⟨e | e | e, e2⟩
        · exact absurd e hne
        · exact absurd (by omega) e2
        · exact absurd e hne)
      have f8 : fm (fun c k => c = 84) x5 x8 := by rw [e8]; exact fm_si (fm_rf _ _) rfl
      have o8 : om x8 = om x5 := by unfold om; rw [f8 100 13 (by omega)]
      have ek : (k + 1).toInt = k.toInt + 1 := t_add (by show _ ≤ _ + (1 : Int); omega) (by show _ + (1 : Int) ≤ _; omega)
      have k5 : (5 : Int32).toInt = 5 := rfl
      have nS : (om y).toNat = ((om y).toNat - 1) + 1 := by omega
      have e8n : (om x8).toNat = (om y).toNat - 1 := by omega
      have v1 : om x8 ≤ om x := by omega
      have v2 : 1 ≤ om x8 := by omega
      have v3 : 0 ≤ (k + 1).toInt := by omega
      have v4 : (k + 1).toInt + om x8 ≤ 18 := by omega
      have v5 : om x8 ≤ (m : Int) := by omega
      rw [nS] at hSy
      obtain ⟨z9, u', q1, q2, q3⟩ := hSy
      rw [c3, k5] at q2
      have z5 : z9 = 5 := by clear q3; omega
      have hS' : SKs y ((om y).toNat - 1) u' B := by
        rcases q3 with ⟨-, q⟩ | ⟨q, -⟩
        · exact q
        · exact absurd z5 q
      have hS8 : SKs x8 (om x8).toNat u' B := by
        rw [e8n]
        exact SKs_eq (fun k _ => ⟨by rw [f8 _ _ (by omega), f5 _ _ (by omega)], by rw [f8 _ _ (by omega), f5 _ _ (by omega)]⟩) hS'
      exact ih (k + 1) x8 u' (N ++ [(63, 0, 0)]) hS8 (fun v hv => (List.mem_append.mp hv).elim (hN v) (fun q => List.mem_singleton.mp q)) (by rw [hWy, q1, z5, eS_5, List.append_assoc]) (CE_more hCy ⟨fun c j _ q => f5 c j q, by rw [m5, t_cl]; show _ = (om y).toNat; omega, by rw [m5, c3]; decide, by rw [m5]; exact t1, hBy.2.2.2.2.1⟩ e8 (h8 _ _ (Or.inr p5))) hB8 (fm_tr fy (fm_tr (fm_w f5 (fun c k q => Or.inr q)) (fm_w f8 (fun c k q => Or.inl q)))) v1 (fun _ => v2) v3 v4 v5
  have o2 : om x2 = om x := by unfold om; rw [f2 100 13 (by omega)]
  have o18 := (BB_om hB).1
  exact loop 18 _ x2 u [] (by rw [o2]; exact SKs_eq (fun k _ => ⟨f2 _ _ (by omega), f2 _ _ (by omega)⟩) hS) (fun v hv => by cases hv) (by rw [List.append_nil]) (CE_0 e2 (h8 _ _ hop)) hB2 (fm_w f2 (fun c k q => Or.inl q)) (by omega) (by omega) (by decide) (by rw [k0]; omega) (by omega)
end KEF
end
section
/-! the class: blocks are closed -/
section KCLF
variable {G : kG} {q : kP} {d : Nat} {x x0 y z xs : gd} {F : Int32 → gd → Prop} {Fv : gd → Prop} {X : String → gd → Prop} {P : Option gv → gd → Prop} {M : Int} {E : Nat → Prop} {K V : Nat → Int32} {sN : Nat → Nat → Bool} {e : Nat} {Ev : gV} {Ml N : gU} {W : gTs}
theorem RI_on (h0 : 0 ≤ nx y) (h : RIw K V sN e Ev x y Ml) (l : La y z) (g : RIw K V sN e (exs Ml Ev) y z N) : RIw K V sN e Ev x z (Ml ++ N) := ⟨g.1, g.2.1, UR_app h0 h.2.2 l g.2.2⟩
theorem RI_dull {v : Nat × Nat × Nat} (h : RIw K V sN e Ev x y Ml) (hv : dull v) : RIw K V sN e Ev x y (Ml ++ [v]) := ⟨h.1, h.2.1, UR_dull h.2.2 hv⟩
theorem RI_63 (h : RIw K V sN e Ev x y Ml) (hv : n63 N) : RIw K V sN e Ev x y (Ml ++ N) := ⟨h.1, h.2.1, UR_63 h.2.2 hv⟩
theorem eC_12 {z c j : Nat} {s : List Nat} {L : gU} (hz : z = 1 ∨ z = 2) : eC K z s c j L = eS K s c j L := by
  rw [eC, if_neg (by omega), if_neg (by omega), if_neg (by omega)]
theorem eC_4 {c j : Nat} {s : List Nat} {L : gU} : eC K 4 s c j L = eS K s c j (L ++ [(63, 0, 0)]) := by
  rw [eC, if_neg (by decide), if_neg (by decide), if_pos rfl]
theorem eC_0 {c j : Nat} {s : List Nat} {L : gU} : eC K 0 s c j L = some (c, j, L) := by
  rw [eC, if_pos rfl]
/-- the outermost block has no locals before it -/
def LBo (B : List Nat) : Prop := ∃ B', B = B' ++ [0]
theorem LBo_push {b : Nat} {B : List Nat} (h : LBo B) : LBo (b :: B) := by
  obtain ⟨B', e⟩ := h
  exact ⟨b :: B', by rw [e]; rfl⟩
theorem LBo_pop {B : List Nat} (h : LBo B) (h2 : ¬ B.tail = []) : LBo B.tail := by
  obtain ⟨B', e⟩ := h
  cases B' with
  | nil => rw [e] at h2; exact absurd rfl h2
  | cons b B' => exact ⟨B', by rw [e]; rfl⟩
theorem LBo_end {B : List Nat} (h : LBo B) (h2 : B.tail = []) : B.headD 0 = 0 := by
  obtain ⟨B', e⟩ := h
  cases B' with
  | nil => rw [e]; rfl
  | cons b B' => rw [e] at h2; exact absurd h2 (by simp)
/-- within a thread: what is known and open -/
def EN (K : Nat → Int32) (e : Nat) (x : gd) (u : List Nat) (Ev : gV) : Prop := KV' K e x Ev ∧ SKs x (om x).toNat u Ev.2.1 ∧ LBo Ev.2.1
theorem SKs_B0 : ∀ {n : Nat} {u B : List Nat}, SKs x n u B → (∀ k, k < n → 0 < k ∨ ¬ x.1 111 k = 5) → 1 ≤ n → ¬ B = [] := by
  intro n
  induction n with
  | zero => intro u B _ _ h; omega
  | succ n ih =>
    intro u B h g _
    obtain ⟨z, u', h1, h2, h3⟩ := h
    rcases h3 with ⟨a, b⟩ | ⟨a, b, B', c1, c2, c3⟩
    · by_cases hn : n = 0
      · rcases g n (Nat.lt_succ_self _) with g1 | g1
        · omega
        · exfalso
          apply g1
          have k5 : (5 : Int32).toInt = 5 := rfl
          rw [t_eq, k5]; omega
      · exact ih b (fun k hk => g k (Nat.lt_succ_of_lt hk)) (by omega)
    · rw [c1]; exact fun q => by cases q
theorem kd_openElse (hq : kV q) (c9 : Nat) (L : gU) {u : List Nat} (hx : W = none → RX x0 X) (eW : W = eC K 3 u c9 (nn x) L) (hul : (u.length : Int) = om x) (hA : KA K V sN e x) (hn0 : nn x ≤ e) (hN9 : EN K e x u Ev) (hB : BB x0 x M E) (s : Int32) {n : Nat} (es : s.toInt = n) (hn : (n : Int) < ssm x) (h1 : 1 ≤ om x) (ho : om x ≤ 16) (ha : 2 * ssm x + om x ≤ nx x) (hop : sop x n = 17) (hE : ∀ i : Nat, (i : Int) < ssm x → E i → i = n) (hs : x.1 23 (x.1 100 4).toNatClampNeg = 48) (h : ∀ y N u9, (BB x0 y M E0 ∧ W = eS K u9 c9 (nn y) (L ++ N) ∨ (BB x0 y M E1 ∧ y.1 23 (y.1 100 4).toNatClampNeg = 54) ∧ W = eX K u9 c9 (nn y) (L ++ N)) → RIw K V sN e Ev x y N → EN K e y u9 (exs N Ev) → Lb x y → y.1 100 7 = x.1 100 7 → nx x < nx y → ssm y = ssm x + 1 → om y = om x + 1 → 2 * ssm y + om y ≤ nx y + 2 → y.1 60 13 = x.1 60 13 → CGn sN V K n Ev x y N → Fv y) : KE G q (d + 9) zk_X7_openElse 0 [(0, vr 100), (1, vi s)] [] x (rv Fv) X := by
  have eN : s.toNatClampNeg = n := by rw [t_cl, es]; rfl
  have bx0 := hB.1.1.2.1
  have kk18 : K (nn x) = 18 := by rw [← hA.1 _ hn0, show x.1 23 (nn x) = 48 from hs]; decide
  obtain ⟨a1, a2, a3, a4, a5⟩ := BB_400 hB (by omega)
  have vs : vp_in s 400 := by rw [vp_in_iff]; omega
  refine kg_X7_openElse_0 hq _ ⟨vs, kf_add hq _ _ _ a1 a2 (fun w hAd vin hF9 => ⟨vs, fun z ez => ?_⟩)⟩
  obtain ⟨f1, f2, f3, f4, f5⟩ := hAd
  have hst : stK x w 20 (x.1 100 9) (-1) (-1) (-1) (-1) (-1) := ⟨fun c k q q1 q2 => f1 c k (fun z => z.elim q1 q2), f2, f3, f4, f5, hF9.1, hF9.2.1, hF9.2.2.1, hF9.2.2.2⟩
  rw [eN] at ez
  have k20 : (20 : Int32).toInt = 20 := rfl
  have hSA : SA w M (x.1 80 9).toNatClampNeg := by
    unfold SA sop stg
    rw [f3, f4, k20]
    exact ⟨by omega, ⟨a4, a5⟩, fun c => by omega, fun c => by omega⟩
  have hBw := BB_add hB (n := (x.1 80 9).toNatClampNeg) (by omega) f1 f2 hSA
  have pn : sop w n = 17 := by unfold sop at hop ⊢; rw [f1 81 n (by omega)]; exact hop
  have h8 : ¬ w.1 81 n = 8 := fun q => by
    unfold sop at pn
    rw [q] at pn
    exact absurd pn (by decide)
  have hBz := BB_tg hBw (by omega) (n := n) (by omega) (Or.inl pn) ez ⟨by show 0 ≤ ssm w; omega, Int.le_refl _, fun c => by omega⟩
  have fz : fm (fun c k => c = 84) w z := by rw [ez]; exact fm_si (fm_rf _ _) rfl
  have nz : nx z = nx x := by unfold nx; rw [fz 100 4 (by omega), f1 100 4 (by omega)]
  have sz : ssm z = ssm x + 1 := by
    have : ssm z = ssm w := by unfold ssm; rw [fz 80 9 (by omega)]
    omega
  have oz : om z = om x := by unfold om; rw [fz 100 13 (by omega), f1 100 13 (by omega)]
  have z4 : z.1 100 4 = x.1 100 4 := by rw [fz 100 4 (by omega), f1 100 4 (by omega)]
  have t84 : ¬ (x.1 80 9).toNatClampNeg = n := by omega
  have z84 : z.1 84 (x.1 80 9).toNatClampNeg = -1 := by rw [ez, si_get, if_neg (fun q => t84 q.2)]; exact f5
  have z81 : z.1 81 (x.1 80 9).toNatClampNeg = 20 := by rw [ez, si_cell (by decide)]; exact f3
  have nnz : nn z = nn x := by unfold nn; rw [z4]
  have hRz : RIw K V sN e Ev x z [] := RI_st ⟨hA, hn0, UR_0 rfl⟩ z4 (fun j => by rw [fz 42 j (by omega), f1 42 j (by omega)]) (fun c k q1 q2 => by rw [fz c k (by omega), f1 c k (by omega)])
  refine kd_pass (xs := x) (Ml := []) (Ev := Ev) hq (fun c7 => hx (by rw [eW]; exact eC_else7 kk18 (by omega))) hBz hRz (by rw [nnz, kk18]; decide) (by rw [nnz, kk18]; decide) (fun c7 y hBy ny gy eny hRy u0 hcy => kp_sort hq hBy.1.1 ?_)
  have ey := GS_om gy
  have sy := GS_sm gy
  have y81 : y.1 81 (x.1 80 9).toNatClampNeg = 20 := by rw [GS_at gy _ _ (by unfold sSum; omega)]; exact z81
  have y84 : y.1 84 (x.1 80 9).toNatClampNeg = -1 := by rw [GS_at gy _ _ (by unfold sSum; omega)]; exact z84
  have y13 : y.1 60 13 = x.1 60 13 := by rw [GS_at gy _ _ (by unfold sSum; omega), fz 60 13 (by omega), f1 60 13 (by omega)]
  have hEE : ∀ i : Nat, (i : Int) < ssm y → (E i ∨ i = (x.1 80 9).toNatClampNeg) ∧ i ≠ n → (i : Int) = ssm x ∧ stg y i = -1 := by
    rintro i hi ⟨e | e, e2⟩
    · by_cases hi3 : (i : Int) < ssm x
      · exact absurd (hE i hi3 e) e2
      · have : i = (x.1 80 9).toNatClampNeg := by omega
        rw [this]; exact ⟨a3, by unfold stg; rw [y84]; rfl⟩
    · rw [e]; exact ⟨a3, by unfold stg; rw [y84]; rfl⟩
  have nb : ∀ k : Int32, (k = 4 ∨ k = 5) → NB y k (x.1 80 9) := by
    intro k hk
    have hk' : (1 ≤ k.toInt ∧ k.toInt ≤ 5) ∧ ¬ k = 1 ∧ ¬ k = 3 ∧ ¬ k = 2 := by rcases hk with rfl | rfl <;> decide
    refine ⟨fun c => by omega, fun _ => ⟨hk'.1, (x.1 80 9).toNatClampNeg, a3.symm, by omega, fun c => ?_, fun c => absurd c hk'.2.2.2, fun _ => by unfold sop; rw [y81]; rfl⟩⟩
    rcases c with c | c
    · exact absurd c hk'.2.1
    · exact absurd c hk'.2.2.1
  rw [nnz] at c7 eny
  have hVy : KV' K e y Ev := KV_GS gy (KV_fm hN9.1 (by rw [fz _ _ (by omega), f1 _ _ (by omega)]) (fun k => by rw [fz _ _ (by omega), f1 _ _ (by omega)]))
  have hSy : SKs y (om y).toNat u Ev.2.1 := by
    rw [ey, oz]
    exact SKs_eq (fun k _ => ⟨by rw [GS_at gy 111 k (by unfold sSum; omega), fz 111 k (by omega), f1 111 k (by omega)], by rw [GS_at gy 113 k (by unfold sSum; omega), fz 113 k (by omega), f1 113 k (by omega)]⟩) hN9.2.1
  have lay : Lb x y := Lb_tr (Lb_tr (Lb_fm f1 (fun c k q => by unfold Tc; omega)) (Lb_fm fz (fun c k q => by unfold Tc; omega))) (Lb_GS gy)
  have y7 : y.1 100 7 = x.1 100 7 := by rw [GS_at gy 100 7 (by unfold sSum; omega), fz 100 7 (by omega), f1 100 7 (by omega)]
  have hRy2 : RIw K V sN e Ev x y [(62, nn x, 0)] := RI_dull hRy (dull_k (by decide))
  have st62 : still [(62, nn x, 0)] := stl_k (by decide)
  have y9c : (y.1 100 9).toNatClampNeg = Ev.1.length := by rw [t_cl, hVy.1]; rfl
  have k24 : y.1 23 (nn y) = 54 ↔ K (nn y) = 24 := KA_k hRy.1 hRy.2.1 54 (by decide)
  have hfu : 16 - u.length = 16 - u.length := rfl
  refine ⟨fun cne => ?_, fun c => ?_⟩
  · have hW4 : W = (pBk (pS K (16 - u.length)) K 4 c9 (nn y) (L ++ [(62, nn x, 0)])).bind (fun q => eC K 4 u q.1 q.2.1 q.2.2) := by
      rw [eW, eny]
      exact eC_else kk18 c7 (fun q => cne (k24.mpr (by rw [eny]; exact q)))
    refine kd_openBlock hq 4 _ (fun no => hx (by rw [hW4, pBk, if_neg no]; rfl)) hRy2 hVy (z9 := 4) (by decide) hSy hBy (by omega) (by omega) (by decide) (Or.inr (by decide)) (nb 4 (Or.inl rfl)) (fun i hi he => Or.inr (hEE i hi he)) (fun w9 hBu nu su ou u13 kk c79 enu lau hRu hVu hSu u7 hpu => rv_i (h w9 ([(62, nn x, 0)] ++ [(20, 4, 0)]) (4 :: u) (Or.inl ⟨hBu, ?_⟩) (RI_dull hRu (dull_k (by decide))) ?_ (Lb_tr lay lau) (by rw [u7, y7]) (by omega) (by omega) (by omega) (by omega) (by rw [u13]; exact y13) (hpu.elim (fun w0 q0 => CGn_20 (CG_62 hN9.1 hst ez h8 (fun c k q9 => (q0.1 c k q9).trans (hcy c k q9)) q0.2 (by decide))))))
    · rw [hW4, eS_block (by decide) rfl kk c79, enu, List.append_assoc]
    · have ex : exs ([(62, nn x, 0)] ++ [(20, 4, 0)]) Ev = (Ev.1, Ev.1.length :: Ev.2.1, Ev.2.2) := by
        rw [exs_app, exs_still st62]; rfl
      rw [ex]
      rw [y9c] at hSu
      exact ⟨hVu, hSu, LBo_push hN9.2.2⟩
  · have c24 := k24.mp c
    refine kd_enter hq hBy (by omega) (by omega) 5 _ (Or.inr (by decide)) (nb 5 (Or.inr rfl)) (fun i hi he _ => (hEE i hi he).2) (fun w9 hBu nu su ou fu u4 ff t1 t3 hpu => rv_i (h w9 [(62, nn x, 0)] (5 :: u) (Or.inr ⟨⟨BB_E hBu (fun _ => rfl) (fun i hi he hne => ?_), ?_⟩, ?_⟩) (RI_st hRy2 u4 (fun j => fu _ _ (by omega)) (fun c k q1 q2 => fu _ _ (by omega))) ?_ (Lb_tr lay (Lb_fm ff (fun c k q => by unfold Tc; omega))) (by rw [ff 100 7 (by omega), y7]) (by omega) (by omega) (by omega) (by omega) (by rw [fu 60 13 (by omega)]; exact y13) (CG_62 hN9.1 hst ez h8 hcy hpu (by decide))))
    rotate_left 2
    · have en9 : nn w9 = nn x + 1 := by rw [← eny]; unfold nn; rw [u4]
      rw [eW, en9]
      exact eC_elif kk18 c7 (by rw [← eny]; exact c24)
    · rw [exs_still st62]
      refine ⟨KV_fm hVy (ff _ _ (by omega)) (fun k => ff _ _ (by omega)), ?_, hN9.2.2⟩
      have o0 := (BB_om hBy).1.1
      have ey9 : (y.1 100 13).toNatClampNeg = (om y).toNat := by rw [t_cl]
      have ez : (om w9).toNat = (om y).toNat + 1 := by omega
      rw [ey9] at t1 t3 ff
      rw [ez]
      exact ⟨5, u, rfl, by rw [t1]; rfl, Or.inl ⟨rfl, SKs_eq (fun k hk => ⟨ff 111 k (by omega), ff 113 k (by omega)⟩) hSy⟩⟩
    · rcases he with ⟨e, -⟩ | ⟨-, e, e2⟩
      · exact absurd e hne
      · exact absurd (hEE i (by omega) e).1 e2
    · rw [u4, fu 23 _ (by omega)]; exact c
theorem kd_endThread (hq : kV q) (hB : BB x0 x M E) (ho : om x = 0) (hM : M ≤ (x.1 60 13).toInt) (hE : ∀ i : Nat, (i : Int) < ssm x → ¬ E i) (ha : 2 * ssm x + 2 ≤ nx x) (h : ∀ y, OT x0 y → nx y = nx x → fm (fun c k => (81 ≤ c ∧ c ≤ 89 ∧ k = (x.1 80 9).toNatClampNeg) ∨ (c = 80 ∧ k = 9) ∨ (c = 100 ∧ k = 5)) x y → (∃ w, stK x w 21 0 (-1) (-1) (-1) (-1) (-1) ∧ (∀ c k, ¬ (c = 100 ∧ k = 5) → y.1 c k = w.1 c k) ∧ y.1 100 5 = 0) → Fv y) : KT G q (d + 1) zk_X7_endThread 0 [(0, vr 100)] [] x (rv Fv) := by
  obtain ⟨a1, a2, a3, a4, a5⟩ := BB_400 hB (by omega)
  refine kg_X7_endThread_0 hq (kf_add hq _ _ _ a1 a2 (fun w hA vin hF9 z ez => rv_i ?_))
  obtain ⟨f1, f2, f3, f4, f5⟩ := hA
  obtain ⟨hS, hF, ⟨r1, r2, r3, ⟨r4, r6⟩, r7⟩, hC, r5, r0, hI⟩ := hB
  have f : fm (fun c k => (81 ≤ c ∧ c ≤ 89 ∧ k = (x.1 80 9).toNatClampNeg) ∨ (c = 80 ∧ k = 9) ∨ (c = 100 ∧ k = 5)) x z := by rw [ez]; exact fm_si (fm_w f1 (fun c k q => by omega)) (Or.inr (Or.inr ⟨rfl, rfl⟩))
  have z5 : z.1 100 5 = 0 := by rw [ez]; (simp only [si_get, sfl_get, Nat.reduceEqDiff, eq_self, and_false, false_and, and_true, true_and, if_true, if_false, reduceIte, reduceCtorEq])
  have es : ssm z = ssm x + 1 := by
    have : z.1 80 9 = w.1 80 9 := by rw [ez]; (simp only [si_get, sfl_get, Nat.reduceEqDiff, eq_self, and_false, false_and, and_true, true_and, if_true, if_false, reduceIte, reduceCtorEq])
    unfold ssm at *; rw [this]; exact f2
  have z81 : z.1 81 (x.1 80 9).toNatClampNeg = 21 := by rw [ez]; (simp only [si_get, sfl_get, Nat.reduceEqDiff, eq_self, and_false, false_and, and_true, true_and, if_true, if_false, reduceIte, reduceCtorEq]); exact f3
  have z83 : z.1 83 (x.1 80 9).toNatClampNeg = 0 := by rw [ez]; (simp only [si_get, sfl_get, Nat.reduceEqDiff, eq_self, and_false, false_and, and_true, true_and, if_true, if_false, reduceIte, reduceCtorEq]); exact f4
  have e4 : nx z = nx x := by unfold nx; rw [f 100 4 (by omega)]
  have la : La x z := ⟨fun c k q1 q2 => f c k (by omega), by omega, fun j _ => f 42 j (by omega)⟩
  have k21 : (21 : Int32).toInt = 21 := rfl
  have k0 : (0 : Int32).toInt = 0 := rfl
  have z13 : z.1 60 13 = x.1 60 13 := f _ _ (by omega)
  refine h z ⟨?_, ?_, ⟨fun c => absurd z5 c, NM_fm r2 (fun c k q1 q2 q3 q4 => f c k (by omega)) (f _ _ (by omega)) (f _ _ (by omega)), ?_, ⟨by omega, fun i hi => ?_⟩, ?_⟩, fun i hi _ => ?_, z5, fm_tr r0 (fm_w f (fun c k q => by unfold sR; omega)), by omega⟩ e4 f ⟨w, ⟨fun c k q q1 q2 => f1 c k (fun z => z.elim q1 q2), f2, f3, f4, f5, hF9.1, hF9.2.1, hF9.2.2.1, hF9.2.2.2⟩, fun c k q => by rw [ez, si_get, if_neg q], z5⟩
  · obtain ⟨⟨hT, b1, b2, b3⟩, ⟨u1, u2⟩, hp, hP⟩ := hS
    unfold SU SV US RB mt
    rw [f 20 7 (by omega), f 60 3 (by omega), e4]
    refine ⟨⟨kT_fm hT la.1, b1, b2, b3⟩, ⟨fun j h1 h2 => ?_, fun j h1 h2 => ?_⟩, hp, fun i hi => La_PQ la (f _ _ (by omega)) (f _ _ (by omega)) (hP i hi)⟩
    · rw [f 42 j (by omega)]; exact u1 j h1 h2
    · rw [f 42 j (by omega)] at h2; rw [f 42 _ (by omega)]; exact u2 j h1 h2
  · unfold FR at hF ⊢
    rw [f 100 4 (by omega), f 42 _ (by omega)]; exact hF
  · unfold CD at r3 ⊢
    rw [f 60 6 (by omega), f 60 9 (by omega), f 60 10 (by omega), f 60 14 (by omega), f 60 16 (by omega), z13, f 40 8 (by omega), f 40 10 (by omega)]
    exact ⟨r3.1, r3.2.1, r3.2.2.1, r3.2.2.2.1, r3.2.2.2.2.1, r3.2.2.2.2.2.1, fun c => absurd z5 c⟩
  · by_cases hi2 : i = (x.1 80 9).toNatClampNeg
    · rw [hi2]
      unfold SA sop stg
      rw [z81, z83, k21, k0]
      exact ⟨by omega, by omega, fun c => by omega, fun c => by omega⟩
    · exact SA_La la (f _ _ (by omega)) (f _ _ (by omega)) (f _ _ (by omega)) (f _ _ (by omega)) (by rw [z13]; exact hM) (r6 i (by omega))
  · unfold TS at r7 ⊢
    rw [f 60 10 (by omega)]
    refine ⟨fun t ht => ?_, fun _ => Or.inr ?_⟩
    · rw [f 72 t (by omega)]
      obtain ⟨p1, p2, -⟩ := r7.1 t ht
      exact ⟨p1, by omega, fun _ => by omega⟩
    · have : (ssm z).toNat - 1 = (x.1 80 9).toNatClampNeg := by omega
      rw [this]; exact z81
  · by_cases hi2 : i = (x.1 80 9).toNatClampNeg
    · rw [hi2]
      refine SC_no ?_ ?_ <;> (unfold sop; rw [z81]; decide)
    · have := hC i (by omega) (hE i (by omega))
      unfold SC at this ⊢
      have ep : sop z i = sop x i := by unfold sop; rw [f 81 i (by omega)]
      have et : stg z i = stg x i := by unfold stg; rw [f 84 i (by omega)]
      rw [ep, et]
      intro c
      rcases this c with ⟨p1, p2, j, p3, p4⟩ | ⟨p1, p2, p3, p4⟩
      · omega
      · refine Or.inr ⟨p1, by omega, fun _ => by omega, fun c20 => ?_⟩
        rcases p4 c20 with g1 | g1
        · exact Or.inl g1
        · by_cases hlt : (i : Int) < stg x i
          · exact Or.inl hlt
          · refine Or.inr ?_
            unfold sop at g1 ⊢
            rw [f 81 _ (by omega)]; exact g1
end KCLF
end
section
/-! the class: a block is closed -/
section KCLG
variable {G : kG} {q : kP} {d : Nat} {x x0 y z xs : gd} {F : Int32 → gd → Prop} {Fv : gd → Prop} {X : String → gd → Prop} {P : Option gv → gd → Prop} {M : Int} {E : Nat → Prop} {K V : Nat → Int32} {sN : Nat → Nat → Bool} {e : Nat} {Ev : gV} {Ml N : gU} {W : gTs}
theorem kd_closeBlock (hq : kV q) (c9 : Nat) (L : gU) {u : List Nat} (hx : W = none → RX x0 X) (eW : W = eS K u c9 (nn x) L) (hk64 : K (nn x) = 64) (hA : KA K V sN e x) (hn0 : nn x ≤ e) (hN9 : EN K e x u Ev) (hB : BB x0 x (x.1 60 13).toInt E0) (h1 : 1 ≤ om x) (ho : om x ≤ 17) (ha : 2 * ssm x + om x ≤ nx x) (h : ∀ y N u9, (BB x0 y (y.1 60 13).toInt E0 ∧ W = eS K u9 c9 (nn y) (L ++ N) ∨ (BB x0 y (y.1 60 13).toInt E1 ∧ y.1 23 (y.1 100 4).toNatClampNeg = 54) ∧ W = eX K u9 c9 (nn y) (L ++ N)) → 1 ≤ om y → om y ≤ 17 → 2 * ssm y + om y ≤ nx y → RIw K V sN e Ev x y N → EN K e y u9 (exs N Ev) → Lb x y → y.1 100 7 = x.1 100 7 → nx x < nx y → CG sN V K Ev x y N → Fv y) (hOT : ∀ y N, OT x0 y → RIw K V sN e Ev x y N → (exs N Ev).1 = [] → (exs N Ev).2.1 = [] → Lb x y → W = some (c9, nn y, L ++ N) → nx x < nx y → CG sN V K Ev x y N → Fv y) : KE G q (d + 10) zk_X7_closeBlock 0 [(0, vr 100)] [] x (rv Fv) X := by
  have bx0 := hB.1.1.2.1
  have oS : (om x).toNat = ((om x).toNat - 1) + 1 := by omega
  have hSx := hN9.2.1
  rw [oS] at hSx
  obtain ⟨z9, u2, B2, eu, ez9, z95, eb, eB, hS2⟩ := SKs_top hSx (hB.2.2.2.2.2.2.1 (fun e => e) ((om x).toNat - 1) (by omega))
  rw [eu] at eW
  have hR0 : RIw K V sN e Ev x x [] := ⟨hA, hn0, UR_0 rfl⟩
  refine kg_X7_closeBlock_0 hq (kd_need (xs := x) (Ml := []) (Ev := Ev) hq 24 64 (by decide) (by decide) (by decide) (fun no => hx (by rw [eW]; exact eS_close7 z95 hk64 (Nat.le_of_not_lt (fun z => no ⟨hk64, z⟩)))) hB hR0 (fun kk c7 x1 hB1 n1 g1 en1 hR1 u0 hc1 x2 e2 => ?_))
  have hW1 : W = eC K z9 u2 c9 (nn x1) (L ++ [(21, z9, 0)]) := by rw [eW, eS_close z95 kk c7, en1]
  have o1 := GS_om g1
  have s1 := GS_sm g1
  have m13 : x1.1 60 13 = x.1 60 13 := GS_at g1 _ _ (by unfold sSum; omega)
  have e13 : (x1.1 100 13 - 1).toInt = om x1 - 1 := t_sub (by show _ ≤ _ - (1 : Int); unfold om at *; omega) (by show _ - (1 : Int) ≤ _; unfold om at *; omega)
  have q2 : x2.1 100 13 = x1.1 100 13 - 1 := by rw [e2]; (simp only [si_get, sfl_get, Nat.reduceEqDiff, eq_self, and_false, false_and, and_true, true_and, if_true, if_false, reduceIte, reduceCtorEq])
  have N2 : (x2.1 100 13).toNatClampNeg = (om x1).toNat - 1 := by rw [q2, t_cl, e13]; omega
  have v2 : vp_in (x2.1 100 13) 20 := by rw [q2, vp_in_iff, e13]; omega
  refine ⟨v2, fun x4 e4 => ?_⟩
  rw [N2] at e4
  have f2 : fm (fun c k => c = 100 ∧ k = 13) x1 x2 := by rw [e2]; exact fm_si (fm_rf _ _) ⟨rfl, rfl⟩
  rw [f2 113 _ (by omega)] at e4
  have q4 : x4.1 100 13 = x2.1 100 13 := by rw [e4]; (simp only [si_get, sfl_get, Nat.reduceEqDiff, eq_self, and_false, false_and, and_true, true_and, if_true, if_false, reduceIte, reduceCtorEq])
  have f4 : fm (fun c k => c = 100 ∧ (k = 9 ∨ k = 13)) x1 x4 := by rw [e4]; exact fm_si (fm_w f2 (fun c k q => ⟨q.1, Or.inr q.2⟩)) ⟨rfl, Or.inl rfl⟩
  have k4 : x4.1 100 9 = x1.1 113 ((om x1).toNat - 1) := by rw [e4]; (simp only [si_get, sfl_get, Nat.reduceEqDiff, eq_self, and_false, false_and, and_true, true_and, if_true, if_false, reduceIte, reduceCtorEq])
  have o4 : om x4 = om x1 - 1 := by unfold om at *; rw [q4, q2]; exact e13
  obtain ⟨kk, oo, cc⟩ := BB_k hB1
  have hop := oo.2.1 ((om x1).toNat - 1) (by omega)
  have hB4 := BB_pop hB1 (by omega) f4 o4 (by rw [k4]; exact hop.2.2) (fun j hj => by rw [k4]; exact oo.2.2.1 j _ (by omega) (by omega))
  have n4 : nx x4 = nx x1 := by unfold nx; rw [f4 100 4 (by omega)]
  have s4 : ssm x4 = ssm x1 := by unfold ssm; rw [f4 80 9 (by omega)]
  have m4 : x4.1 60 13 = x.1 60 13 := by rw [f4 60 13 (by omega)]; exact m13
  have g113 : ∀ k, x1.1 113 k = x.1 113 k := fun k => GS_at g1 113 k (by unfold sSum; omega)
  have g111 : ∀ k, x1.1 111 k = x.1 111 k := fun k => GS_at g1 111 k (by unfold sSum; omega)
  have hV1 := KV_GS g1 hN9.1
  have hd : (x1.1 113 ((om x1).toNat - 1)).toNatClampNeg = Ev.2.1.headD 0 := by rw [g113, o1]; exact eb
  have hd2 : ((Ev.2.1.headD 0 : Nat) : Int) = (x1.1 113 ((om x1).toNat - 1)).toInt := by
    have u := t_cl (x1.1 113 ((om x1).toNat - 1))
    have := hop.2.2.1
    rw [hd] at u
    omega
  have hm : Ev.2.1.headD 0 ≤ Ev.1.length := by
    have a := hop.2.2.2
    have b := hV1.1
    omega
  have hV4 : KV' K e x4 (exV Ev (21, z9, 0)) := KV_drop hV1 hm (by rw [k4]; exact hd2.symm) (fun k => f4 109 k (by omega))
  have o4x : (om x4).toNat = (om x).toNat - 1 := by omega
  have hS4 : SKs x4 (om x4).toNat u2 Ev.2.1.tail := by
    rw [o4x, eB]
    exact SKs_eq (fun k _ => ⟨by rw [f4 111 k (by omega), g111], by rw [f4 113 k (by omega), g113]⟩) hS2
  have hR4 : RIw K V sN e Ev x x4 [(21, z9, 0)] := RI_dull (RI_st hR1 (f4 _ _ (by omega)) (fun j => f4 _ _ (by omega)) (fun c k q1 q2 => f4 _ _ (by omega))) (dull_k (by decide))
  have n41 : nn x4 = nn x1 := by unfold nn; rw [f4 100 4 (by omega)]
  have l4 : Lb x x4 := Lb_tr (Lb_GS g1) (Lb_fm f4 (fun c k q => by unfold Tc; omega))
  have x47 : x4.1 100 7 = x.1 100 7 := by rw [f4 100 7 (by omega), GS_at g1 100 7 (by unfold sSum; omega)]
  have ul2 := SKs_len hS4
  have ez1 : (x1.1 111 ((om x1).toNat - 1)).toInt = (z9 : Nat) := by rw [g111, o1]; exact ez9
  have hLB : 1 ≤ om x4 → LBo Ev.2.1.tail := fun h1 => LBo_pop hN9.2.2 (SKs_B0 hS4 (fun k hk => by
    by_cases k0 : 0 < k
    · exact Or.inl k0
    · refine Or.inr ?_
      have k00 : k = 0 := by omega
      rw [k00, f4 111 0 (by omega)]
      have := ((oo.2.1 0 (by omega)).1 rfl).1
      rw [this]; decide) (by omega))
  rw [← n41] at hW1
  refine ⟨by rw [q4]; exact v2, by rw [q4]; exact v2, ?_⟩
  rw [q4, N2, f4 111 _ (by omega), f4 112 _ (by omega)]
  have hpo : ∀ (k : Int32) (t : Nat), x1.1 111 ((om x1).toNat - 1) = k → ¬ k = 0 → (x1.1 112 ((om x1).toNat - 1)).toInt = (t : Nat) → Po x1 x4 t := fun k t ek hk et => ⟨fun c j q q1 => f4 c j (by unfold ccS at q; omega), by rw [q4, N2, t_cl]; show _ = (om x1).toNat; omega, by rw [q4, N2, ek]; exact hk, by rw [q4, N2]; exact et, hB1.2.2.2.2.1⟩
  -- the block's step
  have step : ∀ k : Int32, x1.1 111 ((om x1).toNat - 1) = k → ¬ k = 0 → ∃ t : Nat, (x1.1 112 ((om x1).toNat - 1)).toInt = t ∧ (t : Int) < ssm x1 ∧ 1 ≤ om x4 ∧ (k = 1 ∨ k = 3 → sop x4 t = 17) ∧ (k = 2 → sop x4 t = 5) ∧ (k = 4 ∨ k = 5 → sop x4 t = 20) := by
    intro k ek hk
    have hpos : 0 < (om x1).toNat - 1 := by
      refine Nat.pos_of_ne_zero (fun e => hk ?_)
      rw [← ek]; exact (hop.1 e).1
    obtain ⟨-, t, t1, t2, t3⟩ := hop.2.1 hpos
    refine ⟨t, t1, t2, by omega, ?_⟩
    rw [← ek]
    unfold sop at t3 ⊢
    rw [f4 81 t (by omega)]; exact t3
  have hR5 : ∀ k : Int32, x1.1 111 ((om x1).toNat - 1) = k → (k = 1 ∨ k = 2) → ∀ y, om y = om x4 → (∀ j, y.1 111 j = x1.1 111 j) → TIk y := by
    intro k ek hk y oy fy j hj
    rw [fy j]
    intro c
    have := hB1.2.2.2.2.2.2.2 j (by omega) c
    have hj1 : j + 1 = (om x1).toNat - 1 := by omega
    rw [hj1, ek] at this
    rcases hk with rfl | rfl <;> revert this <;> decide
  have hE4 : ∀ (t : Nat), (x1.1 112 ((om x1).toNat - 1)).toInt = t → ∀ i : Nat, (i : Int) < ssm x4 → (E0 i ∨ (i : Int) = (x1.1 112 ((om x1).toNat - 1)).toInt ∨ i = 1000000) → i = t := by
    intro t et i hi he
    have b2 := hB1.1.1.2.2.1
    rcases he with e | e | e
    · exact absurd e (fun e => e)
    · omega
    · omega
  have endI : ∀ (y : gd), BB x0 y (x.1 60 13).toInt E0 → nx y = nx x4 → ssm y = ssm x4 → om y ≤ om x4 → (1 ≤ om x4 → 1 ≤ om y) → y.1 60 13 = x4.1 60 13 → fm (fun c k => c = 84 ∨ (c = 100 ∧ k = 13)) x4 y → ∀ (uy : List Nat) (N : gU), SKs y (om y).toNat uy Ev.2.1.tail → n63 N → ∀ k : Nat, z9 = k → (k = 3 ∨ k = 4) → (∃ t, Po x1 x4 t ∧ CE sN V K t x4 y N) → 1 ≤ om x4 → W = eS K uy c9 (nn x4) (L ++ [(21, k, 0)] ++ [(63, 0, 0)] ++ N) → Fv y := by
    intro y hBy ny sy oy oy1 y13 fy uy N hSy hN k zk hk34 hce t3 hWy
    rw [zk] at hR4 hV4
    have nny : nn y = nn x4 := by unfold nn; rw [fy 100 4 (by omega)]
    have st6 : still ([(63, 0, 0)] ++ N) := still_app (stl_k (by decide)) (n63_still hN)
    have ex : exs ([(21, k, 0)] ++ ([(63, 0, 0)] ++ N)) Ev = exV Ev (21, k, 0) := by rw [exs_app, exs_still st6]; rfl
    have hRy : RIw K V sN e Ev x y ([(21, k, 0)] ++ [(63, 0, 0)] ++ N) := RI_63 (RI_dull (RI_st hR4 (fy _ _ (by omega)) (fun j => fy _ _ (by omega)) (fun c k q1 q2 => fy _ _ (by omega))) (dull_k (by decide))) hN
    rw [List.append_assoc] at hRy
    refine h y ([(21, k, 0)] ++ ([(63, 0, 0)] ++ N)) uy (Or.inl ⟨by rw [y13, m4]; exact hBy, ?_⟩) (oy1 t3) (by omega) (by omega) hRy ?_ (Lb_tr l4 (Lb_fm fy (fun c k q => by unfold Tc; omega))) (by rw [fy 100 7 (by omega), x47]) (by omega) (hce.elim (fun t9 q9 => CG_21n hc1 q9.1 hk34 (CE_n q9.2 hN)))
    · rw [nny, hWy, List.append_assoc L, List.append_assoc L, List.append_assoc [(21, k, 0)]]
    · rw [ex]
      exact ⟨KV_fm hV4 (fy _ _ (by omega)) (fun k => fy _ _ (by omega)), hSy, hLB t3⟩
  obtain ⟨a1, a2, a3, a4, a5⟩ := BB_400 hB4 (by omega)
  refine ⟨fun c => ?_, fun c => ?_, fun c => ?_, fun c => ?_, fun c => ?_⟩
  · -- while
    obtain ⟨t, t1, t2, t3, t4, -⟩ := step 1 c (by decide)
    have p17 := t4 (Or.inl rfl)
    have tN : (x1.1 112 ((om x1).toNat - 1)).toNatClampNeg = t := by rw [t_cl, t1]; rfl
    have vt : vp_in (x1.1 112 ((om x1).toNat - 1)) 400 := by rw [vp_in_iff]; omega
    refine ⟨vt, kf_add hq _ _ _ a1 a2 (fun w hAd vin hF9 => ⟨vin, fun x12 e12 => ⟨vt, fun x14 e14 => rv_i ?_⟩⟩)⟩
    obtain ⟨f1, g2, g3, g4, g5⟩ := hAd
    rw [tN] at e14
    have k20 : (20 : Int32).toInt = 20 := rfl
    have hSA : SA w (x.1 60 13).toInt (x4.1 80 9).toNatClampNeg := by
      unfold SA sop stg
      rw [g3, g4, k20]
      exact ⟨by omega, ⟨a4, a5⟩, fun c => by omega, fun c => by omega⟩
    have hBw := BB_add hB4 (n := (x4.1 80 9).toNatClampNeg) (by omega) f1 g2 hSA
    have pw : sop w t = 17 := by unfold sop at p17 ⊢; rw [f1 81 t (by omega)]; exact p17
    have pn : sop w (x4.1 80 9).toNatClampNeg = 20 := by unfold sop; rw [g3]; rfl
    have hB12 := BB_tg hBw (by omega) (n := (x4.1 80 9).toNatClampNeg) (by omega) (Or.inr pn) e12 ⟨by omega, by omega, fun _ => Or.inr (by rw [t1]; exact pw)⟩
    have f12 : fm (fun c k => c = 84) w x12 := by rw [e12]; exact fm_si (fm_rf _ _) rfl
    have s12 : ssm x12 = ssm w := by unfold ssm; rw [f12 80 9 (by omega)]
    have p12 : sop x12 t = 17 := by unfold sop at pw ⊢; rw [f12 81 t (by omega)]; exact pw
    have hB14 := BB_tg hB12 (by omega) (n := t) (by omega) (Or.inl p12) e14 ⟨by show 0 ≤ ssm x12; omega, Int.le_refl _, fun c => by omega⟩
    have f14 : fm (fun c k => c = 84) x12 x14 := by rw [e14]; exact fm_si (fm_rf _ _) rfl
    have F : fm (fun c k => (81 ≤ c ∧ c ≤ 89) ∨ (c = 80 ∧ k = 9)) x4 x14 := fm_tr (fm_tr (fm_w f1 (fun c k q => by omega)) (fm_w f12 (fun c k q => by omega))) (fm_w f14 (fun c k q => by omega))
    have s14 : ssm x14 = ssm x4 + 1 := by
      have : ssm x14 = ssm x12 := by unfold ssm; rw [f14 80 9 (by omega)]
      omega
    have n14 : nx x14 = nx x4 := by unfold nx; rw [F 100 4 (by omega)]
    have o14 : om x14 = om x4 := by unfold om; rw [F 100 13 (by omega)]
    have hT : TIk x14 := hR5 1 c (Or.inl rfl) x14 o14 (fun j => by rw [F 111 j (by omega), f4 111 j (by omega)])
    have z1 : z9 = 1 := by
      rw [c] at ez1
      have k1 : (1 : Int32).toInt = 1 := rfl
      omega
    have nn14 : nn x14 = nn x4 := by unfold nn; rw [F 100 4 (by omega)]
    refine h x14 [(21, z9, 0)] u2 (Or.inl ⟨?_, ?_⟩) (by omega) (by omega) (by omega) (RI_st hR4 (F _ _ (by omega)) (fun j => F _ _ (by omega)) (fun c k q1 q2 => F _ _ (by omega))) ⟨KV_fm hV4 (F _ _ (by omega)) (fun k => F _ _ (by omega)), ?_, hLB t3⟩ (Lb_tr l4 (Lb_fm F (fun c k q => by unfold Tc; omega))) (by rw [F 100 7 (by omega), x47]) (by omega) (by
      rw [z1] at hV4 ⊢
      exact CG_21w hc1 (hpo 1 t c (by decide) t1) hV4 t1 (stK_84 ⟨fun c k q q1 q2 => f1 c k (fun z => z.elim q1 q2), g2, g3, g4, g5, hF9.1, hF9.2.1, hF9.2.2.1, hF9.2.2.2⟩ e12) e14 (fun q => by
        unfold sop at p12
        rw [q] at p12
        exact absurd p12 (by decide)))
    rotate_left 1
    · rw [hW1, z1, eC_12 (Or.inl rfl), nn14]
    · rw [o14]; exact SKs_eq (fun k _ => ⟨F _ _ (by omega), F _ _ (by omega)⟩) hS4
    rw [F 60 13 (by omega), m4]
    refine ⟨hB14.1, hB14.2.1, hB14.2.2.1, fun i hi _ => ?_, hB14.2.2.2.2.1, hB14.2.2.2.2.2.1, fun _ => hT, hB14.2.2.2.2.2.2.2⟩
    refine hB14.2.2.2.1 i hi (fun e => ?_)
    obtain ⟨⟨e | e, e2⟩, e3⟩ := e
    · by_cases hi4 : (i : Int) < ssm x4
      · exact e3 (hE4 t t1 i hi4 e)
      · exact e2 (by omega)
    · exact e2 e
  · -- lock
    obtain ⟨t, t1, t2, t3, -, t4, -⟩ := step 2 c (by decide)
    have p5 := t4 rfl
    have tN : (x1.1 112 ((om x1).toNat - 1)).toNatClampNeg = t := by rw [t_cl, t1]; rfl
    have vt : vp_in (x1.1 112 ((om x1).toNat - 1)) 400 := by rw [vp_in_iff]; omega
    refine ⟨vt, kf_add hq _ _ _ a1 a2 (fun w hAd vin hF9 => ⟨vt, vin, fun x14 e14 => rv_i ?_⟩)⟩
    obtain ⟨f1, g2, g3, g4, g5⟩ := hAd
    rw [tN, f1 85 t (by omega)] at e14
    have fz : fm (fun c k => (81 ≤ c ∧ c ≤ 89 ∧ k = (x4.1 80 9).toNatClampNeg) ∨ (c = 80 ∧ k = 9)) x4 x14 := by rw [e14]; exact fm_si f1 (Or.inl ⟨by omega, by omega, rfl⟩)
    have es : ssm x14 = ssm x4 + 1 := by
      have : x14.1 80 9 = w.1 80 9 := by rw [e14]; (simp only [si_get, sfl_get, Nat.reduceEqDiff, eq_self, and_false, false_and, and_true, true_and, if_true, if_false, reduceIte, reduceCtorEq])
      unfold ssm at *; rw [this]; exact g2
    have z81 : x14.1 81 (x4.1 80 9).toNatClampNeg = 6 := by rw [e14]; (simp only [si_get, sfl_get, Nat.reduceEqDiff, eq_self, and_false, false_and, and_true, true_and, if_true, if_false, reduceIte, reduceCtorEq]); exact g3
    have z83 : x14.1 83 (x4.1 80 9).toNatClampNeg = x4.1 100 9 := by rw [e14]; (simp only [si_get, sfl_get, Nat.reduceEqDiff, eq_self, and_false, false_and, and_true, true_and, if_true, if_false, reduceIte, reduceCtorEq]); exact g4
    have z85 : x14.1 85 (x4.1 80 9).toNatClampNeg = x4.1 85 t := by rw [e14]; (simp only [si_get, sfl_get, Nat.reduceEqDiff, eq_self, and_false, false_and, and_true, true_and, if_true, if_false, reduceIte, reduceCtorEq])
    have k6 : (6 : Int32).toInt = 6 := rfl
    have n14 : nx x14 = nx x4 := by unfold nx; rw [fz 100 4 (by omega)]
    have o14 : om x14 = om x4 := by unfold om; rw [fz 100 13 (by omega)]
    have hSA : SA x14 (x.1 60 13).toInt (x4.1 80 9).toNatClampNeg := by
      have g := hB4.2.2.1.2.2.2.1.2 t (by omega)
      unfold SA at g
      rw [p5] at g
      obtain ⟨u, u1, u2, -, u4, -⟩ := g.2.2.1 (by omega)
      unfold SA sop stg
      rw [z81, z83, z85, k6]
      refine ⟨by omega, ⟨a4, a5⟩, fun _ => ⟨u, u1, by omega, fun c => by omega, fun _ _ => ?_, fun c => by omega⟩, fun c => by omega⟩
      rw [fz 42 u (by omega)]; exact u4 (by omega) (by omega)
    have hB14 := BB_add hB4 (n := (x4.1 80 9).toNatClampNeg) (by omega) fz es hSA
    have hT : TIk x14 := hR5 2 c (Or.inr rfl) x14 o14 (fun j => by rw [fz 111 j (by omega), f4 111 j (by omega)])
    have z2 : z9 = 2 := by
      rw [c] at ez1
      have k2 : (2 : Int32).toInt = 2 := rfl
      omega
    have nn14 : nn x14 = nn x4 := by unfold nn; rw [fz 100 4 (by omega)]
    refine h x14 [(21, z9, 0)] u2 (Or.inl ⟨?_, ?_⟩) (by omega) (by omega) (by omega) (RI_st hR4 (fz _ _ (by omega)) (fun j => fz _ _ (by omega)) (fun c k q1 q2 => fz _ _ (by omega))) ⟨KV_fm hV4 (fz _ _ (by omega)) (fun k => fz _ _ (by omega)), ?_, hLB t3⟩ (Lb_tr l4 (Lb_fm fz (fun c k q => by unfold Tc; omega))) (by rw [fz 100 7 (by omega), x47]) (by omega) (by
      rw [z2] at hV4 ⊢
      exact CG_21l hc1 (hpo 2 t c (by decide) t1) hV4 (by show (t : Int) < ssm x4; omega) (by rw [t_eq]; exact p5) ⟨fun c k q q1 q2 => fz c k (fun z => z.elim q1 q2), es, z81, z83, rfl, z85, by rw [e14]; (simp only [si_get, sfl_get, Nat.reduceEqDiff, eq_self, and_false, false_and, and_true, true_and, if_true, if_false, reduceIte, reduceCtorEq]); exact hF9.2.1, by rw [e14]; (simp only [si_get, sfl_get, Nat.reduceEqDiff, eq_self, and_false, false_and, and_true, true_and, if_true, if_false, reduceIte, reduceCtorEq]); exact hF9.2.2.1, by rw [e14]; (simp only [si_get, sfl_get, Nat.reduceEqDiff, eq_self, and_false, false_and, and_true, true_and, if_true, if_false, reduceIte, reduceCtorEq]); exact hF9.2.2.2⟩)
    rotate_left 1
    · rw [hW1, z2, eC_12 (Or.inr rfl), nn14]
    · rw [o14]; exact SKs_eq (fun k _ => ⟨fz _ _ (by omega), fz _ _ (by omega)⟩) hS4
    rw [fz 60 13 (by omega), m4]
    refine ⟨hB14.1, hB14.2.1, hB14.2.2.1, fun i hi _ => ?_, hB14.2.2.2.2.1, hB14.2.2.2.2.2.1, fun _ => hT, hB14.2.2.2.2.2.2.2⟩
    by_cases hin : i = (x4.1 80 9).toNatClampNeg
    · rw [hin]
      refine SC_no ?_ ?_ <;> (unfold sop; rw [z81]; decide)
    · by_cases hit : i = t
      · rw [hit]
        refine SC_no ?_ ?_ <;> (unfold sop at p5 ⊢; rw [fz 81 t (by omega)]; omega)
      · refine hB14.2.2.2.1 i hi (fun e => ?_)
        rcases e with e | e
        · exact hit (hE4 t t1 i (by omega) e)
        · exact hin e
  · -- if
    obtain ⟨t, t1, t2, t3, t4, -⟩ := step 3 c (by decide)
    have p17 := t4 (Or.inr rfl)
    have z3 : z9 = 3 := by
      rw [c] at ez1
      have k3 : (3 : Int32).toInt = 3 := rfl
      omega
    have k18 : x4.1 23 (nn x4) = 48 ↔ K (nn x4) = 18 := KA_k hR4.1 hR4.2.1 48 (by decide)
    rw [z3] at hW1 hR4 hV4
    refine kp_sort hq hB4.1.1 ⟨fun cne => ?_, fun c48 => ?_⟩
    · rw [eC_if (fun q => cne (k18.mpr q))] at hW1
      refine kd_endIf hq K u2 Ev.2.1.tail c9 (nn x4) (L ++ [(21, 3, 0)] ++ [(63, 0, 0)]) hS4 hB4 _ t1 (by omega) (by omega) (Or.inl p17) (hE4 t t1) (fun y hBy ny sy oy oy1 y13 fy uy N hSy hN hWy hCE => rv_i (endI y hBy ny sy oy oy1 y13 fy uy N hSy hN 3 z3 (Or.inl rfl) ⟨t, hpo 3 t c (by decide) t1, hCE⟩ t3 (by rw [hW1, hWy])))
    · refine kd_openElse hq c9 (L ++ [(21, 3, 0)]) hx hW1 (by omega) hR4.1 hR4.2.1 (Ev := exV Ev (21, 3, 0)) ⟨hV4, hS4, hLB t3⟩ hB4 _ t1 (by omega) t3 (by omega) (by omega) p17 (hE4 t t1) c48 (fun y N u9 hy hRy hNy ly y7 ny sy oy acc y13 hcn => rv_i (h y ([(21, 3, 0)] ++ N) u9 ?_ (by omega) (by omega) (by omega) (RI_on (by omega) hR4 ly.1 hRy) hNy (Lb_tr l4 ly) (by rw [y7, x47]) (by omega) (CG_21n hc1 (hpo 3 t c (by decide) t1) (Or.inl rfl) hcn)))
      rw [y13, m4, ← List.append_assoc]; exact hy
  · -- else
    obtain ⟨t, t1, t2, t3, -, -, t4⟩ := step 4 c (by decide)
    have p20 := t4 (Or.inl rfl)
    have z4 : z9 = 4 := by
      rw [c] at ez1
      have k4 : (4 : Int32).toInt = 4 := rfl
      omega
    rw [z4, eC_4] at hW1
    exact kd_endIf hq K u2 Ev.2.1.tail c9 (nn x4) (L ++ [(21, 4, 0)] ++ [(63, 0, 0)]) hS4 hB4 _ t1 (by omega) (by omega) (Or.inr p20) (hE4 t t1) (fun y hBy ny sy oy oy1 y13 fy uy N hSy hN hWy hCE => rv_i (endI y hBy ny sy oy oy1 y13 fy uy N hSy hN 4 z4 (Or.inr rfl) ⟨t, hpo 4 t c (by decide) t1, hCE⟩ t3 (by rw [hW1, hWy])))
  · -- the thread's end
    have b2 := hB1.1.1.2.2.1
    by_cases h0 : (om x1).toNat - 1 = 0
    · refine kd_endThread hq hB4 (by omega) (by rw [m4]; exact Int.le_refl _) (fun i hi e => ?_) (by omega) (fun y hy ny fy hte => rv_i ?_)
      rotate_left 1
      · have z0 : z9 = 0 := by
          have := (hop.1 h0).1
          rw [this] at ez1
          have k0 : (0 : Int32).toInt = 0 := rfl
          omega
        have o40 : (om x4).toNat = 0 := by omega
        rw [o40] at hS4
        have bt : Ev.2.1.tail = [] := hS4.2
        have b0 := LBo_end hN9.2.2 bt
        have nny : nn y = nn x4 := by unfold nn; rw [fy 100 4 (by omega)]
        refine hOT y [(21, z9, 0)] hy (RI_st hR4 (fy _ _ (by omega)) (fun j => fy _ _ (by omega)) (fun c k q1 q2 => fy _ _ (by omega))) ?_ bt (Lb_tr l4 (Lb_fm fy (fun c k q => by unfold Tc; omega))) (by rw [hW1, z0, eC_0, nny]) (by omega) (by
          obtain ⟨w9, a9, fz9, z59⟩ := hte
          have h1110 := (hop.1 h0).1
          rw [h0] at h1110
          rw [z0]
          refine CG_21t hc1 (fun c j q q1 => f4 c j (by unfold ccS at q; omega)) (by rw [t_cl]; show (om x1).toNat = 1; omega) h1110 hB1.2.2.2.2.1 a9 fz9 z59 (by rw [t_cl]; exact o40) ?_
          show Ev.1.drop (Ev.1.length - Ev.2.1.headD 0) = []
          rw [b0, Nat.sub_zero, List.drop_length])
        show Ev.1.drop (Ev.1.length - Ev.2.1.headD 0) = []
        rw [b0, Nat.sub_zero, List.drop_length]
      have g := (hop.1 h0).2
      rcases e with e | e | e
      · exact e
      · rw [g, tm1] at e; omega
      · omega
    · exfalso
      obtain ⟨⟨p1, p5⟩, -⟩ := hop.2.1 (Nat.pos_of_ne_zero h0)
      have c1 := c 1 (by decide)
      have c2 := c 2 (by decide)
      have c3 := c 3 (by decide)
      have c4 := c 4 (by decide)
      have hT := hB1.2.2.2.2.2.2.1 (fun e => e) ((om x1).toNat - 1) (by omega)
      clear h hE4 hR5 step c
      ((try simp only [t_lt, t_le, t_eq, t_cl, tm1, vp_in_iff, Int32.toInt_add, Int32.toInt_sub, Int32.toInt_mul, Int32.reduceToInt, Nat.reducePow] at *) <;> (try simp (disch := omega) only [bm] at *) <;> omega)
end KCLG
end
section
/-! the class: a statement -/
section KSA
variable {G : kG} {q : kP} {d : Nat} {x x0 y z : gd} {F : Int32 → gd → Prop} {Fv : gd → Prop} {X : String → gd → Prop} {P : Option gv → gd → Prop} {M : Int} {E : Nat → Prop}
end KSA
end
