/-! the class: an if ends -/
def n63 (N : gU) : Prop := ∀ v ∈ N, v = (63, 0, 0)
theorem n63_still {N : gU} (h : n63 N) : still N := fun v hv => by rw [h v hv]; decide
theorem n63_dull {v : Nat × Nat × Nat} (h : v = (63, 0, 0)) : dull v := by
  intro k hk c
  rw [h] at c
  have c : 63 = k := c
  rw [← c] at hk
  exact absurd hk (by decide)
theorem UR_63 {sN : Nat → Nat → Bool} {E : gV} {x y : gd} : ∀ {N M : gU}, UR sN E x y M → n63 N → UR sN E x y (M ++ N) := by
  intro N
  induction N with
  | nil => intro M h _; rw [List.append_nil]; exact h
  | cons v N ih =>
    intro M h g
    have := ih (UR_dull h (n63_dull (g v List.mem_cons_self))) (fun w hw => g w (List.mem_cons_of_mem _ hw))
    rw [List.append_assoc] at this
    exact this
section KEF
variable {G : kG} {q : kP} {d : Nat} {x x0 y z : gd} {F : Int32 → gd → Prop} {Fv : gd → Prop} {X : String → gd → Prop} {P : Option gv → gd → Prop} {M : Int} {E : Nat → Prop} {sN : Nat → Nat → Bool} {V : Nat → Int32}
theorem kd_endIf (hq : kV q) (K : Nat → Int32) (u B : List Nat) (c9 j9 : Nat) (L : gU) (hS : SKs x (om x).toNat u B) (hB : BB x0 x M E) (s : Int32) {n : Nat} (es : s.toInt = n) (hn : (n : Int) < ssm x) (hsm : ssm x < 400) (hop : sop x n = 17 ∨ sop x n = 20) (hE : ∀ i : Nat, (i : Int) < ssm x → E i → i = n) (h : ∀ y, BB x0 y M E0 → nx y = nx x → ssm y = ssm x → om y ≤ om x → (1 ≤ om x → 1 ≤ om y) → y.1 60 13 = x.1 60 13 → fm (fun c k => c = 84 ∨ (c = 100 ∧ k = 13)) x y → ∀ uy N, SKs y (om y).toNat uy B → n63 N → eS K u c9 j9 L = eS K uy c9 j9 (L ++ N) → CE sN V K n x y N → Fv y) : KT G q d zk_X7_endIf 0 [(0, vr 100), (1, vi s)] [] x (rv Fv) := by
  have eN : s.toNatClampNeg = n := by rw [t_cl, es]; rfl
  have k0 : (0 : Int32).toInt = 0 := rfl
  have k20 : (20 : Int32).toInt = 20 := rfl
  refine kg_X7_endIf_0 hq _ ⟨by rw [vp_in_iff]; omega, fun x2 e2 => ?_⟩
  rw [eN] at e2
  have hB2 : BB x0 x2 M E1 := BB_E (BB_tg hB (by omega) hn hop e2 ⟨hB.2.2.1.2.2.2.1.1, Int.le_refl _, fun _ => Or.inl hn⟩) (fun _ => rfl) (fun i hi he _ => by
    have : ssm x2 = ssm x := by unfold ssm; rw [e2, si_cell (by decide)]
    exact absurd (hE i (by omega) he.1) he.2)
  have h8 : ∀ (g : gd) (i : Nat), (sop g i = 17 ∨ sop g i = 20) → ¬ g.1 81 i = 8 := fun g i hg q => by
    unfold sop at hg
    rw [q] at hg
    exact absurd hg (by decide)
  have f2 : fm (fun c k => c = 84) x x2 := by rw [e2]; exact fm_si (fm_rf _ _) rfl
  have loop : ∀ (m : Nat) (k : Int32) (y : gd) (uy : List Nat) (N : gU), SKs y (om y).toNat uy B → n63 N → eS K u c9 j9 L = eS K uy c9 j9 (L ++ N) → CE sN V K n x y N → BB x0 y M E1 → fm (fun c k => c = 84 ∨ (c = 100 ∧ k = 13)) x y → om y ≤ om x → (1 ≤ om x → 1 ≤ om y) → 0 ≤ k.toInt → k.toInt + om y ≤ 18 → om y ≤ m → KT G q d zk_X7_endIf 18 [(0, vr 100), (2, vi k)] [] y (rv Fv) := by
    intro m
    induction m with
    | zero =>
      intro k y uy N hSy hN hWy hCy hBy fy o1 o2 hk0 hk hm
      have o0 := (BB_om hBy).1.1
      refine kg_X7_endIf_18 hq _ ⟨fun c => ?_, fun c => ⟨fun c2 => rv_i (h y ?_ ?_ ?_ o1 o2 (fy _ _ (by omega)) fy uy N hSy hN hWy hCy), fun c2 => ?_⟩⟩
      · exfalso; rw [t_le, k20] at c; omega
      · refine ⟨hBy.1, hBy.2.1, hBy.2.2.1, fun i hi he => hBy.2.2.2.1 i hi (fun e => ?_), hBy.2.2.2.2.1, hBy.2.2.2.2.2.1, fun _ k hk2 => by omega, hBy.2.2.2.2.2.2.2⟩
        have : ssm y = ssm x := by unfold ssm; rw [fy 80 9 (by omega)]
        have e' : i = 1000000 := e
        omega
      · unfold nx; rw [fy 100 4 (by omega)]
      · unfold ssm; rw [fy 80 9 (by omega)]
      · exfalso; rw [t_le, k0] at c2; unfold om at *; omega
    | succ m ih =>
      intro k y uy N hSy hN hWy hCy hBy fy o1 o2 hk0 hk hm
      have o0 := (BB_om hBy).1.1
      have esm : ssm y = ssm x := by unfold ssm; rw [fy 80 9 (by omega)]
      have out : (TIk y) → Fv y := fun hT => by
        refine h y ⟨hBy.1, hBy.2.1, hBy.2.2.1, fun i hi he => hBy.2.2.2.1 i hi (fun e => ?_), hBy.2.2.2.2.1, hBy.2.2.2.2.2.1, fun _ => hT, hBy.2.2.2.2.2.2.2⟩ ?_ esm o1 o2 (fy _ _ (by omega)) fy uy N hSy hN hWy hCy
        · have e' : i = 1000000 := e
          omega
        · unfold nx; rw [fy 100 4 (by omega)]
      refine kg_X7_endIf_18 hq _ ⟨fun c => ?_, fun c => ⟨fun c2 => rv_i (out (fun k hk2 => ?_)), fun c2 => ?_⟩⟩
      · exfalso; rw [t_le, k20] at c; omega
      · rw [t_le, k0] at c2; unfold om at *; omega
      rw [t_le, k0] at c2
      have o1' : 1 ≤ om y := by unfold om at *; omega
      have e13 : (y.1 100 13 - 1).toInt = om y - 1 := t_sub (by show _ ≤ _ - (1 : Int); unfold om at *; omega) (by show _ - (1 : Int) ≤ _; unfold om at *; omega)
      have n13 : (y.1 100 13 - 1).toNatClampNeg = (om y).toNat - 1 := by rw [t_cl, e13]; omega
      refine ⟨by rw [vp_in_iff, e13]; omega, fun c3 => rv_i (out (fun k hk2 => ?_)), fun c3 x5 e5 => ?_⟩
      · rw [n13] at c3
        have : k = (om y).toNat - 1 := by omega
        rw [this]; exact c3
      rw [n13] at c3
      obtain ⟨ky, oy, cy⟩ := BB_k hBy
      have hop1 := oy.2.1 ((om y).toNat - 1) (by omega)
      have hpos : 0 < (om y).toNat - 1 := by
        refine Nat.pos_of_ne_zero (fun e => ?_)
        have := (hop1.1 e).1
        rw [c3] at this
        exact absurd this (by decide)
      obtain ⟨-, t, t1, t2, -, -, t5⟩ := hop1.2.1 hpos
      have t20 := t5 (Or.inr c3)
      have f5 : fm (fun c k => c = 100 ∧ k = 13) y x5 := by rw [e5]; exact fm_si (fm_rf _ _) ⟨rfl, rfl⟩
      have q5 : om x5 = om y - 1 := by
        have : x5.1 100 13 = y.1 100 13 - 1 := by rw [e5]; (simp only [si_get, sfl_get, Nat.reduceEqDiff, eq_self, and_false, false_and, and_true, true_and, if_true, if_false, reduceIte, reduceCtorEq])
        unfold om at *; rw [this]; exact e13
      have hB5 := BB_pop hBy o1' (fm_w f5 (fun c k q => ⟨q.1, Or.inr q.2⟩)) q5 (by rw [f5 100 9 (by omega)]; exact ⟨ky.1.1, Int.le_refl _⟩) (fun j hj => by rw [f5 100 9 (by omega)]; exact (oy.2.1 j (by omega)).2.2.2)
      have m5 : (x5.1 100 13).toNatClampNeg = (om y).toNat - 1 := by
        rw [t_cl]; show (om x5).toNat = _; omega
      have s5 : x5.1 112 ((om y).toNat - 1) = y.1 112 ((om y).toNat - 1) := f5 _ _ (by omega)
      have tN : (y.1 112 ((om y).toNat - 1)).toNatClampNeg = t := by rw [t_cl, t1]; rfl
      have sm5 : ssm x5 = ssm y := by unfold ssm; rw [f5 80 9 (by omega)]
      refine ⟨by rw [vp_in_iff]; show 0 ≤ om x5 ∧ om x5 < _; omega, ?_⟩
      rw [m5, s5]
      refine ⟨by rw [vp_in_iff]; omega, fun x8 e8 => ?_⟩
      rw [tN] at e8
      have p5 : sop x5 t = 20 := by unfold sop at t20 ⊢; rw [f5 81 t (by omega)]; exact t20
      have hB8 : BB x0 x8 M E1 := BB_E (BB_tg hB5 (by omega) (n := t) (by omega) (Or.inr p5) e8 ⟨hB5.2.2.1.2.2.2.1.1, Int.le_refl _, fun _ => Or.inl (by show (t : Int) < ssm x5; omega)⟩) (fun _ => rfl) (fun i hi he hne => by
        rcases he with ⟨e | e | e, e2⟩
        · exact absurd e hne
        · exact absurd (by omega) e2
        · exact absurd e hne)
      have f8 : fm (fun c k => c = 84) x5 x8 := by rw [e8]; exact fm_si (fm_rf _ _) rfl
      have o8 : om x8 = om x5 := by unfold om; rw [f8 100 13 (by omega)]
      have ek : (k + 1).toInt = k.toInt + 1 := t_add (by show _ ≤ _ + (1 : Int); omega) (by show _ + (1 : Int) ≤ _; omega)
      have k5 : (5 : Int32).toInt = 5 := rfl
      have nS : (om y).toNat = ((om y).toNat - 1) + 1 := by omega
      have e8n : (om x8).toNat = (om y).toNat - 1 := by omega
      have v1 : om x8 ≤ om x := by omega
      have v2 : 1 ≤ om x8 := by omega
      have v3 : 0 ≤ (k + 1).toInt := by omega
      have v4 : (k + 1).toInt + om x8 ≤ 18 := by omega
      have v5 : om x8 ≤ (m : Int) := by omega
      rw [nS] at hSy
      obtain ⟨z9, u', q1, q2, q3⟩ := hSy
      rw [c3, k5] at q2
      have z5 : z9 = 5 := by clear q3; omega
      have hS' : SKs y ((om y).toNat - 1) u' B := by
        rcases q3 with ⟨-, q⟩ | ⟨q, -⟩
        · exact q
        · exact absurd z5 q
      have hS8 : SKs x8 (om x8).toNat u' B := by
        rw [e8n]
        exact SKs_eq (fun k _ => ⟨by rw [f8 _ _ (by omega), f5 _ _ (by omega)], by rw [f8 _ _ (by omega), f5 _ _ (by omega)]⟩) hS'
      exact ih (k + 1) x8 u' (N ++ [(63, 0, 0)]) hS8 (fun v hv => (List.mem_append.mp hv).elim (hN v) (fun q => List.mem_singleton.mp q)) (by rw [hWy, q1, z5, eS_5, List.append_assoc]) (CE_more hCy ⟨fun c j _ q => f5 c j q, by rw [m5, t_cl]; show _ = (om y).toNat; omega, by rw [m5, c3]; decide, by rw [m5]; exact t1, hBy.2.2.2.2.1⟩ e8 (h8 _ _ (Or.inr p5))) hB8 (fm_tr fy (fm_tr (fm_w f5 (fun c k q => Or.inr q)) (fm_w f8 (fun c k q => Or.inl q)))) v1 (fun _ => v2) v3 v4 v5
  have o2 : om x2 = om x := by unfold om; rw [f2 100 13 (by omega)]
  have o18 := (BB_om hB).1
  exact loop 18 _ x2 u [] (by rw [o2]; exact SKs_eq (fun k _ => ⟨f2 _ _ (by omega), f2 _ _ (by omega)⟩) hS) (fun v hv => by cases hv) (by rw [List.append_nil]) (CE_0 e2 (h8 _ _ hop)) hB2 (fm_w f2 (fun c k q => Or.inl q)) (by omega) (by omega) (by decide) (by rw [k0]; omega) (by omega)
end KEF
