section
/-! the class: a statement -/
def OPK (s r : Int32) : Prop := (r = -1 ∧ ∀ k ∈ [(2 : Int32), (56 : Int32), (54 : Int32), (71 : Int32), (57 : Int32), (66 : Int32), (52 : Int32), (68 : Int32), (69 : Int32), (70 : Int32), (63 : Int32), (55 : Int32), (50 : Int32), (61 : Int32), (45 : Int32), (44 : Int32), (43 : Int32), (49 : Int32)], ¬ s = k) ∨ (¬ r = -1 ∧ (s = 2 ∨ s = 56 ∨ s = 54 ∨ s = 71 ∨ (s = 57 ∧ r = 5) ∨ (5 ≤ r.toInt ∧ r.toInt ≤ 8 ∧ (s = 66 ∨ s = 52 ∨ s = 68 ∨ s = 69 ∨ s = 70)) ∨ (9 ≤ r.toInt ∧ r.toInt ≤ 10 ∧ (s = 63 ∨ s = 55)) ∨ (r = 13 ∧ s = 45) ∨ ((r = 14 ∨ r = 18) ∧ (s = 43 ∨ s = 44)) ∨ ((r = 11 ∨ r = 12 ∨ r = 19) ∧ (s = 50 ∨ s = 61 ∨ s = 49))) ∧ ((s = 2 ∨ s = 56 ∨ s = 54 ∨ s = 71 ∨ s = 57) ∨ r = Int32.ofNat (opQ (kc s))))
section KSF
variable {G : kG} {q : kP} {d : Nat} {x x0 y z xs : gd} {F : Int32 → gd → Prop} {Fv : gd → Prop} {X : String → gd → Prop} {P : Option gv → gd → Prop} {M : Int} {E : Nat → Prop} {K V : Nat → Int32} {sN : Nat → Nat → Bool} {e : Nat} {Ev : gV} {Ml N : gU} {W : gTs}
theorem kd_opOf (hq : kV q) (s : Int32) (h : ∀ r : Int32, OPK s r → F r x) : KT G q d zk_X7_opOf 0 [(0, vi s)] [] x (ri F) := by
  refine kg_X7_opOf_0 hq _ ⟨fun c => ri_i (h _ (Or.inr ?_)), fun c => ri_i (h _ (Or.inr ?_)), fun c => ri_i (h _ (Or.inr ?_)), fun c => ri_i (h _ (Or.inr ?_)), fun c => ri_i (h _ (Or.inr ?_)), fun c => ri_i (h _ (Or.inr ?_)), fun c => ri_i (h _ (Or.inr ?_)), fun c => ri_i (h _ (Or.inr ?_)), fun c => ri_i (h _ (Or.inr ?_)), fun c => ri_i (h _ (Or.inr ?_)), fun c => ri_i (h _ (Or.inr ?_)), fun c => ri_i (h _ (Or.inr ?_)), fun c => ri_i (h _ (Or.inr ?_)), fun c => ri_i (h _ (Or.inr ?_)), fun c => ri_i (h _ (Or.inl ⟨rfl, c⟩))⟩
  · rcases c with rfl | rfl <;> decide
  · rcases c with rfl | rfl <;> decide
  · rcases c with rfl | rfl <;> decide
  · subst c; decide
  · subst c; decide
  · rcases c with rfl | rfl <;> decide
  all_goals (subst c; decide)
theorem pS1_none {f c i : Nat} {L : gU} (h : ∀ k ∈ [(1 : Int32), (26 : Int32), (24 : Int32), (41 : Int32), (27 : Int32), (36 : Int32), (22 : Int32), (38 : Int32), (39 : Int32), (40 : Int32), (33 : Int32), (25 : Int32), (20 : Int32), (31 : Int32), (15 : Int32), (14 : Int32), (13 : Int32), (19 : Int32)], ¬ K i = k) : pS1 K f c i L = none := by
  have n : ∀ k : Int32, k ∈ [(1 : Int32), (26 : Int32), (24 : Int32), (41 : Int32), (27 : Int32), (36 : Int32), (22 : Int32), (38 : Int32), (39 : Int32), (40 : Int32), (33 : Int32), (25 : Int32), (20 : Int32), (31 : Int32), (15 : Int32), (14 : Int32), (13 : Int32), (19 : Int32)] → K i = k → False := fun k hk c => h k hk c
  unfold pS1
  rw [if_neg (n 26 (by decide)), if_neg (n 1 (by decide)), if_neg (fun z => z.elim (n 20 (by decide)) (fun z => z.elim (n 31 (by decide)) (n 19 (by decide)))), if_neg (fun z => z.elim (n 13 (by decide)) (n 14 (by decide))), if_neg (n 15 (by decide)), if_neg (fun z => z.elim (n 36 (by decide)) (fun z => z.elim (n 22 (by decide)) (fun z => z.elim (n 38 (by decide)) (fun z => z.elim (n 39 (by decide)) (n 40 (by decide)))))), if_neg (fun z => z.elim (n 33 (by decide)) (n 25 (by decide)))]
theorem pS_none {c i : Nat} {L : gU} (h : ∀ k ∈ [(1 : Int32), (26 : Int32), (24 : Int32), (41 : Int32), (27 : Int32), (36 : Int32), (22 : Int32), (38 : Int32), (39 : Int32), (40 : Int32), (33 : Int32), (25 : Int32), (20 : Int32), (31 : Int32), (15 : Int32), (14 : Int32), (13 : Int32), (19 : Int32)], ¬ K i = k) : ∀ f, pS K f c i L = none := by
  intro f
  cases f with
  | zero => rfl
  | succ f =>
    rw [pS]
    split
    · rfl
    · rw [if_neg (h 24 (by decide)), if_neg (h 41 (by decide)), if_neg (h 27 (by decide))]
      exact pS1_none h
theorem eX_7 {u : List Nat} {c i f : Nat} {L : gU} (hu : 17 - u.length = f + 1) (hi : 700 ≤ i) : eX K u c i L = none := eX_0 (by rw [hu, pS, if_pos hi])
theorem eX_1S {u : List Nat} {c i f : Nat} {L : gU} (hu : 17 - u.length = f + 1) (hi : i < 700) (hK : ¬ K i = 24 ∧ ¬ K i = 41 ∧ ¬ K i = 27) : eX K u c i L = (pS1 K f c i L).bind (fun q => eS K u q.1 q.2.1 q.2.2) := by
  rw [eX, hu, pS, if_neg (by omega), if_neg hK.1, if_neg hK.2.1, if_neg hK.2.2]
theorem HA_65 {U : Nat → Int32} {n a b : Nat} : HAw sN U n Ev (65, a, b) ↔ b < n ∧ U b = 4 := by unfold HAw; simp
theorem HB_65 {a b : Nat} : HB sN Ev (65, a, b) b 4 := by unfold HB; simp
theorem EN_st {u : List Nat} (h : EN K e x u Ev) (hV : KV' K e y Ev) (oy : om y = om x) (op : OPe x y) (hN : still N) : EN K e y u (exs N Ev) := by
  rw [exs_still hN]
  refine ⟨hV, ?_, h.2.2⟩
  rw [oy]
  exact SKs_eq (fun k _ => ⟨op.2.1 _ _ (by omega) (by omega), op.2.1 _ _ (by omega) (by omega)⟩) h.2.1
theorem CG_77 {i : Nat} : CG sN V K Ev x x [(77, i, 0)] := fun c d P he hr hc => by
  have e3 : tPs sN V K [(77, i, 0)] Ev = [] := rfl
  have e4 : ces K V [(77, i, 0)] d = d := rfl
  rw [cds_one, cd_77, e3, e4, List.append_nil]
  exact ⟨hc, by rw [exs_still (stl_k (by decide))]; exact he, hr⟩
theorem CG_some {t0 : Nat} (h : CGs sN V K Ev x y (some t0) N) : CG sN V K Ev x y N := fun c d P he hr hc => h 0 c d P he hr hc
/-- let -/
theorem CG_let {i j : Nat} (fr0 : ∀ c k, ccS c k → y.1 c k = x.1 c k) (h : CGs sN V K Ev y z none N) (hN : still N) (fr : ∀ c k, ccS c k → xs.1 c k = z.1 c k) : CG sN V K Ev x xs ([(23, i, 0)] ++ N ++ [(22, i, j)]) := by
  intro c d P he hr hc
  obtain ⟨Ec, S, k, rr, ww⟩ := c
  have hr : rr = rg0 := hr
  have he : eqE Ec Ev := he
  obtain ⟨g1, g2, g3⟩ := h (i - 1) (Ec, S, k, ([], [], 0, false, none, i - 1), ww) d P he rfl (CCp_eq fr0 hc)
  have e1 : cds sN K [(23, i, 0)] (Ec, S, k, rr, ww) = (Ec, S, k, ([], [], 0, false, none, i - 1), ww) := by
    rw [hr]; rfl
  have st : still ([(23, i, 0)] ++ N) := still_app (stl_k (by decide)) hN
  have e2 : exs ([(23, i, 0)] ++ N ++ [(22, i, j)]) Ev = exV Ev (22, i, j) := by rw [exs_app, exs_still st]; rfl
  have e3 : tPs sN V K ([(23, i, 0)] ++ N ++ [(22, i, j)]) Ev = tPs sN V K N Ev := by
    have a1 : tPs sN V K [(22, i, j)] Ev = [] := rfl
    have a2 : tPs sN V K [(23, i, 0)] Ev = [] := rfl
    rw [tPs_app, exs_still st, a1, List.append_nil, tPs_app, a2, List.nil_append, exs_still (stl_k (by decide))]
  have e4 : ces K V ([(23, i, 0)] ++ N ++ [(22, i, j)]) d = ces K V N d := by rw [ces_app, ces_app]; rfl
  rw [cds_app, cds_app, e1, e4, e3, e2]
  rw [exs_still hN] at g2
  obtain ⟨c', hc'⟩ : ∃ c', c' = cds sN K N (Ec, S, k, ([], [], 0, false, none, i - 1), ww) := ⟨_, rfl⟩
  rw [← hc'] at g1 g2 g3 ⊢
  obtain ⟨E', S', k', r', w'⟩ := c'
  exact ⟨CCp_eq fr g1, exV_q (v := (22, i, j)) g2, g3⟩
theorem kd_statement (hq : kV q) (c9 : Nat) (L : gU) {u : List Nat} (hx : W = none → RX x0 X) (eW : W = eX K u c9 (nn x) L) (hc9 : (x.1 100 7).toInt = (c9 : Nat)) (hA : KA K V sN e x) (hn0 : nn x ≤ e) (hN9 : EN K e x u Ev) (hI : IT x0 x) (h : ∀ y N u9 (c8 : Nat), BB x0 y (y.1 60 13).toInt E0 → 1 ≤ om y → om y ≤ 17 → 2 * ssm y + om y ≤ nx y → RIw K V sN e Ev x y N → EN K e y u9 (exs N Ev) → Lb x y → (y.1 100 7).toInt = (c8 : Nat) → W = eS K u9 c8 (nn y) (L ++ N) → nx x < nx y → CG sN V K Ev x y N → Fv y) : KE G q (d + 12) zk_X7_statement 0 [(0, vr 100)] [] x (rv Fv) X := by
  have k16 : (16 : Int32).toInt = 16 := rfl
  obtain ⟨hB, o1, o17, acc⟩ := hI
  have hRB : RB x := by
    rcases hB with e | e
    · exact e.1.1
    · exact e.1.1.1
  have bx0 := hRB.2.1
  have ul := SKs_len hN9.2.1
  have hEv : ¬ Ev.2.1 = [] := by
    obtain ⟨B', e⟩ := hN9.2.2
    rw [e]
    simp
  have rs : ∀ {P : Option gv → gd → Prop} {v : Int32} (hv9 : ¬ v = 0 := by decide), W = none → KE G q (d + 11) zk_X7_refuse 0 [(0, vr 100), (1, vi v)] [] x P X := by
    intro P v hv9 hW
    rcases hB with e | e
    · exact kb_refuse hq (hx hW) e v hv9
    · exact kb_refuse hq (hx hW) e.1 v hv9
  have p35 : W = none → ∀ l o : Int32, KE G q (d + 12) zk_X7_statement 35 [(0, vr 100), (1, vi l), (2, vi o)] [] x (rv Fv) X := fun hW l o => kg_X7_statement_35 hq _ _ ⟨fun _ => kg_X7_statement_46 hq _ _ _ (rs (by decide) hW), fun _ => kg_X7_statement_46 hq _ _ _ (rs (by decide) hW)⟩
  have hKs : K (nn x) = kc (x.1 23 (nn x)) := (hA.1 _ hn0).symm
  have ki : ∀ s k : Int32, kc s = k → x.1 23 (x.1 100 4).toNatClampNeg = s → K (nn x) = k := fun s k e1 e2 => by rw [hKs, ← e1]; exact congrArg kc e2
  have ik : ∀ s k : Int32, kc s = k → ¬ k = -1 → K (nn x) = k → x.1 23 (x.1 100 4).toNatClampNeg = s := fun s k e1 e2 e3 => kc_i (by rw [e1, ← e3]; exact hA.1 _ hn0) (by rw [e1]; exact e2)
  refine kg_X7_statement_0 hq ⟨RB_at hRB, kp_sort hq hRB (kd_opOf hq _ (fun o hop => ⟨fun cm => p35 ?_ _ _, fun cn => ⟨fun c16 => ?_, fun c16 => p35 ?_ _ _⟩⟩))⟩
  · rw [eW]
    refine eX_0 (pS_none ?_ _)
    rcases hop with ⟨-, g⟩ | ⟨g, -⟩
    · intro k hk ck
      have g2 : ∀ s : Int32, s ∈ [(2 : Int32), (56 : Int32), (54 : Int32), (71 : Int32), (57 : Int32), (66 : Int32), (52 : Int32), (68 : Int32), (69 : Int32), (70 : Int32), (63 : Int32), (55 : Int32), (50 : Int32), (61 : Int32), (45 : Int32), (44 : Int32), (43 : Int32), (49 : Int32)] → kc s = k → False := fun s hs es => g s hs (ik s k es (by
        intro e9
        rw [e9] at hk
        exact absurd hk (by decide)) ck)
      have hk2 : k = 1 ∨ k = 26 ∨ k = 24 ∨ k = 41 ∨ k = 27 ∨ k = 36 ∨ k = 22 ∨ k = 38 ∨ k = 39 ∨ k = 40 ∨ k = 33 ∨ k = 25 ∨ k = 20 ∨ k = 31 ∨ k = 15 ∨ k = 14 ∨ k = 13 ∨ k = 19 := by
        simpa using hk
      rcases hk2 with e | e | e | e | e | e | e | e | e | e | e | e | e | e | e | e | e | e
      · exact g2 2 (by decide) (by rw [e]; decide)
      · exact g2 56 (by decide) (by rw [e]; decide)
      · exact g2 54 (by decide) (by rw [e]; decide)
      · exact g2 71 (by decide) (by rw [e]; decide)
      · exact g2 57 (by decide) (by rw [e]; decide)
      · exact g2 66 (by decide) (by rw [e]; decide)
      · exact g2 52 (by decide) (by rw [e]; decide)
      · exact g2 68 (by decide) (by rw [e]; decide)
      · exact g2 69 (by decide) (by rw [e]; decide)
      · exact g2 70 (by decide) (by rw [e]; decide)
      · exact g2 63 (by decide) (by rw [e]; decide)
      · exact g2 55 (by decide) (by rw [e]; decide)
      · exact g2 50 (by decide) (by rw [e]; decide)
      · exact g2 61 (by decide) (by rw [e]; decide)
      · exact g2 45 (by decide) (by rw [e]; decide)
      · exact g2 44 (by decide) (by rw [e]; decide)
      · exact g2 43 (by decide) (by rw [e]; decide)
      · exact g2 49 (by decide) (by rw [e]; decide)
    · exact absurd cm g
  rotate_left 1
  · rw [t_le, k16] at c16
    rw [eW]
    refine eX_0 ?_
    have : 17 - u.length = 0 := by unfold om at ul; omega
    rw [this]; rfl
  have hopq : (x.1 23 (x.1 100 4).toNatClampNeg = 2 ∨ x.1 23 (x.1 100 4).toNatClampNeg = 56 ∨ x.1 23 (x.1 100 4).toNatClampNeg = 54 ∨ x.1 23 (x.1 100 4).toNatClampNeg = 71 ∨ x.1 23 (x.1 100 4).toNatClampNeg = 57) ∨ o = Int32.ofNat (opQ (kc (x.1 23 (x.1 100 4).toNatClampNeg))) := by
    rcases hop with ⟨g, -⟩ | g
    · exact absurd g cn
    · exact g.2.2
  obtain ⟨-, hop⟩ : ¬ o = -1 ∧ (x.1 23 (x.1 100 4).toNatClampNeg = 2 ∨ x.1 23 (x.1 100 4).toNatClampNeg = 56 ∨ x.1 23 (x.1 100 4).toNatClampNeg = 54 ∨ x.1 23 (x.1 100 4).toNatClampNeg = 71 ∨ (x.1 23 (x.1 100 4).toNatClampNeg = 57 ∧ o = 5) ∨ (5 ≤ o.toInt ∧ o.toInt ≤ 8 ∧ (x.1 23 (x.1 100 4).toNatClampNeg = 66 ∨ x.1 23 (x.1 100 4).toNatClampNeg = 52 ∨ x.1 23 (x.1 100 4).toNatClampNeg = 68 ∨ x.1 23 (x.1 100 4).toNatClampNeg = 69 ∨ x.1 23 (x.1 100 4).toNatClampNeg = 70)) ∨ (9 ≤ o.toInt ∧ o.toInt ≤ 10 ∧ (x.1 23 (x.1 100 4).toNatClampNeg = 63 ∨ x.1 23 (x.1 100 4).toNatClampNeg = 55)) ∨ (o = 13 ∧ x.1 23 (x.1 100 4).toNatClampNeg = 45) ∨ ((o = 14 ∨ o = 18) ∧ (x.1 23 (x.1 100 4).toNatClampNeg = 43 ∨ x.1 23 (x.1 100 4).toNatClampNeg = 44)) ∨ ((o = 11 ∨ o = 12 ∨ o = 19) ∧ (x.1 23 (x.1 100 4).toNatClampNeg = 50 ∨ x.1 23 (x.1 100 4).toNatClampNeg = 61 ∨ x.1 23 (x.1 100 4).toNatClampNeg = 49))) := by
    rcases hop with ⟨g, -⟩ | g
    · exact absurd g cn
    · exact ⟨g.1, g.2.1⟩
  rw [t_le, k16] at c16
  have ho : om x ≤ 16 := c16
  obtain ⟨f, ef⟩ : ∃ f : Nat, f = 16 - u.length := ⟨_, rfl⟩
  have hf : (f : Int) + om x = 16 := by omega
  have hu1 : 17 - u.length = f + 1 := by omega
  generalize x.1 25 (x.1 100 4).toNatClampNeg = l
  have hR0 : RIw K V sN e Ev x x [] := ⟨hA, hn0, UR_0 rfl⟩
  have fin : ∀ y N, BB x0 y (y.1 60 13).toInt E0 → om y = om x → 2 * ssm y + om y ≤ nx y → RIw K V sN e Ev x y N → still N → KV' K e y Ev → OPe x y → W = eS K u c9 (nn y) (L ++ N) → nx x < nx y → CG sN V K Ev x y N → Fv y := fun y N hBy oy ay hRy hN hVy op hWy ny hCy => h y N u c9 hBy (by omega) (by omega) ay hRy (EN_st hN9 hVy oy op hN) op.1 (by rw [op.2.2]; exact hc9) hWy ny hCy
  have p197 : ∀ (k : Int32) (z9 v9 : Nat), ((k = 1 ∧ K (nn x) = 41 ∧ z9 = 1 ∧ v9 = 61) ∨ (k = 3 ∧ K (nn x) = 24 ∧ z9 = 3 ∧ v9 = 60)) → (k = 1 ∧ ¬ x.1 23 (x.1 100 4).toNatClampNeg = 54 ∨ k = 3) → KE G q (d + 12) zk_X7_statement 197 [] [vi k, vr 100] x (rv Fv) X := by
    intro k z9 v9 hkz hk
    have hk' : k = 1 ∨ k = 3 := hk.imp (fun e => e.1) id
    have go : ∀ y, BB x0 y (x.1 60 13).toInt E0 → nx x < nx y → om y = om x + 1 → 2 * ssm y + om y ≤ nx y → y.1 60 13 = x.1 60 13 → Lb x y → KV' K e y Ev → SKs y (om y).toNat (z9 :: u) (Ev.1.length :: Ev.2.1) → y.1 100 7 = x.1 100 7 → ∀ N, RIw K V sN e Ev x y (N ++ [(20, z9, 0)]) → still N → W = eS K (z9 :: u) c9 (nn y) (L ++ (N ++ [(20, z9, 0)])) → CG sN V K Ev x y (N ++ [(20, z9, 0)]) → Fv y := by
      intro y hBy ny oy ay y13 ly hVy hSy y7 N hRy hN hWy hCy
      refine h y (N ++ [(20, z9, 0)]) (z9 :: u) c9 (by rw [y13]; exact hBy) (by omega) (by omega) ay hRy ?_ ly (by rw [y7]; exact hc9) hWy ny hCy
      have ex : exs (N ++ [(20, z9, 0)]) Ev = (Ev.1, Ev.1.length :: Ev.2.1, Ev.2.2) := by rw [exs_app, exs_still hN]; rfl
      rw [ex]
      exact ⟨hVy, hSy, LBo_push hN9.2.2⟩
    refine kg_X7_statement_197 hq _ ?_
    rcases hB with e | ⟨e, e54⟩
    · exact kd_test hq k f c9 z9 v9 L hx eW hf hkz hA hn0 hN9.1 hEv hN9.2.1 e (fun i hi => absurd hi (fun e => e)) o1 ho acc hk' (Or.inl (e.2.2.2.2.2.2.1 (fun e => e))) (fun y hBy ny oy ay y13 ly hVy hSy y7 N hRy hN hWy hCy => rv_i (go y hBy ny oy ay y13 ly hVy hSy y7 N hRy hN hWy hCy))
    · refine kd_test hq k f c9 z9 v9 L hx eW hf hkz hA hn0 hN9.1 hEv hN9.2.1 e (fun i hi => hi) o1 ho acc hk' (Or.inr ?_) (fun y hBy ny oy ay y13 ly hVy hSy y7 N hRy hN hWy hCy => rv_i (go y hBy ny oy ay y13 ly hVy hSy y7 N hRy hN hWy hCy))
      rcases hk with ⟨-, g⟩ | g
      · exact absurd e54 g
      · exact g
  have hB0 : ¬ x.1 23 (x.1 100 4).toNatClampNeg = 54 → BB x0 x (x.1 60 13).toInt E0 := fun c => by
    rcases hB with e | ⟨-, e⟩
    · exact e
    · exact absurd e c
  have p173 : ∀ (y : gd) (N : gU) (v : Nat × Nat × Nat), BB x0 y (x.1 60 13).toInt E0 → nx x < nx y → om y = om x → 2 * ssm y + om y ≤ nx y + 1 → y.1 60 13 = x.1 60 13 → RIw K V sN e Ev x y N → still N → dull v → still [v] → KV' K e y Ev → OPe x y → W = (pup c9 v (pt K 67 (nn y, L ++ N))).bind (fun q => eS K u q.1 q.2.1 q.2.2) → CG sN V K Ev x y (N ++ [v]) → KE G q (d + 12) zk_X7_statement 173 [(0, vr 100)] [] y (rv Fv) X := by
    intro y N v hBy ny oy ay y13 hRy hN hvd hvs hVy op hWy hCy
    refine kg_X7_statement_173 hq (kd_need hq 27 67 (by decide) (by decide) (by decide) (fun no => hx (by rw [hWy, pt_no no]; rfl)) hBy hRy (fun kk c7 z hBz nz gz en hRz _ hcz => rv_i (fin z (N ++ [v]) ?_ (by rw [GS_om gz]; exact oy) (by rw [GS_om gz, GS_sm gz]; omega) (RI_dull hRz hvd) (still_app hN hvs) (KV_GS gz hVy) (OPe_tr op (OPe_GS gz)) ?_ (by omega) (CG_st hCy hcz))))
    · rw [GS_at gz 60 13 (by unfold sSum; omega), y13]; exact hBz
    · rw [hWy, pt_yes kk c7, en, ← List.append_assoc]; rfl
  refine kg_X7_statement_49 hq _ _ (kp_sort hq hRB ⟨fun c => ?_, fun c => ?_, fun c => ?_, fun c => ?_, fun c => ?_⟩)
  · -- let
    have hBe := hB0 (by rw [c]; decide)
    have k26 := ki 56 26 (by decide) c
    have oS : (om x).toNat = ((om x).toNat - 1) + 1 := by omega
    have hSx := hN9.2.1
    rw [oS] at hSx
    obtain ⟨-, -, -, -, -, -, eb, -, -⟩ := SKs_top hSx (hBe.2.2.2.2.2.2.1 (fun e => e) ((om x).toNat - 1) (by omega))
    have hWl : nn x < 700 → W = (if (K (nn x + 1) = 1 ∧ nn x + 1 < 700) ∧ c9 < 8 ∧ K (nn x + 2) = 50 ∧ nn x + 2 < 700 then pup (c9 + 1) (22, nn x + 1, nn x) ((pR K f none (nn x + 3) (L ++ [(23, nn x + 1, 0)])).bind (pt K 67)) else none).bind (fun q => eS K u q.1 q.2.1 q.2.2) := fun h7 => by
      rw [eW, eX_1S hu1 h7 ⟨by rw [k26]; decide, by rw [k26]; decide, by rw [k26]; decide⟩]
      unfold pS1
      rw [if_pos k26]
    refine kd_newLocal hq (fun no => hx ?_) k26 hA hn0 hN9.1 eb hBe o1 (fun t y hBy ny oy sy ht y9 yl y13 etn hcd y7 eny lay hVy hRy y113 hcy => ?_)
    · by_cases h7 : 700 ≤ nn x
      · rw [eW]; exact eX_7 hu1 h7
      · rw [hWl (by omega)]
        rcases no with no | no
        · rw [if_neg (fun z => no ⟨z.1, by omega, z.2.2⟩)]; rfl
        · exact absurd no h7
    have hWl2 := hWl (by omega)
    rw [if_pos ⟨hcd.1, by omega, hcd.2.2⟩, ← eny] at hWl2
    clear hWl
    obtain ⟨W1, eW1⟩ : ∃ W1, W1 = pR K f none (nn y) (L ++ [(23, nn x + 1, 0)]) := ⟨_, rfl⟩
    rw [← eW1] at hWl2
    obtain ⟨ky, oy', cy⟩ := BB_k hBy
    obtain ⟨M', m1, m2, m3⟩ : ∃ M' : Int, (x.1 60 13).toInt ≤ M' ∧ (y.1 100 9).toInt + 1 ≤ M' ∧ (M' ≤ (x.1 60 13).toInt ∨ M' ≤ (y.1 100 9).toInt + 1) := by
      by_cases hm : (y.1 100 9).toInt + 1 ≤ (x.1 60 13).toInt
      · exact ⟨_, Int.le_refl _, hm, Or.inl (Int.le_refl _)⟩
      · exact ⟨_, by omega, Int.le_refl _, Or.inr (Int.le_refl _)⟩
    have k0 := ky.1.1
    have na : ¬ y.1 100 9 = -1 := fun e => by rw [e, tm1] at k0; omega
    refine kd_source hq (t := none) (W := W1) (fun no => hx (by rw [hWl2, no]; rfl)) eW1 (BB_M m1 hBy) (by omega) (by omega) l _ _ (Or.inr ⟨na, k0, by omega⟩) hEv (Or.inr ⟨Ev.1.length, rfl, na, hVy.1⟩) (Or.inl ⟨rfl, na⟩) hRy.1 hRy.2.1 hVy (fun z hBz nz oz sz ⟨z9, z7, z13, z20, opz⟩ laz hSz => ?_)
    obtain ⟨hVz, N2, hRz, hN2, -, hWz, hCz⟩ := hSz
    have st23 : still [(23, nn x + 1, 0)] := stl_k (by decide)
    have by0 : 0 ≤ nx y := by omega
    have hRxz : RIw K V sN e Ev x z ([(23, nn x + 1, 0)] ++ N2) := RI_app by0 st23 hRy laz hRz
    rw [hWz] at hWl2
    refine kd_need hq 27 67 (by decide) (by decide) (by decide) (fun no => hx (by rw [hWl2]; show (pup (c9 + 1) (22, nn x + 1, nn x) (pt K 67 (nn z, L ++ [(23, nn x + 1, 0)] ++ N2))).bind _ = none; rw [pt_no no]; rfl)) hBz hRxz (fun kk c7 w hBw nw gw enw hRw _ hcw => ?_)
    have w9 : w.1 100 9 = y.1 100 9 := by rw [GS_at gw 100 9 (by unfold sSum; omega)]; exact z9
    have w7 : w.1 100 7 = y.1 100 7 := by rw [GS_at gw 100 7 (by unfold sSum; omega)]; exact z7
    have w13 : w.1 60 13 = x.1 60 13 := by rw [GS_at gw 60 13 (by unfold sSum; omega), z13, y13]
    have w20 : w.1 20 7 = y.1 20 7 := by rw [GS_at gw 20 7 (by unfold sSum; omega)]; exact z20 7
    have ow := GS_om gw
    have sw := GS_sm gw
    have ente : t.toNatClampNeg ≤ e := by
      have := hRy.2.1
      omega
    refine kd_makeKnown hq hBw t (by unfold tk at ht ⊢; rw [w20]; exact ht) (by rw [w9, w7]; exact yl) (by rw [w13, w9]; exact m3) (KV_GS gw hVz) (by rw [etn]; exact hcd.1.1) ente (nn x) (fun v hBv nv ov sv hVv fv v7 => rv_i (h v ([(23, nn x + 1, 0)] ++ N2 ++ [(22, nn x + 1, nn x)]) u (c9 + 1) hBv (by omega) (by omega) (by omega) ?_ ?_ ?_ ?_ ?_ (by omega) (CG_let hcy hCz hN2 (fun c k q => (fv c k (by unfold ccS at q; omega)).trans (hcw c k q)))))
    · exact RI_dull (RI_st hRw (fv _ _ (by omega)) (fun j => fv _ _ (by omega)) (fun c k q1 q2 => fv _ _ (by omega))) (dull_k (by decide))
    · have ex : exs ([(23, nn x + 1, 0)] ++ N2 ++ [(22, nn x + 1, nn x)]) Ev = exV Ev (22, nn x + 1, nn x) := by rw [exs_app, exs_still (still_app st23 hN2)]; rfl
      rw [ex, ← etn]
      refine ⟨hVv, ?_, hN9.2.2⟩
      have ovx : om v = om x := by omega
      rw [ovx]
      exact SKs_eq (fun k _ => ⟨by rw [fv 111 k (by omega), GS_at gw 111 k (by unfold sSum; omega), opz.2.1 _ _ (by omega) (by omega), y113 _ _ (by omega) (by omega)], by rw [fv 113 k (by omega), GS_at gw 113 k (by unfold sSum; omega), opz.2.1 _ _ (by omega) (by omega), y113 _ _ (by omega) (by omega)]⟩) hN9.2.1
    · exact Lb_tr (Lb_tr (Lb_tr lay opz.1) (Lb_GS gw)) (Lb_fm fv (fun c k q => by unfold Tc; omega))
    · rw [v7, w7, y7, hc9]; rfl
    · have env : nn v = nn w := by unfold nn; rw [fv 100 4 (by omega)]
      rw [hWl2]
      show (pup (c9 + 1) (22, nn x + 1, nn x) (pt K 67 (nn z, L ++ [(23, nn x + 1, 0)] ++ N2))).bind _ = _
      rw [pt_yes kk c7, env, enw]
      show eS K u (c9 + 1) (nn z + 1) (L ++ [(23, nn x + 1, 0)] ++ N2 ++ [(22, nn x + 1, nn x)]) = _
      rw [List.append_assoc L, List.append_assoc L]
  · -- a name
    have hBe := hB0 (by rw [c]; decide)
    have k1 := ki 2 1 (by decide) c
    have hWn : nn x < 700 → W = (pS1 K f c9 (nn x) L).bind (fun q => eS K u q.1 q.2.1 q.2.2) := fun h7 => by
      rw [eW, eX_1S hu1 h7 ⟨by rw [k1]; decide, by rw [k1]; decide, by rw [k1]; decide⟩]
    have k65 : nn x < 700 → (x.1 23 ((x.1 100 4).toNatClampNeg + 1) = 25 ↔ K (nn x + 1) = 65) := fun h7 => KA_k hA (KA_on hA hn0 h7 (by rw [k1]; decide) (by rw [k1]; decide)) 25 (by decide)
    obtain ⟨kx, ox, cx⟩ := BB_k hBe
    refine kp_sortBehind hq hRB ⟨fun cb => ?_, fun cb => ?_⟩
    · have hW2 : nn x < 700 → W = (if K (nn x + 1) = 50 ∧ nn x + 1 < 700 then pup c9 (77, nn x, 0) ((pR K f (some (nn x)) (nn x + 2) L).bind (pt K 67)) else none).bind (fun q => eS K u q.1 q.2.1 q.2.2) := fun h7 => by
        rw [hWn h7]
        unfold pS1
        rw [if_neg (by rw [k1]; decide), if_pos k1, if_neg (fun z => cb ((k65 h7).mpr z))]
      refine kd_setTarget hq (fun no => hx ?_) hA hn0 hN9.1 hBe (cx.2.2.2.2.2.2 hBe.2.2.2.2.1) (fun t y hBy ny oy sy vt hl y13 et hcd eny lay hAy hny hVy u1 hm op hTc hcy => ⟨vt, ?_⟩)
      · by_cases h7 : 700 ≤ nn x
        · rw [eW]; exact eX_7 hu1 h7
        · rw [hW2 (by omega), if_neg (fun z => no ⟨⟨k1, by omega⟩, z⟩)]; rfl
      have hW3 := hW2 hcd.1.2
      rw [if_pos hcd.2, ← eny] at hW3
      clear hW2 hWn
      obtain ⟨W1, eW1⟩ : ∃ W1, W1 = pR K f (some (nn x)) (nn y) L := ⟨_, rfl⟩
      rw [← eW1] at hW3
      have etn : t.toNatClampNeg = nn x := by rw [et]
      have by0 : 0 ≤ nx y := by omega
      have hTG : TGT sN Ev y (some (nn x)) (y.1 43 t.toNatClampNeg) := by
        rw [etn]
        refine Or.inr ⟨nn x, rfl, by omega, ?_⟩
        rcases hm with g | g
        · exact Or.inl g
        · exact Or.inr ⟨g.1, g.2.1⟩
      refine kd_source hq (t := some (nn x)) (W := W1) (fun no => hx (by rw [hW3, no]; rfl)) eW1 hBy (by omega) (by omega) l _ _ hl hEv (by rw [etn]; exact hTc) hTG hAy hny hVy (fun z hBz nz oz sz ⟨z9, z7, z13, z20, opz⟩ laz hSz => ?_)
      obtain ⟨hVz, N2, hRz, hN2, h6, hWz, hCz⟩ := hSz
      rw [hWz] at hW3
      obtain ⟨ln1, ln2⟩ := La_nn by0 laz
      have hRxz : RIw K V sN e Ev x z N2 := by
        refine ⟨hRz.1, hRz.2.1, hRz.2.2.1, fun j h1 h2 h3 => ?_⟩
        by_cases hj : nn y ≤ j
        · exact hRz.2.2.2 j hj h2 h3
        · have ej : j = nn x ∨ j = nn x + 1 := by omega
          rw [ln2 j (by omega)] at h3 ⊢
          rcases ej with ej | ej
          · rw [ej] at h3 ⊢
            rcases hm with ⟨-, g1, g2⟩ | ⟨-, -, g2⟩
            · rw [g2]; exact h6 _ rfl g1
            · exact absurd g2 h3
          · rw [ej] at h3; exact absurd u1 h3
      exact p173 z N2 (77, nn x, 0) hBz (by omega) (by omega) (by omega) (by rw [z13, y13]) hRxz hN2 (dull_k (by decide)) (stl_k (by decide)) hVz (OPe_tr op opz) hW3 (CG_app (CG_pre hcy (CG_some hCz)) CG_77)
    · obtain ⟨W1, eW1⟩ : ∃ W1, W1 = pS1 K f c9 (nn x) L := ⟨_, rfl⟩
      rw [← eW1] at hWn
      have hx7 : 700 ≤ nn x → RX x0 X := fun h7 => hx (by rw [eW]; exact eX_7 hu1 h7)
      have hx1 : W1 = none → RX x0 X := fun no => by
        by_cases h7 : 700 ≤ nn x
        · exact hx7 h7
        · exact hx (by rw [hWn (by omega), no]; rfl)
      refine kd_rowStatement hq f c9 L hx1 hx7 eW1 k1 (fun h7 => (k65 h7).mp cb) hf hA hn0 hN9.1 hEv hBe (by omega) l (fun y hBy ny oy sy y13 hVy lay N2 hRy hN2 hWy y9 y7 op hCy => p173 y N2 (78, nn x, 0) hBy (by omega) oy (by omega) y13 hRy hN2 (dull_k (by decide)) (stl_k (by decide)) hVy op ?_ hCy)
      have h7 : nn x < 700 := by
        by_cases h7 : nn x < 700
        · exact h7
        · exfalso
          have a := hRy.2.1
          have b := hRy.1.2.2.2.1
          have cx := nn_is bx0
          have cy := nn_is (x := y) (by omega)
          omega
      rw [hWn h7, hWy]
  · -- if, while
    refine kp_sort hq hRB ⟨fun c2 => p197 _ 1 61 (Or.inl ⟨rfl, ?_, rfl, rfl⟩) (Or.inl ⟨rfl, c2⟩), fun c2 => p197 _ 3 60 (Or.inr ⟨rfl, ki 54 24 (by decide) c2, rfl, rfl⟩) (Or.inr rfl)⟩
    rcases c with c | c
    · exact absurd c c2
    · exact ki 71 41 (by decide) c
  · -- lock
    have hBe := hB0 (by rw [c]; decide)
    have k27 := ki 57 27 (by decide) c
    have o5 : o = 5 := by
      rw [c] at hop
      rcases hop with g | g | g | g | ⟨-, g⟩ | ⟨-, -, g⟩ | ⟨-, -, g⟩ | ⟨-, g⟩ | ⟨-, g⟩ | ⟨-, g⟩
      · exact absurd g (by decide)
      · exact absurd g (by decide)
      · exact absurd g (by decide)
      · exact absurd g (by decide)
      · exact g
      · exact absurd g (by decide)
      · exact absurd g (by decide)
      · exact absurd g (by decide)
      · exact absurd g (by decide)
      · exact absurd g (by decide)
    rw [o5]
    refine kd_pass (xs := x) (Ml := []) (Ev := Ev) hq (fun h7 => hx (by rw [eW]; exact eX_7 hu1 h7)) hBe hR0 (by rw [k27]; decide) (by rw [k27]; decide) (fun c7 y hBy ny gy eny hRy u0 hcy => ?_)
    have oy := GS_om gy
    have sy := GS_sm gy
    have by0 : 0 ≤ nx y := by omega
    refine kd_nameStep hq (fun no => hx ?_) hRy.1 hRy.2.1 hBy (by omega) 5 l (by decide) (by decide) (fun z hBz nz sz oz opz vin z13 kk c72 enz hAz hnz laz huz z9 z109 opz9 hsk => ?_)
    · rw [eW]
      refine eX_0 ?_
      rw [hu1, pS, if_neg (by omega), if_neg (by rw [k27]; decide), if_neg (by rw [k27]; decide), if_pos k27, if_neg (fun z => no (by rw [eny]; exact z))]
    rw [eny] at kk c72
    have hWk : W = (pBk (pS K f) K 2 c9 (nn x + 2) (L ++ [(65, nn x, nn x + 1)])).bind (fun q => eC K 2 u q.1 q.2.1 q.2.2) := by rw [eW, eX_lock hu1 c72 k27 kk]
    have hu4 : z.1 42 (nn y) = 4 := by
      rcases huz with ⟨-, g⟩ | ⟨g, -⟩
      · exact g
      · exact absurd g (by decide)
    have enz2 : nn z = nn x + 2 := by omega
    have hRz : RIw K V sN e Ev x z ([] ++ [(65, nn x, nn x + 1)]) := RI_use hRy by0 laz hAz hnz enz (HAs_one.mpr (HA_65.mpr ⟨by omega, by rw [← eny]; exact hu4⟩)) (fun _ => HBs_one.mpr (by rw [hu4, eny]; exact HB_65))
    have hRz : RIw K V sN e Ev x z [(65, nn x, nn x + 1)] := hRz
    have hVz : KV' K e z Ev := KV_fm (KV_GS gy hN9.1) z9 z109
    have opx : OPe x z := OPe_tr (OPe_GS gy) opz9
    have hSz : SKs z (om z).toNat u Ev.2.1 := by
      rw [oz, oy]
      exact SKs_eq (fun k _ => ⟨opx.2.1 _ _ (by omega) (by omega), opx.2.1 _ _ (by omega) (by omega)⟩) hN9.2.1
    have z9c : (z.1 100 9).toNatClampNeg = Ev.1.length := by rw [t_cl, hVz.1]; rfl
    obtain ⟨a1, a2, a3, -⟩ := BB_400 hBy (by omega)
    refine kd_openBlock hq 2 _ (fun no => hx (by rw [hWk, ← enz2, pBk, if_neg no]; rfl)) hRz hVz (z9 := 2) (by decide) hSz hBz (by omega) (by omega) (by decide) (Or.inl (hBz.2.2.2.2.2.2.1 (fun e => e))) ⟨fun c => by omega, fun _ => ⟨by decide, (y.1 80 9).toNatClampNeg, a3.symm, by omega, fun c => absurd c (by decide), fun _ => opz, fun c => absurd c (by decide)⟩⟩ (fun i hi he => absurd he (fun e => e)) (fun w hBw nw sw ow w13 kk2 c73 enw law hRw hVw hSw w7 hpu => rv_i (h w ([(65, nn x, nn x + 1)] ++ [(20, 2, 0)]) (2 :: u) c9 ?_ (by omega) (by omega) (by omega) (RI_dull hRw (dull_k (by decide))) ?_ (Lb_tr opx.1 law) (by rw [w7, opx.2.2]; exact hc9) ?_ (by omega) (hpu.elim (fun w0 q0 => CG_lock hcy (KV_GS gy hN9.1) (by rw [← eny]; exact (nn_is by0).symm) hsk q0.1 q0.2))))
    · rw [w13, z13, GS_at gy 60 13 (by unfold sSum; omega)]; exact hBw
    · have ex : exs ([(65, nn x, nn x + 1)] ++ [(20, 2, 0)]) Ev = (Ev.1, Ev.1.length :: Ev.2.1, Ev.2.2) := by rw [exs_app, exs_still (L := [(65, nn x, nn x + 1)]) (stl_k (by decide))]; rfl
      rw [ex]
      rw [z9c] at hSw
      exact ⟨hVw, hSw, LBo_push hN9.2.2⟩
    · rw [enz2] at kk2 c73 enw
      rw [hWk, eS_block (by decide) ef.symm kk2 c73, enw, List.append_assoc]
  · -- the others
    have n56 := c 56 (by decide)
    have n2 := c 2 (by decide)
    have n54 := c 54 (by decide)
    have n71 := c 71 (by decide)
    have n57 := c 57 (by decide)
    have hop2 : (5 ≤ o.toInt ∧ o.toInt ≤ 8 ∧ (x.1 23 (x.1 100 4).toNatClampNeg = 66 ∨ x.1 23 (x.1 100 4).toNatClampNeg = 52 ∨ x.1 23 (x.1 100 4).toNatClampNeg = 68 ∨ x.1 23 (x.1 100 4).toNatClampNeg = 69 ∨ x.1 23 (x.1 100 4).toNatClampNeg = 70)) ∨ (9 ≤ o.toInt ∧ o.toInt ≤ 10 ∧ (x.1 23 (x.1 100 4).toNatClampNeg = 63 ∨ x.1 23 (x.1 100 4).toNatClampNeg = 55)) ∨ (o = 13 ∧ x.1 23 (x.1 100 4).toNatClampNeg = 45) ∨ ((o = 14 ∨ o = 18) ∧ (x.1 23 (x.1 100 4).toNatClampNeg = 43 ∨ x.1 23 (x.1 100 4).toNatClampNeg = 44)) ∨ ((o = 11 ∨ o = 12 ∨ o = 19) ∧ (x.1 23 (x.1 100 4).toNatClampNeg = 50 ∨ x.1 23 (x.1 100 4).toNatClampNeg = 61 ∨ x.1 23 (x.1 100 4).toNatClampNeg = 49)) := by
      rcases hop with g | g | g | g | ⟨g, -⟩ | g
      · exact absurd g n2
      · exact absurd g n56
      · exact absurd g n54
      · exact absurd g n71
      · exact absurd g n57
      · exact g
    have hko : (o.toInt ≤ 8 ∧ (K (nn x) = 36 ∨ K (nn x) = 22 ∨ K (nn x) = 38 ∨ K (nn x) = 39 ∨ K (nn x) = 40)) ∨ (9 ≤ o.toInt ∧ o.toInt ≤ 10 ∧ (K (nn x) = 33 ∨ K (nn x) = 25)) ∨ (o = 13 ∧ K (nn x) = 15) ∨ ((o = 14 ∨ o = 18) ∧ (K (nn x) = 13 ∨ K (nn x) = 14)) ∨ ((o = 11 ∨ o = 12 ∨ o = 19) ∧ (K (nn x) = 20 ∨ K (nn x) = 31 ∨ K (nn x) = 19)) := by
      rcases hop2 with ⟨-, g, g2⟩ | ⟨g, g1, g2⟩ | ⟨g, g2⟩ | ⟨g, g2⟩ | ⟨g, g2⟩
      · refine Or.inl ⟨g, ?_⟩
        rcases g2 with g2 | g2 | g2 | g2 | g2
        · exact Or.inl (ki 66 36 (by decide) g2)
        · exact Or.inr (Or.inl (ki 52 22 (by decide) g2))
        · exact Or.inr (Or.inr (Or.inl (ki 68 38 (by decide) g2)))
        · exact Or.inr (Or.inr (Or.inr (Or.inl (ki 69 39 (by decide) g2))))
        · exact Or.inr (Or.inr (Or.inr (Or.inr (ki 70 40 (by decide) g2))))
      · exact Or.inr (Or.inl ⟨g, g1, g2.imp (ki 63 33 (by decide)) (ki 55 25 (by decide))⟩)
      · exact Or.inr (Or.inr (Or.inl ⟨g, ki 45 15 (by decide) g2⟩))
      · exact Or.inr (Or.inr (Or.inr (Or.inl ⟨g, g2.imp (ki 43 13 (by decide)) (ki 44 14 (by decide))⟩)))
      · exact Or.inr (Or.inr (Or.inr (Or.inr ⟨g, g2.imp (ki 50 20 (by decide)) (fun g2 => g2.imp (ki 61 31 (by decide)) (ki 49 19 (by decide)))⟩)))
    have hkn : ¬ K (nn x) = 24 ∧ ¬ K (nn x) = 41 ∧ ¬ K (nn x) = 27 := by
      rcases hko with ⟨-, e | e | e | e | e⟩ | ⟨-, -, e | e⟩ | ⟨-, e⟩ | ⟨-, e | e⟩ | ⟨-, e | e | e⟩ <;> rw [e] <;> decide
    have h56 : 5 ≤ o.toInt ∧ ¬ o.toInt = 15 ∧ ¬ o.toInt = 16 ∧ ¬ o.toInt = 17 ∧ ¬ o.toInt = 20 := by
      rcases hop2 with ⟨g1, g2, -⟩ | ⟨g1, g2, -⟩ | ⟨g, -⟩ | ⟨g, -⟩ | ⟨g, -⟩
      · omega
      · omega
      · rw [g]; decide
      · rcases g with g | g <;> rw [g] <;> decide
      · rcases g with g | g | g <;> rw [g] <;> decide
    have hx1 : (pS1 K f c9 (nn x) L = none ∨ 700 ≤ nn x) → RX x0 X := fun no => hx (by
      by_cases h7 : 700 ≤ nn x
      · rw [eW]; exact eX_7 hu1 h7
      · rcases no with no | no
        · rw [eW, eX_1S hu1 (by omega) hkn, no]; rfl
        · exact absurd no h7)
    have hopK : o = Int32.ofNat (opQ (K (nn x))) := by
      rcases hopq with (g | g | g | g | g) | g
      · exact absurd g n2
      · exact absurd g n56
      · exact absurd g n54
      · exact absurd g n71
      · exact absurd g n57
      · rw [hKs]; exact g
    refine kd_plain hq f c9 L hx1 hf hA hn0 hN9.1 (hB0 n54) acc (by omega) o l h56.1 h56.2 hEv hopK hko (fun y hBy ny oy ay y13 hVy op N2 hRy hN2 hWy hCy => rv_i (fin y N2 ?_ oy ay hRy hN2 hVy op ?_ ny hCy))
    · rw [y13]; exact hBy
    · have h7 : nn x < 700 := by
        have a := hRy.2.1
        have b := hRy.1.2.2.2.1
        have cx := nn_is bx0
        have cy := nn_is (x := y) (by omega)
        omega
      rw [eW, eX_1S hu1 h7 hkn, hWy]
      rfl
end KSF
end
section
/-! the class: definitions, all is read -/
def OTb (x0 x : gd) : Prop := SU x ∧ FR x ∧ RI0 x (x.1 60 13).toInt ∧ SCs x E0 ∧ x.1 100 5 = 0 ∧ fm sR x0 x
section KDF
variable {G : kG} {q : kP} {d : Nat} {x x0 y z : gd} {F : Int32 → gd → Prop} {Fv : gd → Prop} {X : String → gd → Prop} {P : Option gv → gd → Prop}
theorem OT_b (h : OT x0 x) : OTb x0 x := ⟨h.1, h.2.1, h.2.2.1, h.2.2.2.1, h.2.2.2.2.1, h.2.2.2.2.2.1⟩
theorem OT_of (h : OTb x0 x) (a : 2 * ssm x ≤ nx x) : OT x0 x := ⟨h.1, h.2.1, h.2.2.1, h.2.2.2.1, h.2.2.2.2.1, h.2.2.2.2.2, a⟩
theorem OTb_on (hB : OTb x0 x) (hS : SU y) (hF : FR y) (g : GS x y) : OTb x0 y := ⟨hS, hF, by rw [g.2 60 13 (by unfold sSum; omega)]; exact RI0_La hB.2.2.1 g.1 g.2, SCs_La hB.2.2.2.1 g.2, by rw [g.2 100 5 (by unfold sSum; omega)]; exact hB.2.2.2.2.1, fm_tr hB.2.2.2.2.2 (fm_w g.2 (fun c k q => sSum_R q))⟩
/-- what is told changes -/
theorem OTb_nm (hB : OTb x0 x) (f : fm (fun c k => (40 ≤ c ∧ c < 60 ∧ c ≠ 42) ∨ (c = 60 ∧ k ≠ 3 ∧ k ≠ 13) ∨ (64 ≤ c ∧ c < 80)) x z) (hN : NM z) (hC : CD z) (hT : TS z) : OTb x0 z := by
  obtain ⟨hS, hF, ⟨r1, r2, r3, ⟨r4, r6⟩, r7⟩, hC9, r5, r0⟩ := hB
  have e4 : nx z = nx x := by unfold nx; rw [f 100 4 (by omega)]
  have es : ssm z = ssm x := by unfold ssm; rw [f 80 9 (by omega)]
  have z5 : z.1 100 5 = x.1 100 5 := f _ _ (by omega)
  have la : La x z := ⟨fun c k q1 q2 => f c k (by omega), by omega, fun j _ => f 42 j (by omega)⟩
  refine ⟨?_, ?_, ⟨fun c => absurd (by rw [z5]; exact r5) c, hN, hC, ⟨by omega, fun i hi => ?_⟩, hT⟩, fun i hi he => ?_, by rw [z5]; exact r5, fm_tr r0 (fm_w f (fun c k q => by unfold sR; omega))⟩
  · obtain ⟨⟨hT, b1, b2, b3⟩, ⟨u1, u2⟩, hp, hP⟩ := hS
    unfold SU SV US RB mt
    rw [f 20 7 (by omega), f 60 3 (by omega), e4]
    refine ⟨⟨kT_fm hT la.1, b1, b2, b3⟩, ⟨fun j h1 h2 => ?_, fun j h1 h2 => ?_⟩, hp, fun i hi => La_PQ la (f _ _ (by omega)) (f _ _ (by omega)) (hP i hi)⟩
    · rw [f 42 j (by omega)]; exact u1 j h1 h2
    · rw [f 42 j (by omega)] at h2; rw [f 42 _ (by omega)]; exact u2 j h1 h2
  · unfold FR at hF ⊢
    rw [f 100 4 (by omega), f 42 _ (by omega)]; exact hF
  · rw [f 60 13 (by omega)]
    exact SA_La la (f _ _ (by omega)) (f _ _ (by omega)) (f _ _ (by omega)) (f _ _ (by omega)) (Int.le_refl _) (r6 i (by omega))
  · exact SC_eq (fun j => f _ _ (by omega)) (f _ _ (by omega)) (f _ _ (by omega)) (f _ _ (by omega)) z5 (fun j => f _ _ (by omega)) (hC9 i (by omega) he)
theorem kp_rowAhead (hq : kV q) (hR : RB x) (h : ∀ r : Int32, 0 ≤ r.toInt → r.toInt ≤ 8 → (0 < r.toInt → x.1 23 ((x.1 100 4).toNatClampNeg + 1) = 25) → F r x) : KT G q (d + 1) zk_X7_rowAhead 0 [(0, vr 100)] [] x (ri F) := by
  have k2 : (2 : Int32).toInt = 2 := rfl
  have k700 : (700 : Int32).toInt = 700 := rfl
  have b1 := hR.2.1
  have b2 := hR.2.2.1
  have e2 : (x.1 100 4 + 2).toInt = nx x + 2 := by rw [t_add (by rw [k2]; unfold nx at *; omega) (by rw [k2]; unfold nx at *; omega), k2]
  refine kg_X7_rowAhead_0 hq (kp_sortBehind hq hR ⟨fun c => ⟨fun _ => ri_i (h _ (by decide) (by decide) (fun _ => c)), fun c7 => ?_⟩, fun _ => ri_i (h _ (by decide) (by decide) (fun q => absurd q (by decide)))⟩)
  rw [t_lt, k700, e2] at c7
  have v : vp_in (x.1 100 4 + 2) 702 := by rw [vp_in_iff]; omega
  exact ⟨v, fun _ => ⟨v, kp_isRowSize hq _ (fun r hr => ⟨fun _ => ri_i (h _ (by decide) (by decide) (fun _ => c)), fun c0 => ⟨v, ri_i (h _ (by have := (hr c0).1; omega) (hr c0).2 (fun _ => c))⟩⟩)⟩, fun _ => ri_i (h _ (by decide) (by decide) (fun _ => c))⟩
end KDF
end
