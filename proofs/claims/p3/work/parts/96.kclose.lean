/-! the class: blocks are closed; statements -/
abbrev E1 : Nat → Prop := fun i => i = 1000000
/-- outside a thread -/
def OT (x0 x : gd) : Prop := SU x ∧ FR x ∧ RI0 x (x.1 60 13).toInt ∧ SCs x E0 ∧ x.1 100 5 = 0 ∧ fm sR x0 x ∧ 2 * sm x ≤ nx x
/-- within a thread, between statements -/
def IT (x0 x : gd) : Prop := (BB x0 x (x.1 60 13).toInt E0 ∨ (BB x0 x (x.1 60 13).toInt E1 ∧ x.1 23 (x.1 100 4).toNatClampNeg = 54)) ∧ 1 ≤ om x ∧ om x ≤ 17 ∧ 2 * sm x + om x ≤ nx x
section KCL
variable {G : kG} {q : kP} {d : Nat} {x x0 y z : gd} {F : Int32 → gd → Prop} {Fv : gd → Prop} {X : String → gd → Prop} {P : Option gv → gd → Prop} {M : Int} {E : Nat → Prop}
theorem kb_endIf (hq : kV q) (hB : BB x0 x M E) (s : Int32) {n : Nat} (es : s.toInt = n) (hn : (n : Int) < sm x) (hsm : sm x < 400) (hop : sop x n = 17 ∨ sop x n = 20) (hE : ∀ i : Nat, (i : Int) < sm x → E i → i = n) (h : ∀ y, BB x0 y M E0 → nx y = nx x → sm y = sm x → om y ≤ om x → (1 ≤ om x → 1 ≤ om y) → y.1 60 13 = x.1 60 13 → Fv y) : KT G q d zk_X7_endIf 0 [(0, vr 100), (1, vi s)] [] x (rv Fv) := by
  have eN : s.toNatClampNeg = n := by rw [t_cl, es]; rfl
  have k0 : (0 : Int32).toInt = 0 := rfl
  have k20 : (20 : Int32).toInt = 20 := rfl
  refine kg_X7_endIf_0 hq _ ⟨by rw [vp_in_iff]; omega, fun x2 e2 => ?_⟩
  rw [eN] at e2
  have hB2 : BB x0 x2 M E1 := BB_E (BB_tg hB (by omega) hn hop e2 ⟨hB.2.2.1.2.2.2.1.1, Int.le_refl _, fun _ => Or.inl hn⟩) (fun _ => rfl) (fun i hi he _ => by
    have : sm x2 = sm x := by unfold sm; rw [e2, si_cell (by decide)]
    exact absurd (hE i (by omega) he.1) he.2)
  have f2 : fm (fun c k => c = 84) x x2 := by rw [e2]; exact fm_si (fm_rf _ _) rfl
  have loop : ∀ (m : Nat) (k : Int32) (y : gd), BB x0 y M E1 → fm (fun c k => c = 84 ∨ (c = 100 ∧ k = 13)) x y → om y ≤ om x → (1 ≤ om x → 1 ≤ om y) → 0 ≤ k.toInt → k.toInt + om y ≤ 18 → om y ≤ m → KT G q d zk_X7_endIf 18 [(0, vr 100), (2, vi k)] [] y (rv Fv) := by
    intro m
    induction m with
    | zero =>
      intro k y hBy fy o1 o2 hk0 hk hm
      have o0 := (BB_om hBy).1.1
      refine kg_X7_endIf_18 hq _ ⟨fun c => ?_, fun c => ⟨fun c2 => rv_i (h y ?_ ?_ ?_ o1 o2 (fy _ _ (by omega))), fun c2 => ?_⟩⟩
      · exfalso; rw [t_le, k20] at c; omega
      · refine ⟨hBy.1, hBy.2.1, hBy.2.2.1, fun i hi he => hBy.2.2.2.1 i hi (fun e => ?_), hBy.2.2.2.2.1, hBy.2.2.2.2.2.1, fun _ k hk2 => by omega⟩
        have : sm y = sm x := by unfold sm; rw [fy 80 9 (by omega)]
        have e' : i = 1000000 := e
        omega
      · unfold nx; rw [fy 100 4 (by omega)]
      · unfold sm; rw [fy 80 9 (by omega)]
      · exfalso; rw [t_le, k0] at c2; unfold om at *; omega
    | succ m ih =>
      intro k y hBy fy o1 o2 hk0 hk hm
      have o0 := (BB_om hBy).1.1
      have esm : sm y = sm x := by unfold sm; rw [fy 80 9 (by omega)]
      have out : (TI y) → Fv y := fun hT => by
        refine h y ⟨hBy.1, hBy.2.1, hBy.2.2.1, fun i hi he => hBy.2.2.2.1 i hi (fun e => ?_), hBy.2.2.2.2.1, hBy.2.2.2.2.2.1, fun _ => hT⟩ ?_ esm o1 o2 (fy _ _ (by omega))
        · have e' : i = 1000000 := e
          omega
        · unfold nx; rw [fy 100 4 (by omega)]
      refine kg_X7_endIf_18 hq _ ⟨fun c => ?_, fun c => ⟨fun c2 => rv_i (out (fun k hk2 => ?_)), fun c2 => ?_⟩⟩
      · exfalso; rw [t_le, k20] at c; omega
      · rw [t_le, k0] at c2; unfold om at *; omega
      rw [t_le, k0] at c2
      have o1' : 1 ≤ om y := by unfold om at *; omega
      have e13 : (y.1 100 13 - 1).toInt = om y - 1 := t_sub (by show _ ≤ _ - (1 : Int); unfold om at *; omega) (by show _ - (1 : Int) ≤ _; unfold om at *; omega)
      have n13 : (y.1 100 13 - 1).toNatClampNeg = (om y).toNat - 1 := by rw [t_cl, e13]; omega
      refine ⟨by rw [vp_in_iff, e13]; omega, fun c3 => rv_i (out (fun k hk2 => ?_)), fun c3 x5 e5 => ?_⟩
      · rw [n13] at c3
        have : k = (om y).toNat - 1 := by omega
        rw [this]; exact c3
      rw [n13] at c3
      obtain ⟨ky, oy, cy⟩ := BB_k hBy
      have hop1 := oy.2.1 ((om y).toNat - 1) (by omega)
      have hpos : 0 < (om y).toNat - 1 := by
        refine Nat.pos_of_ne_zero (fun e => ?_)
        have := hop1.1 e
        rw [c3] at this
        exact absurd this (by decide)
      obtain ⟨-, t, t1, t2, -, -, t5⟩ := hop1.2.1 hpos
      have t20 := t5 (Or.inr c3)
      have f5 : fm (fun c k => c = 100 ∧ k = 13) y x5 := by rw [e5]; exact fm_si (fm_rf _ _) ⟨rfl, rfl⟩
      have q5 : om x5 = om y - 1 := by
        have : x5.1 100 13 = y.1 100 13 - 1 := by rw [e5]; (simp only [si_get, sfl_get, Nat.reduceEqDiff, eq_self, and_false, false_and, and_true, true_and, if_true, if_false, reduceIte, reduceCtorEq])
        unfold om at *; rw [this]; exact e13
      have hB5 := BB_pop hBy o1' (fm_w f5 (fun c k q => ⟨q.1, Or.inr q.2⟩)) q5 (by rw [f5 100 9 (by omega)]; exact ⟨ky.1.1, Int.le_refl _⟩) (fun j hj => by rw [f5 100 9 (by omega)]; exact (oy.2.1 j (by omega)).2.2.2)
      have m5 : (x5.1 100 13).toNatClampNeg = (om y).toNat - 1 := by
        rw [t_cl]; show (om x5).toNat = _; omega
      have s5 : x5.1 112 ((om y).toNat - 1) = y.1 112 ((om y).toNat - 1) := f5 _ _ (by omega)
      have tN : (y.1 112 ((om y).toNat - 1)).toNatClampNeg = t := by rw [t_cl, t1]; rfl
      have sm5 : sm x5 = sm y := by unfold sm; rw [f5 80 9 (by omega)]
      refine ⟨by rw [vp_in_iff]; show 0 ≤ om x5 ∧ om x5 < _; omega, ?_⟩
      rw [m5, s5]
      refine ⟨by rw [vp_in_iff]; omega, fun x8 e8 => ?_⟩
      rw [tN] at e8
      have p5 : sop x5 t = 20 := by unfold sop at t20 ⊢; rw [f5 81 t (by omega)]; exact t20
      have hB8 : BB x0 x8 M E1 := BB_E (BB_tg hB5 (by omega) (n := t) (by omega) (Or.inr p5) e8 ⟨hB5.2.2.1.2.2.2.1.1, Int.le_refl _, fun _ => Or.inl (by show (t : Int) < sm x5; omega)⟩) (fun _ => rfl) (fun i hi he hne => by
        rcases he with ⟨e | e | e, e2⟩
        · exact absurd e hne
        · exact absurd (by omega) e2
        · exact absurd e hne)
      have f8 : fm (fun c k => c = 84) x5 x8 := by rw [e8]; exact fm_si (fm_rf _ _) rfl
      have o8 : om x8 = om x5 := by unfold om; rw [f8 100 13 (by omega)]
      have ek : (k + 1).toInt = k.toInt + 1 := t_add (by show _ ≤ _ + (1 : Int); omega) (by show _ + (1 : Int) ≤ _; omega)
      exact ih (k + 1) x8 hB8 (fm_tr fy (fm_tr (fm_w f5 (fun c k q => Or.inr q)) (fm_w f8 (fun c k q => Or.inl q)))) (by omega) (fun _ => by omega) (by omega) (by omega) (by omega)
  have o2 : om x2 = om x := by unfold om; rw [f2 100 13 (by omega)]
  have o18 := (BB_om hB).1
  exact loop 18 _ x2 hB2 (fm_w f2 (fun c k q => Or.inl q)) (by omega) (by omega) (by decide) (by rw [k0]; omega) (by omega)
theorem kb_openElse (hq : kV q) (hx : RX x0 X) (hB : BB x0 x M E) (s : Int32) {n : Nat} (es : s.toInt = n) (hn : (n : Int) < sm x) (h1 : 1 ≤ om x) (ho : om x ≤ 16) (ha : 2 * sm x + om x ≤ nx x) (hop : sop x n = 17) (hE : ∀ i : Nat, (i : Int) < sm x → E i → i = n) (hs : x.1 23 (x.1 100 4).toNatClampNeg = 48) (h : ∀ y, (BB x0 y M E0 ∨ (BB x0 y M E1 ∧ y.1 23 (y.1 100 4).toNatClampNeg = 54)) → nx x < nx y → sm y = sm x + 1 → om y = om x + 1 → 2 * sm y + om y ≤ nx y + 2 → y.1 60 13 = x.1 60 13 → Fv y) : KE G q (d + 9) zk_X7_openElse 0 [(0, vr 100), (1, vi s)] [] x (rv Fv) X := by
  have eN : s.toNatClampNeg = n := by rw [t_cl, es]; rfl
  obtain ⟨a1, a2, a3, a4, a5⟩ := BB_400 hB (by omega)
  have vs : vp_in s 400 := by rw [vp_in_iff]; omega
  refine kg_X7_openElse_0 hq _ ⟨vs, kp_add hq _ _ _ a1 a2 (fun w hA vin => ⟨vs, fun z ez => ?_⟩)⟩
  obtain ⟨f1, f2, f3, f4, f5⟩ := hA
  rw [eN] at ez
  have k20 : (20 : Int32).toInt = 20 := rfl
  have hSA : SA w M (x.1 80 9).toNatClampNeg := by
    unfold SA sop stg
    rw [f3, f4, k20]
    exact ⟨by omega, ⟨a4, a5⟩, fun c => by omega, fun c => by omega⟩
  have hBw := BB_add hB (n := (x.1 80 9).toNatClampNeg) (by omega) f1 f2 hSA
  have pn : sop w n = 17 := by unfold sop at hop ⊢; rw [f1 81 n (by omega)]; exact hop
  have hBz := BB_tg hBw (by omega) (n := n) (by omega) (Or.inl pn) ez ⟨by show 0 ≤ sm w; omega, Int.le_refl _, fun c => by omega⟩
  have fz : fm (fun c k => c = 84) w z := by rw [ez]; exact fm_si (fm_rf _ _) rfl
  have nz : nx z = nx x := by unfold nx; rw [fz 100 4 (by omega), f1 100 4 (by omega)]
  have sz : sm z = sm x + 1 := by
    have : sm z = sm w := by unfold sm; rw [fz 80 9 (by omega)]
    omega
  have oz : om z = om x := by unfold om; rw [fz 100 13 (by omega), f1 100 13 (by omega)]
  have z4 : z.1 100 4 = x.1 100 4 := by rw [fz 100 4 (by omega), f1 100 4 (by omega)]
  have t84 : ¬ (x.1 80 9).toNatClampNeg = n := by omega
  have z84 : z.1 84 (x.1 80 9).toNatClampNeg = -1 := by rw [ez, si_get, if_neg (fun q => t84 q.2)]; exact f5
  have z81 : z.1 81 (x.1 80 9).toNatClampNeg = 20 := by rw [ez, si_cell (by decide)]; exact f3
  refine kb_pass hq hx hBz (by rw [z4, fz 23 _ (by omega), f1 23 _ (by omega), hs]; decide) (fun y hBy ny gy => kp_sort hq hBy.1.1 ?_)
  have ey := GS_om gy
  have sy := GS_sm gy
  have y81 : y.1 81 (x.1 80 9).toNatClampNeg = 20 := by rw [GS_at gy _ _ (by unfold sSum; omega)]; exact z81
  have y84 : y.1 84 (x.1 80 9).toNatClampNeg = -1 := by rw [GS_at gy _ _ (by unfold sSum; omega)]; exact z84
  have y13 : y.1 60 13 = x.1 60 13 := by rw [GS_at gy _ _ (by unfold sSum; omega), fz 60 13 (by omega), f1 60 13 (by omega)]
  have hEE : ∀ i : Nat, (i : Int) < sm y → (E i ∨ i = (x.1 80 9).toNatClampNeg) ∧ i ≠ n → (i : Int) = sm x ∧ stg y i = -1 := by
    rintro i hi ⟨e | e, e2⟩
    · by_cases hi3 : (i : Int) < sm x
      · exact absurd (hE i hi3 e) e2
      · have : i = (x.1 80 9).toNatClampNeg := by omega
        rw [this]; exact ⟨a3, by unfold stg; rw [y84]; rfl⟩
    · rw [e]; exact ⟨a3, by unfold stg; rw [y84]; rfl⟩
  have nb : ∀ k : Int32, (k = 4 ∨ k = 5) → NB y k (x.1 80 9) := by
    intro k hk
    have hk' : (1 ≤ k.toInt ∧ k.toInt ≤ 5) ∧ ¬ k = 1 ∧ ¬ k = 3 ∧ ¬ k = 2 := by rcases hk with rfl | rfl <;> decide
    refine ⟨fun c => by omega, fun _ => ⟨hk'.1, (x.1 80 9).toNatClampNeg, a3.symm, by omega, fun c => ?_, fun c => absurd c hk'.2.2.2, fun _ => by unfold sop; rw [y81]; rfl⟩⟩
    rcases c with c | c
    · exact absurd c hk'.2.1
    · exact absurd c hk'.2.2.1
  refine ⟨fun _ => kb_openBlock hq hx hBy (by omega) (by omega) 4 _ (by decide) (nb 4 (Or.inl rfl)) (fun i hi he => Or.inr (hEE i hi he)) (fun u hBu nu su ou u13 => rv_i (h u (Or.inl hBu) (by omega) (by omega) (by omega) (by omega) (by rw [u13]; exact y13))), fun c => kb_enter hq hBy (by omega) (by omega) 5 _ (nb 5 (Or.inr rfl)) (fun i hi he _ => (hEE i hi he).2) (fun u hBu nu su ou fu u4 => rv_i (h u (Or.inr ⟨BB_E hBu (fun _ => rfl) (fun i hi he hne => ?_), ?_⟩) (by omega) (by omega) (by omega) (by omega) (by rw [fu 60 13 (by omega)]; exact y13)))⟩
  · rcases he with ⟨e, -⟩ | ⟨-, e, e2⟩
    · exact absurd e hne
    · exact absurd (hEE i (by omega) e).1 e2
  · rw [u4, fu 23 _ (by omega)]; exact c
end KCL
