/-! the model: what looking at a state asks -/
section MLH
variable {G : mG} {d D : Nat} {x z a y : gd} {F : Int32 → gd → Prop} {Fv : gd → Prop} {C : gCo} {M : gMa} {w : Nat}
theorem evQ_me {lv : Nat → Int32} {cv : Int32 → Int32} {m m' : Int32} : ∀ {Q : List gQ}, (∀ p ∈ Q, ¬ p.1 = 3) → ∀ s, evQ lv cv m Q s = evQ lv cv m' Q s := by
  intro Q
  induction Q with
  | nil => intro _ s; rfl
  | cons q Q ih =>
    intro h s
    have ih := ih (fun p hp => h p (List.mem_cons_of_mem _ hp))
    have h3 := h q (List.mem_cons_self ..)
    rw [evQ, evQ]
    by_cases c1 : q.1 = 1
    · rw [if_pos c1, if_pos c1, ih]
    · rw [if_neg c1, if_neg c1]
      by_cases c2 : q.1 = 2
      · rw [if_pos c2, if_pos c2, ih]
      · rw [if_neg c2, if_neg c2, if_neg h3, if_neg h3]
        by_cases c4 : q.1 = 4
        · rw [if_pos c4, if_pos c4, ih]
        · rw [if_neg c4, if_neg c4]
          by_cases c5 : q.1 = 5
          · rw [if_pos c5, if_pos c5, ih]
          · rw [if_neg c5, if_neg c5]
            cases biQ q.2.2 (s.tail.headD 0) (s.headD 0) with
            | none => rfl
            | some r => exact ih _
theorem sp_hasAct3 (hN : NC C) (hX : NXc C) (w01 : w = 0 ∨ w = 1) (am : AM C w M a) (e : eqS (Sm a) a y) (t : Int32) (tv : vp_in t 6) (hD : 2 ≤ D) (h0 : ¬ canM C w M t.toNatClampNeg → ∀ y', md rL rA y y' → eqS (Sm a) a y' → F 0 y') (h1 : a.1 73 t.toNatClampNeg = 1 → ¬ a.1 77 t.toNatClampNeg = 1 → canM C w M t.toNatClampNeg → ∀ y', md rL rA y y' → eqS (Sm a) a y' → F 1 y') : MT G D z_hasAct 0 [(0, vr 0), (1, vi t)] [] y (ri F) := by
  obtain ⟨av, hK, hM, hI, wy, -⟩ := am
  refine MD_top (ds_hasAct3 (d := 1) (S := Sm a) (x := a) (C := C) (M := M) (F := fun r y S1 => y = a ∧ S1 = Sm a ∧ ((r = 0 ∧ ¬ canM C w M t.toNatClampNeg) ∨ (r = 1 ∧ a.1 73 t.toNatClampNeg = 1 ∧ ¬ a.1 77 t.toNatClampNeg = 1 ∧ canM C w M t.toNatClampNeg))) t tv (RI_sub (Sl_Sm a) av.1) hK hN hX hM wy w01 (fun w0 t' ht' => (hI.1 t' ht').2.2.2 w0) (fun c => ⟨rfl, rfl, Or.inl ⟨rfl, c⟩⟩) (fun c1 c2 c3 => ⟨rfl, rfl, Or.inr ⟨rfl, c1, c2, c3⟩⟩)) e (by omega) (fun o x' S' y' q eq m => ?_)
  obtain ⟨r, eo, ex, eS, hr⟩ := q
  rw [ex, eS] at eq
  rw [eo]
  rcases hr with ⟨hr, c⟩ | ⟨hr, c1, c2, c3⟩
  · rw [hr]; exact ri_i (h0 c y' m eq)
  · rw [hr]; exact ri_i (h1 c1 c2 c3 y' m eq)
theorem sp_lookAt3 (hN : NC C) (hX : NXc C) (w01 : w = 0 ∨ w = 1) (am : AM C w M a) (e : eqS (Sm a) a z) (t : Int32) (tv : vp_in t 6) (h1 : a.1 73 t.toNatClampNeg = 1) (h2 : ¬ a.1 77 t.toNatClampNeg = 1) (hD : 3 ≤ D) (h : ∀ z' x', eqS (Sm a) a z' → md rL rA z z' → lkP a x' t.toNatClampNeg → z'.1 0 88 = x'.1 0 88 → z'.1 0 89 = x'.1 0 89 → z'.1 0 89 = Int32.ofNat (lkM C w M t.toNatClampNeg).1 → z'.1 0 88 = (lkM C w M t.toNatClampNeg).2.1 → Fv z') : MT G D z_lookAt 0 [(0, vr 0), (1, vi t)] [] z (rv Fv) := by
  obtain ⟨av, hK, hM, hI, wy, -⟩ := am
  refine MD_top (ds_look3 (d := 0) (S := Sm a) (C := C) (M := M) (w := w) (Fv := fun y S1 => md [82, 88, 89, 90, 91] [84] a y ∧ ssub (Sm a) S1 ∧ lkS S1 ∧ lkP a y t.toNatClampNeg ∧ lkQ y (lkM C w M t.toNatClampNeg)) t tv (RI_sub (Sl_Sm a) av.1) h1 h2 hK hN hX hM wy w01 (fun y S1 q1 q2 q3 q4 q5 => ⟨q1, q2, q3, q4, q5⟩)) e (by omega) (fun o x' S' z' q eq mz => ?_)
  obtain ⟨eo, mx, ss, ls, lp, lq⟩ := q
  rw [eo]
  have e88 := eq 0 88 (Or.inr ls.1)
  have e89 := eq 0 89 (Or.inr ls.2.1)
  refine rv_i (h z' x' (fun c j hc => ?_) mz lp e88 e89 (by rw [e89]; exact lq.1) (by rw [e88]; exact lq.2.1))
  have hx : eqS (Sm a) a x' := eqS_mi (eqS_rf _ _) (mi_of mx) rfl rfl (ssub_rf _)
  rw [eq c j (hc.imp id (ss c j)), hx c j hc]
/-- a claim's sum -/
theorem sp_claim (hN : NC C) (hq2 : NCq C) (l24 : C.2.2.1.length ≤ 24) (am : AM C w M a) (e : eqS (Sm a) a y) (r : Int32) {Q : List gQ} (hQ : Q ∈ C.2.2.2.1 ∨ Q ∈ C.2.2.2.2) (hS : SUm a r (Q.map (mQp []))) (hD : 2 ≤ D) (h : ∀ v y', md rL rA y y' → eqS (Sm a) a y' → ((v = 0 ∨ ¬ y'.1 0 82 = 0) ↔ badC M Q) → (y'.1 0 82 = 0 ∨ y'.1 0 82 = 1) → F v y') : MT G D z_worked 0 [(0, vr 0), (1, vi r), (2, vi (-1))] [] y (ri F) := by
  obtain ⟨av, hK, hM, hI, wy, -⟩ := am
  have w6 : (a.1 0 49).toInt ≤ 6000 := by have := av.1.1.2.1.2.2.2.1; omega
  obtain ⟨n1, n2⟩ := hN.2.2 Q hQ
  have k1 : ¬ (1 : Int32) = 0 := by decide
  refine MD_top (ds_workedf (d := 0) (S := Sm a) (x := a) (t := -1) (sl := []) (lv := fun _ => 0) (cv := fun c => M.1 c.toNatClampNeg) (F := fun v y S1 => md [82] [84] a y ∧ ssub (Sm a) S1 ∧ S1 0 82 ∧ wkM y (wkQ (fun _ => 0) (fun c => M.1 c.toNatClampNeg) (-1) Q) v) hS w6 n1 (fun p hp => ⟨(n2 p hp).1, fun c => absurd c (n2 p hp).2, fun c => ?_⟩) (fun v y S1 h1 h2 h3 h4 => ⟨h1, h2, h3, h4⟩)) e (by omega) (fun o x' S' y' q eq m => ?_)
  · obtain ⟨c0, c1⟩ := (hq2 Q hQ p hp).2 c
    exact ⟨by rw [vp_in_iff]; omega, hM.1 _ (by rw [t_cl]; omega)⟩
  · obtain ⟨v, eo, mx, ss, s82, wk⟩ := q
    rw [eo]
    have e82 := eq 0 82 (Or.inr s82)
    have ev : wkQ (fun _ => 0) (fun c => M.1 c.toNatClampNeg) (-1) Q = evC M Q := by
      unfold evC wkQ
      rw [evQ_me (m' := 0) (fun p hp => (hq2 Q hQ p hp).1)]
    rw [ev] at wk
    refine ri_i (h v y' m (fun c j hc => ?_) ?_ ?_)
    · have hx : eqS (Sm a) a x' := eqS_mi (eqS_rf _ _) (mi_of mx) rfl rfl (ssub_rf _)
      rw [eq c j (hc.imp id (ss c j)), hx c j hc]
    · rw [e82]
      rcases wk with ⟨u, hu, er, y5⟩ | ⟨hu, y5⟩
      · rw [er, y5]
        constructor
        · rintro (z | z)
          · exact Or.inr (by rw [hu, z])
          · exact absurd rfl z
        · rintro (z | z)
          · rw [hu] at z; cases z
          · rw [hu] at z; exact Or.inl (Option.some.inj z)
      · rw [y5]
        exact ⟨fun _ => Or.inl hu, fun _ => Or.inr k1⟩
    · rw [e82]
      rcases wk with ⟨u, hu, er, y5⟩ | ⟨hu, y5⟩
      · exact Or.inl y5
      · exact Or.inr y5
end MLH
