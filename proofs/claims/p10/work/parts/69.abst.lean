/-! runs by what they are like: a memory stands for all that are like it on the core, the late writes and the choices -/
def Sl (a : gd) : gS := fun c j => (c = 81 ∨ c = 82) ∧ ∃ t k : Nat, t < 6 ∧ (k : Int) < (a.1 80 t).toInt ∧ j = 10 * t + k
def Sm (a : gd) : gS := fun c j => (c = 0 ∧ j = 84) ∨ ((c = 86 ∨ c = 87 ∨ c = 88) ∧ (j : Int) < (a.1 0 84).toInt) ∨ Sl a c j
theorem Sl_Sm (a : gd) : ssub (Sl a) (Sm a) := fun _ _ h => Or.inr (Or.inr h)
theorem Sl_in {a : gd} {S : gS} (ri : RI a S) : ssub (Sl a) S := by
  intro c j h
  obtain ⟨hc, t, k, ht, hk, e⟩ := h
  have q := (ri.2 t ht).2.2.2.2 k hk
  rw [e]
  rcases hc with hc | hc
  · rw [hc]; exact q.1
  · rw [hc]; exact q.2.1
theorem RI_Sl {a : gd} {S : gS} (ri : RI a S) : RI a (Sl a) := by
  refine ⟨ri.1, fun t ht => ?_⟩
  obtain ⟨q1, q2, q3⟩ := ri.2 t ht
  exact ⟨q1, q2, q3.1, q3.2.1, fun k hk => ⟨⟨Or.inl rfl, t, k, ht, hk, rfl⟩, ⟨Or.inr rfl, t, k, ht, hk, rfl⟩, (q3.2.2 k hk).2.2⟩⟩
def fcA (b a : gd) : Prop := ∀ (G : mG) (z : gd), eqS (Sl b) b z → MT G 2 z_findChoices 0 [(0, vr 0)] [] z (rv (fun z' => eqS (Sm a) a z' ∧ md rL rA z z'))
def wy01 (a : gd) : Prop := a.1 0 68 = 0 ∨ a.1 0 68 = 1
def AV (a : gd) : Prop := RI a (Sl a) ∧ wy01 a ∧ chV a (Sm a) ∧ 0 ≤ (a.1 0 84).toInt ∧ (a.1 0 84).toInt ≤ 84 ∧ fcA a a
/-- a memory whose choices are found -/
theorem fc_ex {b : gd} {S : gS} (ri : RI b S) (wy : wy01 b) : ∃ a, AV a ∧ fcA b a ∧ md [84] [86, 87, 88] b a := by
  obtain ⟨o, a, S', ⟨eo, fc⟩, m, q⟩ := ds_findChoices (d := 0) (Fv := fun y S1 => fC b (Sl b) 84 y S1) (RI_Sl ri) (fun y S1 h => h)
  obtain ⟨f1, f2, f3, f4, f5, f6⟩ := fc
  have e80 : a.1 80 = b.1 80 := f1.2.1 80 (by decide) (by decide)
  have sl : Sl a = Sl b := by
    funext c j
    unfold Sl
    rw [e80]
  have sm : ssub (Sm a) S' := by
    intro c j h
    rcases h with ⟨h1, h2⟩ | ⟨h1, h2⟩ | h
    · rw [h1, h2]; exact f3
    · obtain ⟨g1, g2, g3, _⟩ := f6 j h2
      rcases h1 with h1 | h1 | h1
      · rw [h1]; exact g1
      · rw [h1]; exact g2
      · rw [h1]; exact g3
    · rw [sl] at h
      exact f2 c j h
  have fa : fcA b a := by
    intro G z e
    refine MT_mono (q G z e) (fun o2 z' w => ?_)
    rw [w.1, eo]
    exact rv_i ⟨eqS_w sm w.2.1, w.2.2⟩
  refine ⟨a, ⟨?_, ?_, ?_, f4, f5, ?_⟩, fa, f1⟩
  · rw [sl]
    exact RI_md f1 rfl rfl (ssub_rf _) (RI_Sl ri)
  · unfold wy01
    rw [f1.1 68 (by decide)]
    exact wy
  · intro i hi
    obtain ⟨_, _, _, g⟩ := f6 i hi
    exact ⟨Or.inr (Or.inl ⟨Or.inl rfl, hi⟩), Or.inr (Or.inl ⟨Or.inr (Or.inl rfl), hi⟩), Or.inr (Or.inl ⟨Or.inr (Or.inr rfl), hi⟩), g⟩
  · intro G z e
    refine fa G z (fun c j h => ?_)
    rw [← sl] at h
    rw [e c j h]
    -- the core and the late writes are those of b
    rcases h with h | h
    · rcases h with ⟨h1, h2⟩ | ⟨n, h1, h2⟩
      · rw [h1]
        refine f1.1 j (fun w => ?_)
        rw [List.mem_singleton.mp w] at h2
        exact absurd h2 (by decide)
      · have hc : c ≠ 0 ∧ c ∉ [86, 87, 88] := by
          simp at h1
          refine ⟨by omega, ?_⟩
          simp
          omega
        rw [f1.2.1 c hc.1 hc.2]
    · obtain ⟨hc, _⟩ := h
      rw [f1.2.1 c (by omega) (by simp; omega)]
/-- the choice i done: from what is like a to what is like b -/
def Tr (a : gd) (i : Nat) (b : gd) : Prop := (a.1 87 i = -1 → ∀ (G : mG) (z : gd), eqS (Sl a) a z → MT G 4 z_doAct 0 [(0, vr 0), (1, vi (a.1 86 i)), (2, vi (a.1 88 i))] [] z (rv (fun z' => eqS (Sl b) b z' ∧ md rL rA z z' ∧ acP (srt a (a.1 86 i).toNatClampNeg) z'))) ∧ (¬ a.1 87 i = -1 → ∀ (G : mG) (z : gd), eqS (Sl a) a z → MT G 4 z_doLate 0 [(0, vr 0), (1, vi (a.1 86 i)), (2, vi (a.1 87 i))] [] z (rv (fun z' => eqS (Sl b) b z' ∧ md rL rA z z')))
theorem st_ex {a : gd} (av : AV a) {i : Nat} (hi : (i : Int) < (a.1 0 84).toInt) : ∃ b, RI b (Sl b) ∧ wy01 b ∧ Tr a i b := by
  obtain ⟨ri, wy, ch, _, _, _⟩ := av
  obtain ⟨_, _, _, ⟨t0, t6⟩, co⟩ := ch i hi
  have tv : vp_in (a.1 86 i) 6 := by rw [vp_in_iff]; exact ⟨t0, t6⟩
  by_cases c : a.1 87 i = -1
  · have g := co.resolve_right (fun z => by rw [c] at z; exact absurd z.1 (by decide))
    obtain ⟨o, b, S', ⟨eo, rb, ss, as', ap⟩, m, q⟩ := ds_doAct (d := 0) (Fv := fun y S1 => RI y S1 ∧ ssub (Sl a) S1 ∧ acS S1 ∧ acP (srt a (a.1 86 i).toNatClampNeg) y) (a.1 86 i) (a.1 88 i) tv ri g.2.1 g.2.2 wy (fun y S1 h1 h2 h3 h4 => ⟨h1, h2, h3, h4⟩)
    refine ⟨b, RI_Sl rb, by unfold wy01; rw [m.1 68 (by decide)]; exact wy, fun _ G z e => MT_mono (q G z e) (fun o2 z' w => ?_), fun n => absurd c n⟩
    rw [w.1, eo]
    refine rv_i ⟨eqS_w (Sl_in rb) w.2.1, w.2.2, ?_⟩
    unfold acP
    rw [w.2.1 0 88 (Or.inr as'.1), w.2.1 0 89 (Or.inr as'.2.1)]
    exact ap
  · have g := co.resolve_left (fun z => c z.1)
    obtain ⟨o, b, S', ⟨eo, rb, ss, mb⟩, m, q⟩ := ds_doLate (d := 4) (Fv := fun y S1 => RI y S1 ∧ ssub (Sl a) S1 ∧ md [] [70, 80, 81, 82] a y) (a.1 86 i) (a.1 87 i) tv ri g.1 g.2 (fun y S1 h1 h2 h3 => ⟨h1, h2, h3⟩)
    refine ⟨b, RI_Sl rb, by unfold wy01; rw [m.1 68 (by decide)]; exact wy, fun n => absurd n c, fun _ G z e => MT_mono (q G z e) (fun o2 z' w => ?_)⟩
    rw [w.1, eo]
    exact rv_i ⟨eqS_w (Sl_in rb) w.2.1, w.2.2⟩
/-- one choice, and the choices found behind it -/
def Lk (a : gd) (i : Nat) (a' : gd) : Prop := ∃ b, Tr a i b ∧ fcA b a'
theorem lk_ex {a : gd} (av : AV a) {i : Nat} (hi : (i : Int) < (a.1 0 84).toInt) : ∃ a', AV a' ∧ Lk a i a' := by
  obtain ⟨b, h1, h2, h3⟩ := st_ex av hi
  obtain ⟨a', g1, g2, _⟩ := fc_ex h1 h2
  exact ⟨a', g1, b, h3, g2⟩
/-- ints alone: all but the fields L and the arrays A stay -/
def mi (L A : List Nat) (x x' : gd) : Prop := (∀ k, k ∉ L → x'.1 0 k = x.1 0 k) ∧ ∀ c, c ≠ 0 → c ∉ A → x'.1 c = x.1 c
theorem mi_of {L A : List Nat} {x x' : gd} (h : md L A x x') : mi L A x x' := ⟨h.1, h.2.1⟩
theorem mi_w {L A L2 A2 : List Nat} {x x' : gd} (h : mi L A x x') (h1 : ∀ k ∈ L, k ∈ L2) (h2 : ∀ k ∈ A, k ∈ A2) : mi L2 A2 x x' := ⟨fun k hk => h.1 k (fun m => hk (h1 k m)), fun c hc hk => h.2 c hc (fun m => hk (h2 c m))⟩
theorem mi_tr {L A L2 A2 L3 A3 : List Nat} {x y z : gd} (h : mi L A x y) (g : mi L2 A2 y z) (h1 : (L ++ L2).all (L3.elem ·) = true) (h2 : (A ++ A2).all (A3.elem ·) = true) : mi L3 A3 x z := by
  rw [List.all_eq_true] at h1 h2
  refine ⟨fun k hk => ?_, fun c hc hk => ?_⟩
  · rw [g.1 k (fun m => hk (List.elem_iff.mp (h1 k (List.mem_append_right _ m)))), h.1 k (fun m => hk (List.elem_iff.mp (h1 k (List.mem_append_left _ m))))]
  · rw [g.2 c hc (fun m => hk (List.elem_iff.mp (h2 c (List.mem_append_right _ m)))), h.2 c hc (fun m => hk (List.elem_iff.mp (h2 c (List.mem_append_left _ m))))]
theorem mi_eq {x y z : gd} {L A : List Nat} (h : mi L A x y) (e : z.1 = y.1) : mi L A x z := ⟨fun k hk => by rw [e]; exact h.1 k hk, fun c hc hk => by rw [e]; exact h.2 c hc hk⟩
/-- what is like a stays so where the core, the late writes and the choices stay -/
theorem eqS_mi {S : gS} {a z z' : gd} {L A : List Nat} (e : eqS S a z) (m : mi L A z z') (hL : [23, 24, 25, 26, 27, 68, 84].all (fun k => !L.elem k) = true) (hA : [36, 37, 38, 51, 52, 54, 55, 56, 57, 58, 59, 60, 61, 62, 64, 65, 66, 70, 71, 72, 73, 74, 75, 76, 77, 78, 79, 80, 81, 82, 86, 87, 88].all (fun k => !A.elem k) = true) (hS : ssub S (Sm a)) : eqS S a z' := by
  intro c j h
  rw [← e c j h]
  have key : ∀ c : Nat, c ≠ 0 → c ∈ [36, 37, 38, 51, 52, 54, 55, 56, 57, 58, 59, 60, 61, 62, 64, 65, 66, 70, 71, 72, 73, 74, 75, 76, 77, 78, 79, 80, 81, 82, 86, 87, 88] → z'.1 c j = z.1 c j := fun c h0 hc => by rw [m.2 c h0 (all_no hA c hc)]
  rcases h with (⟨h1, h2⟩ | ⟨n, h1, h2⟩) | h
  · rw [h1]
    refine m.1 j (all_no hL j ?_)
    simp at h2 ⊢
    omega
  · simp at h1
    exact key c (by omega) (by simp; omega)
  · rcases hS c j h with ⟨h1, h2⟩ | ⟨h1, _⟩ | ⟨h1, _⟩
    · rw [h1, h2]
      exact m.1 84 (all_no hL 84 (by decide))
    · exact key c (by omega) (by simp; omega)
    · exact key c (by omega) (by simp; omega)
