section
/-! how many parts the events of a text may make: no more than it has tokens -/
def ubv (v : Nat × Nat × Nat) : Nat := if v.1 = 24 ∨ v.1 = 27 then 2 else if v.1 = 50 ∨ v.1 = 51 ∨ v.1 = 52 ∨ v.1 = 53 ∨ v.1 = 3 ∨ v.1 = 6 ∨ v.1 = 7 ∨ v.1 = 54 then 1 else 0
def cnt (L : gU) : Nat := (L.map ubv).sum
section CNTL
variable {K V : Nat → Int32} {L L' : gU} {o : Bool} {sN : Nat → Nat → Bool}
theorem cnt_app {M : gU} : cnt (L ++ M) = cnt L + cnt M := by
  unfold cnt
  rw [List.map_append, List.sum_append]
theorem cnt_one {v : Nat × Nat × Nat} : cnt [v] = ubv v := rfl
theorem cnt_two {v w : Nat × Nat × Nat} : cnt [v, w] = ubv v + ubv w := rfl
theorem ub_3 {a b : Nat} : ubv (3, a, b) = 1 := rfl
theorem ub_6 {a b : Nat} : ubv (6, a, b) = 1 := rfl
theorem ub_7 {a b : Nat} : ubv (7, a, b) = 1 := rfl
theorem ub_12 {a b : Nat} : ubv (12, a, b) = 0 := rfl
theorem ub_20 {a b : Nat} : ubv (20, a, b) = 0 := rfl
theorem ub_21 {a b : Nat} : ubv (21, a, b) = 0 := rfl
theorem ub_22 {a b : Nat} : ubv (22, a, b) = 0 := rfl
theorem ub_23 {a b : Nat} : ubv (23, a, b) = 0 := rfl
theorem ub_24 {a b : Nat} : ubv (24, a, b) = 2 := rfl
theorem ub_25 {a b : Nat} : ubv (25, a, b) = 0 := rfl
theorem ub_26 {a b : Nat} : ubv (26, a, b) = 0 := rfl
theorem ub_27 {a b : Nat} : ubv (27, a, b) = 2 := rfl
theorem ub_31 {a b : Nat} : ubv (31, a, b) = 0 := rfl
theorem ub_32 {a b : Nat} : ubv (32, a, b) = 0 := rfl
theorem ub_33 {a b : Nat} : ubv (33, a, b) = 0 := rfl
theorem ub_34 {a b : Nat} : ubv (34, a, b) = 0 := rfl
theorem ub_35 {a b : Nat} : ubv (35, a, b) = 0 := rfl
theorem ub_36 {a b : Nat} : ubv (36, a, b) = 0 := rfl
theorem ub_50 {a b : Nat} : ubv (50, a, b) = 1 := rfl
theorem ub_51 {a b : Nat} : ubv (51, a, b) = 1 := rfl
theorem ub_52 {a b : Nat} : ubv (52, a, b) = 1 := rfl
theorem ub_53 {a b : Nat} : ubv (53, a, b) = 1 := rfl
theorem ub_54 {a b : Nat} : ubv (54, a, b) = 1 := rfl
theorem ub_60 {a b : Nat} : ubv (60, a, b) = 0 := rfl
theorem ub_61 {a b : Nat} : ubv (61, a, b) = 0 := rfl
theorem ub_62 {a b : Nat} : ubv (62, a, b) = 0 := rfl
theorem ub_63 {a b : Nat} : ubv (63, a, b) = 0 := rfl
theorem ub_65 {a b : Nat} : ubv (65, a, b) = 0 := rfl
theorem ub_66 {a b : Nat} : ubv (66, a, b) = 0 := rfl
theorem ub_67 {a b : Nat} : ubv (67, a, b) = 0 := rfl
theorem ub_68 {a b : Nat} : ubv (68, a, b) = 0 := rfl
theorem ub_69 {a b : Nat} : ubv (69, a, b) = 0 := rfl
theorem ub_70 {a b : Nat} : ubv (70, a, b) = 0 := rfl
theorem ub_74 {a b : Nat} : ubv (74, a, b) = 0 := rfl
theorem ub_75 {a b : Nat} : ubv (75, a, b) = 0 := rfl
theorem ub_76 {a b : Nat} : ubv (76, a, b) = 0 := rfl
theorem ub_77 {a b : Nat} : ubv (77, a, b) = 0 := rfl
theorem ub_78 {a b : Nat} : ubv (78, a, b) = 0 := rfl
theorem ub_80 {a b : Nat} : ubv (80, a, b) = 0 := rfl
theorem ub_81 {a b : Nat} : ubv (81, a, b) = 0 := rfl
theorem ub_82 {a b : Nat} : ubv (82, a, b) = 0 := rfl
theorem ub_83 {a b : Nat} : ubv (83, a, b) = 0 := rfl
/-- the parts are no more -/
theorem tPs_cnt : ∀ {L : gU} {E : gV}, (tPs sN V K L E).length ≤ cnt L := by
  intro L
  induction L with
  | nil => intro E; exact Nat.le_refl _
  | cons v L ih =>
    intro E
    show (tPv sN V K E v ++ tPs sN V K L (exV E v)).length ≤ ubv v + cnt L
    rw [List.length_append]
    have a : (tPv sN V K E v).length ≤ ubv v := by
      unfold tPv ubv
      by_cases c1 : v.1 = 24
      · rw [if_pos c1, if_pos (Or.inl c1)]
        unfold alP
        cases kfi sN E.1 v.2.1 with
        | none => exact Nat.zero_le _
        | some p => exact Nat.le_refl _
      · rw [if_neg c1]
        by_cases c2 : v.1 = 27
        · rw [if_pos c2, if_pos (Or.inr c2)]
          unfold alP
          cases kfi sN E.1 v.2.2 with
          | none => exact Nat.zero_le _
          | some p => exact Nat.le_refl _
        · rw [if_neg c2, if_neg (fun z => z.elim c1 c2)]
          by_cases c3 : v.1 = 50 ∨ v.1 = 51 ∨ v.1 = 52 ∨ v.1 = 53 ∨ v.1 = 3 ∨ v.1 = 6 ∨ v.1 = 7 ∨ v.1 = 54
          · rw [if_pos c3]
            cases cPt sN V K E v with
            | none => exact Nat.zero_le _
            | some p => exact Nat.le_refl _
          · rw [if_neg c3]
            have e : cPt sN V K E v = none := by
              unfold cPt
              rw [if_neg (by omega), if_neg (by omega), if_neg (by omega), if_neg (by omega), if_neg (by omega), if_neg (by omega)]
            rw [e]
            exact Nat.le_refl _
    have := ih (E := exV E v)
    omega
theorem pt_cn {w : Int32} {q r : Nat × gU} (h : pt K w q = some r) : cnt r.2 = cnt q.2 ∧ r.1 = q.1 + 1 := by
  obtain ⟨-, -, e⟩ := pt_is h
  rw [e]; exact ⟨rfl, rfl⟩
abbrev cgoN (rE : Nat → Nat → gU → gOp) : Prop := ∀ s i L q, rE s i L = some q → cnt q.2 + i ≤ cnt L + q.1
theorem pW_cn {rE : Nat → Nat → gU → gOp} {th : Nat} (hr : cgoN rE) : ∀ (f j : Nat) (L : gU) (q : Nat × gU), pW rE K th f j L = some q → cnt q.2 + j ≤ cnt L + q.1 := by
  intro f
  induction f with
  | zero => intro j L q h; exact absurd h (by simp [pW])
  | succ f ih =>
    intro j L q h
    rw [pW] at h
    split at h
    · split at h
      · obtain ⟨z, hz, h2⟩ := Option.bind_eq_some_iff.mp h
        have a := hr _ _ _ _ hz
        have b := ih _ _ _ h2
        ((try simp only [cnt_app, cnt_one, cnt_two, ub_3, ub_6, ub_7, ub_12, ub_20, ub_21, ub_22, ub_23, ub_24, ub_25, ub_26, ub_27, ub_31, ub_32, ub_33, ub_34, ub_35, ub_36, ub_50, ub_51, ub_52, ub_53, ub_54, ub_60, ub_61, ub_62, ub_63, ub_65, ub_66, ub_67, ub_68, ub_69, ub_70, ub_74, ub_75, ub_76, ub_77, ub_78, ub_80, ub_81, ub_82, ub_83] at *); omega)
      · exact absurd h (by simp)
    · cases Option.some.inj h; exact Nat.le_refl _
theorem pO_cn {rE : Nat → Nat → gU → gOp} (hr : cgoN rE) {i : Nat} {q : Nat × gU} (h : pO rE K o i L = some q) : cnt q.2 + i ≤ cnt L + q.1 := by
  unfold pO at h
  split at h
  · exact absurd h (by simp)
  · split at h
    · cases Option.some.inj h; ((try simp only [cnt_app, cnt_one, cnt_two, ub_3, ub_6, ub_7, ub_12, ub_20, ub_21, ub_22, ub_23, ub_24, ub_25, ub_26, ub_27, ub_31, ub_32, ub_33, ub_34, ub_35, ub_36, ub_50, ub_51, ub_52, ub_53, ub_54, ub_60, ub_61, ub_62, ub_63, ub_65, ub_66, ub_67, ub_68, ub_69, ub_70, ub_74, ub_75, ub_76, ub_77, ub_78, ub_80, ub_81, ub_82, ub_83] at *); omega)
    · split at h
      · cases Option.some.inj h; ((try simp only [cnt_app, cnt_one, cnt_two, ub_3, ub_6, ub_7, ub_12, ub_20, ub_21, ub_22, ub_23, ub_24, ub_25, ub_26, ub_27, ub_31, ub_32, ub_33, ub_34, ub_35, ub_36, ub_50, ub_51, ub_52, ub_53, ub_54, ub_60, ub_61, ub_62, ub_63, ub_65, ub_66, ub_67, ub_68, ub_69, ub_70, ub_74, ub_75, ub_76, ub_77, ub_78, ub_80, ub_81, ub_82, ub_83] at *); omega)
      · split at h
        · obtain ⟨z, hz, h2⟩ := Option.bind_eq_some_iff.mp h
          have a := hr _ _ _ _ hz
          have b := pt_cn h2
          ((try simp only [cnt_app, cnt_one, cnt_two, ub_3, ub_6, ub_7, ub_12, ub_20, ub_21, ub_22, ub_23, ub_24, ub_25, ub_26, ub_27, ub_31, ub_32, ub_33, ub_34, ub_35, ub_36, ub_50, ub_51, ub_52, ub_53, ub_54, ub_60, ub_61, ub_62, ub_63, ub_65, ub_66, ub_67, ub_68, ub_69, ub_70, ub_74, ub_75, ub_76, ub_77, ub_78, ub_80, ub_81, ub_82, ub_83] at *); omega)
        · split at h
          · split at h
            · split at h
              · split at h
                · cases Option.some.inj h; ((try simp only [cnt_app, cnt_one, cnt_two, ub_3, ub_6, ub_7, ub_12, ub_20, ub_21, ub_22, ub_23, ub_24, ub_25, ub_26, ub_27, ub_31, ub_32, ub_33, ub_34, ub_35, ub_36, ub_50, ub_51, ub_52, ub_53, ub_54, ub_60, ub_61, ub_62, ub_63, ub_65, ub_66, ub_67, ub_68, ub_69, ub_70, ub_74, ub_75, ub_76, ub_77, ub_78, ub_80, ub_81, ub_82, ub_83] at *); omega)
                · exact absurd h (by simp)
              · cases Option.some.inj h; ((try simp only [cnt_app, cnt_one, cnt_two, ub_3, ub_6, ub_7, ub_12, ub_20, ub_21, ub_22, ub_23, ub_24, ub_25, ub_26, ub_27, ub_31, ub_32, ub_33, ub_34, ub_35, ub_36, ub_50, ub_51, ub_52, ub_53, ub_54, ub_60, ub_61, ub_62, ub_63, ub_65, ub_66, ub_67, ub_68, ub_69, ub_70, ub_74, ub_75, ub_76, ub_77, ub_78, ub_80, ub_81, ub_82, ub_83] at *); omega)
            · cases Option.some.inj h; ((try simp only [cnt_app, cnt_one, cnt_two, ub_3, ub_6, ub_7, ub_12, ub_20, ub_21, ub_22, ub_23, ub_24, ub_25, ub_26, ub_27, ub_31, ub_32, ub_33, ub_34, ub_35, ub_36, ub_50, ub_51, ub_52, ub_53, ub_54, ub_60, ub_61, ub_62, ub_63, ub_65, ub_66, ub_67, ub_68, ub_69, ub_70, ub_74, ub_75, ub_76, ub_77, ub_78, ub_80, ub_81, ub_82, ub_83] at *); omega)
          · exact absurd h (by simp)
theorem pE_cn : ∀ f : Nat, cgoN (pE K o f) := by
  intro f
  induction f with
  | zero => intro s i L q h; exact absurd h (by simp [pE])
  | succ f ih =>
    intro s i L q h
    rw [pE] at h
    split at h
    · obtain ⟨z, hz, h2⟩ := Option.bind_eq_some_iff.mp h
      have b := pW_cn ih _ _ _ _ h2
      have a : cnt z.2 + i ≤ cnt L + z.1 := by
        split at hz
        · split at hz
          · obtain ⟨y, hy, h3⟩ := Option.bind_eq_some_iff.mp hz
            cases Option.some.inj h3
            have a := ih _ _ _ _ hy
            ((try simp only [cnt_app, cnt_one, cnt_two, ub_3, ub_6, ub_7, ub_12, ub_20, ub_21, ub_22, ub_23, ub_24, ub_25, ub_26, ub_27, ub_31, ub_32, ub_33, ub_34, ub_35, ub_36, ub_50, ub_51, ub_52, ub_53, ub_54, ub_60, ub_61, ub_62, ub_63, ub_65, ub_66, ub_67, ub_68, ub_69, ub_70, ub_74, ub_75, ub_76, ub_77, ub_78, ub_80, ub_81, ub_82, ub_83] at *); omega)
          · exact absurd hz (by simp)
        · exact pO_cn ih hz
      omega
    · exact absurd h (by simp)
theorem pX_cn {f i : Nat} {q : Nat × gU} (h : pX K o f i L = some q) : cnt q.2 + i ≤ cnt L + q.1 + 1 := by
  obtain ⟨z, hz, h2⟩ := Option.bind_eq_some_iff.mp h
  have a := pE_cn f _ _ _ _ hz
  unfold pan at h2
  cases Option.some.inj h2
  ((try simp only [cnt_app, cnt_one, cnt_two, ub_3, ub_6, ub_7, ub_12, ub_20, ub_21, ub_22, ub_23, ub_24, ub_25, ub_26, ub_27, ub_31, ub_32, ub_33, ub_34, ub_35, ub_36, ub_50, ub_51, ub_52, ub_53, ub_54, ub_60, ub_61, ub_62, ub_63, ub_65, ub_66, ub_67, ub_68, ub_69, ub_70, ub_74, ub_75, ub_76, ub_77, ub_78, ub_80, ub_81, ub_82, ub_83] at *); omega)
theorem pXq_cn {f : Nat} {r q : Nat × gU} (h : pXq K f r = some q) : cnt q.2 + r.1 ≤ cnt r.2 + q.1 + 1 := pX_cn h
theorem pP_cn {f i : Nat} {q : Nat × gU} (h : pP K f i L = some q) : cnt q.2 + i ≤ cnt L + q.1 := by
  unfold pP at h
  split at h
  · split at h
    · split at h
      · obtain ⟨z, hz, h2⟩ := Option.bind_eq_some_iff.mp h
        have a := pX_cn hz
        have b := pt_cn h2
        ((try simp only [cnt_app, cnt_one, cnt_two, ub_3, ub_6, ub_7, ub_12, ub_20, ub_21, ub_22, ub_23, ub_24, ub_25, ub_26, ub_27, ub_31, ub_32, ub_33, ub_34, ub_35, ub_36, ub_50, ub_51, ub_52, ub_53, ub_54, ub_60, ub_61, ub_62, ub_63, ub_65, ub_66, ub_67, ub_68, ub_69, ub_70, ub_74, ub_75, ub_76, ub_77, ub_78, ub_80, ub_81, ub_82, ub_83] at *); omega)
      · exact absurd h (by simp)
    · cases Option.some.inj h; ((try simp only [cnt_app, cnt_one, cnt_two, ub_3, ub_6, ub_7, ub_12, ub_20, ub_21, ub_22, ub_23, ub_24, ub_25, ub_26, ub_27, ub_31, ub_32, ub_33, ub_34, ub_35, ub_36, ub_50, ub_51, ub_52, ub_53, ub_54, ub_60, ub_61, ub_62, ub_63, ub_65, ub_66, ub_67, ub_68, ub_69, ub_70, ub_74, ub_75, ub_76, ub_77, ub_78, ub_80, ub_81, ub_82, ub_83] at *); omega)
  · exact absurd h (by simp)
theorem pme_cn {t : Option Nat} : cnt (pme t) = 0 := by
  cases t <;> rfl
theorem pma_cn {t : Option Nat} : cnt (pma t) = 0 := by
  cases t <;> rfl
theorem pal_cn {t : Option Nat} {i : Nat} : cnt [pal t i] = 2 := by
  cases t <;> rfl
theorem pan_cn {k a b : Nat} {q r : Nat × gU} (h : pan (k, a, b) q = some r) : cnt r.2 = cnt q.2 + ubv (k, a, b) ∧ r.1 = q.1 := by
  unfold pan at h
  cases Option.some.inj h
  exact ⟨cnt_app, rfl⟩
theorem pR_cn {f i : Nat} {t : Option Nat} {q : Nat × gU} (h : pR K f t i L = some q) : cnt q.2 + i ≤ cnt L + q.1 + 1 := by
  unfold pR at h
  split at h
  · split at h
    · obtain ⟨z4, hz4, h4⟩ := Option.bind_eq_some_iff.mp h
      obtain ⟨z3, hz3, h3⟩ := Option.bind_eq_some_iff.mp hz4
      obtain ⟨z2, hz2, h2⟩ := Option.bind_eq_some_iff.mp hz3
      obtain ⟨z5, hz5, h5⟩ := Option.bind_eq_some_iff.mp h4
      have d := pan_cn h5
      have a1 := pP_cn hz2
      have a2 := pt_cn h2
      have a3 := pXq_cn h3
      rw [cnt_app, pme_cn] at a1
      split at hz5
      · obtain ⟨z6, hz6, h6⟩ := Option.bind_eq_some_iff.mp hz5
        have b1 := pt_cn hz6
        have b2 := pXq_cn h6
        ((try simp only [cnt_app, cnt_one, cnt_two, ub_3, ub_6, ub_7, ub_12, ub_20, ub_21, ub_22, ub_23, ub_24, ub_25, ub_26, ub_27, ub_31, ub_32, ub_33, ub_34, ub_35, ub_36, ub_50, ub_51, ub_52, ub_53, ub_54, ub_60, ub_61, ub_62, ub_63, ub_65, ub_66, ub_67, ub_68, ub_69, ub_70, ub_74, ub_75, ub_76, ub_77, ub_78, ub_80, ub_81, ub_82, ub_83] at *); omega)
      · cases Option.some.inj hz5
        ((try simp only [cnt_app, cnt_one, cnt_two, ub_3, ub_6, ub_7, ub_12, ub_20, ub_21, ub_22, ub_23, ub_24, ub_25, ub_26, ub_27, ub_31, ub_32, ub_33, ub_34, ub_35, ub_36, ub_50, ub_51, ub_52, ub_53, ub_54, ub_60, ub_61, ub_62, ub_63, ub_65, ub_66, ub_67, ub_68, ub_69, ub_70, ub_74, ub_75, ub_76, ub_77, ub_78, ub_80, ub_81, ub_82, ub_83] at *); omega)
    · exact absurd h (by simp)
  · split at h
    · obtain ⟨z, hz, h2⟩ := Option.bind_eq_some_iff.mp h
      have a1 := pP_cn hz
      have d := pan_cn h2
      rw [cnt_app, pme_cn] at a1
      ((try simp only [cnt_app, cnt_one, cnt_two, ub_3, ub_6, ub_7, ub_12, ub_20, ub_21, ub_22, ub_23, ub_24, ub_25, ub_26, ub_27, ub_31, ub_32, ub_33, ub_34, ub_35, ub_36, ub_50, ub_51, ub_52, ub_53, ub_54, ub_60, ub_61, ub_62, ub_63, ub_65, ub_66, ub_67, ub_68, ub_69, ub_70, ub_74, ub_75, ub_76, ub_77, ub_78, ub_80, ub_81, ub_82, ub_83] at *); omega)
    · split at h
      · split at h
        · cases Option.some.inj h
          show cnt (L ++ [pal t i]) + i ≤ cnt L + (i + 1) + 1
          rw [cnt_app, pal_cn]
          omega
        · exact absurd h (by simp)
      · obtain ⟨z, hz, h2⟩ := Option.bind_eq_some_iff.mp h
        have a1 := pX_cn hz
        have d := pan_cn h2
        rw [cnt_app, pma_cn] at a1
        ((try simp only [cnt_app, cnt_one, cnt_two, ub_3, ub_6, ub_7, ub_12, ub_20, ub_21, ub_22, ub_23, ub_24, ub_25, ub_26, ub_27, ub_31, ub_32, ub_33, ub_34, ub_35, ub_36, ub_50, ub_51, ub_52, ub_53, ub_54, ub_60, ub_61, ub_62, ub_63, ub_65, ub_66, ub_67, ub_68, ub_69, ub_70, ub_74, ub_75, ub_76, ub_77, ub_78, ub_80, ub_81, ub_82, ub_83] at *); omega)
abbrev cgsN (rS : Nat → Nat → gU → gTs) : Prop := ∀ c i L q, rS c i L = some q → cnt q.2.2 + i ≤ cnt L + q.2.1
theorem pBl_cn {rS : Nat → Nat → gU → gTs} {z : Nat} (hr : cgsN rS) : ∀ (n c i : Nat) (L : gU) (q : Nat × Nat × gU), pBl rS K z n c i L = some q → cnt q.2.2 + i ≤ cnt L + q.2.1 := by
  intro n
  induction n with
  | zero => intro c i L q h; exact absurd h (by simp [pBl])
  | succ n ih =>
    intro c i L q h
    rw [pBl] at h
    split at h
    · split at h
      · cases Option.some.inj h; ((try simp only [cnt_app, cnt_one, cnt_two, ub_3, ub_6, ub_7, ub_12, ub_20, ub_21, ub_22, ub_23, ub_24, ub_25, ub_26, ub_27, ub_31, ub_32, ub_33, ub_34, ub_35, ub_36, ub_50, ub_51, ub_52, ub_53, ub_54, ub_60, ub_61, ub_62, ub_63, ub_65, ub_66, ub_67, ub_68, ub_69, ub_70, ub_74, ub_75, ub_76, ub_77, ub_78, ub_80, ub_81, ub_82, ub_83] at *); omega)
      · exact absurd h (by simp)
    · obtain ⟨y, hy, h2⟩ := Option.bind_eq_some_iff.mp h
      have a := hr _ _ _ _ hy
      have b := ih _ _ _ _ h2
      omega
theorem pBk_cn {rS : Nat → Nat → gU → gTs} {z : Nat} (hr : cgsN rS) {c i : Nat} {q : Nat × Nat × gU} (h : pBk rS K z c i L = some q) : cnt q.2.2 + i ≤ cnt L + q.2.1 := by
  unfold pBk at h
  split at h
  · have b := pBl_cn hr _ _ _ _ _ h
    ((try simp only [cnt_app, cnt_one, cnt_two, ub_3, ub_6, ub_7, ub_12, ub_20, ub_21, ub_22, ub_23, ub_24, ub_25, ub_26, ub_27, ub_31, ub_32, ub_33, ub_34, ub_35, ub_36, ub_50, ub_51, ub_52, ub_53, ub_54, ub_60, ub_61, ub_62, ub_63, ub_65, ub_66, ub_67, ub_68, ub_69, ub_70, ub_74, ub_75, ub_76, ub_77, ub_78, ub_80, ub_81, ub_82, ub_83] at *); omega)
  · exact absurd h (by simp)
theorem pEl_cn {rS : Nat → Nat → gU → gTs} (hr : cgsN rS) {q r : Nat × Nat × gU} (h : pEl rS K q = some r) : cnt r.2.2 + q.2.1 ≤ cnt q.2.2 + r.2.1 := by
  unfold pEl at h
  split at h
  · split at h
    · split at h
      · have b := hr _ _ _ _ h
        ((try simp only [cnt_app, cnt_one, cnt_two, ub_3, ub_6, ub_7, ub_12, ub_20, ub_21, ub_22, ub_23, ub_24, ub_25, ub_26, ub_27, ub_31, ub_32, ub_33, ub_34, ub_35, ub_36, ub_50, ub_51, ub_52, ub_53, ub_54, ub_60, ub_61, ub_62, ub_63, ub_65, ub_66, ub_67, ub_68, ub_69, ub_70, ub_74, ub_75, ub_76, ub_77, ub_78, ub_80, ub_81, ub_82, ub_83] at *); omega)
      · have b := pBk_cn hr h
        ((try simp only [cnt_app, cnt_one, cnt_two, ub_3, ub_6, ub_7, ub_12, ub_20, ub_21, ub_22, ub_23, ub_24, ub_25, ub_26, ub_27, ub_31, ub_32, ub_33, ub_34, ub_35, ub_36, ub_50, ub_51, ub_52, ub_53, ub_54, ub_60, ub_61, ub_62, ub_63, ub_65, ub_66, ub_67, ub_68, ub_69, ub_70, ub_74, ub_75, ub_76, ub_77, ub_78, ub_80, ub_81, ub_82, ub_83] at *); omega)
    · exact absurd h (by simp)
  · cases Option.some.inj h; exact Nat.le_refl _
theorem pup_cn {c k a b : Nat} {r : gOp} {q : Nat × Nat × gU} (h : pup c (k, a, b) r = some q) : ∃ z, r = some z ∧ cnt q.2.2 = cnt z.2 + ubv (k, a, b) ∧ q.2.1 = z.1 := by
  unfold pup at h
  obtain ⟨z, hz, e⟩ := Option.bind_eq_some_iff.mp h
  cases Option.some.inj e
  exact ⟨z, hz, cnt_app, rfl⟩
theorem pS1_cn {f c i : Nat} {q : Nat × Nat × gU} (h : pS1 K f c i L = some q) : cnt q.2.2 + i ≤ cnt L + q.2.1 := by
  unfold pS1 at h
  split at h
  · split at h
    · obtain ⟨z, h, g⟩ := pup_cn h
      obtain ⟨y, hy, h2⟩ := Option.bind_eq_some_iff.mp h
      have a := pR_cn hy
      have b := pt_cn h2
      ((try simp only [cnt_app, cnt_one, cnt_two, ub_3, ub_6, ub_7, ub_12, ub_20, ub_21, ub_22, ub_23, ub_24, ub_25, ub_26, ub_27, ub_31, ub_32, ub_33, ub_34, ub_35, ub_36, ub_50, ub_51, ub_52, ub_53, ub_54, ub_60, ub_61, ub_62, ub_63, ub_65, ub_66, ub_67, ub_68, ub_69, ub_70, ub_74, ub_75, ub_76, ub_77, ub_78, ub_80, ub_81, ub_82, ub_83] at *); omega)
    · exact absurd h (by simp)
  · split at h
    · split at h
      · split at h
        · obtain ⟨z, h, g⟩ := pup_cn h
          obtain ⟨y5, hy5, h5⟩ := Option.bind_eq_some_iff.mp h
          obtain ⟨y4, hy4, h4⟩ := Option.bind_eq_some_iff.mp hy5
          obtain ⟨y3, hy3, h3⟩ := Option.bind_eq_some_iff.mp hy4
          obtain ⟨y2, hy2, h2⟩ := Option.bind_eq_some_iff.mp hy3
          have a1 := pX_cn hy2
          have a2 := pt_cn h2
          have a3 := pt_cn h3
          have a4 := pXq_cn h4
          have a5 := pt_cn h5
          ((try simp only [cnt_app, cnt_one, cnt_two, ub_3, ub_6, ub_7, ub_12, ub_20, ub_21, ub_22, ub_23, ub_24, ub_25, ub_26, ub_27, ub_31, ub_32, ub_33, ub_34, ub_35, ub_36, ub_50, ub_51, ub_52, ub_53, ub_54, ub_60, ub_61, ub_62, ub_63, ub_65, ub_66, ub_67, ub_68, ub_69, ub_70, ub_74, ub_75, ub_76, ub_77, ub_78, ub_80, ub_81, ub_82, ub_83] at *); omega)
        · exact absurd h (by simp)
      · split at h
        · obtain ⟨z, h, g⟩ := pup_cn h
          obtain ⟨y2, hy2, h2⟩ := Option.bind_eq_some_iff.mp h
          have a := pR_cn hy2
          have b := pt_cn h2
          ((try simp only [cnt_app, cnt_one, cnt_two, ub_3, ub_6, ub_7, ub_12, ub_20, ub_21, ub_22, ub_23, ub_24, ub_25, ub_26, ub_27, ub_31, ub_32, ub_33, ub_34, ub_35, ub_36, ub_50, ub_51, ub_52, ub_53, ub_54, ub_60, ub_61, ub_62, ub_63, ub_65, ub_66, ub_67, ub_68, ub_69, ub_70, ub_74, ub_75, ub_76, ub_77, ub_78, ub_80, ub_81, ub_82, ub_83] at *); omega)
        · exact absurd h (by simp)
    · split at h
      · obtain ⟨z, h, g⟩ := pup_cn h
        have b := pt_cn h
        ((try simp only [cnt_app, cnt_one, cnt_two, ub_3, ub_6, ub_7, ub_12, ub_20, ub_21, ub_22, ub_23, ub_24, ub_25, ub_26, ub_27, ub_31, ub_32, ub_33, ub_34, ub_35, ub_36, ub_50, ub_51, ub_52, ub_53, ub_54, ub_60, ub_61, ub_62, ub_63, ub_65, ub_66, ub_67, ub_68, ub_69, ub_70, ub_74, ub_75, ub_76, ub_77, ub_78, ub_80, ub_81, ub_82, ub_83] at *); omega)
      · split at h
        · obtain ⟨z, h, g⟩ := pup_cn h
          obtain ⟨y2, hy2, h2⟩ := Option.bind_eq_some_iff.mp h
          have a := pX_cn hy2
          have b := pt_cn h2
          ((try simp only [cnt_app, cnt_one, cnt_two, ub_3, ub_6, ub_7, ub_12, ub_20, ub_21, ub_22, ub_23, ub_24, ub_25, ub_26, ub_27, ub_31, ub_32, ub_33, ub_34, ub_35, ub_36, ub_50, ub_51, ub_52, ub_53, ub_54, ub_60, ub_61, ub_62, ub_63, ub_65, ub_66, ub_67, ub_68, ub_69, ub_70, ub_74, ub_75, ub_76, ub_77, ub_78, ub_80, ub_81, ub_82, ub_83] at *); omega)
        · split at h
          · split at h
            · obtain ⟨z, h, g⟩ := pup_cn h
              obtain ⟨y2, hy2, h2⟩ := Option.bind_eq_some_iff.mp h
              have a := pX_cn hy2
              have b := pt_cn h2
              ((try simp only [cnt_app, cnt_one, cnt_two, ub_3, ub_6, ub_7, ub_12, ub_20, ub_21, ub_22, ub_23, ub_24, ub_25, ub_26, ub_27, ub_31, ub_32, ub_33, ub_34, ub_35, ub_36, ub_50, ub_51, ub_52, ub_53, ub_54, ub_60, ub_61, ub_62, ub_63, ub_65, ub_66, ub_67, ub_68, ub_69, ub_70, ub_74, ub_75, ub_76, ub_77, ub_78, ub_80, ub_81, ub_82, ub_83] at *); omega)
            · exact absurd h (by simp)
          · split at h
            · split at h
              · obtain ⟨z, h, g⟩ := pup_cn h
                have b := pt_cn h
                ((try simp only [cnt_app, cnt_one, cnt_two, ub_3, ub_6, ub_7, ub_12, ub_20, ub_21, ub_22, ub_23, ub_24, ub_25, ub_26, ub_27, ub_31, ub_32, ub_33, ub_34, ub_35, ub_36, ub_50, ub_51, ub_52, ub_53, ub_54, ub_60, ub_61, ub_62, ub_63, ub_65, ub_66, ub_67, ub_68, ub_69, ub_70, ub_74, ub_75, ub_76, ub_77, ub_78, ub_80, ub_81, ub_82, ub_83] at *); omega)
              · exact absurd h (by simp)
            · split at h
              · split at h
                · obtain ⟨z, h, g⟩ := pup_cn h
                  have b := pt_cn h
                  ((try simp only [cnt_app, cnt_one, cnt_two, ub_3, ub_6, ub_7, ub_12, ub_20, ub_21, ub_22, ub_23, ub_24, ub_25, ub_26, ub_27, ub_31, ub_32, ub_33, ub_34, ub_35, ub_36, ub_50, ub_51, ub_52, ub_53, ub_54, ub_60, ub_61, ub_62, ub_63, ub_65, ub_66, ub_67, ub_68, ub_69, ub_70, ub_74, ub_75, ub_76, ub_77, ub_78, ub_80, ub_81, ub_82, ub_83] at *); omega)
                · exact absurd h (by simp)
              · exact absurd h (by simp)
theorem pfi_cn {q r : Nat × Nat × gU} (h : pfi q = some r) : cnt r.2.2 = cnt q.2.2 ∧ r.2.1 = q.2.1 := by
  unfold pfi at h
  cases Option.some.inj h
  exact ⟨cnt_app, rfl⟩
theorem pS_cn : ∀ f : Nat, cgsN (pS K f) := by
  intro f
  induction f with
  | zero => intro c i L q h; exact absurd h (by simp [pS])
  | succ f ih =>
    intro c i L q h
    rw [pS] at h
    split at h
    · exact absurd h (by simp)
    · split at h
      · obtain ⟨z, hz, h2⟩ := Option.bind_eq_some_iff.mp h
        obtain ⟨x, hx, h4⟩ := Option.bind_eq_some_iff.mp h2
        obtain ⟨y, hy, h3⟩ := Option.bind_eq_some_iff.mp hx
        have a := pX_cn hz
        have b := pBk_cn ih hy
        have c := pEl_cn ih h3
        have d := pfi_cn h4
        ((try simp only [cnt_app, cnt_one, cnt_two, ub_3, ub_6, ub_7, ub_12, ub_20, ub_21, ub_22, ub_23, ub_24, ub_25, ub_26, ub_27, ub_31, ub_32, ub_33, ub_34, ub_35, ub_36, ub_50, ub_51, ub_52, ub_53, ub_54, ub_60, ub_61, ub_62, ub_63, ub_65, ub_66, ub_67, ub_68, ub_69, ub_70, ub_74, ub_75, ub_76, ub_77, ub_78, ub_80, ub_81, ub_82, ub_83] at *); omega)
      · split at h
        · obtain ⟨z, hz, h2⟩ := Option.bind_eq_some_iff.mp h
          have a := pX_cn hz
          have b := pBk_cn ih h2
          ((try simp only [cnt_app, cnt_one, cnt_two, ub_3, ub_6, ub_7, ub_12, ub_20, ub_21, ub_22, ub_23, ub_24, ub_25, ub_26, ub_27, ub_31, ub_32, ub_33, ub_34, ub_35, ub_36, ub_50, ub_51, ub_52, ub_53, ub_54, ub_60, ub_61, ub_62, ub_63, ub_65, ub_66, ub_67, ub_68, ub_69, ub_70, ub_74, ub_75, ub_76, ub_77, ub_78, ub_80, ub_81, ub_82, ub_83] at *); omega)
        · split at h
          · split at h
            · have b := pBk_cn ih h
              ((try simp only [cnt_app, cnt_one, cnt_two, ub_3, ub_6, ub_7, ub_12, ub_20, ub_21, ub_22, ub_23, ub_24, ub_25, ub_26, ub_27, ub_31, ub_32, ub_33, ub_34, ub_35, ub_36, ub_50, ub_51, ub_52, ub_53, ub_54, ub_60, ub_61, ub_62, ub_63, ub_65, ub_66, ub_67, ub_68, ub_69, ub_70, ub_74, ub_75, ub_76, ub_77, ub_78, ub_80, ub_81, ub_82, ub_83] at *); omega)
            · exact absurd h (by simp)
          · exact pS1_cn h
theorem pCv_cn {q r : Nat × gU} (h : pCv K q = some r) : cnt r.2 = cnt q.2 ∧ q.1 ≤ r.1 := by
  unfold pCv at h
  split at h
  · split at h
    · split at h
      · split at h
        · cases Option.some.inj h; exact ⟨cnt_app, by show q.1 ≤ q.1 + 3; omega⟩
        · exact absurd h (by simp)
      · split at h
        · cases Option.some.inj h; exact ⟨cnt_app, by show q.1 ≤ q.1 + 2; omega⟩
        · exact absurd h (by simp)
    · exact absurd h (by simp)
  · cases Option.some.inj h; exact ⟨cnt_app, Nat.le_refl _⟩
theorem pCl_cn {n i t : Nat} {q : Nat × Nat × gU} (h : pCl K V n i t L = some q) : cnt q.2.2 + t ≤ cnt L + q.2.1 := by
  unfold pCl at h
  split at h
  · split at h
    · split at h
      · obtain ⟨z, hz, h2⟩ := Option.bind_eq_some_iff.mp h
        obtain ⟨y, hy, h3⟩ := Option.bind_eq_some_iff.mp hz
        have a := pCv_cn hy
        have b := pt_cn h3
        cases Option.some.inj h2
        ((try simp only [cnt_app, cnt_one, cnt_two, ub_3, ub_6, ub_7, ub_12, ub_20, ub_21, ub_22, ub_23, ub_24, ub_25, ub_26, ub_27, ub_31, ub_32, ub_33, ub_34, ub_35, ub_36, ub_50, ub_51, ub_52, ub_53, ub_54, ub_60, ub_61, ub_62, ub_63, ub_65, ub_66, ub_67, ub_68, ub_69, ub_70, ub_74, ub_75, ub_76, ub_77, ub_78, ub_80, ub_81, ub_82, ub_83] at *); omega)
      · exact absurd h (by simp)
    · obtain ⟨z, hz, h2⟩ := Option.bind_eq_some_iff.mp h
      obtain ⟨y, hy, h3⟩ := Option.bind_eq_some_iff.mp hz
      have a := pCv_cn hy
      have b := pt_cn h3
      cases Option.some.inj h2
      ((try simp only [cnt_app, cnt_one, cnt_two, ub_3, ub_6, ub_7, ub_12, ub_20, ub_21, ub_22, ub_23, ub_24, ub_25, ub_26, ub_27, ub_31, ub_32, ub_33, ub_34, ub_35, ub_36, ub_50, ub_51, ub_52, ub_53, ub_54, ub_60, ub_61, ub_62, ub_63, ub_65, ub_66, ub_67, ub_68, ub_69, ub_70, ub_74, ub_75, ub_76, ub_77, ub_78, ub_80, ub_81, ub_82, ub_83] at *); omega)
  · exact absurd h (by simp)
theorem pD_cn {n : gN} {i : Nat} {q : gN × Nat × gU} (h : pD K V n i L = some q) : cnt q.2.2 + i ≤ cnt L + q.2.1 := by
  unfold pD at h
  split at h
  · split at h
    · obtain ⟨z, hz, h2⟩ := Option.bind_eq_some_iff.mp h
      have a := pCl_cn hz
      cases Option.some.inj h2
      ((try simp only [cnt_app, cnt_one, cnt_two, ub_3, ub_6, ub_7, ub_12, ub_20, ub_21, ub_22, ub_23, ub_24, ub_25, ub_26, ub_27, ub_31, ub_32, ub_33, ub_34, ub_35, ub_36, ub_50, ub_51, ub_52, ub_53, ub_54, ub_60, ub_61, ub_62, ub_63, ub_65, ub_66, ub_67, ub_68, ub_69, ub_70, ub_74, ub_75, ub_76, ub_77, ub_78, ub_80, ub_81, ub_82, ub_83] at *); omega)
    · exact absurd h (by simp)
  · split at h
    · obtain ⟨z, hz, h2⟩ := Option.bind_eq_some_iff.mp h
      have a := pCl_cn hz
      cases Option.some.inj h2
      ((try simp only [cnt_app, cnt_one, cnt_two, ub_3, ub_6, ub_7, ub_12, ub_20, ub_21, ub_22, ub_23, ub_24, ub_25, ub_26, ub_27, ub_31, ub_32, ub_33, ub_34, ub_35, ub_36, ub_50, ub_51, ub_52, ub_53, ub_54, ub_60, ub_61, ub_62, ub_63, ub_65, ub_66, ub_67, ub_68, ub_69, ub_70, ub_74, ub_75, ub_76, ub_77, ub_78, ub_80, ub_81, ub_82, ub_83] at *); omega)
    · split at h
      · split at h
        · cases Option.some.inj h; ((try simp only [cnt_app, cnt_one, cnt_two, ub_3, ub_6, ub_7, ub_12, ub_20, ub_21, ub_22, ub_23, ub_24, ub_25, ub_26, ub_27, ub_31, ub_32, ub_33, ub_34, ub_35, ub_36, ub_50, ub_51, ub_52, ub_53, ub_54, ub_60, ub_61, ub_62, ub_63, ub_65, ub_66, ub_67, ub_68, ub_69, ub_70, ub_74, ub_75, ub_76, ub_77, ub_78, ub_80, ub_81, ub_82, ub_83] at *); omega)
        · exact absurd h (by simp)
      · split at h
        · split at h
          · obtain ⟨z, hz, h2⟩ := Option.bind_eq_some_iff.mp h
            have a := pBk_cn (pS_cn 16) hz
            cases Option.some.inj h2
            ((try simp only [cnt_app, cnt_one, cnt_two, ub_3, ub_6, ub_7, ub_12, ub_20, ub_21, ub_22, ub_23, ub_24, ub_25, ub_26, ub_27, ub_31, ub_32, ub_33, ub_34, ub_35, ub_36, ub_50, ub_51, ub_52, ub_53, ub_54, ub_60, ub_61, ub_62, ub_63, ub_65, ub_66, ub_67, ub_68, ub_69, ub_70, ub_74, ub_75, ub_76, ub_77, ub_78, ub_80, ub_81, ub_82, ub_83] at *); omega)
          · exact absurd h (by simp)
        · split at h
          · split at h
            · obtain ⟨z, hz, h2⟩ := Option.bind_eq_some_iff.mp h
              have a := pBk_cn (pS_cn 16) hz
              cases Option.some.inj h2
              ((try simp only [cnt_app, cnt_one, cnt_two, ub_3, ub_6, ub_7, ub_12, ub_20, ub_21, ub_22, ub_23, ub_24, ub_25, ub_26, ub_27, ub_31, ub_32, ub_33, ub_34, ub_35, ub_36, ub_50, ub_51, ub_52, ub_53, ub_54, ub_60, ub_61, ub_62, ub_63, ub_65, ub_66, ub_67, ub_68, ub_69, ub_70, ub_74, ub_75, ub_76, ub_77, ub_78, ub_80, ub_81, ub_82, ub_83] at *); omega)
            · exact absurd h (by simp)
          · split at h
            · split at h
              · obtain ⟨z, hz, h2⟩ := Option.bind_eq_some_iff.mp h
                obtain ⟨y, hy, h3⟩ := Option.bind_eq_some_iff.mp hz
                have a := pX_cn hy
                have b := pt_cn h3
                cases Option.some.inj h2
                ((try simp only [cnt_app, cnt_one, cnt_two, ub_3, ub_6, ub_7, ub_12, ub_20, ub_21, ub_22, ub_23, ub_24, ub_25, ub_26, ub_27, ub_31, ub_32, ub_33, ub_34, ub_35, ub_36, ub_50, ub_51, ub_52, ub_53, ub_54, ub_60, ub_61, ub_62, ub_63, ub_65, ub_66, ub_67, ub_68, ub_69, ub_70, ub_74, ub_75, ub_76, ub_77, ub_78, ub_80, ub_81, ub_82, ub_83] at *); omega)
              · exact absurd h (by simp)
            · split at h
              · split at h
                · obtain ⟨z, hz, h2⟩ := Option.bind_eq_some_iff.mp h
                  obtain ⟨y, hy, h3⟩ := Option.bind_eq_some_iff.mp hz
                  have a := pX_cn hy
                  have b := pt_cn h3
                  cases Option.some.inj h2
                  ((try simp only [cnt_app, cnt_one, cnt_two, ub_3, ub_6, ub_7, ub_12, ub_20, ub_21, ub_22, ub_23, ub_24, ub_25, ub_26, ub_27, ub_31, ub_32, ub_33, ub_34, ub_35, ub_36, ub_50, ub_51, ub_52, ub_53, ub_54, ub_60, ub_61, ub_62, ub_63, ub_65, ub_66, ub_67, ub_68, ub_69, ub_70, ub_74, ub_75, ub_76, ub_77, ub_78, ub_80, ub_81, ub_82, ub_83] at *); omega)
                · exact absurd h (by simp)
              · exact absurd h (by simp)
theorem pAl_cn : ∀ (m : Nat) (n : gN) (i : Nat) (L : gU) (q : gN × Nat × gU), pAl K V m n i L = some q → cnt q.2.2 + i ≤ cnt L + q.2.1 := by
  intro m
  induction m with
  | zero => intro n i L q h; exact absurd h (by simp [pAl])
  | succ m ih =>
    intro n i L q h
    rw [pAl] at h
    split at h
    · cases Option.some.inj h; exact Nat.le_refl _
    · obtain ⟨z, hz, h2⟩ := Option.bind_eq_some_iff.mp h
      have a := pD_cn hz
      have b := ih _ _ _ _ h2
      omega
/-- so all parts have room -/
theorem tPs_800 {n : gN} {j : Nat} {E : gV} (h : pAl K V 701 (0, 0, 0, 0, 0) 0 [] = some (n, j, L)) : (tPs sN V K L E).length ≤ j := by
  have a := pAl_cn _ _ _ _ _ h
  have b : (tPs sN V K L E).length ≤ cnt L := tPs_cnt
  have a : cnt L + 0 ≤ 0 + j := a
  omega
end CNTL
end
section
/-! the code of a text, by the grammar: what its sums and steps are like -/
/-- a sum's events -/
def sVv (K : Nat → Int32) (v : Nat × Nat × Nat) : Prop := (v.1 = 50 → K v.2.1 = 29 ∨ K v.2.1 = 58) ∧ (v.1 = 51 → ¬ pst (K v.2.1) = 0) ∧ (v.1 = 52 → K v.2.1 = 2) ∧ (v.1 = 3 ∨ v.1 = 6 ∨ v.1 = 7 → K v.2.1 = 1) ∧ (v.1 = 12 → K v.2.1 = 2 ∧ K v.2.2 = 1)
/-- how high the values stand: h before the events, 1 behind them, never above 40 -/
def okE : gU → Nat → Prop
  | [], h => h = 1
  | v :: N, h => if v.1 = 7 then okE N h else if v.1 = 50 then 1 ≤ h ∧ okE N h else if v.1 = 51 then 2 ≤ h ∧ okE N (h - 1) else h < 40 ∧ okE N (h + 1)
/-- a cell of a row is told by two events, the one behind the other -/
def ajE (N : gU) : Prop := ∀ (f g : Nat × Nat × Nat → Option (Int32 × Int32)), (∀ v ∈ N, ¬ v.1 = 7 → ¬ v.1 = 12 → f v = g v) → (∀ i, (7, i, 0) ∈ N → (12, i + 2, i) ∈ N → f (7, i, 0) = g (12, i + 2, i)) → (∀ i j, f (12, i, j) = none) → (∀ i j, g (7, i, j) = none) → N.filterMap f = N.filterMap g
def sW (K : Nat → Int32) (d : Nat) (N : gU) : Prop := (∀ v ∈ N, sVv K v) ∧ (∀ R h, h + d ≤ 40 → okE R (h + 1) → okE (N ++ R) h) ∧ ajE N
section SWL
variable {K V : Nat → Int32} {sN : Nat → Nat → Bool} {T : gTd} {L M N R : gU} {d e i j f : Nat} {v : Nat × Nat × Nat} {o : Bool} {E : gV}
theorem ajE_app (a : ajE N) (b : ajE M) : ajE (N ++ M) := fun f g h1 h2 h3 h4 => by
  rw [List.filterMap_append, List.filterMap_append, a f g (fun v hv => h1 v (List.mem_append_left _ hv)) (fun i a1 a2 => h2 i (List.mem_append_left _ a1) (List.mem_append_left _ a2)) h3 h4, b f g (fun v hv => h1 v (List.mem_append_right _ hv)) (fun i a1 a2 => h2 i (List.mem_append_right _ a1) (List.mem_append_right _ a2)) h3 h4]
theorem ajE_one (h : ¬ v.1 = 7 ∧ ¬ v.1 = 12) : ajE [v] := fun f g h1 _ _ _ => by
  simp only [List.filterMap_cons, List.filterMap_nil, h1 v List.mem_cons_self h.1 h.2]
theorem ajE_row : ajE [(7, i, 0), (12, i + 2, i)] := fun f g h1 h2 h3 h4 => by
  have e := h2 i List.mem_cons_self (List.mem_cons_of_mem _ List.mem_cons_self)
  simp only [List.filterMap_cons, List.filterMap_nil, e, h3, h4]
theorem sVv_50 (k : K i = 29 ∨ K i = 58) : sVv K (50, i, j) := ⟨fun _ => k, fun c => absurd c (show ¬ 50 = 51 by decide), fun c => absurd c (show ¬ 50 = 52 by decide), fun c => absurd c (show ¬ (50 = 3 ∨ 50 = 6 ∨ 50 = 7) by decide), fun c => absurd c (show ¬ 50 = 12 by decide)⟩
theorem sVv_51 (k : ¬ pst (K i) = 0) : sVv K (51, i, j) := ⟨fun c => absurd c (show ¬ 51 = 50 by decide), fun _ => k, fun c => absurd c (show ¬ 51 = 52 by decide), fun c => absurd c (show ¬ (51 = 3 ∨ 51 = 6 ∨ 51 = 7) by decide), fun c => absurd c (show ¬ 51 = 12 by decide)⟩
theorem sVv_52 (k : K i = 2) : sVv K (52, i, j) := ⟨fun c => absurd c (show ¬ 52 = 50 by decide), fun c => absurd c (show ¬ 52 = 51 by decide), fun _ => k, fun c => absurd c (show ¬ (52 = 3 ∨ 52 = 6 ∨ 52 = 7) by decide), fun c => absurd c (show ¬ 52 = 12 by decide)⟩
theorem sVv_53 : sVv K (53, i, j) := ⟨fun c => absurd c (show ¬ 53 = 50 by decide), fun c => absurd c (show ¬ 53 = 51 by decide), fun c => absurd c (show ¬ 53 = 52 by decide), fun c => absurd c (show ¬ (53 = 3 ∨ 53 = 6 ∨ 53 = 7) by decide), fun c => absurd c (show ¬ 53 = 12 by decide)⟩
theorem sVv_nm {k : Nat} (hk : k = 3 ∨ k = 6 ∨ k = 7) (k1 : K i = 1) : sVv K (k, i, j) := by
  have c0 : ¬ k = 50 := by omega
  have c1 : ¬ k = 51 := by omega
  have c2 : ¬ k = 52 := by omega
  have c3 : ¬ k = 12 := by omega
  exact ⟨fun c => absurd c c0, fun c => absurd c c1, fun c => absurd c c2, fun _ => k1, fun c => absurd c c3⟩
theorem sVv_12 (k2 : K i = 2) (k1 : K j = 1) : sVv K (12, i, j) := ⟨fun c => absurd c (show ¬ 12 = 50 by decide), fun c => absurd c (show ¬ 12 = 51 by decide), fun c => absurd c (show ¬ 12 = 52 by decide), fun c => absurd c (show ¬ (12 = 3 ∨ 12 = 6 ∨ 12 = 7) by decide), fun _ => ⟨k2, k1⟩⟩
theorem sW_up (h : sW K d N) (hd : d ≤ e) : sW K e N := ⟨h.1, fun R h' hh hR => h.2.1 R h' (by omega) hR, h.2.2⟩
theorem sW_leaf (hv : sVv K v) (h : ¬ v.1 = 7 ∧ ¬ v.1 = 12 ∧ ¬ v.1 = 50 ∧ ¬ v.1 = 51) (hd : 1 ≤ d) : sW K d [v] := ⟨fun w hw => by rw [List.mem_singleton.mp hw]; exact hv, fun R h' hh hR => by
  show okE (v :: R) h'
  rw [okE, if_neg h.1, if_neg h.2.2.1, if_neg h.2.2.2]
  exact ⟨by omega, hR⟩, ajE_one ⟨h.1, h.2.1⟩⟩
theorem sW_row (k1 : K i = 1) (k2 : K (i + 2) = 2) (hd : 1 ≤ d) : sW K d [(7, i, 0), (12, i + 2, i)] := ⟨fun w hw => by
  rcases List.mem_cons.mp hw with e | hw
  · rw [e]; exact sVv_nm (Or.inr (Or.inr rfl)) k1
  · rw [List.mem_singleton.mp hw]; exact sVv_12 k2 k1, fun R h' hh hR => by
  show okE ((7, i, 0) :: (12, i + 2, i) :: R) h'
  rw [okE, if_pos rfl, okE, if_neg (show ¬ 12 = 7 by decide), if_neg (show ¬ 12 = 50 by decide), if_neg (show ¬ 12 = 51 by decide)]
  exact ⟨by omega, hR⟩, ajE_row⟩
theorem sW_un (a : sW K d N) (k : K i = 29 ∨ K i = 58) : sW K d (N ++ [(50, i, 0)]) := ⟨fun w hw => (List.mem_append.mp hw).elim (a.1 w) (fun hw => by rw [List.mem_singleton.mp hw]; exact sVv_50 k), fun R h' hh hR => by
  rw [List.append_assoc]
  refine a.2.1 _ h' hh ?_
  show okE ((50, i, 0) :: R) (h' + 1)
  rw [okE, if_neg (show ¬ 50 = 7 by decide), if_pos rfl]
  exact ⟨by omega, hR⟩, ajE_app a.2.2 (ajE_one ⟨show ¬ 50 = 7 by decide, show ¬ 50 = 12 by decide⟩)⟩
theorem sW_bin (a : sW K d N) (b : sW K e M) (he : e < d) (k : ¬ pst (K j) = 0) : sW K d (N ++ M ++ [(51, j, 0)]) := ⟨fun w hw => (List.mem_append.mp hw).elim (fun hw => (List.mem_append.mp hw).elim (a.1 w) (b.1 w)) (fun hw => by rw [List.mem_singleton.mp hw]; exact sVv_51 k), fun R h' hh hR => by
  rw [List.append_assoc, List.append_assoc]
  refine a.2.1 _ h' hh (b.2.1 _ (h' + 1) (by omega) ?_)
  show okE ((51, j, 0) :: R) (h' + 1 + 1)
  rw [okE, if_neg (show ¬ 51 = 7 by decide), if_neg (show ¬ 51 = 50 by decide), if_pos rfl, Nat.add_sub_cancel]
  exact ⟨by omega, hR⟩, ajE_app (ajE_app a.2.2 b.2.2) (ajE_one ⟨show ¬ 51 = 7 by decide, show ¬ 51 = 12 by decide⟩)⟩
abbrev swo (K : Nat → Int32) (o : Bool) (d : Nat) (rE : Nat → Nat → gU → gOp) : Prop := ∀ s i L q, rE s i L = some q → ∃ N, q.2 = L ++ N ∧ sEv o N ∧ sW K d N
theorem pW_sW {rE : Nat → Nat → gU → gOp} {th : Nat} (hr : swo K o f rE) : ∀ (n j : Nat) (L N : gU) (q : Nat × gU), sEv o N → sW K (f + 1) N → pW rE K th n j (L ++ N) = some q → ∃ N', q.2 = L ++ N' ∧ sEv o N' ∧ sW K (f + 1) N' := by
  intro n
  induction n with
  | zero => intro j L N q _ _ h; exact absurd h (by simp [pW])
  | succ n ih =>
    intro j L N q hs hN h
    rw [pW] at h
    split at h
    · next c =>
      split at h
      · obtain ⟨z, hz, h2⟩ := Option.bind_eq_some_iff.mp h
        have h2 : pW rE K th n z.1 (z.2 ++ [(51, j, 0)]) = some q := h2
        obtain ⟨M, eM, sM, wM⟩ := hr _ _ _ _ hz
        have e : z.2 ++ [(51, j, 0)] = L ++ (N ++ M ++ [(51, j, 0)]) := by rw [eM]; simp only [List.append_assoc]
        rw [e] at h2
        exact ih _ _ _ _ (sEv_app (sEv_app hs sM) (sEv_one (Or.inr (Or.inl rfl)))) (sW_bin hN wM (Nat.lt_succ_self _) (by omega)) h2
      · exact absurd h (by simp)
    · cases Option.some.inj h; exact ⟨N, rfl, hs, hN⟩
theorem pO_sW {rE : Nat → Nat → gU → gOp} (hr : swo K o f rE) {q : Nat × gU} (h : pO rE K o i L = some q) : ∃ N, q.2 = L ++ N ∧ sEv o N ∧ sW K (f + 1) N := by
  have h1 : 1 ≤ f + 1 := Nat.succ_le_succ (Nat.zero_le _)
  unfold pO at h
  split at h
  · exact absurd h (by simp)
  · split at h
    · next k => cases Option.some.inj h; exact ⟨_, rfl, sEv_one (Or.inr (Or.inr (Or.inl rfl))), sW_leaf (sVv_52 k) ⟨show ¬ 52 = 7 by decide, show ¬ 52 = 12 by decide, show ¬ 52 = 50 by decide, show ¬ 52 = 51 by decide⟩ h1⟩
    · split at h
      · cases Option.some.inj h; exact ⟨_, rfl, sEv_one (Or.inr (Or.inr (Or.inr (Or.inl rfl)))), sW_leaf sVv_53 ⟨show ¬ 53 = 7 by decide, show ¬ 53 = 12 by decide, show ¬ 53 = 50 by decide, show ¬ 53 = 51 by decide⟩ h1⟩
      · split at h
        · obtain ⟨z, hz, h2⟩ := Option.bind_eq_some_iff.mp h
          obtain ⟨N, eN, sN', wN⟩ := hr _ _ _ _ hz
          obtain ⟨-, -, e2⟩ := pt_is h2
          rw [e2]
          exact ⟨N, eN, sN', sW_up wN (Nat.le_succ _)⟩
        · split at h
          · next k1 =>
            split at h
            · next ho =>
              split at h
              · split at h
                · next c =>
                  cases Option.some.inj h
                  exact ⟨_, rfl, sEv_app (N := [_]) (M := [_]) (sEv_one (Or.inr (Or.inr (Or.inr (Or.inr (Or.inr ⟨ho, Or.inr (Or.inl rfl)⟩)))))) (sEv_one (Or.inr (Or.inr (Or.inr (Or.inr (Or.inr ⟨ho, Or.inr (Or.inr rfl)⟩)))))), sW_row k1 c.2.1.1 h1⟩
                · exact absurd h (by simp)
              · cases Option.some.inj h; exact ⟨_, rfl, sEv_one (Or.inr (Or.inr (Or.inr (Or.inr (Or.inr ⟨ho, Or.inl rfl⟩))))), sW_leaf (sVv_nm (Or.inr (Or.inl rfl)) k1) ⟨show ¬ 6 = 7 by decide, show ¬ 6 = 12 by decide, show ¬ 6 = 50 by decide, show ¬ 6 = 51 by decide⟩ h1⟩
            · next ho =>
              cases Option.some.inj h
              exact ⟨_, rfl, sEv_one (Or.inr (Or.inr (Or.inr (Or.inr (Or.inl ⟨by cases o with | false => rfl | true => exact absurd rfl ho, rfl⟩))))), sW_leaf (sVv_nm (Or.inl rfl) k1) ⟨show ¬ 3 = 7 by decide, show ¬ 3 = 12 by decide, show ¬ 3 = 50 by decide, show ¬ 3 = 51 by decide⟩ h1⟩
          · exact absurd h (by simp)
theorem pE_sW : ∀ f : Nat, swo K o f (pE K o f) := by
  intro f
  induction f with
  | zero => intro s i L q h; exact absurd h (by simp [pE])
  | succ f ih =>
    intro s i L q h
    rw [pE] at h
    split at h
    · obtain ⟨z, hz, h2⟩ := Option.bind_eq_some_iff.mp h
      have a : ∃ N, z.2 = L ++ N ∧ sEv o N ∧ sW K (f + 1) N := by
        split at hz
        · next k =>
          split at hz
          · obtain ⟨y, hy, h3⟩ := Option.bind_eq_some_iff.mp hz
            obtain ⟨N, eN, sN', wN⟩ := ih _ _ _ _ hy
            cases Option.some.inj h3
            exact ⟨N ++ [(50, i, 0)], by show y.2 ++ [(50, i, 0)] = _; rw [eN, List.append_assoc], sEv_app sN' (sEv_one (Or.inl rfl)), sW_up (sW_un wN k) (Nat.le_succ _)⟩
          · exact absurd hz (by simp)
        · exact pO_sW ih hz
      obtain ⟨N, eN, sN', wN⟩ := a
      have h2 : pW (pE K o f) K s 701 z.1 z.2 = some q := h2
      rw [eN] at h2
      exact pW_sW ih _ _ _ _ _ sN' wN h2
    · exact absurd h (by simp)
theorem pX_sW {q : Nat × gU} (h : pX K o f i L = some q) : ∃ N, q.2 = L ++ (N ++ [(54, 0, 0)]) ∧ sEv o N ∧ sW K f N := by
  obtain ⟨z, hz, h2⟩ := Option.bind_eq_some_iff.mp h
  obtain ⟨N, eN, hs, hw⟩ := pE_sW f _ _ _ _ hz
  unfold pan at h2
  cases Option.some.inj h2
  exact ⟨N, by show z.2 ++ [(54, 0, 0)] = _; rw [eN, List.append_assoc], hs, hw⟩
theorem sW_ok (h : sW K d N) (hd : d ≤ 40) : okE N 0 := by
  have a := h.2.1 [] 0 (by omega) rfl
  rw [List.append_nil] at a
  exact a
theorem flt_mem : ∀ {N : gU}, still N → ∀ {v : Nat × Nat × Nat}, v ∈ N → fv sN T V E v → flt sN T V N E := by
  intro N
  induction N with
  | nil => intro _ v hv _; cases hv
  | cons w N ih =>
    intro hs v hv hf
    rcases List.mem_cons.mp hv with e | hv
    · rw [e] at hf; exact Or.inl hf
    · refine Or.inr ?_
      rw [exV_still (hs w List.mem_cons_self)]
      exact ih (fun u hu => hs u (List.mem_cons_of_mem _ hu)) hv hf
theorem sEv_st (h : sEv o N) : still N := fun v hv => by
  have := h v hv
  refine ⟨by omega, by omega, by omega⟩
/-- a sum of a thread: well formed, its names known -/
def sOo (sN : Nat → Nat → Bool) (K : Nat → Int32) (E : gV) (o : Option gU) : Prop := ∀ N, o = some N → sEv false N ∧ (∀ v ∈ N, sVv K v) ∧ okE N 0 ∧ ∀ v ∈ N, v.1 = 3 → ∃ p, kfi sN E.1 v.2.1 = some p
theorem sOo_no : sOo sN K E none := fun N h => by cases h
theorem sOo_so (hs : sEv false N) (hw : sW K d N) (hd : d ≤ 40) (nf : ¬ flt sN T V N E) : sOo sN K E (some N) := fun M hM => by
  cases Option.some.inj hM
  refine ⟨hs, hw.1, sW_ok hw hd, fun v hv h3 => ?_⟩
  cases c : kfi sN E.1 v.2.1 with
  | some p => exact ⟨p, rfl⟩
  | none => exact absurd (flt_mem (sEv_st hs) hv (Or.inl ⟨h3, c⟩)) nf
theorem sOo_one (k : K i = 1) (hk : ¬ kfi sN E.1 i = none) : sOo sN K E (some [(3, i, 0)]) := fun M hM => by
  cases Option.some.inj hM
  refine ⟨sEv_one (Or.inr (Or.inr (Or.inr (Or.inr (Or.inl ⟨rfl, rfl⟩))))), fun v hv => by rw [List.mem_singleton.mp hv]; exact sVv_nm (Or.inl rfl) k, ?_, fun v hv _ => ?_⟩
  · rw [okE, if_neg (show ¬ 3 = 7 by decide), if_neg (show ¬ 3 = 50 by decide), if_neg (show ¬ 3 = 51 by decide)]
    exact ⟨by decide, rfl⟩
  · rw [List.mem_singleton.mp hv]
    cases c : kfi sN E.1 i with
    | some p => exact ⟨p, rfl⟩
    | none => exact absurd c hk
end SWL
/-- one step, where E is known -/
def pOk (E : gV) (p : Nat) : Prop := p < E.1.length ∨ (p = E.1.length ∧ E.2.2 < 8)
/-- what belongs where: the second sum, the first, the target -/
def nxL (st : gSt) : Prop := (¬ st.1 = 4 → st.2.2.2.2.2.2.2.2 = none) ∧ (¬ ((1 ≤ st.1 ∧ st.1 ≤ 4) ∨ st.1 = 13 ∨ st.1 = 14 ∨ (16 ≤ st.1 ∧ st.1 ≤ 18)) → st.2.2.2.2.2.2.2.1 = none) ∧ (¬ (st.1 = 0 ∨ (2 ≤ st.1 ∧ st.1 ≤ 4) ∨ st.1 = 16 ∨ st.1 = 17 ∨ st.1 = 20) → st.2.2.2.1 = none)
theorem nxL_of {op tk : Nat} {kn : gK × Nat} {to tn : Option Nat} {fl : Bool} {ix e1 e2 : Option gU} (a : ¬ op = 4 → e2 = none) (b : ¬ ((1 ≤ op ∧ op ≤ 4) ∨ op = 13 ∨ op = 14 ∨ (16 ≤ op ∧ op ≤ 18)) → e1 = none) (c : ¬ (op = 0 ∨ (2 ≤ op ∧ op ≤ 4) ∨ op = 16 ∨ op = 17 ∨ op = 20) → to = none) : nxL (op, tk, kn, to, tn, fl, ix, e1, e2) := ⟨a, b, c⟩
def stLk (sN : Nat → Nat → Bool) (K : Nat → Int32) (E : gV) (st : gSt) : Prop :=
  st.2.2.1 = knw E ∧ (st.1 < 22 ∧ ¬ st.1 = 15) ∧
  ((st.1 = 0 ∨ (2 ≤ st.1 ∧ st.1 ≤ 4) ∨ st.1 = 16) → ∃ p, st.2.2.2.1 = some p ∧ pOk E p) ∧
  (st.1 ≤ 10 → ∃ t, st.2.2.2.2.1 = some t ∧ K t = 1) ∧ (st.1 = 13 → ∃ t, st.2.2.2.2.1 = some t ∧ K t = 2) ∧ (10 < st.1 → ¬ st.1 = 13 → st.2.2.2.2.1 = none) ∧
  (st.1 ≤ 4 → (st.2.2.2.2.2.1 = true ↔ ¬ st.2.2.2.2.2.2.1 = none)) ∧ (5 ≤ st.1 → st.2.2.2.2.2.2.1 = none) ∧
  ((1 ≤ st.1 ∧ st.1 ≤ 4) ∨ st.1 = 13 ∨ st.1 = 14 ∨ (16 ≤ st.1 ∧ st.1 ≤ 18) → ¬ st.2.2.2.2.2.2.2.1 = none) ∧
  (st.1 = 4 → ¬ st.2.2.2.2.2.2.2.2 = none) ∧
  sOo sN K E st.2.2.2.2.2.2.1 ∧ sOo sN K E st.2.2.2.2.2.2.2.1 ∧ sOo sN K E st.2.2.2.2.2.2.2.2 ∧ (19 ≤ st.1 → st.2.2.2.2.2.2.2.1 = none) ∧ nxL st
section STL
variable {K V : Nat → Int32} {sN : Nat → Nat → Bool} {E : gV} {op tk t p : Nat} {to : Option Nat} {fl : Bool} {ix e1 e2 : Option gU} {N : gU}
theorem stLk_x (ho : op ≤ 4) (hp : op = 1 ∨ ∃ p, to = some p ∧ pOk E p) (hk : K t = 1) (hr : fl = true ↔ ¬ ix = none) (h1 : ¬ op = 0 → ¬ e1 = none) (h2 : op = 4 → ¬ e2 = none) (s0 : sOo sN K E ix) (s1 : sOo sN K E e1) (s2 : sOo sN K E e2) (hz : op = 1 → to = none) (hy : op = 0 → e1 = none) (hw : ¬ op = 4 → e2 = none) : stLk sN K E (op, tk, knw E, to, some t, fl, ix, e1, e2) := by
  refine ⟨rfl, ⟨by show op < 22; omega, by show ¬ op = 15; omega⟩, fun c => ?_, fun _ => ⟨t, rfl, hk⟩, fun c => absurd c (by show ¬ op = 13; omega), fun c => absurd c (by show ¬ 10 < op; omega), fun _ => hr, fun c => absurd c (by show ¬ 5 ≤ op; omega), fun c => h1 ?_, h2, s0, s1, s2, fun c => absurd c (by show ¬ 19 ≤ op; omega), nxL_of hw (fun c => hy (by omega)) (fun c => hz (by omega))⟩
  · have c : op = 0 ∨ (2 ≤ op ∧ op ≤ 4) ∨ op = 16 := c
    exact hp.elim (fun z => absurd c (by omega)) id
  · have c : (1 ≤ op ∧ op ≤ 4) ∨ op = 13 ∨ op = 14 ∨ (16 ≤ op ∧ op ≤ 18) := c
    omega
theorem stLk_16 (hp : pOk E p) (s1 : sOo sN K E (some N)) : stLk sN K E (16, tk, knw E, some p, none, false, none, some N, none) := ⟨rfl, ⟨show 16 < 22 by decide, show ¬ 16 = 15 by decide⟩, fun _ => ⟨p, rfl, hp⟩, fun c => absurd c (show ¬ 16 ≤ 10 by decide), fun c => absurd c (show ¬ 16 = 13 by decide), fun _ _ => rfl, fun c => absurd c (show ¬ 16 ≤ 4 by decide), fun _ => rfl, fun _ => Option.some_ne_none _, fun c => absurd c (show ¬ 16 = 4 by decide), sOo_no, s1, sOo_no, fun c => absurd c (show ¬ 19 ≤ 16 by decide), nxL_of (fun _ => rfl) (fun c => absurd (by decide) c) (fun c => absurd (by decide) c)⟩
theorem stLk_p (h : op = 11 ∨ op = 12 ∨ op = 19 ∨ op = 20 ∨ op = 21) (hz : ¬ op = 20 → to = none) : stLk sN K E (op, tk, knw E, to, none, false, none, none, none) := by
  refine ⟨rfl, ⟨by show op < 22; omega, by show ¬ op = 15; omega⟩, fun c => ?_, fun c => absurd c (by show ¬ op ≤ 10; omega), fun c => absurd c (by show ¬ op = 13; omega), fun _ _ => rfl, fun c => absurd c (by show ¬ op ≤ 4; omega), fun _ => rfl, fun c => ?_, fun c => absurd c (by show ¬ op = 4; omega), sOo_no, sOo_no, sOo_no, fun _ => rfl, nxL_of (fun _ => rfl) (fun _ => rfl) (fun c => hz (by omega))⟩
  · have c : op = 0 ∨ (2 ≤ op ∧ op ≤ 4) ∨ op = 16 := c
    omega
  · have c : (1 ≤ op ∧ op ≤ 4) ∨ op = 13 ∨ op = 14 ∨ (16 ≤ op ∧ op ≤ 18) := c
    omega
theorem stLk_w (h : 5 ≤ op ∧ op ≤ 10) (hk : K t = 1) : stLk sN K E (op, tk, knw E, none, some t, fl, none, none, none) := by
  refine ⟨rfl, ⟨by show op < 22; omega, by show ¬ op = 15; omega⟩, fun c => ?_, fun _ => ⟨t, rfl, hk⟩, fun c => absurd c (by show ¬ op = 13; omega), fun c => absurd c (by show ¬ 10 < op; omega), fun c => absurd c (by show ¬ op ≤ 4; omega), fun _ => rfl, fun c => ?_, fun c => absurd c (by show ¬ op = 4; omega), sOo_no, sOo_no, sOo_no, fun _ => rfl, nxL_of (fun _ => rfl) (fun _ => rfl) (fun _ => rfl)⟩
  · have c : op = 0 ∨ (2 ≤ op ∧ op ≤ 4) ∨ op = 16 := c
    omega
  · have c : (1 ≤ op ∧ op ≤ 4) ∨ op = 13 ∨ op = 14 ∨ (16 ≤ op ∧ op ≤ 18) := c
    omega
theorem stLk_s (h : op = 14 ∨ op = 17 ∨ op = 18) (s1 : sOo sN K E (some N)) : stLk sN K E (op, tk, knw E, none, none, false, none, some N, none) := by
  refine ⟨rfl, ⟨by show op < 22; omega, by show ¬ op = 15; omega⟩, fun c => ?_, fun c => absurd c (by show ¬ op ≤ 10; omega), fun c => absurd c (by show ¬ op = 13; omega), fun _ _ => rfl, fun c => absurd c (by show ¬ op ≤ 4; omega), fun _ => rfl, fun _ => Option.some_ne_none _, fun c => absurd c (by show ¬ op = 4; omega), sOo_no, s1, sOo_no, fun c => absurd c (by show ¬ 19 ≤ op; omega), nxL_of (fun _ => rfl) (fun c => absurd (by omega) c) (fun _ => rfl)⟩
  have c : op = 0 ∨ (2 ≤ op ∧ op ≤ 4) ∨ op = 16 := c
  omega
theorem stLk_13 (hk : K t = 2) (s1 : sOo sN K E (some N)) : stLk sN K E (13, tk, knw E, none, some t, false, none, some N, none) := ⟨rfl, ⟨show 13 < 22 by decide, show ¬ 13 = 15 by decide⟩, fun c => absurd c (show ¬ (13 = 0 ∨ (2 ≤ 13 ∧ 13 ≤ 4) ∨ 13 = 16) by decide), fun c => absurd c (show ¬ 13 ≤ 10 by decide), fun _ => ⟨t, rfl, hk⟩, fun _ c => absurd rfl c, fun c => absurd c (show ¬ 13 ≤ 4 by decide), fun _ => rfl, fun _ => Option.some_ne_none _, fun c => absurd c (show ¬ 13 = 4 by decide), sOo_no, s1, sOo_no, fun c => absurd c (show ¬ 19 ≤ 13 by decide), nxL_of (fun _ => rfl) (fun c => absurd (by decide) c) (fun _ => rfl)⟩
/-- a step whose target is set -/
theorem stLk_to {st : gSt} {n : Nat} (h : stLk sN K E st) (ho : st.1 = 17 ∨ st.1 = 20) : stLk sN K E (stS st n) := by
  obtain ⟨h1, h2, h3, h4, h5, h6, h7, h8, h9, h10, h11, h12, h13, h14, h15, h16, h17⟩ := h
  refine ⟨h1, h2, fun c => ?_, h4, h5, h6, h7, h8, h9, h10, h11, h12, h13, h14, h15, h16, fun c => ?_⟩
  · have c : st.1 = 0 ∨ (2 ≤ st.1 ∧ st.1 ≤ 4) ∨ st.1 = 16 := c
    omega
  · have c : ¬ (st.1 = 0 ∨ (2 ≤ st.1 ∧ st.1 ≤ 4) ∨ st.1 = 16 ∨ st.1 = 17 ∨ st.1 = 20) := c
    omega
end STL
end
